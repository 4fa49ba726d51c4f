def fw_dX0_init_0 : List (Nat × Instr × Nat) := [(0, .aload_n 0, 1), (1, .invokespecial 3, 3), (4, .aload_n 0, 1), (5, .iconst (-1), 1), (6, .putfield 9, 3), (9, .aload_n 0, 1), (10, .bipush 30, 2)]
theorem fw_dX0_init_0_c : fchk 0 (cX0_init.data.toList.drop 0) fw_dX0_init_0 = true := by decide +kernel
theorem dX0_init_0 : Eq (decode cX0_init 0) (Except.ok (Instr.aload_n 0, 1)) := fE fw_dX0_init_0_c 0 rfl
theorem dX0_init_1 : Eq (decode cX0_init 1) (Except.ok (Instr.invokespecial 3, 3)) := fE fw_dX0_init_0_c 1 rfl
theorem dX0_init_4 : Eq (decode cX0_init 4) (Except.ok (Instr.aload_n 0, 1)) := fE fw_dX0_init_0_c 2 rfl
theorem dX0_init_5 : Eq (decode cX0_init 5) (Except.ok (Instr.iconst (-1), 1)) := fE fw_dX0_init_0_c 3 rfl
theorem dX0_init_6 : Eq (decode cX0_init 6) (Except.ok (Instr.putfield 9, 3)) := fE fw_dX0_init_0_c 4 rfl
theorem dX0_init_9 : Eq (decode cX0_init 9) (Except.ok (Instr.aload_n 0, 1)) := fE fw_dX0_init_0_c 5 rfl
theorem dX0_init_10 : Eq (decode cX0_init 10) (Except.ok (Instr.bipush 30, 2)) := fE fw_dX0_init_0_c 6 rfl
theorem dX0_init_12 : decode cX0_init 12 = .ok (.newarray .int, 2) := by decide +kernel
def fw_dX0_init_14 : List (Nat × Instr × Nat) := [(14, .putfield 15, 3), (17, .aload_n 0, 1), (18, .bipush 30, 2)]
theorem fw_dX0_init_14_c : fchk 14 (cX0_init.data.toList.drop 14) fw_dX0_init_14 = true := by decide +kernel
theorem dX0_init_14 : Eq (decode cX0_init 14) (Except.ok (Instr.putfield 15, 3)) := fE fw_dX0_init_14_c 0 rfl
theorem dX0_init_17 : Eq (decode cX0_init 17) (Except.ok (Instr.aload_n 0, 1)) := fE fw_dX0_init_14_c 1 rfl
theorem dX0_init_18 : Eq (decode cX0_init 18) (Except.ok (Instr.bipush 30, 2)) := fE fw_dX0_init_14_c 2 rfl
theorem dX0_init_20 : decode cX0_init 20 = .ok (.newarray .long, 2) := by decide +kernel
def fw_dX0_init_22 : List (Nat × Instr × Nat) := [(22, .putfield 19, 3), (25, .aload_n 0, 1), (26, .bipush 74, 2)]
theorem fw_dX0_init_22_c : fchk 22 (cX0_init.data.toList.drop 22) fw_dX0_init_22 = true := by decide +kernel
theorem dX0_init_22 : Eq (decode cX0_init 22) (Except.ok (Instr.putfield 19, 3)) := fE fw_dX0_init_22_c 0 rfl
theorem dX0_init_25 : Eq (decode cX0_init 25) (Except.ok (Instr.aload_n 0, 1)) := fE fw_dX0_init_22_c 1 rfl
theorem dX0_init_26 : Eq (decode cX0_init 26) (Except.ok (Instr.bipush 74, 2)) := fE fw_dX0_init_22_c 2 rfl
theorem dX0_init_28 : decode cX0_init 28 = .ok (.newarray .long, 2) := by decide +kernel
def fw_dX0_init_30 : List (Nat × Instr × Nat) := [(30, .putfield 23, 3), (33, .aload_n 0, 1), (34, .aload_n 1, 1), (35, .putfield 26, 3), (38, .aload_n 0, 1), (39, .aload_n 2, 1), (40, .putfield 30, 3), (43, .aload_n 0, 1), (44, .aload_n 3, 1), (45, .putfield 34, 3), (48, .return_, 1)]
theorem fw_dX0_init_30_c : fchk 30 (cX0_init.data.toList.drop 30) fw_dX0_init_30 = true := by decide +kernel
theorem dX0_init_30 : Eq (decode cX0_init 30) (Except.ok (Instr.putfield 23, 3)) := fE fw_dX0_init_30_c 0 rfl
theorem dX0_init_33 : Eq (decode cX0_init 33) (Except.ok (Instr.aload_n 0, 1)) := fE fw_dX0_init_30_c 1 rfl
theorem dX0_init_34 : Eq (decode cX0_init 34) (Except.ok (Instr.aload_n 1, 1)) := fE fw_dX0_init_30_c 2 rfl
theorem dX0_init_35 : Eq (decode cX0_init 35) (Except.ok (Instr.putfield 26, 3)) := fE fw_dX0_init_30_c 3 rfl
theorem dX0_init_38 : Eq (decode cX0_init 38) (Except.ok (Instr.aload_n 0, 1)) := fE fw_dX0_init_30_c 4 rfl
theorem dX0_init_39 : Eq (decode cX0_init 39) (Except.ok (Instr.aload_n 2, 1)) := fE fw_dX0_init_30_c 5 rfl
theorem dX0_init_40 : Eq (decode cX0_init 40) (Except.ok (Instr.putfield 30, 3)) := fE fw_dX0_init_30_c 6 rfl
theorem dX0_init_43 : Eq (decode cX0_init 43) (Except.ok (Instr.aload_n 0, 1)) := fE fw_dX0_init_30_c 7 rfl
theorem dX0_init_44 : Eq (decode cX0_init 44) (Except.ok (Instr.aload_n 3, 1)) := fE fw_dX0_init_30_c 8 rfl
theorem dX0_init_45 : Eq (decode cX0_init 45) (Except.ok (Instr.putfield 34, 3)) := fE fw_dX0_init_30_c 9 rfl
theorem dX0_init_48 : Eq (decode cX0_init 48) (Except.ok (Instr.return_, 1)) := fE fw_dX0_init_30_c 10 rfl
set_option maxRecDepth 20000 in
theorem gi_wsX0_perform_0 : GoodIn wsX0_perform wsX0_perform_r1 := goodIn_sub (fun w h => List.mem_cons_of_mem _ (List.mem_append_left _ (List.mem_append_left _ (List.mem_append_left _ (List.mem_append_left _ (List.mem_append_left _ h)))))) (by decide +kernel)
set_option maxRecDepth 20000 in
theorem gi_wsX0_perform_1 : GoodIn wsX0_perform wsX0_perform_r2 := goodIn_sub (fun w h => List.mem_cons_of_mem _ (List.mem_append_left _ (List.mem_append_left _ (List.mem_append_left _ (List.mem_append_left _ (List.mem_append_right _ (List.mem_append_left _ h))))))) (by decide +kernel)
set_option maxRecDepth 20000 in
theorem gi_wsX0_perform_2 : GoodIn wsX0_perform wsX0_perform_r3 := goodIn_sub (fun w h => List.mem_cons_of_mem _ (List.mem_append_left _ (List.mem_append_left _ (List.mem_append_left _ (List.mem_append_left _ (List.mem_append_right _ (List.mem_append_right _ (List.mem_append_left _ h)))))))) (by decide +kernel)
set_option maxRecDepth 20000 in
theorem gi_wsX0_perform_3 : GoodIn wsX0_perform wsX0_perform_r4 := goodIn_sub (fun w h => List.mem_cons_of_mem _ (List.mem_append_left _ (List.mem_append_left _ (List.mem_append_left _ (List.mem_append_left _ (List.mem_append_right _ (List.mem_append_right _ (List.mem_append_right _ h)))))))) (by decide +kernel)
set_option maxRecDepth 20000 in
theorem gi_wsX0_perform_4 : GoodIn wsX0_perform wsX00 := goodIn_sub (fun w h => List.mem_cons_of_mem _ (List.mem_append_left _ (List.mem_append_left _ (List.mem_append_left _ (List.mem_append_right _ h))))) (by decide +kernel)
set_option maxRecDepth 20000 in
theorem gi_wsX0_perform_5 : GoodIn wsX0_perform wsX30 := goodIn_sub (fun w h => List.mem_cons_of_mem _ (List.mem_append_left _ (List.mem_append_left _ (List.mem_append_right _ h)))) (by decide +kernel)
set_option maxRecDepth 20000 in
theorem gi_wsX0_perform_6 : GoodIn wsX0_perform wsX50 := goodIn_sub (fun w h => List.mem_cons_of_mem _ (List.mem_append_left _ (List.mem_append_right _ h))) (by decide +kernel)
set_option maxRecDepth 20000 in
theorem gi_wsX0_perform_7 : GoodIn wsX0_perform wsX20 := goodIn_sub (fun w h => List.mem_cons_of_mem _ (List.mem_append_right _ h)) (by decide +kernel)
def bs_wsX0_perform : List (List Cond) := [wsX0_perform_r1, wsX0_perform_r2, wsX0_perform_r3, wsX0_perform_r4, wsX00, wsX30, wsX50, wsX20]
theorem bs_wsX0_perform_in : ∀ b ∈ bs_wsX0_perform, GoodIn wsX0_perform b := List.forall_mem_cons.mpr ⟨gi_wsX0_perform_0, List.forall_mem_cons.mpr ⟨gi_wsX0_perform_1, List.forall_mem_cons.mpr ⟨gi_wsX0_perform_2, List.forall_mem_cons.mpr ⟨gi_wsX0_perform_3, List.forall_mem_cons.mpr ⟨gi_wsX0_perform_4, List.forall_mem_cons.mpr ⟨gi_wsX0_perform_5, List.forall_mem_cons.mpr ⟨gi_wsX0_perform_6, List.forall_mem_cons.mpr ⟨gi_wsX0_perform_7, (fun _ h => absurd h List.not_mem_nil)⟩⟩⟩⟩⟩⟩⟩⟩
set_option maxRecDepth 20000 in
theorem ggX0_perform_X2_forgetOlds : GoodIn wsX0_perform wsX2_forgetOlds := goodIn_k (gi_q bs_wsX0_perform_in _ [(0, 13)] rfl) (goodIn_app (gi_q bs_wsX0_perform_in _ [(0, 14)] rfl) (gi_wsX0_perform_7))
set_option maxRecDepth 20000 in
theorem gX0_perform_X2_forgetOlds : GoodIn wsX0_perform (wsV RX0 38 RX2 yX2_forgetOlds wsX2_forgetOlds) := goodIn_app (gi_q bs_wsX0_perform_in _ [(0, 9), (0, 10), (0, 11), (0, 12)] rfl) ggX0_perform_X2_forgetOlds
set_option maxRecDepth 20000 in
theorem ggX0_perform_X7_slot : GoodIn wsX0_perform wsX7_slot := goodIn_k (gi_q bs_wsX0_perform_in _ [(0, 17)] rfl) (gi_q bs_wsX0_perform_in _ [] rfl)
set_option maxRecDepth 20000 in
theorem gX0_perform_X7_slot_n60 : GoodIn wsX0_perform (wsX7_slot) := ggX0_perform_X7_slot
set_option maxRecDepth 20000 in
theorem ggX0_perform_X0_doTogether : GoodIn wsX0_perform wsX0_doTogether := goodIn_k (gi_q bs_wsX0_perform_in _ [(0, 22)] rfl) (goodIn_app (goodIn_app (goodIn_app (goodIn_app (gi_q bs_wsX0_perform_in _ [(0, 23), (0, 1), (0, 0), (1, 0), (1, 1), (1, 2), (0, 16), (1, 3), (0, 15), (0, 17), (1, 4), (1, 5), (1, 6), (0, 21), (1, 7), (0, 6), (1, 8), (1, 9), (1, 10), (1, 11), (1, 12), (1, 13), (1, 14), (1, 15)] rfl) (goodIn_app (gi_q bs_wsX0_perform_in _ [(1, 16), (1, 17), (1, 18), (1, 19), (1, 20), (1, 21), (1, 22), (1, 23), (2, 0), (2, 1), (2, 2), (2, 3), (2, 4), (2, 5), (2, 6), (2, 7), (2, 8), (2, 9), (2, 10), (0, 12), (2, 11), (2, 12), (2, 13), (2, 14)] rfl) (gi_q bs_wsX0_perform_in _ [(2, 15), (2, 16), (0, 14), (2, 17), (2, 18), (2, 19), (2, 20), (2, 21), (2, 22), (2, 23), (3, 0), (3, 1), (3, 2), (3, 3), (3, 4)] rfl))) (gi_wsX0_perform_4)) (gi_wsX0_perform_6)) (gi_wsX0_perform_7))
set_option maxRecDepth 20000 in
theorem gX0_perform_X0_doTogether : GoodIn wsX0_perform (wsV RX0 64 RX0 yX0_doTogether wsX0_doTogether) := goodIn_app (gi_q bs_wsX0_perform_in _ [(0, 18), (0, 19), (0, 20), (0, 21)] rfl) ggX0_perform_X0_doTogether
set_option maxRecDepth 20000 in
theorem ggX0_perform_J6_bitCount_0f7a4 : GoodIn wsX0_perform wsJ6_bitCount_0f7a4 := goodIn_k (gi_q bs_wsX0_perform_in _ [(3, 8)] rfl) (gi_q bs_wsX0_perform_in _ [(3, 9), (3, 10), (3, 11)] rfl)
set_option maxRecDepth 20000 in
theorem gX0_perform_J6_bitCount_0f7a4 : GoodIn wsX0_perform (va_wsS RX0 67 yJ6_bitCount_0f7a4 wsJ6_bitCount_0f7a4) := goodIn_app (gi_q bs_wsX0_perform_in _ [(3, 5), (3, 6), (3, 7)] rfl) ggX0_perform_J6_bitCount_0f7a4
def fw_dX0_perform_0 : List (Nat × Instr × Nat) := [(0, .aload_n 0, 1), (1, .getfield 26, 3), (4, .invokevirtual 38, 3), (7, .aload_n 0, 1), (8, .iconst (-1), 1), (9, .putfield 9, 3), (12, .aload_n 0, 1), (13, .iconst 0, 1), (14, .putfield 43, 3), (17, .aload_n 0, 1), (18, .iconst 0, 1), (19, .putfield 46, 3), (22, .iload_n 2, 1), (23, .ifCond .eq 15, 3), (26, .aload_n 0, 1), (27, .getfield 34, 3), (30, .getfield 49, 3), (33, .iload_n 1, 1), (34, .iaload, 1), (35, .goto 12, 3)]
theorem fw_dX0_perform_0_c : fchk 0 (cX0_perform.data.toList.drop 0) fw_dX0_perform_0 = true := by decide +kernel
theorem dX0_perform_0 : Eq (decode cX0_perform 0) (Except.ok (Instr.aload_n 0, 1)) := fE fw_dX0_perform_0_c 0 rfl
theorem dX0_perform_1 : Eq (decode cX0_perform 1) (Except.ok (Instr.getfield 26, 3)) := fE fw_dX0_perform_0_c 1 rfl
theorem dX0_perform_4 : Eq (decode cX0_perform 4) (Except.ok (Instr.invokevirtual 38, 3)) := fE fw_dX0_perform_0_c 2 rfl
theorem dX0_perform_7 : Eq (decode cX0_perform 7) (Except.ok (Instr.aload_n 0, 1)) := fE fw_dX0_perform_0_c 3 rfl
theorem dX0_perform_8 : Eq (decode cX0_perform 8) (Except.ok (Instr.iconst (-1), 1)) := fE fw_dX0_perform_0_c 4 rfl
theorem dX0_perform_9 : Eq (decode cX0_perform 9) (Except.ok (Instr.putfield 9, 3)) := fE fw_dX0_perform_0_c 5 rfl
theorem dX0_perform_12 : Eq (decode cX0_perform 12) (Except.ok (Instr.aload_n 0, 1)) := fE fw_dX0_perform_0_c 6 rfl
theorem dX0_perform_13 : Eq (decode cX0_perform 13) (Except.ok (Instr.iconst 0, 1)) := fE fw_dX0_perform_0_c 7 rfl
theorem dX0_perform_14 : Eq (decode cX0_perform 14) (Except.ok (Instr.putfield 43, 3)) := fE fw_dX0_perform_0_c 8 rfl
theorem dX0_perform_17 : Eq (decode cX0_perform 17) (Except.ok (Instr.aload_n 0, 1)) := fE fw_dX0_perform_0_c 9 rfl
theorem dX0_perform_18 : Eq (decode cX0_perform 18) (Except.ok (Instr.iconst 0, 1)) := fE fw_dX0_perform_0_c 10 rfl
theorem dX0_perform_19 : Eq (decode cX0_perform 19) (Except.ok (Instr.putfield 46, 3)) := fE fw_dX0_perform_0_c 11 rfl
theorem dX0_perform_22 : Eq (decode cX0_perform 22) (Except.ok (Instr.iload_n 2, 1)) := fE fw_dX0_perform_0_c 12 rfl
theorem dX0_perform_23 : Eq (decode cX0_perform 23) (Except.ok (Instr.ifCond .eq 15, 3)) := fE fw_dX0_perform_0_c 13 rfl
theorem dX0_perform_26 : Eq (decode cX0_perform 26) (Except.ok (Instr.aload_n 0, 1)) := fE fw_dX0_perform_0_c 14 rfl
theorem dX0_perform_27 : Eq (decode cX0_perform 27) (Except.ok (Instr.getfield 34, 3)) := fE fw_dX0_perform_0_c 15 rfl
theorem dX0_perform_30 : Eq (decode cX0_perform 30) (Except.ok (Instr.getfield 49, 3)) := fE fw_dX0_perform_0_c 16 rfl
theorem dX0_perform_33 : Eq (decode cX0_perform 33) (Except.ok (Instr.iload_n 1, 1)) := fE fw_dX0_perform_0_c 17 rfl
theorem dX0_perform_34 : Eq (decode cX0_perform 34) (Except.ok (Instr.iaload, 1)) := fE fw_dX0_perform_0_c 18 rfl
theorem dX0_perform_35 : Eq (decode cX0_perform 35) (Except.ok (Instr.goto 12, 3)) := fE fw_dX0_perform_0_c 19 rfl
def fw_dX0_perform_38 : List (Nat × Instr × Nat) := [(38, .aload_n 0, 1), (39, .getfield 30, 3), (42, .getfield 54, 3), (45, .iload_n 1, 1), (46, .iaload, 1), (47, .istore_n 3, 1), (48, .iconst 0, 1), (49, .istore 4, 2), (51, .iconst 0, 1), (52, .istore 5, 2), (54, .iload 5, 2), (56, .iload_n 3, 1), (57, .if_icmp .ge 78, 3), (60, .iload 4, 2), (62, .ifCond .ne 73, 3), (65, .iload_n 2, 1), (66, .ifCond .eq 20, 3), (69, .aload_n 0, 1), (70, .getfield 34, 3), (73, .getfield 57, 3)]
theorem fw_dX0_perform_38_c : fchk 38 (cX0_perform.data.toList.drop 38) fw_dX0_perform_38 = true := by decide +kernel
theorem dX0_perform_38 : Eq (decode cX0_perform 38) (Except.ok (Instr.aload_n 0, 1)) := fE fw_dX0_perform_38_c 0 rfl
theorem dX0_perform_39 : Eq (decode cX0_perform 39) (Except.ok (Instr.getfield 30, 3)) := fE fw_dX0_perform_38_c 1 rfl
theorem dX0_perform_42 : Eq (decode cX0_perform 42) (Except.ok (Instr.getfield 54, 3)) := fE fw_dX0_perform_38_c 2 rfl
theorem dX0_perform_45 : Eq (decode cX0_perform 45) (Except.ok (Instr.iload_n 1, 1)) := fE fw_dX0_perform_38_c 3 rfl
theorem dX0_perform_46 : Eq (decode cX0_perform 46) (Except.ok (Instr.iaload, 1)) := fE fw_dX0_perform_38_c 4 rfl
theorem dX0_perform_47 : Eq (decode cX0_perform 47) (Except.ok (Instr.istore_n 3, 1)) := fE fw_dX0_perform_38_c 5 rfl
theorem dX0_perform_48 : Eq (decode cX0_perform 48) (Except.ok (Instr.iconst 0, 1)) := fE fw_dX0_perform_38_c 6 rfl
theorem dX0_perform_49 : Eq (decode cX0_perform 49) (Except.ok (Instr.istore 4, 2)) := fE fw_dX0_perform_38_c 7 rfl
theorem dX0_perform_51 : Eq (decode cX0_perform 51) (Except.ok (Instr.iconst 0, 1)) := fE fw_dX0_perform_38_c 8 rfl
theorem dX0_perform_52 : Eq (decode cX0_perform 52) (Except.ok (Instr.istore 5, 2)) := fE fw_dX0_perform_38_c 9 rfl
theorem dX0_perform_54 : Eq (decode cX0_perform 54) (Except.ok (Instr.iload 5, 2)) := fE fw_dX0_perform_38_c 10 rfl
theorem dX0_perform_56 : Eq (decode cX0_perform 56) (Except.ok (Instr.iload_n 3, 1)) := fE fw_dX0_perform_38_c 11 rfl
theorem dX0_perform_57 : Eq (decode cX0_perform 57) (Except.ok (Instr.if_icmp .ge 78, 3)) := fE fw_dX0_perform_38_c 12 rfl
theorem dX0_perform_60 : Eq (decode cX0_perform 60) (Except.ok (Instr.iload 4, 2)) := fE fw_dX0_perform_38_c 13 rfl
theorem dX0_perform_62 : Eq (decode cX0_perform 62) (Except.ok (Instr.ifCond .ne 73, 3)) := fE fw_dX0_perform_38_c 14 rfl
theorem dX0_perform_65 : Eq (decode cX0_perform 65) (Except.ok (Instr.iload_n 2, 1)) := fE fw_dX0_perform_38_c 15 rfl
theorem dX0_perform_66 : Eq (decode cX0_perform 66) (Except.ok (Instr.ifCond .eq 20, 3)) := fE fw_dX0_perform_38_c 16 rfl
theorem dX0_perform_69 : Eq (decode cX0_perform 69) (Except.ok (Instr.aload_n 0, 1)) := fE fw_dX0_perform_38_c 17 rfl
theorem dX0_perform_70 : Eq (decode cX0_perform 70) (Except.ok (Instr.getfield 34, 3)) := fE fw_dX0_perform_38_c 18 rfl
theorem dX0_perform_73 : Eq (decode cX0_perform 73) (Except.ok (Instr.getfield 57, 3)) := fE fw_dX0_perform_38_c 19 rfl
def fw_dX0_perform_76 : List (Nat × Instr × Nat) := [(76, .iload_n 1, 1), (77, .iload 5, 2), (79, .invokestatic 60, 3), (82, .iaload, 1), (83, .goto 7, 3), (86, .iconst 1, 1), (87, .iload 5, 2), (89, .ishl, 1), (90, .istore 6, 2), (92, .aload_n 0, 1), (93, .iload_n 1, 1), (94, .iload 6, 2), (96, .invokevirtual 64, 3), (99, .istore 4, 2), (101, .aload_n 0, 1), (102, .dup, 1), (103, .getfield 43, 3), (106, .iload 6, 2), (108, .invokestatic 67, 3), (111, .iadd, 1)]
theorem fw_dX0_perform_76_c : fchk 76 (cX0_perform.data.toList.drop 76) fw_dX0_perform_76 = true := by decide +kernel
theorem dX0_perform_76 : Eq (decode cX0_perform 76) (Except.ok (Instr.iload_n 1, 1)) := fE fw_dX0_perform_76_c 0 rfl
theorem dX0_perform_77 : Eq (decode cX0_perform 77) (Except.ok (Instr.iload 5, 2)) := fE fw_dX0_perform_76_c 1 rfl
theorem dX0_perform_79 : Eq (decode cX0_perform 79) (Except.ok (Instr.invokestatic 60, 3)) := fE fw_dX0_perform_76_c 2 rfl
theorem dX0_perform_82 : Eq (decode cX0_perform 82) (Except.ok (Instr.iaload, 1)) := fE fw_dX0_perform_76_c 3 rfl
theorem dX0_perform_83 : Eq (decode cX0_perform 83) (Except.ok (Instr.goto 7, 3)) := fE fw_dX0_perform_76_c 4 rfl
theorem dX0_perform_86 : Eq (decode cX0_perform 86) (Except.ok (Instr.iconst 1, 1)) := fE fw_dX0_perform_76_c 5 rfl
theorem dX0_perform_87 : Eq (decode cX0_perform 87) (Except.ok (Instr.iload 5, 2)) := fE fw_dX0_perform_76_c 6 rfl
theorem dX0_perform_89 : Eq (decode cX0_perform 89) (Except.ok (Instr.ishl, 1)) := fE fw_dX0_perform_76_c 7 rfl
theorem dX0_perform_90 : Eq (decode cX0_perform 90) (Except.ok (Instr.istore 6, 2)) := fE fw_dX0_perform_76_c 8 rfl
theorem dX0_perform_92 : Eq (decode cX0_perform 92) (Except.ok (Instr.aload_n 0, 1)) := fE fw_dX0_perform_76_c 9 rfl
theorem dX0_perform_93 : Eq (decode cX0_perform 93) (Except.ok (Instr.iload_n 1, 1)) := fE fw_dX0_perform_76_c 10 rfl
theorem dX0_perform_94 : Eq (decode cX0_perform 94) (Except.ok (Instr.iload 6, 2)) := fE fw_dX0_perform_76_c 11 rfl
theorem dX0_perform_96 : Eq (decode cX0_perform 96) (Except.ok (Instr.invokevirtual 64, 3)) := fE fw_dX0_perform_76_c 12 rfl
theorem dX0_perform_99 : Eq (decode cX0_perform 99) (Except.ok (Instr.istore 4, 2)) := fE fw_dX0_perform_76_c 13 rfl
theorem dX0_perform_101 : Eq (decode cX0_perform 101) (Except.ok (Instr.aload_n 0, 1)) := fE fw_dX0_perform_76_c 14 rfl
theorem dX0_perform_102 : Eq (decode cX0_perform 102) (Except.ok (Instr.dup, 1)) := fE fw_dX0_perform_76_c 15 rfl
theorem dX0_perform_103 : Eq (decode cX0_perform 103) (Except.ok (Instr.getfield 43, 3)) := fE fw_dX0_perform_76_c 16 rfl
theorem dX0_perform_106 : Eq (decode cX0_perform 106) (Except.ok (Instr.iload 6, 2)) := fE fw_dX0_perform_76_c 17 rfl
theorem dX0_perform_108 : Eq (decode cX0_perform 108) (Except.ok (Instr.invokestatic 67, 3)) := fE fw_dX0_perform_76_c 18 rfl
theorem dX0_perform_111 : Eq (decode cX0_perform 111) (Except.ok (Instr.iadd, 1)) := fE fw_dX0_perform_76_c 19 rfl
def fw_dX0_perform_112 : List (Nat × Instr × Nat) := [(112, .putfield 43, 3), (115, .iload_n 2, 1), (116, .ifCond .eq 13, 3), (119, .aload_n 0, 1), (120, .dup, 1), (121, .getfield 46, 3), (124, .iconst 1, 1), (125, .iadd, 1), (126, .putfield 46, 3)]
theorem fw_dX0_perform_112_c : fchk 112 (cX0_perform.data.toList.drop 112) fw_dX0_perform_112 = true := by decide +kernel
theorem dX0_perform_112 : Eq (decode cX0_perform 112) (Except.ok (Instr.putfield 43, 3)) := fE fw_dX0_perform_112_c 0 rfl
theorem dX0_perform_115 : Eq (decode cX0_perform 115) (Except.ok (Instr.iload_n 2, 1)) := fE fw_dX0_perform_112_c 1 rfl
theorem dX0_perform_116 : Eq (decode cX0_perform 116) (Except.ok (Instr.ifCond .eq 13, 3)) := fE fw_dX0_perform_112_c 2 rfl
theorem dX0_perform_119 : Eq (decode cX0_perform 119) (Except.ok (Instr.aload_n 0, 1)) := fE fw_dX0_perform_112_c 3 rfl
theorem dX0_perform_120 : Eq (decode cX0_perform 120) (Except.ok (Instr.dup, 1)) := fE fw_dX0_perform_112_c 4 rfl
theorem dX0_perform_121 : Eq (decode cX0_perform 121) (Except.ok (Instr.getfield 46, 3)) := fE fw_dX0_perform_112_c 5 rfl
theorem dX0_perform_124 : Eq (decode cX0_perform 124) (Except.ok (Instr.iconst 1, 1)) := fE fw_dX0_perform_112_c 6 rfl
theorem dX0_perform_125 : Eq (decode cX0_perform 125) (Except.ok (Instr.iadd, 1)) := fE fw_dX0_perform_112_c 7 rfl
theorem dX0_perform_126 : Eq (decode cX0_perform 126) (Except.ok (Instr.putfield 46, 3)) := fE fw_dX0_perform_112_c 8 rfl
theorem dX0_perform_129 : decode cX0_perform 129 = .ok (.iinc 5 1, 3) := by decide +kernel
def fw_dX0_perform_132 : List (Nat × Instr × Nat) := [(132, .goto (-78), 3), (135, .iload 4, 2), (137, .ireturn, 1)]
theorem fw_dX0_perform_132_c : fchk 132 (cX0_perform.data.toList.drop 132) fw_dX0_perform_132 = true := by decide +kernel
theorem dX0_perform_132 : Eq (decode cX0_perform 132) (Except.ok (Instr.goto (-78), 3)) := fE fw_dX0_perform_132_c 0 rfl
theorem dX0_perform_135 : Eq (decode cX0_perform 135) (Except.ok (Instr.iload 4, 2)) := fE fw_dX0_perform_132_c 1 rfl
theorem dX0_perform_137 : Eq (decode cX0_perform 137) (Except.ok (Instr.ireturn, 1)) := fE fw_dX0_perform_132_c 2 rfl
set_option maxRecDepth 20000 in
theorem gi_wsX0_endsAlike_0 : GoodIn wsX0_endsAlike wsX0_endsAlike_r1 := goodIn_sub (fun w h => List.mem_cons_of_mem _ (List.mem_append_left _ (List.mem_append_left _ (List.mem_append_left _ (List.mem_append_left _ (List.mem_append_left _ h)))))) (by decide +kernel)
set_option maxRecDepth 20000 in
theorem gi_wsX0_endsAlike_1 : GoodIn wsX0_endsAlike wsX0_endsAlike_r2 := goodIn_sub (fun w h => List.mem_cons_of_mem _ (List.mem_append_left _ (List.mem_append_left _ (List.mem_append_left _ (List.mem_append_left _ (List.mem_append_right _ (List.mem_append_left _ h))))))) (by decide +kernel)
set_option maxRecDepth 20000 in
theorem gi_wsX0_endsAlike_2 : GoodIn wsX0_endsAlike wsX0_endsAlike_r3 := goodIn_sub (fun w h => List.mem_cons_of_mem _ (List.mem_append_left _ (List.mem_append_left _ (List.mem_append_left _ (List.mem_append_left _ (List.mem_append_right _ (List.mem_append_right _ (List.mem_append_left _ h)))))))) (by decide +kernel)
set_option maxRecDepth 20000 in
theorem gi_wsX0_endsAlike_3 : GoodIn wsX0_endsAlike wsX0_endsAlike_r4 := goodIn_sub (fun w h => List.mem_cons_of_mem _ (List.mem_append_left _ (List.mem_append_left _ (List.mem_append_left _ (List.mem_append_left _ (List.mem_append_right _ (List.mem_append_right _ (List.mem_append_right _ (List.mem_append_left _ h))))))))) (by decide +kernel)
set_option maxRecDepth 20000 in
theorem gi_wsX0_endsAlike_4 : GoodIn wsX0_endsAlike wsX0_endsAlike_r5 := goodIn_sub (fun w h => List.mem_cons_of_mem _ (List.mem_append_left _ (List.mem_append_left _ (List.mem_append_left _ (List.mem_append_left _ (List.mem_append_right _ (List.mem_append_right _ (List.mem_append_right _ (List.mem_append_right _ h))))))))) (by decide +kernel)
set_option maxRecDepth 20000 in
theorem gi_wsX0_endsAlike_5 : GoodIn wsX0_endsAlike wsX00 := goodIn_sub (fun w h => List.mem_cons_of_mem _ (List.mem_append_left _ (List.mem_append_left _ (List.mem_append_left _ (List.mem_append_right _ h))))) (by decide +kernel)
set_option maxRecDepth 20000 in
theorem gi_wsX0_endsAlike_6 : GoodIn wsX0_endsAlike wsX20 := goodIn_sub (fun w h => List.mem_cons_of_mem _ (List.mem_append_left _ (List.mem_append_left _ (List.mem_append_right _ h)))) (by decide +kernel)
set_option maxRecDepth 20000 in
theorem gi_wsX0_endsAlike_7 : GoodIn wsX0_endsAlike wsX30 := goodIn_sub (fun w h => List.mem_cons_of_mem _ (List.mem_append_left _ (List.mem_append_right _ h))) (by decide +kernel)
set_option maxRecDepth 20000 in
theorem gi_wsX0_endsAlike_8 : GoodIn wsX0_endsAlike wsX50 := goodIn_sub (fun w h => List.mem_cons_of_mem _ (List.mem_append_right _ h)) (by decide +kernel)
def bs_wsX0_endsAlike : List (List Cond) := [wsX0_endsAlike_r1, wsX0_endsAlike_r2, wsX0_endsAlike_r3, wsX0_endsAlike_r4, wsX0_endsAlike_r5, wsX00, wsX20, wsX30, wsX50]
theorem bs_wsX0_endsAlike_in : ∀ b ∈ bs_wsX0_endsAlike, GoodIn wsX0_endsAlike b := List.forall_mem_cons.mpr ⟨gi_wsX0_endsAlike_0, List.forall_mem_cons.mpr ⟨gi_wsX0_endsAlike_1, List.forall_mem_cons.mpr ⟨gi_wsX0_endsAlike_2, List.forall_mem_cons.mpr ⟨gi_wsX0_endsAlike_3, List.forall_mem_cons.mpr ⟨gi_wsX0_endsAlike_4, List.forall_mem_cons.mpr ⟨gi_wsX0_endsAlike_5, List.forall_mem_cons.mpr ⟨gi_wsX0_endsAlike_6, List.forall_mem_cons.mpr ⟨gi_wsX0_endsAlike_7, List.forall_mem_cons.mpr ⟨gi_wsX0_endsAlike_8, (fun _ h => absurd h List.not_mem_nil)⟩⟩⟩⟩⟩⟩⟩⟩⟩
set_option maxRecDepth 20000 in
theorem ggX0_endsAlike_X0_perform : GoodIn wsX0_endsAlike wsX0_perform := goodIn_k (gi_q bs_wsX0_endsAlike_in _ [(0, 11)] rfl) (goodIn_app (goodIn_app (goodIn_app (goodIn_app (goodIn_app (gi_q bs_wsX0_endsAlike_in _ [(0, 0), (0, 12), (0, 13), (0, 14), (0, 15), (0, 16), (0, 17), (0, 18), (0, 19), (0, 20), (0, 21), (0, 22), (0, 23), (1, 0), (1, 1), (1, 2), (1, 3), (1, 4), (1, 5), (1, 6), (1, 7), (0, 10), (1, 8), (1, 9)] rfl) (goodIn_app (gi_q bs_wsX0_endsAlike_in _ [(1, 10), (1, 11), (1, 12), (1, 13), (1, 14), (1, 15), (1, 16), (1, 17), (1, 18), (1, 19), (1, 20), (1, 21), (0, 1), (1, 22), (1, 23), (2, 0), (2, 1), (2, 2), (2, 3), (2, 4), (2, 5), (2, 6), (2, 7), (2, 8)] rfl) (goodIn_app (gi_q bs_wsX0_endsAlike_in _ [(2, 9), (2, 10), (2, 11), (2, 12), (2, 13), (2, 14), (2, 15), (2, 16), (2, 17), (2, 18), (2, 19), (2, 20), (2, 21), (2, 22), (2, 23), (3, 0), (3, 1), (3, 2), (3, 3), (3, 4), (3, 5), (3, 6), (3, 7), (3, 8)] rfl) (gi_q bs_wsX0_endsAlike_in _ [(3, 9), (3, 10), (3, 11), (3, 12), (3, 13), (3, 14), (3, 15), (3, 16), (3, 17), (3, 18), (3, 19), (3, 20)] rfl)))) (gi_wsX0_endsAlike_5)) (gi_wsX0_endsAlike_7)) (gi_wsX0_endsAlike_8)) (gi_wsX0_endsAlike_6))
set_option maxRecDepth 20000 in
theorem gX0_endsAlike_X0_perform : GoodIn wsX0_endsAlike (wsV RX0 73 RX0 yX0_perform wsX0_perform) := goodIn_app (gi_q bs_wsX0_endsAlike_in _ [(0, 7), (0, 8), (0, 9), (0, 10)] rfl) ggX0_endsAlike_X0_perform
set_option maxRecDepth 20000 in
theorem ggX0_endsAlike_X2_goBack : GoodIn wsX0_endsAlike wsX2_goBack := goodIn_k (gi_q bs_wsX0_endsAlike_in _ [(3, 1)] rfl) (goodIn_app (gi_q bs_wsX0_endsAlike_in _ [(1, 1), (3, 2), (3, 3), (3, 4)] rfl) (gi_wsX0_endsAlike_6))
set_option maxRecDepth 20000 in
theorem gX0_endsAlike_X2_goBack : GoodIn wsX0_endsAlike (wsV RX0 86 RX2 yX2_goBack wsX2_goBack) := goodIn_app (gi_q bs_wsX0_endsAlike_in _ [(2, 22), (2, 23), (3, 0), (0, 23)] rfl) ggX0_endsAlike_X2_goBack
set_option maxRecDepth 20000 in
theorem ggX0_endsAlike_X0_isOtherEnd : GoodIn wsX0_endsAlike wsX0_isOtherEnd := goodIn_k (gi_q bs_wsX0_endsAlike_in _ [(4, 0)] rfl) (goodIn_app (goodIn_app (gi_q bs_wsX0_endsAlike_in _ [(0, 0), (0, 1), (0, 2)] rfl) (gi_wsX0_endsAlike_5)) (gi_wsX0_endsAlike_6))
set_option maxRecDepth 20000 in
theorem gX0_endsAlike_X0_isOtherEnd : GoodIn wsX0_endsAlike (wsV RX0 89 RX0 yX0_isOtherEnd wsX0_isOtherEnd) := goodIn_app (gi_q bs_wsX0_endsAlike_in _ [(3, 21), (3, 22), (3, 23), (0, 10)] rfl) ggX0_endsAlike_X0_isOtherEnd
def fw_dX0_endsAlike_0 : List (Nat × Instr × Nat) := [(0, .aload_n 0, 1), (1, .iload_n 1, 1), (2, .iconst 1, 1), (3, .invokevirtual 73, 3), (6, .istore_n 2, 1), (7, .aload_n 0, 1), (8, .getfield 26, 3), (11, .getfield 77, 3), (14, .iconst 0, 1), (15, .aload_n 0, 1), (16, .getfield 23, 3), (19, .iconst 0, 1), (20, .bipush 74, 2), (22, .invokestatic 80, 3), (25, .aload_n 0, 1), (26, .getfield 26, 3), (29, .invokevirtual 86, 3), (32, .aload_n 0, 1), (33, .iload_n 1, 1), (34, .iconst 0, 1)]
theorem fw_dX0_endsAlike_0_c : fchk 0 (cX0_endsAlike.data.toList.drop 0) fw_dX0_endsAlike_0 = true := by decide +kernel
theorem dX0_endsAlike_0 : Eq (decode cX0_endsAlike 0) (Except.ok (Instr.aload_n 0, 1)) := fE fw_dX0_endsAlike_0_c 0 rfl
theorem dX0_endsAlike_1 : Eq (decode cX0_endsAlike 1) (Except.ok (Instr.iload_n 1, 1)) := fE fw_dX0_endsAlike_0_c 1 rfl
theorem dX0_endsAlike_2 : Eq (decode cX0_endsAlike 2) (Except.ok (Instr.iconst 1, 1)) := fE fw_dX0_endsAlike_0_c 2 rfl
theorem dX0_endsAlike_3 : Eq (decode cX0_endsAlike 3) (Except.ok (Instr.invokevirtual 73, 3)) := fE fw_dX0_endsAlike_0_c 3 rfl
theorem dX0_endsAlike_6 : Eq (decode cX0_endsAlike 6) (Except.ok (Instr.istore_n 2, 1)) := fE fw_dX0_endsAlike_0_c 4 rfl
theorem dX0_endsAlike_7 : Eq (decode cX0_endsAlike 7) (Except.ok (Instr.aload_n 0, 1)) := fE fw_dX0_endsAlike_0_c 5 rfl
theorem dX0_endsAlike_8 : Eq (decode cX0_endsAlike 8) (Except.ok (Instr.getfield 26, 3)) := fE fw_dX0_endsAlike_0_c 6 rfl
theorem dX0_endsAlike_11 : Eq (decode cX0_endsAlike 11) (Except.ok (Instr.getfield 77, 3)) := fE fw_dX0_endsAlike_0_c 7 rfl
theorem dX0_endsAlike_14 : Eq (decode cX0_endsAlike 14) (Except.ok (Instr.iconst 0, 1)) := fE fw_dX0_endsAlike_0_c 8 rfl
theorem dX0_endsAlike_15 : Eq (decode cX0_endsAlike 15) (Except.ok (Instr.aload_n 0, 1)) := fE fw_dX0_endsAlike_0_c 9 rfl
theorem dX0_endsAlike_16 : Eq (decode cX0_endsAlike 16) (Except.ok (Instr.getfield 23, 3)) := fE fw_dX0_endsAlike_0_c 10 rfl
theorem dX0_endsAlike_19 : Eq (decode cX0_endsAlike 19) (Except.ok (Instr.iconst 0, 1)) := fE fw_dX0_endsAlike_0_c 11 rfl
theorem dX0_endsAlike_20 : Eq (decode cX0_endsAlike 20) (Except.ok (Instr.bipush 74, 2)) := fE fw_dX0_endsAlike_0_c 12 rfl
theorem dX0_endsAlike_22 : Eq (decode cX0_endsAlike 22) (Except.ok (Instr.invokestatic 80, 3)) := fE fw_dX0_endsAlike_0_c 13 rfl
theorem dX0_endsAlike_25 : Eq (decode cX0_endsAlike 25) (Except.ok (Instr.aload_n 0, 1)) := fE fw_dX0_endsAlike_0_c 14 rfl
theorem dX0_endsAlike_26 : Eq (decode cX0_endsAlike 26) (Except.ok (Instr.getfield 26, 3)) := fE fw_dX0_endsAlike_0_c 15 rfl
theorem dX0_endsAlike_29 : Eq (decode cX0_endsAlike 29) (Except.ok (Instr.invokevirtual 86, 3)) := fE fw_dX0_endsAlike_0_c 16 rfl
theorem dX0_endsAlike_32 : Eq (decode cX0_endsAlike 32) (Except.ok (Instr.aload_n 0, 1)) := fE fw_dX0_endsAlike_0_c 17 rfl
theorem dX0_endsAlike_33 : Eq (decode cX0_endsAlike 33) (Except.ok (Instr.iload_n 1, 1)) := fE fw_dX0_endsAlike_0_c 18 rfl
theorem dX0_endsAlike_34 : Eq (decode cX0_endsAlike 34) (Except.ok (Instr.iconst 0, 1)) := fE fw_dX0_endsAlike_0_c 19 rfl
def fw_dX0_endsAlike_35 : List (Nat × Instr × Nat) := [(35, .invokevirtual 73, 3), (38, .iload_n 2, 1), (39, .if_icmp .ne 14, 3), (42, .aload_n 0, 1), (43, .invokevirtual 89, 3), (46, .ifCond .eq 7, 3), (49, .iconst 1, 1), (50, .goto 4, 3), (53, .iconst 0, 1), (54, .istore_n 3, 1), (55, .aload_n 0, 1), (56, .getfield 26, 3), (59, .invokevirtual 86, 3), (62, .iload_n 3, 1), (63, .ireturn, 1)]
theorem fw_dX0_endsAlike_35_c : fchk 35 (cX0_endsAlike.data.toList.drop 35) fw_dX0_endsAlike_35 = true := by decide +kernel
theorem dX0_endsAlike_35 : Eq (decode cX0_endsAlike 35) (Except.ok (Instr.invokevirtual 73, 3)) := fE fw_dX0_endsAlike_35_c 0 rfl
theorem dX0_endsAlike_38 : Eq (decode cX0_endsAlike 38) (Except.ok (Instr.iload_n 2, 1)) := fE fw_dX0_endsAlike_35_c 1 rfl
theorem dX0_endsAlike_39 : Eq (decode cX0_endsAlike 39) (Except.ok (Instr.if_icmp .ne 14, 3)) := fE fw_dX0_endsAlike_35_c 2 rfl
theorem dX0_endsAlike_42 : Eq (decode cX0_endsAlike 42) (Except.ok (Instr.aload_n 0, 1)) := fE fw_dX0_endsAlike_35_c 3 rfl
theorem dX0_endsAlike_43 : Eq (decode cX0_endsAlike 43) (Except.ok (Instr.invokevirtual 89, 3)) := fE fw_dX0_endsAlike_35_c 4 rfl
theorem dX0_endsAlike_46 : Eq (decode cX0_endsAlike 46) (Except.ok (Instr.ifCond .eq 7, 3)) := fE fw_dX0_endsAlike_35_c 5 rfl
theorem dX0_endsAlike_49 : Eq (decode cX0_endsAlike 49) (Except.ok (Instr.iconst 1, 1)) := fE fw_dX0_endsAlike_35_c 6 rfl
theorem dX0_endsAlike_50 : Eq (decode cX0_endsAlike 50) (Except.ok (Instr.goto 4, 3)) := fE fw_dX0_endsAlike_35_c 7 rfl
theorem dX0_endsAlike_53 : Eq (decode cX0_endsAlike 53) (Except.ok (Instr.iconst 0, 1)) := fE fw_dX0_endsAlike_35_c 8 rfl
theorem dX0_endsAlike_54 : Eq (decode cX0_endsAlike 54) (Except.ok (Instr.istore_n 3, 1)) := fE fw_dX0_endsAlike_35_c 9 rfl
theorem dX0_endsAlike_55 : Eq (decode cX0_endsAlike 55) (Except.ok (Instr.aload_n 0, 1)) := fE fw_dX0_endsAlike_35_c 10 rfl
theorem dX0_endsAlike_56 : Eq (decode cX0_endsAlike 56) (Except.ok (Instr.getfield 26, 3)) := fE fw_dX0_endsAlike_35_c 11 rfl
theorem dX0_endsAlike_59 : Eq (decode cX0_endsAlike 59) (Except.ok (Instr.invokevirtual 86, 3)) := fE fw_dX0_endsAlike_35_c 12 rfl
theorem dX0_endsAlike_62 : Eq (decode cX0_endsAlike 62) (Except.ok (Instr.iload_n 3, 1)) := fE fw_dX0_endsAlike_35_c 13 rfl
theorem dX0_endsAlike_63 : Eq (decode cX0_endsAlike 63) (Except.ok (Instr.ireturn, 1)) := fE fw_dX0_endsAlike_35_c 14 rfl
def fw_dX0_isOtherEnd_0 : List (Nat × Instr × Nat) := [(0, .iconst 0, 1), (1, .istore_n 1, 1), (2, .iload_n 1, 1), (3, .bipush 74, 2), (5, .if_icmp .ge 30, 3), (8, .aload_n 0, 1), (9, .getfield 26, 3), (12, .getfield 77, 3), (15, .iload_n 1, 1), (16, .laload, 1), (17, .aload_n 0, 1), (18, .getfield 23, 3), (21, .iload_n 1, 1), (22, .laload, 1), (23, .lcmp, 1), (24, .ifCond .eq 5, 3), (27, .iconst 0, 1), (28, .ireturn, 1)]
theorem fw_dX0_isOtherEnd_0_c : fchk 0 (cX0_isOtherEnd.data.toList.drop 0) fw_dX0_isOtherEnd_0 = true := by decide +kernel
theorem dX0_isOtherEnd_0 : Eq (decode cX0_isOtherEnd 0) (Except.ok (Instr.iconst 0, 1)) := fE fw_dX0_isOtherEnd_0_c 0 rfl
theorem dX0_isOtherEnd_1 : Eq (decode cX0_isOtherEnd 1) (Except.ok (Instr.istore_n 1, 1)) := fE fw_dX0_isOtherEnd_0_c 1 rfl
theorem dX0_isOtherEnd_2 : Eq (decode cX0_isOtherEnd 2) (Except.ok (Instr.iload_n 1, 1)) := fE fw_dX0_isOtherEnd_0_c 2 rfl
theorem dX0_isOtherEnd_3 : Eq (decode cX0_isOtherEnd 3) (Except.ok (Instr.bipush 74, 2)) := fE fw_dX0_isOtherEnd_0_c 3 rfl
theorem dX0_isOtherEnd_5 : Eq (decode cX0_isOtherEnd 5) (Except.ok (Instr.if_icmp .ge 30, 3)) := fE fw_dX0_isOtherEnd_0_c 4 rfl
theorem dX0_isOtherEnd_8 : Eq (decode cX0_isOtherEnd 8) (Except.ok (Instr.aload_n 0, 1)) := fE fw_dX0_isOtherEnd_0_c 5 rfl
theorem dX0_isOtherEnd_9 : Eq (decode cX0_isOtherEnd 9) (Except.ok (Instr.getfield 26, 3)) := fE fw_dX0_isOtherEnd_0_c 6 rfl
theorem dX0_isOtherEnd_12 : Eq (decode cX0_isOtherEnd 12) (Except.ok (Instr.getfield 77, 3)) := fE fw_dX0_isOtherEnd_0_c 7 rfl
theorem dX0_isOtherEnd_15 : Eq (decode cX0_isOtherEnd 15) (Except.ok (Instr.iload_n 1, 1)) := fE fw_dX0_isOtherEnd_0_c 8 rfl
theorem dX0_isOtherEnd_16 : Eq (decode cX0_isOtherEnd 16) (Except.ok (Instr.laload, 1)) := fE fw_dX0_isOtherEnd_0_c 9 rfl
theorem dX0_isOtherEnd_17 : Eq (decode cX0_isOtherEnd 17) (Except.ok (Instr.aload_n 0, 1)) := fE fw_dX0_isOtherEnd_0_c 10 rfl
theorem dX0_isOtherEnd_18 : Eq (decode cX0_isOtherEnd 18) (Except.ok (Instr.getfield 23, 3)) := fE fw_dX0_isOtherEnd_0_c 11 rfl
theorem dX0_isOtherEnd_21 : Eq (decode cX0_isOtherEnd 21) (Except.ok (Instr.iload_n 1, 1)) := fE fw_dX0_isOtherEnd_0_c 12 rfl
theorem dX0_isOtherEnd_22 : Eq (decode cX0_isOtherEnd 22) (Except.ok (Instr.laload, 1)) := fE fw_dX0_isOtherEnd_0_c 13 rfl
theorem dX0_isOtherEnd_23 : Eq (decode cX0_isOtherEnd 23) (Except.ok (Instr.lcmp, 1)) := fE fw_dX0_isOtherEnd_0_c 14 rfl
theorem dX0_isOtherEnd_24 : Eq (decode cX0_isOtherEnd 24) (Except.ok (Instr.ifCond .eq 5, 3)) := fE fw_dX0_isOtherEnd_0_c 15 rfl
theorem dX0_isOtherEnd_27 : Eq (decode cX0_isOtherEnd 27) (Except.ok (Instr.iconst 0, 1)) := fE fw_dX0_isOtherEnd_0_c 16 rfl
theorem dX0_isOtherEnd_28 : Eq (decode cX0_isOtherEnd 28) (Except.ok (Instr.ireturn, 1)) := fE fw_dX0_isOtherEnd_0_c 17 rfl
theorem dX0_isOtherEnd_29 : decode cX0_isOtherEnd 29 = .ok (.iinc 1 1, 3) := by decide +kernel
def fw_dX0_isOtherEnd_32 : List (Nat × Instr × Nat) := [(32, .goto (-30), 3), (35, .iconst 1, 1), (36, .ireturn, 1)]
theorem fw_dX0_isOtherEnd_32_c : fchk 32 (cX0_isOtherEnd.data.toList.drop 32) fw_dX0_isOtherEnd_32 = true := by decide +kernel
theorem dX0_isOtherEnd_32 : Eq (decode cX0_isOtherEnd 32) (Except.ok (Instr.goto (-30), 3)) := fE fw_dX0_isOtherEnd_32_c 0 rfl
theorem dX0_isOtherEnd_35 : Eq (decode cX0_isOtherEnd 35) (Except.ok (Instr.iconst 1, 1)) := fE fw_dX0_isOtherEnd_32_c 1 rfl
theorem dX0_isOtherEnd_36 : Eq (decode cX0_isOtherEnd 36) (Except.ok (Instr.ireturn, 1)) := fE fw_dX0_isOtherEnd_32_c 2 rfl
set_option maxRecDepth 20000 in
theorem gi_wsX0_doTogether_0 : GoodIn wsX0_doTogether wsX0_doTogether_r1 := goodIn_sub (fun w h => List.mem_cons_of_mem _ (List.mem_append_left _ (List.mem_append_left _ (List.mem_append_left _ (List.mem_append_left _ h))))) (by decide +kernel)
set_option maxRecDepth 20000 in
theorem gi_wsX0_doTogether_1 : GoodIn wsX0_doTogether wsX0_doTogether_r2 := goodIn_sub (fun w h => List.mem_cons_of_mem _ (List.mem_append_left _ (List.mem_append_left _ (List.mem_append_left _ (List.mem_append_right _ (List.mem_append_left _ h)))))) (by decide +kernel)
set_option maxRecDepth 20000 in
theorem gi_wsX0_doTogether_2 : GoodIn wsX0_doTogether wsX0_doTogether_r3 := goodIn_sub (fun w h => List.mem_cons_of_mem _ (List.mem_append_left _ (List.mem_append_left _ (List.mem_append_left _ (List.mem_append_right _ (List.mem_append_right _ h)))))) (by decide +kernel)
set_option maxRecDepth 20000 in
theorem gi_wsX0_doTogether_3 : GoodIn wsX0_doTogether wsX00 := goodIn_sub (fun w h => List.mem_cons_of_mem _ (List.mem_append_left _ (List.mem_append_left _ (List.mem_append_right _ h)))) (by decide +kernel)
set_option maxRecDepth 20000 in
theorem gi_wsX0_doTogether_4 : GoodIn wsX0_doTogether wsX50 := goodIn_sub (fun w h => List.mem_cons_of_mem _ (List.mem_append_left _ (List.mem_append_right _ h))) (by decide +kernel)
set_option maxRecDepth 20000 in
theorem gi_wsX0_doTogether_5 : GoodIn wsX0_doTogether wsX20 := goodIn_sub (fun w h => List.mem_cons_of_mem _ (List.mem_append_right _ h)) (by decide +kernel)
def bs_wsX0_doTogether : List (List Cond) := [wsX0_doTogether_r1, wsX0_doTogether_r2, wsX0_doTogether_r3, wsX00, wsX50, wsX20]
theorem bs_wsX0_doTogether_in : ∀ b ∈ bs_wsX0_doTogether, GoodIn wsX0_doTogether b := List.forall_mem_cons.mpr ⟨gi_wsX0_doTogether_0, List.forall_mem_cons.mpr ⟨gi_wsX0_doTogether_1, List.forall_mem_cons.mpr ⟨gi_wsX0_doTogether_2, List.forall_mem_cons.mpr ⟨gi_wsX0_doTogether_3, List.forall_mem_cons.mpr ⟨gi_wsX0_doTogether_4, List.forall_mem_cons.mpr ⟨gi_wsX0_doTogether_5, (fun _ h => absurd h List.not_mem_nil)⟩⟩⟩⟩⟩⟩
set_option maxRecDepth 20000 in
theorem ggX0_doTogether_X7_isIn : GoodIn wsX0_doTogether wsX7_isIn := goodIn_k (gi_q bs_wsX0_doTogether_in _ [(0, 7)] rfl) (gi_q bs_wsX0_doTogether_in _ [] rfl)
set_option maxRecDepth 20000 in
theorem gX0_doTogether_X7_isIn_n96 : GoodIn wsX0_doTogether (wsX7_isIn) := ggX0_doTogether_X7_isIn
set_option maxRecDepth 20000 in
theorem ggX0_doTogether_X7_slot : GoodIn wsX0_doTogether wsX7_slot := goodIn_k (gi_q bs_wsX0_doTogether_in _ [(0, 9)] rfl) (gi_q bs_wsX0_doTogether_in _ [] rfl)
set_option maxRecDepth 20000 in
theorem gX0_doTogether_X7_slot_n60 : GoodIn wsX0_doTogether (wsX7_slot) := ggX0_doTogether_X7_slot
set_option maxRecDepth 20000 in
theorem ggX0_doTogether_X0_take : GoodIn wsX0_doTogether wsX0_take := goodIn_k (gi_q bs_wsX0_doTogether_in _ [(0, 14)] rfl) (goodIn_app (goodIn_app (goodIn_app (goodIn_app (gi_q bs_wsX0_doTogether_in _ [(0, 15), (0, 16), (0, 17), (0, 18), (0, 19), (0, 2), (0, 20), (0, 21), (0, 22), (0, 23), (0, 13), (1, 0), (0, 0), (0, 3), (0, 4), (1, 1), (1, 2), (1, 3), (1, 4), (1, 5), (0, 6), (1, 6), (1, 7), (1, 8)] rfl) (gi_q bs_wsX0_doTogether_in _ [(1, 9), (1, 10), (1, 11), (1, 12), (1, 13), (1, 14), (1, 15), (1, 16), (1, 17), (1, 18), (1, 19), (1, 20), (1, 21)] rfl)) (gi_wsX0_doTogether_3)) (gi_wsX0_doTogether_4)) (gi_wsX0_doTogether_5))
set_option maxRecDepth 20000 in
theorem gX0_doTogether_X0_take : GoodIn wsX0_doTogether (wsV RX0 100 RX0 yX0_take wsX0_take) := goodIn_app (gi_q bs_wsX0_doTogether_in _ [(0, 10), (0, 11), (0, 12), (0, 13)] rfl) ggX0_doTogether_X0_take
set_option maxRecDepth 20000 in
theorem ggX0_doTogether_X2_goBack : GoodIn wsX0_doTogether wsX2_goBack := goodIn_k (gi_q bs_wsX0_doTogether_in _ [(2, 1)] rfl) (goodIn_app (gi_q bs_wsX0_doTogether_in _ [(2, 2), (2, 3), (2, 4), (2, 5)] rfl) (gi_wsX0_doTogether_5))
set_option maxRecDepth 20000 in
theorem gX0_doTogether_X2_goBack : GoodIn wsX0_doTogether (wsV RX0 86 RX2 yX2_goBack wsX2_goBack) := goodIn_app (gi_q bs_wsX0_doTogether_in _ [(1, 22), (1, 23), (2, 0), (1, 19)] rfl) ggX0_doTogether_X2_goBack
set_option maxRecDepth 20000 in
theorem ggX0_doTogether_X2_putAndRemember : GoodIn wsX0_doTogether wsX2_putAndRemember := goodIn_k (gi_q bs_wsX0_doTogether_in _ [(2, 9)] rfl) (goodIn_app (gi_q bs_wsX0_doTogether_in _ [(2, 2), (2, 4), (2, 5), (2, 3), (2, 10), (2, 11), (2, 12), (1, 19), (2, 13), (2, 14), (1, 17), (1, 18), (1, 20), (1, 21)] rfl) (gi_wsX0_doTogether_5))
set_option maxRecDepth 20000 in
theorem gX0_doTogether_X2_putAndRemember : GoodIn wsX0_doTogether (wsV RX0 103 RX2 yX2_putAndRemember wsX2_putAndRemember) := goodIn_app (gi_q bs_wsX0_doTogether_in _ [(2, 6), (2, 7), (2, 8), (1, 19)] rfl) ggX0_doTogether_X2_putAndRemember
def fw_dX0_doTogether_0 : List (Nat × Instr × Nat) := [(0, .aload_n 0, 1), (1, .iconst 0, 1), (2, .putfield 93, 3), (5, .iconst 0, 1), (6, .istore_n 3, 1), (7, .iconst 0, 1), (8, .istore 4, 2), (10, .iload 4, 2), (12, .bipush 10, 2), (14, .if_icmp .ge 64, 3), (17, .iload_n 2, 1), (18, .iload 4, 2), (20, .invokestatic 96, 3), (23, .ifCond .eq 49, 3), (26, .aload_n 0, 1), (27, .iload_n 1, 1), (28, .iload 4, 2), (30, .invokestatic 60, 3), (33, .invokevirtual 100, 3), (36, .istore 5, 2)]
theorem fw_dX0_doTogether_0_c : fchk 0 (cX0_doTogether.data.toList.drop 0) fw_dX0_doTogether_0 = true := by decide +kernel
theorem dX0_doTogether_0 : Eq (decode cX0_doTogether 0) (Except.ok (Instr.aload_n 0, 1)) := fE fw_dX0_doTogether_0_c 0 rfl
theorem dX0_doTogether_1 : Eq (decode cX0_doTogether 1) (Except.ok (Instr.iconst 0, 1)) := fE fw_dX0_doTogether_0_c 1 rfl
theorem dX0_doTogether_2 : Eq (decode cX0_doTogether 2) (Except.ok (Instr.putfield 93, 3)) := fE fw_dX0_doTogether_0_c 2 rfl
theorem dX0_doTogether_5 : Eq (decode cX0_doTogether 5) (Except.ok (Instr.iconst 0, 1)) := fE fw_dX0_doTogether_0_c 3 rfl
theorem dX0_doTogether_6 : Eq (decode cX0_doTogether 6) (Except.ok (Instr.istore_n 3, 1)) := fE fw_dX0_doTogether_0_c 4 rfl
theorem dX0_doTogether_7 : Eq (decode cX0_doTogether 7) (Except.ok (Instr.iconst 0, 1)) := fE fw_dX0_doTogether_0_c 5 rfl
theorem dX0_doTogether_8 : Eq (decode cX0_doTogether 8) (Except.ok (Instr.istore 4, 2)) := fE fw_dX0_doTogether_0_c 6 rfl
theorem dX0_doTogether_10 : Eq (decode cX0_doTogether 10) (Except.ok (Instr.iload 4, 2)) := fE fw_dX0_doTogether_0_c 7 rfl
theorem dX0_doTogether_12 : Eq (decode cX0_doTogether 12) (Except.ok (Instr.bipush 10, 2)) := fE fw_dX0_doTogether_0_c 8 rfl
theorem dX0_doTogether_14 : Eq (decode cX0_doTogether 14) (Except.ok (Instr.if_icmp .ge 64, 3)) := fE fw_dX0_doTogether_0_c 9 rfl
theorem dX0_doTogether_17 : Eq (decode cX0_doTogether 17) (Except.ok (Instr.iload_n 2, 1)) := fE fw_dX0_doTogether_0_c 10 rfl
theorem dX0_doTogether_18 : Eq (decode cX0_doTogether 18) (Except.ok (Instr.iload 4, 2)) := fE fw_dX0_doTogether_0_c 11 rfl
theorem dX0_doTogether_20 : Eq (decode cX0_doTogether 20) (Except.ok (Instr.invokestatic 96, 3)) := fE fw_dX0_doTogether_0_c 12 rfl
theorem dX0_doTogether_23 : Eq (decode cX0_doTogether 23) (Except.ok (Instr.ifCond .eq 49, 3)) := fE fw_dX0_doTogether_0_c 13 rfl
theorem dX0_doTogether_26 : Eq (decode cX0_doTogether 26) (Except.ok (Instr.aload_n 0, 1)) := fE fw_dX0_doTogether_0_c 14 rfl
theorem dX0_doTogether_27 : Eq (decode cX0_doTogether 27) (Except.ok (Instr.iload_n 1, 1)) := fE fw_dX0_doTogether_0_c 15 rfl
theorem dX0_doTogether_28 : Eq (decode cX0_doTogether 28) (Except.ok (Instr.iload 4, 2)) := fE fw_dX0_doTogether_0_c 16 rfl
theorem dX0_doTogether_30 : Eq (decode cX0_doTogether 30) (Except.ok (Instr.invokestatic 60, 3)) := fE fw_dX0_doTogether_0_c 17 rfl
theorem dX0_doTogether_33 : Eq (decode cX0_doTogether 33) (Except.ok (Instr.invokevirtual 100, 3)) := fE fw_dX0_doTogether_0_c 18 rfl
theorem dX0_doTogether_36 : Eq (decode cX0_doTogether 36) (Except.ok (Instr.istore 5, 2)) := fE fw_dX0_doTogether_0_c 19 rfl
def fw_dX0_doTogether_38 : List (Nat × Instr × Nat) := [(38, .iload_n 3, 1), (39, .iload 5, 2), (41, .iconst 1, 1), (42, .if_icmp .ne 7, 3), (45, .iconst 1, 1), (46, .goto 4, 3), (49, .iconst 0, 1), (50, .ior, 1), (51, .istore_n 3, 1), (52, .iload 5, 2), (54, .iconst 2, 1), (55, .if_icmp .ne 17, 3), (58, .aload_n 0, 1), (59, .getfield 9, 3), (62, .iconst (-1), 1), (63, .if_icmp .ne 9, 3), (66, .aload_n 0, 1), (67, .iload 4, 2), (69, .putfield 9, 3)]
theorem fw_dX0_doTogether_38_c : fchk 38 (cX0_doTogether.data.toList.drop 38) fw_dX0_doTogether_38 = true := by decide +kernel
theorem dX0_doTogether_38 : Eq (decode cX0_doTogether 38) (Except.ok (Instr.iload_n 3, 1)) := fE fw_dX0_doTogether_38_c 0 rfl
theorem dX0_doTogether_39 : Eq (decode cX0_doTogether 39) (Except.ok (Instr.iload 5, 2)) := fE fw_dX0_doTogether_38_c 1 rfl
theorem dX0_doTogether_41 : Eq (decode cX0_doTogether 41) (Except.ok (Instr.iconst 1, 1)) := fE fw_dX0_doTogether_38_c 2 rfl
theorem dX0_doTogether_42 : Eq (decode cX0_doTogether 42) (Except.ok (Instr.if_icmp .ne 7, 3)) := fE fw_dX0_doTogether_38_c 3 rfl
theorem dX0_doTogether_45 : Eq (decode cX0_doTogether 45) (Except.ok (Instr.iconst 1, 1)) := fE fw_dX0_doTogether_38_c 4 rfl
theorem dX0_doTogether_46 : Eq (decode cX0_doTogether 46) (Except.ok (Instr.goto 4, 3)) := fE fw_dX0_doTogether_38_c 5 rfl
theorem dX0_doTogether_49 : Eq (decode cX0_doTogether 49) (Except.ok (Instr.iconst 0, 1)) := fE fw_dX0_doTogether_38_c 6 rfl
theorem dX0_doTogether_50 : Eq (decode cX0_doTogether 50) (Except.ok (Instr.ior, 1)) := fE fw_dX0_doTogether_38_c 7 rfl
theorem dX0_doTogether_51 : Eq (decode cX0_doTogether 51) (Except.ok (Instr.istore_n 3, 1)) := fE fw_dX0_doTogether_38_c 8 rfl
theorem dX0_doTogether_52 : Eq (decode cX0_doTogether 52) (Except.ok (Instr.iload 5, 2)) := fE fw_dX0_doTogether_38_c 9 rfl
theorem dX0_doTogether_54 : Eq (decode cX0_doTogether 54) (Except.ok (Instr.iconst 2, 1)) := fE fw_dX0_doTogether_38_c 10 rfl
theorem dX0_doTogether_55 : Eq (decode cX0_doTogether 55) (Except.ok (Instr.if_icmp .ne 17, 3)) := fE fw_dX0_doTogether_38_c 11 rfl
theorem dX0_doTogether_58 : Eq (decode cX0_doTogether 58) (Except.ok (Instr.aload_n 0, 1)) := fE fw_dX0_doTogether_38_c 12 rfl
theorem dX0_doTogether_59 : Eq (decode cX0_doTogether 59) (Except.ok (Instr.getfield 9, 3)) := fE fw_dX0_doTogether_38_c 13 rfl
theorem dX0_doTogether_62 : Eq (decode cX0_doTogether 62) (Except.ok (Instr.iconst (-1), 1)) := fE fw_dX0_doTogether_38_c 14 rfl
theorem dX0_doTogether_63 : Eq (decode cX0_doTogether 63) (Except.ok (Instr.if_icmp .ne 9, 3)) := fE fw_dX0_doTogether_38_c 15 rfl
theorem dX0_doTogether_66 : Eq (decode cX0_doTogether 66) (Except.ok (Instr.aload_n 0, 1)) := fE fw_dX0_doTogether_38_c 16 rfl
theorem dX0_doTogether_67 : Eq (decode cX0_doTogether 67) (Except.ok (Instr.iload 4, 2)) := fE fw_dX0_doTogether_38_c 17 rfl
theorem dX0_doTogether_69 : Eq (decode cX0_doTogether 69) (Except.ok (Instr.putfield 9, 3)) := fE fw_dX0_doTogether_38_c 18 rfl
theorem dX0_doTogether_72 : decode cX0_doTogether 72 = .ok (.iinc 4 1, 3) := by decide +kernel
def fw_dX0_doTogether_75 : List (Nat × Instr × Nat) := [(75, .goto (-65), 3), (78, .aload_n 0, 1), (79, .getfield 9, 3), (82, .iconst (-1), 1), (83, .if_icmp .eq 12, 3), (86, .aload_n 0, 1), (87, .getfield 26, 3), (90, .invokevirtual 86, 3), (93, .iconst 2, 1), (94, .ireturn, 1), (95, .iconst 0, 1), (96, .istore 4, 2), (98, .iload 4, 2), (100, .aload_n 0, 1), (101, .getfield 93, 3), (104, .if_icmp .ge 30, 3), (107, .aload_n 0, 1), (108, .getfield 26, 3), (111, .aload_n 0, 1), (112, .getfield 15, 3)]
theorem fw_dX0_doTogether_75_c : fchk 75 (cX0_doTogether.data.toList.drop 75) fw_dX0_doTogether_75 = true := by decide +kernel
theorem dX0_doTogether_75 : Eq (decode cX0_doTogether 75) (Except.ok (Instr.goto (-65), 3)) := fE fw_dX0_doTogether_75_c 0 rfl
theorem dX0_doTogether_78 : Eq (decode cX0_doTogether 78) (Except.ok (Instr.aload_n 0, 1)) := fE fw_dX0_doTogether_75_c 1 rfl
theorem dX0_doTogether_79 : Eq (decode cX0_doTogether 79) (Except.ok (Instr.getfield 9, 3)) := fE fw_dX0_doTogether_75_c 2 rfl
theorem dX0_doTogether_82 : Eq (decode cX0_doTogether 82) (Except.ok (Instr.iconst (-1), 1)) := fE fw_dX0_doTogether_75_c 3 rfl
theorem dX0_doTogether_83 : Eq (decode cX0_doTogether 83) (Except.ok (Instr.if_icmp .eq 12, 3)) := fE fw_dX0_doTogether_75_c 4 rfl
theorem dX0_doTogether_86 : Eq (decode cX0_doTogether 86) (Except.ok (Instr.aload_n 0, 1)) := fE fw_dX0_doTogether_75_c 5 rfl
theorem dX0_doTogether_87 : Eq (decode cX0_doTogether 87) (Except.ok (Instr.getfield 26, 3)) := fE fw_dX0_doTogether_75_c 6 rfl
theorem dX0_doTogether_90 : Eq (decode cX0_doTogether 90) (Except.ok (Instr.invokevirtual 86, 3)) := fE fw_dX0_doTogether_75_c 7 rfl
theorem dX0_doTogether_93 : Eq (decode cX0_doTogether 93) (Except.ok (Instr.iconst 2, 1)) := fE fw_dX0_doTogether_75_c 8 rfl
theorem dX0_doTogether_94 : Eq (decode cX0_doTogether 94) (Except.ok (Instr.ireturn, 1)) := fE fw_dX0_doTogether_75_c 9 rfl
theorem dX0_doTogether_95 : Eq (decode cX0_doTogether 95) (Except.ok (Instr.iconst 0, 1)) := fE fw_dX0_doTogether_75_c 10 rfl
theorem dX0_doTogether_96 : Eq (decode cX0_doTogether 96) (Except.ok (Instr.istore 4, 2)) := fE fw_dX0_doTogether_75_c 11 rfl
theorem dX0_doTogether_98 : Eq (decode cX0_doTogether 98) (Except.ok (Instr.iload 4, 2)) := fE fw_dX0_doTogether_75_c 12 rfl
theorem dX0_doTogether_100 : Eq (decode cX0_doTogether 100) (Except.ok (Instr.aload_n 0, 1)) := fE fw_dX0_doTogether_75_c 13 rfl
theorem dX0_doTogether_101 : Eq (decode cX0_doTogether 101) (Except.ok (Instr.getfield 93, 3)) := fE fw_dX0_doTogether_75_c 14 rfl
theorem dX0_doTogether_104 : Eq (decode cX0_doTogether 104) (Except.ok (Instr.if_icmp .ge 30, 3)) := fE fw_dX0_doTogether_75_c 15 rfl
theorem dX0_doTogether_107 : Eq (decode cX0_doTogether 107) (Except.ok (Instr.aload_n 0, 1)) := fE fw_dX0_doTogether_75_c 16 rfl
theorem dX0_doTogether_108 : Eq (decode cX0_doTogether 108) (Except.ok (Instr.getfield 26, 3)) := fE fw_dX0_doTogether_75_c 17 rfl
theorem dX0_doTogether_111 : Eq (decode cX0_doTogether 111) (Except.ok (Instr.aload_n 0, 1)) := fE fw_dX0_doTogether_75_c 18 rfl
theorem dX0_doTogether_112 : Eq (decode cX0_doTogether 112) (Except.ok (Instr.getfield 15, 3)) := fE fw_dX0_doTogether_75_c 19 rfl
def fw_dX0_doTogether_115 : List (Nat × Instr × Nat) := [(115, .iload 4, 2), (117, .iaload, 1), (118, .aload_n 0, 1), (119, .getfield 19, 3), (122, .iload 4, 2), (124, .laload, 1), (125, .invokevirtual 103, 3)]
theorem fw_dX0_doTogether_115_c : fchk 115 (cX0_doTogether.data.toList.drop 115) fw_dX0_doTogether_115 = true := by decide +kernel
theorem dX0_doTogether_115 : Eq (decode cX0_doTogether 115) (Except.ok (Instr.iload 4, 2)) := fE fw_dX0_doTogether_115_c 0 rfl
theorem dX0_doTogether_117 : Eq (decode cX0_doTogether 117) (Except.ok (Instr.iaload, 1)) := fE fw_dX0_doTogether_115_c 1 rfl
theorem dX0_doTogether_118 : Eq (decode cX0_doTogether 118) (Except.ok (Instr.aload_n 0, 1)) := fE fw_dX0_doTogether_115_c 2 rfl
theorem dX0_doTogether_119 : Eq (decode cX0_doTogether 119) (Except.ok (Instr.getfield 19, 3)) := fE fw_dX0_doTogether_115_c 3 rfl
theorem dX0_doTogether_122 : Eq (decode cX0_doTogether 122) (Except.ok (Instr.iload 4, 2)) := fE fw_dX0_doTogether_115_c 4 rfl
theorem dX0_doTogether_124 : Eq (decode cX0_doTogether 124) (Except.ok (Instr.laload, 1)) := fE fw_dX0_doTogether_115_c 5 rfl
theorem dX0_doTogether_125 : Eq (decode cX0_doTogether 125) (Except.ok (Instr.invokevirtual 103, 3)) := fE fw_dX0_doTogether_115_c 6 rfl
theorem dX0_doTogether_128 : decode cX0_doTogether 128 = .ok (.iinc 4 1, 3) := by decide +kernel
def fw_dX0_doTogether_131 : List (Nat × Instr × Nat) := [(131, .goto (-33), 3), (134, .iload_n 3, 1), (135, .ifCond .eq 7, 3), (138, .iconst 1, 1), (139, .goto 4, 3), (142, .iconst 0, 1), (143, .ireturn, 1)]
theorem fw_dX0_doTogether_131_c : fchk 131 (cX0_doTogether.data.toList.drop 131) fw_dX0_doTogether_131 = true := by decide +kernel
theorem dX0_doTogether_131 : Eq (decode cX0_doTogether 131) (Except.ok (Instr.goto (-33), 3)) := fE fw_dX0_doTogether_131_c 0 rfl
theorem dX0_doTogether_134 : Eq (decode cX0_doTogether 134) (Except.ok (Instr.iload_n 3, 1)) := fE fw_dX0_doTogether_131_c 1 rfl
theorem dX0_doTogether_135 : Eq (decode cX0_doTogether 135) (Except.ok (Instr.ifCond .eq 7, 3)) := fE fw_dX0_doTogether_131_c 2 rfl
theorem dX0_doTogether_138 : Eq (decode cX0_doTogether 138) (Except.ok (Instr.iconst 1, 1)) := fE fw_dX0_doTogether_131_c 3 rfl
theorem dX0_doTogether_139 : Eq (decode cX0_doTogether 139) (Except.ok (Instr.goto 4, 3)) := fE fw_dX0_doTogether_131_c 4 rfl
theorem dX0_doTogether_142 : Eq (decode cX0_doTogether 142) (Except.ok (Instr.iconst 0, 1)) := fE fw_dX0_doTogether_131_c 5 rfl
theorem dX0_doTogether_143 : Eq (decode cX0_doTogether 143) (Except.ok (Instr.ireturn, 1)) := fE fw_dX0_doTogether_131_c 6 rfl
set_option maxRecDepth 20000 in
theorem gi_wsX0_take_0 : GoodIn wsX0_take wsX0_take_r1 := goodIn_sub (fun w h => List.mem_cons_of_mem _ (List.mem_append_left _ (List.mem_append_left _ (List.mem_append_left _ (List.mem_append_left _ h))))) (by decide +kernel)
set_option maxRecDepth 20000 in
theorem gi_wsX0_take_1 : GoodIn wsX0_take wsX0_take_r2 := goodIn_sub (fun w h => List.mem_cons_of_mem _ (List.mem_append_left _ (List.mem_append_left _ (List.mem_append_left _ (List.mem_append_right _ h))))) (by decide +kernel)
set_option maxRecDepth 20000 in
theorem gi_wsX0_take_2 : GoodIn wsX0_take wsX00 := goodIn_sub (fun w h => List.mem_cons_of_mem _ (List.mem_append_left _ (List.mem_append_left _ (List.mem_append_right _ h)))) (by decide +kernel)
set_option maxRecDepth 20000 in
theorem gi_wsX0_take_3 : GoodIn wsX0_take wsX50 := goodIn_sub (fun w h => List.mem_cons_of_mem _ (List.mem_append_left _ (List.mem_append_right _ h))) (by decide +kernel)
set_option maxRecDepth 20000 in
theorem gi_wsX0_take_4 : GoodIn wsX0_take wsX20 := goodIn_sub (fun w h => List.mem_cons_of_mem _ (List.mem_append_right _ h)) (by decide +kernel)
def bs_wsX0_take : List (List Cond) := [wsX0_take_r1, wsX0_take_r2, wsX00, wsX50, wsX20]
theorem bs_wsX0_take_in : ∀ b ∈ bs_wsX0_take, GoodIn wsX0_take b := List.forall_mem_cons.mpr ⟨gi_wsX0_take_0, List.forall_mem_cons.mpr ⟨gi_wsX0_take_1, List.forall_mem_cons.mpr ⟨gi_wsX0_take_2, List.forall_mem_cons.mpr ⟨gi_wsX0_take_3, List.forall_mem_cons.mpr ⟨gi_wsX0_take_4, (fun _ h => absurd h List.not_mem_nil)⟩⟩⟩⟩⟩
set_option maxRecDepth 20000 in
theorem ggX0_take_X0_putLater : GoodIn wsX0_take wsX0_putLater := goodIn_k (gi_q bs_wsX0_take_in _ [(0, 11)] rfl) (goodIn_app (gi_q bs_wsX0_take_in _ [(0, 12), (0, 13), (0, 14)] rfl) (gi_wsX0_take_2))
set_option maxRecDepth 20000 in
theorem gX0_take_X0_putLater : GoodIn wsX0_take (wsV RX0 119 RX0 yX0_putLater wsX0_putLater) := goodIn_app (gi_q bs_wsX0_take_in _ [(0, 7), (0, 8), (0, 9), (0, 10)] rfl) ggX0_take_X0_putLater
set_option maxRecDepth 20000 in
theorem ggX0_take_X0_fetch : GoodIn wsX0_take wsX0_fetch := goodIn_k (gi_q bs_wsX0_take_in _ [(0, 18)] rfl) (goodIn_app (goodIn_app (gi_q bs_wsX0_take_in _ [(0, 5), (0, 6), (0, 19), (0, 20), (0, 21), (0, 22), (0, 7), (0, 8), (0, 9), (0, 10), (0, 11), (0, 12), (0, 13), (0, 14)] rfl) (gi_wsX0_take_2)) (gi_wsX0_take_4))
set_option maxRecDepth 20000 in
theorem gX0_take_X0_fetch : GoodIn wsX0_take (wsV RX0 122 RX0 yX0_fetch wsX0_fetch) := goodIn_app (gi_q bs_wsX0_take_in _ [(0, 15), (0, 16), (0, 17), (0, 10)] rfl) ggX0_take_X0_fetch
set_option maxRecDepth 20000 in
theorem ggX0_take_X0_keep : GoodIn wsX0_take wsX0_keep := goodIn_k (gi_q bs_wsX0_take_in _ [(1, 2)] rfl) (goodIn_app (gi_q bs_wsX0_take_in _ [(0, 19), (0, 20), (0, 21), (0, 22), (0, 7), (0, 8), (0, 9), (0, 10), (0, 11), (0, 12), (0, 13), (0, 14)] rfl) (gi_wsX0_take_2))
set_option maxRecDepth 20000 in
theorem gX0_take_X0_keep : GoodIn wsX0_take (wsV RX0 126 RX0 yX0_keep wsX0_keep) := goodIn_app (gi_q bs_wsX0_take_in _ [(0, 23), (1, 0), (1, 1), (0, 10)] rfl) ggX0_take_X0_keep
set_option maxRecDepth 20000 in
theorem ggX0_take_X0_work : GoodIn wsX0_take wsX0_work := goodIn_k (gi_q bs_wsX0_take_in _ [(1, 6)] rfl) (goodIn_app (goodIn_app (gi_q bs_wsX0_take_in _ [(0, 5), (1, 7), (1, 8), (1, 9), (1, 10), (1, 11), (1, 12), (0, 7), (0, 8), (0, 9), (0, 10), (0, 11), (0, 12), (0, 13), (0, 14)] rfl) (gi_wsX0_take_2)) (gi_wsX0_take_4))
set_option maxRecDepth 20000 in
theorem gX0_take_X0_work : GoodIn wsX0_take (wsV RX0 130 RX0 yX0_work wsX0_work) := goodIn_app (gi_q bs_wsX0_take_in _ [(1, 3), (1, 4), (1, 5), (0, 10)] rfl) ggX0_take_X0_work
def fw_dX0_take_0 : List (Nat × Instr × Nat) := [(0, .aload_n 0, 1), (1, .getfield 30, 3), (4, .getfield 107, 3), (7, .iload_n 1, 1), (8, .iaload, 1), (9, .istore_n 2, 1), (10, .aload_n 0, 1), (11, .getfield 30, 3), (14, .getfield 110, 3), (17, .iload_n 1, 1), (18, .iaload, 1), (19, .istore_n 3, 1), (20, .aload_n 0, 1), (21, .getfield 30, 3), (24, .getfield 113, 3), (27, .iload_n 1, 1), (28, .iaload, 1), (29, .istore 4, 2), (31, .aload_n 0, 1), (32, .getfield 30, 3)]
theorem fw_dX0_take_0_c : fchk 0 (cX0_take.data.toList.drop 0) fw_dX0_take_0 = true := by decide +kernel
theorem dX0_take_0 : Eq (decode cX0_take 0) (Except.ok (Instr.aload_n 0, 1)) := fE fw_dX0_take_0_c 0 rfl
theorem dX0_take_1 : Eq (decode cX0_take 1) (Except.ok (Instr.getfield 30, 3)) := fE fw_dX0_take_0_c 1 rfl
theorem dX0_take_4 : Eq (decode cX0_take 4) (Except.ok (Instr.getfield 107, 3)) := fE fw_dX0_take_0_c 2 rfl
theorem dX0_take_7 : Eq (decode cX0_take 7) (Except.ok (Instr.iload_n 1, 1)) := fE fw_dX0_take_0_c 3 rfl
theorem dX0_take_8 : Eq (decode cX0_take 8) (Except.ok (Instr.iaload, 1)) := fE fw_dX0_take_0_c 4 rfl
theorem dX0_take_9 : Eq (decode cX0_take 9) (Except.ok (Instr.istore_n 2, 1)) := fE fw_dX0_take_0_c 5 rfl
theorem dX0_take_10 : Eq (decode cX0_take 10) (Except.ok (Instr.aload_n 0, 1)) := fE fw_dX0_take_0_c 6 rfl
theorem dX0_take_11 : Eq (decode cX0_take 11) (Except.ok (Instr.getfield 30, 3)) := fE fw_dX0_take_0_c 7 rfl
theorem dX0_take_14 : Eq (decode cX0_take 14) (Except.ok (Instr.getfield 110, 3)) := fE fw_dX0_take_0_c 8 rfl
theorem dX0_take_17 : Eq (decode cX0_take 17) (Except.ok (Instr.iload_n 1, 1)) := fE fw_dX0_take_0_c 9 rfl
theorem dX0_take_18 : Eq (decode cX0_take 18) (Except.ok (Instr.iaload, 1)) := fE fw_dX0_take_0_c 10 rfl
theorem dX0_take_19 : Eq (decode cX0_take 19) (Except.ok (Instr.istore_n 3, 1)) := fE fw_dX0_take_0_c 11 rfl
theorem dX0_take_20 : Eq (decode cX0_take 20) (Except.ok (Instr.aload_n 0, 1)) := fE fw_dX0_take_0_c 12 rfl
theorem dX0_take_21 : Eq (decode cX0_take 21) (Except.ok (Instr.getfield 30, 3)) := fE fw_dX0_take_0_c 13 rfl
theorem dX0_take_24 : Eq (decode cX0_take 24) (Except.ok (Instr.getfield 113, 3)) := fE fw_dX0_take_0_c 14 rfl
theorem dX0_take_27 : Eq (decode cX0_take 27) (Except.ok (Instr.iload_n 1, 1)) := fE fw_dX0_take_0_c 15 rfl
theorem dX0_take_28 : Eq (decode cX0_take 28) (Except.ok (Instr.iaload, 1)) := fE fw_dX0_take_0_c 16 rfl
theorem dX0_take_29 : Eq (decode cX0_take 29) (Except.ok (Instr.istore 4, 2)) := fE fw_dX0_take_0_c 17 rfl
theorem dX0_take_31 : Eq (decode cX0_take 31) (Except.ok (Instr.aload_n 0, 1)) := fE fw_dX0_take_0_c 18 rfl
theorem dX0_take_32 : Eq (decode cX0_take 32) (Except.ok (Instr.getfield 30, 3)) := fE fw_dX0_take_0_c 19 rfl
def fw_dX0_take_35 : List (Nat × Instr × Nat) := [(35, .getfield 116, 3), (38, .iload_n 1, 1), (39, .iaload, 1)]
theorem fw_dX0_take_35_c : fchk 35 (cX0_take.data.toList.drop 35) fw_dX0_take_35 = true := by decide +kernel
theorem dX0_take_35 : Eq (decode cX0_take 35) (Except.ok (Instr.getfield 116, 3)) := fE fw_dX0_take_35_c 0 rfl
theorem dX0_take_38 : Eq (decode cX0_take 38) (Except.ok (Instr.iload_n 1, 1)) := fE fw_dX0_take_35_c 1 rfl
theorem dX0_take_39 : Eq (decode cX0_take 39) (Except.ok (Instr.iaload, 1)) := fE fw_dX0_take_35_c 2 rfl
theorem dX0_take_40 : decode cX0_take 40 = .ok (.tableswitch 214 0 10 #[60, 69, 214, 214, 214, 214, 85, 125, 140, 164, 189], 60) := by decide +kernel
def fw_dX0_take_100 : List (Nat × Instr × Nat) := [(100, .aload_n 0, 1), (101, .iload_n 2, 1), (102, .iload_n 3, 1), (103, .i2l, 1), (104, .invokevirtual 119, 3), (107, .iconst 0, 1), (108, .ireturn, 1), (109, .aload_n 0, 1), (110, .iload_n 2, 1), (111, .aload_n 0, 1), (112, .getfield 26, 3), (115, .getfield 77, 3), (118, .iload_n 3, 1), (119, .laload, 1), (120, .invokevirtual 119, 3), (123, .iconst 0, 1), (124, .ireturn, 1), (125, .aload_n 0, 1), (126, .iload_n 2, 1), (127, .iload 4, 2)]
theorem fw_dX0_take_100_c : fchk 100 (cX0_take.data.toList.drop 100) fw_dX0_take_100 = true := by decide +kernel
theorem dX0_take_100 : Eq (decode cX0_take 100) (Except.ok (Instr.aload_n 0, 1)) := fE fw_dX0_take_100_c 0 rfl
theorem dX0_take_101 : Eq (decode cX0_take 101) (Except.ok (Instr.iload_n 2, 1)) := fE fw_dX0_take_100_c 1 rfl
theorem dX0_take_102 : Eq (decode cX0_take 102) (Except.ok (Instr.iload_n 3, 1)) := fE fw_dX0_take_100_c 2 rfl
theorem dX0_take_103 : Eq (decode cX0_take 103) (Except.ok (Instr.i2l, 1)) := fE fw_dX0_take_100_c 3 rfl
theorem dX0_take_104 : Eq (decode cX0_take 104) (Except.ok (Instr.invokevirtual 119, 3)) := fE fw_dX0_take_100_c 4 rfl
theorem dX0_take_107 : Eq (decode cX0_take 107) (Except.ok (Instr.iconst 0, 1)) := fE fw_dX0_take_100_c 5 rfl
theorem dX0_take_108 : Eq (decode cX0_take 108) (Except.ok (Instr.ireturn, 1)) := fE fw_dX0_take_100_c 6 rfl
theorem dX0_take_109 : Eq (decode cX0_take 109) (Except.ok (Instr.aload_n 0, 1)) := fE fw_dX0_take_100_c 7 rfl
theorem dX0_take_110 : Eq (decode cX0_take 110) (Except.ok (Instr.iload_n 2, 1)) := fE fw_dX0_take_100_c 8 rfl
theorem dX0_take_111 : Eq (decode cX0_take 111) (Except.ok (Instr.aload_n 0, 1)) := fE fw_dX0_take_100_c 9 rfl
theorem dX0_take_112 : Eq (decode cX0_take 112) (Except.ok (Instr.getfield 26, 3)) := fE fw_dX0_take_100_c 10 rfl
theorem dX0_take_115 : Eq (decode cX0_take 115) (Except.ok (Instr.getfield 77, 3)) := fE fw_dX0_take_100_c 11 rfl
theorem dX0_take_118 : Eq (decode cX0_take 118) (Except.ok (Instr.iload_n 3, 1)) := fE fw_dX0_take_100_c 12 rfl
theorem dX0_take_119 : Eq (decode cX0_take 119) (Except.ok (Instr.laload, 1)) := fE fw_dX0_take_100_c 13 rfl
theorem dX0_take_120 : Eq (decode cX0_take 120) (Except.ok (Instr.invokevirtual 119, 3)) := fE fw_dX0_take_100_c 14 rfl
theorem dX0_take_123 : Eq (decode cX0_take 123) (Except.ok (Instr.iconst 0, 1)) := fE fw_dX0_take_100_c 15 rfl
theorem dX0_take_124 : Eq (decode cX0_take 124) (Except.ok (Instr.ireturn, 1)) := fE fw_dX0_take_100_c 16 rfl
theorem dX0_take_125 : Eq (decode cX0_take 125) (Except.ok (Instr.aload_n 0, 1)) := fE fw_dX0_take_100_c 17 rfl
theorem dX0_take_126 : Eq (decode cX0_take 126) (Except.ok (Instr.iload_n 2, 1)) := fE fw_dX0_take_100_c 18 rfl
theorem dX0_take_127 : Eq (decode cX0_take 127) (Except.ok (Instr.iload 4, 2)) := fE fw_dX0_take_100_c 19 rfl
def fw_dX0_take_129 : List (Nat × Instr × Nat) := [(129, .ifCond .ge 19, 3), (132, .aload_n 0, 1), (133, .getfield 26, 3), (136, .getfield 77, 3), (139, .iload_n 3, 1), (140, .laload, 1), (141, .iload 4, 2), (143, .ineg, 1), (144, .lshr, 1), (145, .goto 15, 3), (148, .aload_n 0, 1), (149, .getfield 26, 3), (152, .getfield 77, 3), (155, .iload_n 3, 1), (156, .laload, 1), (157, .iload 4, 2), (159, .lshl, 1), (160, .invokevirtual 119, 3), (163, .iconst 0, 1), (164, .ireturn, 1)]
theorem fw_dX0_take_129_c : fchk 129 (cX0_take.data.toList.drop 129) fw_dX0_take_129 = true := by decide +kernel
theorem dX0_take_129 : Eq (decode cX0_take 129) (Except.ok (Instr.ifCond .ge 19, 3)) := fE fw_dX0_take_129_c 0 rfl
theorem dX0_take_132 : Eq (decode cX0_take 132) (Except.ok (Instr.aload_n 0, 1)) := fE fw_dX0_take_129_c 1 rfl
theorem dX0_take_133 : Eq (decode cX0_take 133) (Except.ok (Instr.getfield 26, 3)) := fE fw_dX0_take_129_c 2 rfl
theorem dX0_take_136 : Eq (decode cX0_take 136) (Except.ok (Instr.getfield 77, 3)) := fE fw_dX0_take_129_c 3 rfl
theorem dX0_take_139 : Eq (decode cX0_take 139) (Except.ok (Instr.iload_n 3, 1)) := fE fw_dX0_take_129_c 4 rfl
theorem dX0_take_140 : Eq (decode cX0_take 140) (Except.ok (Instr.laload, 1)) := fE fw_dX0_take_129_c 5 rfl
theorem dX0_take_141 : Eq (decode cX0_take 141) (Except.ok (Instr.iload 4, 2)) := fE fw_dX0_take_129_c 6 rfl
theorem dX0_take_143 : Eq (decode cX0_take 143) (Except.ok (Instr.ineg, 1)) := fE fw_dX0_take_129_c 7 rfl
theorem dX0_take_144 : Eq (decode cX0_take 144) (Except.ok (Instr.lshr, 1)) := fE fw_dX0_take_129_c 8 rfl
theorem dX0_take_145 : Eq (decode cX0_take 145) (Except.ok (Instr.goto 15, 3)) := fE fw_dX0_take_129_c 9 rfl
theorem dX0_take_148 : Eq (decode cX0_take 148) (Except.ok (Instr.aload_n 0, 1)) := fE fw_dX0_take_129_c 10 rfl
theorem dX0_take_149 : Eq (decode cX0_take 149) (Except.ok (Instr.getfield 26, 3)) := fE fw_dX0_take_129_c 11 rfl
theorem dX0_take_152 : Eq (decode cX0_take 152) (Except.ok (Instr.getfield 77, 3)) := fE fw_dX0_take_129_c 12 rfl
theorem dX0_take_155 : Eq (decode cX0_take 155) (Except.ok (Instr.iload_n 3, 1)) := fE fw_dX0_take_129_c 13 rfl
theorem dX0_take_156 : Eq (decode cX0_take 156) (Except.ok (Instr.laload, 1)) := fE fw_dX0_take_129_c 14 rfl
theorem dX0_take_157 : Eq (decode cX0_take 157) (Except.ok (Instr.iload 4, 2)) := fE fw_dX0_take_129_c 15 rfl
theorem dX0_take_159 : Eq (decode cX0_take 159) (Except.ok (Instr.lshl, 1)) := fE fw_dX0_take_129_c 16 rfl
theorem dX0_take_160 : Eq (decode cX0_take 160) (Except.ok (Instr.invokevirtual 119, 3)) := fE fw_dX0_take_129_c 17 rfl
theorem dX0_take_163 : Eq (decode cX0_take 163) (Except.ok (Instr.iconst 0, 1)) := fE fw_dX0_take_129_c 18 rfl
theorem dX0_take_164 : Eq (decode cX0_take 164) (Except.ok (Instr.ireturn, 1)) := fE fw_dX0_take_129_c 19 rfl
def fw_dX0_take_165 : List (Nat × Instr × Nat) := [(165, .aload_n 0, 1), (166, .iload_n 2, 1), (167, .aload_n 0, 1), (168, .getfield 26, 3), (171, .getfield 77, 3), (174, .iload_n 3, 1), (175, .laload, 1), (176, .invokevirtual 122, 3), (179, .ireturn, 1), (180, .aload_n 0, 1), (181, .aload_n 0, 1), (182, .getfield 26, 3), (185, .getfield 77, 3), (188, .iload_n 3, 1), (189, .laload, 1), (190, .aload_n 0, 1), (191, .getfield 26, 3), (194, .getfield 77, 3), (197, .iload 4, 2), (199, .laload, 1)]
theorem fw_dX0_take_165_c : fchk 165 (cX0_take.data.toList.drop 165) fw_dX0_take_165 = true := by decide +kernel
theorem dX0_take_165 : Eq (decode cX0_take 165) (Except.ok (Instr.aload_n 0, 1)) := fE fw_dX0_take_165_c 0 rfl
theorem dX0_take_166 : Eq (decode cX0_take 166) (Except.ok (Instr.iload_n 2, 1)) := fE fw_dX0_take_165_c 1 rfl
theorem dX0_take_167 : Eq (decode cX0_take 167) (Except.ok (Instr.aload_n 0, 1)) := fE fw_dX0_take_165_c 2 rfl
theorem dX0_take_168 : Eq (decode cX0_take 168) (Except.ok (Instr.getfield 26, 3)) := fE fw_dX0_take_165_c 3 rfl
theorem dX0_take_171 : Eq (decode cX0_take 171) (Except.ok (Instr.getfield 77, 3)) := fE fw_dX0_take_165_c 4 rfl
theorem dX0_take_174 : Eq (decode cX0_take 174) (Except.ok (Instr.iload_n 3, 1)) := fE fw_dX0_take_165_c 5 rfl
theorem dX0_take_175 : Eq (decode cX0_take 175) (Except.ok (Instr.laload, 1)) := fE fw_dX0_take_165_c 6 rfl
theorem dX0_take_176 : Eq (decode cX0_take 176) (Except.ok (Instr.invokevirtual 122, 3)) := fE fw_dX0_take_165_c 7 rfl
theorem dX0_take_179 : Eq (decode cX0_take 179) (Except.ok (Instr.ireturn, 1)) := fE fw_dX0_take_165_c 8 rfl
theorem dX0_take_180 : Eq (decode cX0_take 180) (Except.ok (Instr.aload_n 0, 1)) := fE fw_dX0_take_165_c 9 rfl
theorem dX0_take_181 : Eq (decode cX0_take 181) (Except.ok (Instr.aload_n 0, 1)) := fE fw_dX0_take_165_c 10 rfl
theorem dX0_take_182 : Eq (decode cX0_take 182) (Except.ok (Instr.getfield 26, 3)) := fE fw_dX0_take_165_c 11 rfl
theorem dX0_take_185 : Eq (decode cX0_take 185) (Except.ok (Instr.getfield 77, 3)) := fE fw_dX0_take_165_c 12 rfl
theorem dX0_take_188 : Eq (decode cX0_take 188) (Except.ok (Instr.iload_n 3, 1)) := fE fw_dX0_take_165_c 13 rfl
theorem dX0_take_189 : Eq (decode cX0_take 189) (Except.ok (Instr.laload, 1)) := fE fw_dX0_take_165_c 14 rfl
theorem dX0_take_190 : Eq (decode cX0_take 190) (Except.ok (Instr.aload_n 0, 1)) := fE fw_dX0_take_165_c 15 rfl
theorem dX0_take_191 : Eq (decode cX0_take 191) (Except.ok (Instr.getfield 26, 3)) := fE fw_dX0_take_165_c 16 rfl
theorem dX0_take_194 : Eq (decode cX0_take 194) (Except.ok (Instr.getfield 77, 3)) := fE fw_dX0_take_165_c 17 rfl
theorem dX0_take_197 : Eq (decode cX0_take 197) (Except.ok (Instr.iload 4, 2)) := fE fw_dX0_take_165_c 18 rfl
theorem dX0_take_199 : Eq (decode cX0_take 199) (Except.ok (Instr.laload, 1)) := fE fw_dX0_take_165_c 19 rfl
def fw_dX0_take_200 : List (Nat × Instr × Nat) := [(200, .invokevirtual 126, 3), (203, .ireturn, 1), (204, .aload_n 0, 1), (205, .getfield 26, 3), (208, .getfield 77, 3), (211, .bipush 8, 2), (213, .iload_n 3, 1), (214, .iadd, 1), (215, .laload, 1), (216, .iload 4, 2), (218, .i2l, 1), (219, .lcmp, 1), (220, .ifCond .ne 7, 3), (223, .iconst 1, 1), (224, .goto 4, 3), (227, .iconst 0, 1), (228, .ireturn, 1), (229, .aload_n 0, 1), (230, .getfield 26, 3), (233, .getfield 77, 3)]
theorem fw_dX0_take_200_c : fchk 200 (cX0_take.data.toList.drop 200) fw_dX0_take_200 = true := by decide +kernel
theorem dX0_take_200 : Eq (decode cX0_take 200) (Except.ok (Instr.invokevirtual 126, 3)) := fE fw_dX0_take_200_c 0 rfl
theorem dX0_take_203 : Eq (decode cX0_take 203) (Except.ok (Instr.ireturn, 1)) := fE fw_dX0_take_200_c 1 rfl
theorem dX0_take_204 : Eq (decode cX0_take 204) (Except.ok (Instr.aload_n 0, 1)) := fE fw_dX0_take_200_c 2 rfl
theorem dX0_take_205 : Eq (decode cX0_take 205) (Except.ok (Instr.getfield 26, 3)) := fE fw_dX0_take_200_c 3 rfl
theorem dX0_take_208 : Eq (decode cX0_take 208) (Except.ok (Instr.getfield 77, 3)) := fE fw_dX0_take_200_c 4 rfl
theorem dX0_take_211 : Eq (decode cX0_take 211) (Except.ok (Instr.bipush 8, 2)) := fE fw_dX0_take_200_c 5 rfl
theorem dX0_take_213 : Eq (decode cX0_take 213) (Except.ok (Instr.iload_n 3, 1)) := fE fw_dX0_take_200_c 6 rfl
theorem dX0_take_214 : Eq (decode cX0_take 214) (Except.ok (Instr.iadd, 1)) := fE fw_dX0_take_200_c 7 rfl
theorem dX0_take_215 : Eq (decode cX0_take 215) (Except.ok (Instr.laload, 1)) := fE fw_dX0_take_200_c 8 rfl
theorem dX0_take_216 : Eq (decode cX0_take 216) (Except.ok (Instr.iload 4, 2)) := fE fw_dX0_take_200_c 9 rfl
theorem dX0_take_218 : Eq (decode cX0_take 218) (Except.ok (Instr.i2l, 1)) := fE fw_dX0_take_200_c 10 rfl
theorem dX0_take_219 : Eq (decode cX0_take 219) (Except.ok (Instr.lcmp, 1)) := fE fw_dX0_take_200_c 11 rfl
theorem dX0_take_220 : Eq (decode cX0_take 220) (Except.ok (Instr.ifCond .ne 7, 3)) := fE fw_dX0_take_200_c 12 rfl
theorem dX0_take_223 : Eq (decode cX0_take 223) (Except.ok (Instr.iconst 1, 1)) := fE fw_dX0_take_200_c 13 rfl
theorem dX0_take_224 : Eq (decode cX0_take 224) (Except.ok (Instr.goto 4, 3)) := fE fw_dX0_take_200_c 14 rfl
theorem dX0_take_227 : Eq (decode cX0_take 227) (Except.ok (Instr.iconst 0, 1)) := fE fw_dX0_take_200_c 15 rfl
theorem dX0_take_228 : Eq (decode cX0_take 228) (Except.ok (Instr.ireturn, 1)) := fE fw_dX0_take_200_c 16 rfl
theorem dX0_take_229 : Eq (decode cX0_take 229) (Except.ok (Instr.aload_n 0, 1)) := fE fw_dX0_take_200_c 17 rfl
theorem dX0_take_230 : Eq (decode cX0_take 230) (Except.ok (Instr.getfield 26, 3)) := fE fw_dX0_take_200_c 18 rfl
theorem dX0_take_233 : Eq (decode cX0_take 233) (Except.ok (Instr.getfield 77, 3)) := fE fw_dX0_take_200_c 19 rfl
def fw_dX0_take_236 : List (Nat × Instr × Nat) := [(236, .bipush 8, 2), (238, .iload_n 3, 1), (239, .iadd, 1), (240, .laload, 1), (241, .iload 4, 2), (243, .i2l, 1), (244, .lcmp, 1), (245, .ifCond .ne 7, 3), (248, .iconst 2, 1), (249, .goto 4, 3), (252, .iconst 0, 1), (253, .ireturn, 1), (254, .aload_n 0, 1), (255, .aload_n 0, 1), (256, .getfield 30, 3), (259, .getfield 116, 3), (262, .iload_n 1, 1), (263, .iaload, 1), (264, .iload_n 2, 1), (265, .aload_n 0, 1)]
theorem fw_dX0_take_236_c : fchk 236 (cX0_take.data.toList.drop 236) fw_dX0_take_236 = true := by decide +kernel
theorem dX0_take_236 : Eq (decode cX0_take 236) (Except.ok (Instr.bipush 8, 2)) := fE fw_dX0_take_236_c 0 rfl
theorem dX0_take_238 : Eq (decode cX0_take 238) (Except.ok (Instr.iload_n 3, 1)) := fE fw_dX0_take_236_c 1 rfl
theorem dX0_take_239 : Eq (decode cX0_take 239) (Except.ok (Instr.iadd, 1)) := fE fw_dX0_take_236_c 2 rfl
theorem dX0_take_240 : Eq (decode cX0_take 240) (Except.ok (Instr.laload, 1)) := fE fw_dX0_take_236_c 3 rfl
theorem dX0_take_241 : Eq (decode cX0_take 241) (Except.ok (Instr.iload 4, 2)) := fE fw_dX0_take_236_c 4 rfl
theorem dX0_take_243 : Eq (decode cX0_take 243) (Except.ok (Instr.i2l, 1)) := fE fw_dX0_take_236_c 5 rfl
theorem dX0_take_244 : Eq (decode cX0_take 244) (Except.ok (Instr.lcmp, 1)) := fE fw_dX0_take_236_c 6 rfl
theorem dX0_take_245 : Eq (decode cX0_take 245) (Except.ok (Instr.ifCond .ne 7, 3)) := fE fw_dX0_take_236_c 7 rfl
theorem dX0_take_248 : Eq (decode cX0_take 248) (Except.ok (Instr.iconst 2, 1)) := fE fw_dX0_take_236_c 8 rfl
theorem dX0_take_249 : Eq (decode cX0_take 249) (Except.ok (Instr.goto 4, 3)) := fE fw_dX0_take_236_c 9 rfl
theorem dX0_take_252 : Eq (decode cX0_take 252) (Except.ok (Instr.iconst 0, 1)) := fE fw_dX0_take_236_c 10 rfl
theorem dX0_take_253 : Eq (decode cX0_take 253) (Except.ok (Instr.ireturn, 1)) := fE fw_dX0_take_236_c 11 rfl
theorem dX0_take_254 : Eq (decode cX0_take 254) (Except.ok (Instr.aload_n 0, 1)) := fE fw_dX0_take_236_c 12 rfl
theorem dX0_take_255 : Eq (decode cX0_take 255) (Except.ok (Instr.aload_n 0, 1)) := fE fw_dX0_take_236_c 13 rfl
theorem dX0_take_256 : Eq (decode cX0_take 256) (Except.ok (Instr.getfield 30, 3)) := fE fw_dX0_take_236_c 14 rfl
theorem dX0_take_259 : Eq (decode cX0_take 259) (Except.ok (Instr.getfield 116, 3)) := fE fw_dX0_take_236_c 15 rfl
theorem dX0_take_262 : Eq (decode cX0_take 262) (Except.ok (Instr.iload_n 1, 1)) := fE fw_dX0_take_236_c 16 rfl
theorem dX0_take_263 : Eq (decode cX0_take 263) (Except.ok (Instr.iaload, 1)) := fE fw_dX0_take_236_c 17 rfl
theorem dX0_take_264 : Eq (decode cX0_take 264) (Except.ok (Instr.iload_n 2, 1)) := fE fw_dX0_take_236_c 18 rfl
theorem dX0_take_265 : Eq (decode cX0_take 265) (Except.ok (Instr.aload_n 0, 1)) := fE fw_dX0_take_236_c 19 rfl
def fw_dX0_take_266 : List (Nat × Instr × Nat) := [(266, .getfield 26, 3), (269, .getfield 77, 3), (272, .iload_n 3, 1), (273, .laload, 1), (274, .aload_n 0, 1), (275, .getfield 26, 3), (278, .getfield 77, 3), (281, .iload 4, 2), (283, .laload, 1), (284, .invokevirtual 130, 3), (287, .iconst 0, 1), (288, .ireturn, 1)]
theorem fw_dX0_take_266_c : fchk 266 (cX0_take.data.toList.drop 266) fw_dX0_take_266 = true := by decide +kernel
theorem dX0_take_266 : Eq (decode cX0_take 266) (Except.ok (Instr.getfield 26, 3)) := fE fw_dX0_take_266_c 0 rfl
theorem dX0_take_269 : Eq (decode cX0_take 269) (Except.ok (Instr.getfield 77, 3)) := fE fw_dX0_take_266_c 1 rfl
theorem dX0_take_272 : Eq (decode cX0_take 272) (Except.ok (Instr.iload_n 3, 1)) := fE fw_dX0_take_266_c 2 rfl
theorem dX0_take_273 : Eq (decode cX0_take 273) (Except.ok (Instr.laload, 1)) := fE fw_dX0_take_266_c 3 rfl
theorem dX0_take_274 : Eq (decode cX0_take 274) (Except.ok (Instr.aload_n 0, 1)) := fE fw_dX0_take_266_c 4 rfl
theorem dX0_take_275 : Eq (decode cX0_take 275) (Except.ok (Instr.getfield 26, 3)) := fE fw_dX0_take_266_c 5 rfl
theorem dX0_take_278 : Eq (decode cX0_take 278) (Except.ok (Instr.getfield 77, 3)) := fE fw_dX0_take_266_c 6 rfl
theorem dX0_take_281 : Eq (decode cX0_take 281) (Except.ok (Instr.iload 4, 2)) := fE fw_dX0_take_266_c 7 rfl
theorem dX0_take_283 : Eq (decode cX0_take 283) (Except.ok (Instr.laload, 1)) := fE fw_dX0_take_266_c 8 rfl
theorem dX0_take_284 : Eq (decode cX0_take 284) (Except.ok (Instr.invokevirtual 130, 3)) := fE fw_dX0_take_266_c 9 rfl
theorem dX0_take_287 : Eq (decode cX0_take 287) (Except.ok (Instr.iconst 0, 1)) := fE fw_dX0_take_266_c 10 rfl
theorem dX0_take_288 : Eq (decode cX0_take 288) (Except.ok (Instr.ireturn, 1)) := fE fw_dX0_take_266_c 11 rfl
set_option maxRecDepth 20000 in
theorem gi_wsX0_fetch_0 : GoodIn wsX0_fetch wsX0_fetch := goodIn_sub (fun _ h => h) (by decide +kernel)
set_option maxRecDepth 20000 in
theorem gi_wsX0_fetch_1 : GoodIn wsX0_fetch wsX00 := goodIn_sub (fun w h => List.mem_cons_of_mem _ (List.mem_append_left _ (List.mem_append_right _ h))) (by decide +kernel)
set_option maxRecDepth 20000 in
theorem gi_wsX0_fetch_2 : GoodIn wsX0_fetch wsX20 := goodIn_sub (fun w h => List.mem_cons_of_mem _ (List.mem_append_right _ h)) (by decide +kernel)
def bs_wsX0_fetch : List (List Cond) := [wsX0_fetch, wsX00, wsX20]
theorem bs_wsX0_fetch_in : ∀ b ∈ bs_wsX0_fetch, GoodIn wsX0_fetch b := List.forall_mem_cons.mpr ⟨gi_wsX0_fetch_0, List.forall_mem_cons.mpr ⟨gi_wsX0_fetch_1, List.forall_mem_cons.mpr ⟨gi_wsX0_fetch_2, (fun _ h => absurd h List.not_mem_nil)⟩⟩⟩
set_option maxRecDepth 20000 in
theorem ggX0_fetch_X7_isCell : GoodIn wsX0_fetch wsX7_isCell := goodIn_k (gi_q bs_wsX0_fetch_in _ [(0, 5)] rfl) (gi_q bs_wsX0_fetch_in _ [(0, 6)] rfl)
set_option maxRecDepth 20000 in
theorem gX0_fetch_X7_isCell_n134 : GoodIn wsX0_fetch (wsX7_isCell) := ggX0_fetch_X7_isCell
set_option maxRecDepth 20000 in
theorem ggX0_fetch_X0_putLater : GoodIn wsX0_fetch wsX0_putLater := goodIn_k (gi_q bs_wsX0_fetch_in _ [(0, 11)] rfl) (goodIn_app (gi_q bs_wsX0_fetch_in _ [(0, 12), (0, 13), (0, 14)] rfl) (gi_wsX0_fetch_1))
set_option maxRecDepth 20000 in
theorem gX0_fetch_X0_putLater : GoodIn wsX0_fetch (wsV RX0 119 RX0 yX0_putLater wsX0_putLater) := goodIn_app (gi_q bs_wsX0_fetch_in _ [(0, 7), (0, 8), (0, 9), (0, 10)] rfl) ggX0_fetch_X0_putLater
def fw_dX0_fetch_0 : List (Nat × Instr × Nat) := [(0, .lload_n 2, 1), (1, .invokestatic 134, 3), (4, .ifCond .ne 5, 3), (7, .iconst 2, 1), (8, .ireturn, 1), (9, .aload_n 0, 1), (10, .iload_n 1, 1), (11, .aload_n 0, 1), (12, .getfield 26, 3), (15, .getfield 77, 3), (18, .bipush 10, 2), (20, .lload_n 2, 1), (21, .l2i, 1), (22, .iadd, 1), (23, .laload, 1), (24, .invokevirtual 119, 3), (27, .iconst 0, 1), (28, .ireturn, 1)]
theorem fw_dX0_fetch_0_c : fchk 0 (cX0_fetch.data.toList.drop 0) fw_dX0_fetch_0 = true := by decide +kernel
theorem dX0_fetch_0 : Eq (decode cX0_fetch 0) (Except.ok (Instr.lload_n 2, 1)) := fE fw_dX0_fetch_0_c 0 rfl
theorem dX0_fetch_1 : Eq (decode cX0_fetch 1) (Except.ok (Instr.invokestatic 134, 3)) := fE fw_dX0_fetch_0_c 1 rfl
theorem dX0_fetch_4 : Eq (decode cX0_fetch 4) (Except.ok (Instr.ifCond .ne 5, 3)) := fE fw_dX0_fetch_0_c 2 rfl
theorem dX0_fetch_7 : Eq (decode cX0_fetch 7) (Except.ok (Instr.iconst 2, 1)) := fE fw_dX0_fetch_0_c 3 rfl
theorem dX0_fetch_8 : Eq (decode cX0_fetch 8) (Except.ok (Instr.ireturn, 1)) := fE fw_dX0_fetch_0_c 4 rfl
theorem dX0_fetch_9 : Eq (decode cX0_fetch 9) (Except.ok (Instr.aload_n 0, 1)) := fE fw_dX0_fetch_0_c 5 rfl
theorem dX0_fetch_10 : Eq (decode cX0_fetch 10) (Except.ok (Instr.iload_n 1, 1)) := fE fw_dX0_fetch_0_c 6 rfl
theorem dX0_fetch_11 : Eq (decode cX0_fetch 11) (Except.ok (Instr.aload_n 0, 1)) := fE fw_dX0_fetch_0_c 7 rfl
theorem dX0_fetch_12 : Eq (decode cX0_fetch 12) (Except.ok (Instr.getfield 26, 3)) := fE fw_dX0_fetch_0_c 8 rfl
theorem dX0_fetch_15 : Eq (decode cX0_fetch 15) (Except.ok (Instr.getfield 77, 3)) := fE fw_dX0_fetch_0_c 9 rfl
theorem dX0_fetch_18 : Eq (decode cX0_fetch 18) (Except.ok (Instr.bipush 10, 2)) := fE fw_dX0_fetch_0_c 10 rfl
theorem dX0_fetch_20 : Eq (decode cX0_fetch 20) (Except.ok (Instr.lload_n 2, 1)) := fE fw_dX0_fetch_0_c 11 rfl
theorem dX0_fetch_21 : Eq (decode cX0_fetch 21) (Except.ok (Instr.l2i, 1)) := fE fw_dX0_fetch_0_c 12 rfl
theorem dX0_fetch_22 : Eq (decode cX0_fetch 22) (Except.ok (Instr.iadd, 1)) := fE fw_dX0_fetch_0_c 13 rfl
theorem dX0_fetch_23 : Eq (decode cX0_fetch 23) (Except.ok (Instr.laload, 1)) := fE fw_dX0_fetch_0_c 14 rfl
theorem dX0_fetch_24 : Eq (decode cX0_fetch 24) (Except.ok (Instr.invokevirtual 119, 3)) := fE fw_dX0_fetch_0_c 15 rfl
theorem dX0_fetch_27 : Eq (decode cX0_fetch 27) (Except.ok (Instr.iconst 0, 1)) := fE fw_dX0_fetch_0_c 16 rfl
theorem dX0_fetch_28 : Eq (decode cX0_fetch 28) (Except.ok (Instr.ireturn, 1)) := fE fw_dX0_fetch_0_c 17 rfl
set_option maxRecDepth 20000 in
theorem gi_wsX0_keep_0 : GoodIn wsX0_keep wsX0_keep := goodIn_sub (fun _ h => h) (by decide +kernel)
set_option maxRecDepth 20000 in
theorem gi_wsX0_keep_1 : GoodIn wsX0_keep wsX00 := goodIn_sub (fun w h => List.mem_cons_of_mem _ (List.mem_append_right _ h)) (by decide +kernel)
def bs_wsX0_keep : List (List Cond) := [wsX0_keep, wsX00]
theorem bs_wsX0_keep_in : ∀ b ∈ bs_wsX0_keep, GoodIn wsX0_keep b := List.forall_mem_cons.mpr ⟨gi_wsX0_keep_0, List.forall_mem_cons.mpr ⟨gi_wsX0_keep_1, (fun _ h => absurd h List.not_mem_nil)⟩⟩
set_option maxRecDepth 20000 in
theorem ggX0_keep_X7_isCell : GoodIn wsX0_keep wsX7_isCell := goodIn_k (gi_q bs_wsX0_keep_in _ [(0, 3)] rfl) (gi_q bs_wsX0_keep_in _ [(0, 4)] rfl)
set_option maxRecDepth 20000 in
theorem gX0_keep_X7_isCell_n134 : GoodIn wsX0_keep (wsX7_isCell) := ggX0_keep_X7_isCell
set_option maxRecDepth 20000 in
theorem ggX0_keep_X0_putLater : GoodIn wsX0_keep wsX0_putLater := goodIn_k (gi_q bs_wsX0_keep_in _ [(0, 9)] rfl) (goodIn_app (gi_q bs_wsX0_keep_in _ [(0, 10), (0, 11), (0, 12)] rfl) (gi_wsX0_keep_1))
set_option maxRecDepth 20000 in
theorem gX0_keep_X0_putLater : GoodIn wsX0_keep (wsV RX0 119 RX0 yX0_putLater wsX0_putLater) := goodIn_app (gi_q bs_wsX0_keep_in _ [(0, 5), (0, 6), (0, 7), (0, 8)] rfl) ggX0_keep_X0_putLater
def fw_dX0_keep_0 : List (Nat × Instr × Nat) := [(0, .lload_n 1, 1), (1, .invokestatic 134, 3), (4, .ifCond .ne 5, 3), (7, .iconst 2, 1), (8, .ireturn, 1), (9, .aload_n 0, 1), (10, .bipush 10, 2), (12, .lload_n 1, 1), (13, .l2i, 1), (14, .iadd, 1), (15, .lload_n 3, 1), (16, .invokevirtual 119, 3), (19, .iconst 0, 1), (20, .ireturn, 1)]
theorem fw_dX0_keep_0_c : fchk 0 (cX0_keep.data.toList.drop 0) fw_dX0_keep_0 = true := by decide +kernel
theorem dX0_keep_0 : Eq (decode cX0_keep 0) (Except.ok (Instr.lload_n 1, 1)) := fE fw_dX0_keep_0_c 0 rfl
theorem dX0_keep_1 : Eq (decode cX0_keep 1) (Except.ok (Instr.invokestatic 134, 3)) := fE fw_dX0_keep_0_c 1 rfl
theorem dX0_keep_4 : Eq (decode cX0_keep 4) (Except.ok (Instr.ifCond .ne 5, 3)) := fE fw_dX0_keep_0_c 2 rfl
theorem dX0_keep_7 : Eq (decode cX0_keep 7) (Except.ok (Instr.iconst 2, 1)) := fE fw_dX0_keep_0_c 3 rfl
theorem dX0_keep_8 : Eq (decode cX0_keep 8) (Except.ok (Instr.ireturn, 1)) := fE fw_dX0_keep_0_c 4 rfl
theorem dX0_keep_9 : Eq (decode cX0_keep 9) (Except.ok (Instr.aload_n 0, 1)) := fE fw_dX0_keep_0_c 5 rfl
theorem dX0_keep_10 : Eq (decode cX0_keep 10) (Except.ok (Instr.bipush 10, 2)) := fE fw_dX0_keep_0_c 6 rfl
theorem dX0_keep_12 : Eq (decode cX0_keep 12) (Except.ok (Instr.lload_n 1, 1)) := fE fw_dX0_keep_0_c 7 rfl
theorem dX0_keep_13 : Eq (decode cX0_keep 13) (Except.ok (Instr.l2i, 1)) := fE fw_dX0_keep_0_c 8 rfl
theorem dX0_keep_14 : Eq (decode cX0_keep 14) (Except.ok (Instr.iadd, 1)) := fE fw_dX0_keep_0_c 9 rfl
theorem dX0_keep_15 : Eq (decode cX0_keep 15) (Except.ok (Instr.lload_n 3, 1)) := fE fw_dX0_keep_0_c 10 rfl
theorem dX0_keep_16 : Eq (decode cX0_keep 16) (Except.ok (Instr.invokevirtual 119, 3)) := fE fw_dX0_keep_0_c 11 rfl
theorem dX0_keep_19 : Eq (decode cX0_keep 19) (Except.ok (Instr.iconst 0, 1)) := fE fw_dX0_keep_0_c 12 rfl
theorem dX0_keep_20 : Eq (decode cX0_keep 20) (Except.ok (Instr.ireturn, 1)) := fE fw_dX0_keep_0_c 13 rfl
set_option maxRecDepth 20000 in
theorem gi_wsX0_work_0 : GoodIn wsX0_work wsX0_work := goodIn_sub (fun _ h => h) (by decide +kernel)
set_option maxRecDepth 20000 in
theorem gi_wsX0_work_1 : GoodIn wsX0_work wsX00 := goodIn_sub (fun w h => List.mem_cons_of_mem _ (List.mem_append_left _ (List.mem_append_right _ h))) (by decide +kernel)
set_option maxRecDepth 20000 in
theorem gi_wsX0_work_2 : GoodIn wsX0_work wsX20 := goodIn_sub (fun w h => List.mem_cons_of_mem _ (List.mem_append_right _ h)) (by decide +kernel)
def bs_wsX0_work : List (List Cond) := [wsX0_work, wsX00, wsX20]
theorem bs_wsX0_work_in : ∀ b ∈ bs_wsX0_work, GoodIn wsX0_work b := List.forall_mem_cons.mpr ⟨gi_wsX0_work_0, List.forall_mem_cons.mpr ⟨gi_wsX0_work_1, List.forall_mem_cons.mpr ⟨gi_wsX0_work_2, (fun _ h => absurd h List.not_mem_nil)⟩⟩⟩
set_option maxRecDepth 20000 in
theorem ggX0_work_X2_cutFor : GoodIn wsX0_work wsX2_cutFor := goodIn_k (gi_q bs_wsX0_work_in _ [(0, 6)] rfl) (goodIn_app (gi_q bs_wsX0_work_in _ [(0, 7)] rfl) (gi_wsX0_work_2))
set_option maxRecDepth 20000 in
theorem gX0_work_X2_cutFor : GoodIn wsX0_work (wsV RX0 138 RX2 yX2_cutFor wsX2_cutFor) := goodIn_app (gi_q bs_wsX0_work_in _ [(0, 2), (0, 3), (0, 4), (0, 5)] rfl) ggX0_work_X2_cutFor
set_option maxRecDepth 20000 in
theorem ggX0_work_X0_putLater : GoodIn wsX0_work wsX0_putLater := goodIn_k (gi_q bs_wsX0_work_in _ [(0, 12)] rfl) (goodIn_app (gi_q bs_wsX0_work_in _ [(0, 13), (0, 14), (0, 15)] rfl) (gi_wsX0_work_1))
set_option maxRecDepth 20000 in
theorem gX0_work_X0_putLater : GoodIn wsX0_work (wsV RX0 119 RX0 yX0_putLater wsX0_putLater) := goodIn_app (gi_q bs_wsX0_work_in _ [(0, 8), (0, 9), (0, 10), (0, 11)] rfl) ggX0_work_X0_putLater
def fw_dX0_work_0 : List (Nat × Instr × Nat) := [(0, .lconst 0, 1), (1, .lstore 7, 2), (3, .iconst 0, 1), (4, .istore 9, 2), (6, .iload_n 1, 1)]
theorem fw_dX0_work_0_c : fchk 0 (cX0_work.data.toList.drop 0) fw_dX0_work_0 = true := by decide +kernel
theorem dX0_work_0 : Eq (decode cX0_work 0) (Except.ok (Instr.lconst 0, 1)) := fE fw_dX0_work_0_c 0 rfl
theorem dX0_work_1 : Eq (decode cX0_work 1) (Except.ok (Instr.lstore 7, 2)) := fE fw_dX0_work_0_c 1 rfl
theorem dX0_work_3 : Eq (decode cX0_work 3) (Except.ok (Instr.iconst 0, 1)) := fE fw_dX0_work_0_c 2 rfl
theorem dX0_work_4 : Eq (decode cX0_work 4) (Except.ok (Instr.istore 9, 2)) := fE fw_dX0_work_0_c 3 rfl
theorem dX0_work_6 : Eq (decode cX0_work 6) (Except.ok (Instr.iload_n 1, 1)) := fE fw_dX0_work_0_c 4 rfl
theorem dX0_work_7 : decode cX0_work 7 = .ok (.tableswitch 102 2 5 #[29, 61, 84, 93], 29) := by decide +kernel
def fw_dX0_work_36 : List (Nat × Instr × Nat) := [(36, .lload_n 3, 1), (37, .lload 5, 2), (39, .ladd, 1), (40, .lstore 7, 2), (42, .lload 7, 2), (44, .aload_n 0, 1), (45, .getfield 26, 3), (48, .iload_n 2, 1), (49, .lload 7, 2), (51, .invokevirtual 138, 3), (54, .lcmp, 1), (55, .ifCond .eq 7, 3), (58, .iconst 1, 1), (59, .goto 4, 3), (62, .iconst 0, 1), (63, .istore 9, 2), (65, .goto 44, 3), (68, .lload_n 3, 1), (69, .lload 5, 2), (71, .lsub, 1)]
theorem fw_dX0_work_36_c : fchk 36 (cX0_work.data.toList.drop 36) fw_dX0_work_36 = true := by decide +kernel
theorem dX0_work_36 : Eq (decode cX0_work 36) (Except.ok (Instr.lload_n 3, 1)) := fE fw_dX0_work_36_c 0 rfl
theorem dX0_work_37 : Eq (decode cX0_work 37) (Except.ok (Instr.lload 5, 2)) := fE fw_dX0_work_36_c 1 rfl
theorem dX0_work_39 : Eq (decode cX0_work 39) (Except.ok (Instr.ladd, 1)) := fE fw_dX0_work_36_c 2 rfl
theorem dX0_work_40 : Eq (decode cX0_work 40) (Except.ok (Instr.lstore 7, 2)) := fE fw_dX0_work_36_c 3 rfl
theorem dX0_work_42 : Eq (decode cX0_work 42) (Except.ok (Instr.lload 7, 2)) := fE fw_dX0_work_36_c 4 rfl
theorem dX0_work_44 : Eq (decode cX0_work 44) (Except.ok (Instr.aload_n 0, 1)) := fE fw_dX0_work_36_c 5 rfl
theorem dX0_work_45 : Eq (decode cX0_work 45) (Except.ok (Instr.getfield 26, 3)) := fE fw_dX0_work_36_c 6 rfl
theorem dX0_work_48 : Eq (decode cX0_work 48) (Except.ok (Instr.iload_n 2, 1)) := fE fw_dX0_work_36_c 7 rfl
theorem dX0_work_49 : Eq (decode cX0_work 49) (Except.ok (Instr.lload 7, 2)) := fE fw_dX0_work_36_c 8 rfl
theorem dX0_work_51 : Eq (decode cX0_work 51) (Except.ok (Instr.invokevirtual 138, 3)) := fE fw_dX0_work_36_c 9 rfl
theorem dX0_work_54 : Eq (decode cX0_work 54) (Except.ok (Instr.lcmp, 1)) := fE fw_dX0_work_36_c 10 rfl
theorem dX0_work_55 : Eq (decode cX0_work 55) (Except.ok (Instr.ifCond .eq 7, 3)) := fE fw_dX0_work_36_c 11 rfl
theorem dX0_work_58 : Eq (decode cX0_work 58) (Except.ok (Instr.iconst 1, 1)) := fE fw_dX0_work_36_c 12 rfl
theorem dX0_work_59 : Eq (decode cX0_work 59) (Except.ok (Instr.goto 4, 3)) := fE fw_dX0_work_36_c 13 rfl
theorem dX0_work_62 : Eq (decode cX0_work 62) (Except.ok (Instr.iconst 0, 1)) := fE fw_dX0_work_36_c 14 rfl
theorem dX0_work_63 : Eq (decode cX0_work 63) (Except.ok (Instr.istore 9, 2)) := fE fw_dX0_work_36_c 15 rfl
theorem dX0_work_65 : Eq (decode cX0_work 65) (Except.ok (Instr.goto 44, 3)) := fE fw_dX0_work_36_c 16 rfl
theorem dX0_work_68 : Eq (decode cX0_work 68) (Except.ok (Instr.lload_n 3, 1)) := fE fw_dX0_work_36_c 17 rfl
theorem dX0_work_69 : Eq (decode cX0_work 69) (Except.ok (Instr.lload 5, 2)) := fE fw_dX0_work_36_c 18 rfl
theorem dX0_work_71 : Eq (decode cX0_work 71) (Except.ok (Instr.lsub, 1)) := fE fw_dX0_work_36_c 19 rfl
def fw_dX0_work_72 : List (Nat × Instr × Nat) := [(72, .lstore 7, 2), (74, .lload 5, 2), (76, .lload_n 3, 1), (77, .lcmp, 1), (78, .ifCond .le 7, 3), (81, .iconst 1, 1), (82, .goto 4, 3), (85, .iconst 0, 1), (86, .istore 9, 2), (88, .goto 21, 3), (91, .lload_n 3, 1), (92, .lload 5, 2), (94, .land, 1), (95, .lstore 7, 2), (97, .goto 12, 3), (100, .lload_n 3, 1), (101, .lload 5, 2), (103, .lxor, 1), (104, .lstore 7, 2), (106, .goto 3, 3)]
theorem fw_dX0_work_72_c : fchk 72 (cX0_work.data.toList.drop 72) fw_dX0_work_72 = true := by decide +kernel
theorem dX0_work_72 : Eq (decode cX0_work 72) (Except.ok (Instr.lstore 7, 2)) := fE fw_dX0_work_72_c 0 rfl
theorem dX0_work_74 : Eq (decode cX0_work 74) (Except.ok (Instr.lload 5, 2)) := fE fw_dX0_work_72_c 1 rfl
theorem dX0_work_76 : Eq (decode cX0_work 76) (Except.ok (Instr.lload_n 3, 1)) := fE fw_dX0_work_72_c 2 rfl
theorem dX0_work_77 : Eq (decode cX0_work 77) (Except.ok (Instr.lcmp, 1)) := fE fw_dX0_work_72_c 3 rfl
theorem dX0_work_78 : Eq (decode cX0_work 78) (Except.ok (Instr.ifCond .le 7, 3)) := fE fw_dX0_work_72_c 4 rfl
theorem dX0_work_81 : Eq (decode cX0_work 81) (Except.ok (Instr.iconst 1, 1)) := fE fw_dX0_work_72_c 5 rfl
theorem dX0_work_82 : Eq (decode cX0_work 82) (Except.ok (Instr.goto 4, 3)) := fE fw_dX0_work_72_c 6 rfl
theorem dX0_work_85 : Eq (decode cX0_work 85) (Except.ok (Instr.iconst 0, 1)) := fE fw_dX0_work_72_c 7 rfl
theorem dX0_work_86 : Eq (decode cX0_work 86) (Except.ok (Instr.istore 9, 2)) := fE fw_dX0_work_72_c 8 rfl
theorem dX0_work_88 : Eq (decode cX0_work 88) (Except.ok (Instr.goto 21, 3)) := fE fw_dX0_work_72_c 9 rfl
theorem dX0_work_91 : Eq (decode cX0_work 91) (Except.ok (Instr.lload_n 3, 1)) := fE fw_dX0_work_72_c 10 rfl
theorem dX0_work_92 : Eq (decode cX0_work 92) (Except.ok (Instr.lload 5, 2)) := fE fw_dX0_work_72_c 11 rfl
theorem dX0_work_94 : Eq (decode cX0_work 94) (Except.ok (Instr.land, 1)) := fE fw_dX0_work_72_c 12 rfl
theorem dX0_work_95 : Eq (decode cX0_work 95) (Except.ok (Instr.lstore 7, 2)) := fE fw_dX0_work_72_c 13 rfl
theorem dX0_work_97 : Eq (decode cX0_work 97) (Except.ok (Instr.goto 12, 3)) := fE fw_dX0_work_72_c 14 rfl
theorem dX0_work_100 : Eq (decode cX0_work 100) (Except.ok (Instr.lload_n 3, 1)) := fE fw_dX0_work_72_c 15 rfl
theorem dX0_work_101 : Eq (decode cX0_work 101) (Except.ok (Instr.lload 5, 2)) := fE fw_dX0_work_72_c 16 rfl
theorem dX0_work_103 : Eq (decode cX0_work 103) (Except.ok (Instr.lxor, 1)) := fE fw_dX0_work_72_c 17 rfl
theorem dX0_work_104 : Eq (decode cX0_work 104) (Except.ok (Instr.lstore 7, 2)) := fE fw_dX0_work_72_c 18 rfl
theorem dX0_work_106 : Eq (decode cX0_work 106) (Except.ok (Instr.goto 3, 3)) := fE fw_dX0_work_72_c 19 rfl
def fw_dX0_work_109 : List (Nat × Instr × Nat) := [(109, .aload_n 0, 1), (110, .iload_n 2, 1), (111, .lload 7, 2), (113, .invokevirtual 119, 3), (116, .aload_n 0, 1), (117, .bipush 8, 2), (119, .aload_n 0, 1), (120, .getfield 26, 3), (123, .iload_n 2, 1), (124, .lload 7, 2), (126, .invokevirtual 138, 3), (129, .lconst 0, 1), (130, .lcmp, 1), (131, .ifCond .ne 7, 3), (134, .lconst 1, 1), (135, .goto 4, 3), (138, .lconst 0, 1), (139, .invokevirtual 119, 3), (142, .aload_n 0, 1), (143, .bipush 9, 2)]
theorem fw_dX0_work_109_c : fchk 109 (cX0_work.data.toList.drop 109) fw_dX0_work_109 = true := by decide +kernel
theorem dX0_work_109 : Eq (decode cX0_work 109) (Except.ok (Instr.aload_n 0, 1)) := fE fw_dX0_work_109_c 0 rfl
theorem dX0_work_110 : Eq (decode cX0_work 110) (Except.ok (Instr.iload_n 2, 1)) := fE fw_dX0_work_109_c 1 rfl
theorem dX0_work_111 : Eq (decode cX0_work 111) (Except.ok (Instr.lload 7, 2)) := fE fw_dX0_work_109_c 2 rfl
theorem dX0_work_113 : Eq (decode cX0_work 113) (Except.ok (Instr.invokevirtual 119, 3)) := fE fw_dX0_work_109_c 3 rfl
theorem dX0_work_116 : Eq (decode cX0_work 116) (Except.ok (Instr.aload_n 0, 1)) := fE fw_dX0_work_109_c 4 rfl
theorem dX0_work_117 : Eq (decode cX0_work 117) (Except.ok (Instr.bipush 8, 2)) := fE fw_dX0_work_109_c 5 rfl
theorem dX0_work_119 : Eq (decode cX0_work 119) (Except.ok (Instr.aload_n 0, 1)) := fE fw_dX0_work_109_c 6 rfl
theorem dX0_work_120 : Eq (decode cX0_work 120) (Except.ok (Instr.getfield 26, 3)) := fE fw_dX0_work_109_c 7 rfl
theorem dX0_work_123 : Eq (decode cX0_work 123) (Except.ok (Instr.iload_n 2, 1)) := fE fw_dX0_work_109_c 8 rfl
theorem dX0_work_124 : Eq (decode cX0_work 124) (Except.ok (Instr.lload 7, 2)) := fE fw_dX0_work_109_c 9 rfl
theorem dX0_work_126 : Eq (decode cX0_work 126) (Except.ok (Instr.invokevirtual 138, 3)) := fE fw_dX0_work_109_c 10 rfl
theorem dX0_work_129 : Eq (decode cX0_work 129) (Except.ok (Instr.lconst 0, 1)) := fE fw_dX0_work_109_c 11 rfl
theorem dX0_work_130 : Eq (decode cX0_work 130) (Except.ok (Instr.lcmp, 1)) := fE fw_dX0_work_109_c 12 rfl
theorem dX0_work_131 : Eq (decode cX0_work 131) (Except.ok (Instr.ifCond .ne 7, 3)) := fE fw_dX0_work_109_c 13 rfl
theorem dX0_work_134 : Eq (decode cX0_work 134) (Except.ok (Instr.lconst 1, 1)) := fE fw_dX0_work_109_c 14 rfl
theorem dX0_work_135 : Eq (decode cX0_work 135) (Except.ok (Instr.goto 4, 3)) := fE fw_dX0_work_109_c 15 rfl
theorem dX0_work_138 : Eq (decode cX0_work 138) (Except.ok (Instr.lconst 0, 1)) := fE fw_dX0_work_109_c 16 rfl
theorem dX0_work_139 : Eq (decode cX0_work 139) (Except.ok (Instr.invokevirtual 119, 3)) := fE fw_dX0_work_109_c 17 rfl
theorem dX0_work_142 : Eq (decode cX0_work 142) (Except.ok (Instr.aload_n 0, 1)) := fE fw_dX0_work_109_c 18 rfl
theorem dX0_work_143 : Eq (decode cX0_work 143) (Except.ok (Instr.bipush 9, 2)) := fE fw_dX0_work_109_c 19 rfl
def fw_dX0_work_145 : List (Nat × Instr × Nat) := [(145, .iload 9, 2), (147, .ifCond .eq 7, 3), (150, .lconst 1, 1), (151, .goto 4, 3), (154, .lconst 0, 1), (155, .invokevirtual 119, 3), (158, .return_, 1)]
theorem fw_dX0_work_145_c : fchk 145 (cX0_work.data.toList.drop 145) fw_dX0_work_145 = true := by decide +kernel
theorem dX0_work_145 : Eq (decode cX0_work 145) (Except.ok (Instr.iload 9, 2)) := fE fw_dX0_work_145_c 0 rfl
theorem dX0_work_147 : Eq (decode cX0_work 147) (Except.ok (Instr.ifCond .eq 7, 3)) := fE fw_dX0_work_145_c 1 rfl
theorem dX0_work_150 : Eq (decode cX0_work 150) (Except.ok (Instr.lconst 1, 1)) := fE fw_dX0_work_145_c 2 rfl
theorem dX0_work_151 : Eq (decode cX0_work 151) (Except.ok (Instr.goto 4, 3)) := fE fw_dX0_work_145_c 3 rfl
theorem dX0_work_154 : Eq (decode cX0_work 154) (Except.ok (Instr.lconst 0, 1)) := fE fw_dX0_work_145_c 4 rfl
theorem dX0_work_155 : Eq (decode cX0_work 155) (Except.ok (Instr.invokevirtual 119, 3)) := fE fw_dX0_work_145_c 5 rfl
theorem dX0_work_158 : Eq (decode cX0_work 158) (Except.ok (Instr.return_, 1)) := fE fw_dX0_work_145_c 6 rfl
def fw_dX0_putLater_0 : List (Nat × Instr × Nat) := [(0, .aload_n 0, 1), (1, .getfield 93, 3), (4, .bipush 30, 2), (6, .if_icmp .ge 33, 3), (9, .aload_n 0, 1), (10, .getfield 15, 3), (13, .aload_n 0, 1), (14, .getfield 93, 3), (17, .iload_n 1, 1), (18, .iastore, 1), (19, .aload_n 0, 1), (20, .getfield 19, 3), (23, .aload_n 0, 1), (24, .getfield 93, 3), (27, .lload_n 2, 1), (28, .lastore, 1), (29, .aload_n 0, 1), (30, .dup, 1), (31, .getfield 93, 3), (34, .iconst 1, 1)]
theorem fw_dX0_putLater_0_c : fchk 0 (cX0_putLater.data.toList.drop 0) fw_dX0_putLater_0 = true := by decide +kernel
theorem dX0_putLater_0 : Eq (decode cX0_putLater 0) (Except.ok (Instr.aload_n 0, 1)) := fE fw_dX0_putLater_0_c 0 rfl
theorem dX0_putLater_1 : Eq (decode cX0_putLater 1) (Except.ok (Instr.getfield 93, 3)) := fE fw_dX0_putLater_0_c 1 rfl
theorem dX0_putLater_4 : Eq (decode cX0_putLater 4) (Except.ok (Instr.bipush 30, 2)) := fE fw_dX0_putLater_0_c 2 rfl
theorem dX0_putLater_6 : Eq (decode cX0_putLater 6) (Except.ok (Instr.if_icmp .ge 33, 3)) := fE fw_dX0_putLater_0_c 3 rfl
theorem dX0_putLater_9 : Eq (decode cX0_putLater 9) (Except.ok (Instr.aload_n 0, 1)) := fE fw_dX0_putLater_0_c 4 rfl
theorem dX0_putLater_10 : Eq (decode cX0_putLater 10) (Except.ok (Instr.getfield 15, 3)) := fE fw_dX0_putLater_0_c 5 rfl
theorem dX0_putLater_13 : Eq (decode cX0_putLater 13) (Except.ok (Instr.aload_n 0, 1)) := fE fw_dX0_putLater_0_c 6 rfl
theorem dX0_putLater_14 : Eq (decode cX0_putLater 14) (Except.ok (Instr.getfield 93, 3)) := fE fw_dX0_putLater_0_c 7 rfl
theorem dX0_putLater_17 : Eq (decode cX0_putLater 17) (Except.ok (Instr.iload_n 1, 1)) := fE fw_dX0_putLater_0_c 8 rfl
theorem dX0_putLater_18 : Eq (decode cX0_putLater 18) (Except.ok (Instr.iastore, 1)) := fE fw_dX0_putLater_0_c 9 rfl
theorem dX0_putLater_19 : Eq (decode cX0_putLater 19) (Except.ok (Instr.aload_n 0, 1)) := fE fw_dX0_putLater_0_c 10 rfl
theorem dX0_putLater_20 : Eq (decode cX0_putLater 20) (Except.ok (Instr.getfield 19, 3)) := fE fw_dX0_putLater_0_c 11 rfl
theorem dX0_putLater_23 : Eq (decode cX0_putLater 23) (Except.ok (Instr.aload_n 0, 1)) := fE fw_dX0_putLater_0_c 12 rfl
theorem dX0_putLater_24 : Eq (decode cX0_putLater 24) (Except.ok (Instr.getfield 93, 3)) := fE fw_dX0_putLater_0_c 13 rfl
theorem dX0_putLater_27 : Eq (decode cX0_putLater 27) (Except.ok (Instr.lload_n 2, 1)) := fE fw_dX0_putLater_0_c 14 rfl
theorem dX0_putLater_28 : Eq (decode cX0_putLater 28) (Except.ok (Instr.lastore, 1)) := fE fw_dX0_putLater_0_c 15 rfl
theorem dX0_putLater_29 : Eq (decode cX0_putLater 29) (Except.ok (Instr.aload_n 0, 1)) := fE fw_dX0_putLater_0_c 16 rfl
theorem dX0_putLater_30 : Eq (decode cX0_putLater 30) (Except.ok (Instr.dup, 1)) := fE fw_dX0_putLater_0_c 17 rfl
theorem dX0_putLater_31 : Eq (decode cX0_putLater 31) (Except.ok (Instr.getfield 93, 3)) := fE fw_dX0_putLater_0_c 18 rfl
theorem dX0_putLater_34 : Eq (decode cX0_putLater 34) (Except.ok (Instr.iconst 1, 1)) := fE fw_dX0_putLater_0_c 19 rfl
def fw_dX0_putLater_35 : List (Nat × Instr × Nat) := [(35, .iadd, 1), (36, .putfield 93, 3), (39, .return_, 1)]
theorem fw_dX0_putLater_35_c : fchk 35 (cX0_putLater.data.toList.drop 35) fw_dX0_putLater_35 = true := by decide +kernel
theorem dX0_putLater_35 : Eq (decode cX0_putLater 35) (Except.ok (Instr.iadd, 1)) := fE fw_dX0_putLater_35_c 0 rfl
theorem dX0_putLater_36 : Eq (decode cX0_putLater 36) (Except.ok (Instr.putfield 93, 3)) := fE fw_dX0_putLater_35_c 1 rfl
theorem dX0_putLater_39 : Eq (decode cX0_putLater 39) (Except.ok (Instr.return_, 1)) := fE fw_dX0_putLater_35_c 2 rfl
def fw_dX1_init_0 : List (Nat × Instr × Nat) := [(0, .aload_n 0, 1), (1, .invokespecial 3, 3), (4, .aload_n 0, 1), (5, .bipush 7, 2)]
theorem fw_dX1_init_0_c : fchk 0 (cX1_init.data.toList.drop 0) fw_dX1_init_0 = true := by decide +kernel
theorem dX1_init_0 : Eq (decode cX1_init 0) (Except.ok (Instr.aload_n 0, 1)) := fE fw_dX1_init_0_c 0 rfl
theorem dX1_init_1 : Eq (decode cX1_init 1) (Except.ok (Instr.invokespecial 3, 3)) := fE fw_dX1_init_0_c 1 rfl
theorem dX1_init_4 : Eq (decode cX1_init 4) (Except.ok (Instr.aload_n 0, 1)) := fE fw_dX1_init_0_c 2 rfl
theorem dX1_init_5 : Eq (decode cX1_init 5) (Except.ok (Instr.bipush 7, 2)) := fE fw_dX1_init_0_c 3 rfl
theorem dX1_init_7 : decode cX1_init 7 = .ok (.newarray .int, 2) := by decide +kernel
def fw_dX1_init_9 : List (Nat × Instr × Nat) := [(9, .putfield 9, 3), (12, .aload_n 0, 1), (13, .bipush 120, 2)]
theorem fw_dX1_init_9_c : fchk 9 (cX1_init.data.toList.drop 9) fw_dX1_init_9 = true := by decide +kernel
theorem dX1_init_9 : Eq (decode cX1_init 9) (Except.ok (Instr.putfield 9, 3)) := fE fw_dX1_init_9_c 0 rfl
theorem dX1_init_12 : Eq (decode cX1_init 12) (Except.ok (Instr.aload_n 0, 1)) := fE fw_dX1_init_9_c 1 rfl
theorem dX1_init_13 : Eq (decode cX1_init 13) (Except.ok (Instr.bipush 120, 2)) := fE fw_dX1_init_9_c 2 rfl
theorem dX1_init_15 : decode cX1_init 15 = .ok (.newarray .int, 2) := by decide +kernel
def fw_dX1_init_17 : List (Nat × Instr × Nat) := [(17, .putfield 15, 3), (20, .aload_n 0, 1), (21, .bipush 120, 2)]
theorem fw_dX1_init_17_c : fchk 17 (cX1_init.data.toList.drop 17) fw_dX1_init_17 = true := by decide +kernel
theorem dX1_init_17 : Eq (decode cX1_init 17) (Except.ok (Instr.putfield 15, 3)) := fE fw_dX1_init_17_c 0 rfl
theorem dX1_init_20 : Eq (decode cX1_init 20) (Except.ok (Instr.aload_n 0, 1)) := fE fw_dX1_init_17_c 1 rfl
theorem dX1_init_21 : Eq (decode cX1_init 21) (Except.ok (Instr.bipush 120, 2)) := fE fw_dX1_init_17_c 2 rfl
theorem dX1_init_23 : decode cX1_init 23 = .ok (.newarray .int, 2) := by decide +kernel
def fw_dX1_init_25 : List (Nat × Instr × Nat) := [(25, .putfield 18, 3), (28, .aload_n 0, 1), (29, .bipush 7, 2)]
theorem fw_dX1_init_25_c : fchk 25 (cX1_init.data.toList.drop 25) fw_dX1_init_25 = true := by decide +kernel
theorem dX1_init_25 : Eq (decode cX1_init 25) (Except.ok (Instr.putfield 18, 3)) := fE fw_dX1_init_25_c 0 rfl
theorem dX1_init_28 : Eq (decode cX1_init 28) (Except.ok (Instr.aload_n 0, 1)) := fE fw_dX1_init_25_c 1 rfl
theorem dX1_init_29 : Eq (decode cX1_init 29) (Except.ok (Instr.bipush 7, 2)) := fE fw_dX1_init_25_c 2 rfl
theorem dX1_init_31 : decode cX1_init 31 = .ok (.newarray .int, 2) := by decide +kernel
def fw_dX1_init_33 : List (Nat × Instr × Nat) := [(33, .putfield 21, 3), (36, .aload_n 0, 1), (37, .bipush 7, 2)]
theorem fw_dX1_init_33_c : fchk 33 (cX1_init.data.toList.drop 33) fw_dX1_init_33 = true := by decide +kernel
theorem dX1_init_33 : Eq (decode cX1_init 33) (Except.ok (Instr.putfield 21, 3)) := fE fw_dX1_init_33_c 0 rfl
theorem dX1_init_36 : Eq (decode cX1_init 36) (Except.ok (Instr.aload_n 0, 1)) := fE fw_dX1_init_33_c 1 rfl
theorem dX1_init_37 : Eq (decode cX1_init 37) (Except.ok (Instr.bipush 7, 2)) := fE fw_dX1_init_33_c 2 rfl
theorem dX1_init_39 : decode cX1_init 39 = .ok (.newarray .int, 2) := by decide +kernel
def fw_dX1_init_41 : List (Nat × Instr × Nat) := [(41, .putfield 24, 3), (44, .aload_n 0, 1), (45, .bipush 7, 2)]
theorem fw_dX1_init_41_c : fchk 41 (cX1_init.data.toList.drop 41) fw_dX1_init_41 = true := by decide +kernel
theorem dX1_init_41 : Eq (decode cX1_init 41) (Except.ok (Instr.putfield 24, 3)) := fE fw_dX1_init_41_c 0 rfl
theorem dX1_init_44 : Eq (decode cX1_init 44) (Except.ok (Instr.aload_n 0, 1)) := fE fw_dX1_init_41_c 1 rfl
theorem dX1_init_45 : Eq (decode cX1_init 45) (Except.ok (Instr.bipush 7, 2)) := fE fw_dX1_init_41_c 2 rfl
theorem dX1_init_47 : decode cX1_init 47 = .ok (.newarray .int, 2) := by decide +kernel
def fw_dX1_init_49 : List (Nat × Instr × Nat) := [(49, .putfield 27, 3), (52, .aload_n 0, 1), (53, .bipush 7, 2)]
theorem fw_dX1_init_49_c : fchk 49 (cX1_init.data.toList.drop 49) fw_dX1_init_49 = true := by decide +kernel
theorem dX1_init_49 : Eq (decode cX1_init 49) (Except.ok (Instr.putfield 27, 3)) := fE fw_dX1_init_49_c 0 rfl
theorem dX1_init_52 : Eq (decode cX1_init 52) (Except.ok (Instr.aload_n 0, 1)) := fE fw_dX1_init_49_c 1 rfl
theorem dX1_init_53 : Eq (decode cX1_init 53) (Except.ok (Instr.bipush 7, 2)) := fE fw_dX1_init_49_c 2 rfl
theorem dX1_init_55 : decode cX1_init 55 = .ok (.newarray .int, 2) := by decide +kernel
def fw_dX1_init_57 : List (Nat × Instr × Nat) := [(57, .putfield 30, 3), (60, .aload_n 0, 1), (61, .aload_n 1, 1), (62, .putfield 33, 3), (65, .aload_n 0, 1), (66, .aload_n 2, 1), (67, .putfield 37, 3), (70, .return_, 1)]
theorem fw_dX1_init_57_c : fchk 57 (cX1_init.data.toList.drop 57) fw_dX1_init_57 = true := by decide +kernel
theorem dX1_init_57 : Eq (decode cX1_init 57) (Except.ok (Instr.putfield 30, 3)) := fE fw_dX1_init_57_c 0 rfl
theorem dX1_init_60 : Eq (decode cX1_init 60) (Except.ok (Instr.aload_n 0, 1)) := fE fw_dX1_init_57_c 1 rfl
theorem dX1_init_61 : Eq (decode cX1_init 61) (Except.ok (Instr.aload_n 1, 1)) := fE fw_dX1_init_57_c 2 rfl
theorem dX1_init_62 : Eq (decode cX1_init 62) (Except.ok (Instr.putfield 33, 3)) := fE fw_dX1_init_57_c 3 rfl
theorem dX1_init_65 : Eq (decode cX1_init 65) (Except.ok (Instr.aload_n 0, 1)) := fE fw_dX1_init_57_c 4 rfl
theorem dX1_init_66 : Eq (decode cX1_init 66) (Except.ok (Instr.aload_n 2, 1)) := fE fw_dX1_init_57_c 5 rfl
theorem dX1_init_67 : Eq (decode cX1_init 67) (Except.ok (Instr.putfield 37, 3)) := fE fw_dX1_init_57_c 6 rfl
theorem dX1_init_70 : Eq (decode cX1_init 70) (Except.ok (Instr.return_, 1)) := fE fw_dX1_init_57_c 7 rfl
set_option maxRecDepth 20000 in
theorem gi_wsX1_make_0 : GoodIn wsX1_make wsX1_make_r1 := goodIn_sub (fun w h => List.mem_cons_of_mem _ (List.mem_append_left _ (List.mem_append_left _ (List.mem_append_left _ (List.mem_append_left _ h))))) (by decide +kernel)
set_option maxRecDepth 20000 in
theorem gi_wsX1_make_1 : GoodIn wsX1_make wsX1_make_r2 := goodIn_sub (fun w h => List.mem_cons_of_mem _ (List.mem_append_left _ (List.mem_append_left _ (List.mem_append_left _ (List.mem_append_right _ (List.mem_append_left _ h)))))) (by decide +kernel)
set_option maxRecDepth 20000 in
theorem gi_wsX1_make_2 : GoodIn wsX1_make wsX1_make_r3 := goodIn_sub (fun w h => List.mem_cons_of_mem _ (List.mem_append_left _ (List.mem_append_left _ (List.mem_append_left _ (List.mem_append_right _ (List.mem_append_right _ h)))))) (by decide +kernel)
set_option maxRecDepth 20000 in
theorem gi_wsX1_make_3 : GoodIn wsX1_make wsX10 := goodIn_sub (fun w h => List.mem_cons_of_mem _ (List.mem_append_left _ (List.mem_append_left _ (List.mem_append_right _ h)))) (by decide +kernel)
set_option maxRecDepth 20000 in
theorem gi_wsX1_make_4 : GoodIn wsX1_make wsX40 := goodIn_sub (fun w h => List.mem_cons_of_mem _ (List.mem_append_left _ (List.mem_append_right _ h))) (by decide +kernel)
set_option maxRecDepth 20000 in
theorem gi_wsX1_make_5 : GoodIn wsX1_make wsX50 := goodIn_sub (fun w h => List.mem_cons_of_mem _ (List.mem_append_right _ h)) (by decide +kernel)
def bs_wsX1_make : List (List Cond) := [wsX1_make_r1, wsX1_make_r2, wsX1_make_r3, wsX10, wsX40, wsX50]
theorem bs_wsX1_make_in : ∀ b ∈ bs_wsX1_make, GoodIn wsX1_make b := List.forall_mem_cons.mpr ⟨gi_wsX1_make_0, List.forall_mem_cons.mpr ⟨gi_wsX1_make_1, List.forall_mem_cons.mpr ⟨gi_wsX1_make_2, List.forall_mem_cons.mpr ⟨gi_wsX1_make_3, List.forall_mem_cons.mpr ⟨gi_wsX1_make_4, List.forall_mem_cons.mpr ⟨gi_wsX1_make_5, (fun _ h => absurd h List.not_mem_nil)⟩⟩⟩⟩⟩⟩
set_option maxRecDepth 20000 in
theorem ggX1_make_J7_fill_53178 : GoodIn wsX1_make wsJ7_fill_53178 := goodIn_k (gi_q bs_wsX1_make_in _ [(0, 13)] rfl) (gi_q bs_wsX1_make_in _ [] rfl)
set_option maxRecDepth 20000 in
theorem gX1_make_J7_fill_53178 : GoodIn wsX1_make (va_wsS RX1 45 yJ7_fill_53178 wsJ7_fill_53178) := goodIn_app (gi_q bs_wsX1_make_in _ [(0, 10), (0, 11), (0, 12)] rfl) ggX1_make_J7_fill_53178
set_option maxRecDepth 20000 in
theorem ggX1_make_X1_learnActs : GoodIn wsX1_make wsX1_learnActs := goodIn_k (gi_q bs_wsX1_make_in _ [(0, 18)] rfl) (goodIn_app (goodIn_app (goodIn_app (gi_q bs_wsX1_make_in _ [(0, 19), (0, 20), (0, 21), (0, 22), (0, 23), (1, 0), (1, 1), (1, 2), (1, 3), (1, 4), (1, 5), (1, 6), (1, 7), (1, 8), (1, 9), (0, 17), (1, 10), (0, 0), (1, 11), (1, 12), (0, 1), (1, 13), (1, 14), (1, 15)] rfl) (gi_q bs_wsX1_make_in _ [(1, 16), (1, 17), (1, 18), (1, 19)] rfl)) (gi_wsX1_make_3)) (gi_wsX1_make_5))
set_option maxRecDepth 20000 in
theorem gX1_make_X1_learnActs : GoodIn wsX1_make (wsV RX1 62 RX1 yX1_learnActs wsX1_learnActs) := goodIn_app (gi_q bs_wsX1_make_in _ [(0, 14), (0, 15), (0, 16), (0, 17)] rfl) ggX1_make_X1_learnActs
set_option maxRecDepth 20000 in
theorem ggX1_make_X1_learnMeetings : GoodIn wsX1_make wsX1_learnMeetings := goodIn_k (gi_q bs_wsX1_make_in _ [(1, 23)] rfl) (goodIn_app (gi_q bs_wsX1_make_in _ [(0, 2), (0, 20), (0, 21), (0, 22)] rfl) (gi_wsX1_make_3))
set_option maxRecDepth 20000 in
theorem gX1_make_X1_learnMeetings : GoodIn wsX1_make (wsV RX1 66 RX1 yX1_learnMeetings wsX1_learnMeetings) := goodIn_app (gi_q bs_wsX1_make_in _ [(1, 20), (1, 21), (1, 22), (0, 17)] rfl) ggX1_make_X1_learnMeetings
set_option maxRecDepth 20000 in
theorem ggX1_make_X1_makeGroups : GoodIn wsX1_make wsX1_makeGroups := goodIn_k (gi_q bs_wsX1_make_in _ [(2, 3)] rfl) (goodIn_app (gi_q bs_wsX1_make_in _ [(0, 8), (2, 4), (0, 9), (2, 5), (0, 1), (2, 6), (2, 7), (2, 8), (2, 9), (0, 10), (0, 11), (0, 12), (0, 13), (2, 10), (2, 11), (2, 12), (0, 17), (2, 13), (0, 2)] rfl) (gi_wsX1_make_3))
set_option maxRecDepth 20000 in
theorem gX1_make_X1_makeGroups : GoodIn wsX1_make (wsV RX1 70 RX1 yX1_makeGroups wsX1_makeGroups) := goodIn_app (gi_q bs_wsX1_make_in _ [(2, 0), (2, 1), (2, 2), (0, 17)] rfl) ggX1_make_X1_makeGroups
set_option maxRecDepth 20000 in
theorem ggX1_make_X1_bitsToTell : GoodIn wsX1_make wsX1_bitsToTell := goodIn_k (gi_q bs_wsX1_make_in _ [(2, 16)] rfl) (gi_q bs_wsX1_make_in _ [] rfl)
set_option maxRecDepth 20000 in
theorem gX1_make_X1_bitsToTell : GoodIn wsX1_make (va_wsS RX1 73 yX1_bitsToTell wsX1_bitsToTell) := goodIn_app (gi_q bs_wsX1_make_in _ [(2, 14), (2, 15), (0, 17)] rfl) ggX1_make_X1_bitsToTell
def fw_dX1_make_0 : List (Nat × Instr × Nat) := [(0, .aload_n 0, 1), (1, .iconst 0, 1), (2, .putfield 41, 3), (5, .aload_n 0, 1), (6, .getfield 21, 3), (9, .iconst 0, 1), (10, .invokestatic 45, 3), (13, .aload_n 0, 1), (14, .getfield 24, 3), (17, .iconst 0, 1), (18, .invokestatic 45, 3), (21, .iconst 0, 1), (22, .istore_n 1, 1), (23, .iload_n 1, 1), (24, .aload_n 0, 1), (25, .getfield 37, 3), (28, .getfield 51, 3), (31, .if_icmp .ge 35, 3), (34, .aload_n 0, 1), (35, .aload_n 0, 1)]
theorem fw_dX1_make_0_c : fchk 0 (cX1_make.data.toList.drop 0) fw_dX1_make_0 = true := by decide +kernel
theorem dX1_make_0 : Eq (decode cX1_make 0) (Except.ok (Instr.aload_n 0, 1)) := fE fw_dX1_make_0_c 0 rfl
theorem dX1_make_1 : Eq (decode cX1_make 1) (Except.ok (Instr.iconst 0, 1)) := fE fw_dX1_make_0_c 1 rfl
theorem dX1_make_2 : Eq (decode cX1_make 2) (Except.ok (Instr.putfield 41, 3)) := fE fw_dX1_make_0_c 2 rfl
theorem dX1_make_5 : Eq (decode cX1_make 5) (Except.ok (Instr.aload_n 0, 1)) := fE fw_dX1_make_0_c 3 rfl
theorem dX1_make_6 : Eq (decode cX1_make 6) (Except.ok (Instr.getfield 21, 3)) := fE fw_dX1_make_0_c 4 rfl
theorem dX1_make_9 : Eq (decode cX1_make 9) (Except.ok (Instr.iconst 0, 1)) := fE fw_dX1_make_0_c 5 rfl
theorem dX1_make_10 : Eq (decode cX1_make 10) (Except.ok (Instr.invokestatic 45, 3)) := fE fw_dX1_make_0_c 6 rfl
theorem dX1_make_13 : Eq (decode cX1_make 13) (Except.ok (Instr.aload_n 0, 1)) := fE fw_dX1_make_0_c 7 rfl
theorem dX1_make_14 : Eq (decode cX1_make 14) (Except.ok (Instr.getfield 24, 3)) := fE fw_dX1_make_0_c 8 rfl
theorem dX1_make_17 : Eq (decode cX1_make 17) (Except.ok (Instr.iconst 0, 1)) := fE fw_dX1_make_0_c 9 rfl
theorem dX1_make_18 : Eq (decode cX1_make 18) (Except.ok (Instr.invokestatic 45, 3)) := fE fw_dX1_make_0_c 10 rfl
theorem dX1_make_21 : Eq (decode cX1_make 21) (Except.ok (Instr.iconst 0, 1)) := fE fw_dX1_make_0_c 11 rfl
theorem dX1_make_22 : Eq (decode cX1_make 22) (Except.ok (Instr.istore_n 1, 1)) := fE fw_dX1_make_0_c 12 rfl
theorem dX1_make_23 : Eq (decode cX1_make 23) (Except.ok (Instr.iload_n 1, 1)) := fE fw_dX1_make_0_c 13 rfl
theorem dX1_make_24 : Eq (decode cX1_make 24) (Except.ok (Instr.aload_n 0, 1)) := fE fw_dX1_make_0_c 14 rfl
theorem dX1_make_25 : Eq (decode cX1_make 25) (Except.ok (Instr.getfield 37, 3)) := fE fw_dX1_make_0_c 15 rfl
theorem dX1_make_28 : Eq (decode cX1_make 28) (Except.ok (Instr.getfield 51, 3)) := fE fw_dX1_make_0_c 16 rfl
theorem dX1_make_31 : Eq (decode cX1_make 31) (Except.ok (Instr.if_icmp .ge 35, 3)) := fE fw_dX1_make_0_c 17 rfl
theorem dX1_make_34 : Eq (decode cX1_make 34) (Except.ok (Instr.aload_n 0, 1)) := fE fw_dX1_make_0_c 18 rfl
theorem dX1_make_35 : Eq (decode cX1_make 35) (Except.ok (Instr.aload_n 0, 1)) := fE fw_dX1_make_0_c 19 rfl
def fw_dX1_make_36 : List (Nat × Instr × Nat) := [(36, .aload_n 0, 1), (37, .getfield 37, 3), (40, .getfield 56, 3), (43, .iload_n 1, 1), (44, .iaload, 1), (45, .aload_n 0, 1), (46, .getfield 37, 3), (49, .getfield 59, 3), (52, .iload_n 1, 1), (53, .iaload, 1), (54, .invokevirtual 62, 3), (57, .invokevirtual 66, 3)]
theorem fw_dX1_make_36_c : fchk 36 (cX1_make.data.toList.drop 36) fw_dX1_make_36 = true := by decide +kernel
theorem dX1_make_36 : Eq (decode cX1_make 36) (Except.ok (Instr.aload_n 0, 1)) := fE fw_dX1_make_36_c 0 rfl
theorem dX1_make_37 : Eq (decode cX1_make 37) (Except.ok (Instr.getfield 37, 3)) := fE fw_dX1_make_36_c 1 rfl
theorem dX1_make_40 : Eq (decode cX1_make 40) (Except.ok (Instr.getfield 56, 3)) := fE fw_dX1_make_36_c 2 rfl
theorem dX1_make_43 : Eq (decode cX1_make 43) (Except.ok (Instr.iload_n 1, 1)) := fE fw_dX1_make_36_c 3 rfl
theorem dX1_make_44 : Eq (decode cX1_make 44) (Except.ok (Instr.iaload, 1)) := fE fw_dX1_make_36_c 4 rfl
theorem dX1_make_45 : Eq (decode cX1_make 45) (Except.ok (Instr.aload_n 0, 1)) := fE fw_dX1_make_36_c 5 rfl
theorem dX1_make_46 : Eq (decode cX1_make 46) (Except.ok (Instr.getfield 37, 3)) := fE fw_dX1_make_36_c 6 rfl
theorem dX1_make_49 : Eq (decode cX1_make 49) (Except.ok (Instr.getfield 59, 3)) := fE fw_dX1_make_36_c 7 rfl
theorem dX1_make_52 : Eq (decode cX1_make 52) (Except.ok (Instr.iload_n 1, 1)) := fE fw_dX1_make_36_c 8 rfl
theorem dX1_make_53 : Eq (decode cX1_make 53) (Except.ok (Instr.iaload, 1)) := fE fw_dX1_make_36_c 9 rfl
theorem dX1_make_54 : Eq (decode cX1_make 54) (Except.ok (Instr.invokevirtual 62, 3)) := fE fw_dX1_make_36_c 10 rfl
theorem dX1_make_57 : Eq (decode cX1_make 57) (Except.ok (Instr.invokevirtual 66, 3)) := fE fw_dX1_make_36_c 11 rfl
theorem dX1_make_60 : decode cX1_make 60 = .ok (.iinc 1 1, 3) := by decide +kernel
def fw_dX1_make_63 : List (Nat × Instr × Nat) := [(63, .goto (-40), 3), (66, .aload_n 0, 1), (67, .invokevirtual 70, 3), (70, .aload_n 0, 1), (71, .aload_n 0, 1), (72, .getfield 37, 3), (75, .getfield 51, 3), (78, .iconst 1, 1), (79, .iadd, 1), (80, .invokestatic 73, 3), (83, .putfield 77, 3), (86, .iconst 0, 1), (87, .istore_n 1, 1), (88, .iload_n 1, 1), (89, .aload_n 0, 1), (90, .getfield 80, 3), (93, .if_icmp .ge 29, 3), (96, .aload_n 0, 1), (97, .dup, 1), (98, .getfield 77, 3)]
theorem fw_dX1_make_63_c : fchk 63 (cX1_make.data.toList.drop 63) fw_dX1_make_63 = true := by decide +kernel
theorem dX1_make_63 : Eq (decode cX1_make 63) (Except.ok (Instr.goto (-40), 3)) := fE fw_dX1_make_63_c 0 rfl
theorem dX1_make_66 : Eq (decode cX1_make 66) (Except.ok (Instr.aload_n 0, 1)) := fE fw_dX1_make_63_c 1 rfl
theorem dX1_make_67 : Eq (decode cX1_make 67) (Except.ok (Instr.invokevirtual 70, 3)) := fE fw_dX1_make_63_c 2 rfl
theorem dX1_make_70 : Eq (decode cX1_make 70) (Except.ok (Instr.aload_n 0, 1)) := fE fw_dX1_make_63_c 3 rfl
theorem dX1_make_71 : Eq (decode cX1_make 71) (Except.ok (Instr.aload_n 0, 1)) := fE fw_dX1_make_63_c 4 rfl
theorem dX1_make_72 : Eq (decode cX1_make 72) (Except.ok (Instr.getfield 37, 3)) := fE fw_dX1_make_63_c 5 rfl
theorem dX1_make_75 : Eq (decode cX1_make 75) (Except.ok (Instr.getfield 51, 3)) := fE fw_dX1_make_63_c 6 rfl
theorem dX1_make_78 : Eq (decode cX1_make 78) (Except.ok (Instr.iconst 1, 1)) := fE fw_dX1_make_63_c 7 rfl
theorem dX1_make_79 : Eq (decode cX1_make 79) (Except.ok (Instr.iadd, 1)) := fE fw_dX1_make_63_c 8 rfl
theorem dX1_make_80 : Eq (decode cX1_make 80) (Except.ok (Instr.invokestatic 73, 3)) := fE fw_dX1_make_63_c 9 rfl
theorem dX1_make_83 : Eq (decode cX1_make 83) (Except.ok (Instr.putfield 77, 3)) := fE fw_dX1_make_63_c 10 rfl
theorem dX1_make_86 : Eq (decode cX1_make 86) (Except.ok (Instr.iconst 0, 1)) := fE fw_dX1_make_63_c 11 rfl
theorem dX1_make_87 : Eq (decode cX1_make 87) (Except.ok (Instr.istore_n 1, 1)) := fE fw_dX1_make_63_c 12 rfl
theorem dX1_make_88 : Eq (decode cX1_make 88) (Except.ok (Instr.iload_n 1, 1)) := fE fw_dX1_make_63_c 13 rfl
theorem dX1_make_89 : Eq (decode cX1_make 89) (Except.ok (Instr.aload_n 0, 1)) := fE fw_dX1_make_63_c 14 rfl
theorem dX1_make_90 : Eq (decode cX1_make 90) (Except.ok (Instr.getfield 80, 3)) := fE fw_dX1_make_63_c 15 rfl
theorem dX1_make_93 : Eq (decode cX1_make 93) (Except.ok (Instr.if_icmp .ge 29, 3)) := fE fw_dX1_make_63_c 16 rfl
theorem dX1_make_96 : Eq (decode cX1_make 96) (Except.ok (Instr.aload_n 0, 1)) := fE fw_dX1_make_63_c 17 rfl
theorem dX1_make_97 : Eq (decode cX1_make 97) (Except.ok (Instr.dup, 1)) := fE fw_dX1_make_63_c 18 rfl
theorem dX1_make_98 : Eq (decode cX1_make 98) (Except.ok (Instr.getfield 77, 3)) := fE fw_dX1_make_63_c 19 rfl
def fw_dX1_make_101 : List (Nat × Instr × Nat) := [(101, .aload_n 0, 1), (102, .getfield 30, 3), (105, .iload_n 1, 1), (106, .iaload, 1), (107, .iconst 1, 1), (108, .iadd, 1), (109, .invokestatic 73, 3), (112, .iadd, 1), (113, .putfield 77, 3)]
theorem fw_dX1_make_101_c : fchk 101 (cX1_make.data.toList.drop 101) fw_dX1_make_101 = true := by decide +kernel
theorem dX1_make_101 : Eq (decode cX1_make 101) (Except.ok (Instr.aload_n 0, 1)) := fE fw_dX1_make_101_c 0 rfl
theorem dX1_make_102 : Eq (decode cX1_make 102) (Except.ok (Instr.getfield 30, 3)) := fE fw_dX1_make_101_c 1 rfl
theorem dX1_make_105 : Eq (decode cX1_make 105) (Except.ok (Instr.iload_n 1, 1)) := fE fw_dX1_make_101_c 2 rfl
theorem dX1_make_106 : Eq (decode cX1_make 106) (Except.ok (Instr.iaload, 1)) := fE fw_dX1_make_101_c 3 rfl
theorem dX1_make_107 : Eq (decode cX1_make 107) (Except.ok (Instr.iconst 1, 1)) := fE fw_dX1_make_101_c 4 rfl
theorem dX1_make_108 : Eq (decode cX1_make 108) (Except.ok (Instr.iadd, 1)) := fE fw_dX1_make_101_c 5 rfl
theorem dX1_make_109 : Eq (decode cX1_make 109) (Except.ok (Instr.invokestatic 73, 3)) := fE fw_dX1_make_101_c 6 rfl
theorem dX1_make_112 : Eq (decode cX1_make 112) (Except.ok (Instr.iadd, 1)) := fE fw_dX1_make_101_c 7 rfl
theorem dX1_make_113 : Eq (decode cX1_make 113) (Except.ok (Instr.putfield 77, 3)) := fE fw_dX1_make_101_c 8 rfl
theorem dX1_make_116 : decode cX1_make 116 = .ok (.iinc 1 1, 3) := by decide +kernel
def fw_dX1_make_119 : List (Nat × Instr × Nat) := [(119, .goto (-31), 3), (122, .return_, 1)]
theorem fw_dX1_make_119_c : fchk 119 (cX1_make.data.toList.drop 119) fw_dX1_make_119 = true := by decide +kernel
theorem dX1_make_119 : Eq (decode cX1_make 119) (Except.ok (Instr.goto (-31), 3)) := fE fw_dX1_make_119_c 0 rfl
theorem dX1_make_122 : Eq (decode cX1_make 122) (Except.ok (Instr.return_, 1)) := fE fw_dX1_make_119_c 1 rfl
set_option maxRecDepth 20000 in
theorem gi_wsX1_learnActs_0 : GoodIn wsX1_learnActs wsX1_learnActs_r1 := goodIn_sub (fun w h => List.mem_cons_of_mem _ (List.mem_append_left _ (List.mem_append_left _ (List.mem_append_left _ h)))) (by decide +kernel)
set_option maxRecDepth 20000 in
theorem gi_wsX1_learnActs_1 : GoodIn wsX1_learnActs wsX1_learnActs_r2 := goodIn_sub (fun w h => List.mem_cons_of_mem _ (List.mem_append_left _ (List.mem_append_left _ (List.mem_append_right _ h)))) (by decide +kernel)
set_option maxRecDepth 20000 in
theorem gi_wsX1_learnActs_2 : GoodIn wsX1_learnActs wsX10 := goodIn_sub (fun w h => List.mem_cons_of_mem _ (List.mem_append_left _ (List.mem_append_right _ h))) (by decide +kernel)
set_option maxRecDepth 20000 in
theorem gi_wsX1_learnActs_3 : GoodIn wsX1_learnActs wsX50 := goodIn_sub (fun w h => List.mem_cons_of_mem _ (List.mem_append_right _ h)) (by decide +kernel)
def bs_wsX1_learnActs : List (List Cond) := [wsX1_learnActs_r1, wsX1_learnActs_r2, wsX10, wsX50]
theorem bs_wsX1_learnActs_in : ∀ b ∈ bs_wsX1_learnActs, GoodIn wsX1_learnActs b := List.forall_mem_cons.mpr ⟨gi_wsX1_learnActs_0, List.forall_mem_cons.mpr ⟨gi_wsX1_learnActs_1, List.forall_mem_cons.mpr ⟨gi_wsX1_learnActs_2, List.forall_mem_cons.mpr ⟨gi_wsX1_learnActs_3, (fun _ h => absurd h List.not_mem_nil)⟩⟩⟩⟩
set_option maxRecDepth 20000 in
theorem ggX1_learnActs_X7_isIn : GoodIn wsX1_learnActs wsX7_isIn := goodIn_k (gi_q bs_wsX1_learnActs_in _ [(0, 3)] rfl) (gi_q bs_wsX1_learnActs_in _ [] rfl)
set_option maxRecDepth 20000 in
theorem gX1_learnActs_X7_isIn_n83 : GoodIn wsX1_learnActs (wsX7_isIn) := ggX1_learnActs_X7_isIn
set_option maxRecDepth 20000 in
theorem ggX1_learnActs_X7_slot : GoodIn wsX1_learnActs wsX7_slot := goodIn_k (gi_q bs_wsX1_learnActs_in _ [(0, 5)] rfl) (gi_q bs_wsX1_learnActs_in _ [] rfl)
set_option maxRecDepth 20000 in
theorem gX1_learnActs_X7_slot_n87 : GoodIn wsX1_learnActs (wsX7_slot) := ggX1_learnActs_X7_slot
set_option maxRecDepth 20000 in
theorem ggX1_learnActs_X5_partOf : GoodIn wsX1_learnActs wsX5_partOf := goodIn_k (gi_q bs_wsX1_learnActs_in _ [(0, 10)] rfl) (goodIn_app (gi_q bs_wsX1_learnActs_in _ [(0, 11)] rfl) (gi_wsX1_learnActs_3))
set_option maxRecDepth 20000 in
theorem gX1_learnActs_X5_partOf : GoodIn wsX1_learnActs (wsV RX1 90 RX5 yX5_partOf wsX5_partOf) := goodIn_app (gi_q bs_wsX1_learnActs_in _ [(0, 6), (0, 7), (0, 8), (0, 9)] rfl) ggX1_learnActs_X5_partOf
set_option maxRecDepth 20000 in
theorem ggX1_learnActs_X1_addIfNew : GoodIn wsX1_learnActs wsX1_addIfNew := goodIn_k (gi_q bs_wsX1_learnActs_in _ [(0, 16)] rfl) (goodIn_app (goodIn_app (gi_q bs_wsX1_learnActs_in _ [(0, 17), (0, 18), (0, 0), (0, 19), (0, 20), (0, 21), (0, 22), (0, 23), (0, 9), (1, 0), (0, 11), (1, 1), (1, 2), (1, 3)] rfl) (gi_wsX1_learnActs_2)) (gi_wsX1_learnActs_3))
set_option maxRecDepth 20000 in
theorem gX1_learnActs_X1_addIfNew : GoodIn wsX1_learnActs (wsV RX1 95 RX1 yX1_addIfNew wsX1_addIfNew) := goodIn_app (gi_q bs_wsX1_learnActs_in _ [(0, 12), (0, 13), (0, 14), (0, 15)] rfl) ggX1_learnActs_X1_addIfNew
def fw_dX1_learnActs_0 : List (Nat × Instr × Nat) := [(0, .iconst 0, 1), (1, .istore_n 3, 1), (2, .iconst 0, 1), (3, .istore 4, 2), (5, .iconst 0, 1), (6, .istore 5, 2), (8, .iload 5, 2), (10, .bipush 10, 2), (12, .if_icmp .ge 73, 3), (15, .iload_n 2, 1), (16, .iload 5, 2), (18, .invokestatic 83, 3), (21, .ifCond .eq 58, 3), (24, .iload_n 1, 1), (25, .iload 5, 2), (27, .invokestatic 87, 3), (30, .istore 6, 2), (32, .aload_n 0, 1), (33, .getfield 33, 3), (36, .iload 6, 2)]
theorem fw_dX1_learnActs_0_c : fchk 0 (cX1_learnActs.data.toList.drop 0) fw_dX1_learnActs_0 = true := by decide +kernel
theorem dX1_learnActs_0 : Eq (decode cX1_learnActs 0) (Except.ok (Instr.iconst 0, 1)) := fE fw_dX1_learnActs_0_c 0 rfl
theorem dX1_learnActs_1 : Eq (decode cX1_learnActs 1) (Except.ok (Instr.istore_n 3, 1)) := fE fw_dX1_learnActs_0_c 1 rfl
theorem dX1_learnActs_2 : Eq (decode cX1_learnActs 2) (Except.ok (Instr.iconst 0, 1)) := fE fw_dX1_learnActs_0_c 2 rfl
theorem dX1_learnActs_3 : Eq (decode cX1_learnActs 3) (Except.ok (Instr.istore 4, 2)) := fE fw_dX1_learnActs_0_c 3 rfl
theorem dX1_learnActs_5 : Eq (decode cX1_learnActs 5) (Except.ok (Instr.iconst 0, 1)) := fE fw_dX1_learnActs_0_c 4 rfl
theorem dX1_learnActs_6 : Eq (decode cX1_learnActs 6) (Except.ok (Instr.istore 5, 2)) := fE fw_dX1_learnActs_0_c 5 rfl
theorem dX1_learnActs_8 : Eq (decode cX1_learnActs 8) (Except.ok (Instr.iload 5, 2)) := fE fw_dX1_learnActs_0_c 6 rfl
theorem dX1_learnActs_10 : Eq (decode cX1_learnActs 10) (Except.ok (Instr.bipush 10, 2)) := fE fw_dX1_learnActs_0_c 7 rfl
theorem dX1_learnActs_12 : Eq (decode cX1_learnActs 12) (Except.ok (Instr.if_icmp .ge 73, 3)) := fE fw_dX1_learnActs_0_c 8 rfl
theorem dX1_learnActs_15 : Eq (decode cX1_learnActs 15) (Except.ok (Instr.iload_n 2, 1)) := fE fw_dX1_learnActs_0_c 9 rfl
theorem dX1_learnActs_16 : Eq (decode cX1_learnActs 16) (Except.ok (Instr.iload 5, 2)) := fE fw_dX1_learnActs_0_c 10 rfl
theorem dX1_learnActs_18 : Eq (decode cX1_learnActs 18) (Except.ok (Instr.invokestatic 83, 3)) := fE fw_dX1_learnActs_0_c 11 rfl
theorem dX1_learnActs_21 : Eq (decode cX1_learnActs 21) (Except.ok (Instr.ifCond .eq 58, 3)) := fE fw_dX1_learnActs_0_c 12 rfl
theorem dX1_learnActs_24 : Eq (decode cX1_learnActs 24) (Except.ok (Instr.iload_n 1, 1)) := fE fw_dX1_learnActs_0_c 13 rfl
theorem dX1_learnActs_25 : Eq (decode cX1_learnActs 25) (Except.ok (Instr.iload 5, 2)) := fE fw_dX1_learnActs_0_c 14 rfl
theorem dX1_learnActs_27 : Eq (decode cX1_learnActs 27) (Except.ok (Instr.invokestatic 87, 3)) := fE fw_dX1_learnActs_0_c 15 rfl
theorem dX1_learnActs_30 : Eq (decode cX1_learnActs 30) (Except.ok (Instr.istore 6, 2)) := fE fw_dX1_learnActs_0_c 16 rfl
theorem dX1_learnActs_32 : Eq (decode cX1_learnActs 32) (Except.ok (Instr.aload_n 0, 1)) := fE fw_dX1_learnActs_0_c 17 rfl
theorem dX1_learnActs_33 : Eq (decode cX1_learnActs 33) (Except.ok (Instr.getfield 33, 3)) := fE fw_dX1_learnActs_0_c 18 rfl
theorem dX1_learnActs_36 : Eq (decode cX1_learnActs 36) (Except.ok (Instr.iload 6, 2)) := fE fw_dX1_learnActs_0_c 19 rfl
def fw_dX1_learnActs_38 : List (Nat × Instr × Nat) := [(38, .invokevirtual 90, 3), (41, .istore 7, 2), (43, .iload 7, 2), (45, .ifCond .ne 11, 3), (48, .iload 4, 2)]
theorem fw_dX1_learnActs_38_c : fchk 38 (cX1_learnActs.data.toList.drop 38) fw_dX1_learnActs_38 = true := by decide +kernel
theorem dX1_learnActs_38 : Eq (decode cX1_learnActs 38) (Except.ok (Instr.invokevirtual 90, 3)) := fE fw_dX1_learnActs_38_c 0 rfl
theorem dX1_learnActs_41 : Eq (decode cX1_learnActs 41) (Except.ok (Instr.istore 7, 2)) := fE fw_dX1_learnActs_38_c 1 rfl
theorem dX1_learnActs_43 : Eq (decode cX1_learnActs 43) (Except.ok (Instr.iload 7, 2)) := fE fw_dX1_learnActs_38_c 2 rfl
theorem dX1_learnActs_45 : Eq (decode cX1_learnActs 45) (Except.ok (Instr.ifCond .ne 11, 3)) := fE fw_dX1_learnActs_38_c 3 rfl
theorem dX1_learnActs_48 : Eq (decode cX1_learnActs 48) (Except.ok (Instr.iload 4, 2)) := fE fw_dX1_learnActs_38_c 4 rfl
theorem dX1_learnActs_50 : decode cX1_learnActs 50 = .ok (.iinc 4 1, 3) := by decide +kernel
def fw_dX1_learnActs_53 : List (Nat × Instr × Nat) := [(53, .goto 9, 3), (56, .iconst 3, 1), (57, .iload 7, 2), (59, .iadd, 1), (60, .iconst 1, 1), (61, .isub, 1), (62, .istore 8, 2), (64, .iload_n 3, 1), (65, .iconst 1, 1), (66, .iload 8, 2), (68, .ishl, 1), (69, .ior, 1), (70, .istore_n 3, 1), (71, .aload_n 0, 1), (72, .iload 6, 2), (74, .iload 8, 2), (76, .invokevirtual 95, 3)]
theorem fw_dX1_learnActs_53_c : fchk 53 (cX1_learnActs.data.toList.drop 53) fw_dX1_learnActs_53 = true := by decide +kernel
theorem dX1_learnActs_53 : Eq (decode cX1_learnActs 53) (Except.ok (Instr.goto 9, 3)) := fE fw_dX1_learnActs_53_c 0 rfl
theorem dX1_learnActs_56 : Eq (decode cX1_learnActs 56) (Except.ok (Instr.iconst 3, 1)) := fE fw_dX1_learnActs_53_c 1 rfl
theorem dX1_learnActs_57 : Eq (decode cX1_learnActs 57) (Except.ok (Instr.iload 7, 2)) := fE fw_dX1_learnActs_53_c 2 rfl
theorem dX1_learnActs_59 : Eq (decode cX1_learnActs 59) (Except.ok (Instr.iadd, 1)) := fE fw_dX1_learnActs_53_c 3 rfl
theorem dX1_learnActs_60 : Eq (decode cX1_learnActs 60) (Except.ok (Instr.iconst 1, 1)) := fE fw_dX1_learnActs_53_c 4 rfl
theorem dX1_learnActs_61 : Eq (decode cX1_learnActs 61) (Except.ok (Instr.isub, 1)) := fE fw_dX1_learnActs_53_c 5 rfl
theorem dX1_learnActs_62 : Eq (decode cX1_learnActs 62) (Except.ok (Instr.istore 8, 2)) := fE fw_dX1_learnActs_53_c 6 rfl
theorem dX1_learnActs_64 : Eq (decode cX1_learnActs 64) (Except.ok (Instr.iload_n 3, 1)) := fE fw_dX1_learnActs_53_c 7 rfl
theorem dX1_learnActs_65 : Eq (decode cX1_learnActs 65) (Except.ok (Instr.iconst 1, 1)) := fE fw_dX1_learnActs_53_c 8 rfl
theorem dX1_learnActs_66 : Eq (decode cX1_learnActs 66) (Except.ok (Instr.iload 8, 2)) := fE fw_dX1_learnActs_53_c 9 rfl
theorem dX1_learnActs_68 : Eq (decode cX1_learnActs 68) (Except.ok (Instr.ishl, 1)) := fE fw_dX1_learnActs_53_c 10 rfl
theorem dX1_learnActs_69 : Eq (decode cX1_learnActs 69) (Except.ok (Instr.ior, 1)) := fE fw_dX1_learnActs_53_c 11 rfl
theorem dX1_learnActs_70 : Eq (decode cX1_learnActs 70) (Except.ok (Instr.istore_n 3, 1)) := fE fw_dX1_learnActs_53_c 12 rfl
theorem dX1_learnActs_71 : Eq (decode cX1_learnActs 71) (Except.ok (Instr.aload_n 0, 1)) := fE fw_dX1_learnActs_53_c 13 rfl
theorem dX1_learnActs_72 : Eq (decode cX1_learnActs 72) (Except.ok (Instr.iload 6, 2)) := fE fw_dX1_learnActs_53_c 14 rfl
theorem dX1_learnActs_74 : Eq (decode cX1_learnActs 74) (Except.ok (Instr.iload 8, 2)) := fE fw_dX1_learnActs_53_c 15 rfl
theorem dX1_learnActs_76 : Eq (decode cX1_learnActs 76) (Except.ok (Instr.invokevirtual 95, 3)) := fE fw_dX1_learnActs_53_c 16 rfl
theorem dX1_learnActs_79 : decode cX1_learnActs 79 = .ok (.iinc 5 1, 3) := by decide +kernel
def fw_dX1_learnActs_82 : List (Nat × Instr × Nat) := [(82, .goto (-74), 3), (85, .iload_n 3, 1), (86, .ireturn, 1)]
theorem fw_dX1_learnActs_82_c : fchk 82 (cX1_learnActs.data.toList.drop 82) fw_dX1_learnActs_82 = true := by decide +kernel
theorem dX1_learnActs_82 : Eq (decode cX1_learnActs 82) (Except.ok (Instr.goto (-74), 3)) := fE fw_dX1_learnActs_82_c 0 rfl
theorem dX1_learnActs_85 : Eq (decode cX1_learnActs 85) (Except.ok (Instr.iload_n 3, 1)) := fE fw_dX1_learnActs_82_c 1 rfl
theorem dX1_learnActs_86 : Eq (decode cX1_learnActs 86) (Except.ok (Instr.ireturn, 1)) := fE fw_dX1_learnActs_82_c 2 rfl
set_option maxRecDepth 20000 in
theorem gi_wsX1_addIfNew_0 : GoodIn wsX1_addIfNew wsX1_addIfNew := goodIn_sub (fun _ h => h) (by decide +kernel)
set_option maxRecDepth 20000 in
theorem gi_wsX1_addIfNew_1 : GoodIn wsX1_addIfNew wsX10 := goodIn_sub (fun w h => List.mem_cons_of_mem _ (List.mem_append_left _ (List.mem_append_right _ h))) (by decide +kernel)
set_option maxRecDepth 20000 in
theorem gi_wsX1_addIfNew_2 : GoodIn wsX1_addIfNew wsX50 := goodIn_sub (fun w h => List.mem_cons_of_mem _ (List.mem_append_right _ h)) (by decide +kernel)
def bs_wsX1_addIfNew : List (List Cond) := [wsX1_addIfNew, wsX10, wsX50]
theorem bs_wsX1_addIfNew_in : ∀ b ∈ bs_wsX1_addIfNew, GoodIn wsX1_addIfNew b := List.forall_mem_cons.mpr ⟨gi_wsX1_addIfNew_0, List.forall_mem_cons.mpr ⟨gi_wsX1_addIfNew_1, List.forall_mem_cons.mpr ⟨gi_wsX1_addIfNew_2, (fun _ h => absurd h List.not_mem_nil)⟩⟩⟩
set_option maxRecDepth 20000 in
theorem ggX1_addIfNew_X5_same : GoodIn wsX1_addIfNew wsX5_same := goodIn_k (gi_q bs_wsX1_addIfNew_in _ [(0, 10)] rfl) (goodIn_app (gi_q bs_wsX1_addIfNew_in _ [(0, 11), (0, 12), (0, 13), (0, 14)] rfl) (gi_wsX1_addIfNew_2))
set_option maxRecDepth 20000 in
theorem gX1_addIfNew_X5_same : GoodIn wsX1_addIfNew (wsV RX1 99 RX5 yX5_same wsX5_same) := goodIn_app (gi_q bs_wsX1_addIfNew_in _ [(0, 6), (0, 7), (0, 8), (0, 9)] rfl) ggX1_addIfNew_X5_same
def fw_dX1_addIfNew_0 : List (Nat × Instr × Nat) := [(0, .iconst 0, 1), (1, .istore_n 3, 1), (2, .iload_n 3, 1), (3, .aload_n 0, 1), (4, .getfield 41, 3), (7, .if_icmp .ge 37, 3), (10, .aload_n 0, 1), (11, .getfield 18, 3), (14, .iload_n 3, 1), (15, .iaload, 1), (16, .iload_n 2, 1), (17, .if_icmp .ne 21, 3), (20, .aload_n 0, 1), (21, .getfield 33, 3), (24, .aload_n 0, 1), (25, .getfield 15, 3), (28, .iload_n 3, 1), (29, .iaload, 1), (30, .iload_n 1, 1), (31, .invokevirtual 99, 3)]
theorem fw_dX1_addIfNew_0_c : fchk 0 (cX1_addIfNew.data.toList.drop 0) fw_dX1_addIfNew_0 = true := by decide +kernel
theorem dX1_addIfNew_0 : Eq (decode cX1_addIfNew 0) (Except.ok (Instr.iconst 0, 1)) := fE fw_dX1_addIfNew_0_c 0 rfl
theorem dX1_addIfNew_1 : Eq (decode cX1_addIfNew 1) (Except.ok (Instr.istore_n 3, 1)) := fE fw_dX1_addIfNew_0_c 1 rfl
theorem dX1_addIfNew_2 : Eq (decode cX1_addIfNew 2) (Except.ok (Instr.iload_n 3, 1)) := fE fw_dX1_addIfNew_0_c 2 rfl
theorem dX1_addIfNew_3 : Eq (decode cX1_addIfNew 3) (Except.ok (Instr.aload_n 0, 1)) := fE fw_dX1_addIfNew_0_c 3 rfl
theorem dX1_addIfNew_4 : Eq (decode cX1_addIfNew 4) (Except.ok (Instr.getfield 41, 3)) := fE fw_dX1_addIfNew_0_c 4 rfl
theorem dX1_addIfNew_7 : Eq (decode cX1_addIfNew 7) (Except.ok (Instr.if_icmp .ge 37, 3)) := fE fw_dX1_addIfNew_0_c 5 rfl
theorem dX1_addIfNew_10 : Eq (decode cX1_addIfNew 10) (Except.ok (Instr.aload_n 0, 1)) := fE fw_dX1_addIfNew_0_c 6 rfl
theorem dX1_addIfNew_11 : Eq (decode cX1_addIfNew 11) (Except.ok (Instr.getfield 18, 3)) := fE fw_dX1_addIfNew_0_c 7 rfl
theorem dX1_addIfNew_14 : Eq (decode cX1_addIfNew 14) (Except.ok (Instr.iload_n 3, 1)) := fE fw_dX1_addIfNew_0_c 8 rfl
theorem dX1_addIfNew_15 : Eq (decode cX1_addIfNew 15) (Except.ok (Instr.iaload, 1)) := fE fw_dX1_addIfNew_0_c 9 rfl
theorem dX1_addIfNew_16 : Eq (decode cX1_addIfNew 16) (Except.ok (Instr.iload_n 2, 1)) := fE fw_dX1_addIfNew_0_c 10 rfl
theorem dX1_addIfNew_17 : Eq (decode cX1_addIfNew 17) (Except.ok (Instr.if_icmp .ne 21, 3)) := fE fw_dX1_addIfNew_0_c 11 rfl
theorem dX1_addIfNew_20 : Eq (decode cX1_addIfNew 20) (Except.ok (Instr.aload_n 0, 1)) := fE fw_dX1_addIfNew_0_c 12 rfl
theorem dX1_addIfNew_21 : Eq (decode cX1_addIfNew 21) (Except.ok (Instr.getfield 33, 3)) := fE fw_dX1_addIfNew_0_c 13 rfl
theorem dX1_addIfNew_24 : Eq (decode cX1_addIfNew 24) (Except.ok (Instr.aload_n 0, 1)) := fE fw_dX1_addIfNew_0_c 14 rfl
theorem dX1_addIfNew_25 : Eq (decode cX1_addIfNew 25) (Except.ok (Instr.getfield 15, 3)) := fE fw_dX1_addIfNew_0_c 15 rfl
theorem dX1_addIfNew_28 : Eq (decode cX1_addIfNew 28) (Except.ok (Instr.iload_n 3, 1)) := fE fw_dX1_addIfNew_0_c 16 rfl
theorem dX1_addIfNew_29 : Eq (decode cX1_addIfNew 29) (Except.ok (Instr.iaload, 1)) := fE fw_dX1_addIfNew_0_c 17 rfl
theorem dX1_addIfNew_30 : Eq (decode cX1_addIfNew 30) (Except.ok (Instr.iload_n 1, 1)) := fE fw_dX1_addIfNew_0_c 18 rfl
theorem dX1_addIfNew_31 : Eq (decode cX1_addIfNew 31) (Except.ok (Instr.invokevirtual 99, 3)) := fE fw_dX1_addIfNew_0_c 19 rfl
def fw_dX1_addIfNew_34 : List (Nat × Instr × Nat) := [(34, .ifCond .eq 4, 3), (37, .return_, 1)]
theorem fw_dX1_addIfNew_34_c : fchk 34 (cX1_addIfNew.data.toList.drop 34) fw_dX1_addIfNew_34 = true := by decide +kernel
theorem dX1_addIfNew_34 : Eq (decode cX1_addIfNew 34) (Except.ok (Instr.ifCond .eq 4, 3)) := fE fw_dX1_addIfNew_34_c 0 rfl
theorem dX1_addIfNew_37 : Eq (decode cX1_addIfNew 37) (Except.ok (Instr.return_, 1)) := fE fw_dX1_addIfNew_34_c 1 rfl
theorem dX1_addIfNew_38 : decode cX1_addIfNew 38 = .ok (.iinc 3 1, 3) := by decide +kernel
def fw_dX1_addIfNew_41 : List (Nat × Instr × Nat) := [(41, .goto (-39), 3), (44, .aload_n 0, 1), (45, .getfield 15, 3), (48, .aload_n 0, 1), (49, .getfield 41, 3), (52, .iload_n 1, 1), (53, .iastore, 1), (54, .aload_n 0, 1), (55, .getfield 18, 3), (58, .aload_n 0, 1), (59, .getfield 41, 3), (62, .iload_n 2, 1), (63, .iastore, 1), (64, .aload_n 0, 1), (65, .dup, 1), (66, .getfield 41, 3), (69, .iconst 1, 1), (70, .iadd, 1), (71, .putfield 41, 3), (74, .aload_n 0, 1)]
theorem fw_dX1_addIfNew_41_c : fchk 41 (cX1_addIfNew.data.toList.drop 41) fw_dX1_addIfNew_41 = true := by decide +kernel
theorem dX1_addIfNew_41 : Eq (decode cX1_addIfNew 41) (Except.ok (Instr.goto (-39), 3)) := fE fw_dX1_addIfNew_41_c 0 rfl
theorem dX1_addIfNew_44 : Eq (decode cX1_addIfNew 44) (Except.ok (Instr.aload_n 0, 1)) := fE fw_dX1_addIfNew_41_c 1 rfl
theorem dX1_addIfNew_45 : Eq (decode cX1_addIfNew 45) (Except.ok (Instr.getfield 15, 3)) := fE fw_dX1_addIfNew_41_c 2 rfl
theorem dX1_addIfNew_48 : Eq (decode cX1_addIfNew 48) (Except.ok (Instr.aload_n 0, 1)) := fE fw_dX1_addIfNew_41_c 3 rfl
theorem dX1_addIfNew_49 : Eq (decode cX1_addIfNew 49) (Except.ok (Instr.getfield 41, 3)) := fE fw_dX1_addIfNew_41_c 4 rfl
theorem dX1_addIfNew_52 : Eq (decode cX1_addIfNew 52) (Except.ok (Instr.iload_n 1, 1)) := fE fw_dX1_addIfNew_41_c 5 rfl
theorem dX1_addIfNew_53 : Eq (decode cX1_addIfNew 53) (Except.ok (Instr.iastore, 1)) := fE fw_dX1_addIfNew_41_c 6 rfl
theorem dX1_addIfNew_54 : Eq (decode cX1_addIfNew 54) (Except.ok (Instr.aload_n 0, 1)) := fE fw_dX1_addIfNew_41_c 7 rfl
theorem dX1_addIfNew_55 : Eq (decode cX1_addIfNew 55) (Except.ok (Instr.getfield 18, 3)) := fE fw_dX1_addIfNew_41_c 8 rfl
theorem dX1_addIfNew_58 : Eq (decode cX1_addIfNew 58) (Except.ok (Instr.aload_n 0, 1)) := fE fw_dX1_addIfNew_41_c 9 rfl
theorem dX1_addIfNew_59 : Eq (decode cX1_addIfNew 59) (Except.ok (Instr.getfield 41, 3)) := fE fw_dX1_addIfNew_41_c 10 rfl
theorem dX1_addIfNew_62 : Eq (decode cX1_addIfNew 62) (Except.ok (Instr.iload_n 2, 1)) := fE fw_dX1_addIfNew_41_c 11 rfl
theorem dX1_addIfNew_63 : Eq (decode cX1_addIfNew 63) (Except.ok (Instr.iastore, 1)) := fE fw_dX1_addIfNew_41_c 12 rfl
theorem dX1_addIfNew_64 : Eq (decode cX1_addIfNew 64) (Except.ok (Instr.aload_n 0, 1)) := fE fw_dX1_addIfNew_41_c 13 rfl
theorem dX1_addIfNew_65 : Eq (decode cX1_addIfNew 65) (Except.ok (Instr.dup, 1)) := fE fw_dX1_addIfNew_41_c 14 rfl
theorem dX1_addIfNew_66 : Eq (decode cX1_addIfNew 66) (Except.ok (Instr.getfield 41, 3)) := fE fw_dX1_addIfNew_41_c 15 rfl
theorem dX1_addIfNew_69 : Eq (decode cX1_addIfNew 69) (Except.ok (Instr.iconst 1, 1)) := fE fw_dX1_addIfNew_41_c 16 rfl
theorem dX1_addIfNew_70 : Eq (decode cX1_addIfNew 70) (Except.ok (Instr.iadd, 1)) := fE fw_dX1_addIfNew_41_c 17 rfl
theorem dX1_addIfNew_71 : Eq (decode cX1_addIfNew 71) (Except.ok (Instr.putfield 41, 3)) := fE fw_dX1_addIfNew_41_c 18 rfl
theorem dX1_addIfNew_74 : Eq (decode cX1_addIfNew 74) (Except.ok (Instr.aload_n 0, 1)) := fE fw_dX1_addIfNew_41_c 19 rfl
def fw_dX1_addIfNew_75 : List (Nat × Instr × Nat) := [(75, .getfield 21, 3), (78, .iload_n 2, 1), (79, .dup2, 1), (80, .iaload, 1), (81, .iconst 1, 1), (82, .iadd, 1), (83, .iastore, 1), (84, .return_, 1)]
theorem fw_dX1_addIfNew_75_c : fchk 75 (cX1_addIfNew.data.toList.drop 75) fw_dX1_addIfNew_75 = true := by decide +kernel
theorem dX1_addIfNew_75 : Eq (decode cX1_addIfNew 75) (Except.ok (Instr.getfield 21, 3)) := fE fw_dX1_addIfNew_75_c 0 rfl
theorem dX1_addIfNew_78 : Eq (decode cX1_addIfNew 78) (Except.ok (Instr.iload_n 2, 1)) := fE fw_dX1_addIfNew_75_c 1 rfl
theorem dX1_addIfNew_79 : Eq (decode cX1_addIfNew 79) (Except.ok (Instr.dup2, 1)) := fE fw_dX1_addIfNew_75_c 2 rfl
theorem dX1_addIfNew_80 : Eq (decode cX1_addIfNew 80) (Except.ok (Instr.iaload, 1)) := fE fw_dX1_addIfNew_75_c 3 rfl
theorem dX1_addIfNew_81 : Eq (decode cX1_addIfNew 81) (Except.ok (Instr.iconst 1, 1)) := fE fw_dX1_addIfNew_75_c 4 rfl
theorem dX1_addIfNew_82 : Eq (decode cX1_addIfNew 82) (Except.ok (Instr.iadd, 1)) := fE fw_dX1_addIfNew_75_c 5 rfl
theorem dX1_addIfNew_83 : Eq (decode cX1_addIfNew 83) (Except.ok (Instr.iastore, 1)) := fE fw_dX1_addIfNew_75_c 6 rfl
theorem dX1_addIfNew_84 : Eq (decode cX1_addIfNew 84) (Except.ok (Instr.return_, 1)) := fE fw_dX1_addIfNew_75_c 7 rfl
set_option maxRecDepth 20000 in
theorem gi_wsX1_learnMeetings_0 : GoodIn wsX1_learnMeetings wsX1_learnMeetings := goodIn_sub (fun _ h => h) (by decide +kernel)
set_option maxRecDepth 20000 in
theorem gi_wsX1_learnMeetings_1 : GoodIn wsX1_learnMeetings wsX10 := goodIn_sub (fun w h => List.mem_cons_of_mem _ (List.mem_append_right _ h)) (by decide +kernel)
def bs_wsX1_learnMeetings : List (List Cond) := [wsX1_learnMeetings, wsX10]
theorem bs_wsX1_learnMeetings_in : ∀ b ∈ bs_wsX1_learnMeetings, GoodIn wsX1_learnMeetings b := List.forall_mem_cons.mpr ⟨gi_wsX1_learnMeetings_0, List.forall_mem_cons.mpr ⟨gi_wsX1_learnMeetings_1, (fun _ h => absurd h List.not_mem_nil)⟩⟩
set_option maxRecDepth 20000 in
theorem ggX1_learnMeetings_X7_isIn : GoodIn wsX1_learnMeetings wsX7_isIn := goodIn_k (gi_q bs_wsX1_learnMeetings_in _ [(0, 4)] rfl) (gi_q bs_wsX1_learnMeetings_in _ [] rfl)
set_option maxRecDepth 20000 in
theorem gX1_learnMeetings_X7_isIn_n83 : GoodIn wsX1_learnMeetings (wsX7_isIn) := ggX1_learnMeetings_X7_isIn
def fw_dX1_learnMeetings_0 : List (Nat × Instr × Nat) := [(0, .iconst 0, 1), (1, .istore_n 2, 1), (2, .iload_n 2, 1), (3, .bipush 7, 2), (5, .if_icmp .ge 27, 3), (8, .iload_n 1, 1), (9, .iload_n 2, 1), (10, .invokestatic 83, 3), (13, .ifCond .eq 13, 3), (16, .aload_n 0, 1), (17, .getfield 24, 3), (20, .iload_n 2, 1), (21, .dup2, 1), (22, .iaload, 1), (23, .iload_n 1, 1), (24, .ior, 1), (25, .iastore, 1)]
theorem fw_dX1_learnMeetings_0_c : fchk 0 (cX1_learnMeetings.data.toList.drop 0) fw_dX1_learnMeetings_0 = true := by decide +kernel
theorem dX1_learnMeetings_0 : Eq (decode cX1_learnMeetings 0) (Except.ok (Instr.iconst 0, 1)) := fE fw_dX1_learnMeetings_0_c 0 rfl
theorem dX1_learnMeetings_1 : Eq (decode cX1_learnMeetings 1) (Except.ok (Instr.istore_n 2, 1)) := fE fw_dX1_learnMeetings_0_c 1 rfl
theorem dX1_learnMeetings_2 : Eq (decode cX1_learnMeetings 2) (Except.ok (Instr.iload_n 2, 1)) := fE fw_dX1_learnMeetings_0_c 2 rfl
theorem dX1_learnMeetings_3 : Eq (decode cX1_learnMeetings 3) (Except.ok (Instr.bipush 7, 2)) := fE fw_dX1_learnMeetings_0_c 3 rfl
theorem dX1_learnMeetings_5 : Eq (decode cX1_learnMeetings 5) (Except.ok (Instr.if_icmp .ge 27, 3)) := fE fw_dX1_learnMeetings_0_c 4 rfl
theorem dX1_learnMeetings_8 : Eq (decode cX1_learnMeetings 8) (Except.ok (Instr.iload_n 1, 1)) := fE fw_dX1_learnMeetings_0_c 5 rfl
theorem dX1_learnMeetings_9 : Eq (decode cX1_learnMeetings 9) (Except.ok (Instr.iload_n 2, 1)) := fE fw_dX1_learnMeetings_0_c 6 rfl
theorem dX1_learnMeetings_10 : Eq (decode cX1_learnMeetings 10) (Except.ok (Instr.invokestatic 83, 3)) := fE fw_dX1_learnMeetings_0_c 7 rfl
theorem dX1_learnMeetings_13 : Eq (decode cX1_learnMeetings 13) (Except.ok (Instr.ifCond .eq 13, 3)) := fE fw_dX1_learnMeetings_0_c 8 rfl
theorem dX1_learnMeetings_16 : Eq (decode cX1_learnMeetings 16) (Except.ok (Instr.aload_n 0, 1)) := fE fw_dX1_learnMeetings_0_c 9 rfl
theorem dX1_learnMeetings_17 : Eq (decode cX1_learnMeetings 17) (Except.ok (Instr.getfield 24, 3)) := fE fw_dX1_learnMeetings_0_c 10 rfl
theorem dX1_learnMeetings_20 : Eq (decode cX1_learnMeetings 20) (Except.ok (Instr.iload_n 2, 1)) := fE fw_dX1_learnMeetings_0_c 11 rfl
theorem dX1_learnMeetings_21 : Eq (decode cX1_learnMeetings 21) (Except.ok (Instr.dup2, 1)) := fE fw_dX1_learnMeetings_0_c 12 rfl
theorem dX1_learnMeetings_22 : Eq (decode cX1_learnMeetings 22) (Except.ok (Instr.iaload, 1)) := fE fw_dX1_learnMeetings_0_c 13 rfl
theorem dX1_learnMeetings_23 : Eq (decode cX1_learnMeetings 23) (Except.ok (Instr.iload_n 1, 1)) := fE fw_dX1_learnMeetings_0_c 14 rfl
theorem dX1_learnMeetings_24 : Eq (decode cX1_learnMeetings 24) (Except.ok (Instr.ior, 1)) := fE fw_dX1_learnMeetings_0_c 15 rfl
theorem dX1_learnMeetings_25 : Eq (decode cX1_learnMeetings 25) (Except.ok (Instr.iastore, 1)) := fE fw_dX1_learnMeetings_0_c 16 rfl
theorem dX1_learnMeetings_26 : decode cX1_learnMeetings 26 = .ok (.iinc 2 1, 3) := by decide +kernel
def fw_dX1_learnMeetings_29 : List (Nat × Instr × Nat) := [(29, .goto (-27), 3), (32, .return_, 1)]
theorem fw_dX1_learnMeetings_29_c : fchk 29 (cX1_learnMeetings.data.toList.drop 29) fw_dX1_learnMeetings_29 = true := by decide +kernel
theorem dX1_learnMeetings_29 : Eq (decode cX1_learnMeetings 29) (Except.ok (Instr.goto (-27), 3)) := fE fw_dX1_learnMeetings_29_c 0 rfl
theorem dX1_learnMeetings_32 : Eq (decode cX1_learnMeetings 32) (Except.ok (Instr.return_, 1)) := fE fw_dX1_learnMeetings_29_c 1 rfl
set_option maxRecDepth 20000 in
theorem gi_wsX1_makeGroups_0 : GoodIn wsX1_makeGroups wsX1_makeGroups := goodIn_sub (fun _ h => h) (by decide +kernel)
set_option maxRecDepth 20000 in
theorem gi_wsX1_makeGroups_1 : GoodIn wsX1_makeGroups wsX10 := goodIn_sub (fun w h => List.mem_cons_of_mem _ (List.mem_append_right _ h)) (by decide +kernel)
def bs_wsX1_makeGroups : List (List Cond) := [wsX1_makeGroups, wsX10]
theorem bs_wsX1_makeGroups_in : ∀ b ∈ bs_wsX1_makeGroups, GoodIn wsX1_makeGroups b := List.forall_mem_cons.mpr ⟨gi_wsX1_makeGroups_0, List.forall_mem_cons.mpr ⟨gi_wsX1_makeGroups_1, (fun _ h => absurd h List.not_mem_nil)⟩⟩
set_option maxRecDepth 20000 in
theorem ggX1_makeGroups_J7_fill_53178 : GoodIn wsX1_makeGroups wsJ7_fill_53178 := goodIn_k (gi_q bs_wsX1_makeGroups_in _ [(0, 13)] rfl) (gi_q bs_wsX1_makeGroups_in _ [] rfl)
set_option maxRecDepth 20000 in
theorem gX1_makeGroups_J7_fill_53178 : GoodIn wsX1_makeGroups (va_wsS RX1 45 yJ7_fill_53178 wsJ7_fill_53178) := goodIn_app (gi_q bs_wsX1_makeGroups_in _ [(0, 10), (0, 11), (0, 12)] rfl) ggX1_makeGroups_J7_fill_53178
set_option maxRecDepth 20000 in
theorem ggX1_makeGroups_X1_firstGroupFor : GoodIn wsX1_makeGroups wsX1_firstGroupFor := goodIn_k (gi_q bs_wsX1_makeGroups_in _ [(0, 18)] rfl) (goodIn_app (gi_q bs_wsX1_makeGroups_in _ [(0, 1), (0, 2), (0, 19)] rfl) (gi_wsX1_makeGroups_1))
set_option maxRecDepth 20000 in
theorem gX1_makeGroups_X1_firstGroupFor : GoodIn wsX1_makeGroups (wsV RX1 102 RX1 yX1_firstGroupFor wsX1_firstGroupFor) := goodIn_app (gi_q bs_wsX1_makeGroups_in _ [(0, 14), (0, 15), (0, 16), (0, 17)] rfl) ggX1_makeGroups_X1_firstGroupFor
def fw_dX1_makeGroups_0 : List (Nat × Instr × Nat) := [(0, .aload_n 0, 1), (1, .iconst 0, 1), (2, .putfield 80, 3), (5, .aload_n 0, 1), (6, .getfield 27, 3), (9, .iconst 0, 1), (10, .invokestatic 45, 3), (13, .aload_n 0, 1), (14, .getfield 30, 3), (17, .iconst 0, 1), (18, .invokestatic 45, 3), (21, .iconst 0, 1), (22, .istore_n 1, 1), (23, .iload_n 1, 1), (24, .bipush 7, 2), (26, .if_icmp .ge 79, 3), (29, .aload_n 0, 1), (30, .getfield 9, 3), (33, .iload_n 1, 1), (34, .iconst (-1), 1)]
theorem fw_dX1_makeGroups_0_c : fchk 0 (cX1_makeGroups.data.toList.drop 0) fw_dX1_makeGroups_0 = true := by decide +kernel
theorem dX1_makeGroups_0 : Eq (decode cX1_makeGroups 0) (Except.ok (Instr.aload_n 0, 1)) := fE fw_dX1_makeGroups_0_c 0 rfl
theorem dX1_makeGroups_1 : Eq (decode cX1_makeGroups 1) (Except.ok (Instr.iconst 0, 1)) := fE fw_dX1_makeGroups_0_c 1 rfl
theorem dX1_makeGroups_2 : Eq (decode cX1_makeGroups 2) (Except.ok (Instr.putfield 80, 3)) := fE fw_dX1_makeGroups_0_c 2 rfl
theorem dX1_makeGroups_5 : Eq (decode cX1_makeGroups 5) (Except.ok (Instr.aload_n 0, 1)) := fE fw_dX1_makeGroups_0_c 3 rfl
theorem dX1_makeGroups_6 : Eq (decode cX1_makeGroups 6) (Except.ok (Instr.getfield 27, 3)) := fE fw_dX1_makeGroups_0_c 4 rfl
theorem dX1_makeGroups_9 : Eq (decode cX1_makeGroups 9) (Except.ok (Instr.iconst 0, 1)) := fE fw_dX1_makeGroups_0_c 5 rfl
theorem dX1_makeGroups_10 : Eq (decode cX1_makeGroups 10) (Except.ok (Instr.invokestatic 45, 3)) := fE fw_dX1_makeGroups_0_c 6 rfl
theorem dX1_makeGroups_13 : Eq (decode cX1_makeGroups 13) (Except.ok (Instr.aload_n 0, 1)) := fE fw_dX1_makeGroups_0_c 7 rfl
theorem dX1_makeGroups_14 : Eq (decode cX1_makeGroups 14) (Except.ok (Instr.getfield 30, 3)) := fE fw_dX1_makeGroups_0_c 8 rfl
theorem dX1_makeGroups_17 : Eq (decode cX1_makeGroups 17) (Except.ok (Instr.iconst 0, 1)) := fE fw_dX1_makeGroups_0_c 9 rfl
theorem dX1_makeGroups_18 : Eq (decode cX1_makeGroups 18) (Except.ok (Instr.invokestatic 45, 3)) := fE fw_dX1_makeGroups_0_c 10 rfl
theorem dX1_makeGroups_21 : Eq (decode cX1_makeGroups 21) (Except.ok (Instr.iconst 0, 1)) := fE fw_dX1_makeGroups_0_c 11 rfl
theorem dX1_makeGroups_22 : Eq (decode cX1_makeGroups 22) (Except.ok (Instr.istore_n 1, 1)) := fE fw_dX1_makeGroups_0_c 12 rfl
theorem dX1_makeGroups_23 : Eq (decode cX1_makeGroups 23) (Except.ok (Instr.iload_n 1, 1)) := fE fw_dX1_makeGroups_0_c 13 rfl
theorem dX1_makeGroups_24 : Eq (decode cX1_makeGroups 24) (Except.ok (Instr.bipush 7, 2)) := fE fw_dX1_makeGroups_0_c 14 rfl
theorem dX1_makeGroups_26 : Eq (decode cX1_makeGroups 26) (Except.ok (Instr.if_icmp .ge 79, 3)) := fE fw_dX1_makeGroups_0_c 15 rfl
theorem dX1_makeGroups_29 : Eq (decode cX1_makeGroups 29) (Except.ok (Instr.aload_n 0, 1)) := fE fw_dX1_makeGroups_0_c 16 rfl
theorem dX1_makeGroups_30 : Eq (decode cX1_makeGroups 30) (Except.ok (Instr.getfield 9, 3)) := fE fw_dX1_makeGroups_0_c 17 rfl
theorem dX1_makeGroups_33 : Eq (decode cX1_makeGroups 33) (Except.ok (Instr.iload_n 1, 1)) := fE fw_dX1_makeGroups_0_c 18 rfl
theorem dX1_makeGroups_34 : Eq (decode cX1_makeGroups 34) (Except.ok (Instr.iconst (-1), 1)) := fE fw_dX1_makeGroups_0_c 19 rfl
def fw_dX1_makeGroups_35 : List (Nat × Instr × Nat) := [(35, .iastore, 1), (36, .aload_n 0, 1), (37, .getfield 21, 3), (40, .iload_n 1, 1), (41, .iaload, 1), (42, .ifCond .le 57, 3), (45, .aload_n 0, 1), (46, .iload_n 1, 1), (47, .invokevirtual 102, 3), (50, .istore_n 2, 1), (51, .aload_n 0, 1), (52, .getfield 9, 3), (55, .iload_n 1, 1), (56, .iload_n 2, 1), (57, .iastore, 1), (58, .aload_n 0, 1), (59, .getfield 27, 3), (62, .iload_n 2, 1), (63, .dup2, 1), (64, .iaload, 1)]
theorem fw_dX1_makeGroups_35_c : fchk 35 (cX1_makeGroups.data.toList.drop 35) fw_dX1_makeGroups_35 = true := by decide +kernel
theorem dX1_makeGroups_35 : Eq (decode cX1_makeGroups 35) (Except.ok (Instr.iastore, 1)) := fE fw_dX1_makeGroups_35_c 0 rfl
theorem dX1_makeGroups_36 : Eq (decode cX1_makeGroups 36) (Except.ok (Instr.aload_n 0, 1)) := fE fw_dX1_makeGroups_35_c 1 rfl
theorem dX1_makeGroups_37 : Eq (decode cX1_makeGroups 37) (Except.ok (Instr.getfield 21, 3)) := fE fw_dX1_makeGroups_35_c 2 rfl
theorem dX1_makeGroups_40 : Eq (decode cX1_makeGroups 40) (Except.ok (Instr.iload_n 1, 1)) := fE fw_dX1_makeGroups_35_c 3 rfl
theorem dX1_makeGroups_41 : Eq (decode cX1_makeGroups 41) (Except.ok (Instr.iaload, 1)) := fE fw_dX1_makeGroups_35_c 4 rfl
theorem dX1_makeGroups_42 : Eq (decode cX1_makeGroups 42) (Except.ok (Instr.ifCond .le 57, 3)) := fE fw_dX1_makeGroups_35_c 5 rfl
theorem dX1_makeGroups_45 : Eq (decode cX1_makeGroups 45) (Except.ok (Instr.aload_n 0, 1)) := fE fw_dX1_makeGroups_35_c 6 rfl
theorem dX1_makeGroups_46 : Eq (decode cX1_makeGroups 46) (Except.ok (Instr.iload_n 1, 1)) := fE fw_dX1_makeGroups_35_c 7 rfl
theorem dX1_makeGroups_47 : Eq (decode cX1_makeGroups 47) (Except.ok (Instr.invokevirtual 102, 3)) := fE fw_dX1_makeGroups_35_c 8 rfl
theorem dX1_makeGroups_50 : Eq (decode cX1_makeGroups 50) (Except.ok (Instr.istore_n 2, 1)) := fE fw_dX1_makeGroups_35_c 9 rfl
theorem dX1_makeGroups_51 : Eq (decode cX1_makeGroups 51) (Except.ok (Instr.aload_n 0, 1)) := fE fw_dX1_makeGroups_35_c 10 rfl
theorem dX1_makeGroups_52 : Eq (decode cX1_makeGroups 52) (Except.ok (Instr.getfield 9, 3)) := fE fw_dX1_makeGroups_35_c 11 rfl
theorem dX1_makeGroups_55 : Eq (decode cX1_makeGroups 55) (Except.ok (Instr.iload_n 1, 1)) := fE fw_dX1_makeGroups_35_c 12 rfl
theorem dX1_makeGroups_56 : Eq (decode cX1_makeGroups 56) (Except.ok (Instr.iload_n 2, 1)) := fE fw_dX1_makeGroups_35_c 13 rfl
theorem dX1_makeGroups_57 : Eq (decode cX1_makeGroups 57) (Except.ok (Instr.iastore, 1)) := fE fw_dX1_makeGroups_35_c 14 rfl
theorem dX1_makeGroups_58 : Eq (decode cX1_makeGroups 58) (Except.ok (Instr.aload_n 0, 1)) := fE fw_dX1_makeGroups_35_c 15 rfl
theorem dX1_makeGroups_59 : Eq (decode cX1_makeGroups 59) (Except.ok (Instr.getfield 27, 3)) := fE fw_dX1_makeGroups_35_c 16 rfl
theorem dX1_makeGroups_62 : Eq (decode cX1_makeGroups 62) (Except.ok (Instr.iload_n 2, 1)) := fE fw_dX1_makeGroups_35_c 17 rfl
theorem dX1_makeGroups_63 : Eq (decode cX1_makeGroups 63) (Except.ok (Instr.dup2, 1)) := fE fw_dX1_makeGroups_35_c 18 rfl
theorem dX1_makeGroups_64 : Eq (decode cX1_makeGroups 64) (Except.ok (Instr.iaload, 1)) := fE fw_dX1_makeGroups_35_c 19 rfl
def fw_dX1_makeGroups_65 : List (Nat × Instr × Nat) := [(65, .iconst 1, 1), (66, .iload_n 1, 1), (67, .ishl, 1), (68, .ior, 1), (69, .iastore, 1), (70, .aload_n 0, 1), (71, .getfield 30, 3), (74, .iload_n 2, 1), (75, .dup2, 1), (76, .iaload, 1), (77, .aload_n 0, 1), (78, .getfield 21, 3), (81, .iload_n 1, 1), (82, .iaload, 1), (83, .iadd, 1), (84, .iastore, 1), (85, .aload_n 0, 1), (86, .aload_n 0, 1), (87, .getfield 80, 3), (90, .iload_n 2, 1)]
theorem fw_dX1_makeGroups_65_c : fchk 65 (cX1_makeGroups.data.toList.drop 65) fw_dX1_makeGroups_65 = true := by decide +kernel
theorem dX1_makeGroups_65 : Eq (decode cX1_makeGroups 65) (Except.ok (Instr.iconst 1, 1)) := fE fw_dX1_makeGroups_65_c 0 rfl
theorem dX1_makeGroups_66 : Eq (decode cX1_makeGroups 66) (Except.ok (Instr.iload_n 1, 1)) := fE fw_dX1_makeGroups_65_c 1 rfl
theorem dX1_makeGroups_67 : Eq (decode cX1_makeGroups 67) (Except.ok (Instr.ishl, 1)) := fE fw_dX1_makeGroups_65_c 2 rfl
theorem dX1_makeGroups_68 : Eq (decode cX1_makeGroups 68) (Except.ok (Instr.ior, 1)) := fE fw_dX1_makeGroups_65_c 3 rfl
theorem dX1_makeGroups_69 : Eq (decode cX1_makeGroups 69) (Except.ok (Instr.iastore, 1)) := fE fw_dX1_makeGroups_65_c 4 rfl
theorem dX1_makeGroups_70 : Eq (decode cX1_makeGroups 70) (Except.ok (Instr.aload_n 0, 1)) := fE fw_dX1_makeGroups_65_c 5 rfl
theorem dX1_makeGroups_71 : Eq (decode cX1_makeGroups 71) (Except.ok (Instr.getfield 30, 3)) := fE fw_dX1_makeGroups_65_c 6 rfl
theorem dX1_makeGroups_74 : Eq (decode cX1_makeGroups 74) (Except.ok (Instr.iload_n 2, 1)) := fE fw_dX1_makeGroups_65_c 7 rfl
theorem dX1_makeGroups_75 : Eq (decode cX1_makeGroups 75) (Except.ok (Instr.dup2, 1)) := fE fw_dX1_makeGroups_65_c 8 rfl
theorem dX1_makeGroups_76 : Eq (decode cX1_makeGroups 76) (Except.ok (Instr.iaload, 1)) := fE fw_dX1_makeGroups_65_c 9 rfl
theorem dX1_makeGroups_77 : Eq (decode cX1_makeGroups 77) (Except.ok (Instr.aload_n 0, 1)) := fE fw_dX1_makeGroups_65_c 10 rfl
theorem dX1_makeGroups_78 : Eq (decode cX1_makeGroups 78) (Except.ok (Instr.getfield 21, 3)) := fE fw_dX1_makeGroups_65_c 11 rfl
theorem dX1_makeGroups_81 : Eq (decode cX1_makeGroups 81) (Except.ok (Instr.iload_n 1, 1)) := fE fw_dX1_makeGroups_65_c 12 rfl
theorem dX1_makeGroups_82 : Eq (decode cX1_makeGroups 82) (Except.ok (Instr.iaload, 1)) := fE fw_dX1_makeGroups_65_c 13 rfl
theorem dX1_makeGroups_83 : Eq (decode cX1_makeGroups 83) (Except.ok (Instr.iadd, 1)) := fE fw_dX1_makeGroups_65_c 14 rfl
theorem dX1_makeGroups_84 : Eq (decode cX1_makeGroups 84) (Except.ok (Instr.iastore, 1)) := fE fw_dX1_makeGroups_65_c 15 rfl
theorem dX1_makeGroups_85 : Eq (decode cX1_makeGroups 85) (Except.ok (Instr.aload_n 0, 1)) := fE fw_dX1_makeGroups_65_c 16 rfl
theorem dX1_makeGroups_86 : Eq (decode cX1_makeGroups 86) (Except.ok (Instr.aload_n 0, 1)) := fE fw_dX1_makeGroups_65_c 17 rfl
theorem dX1_makeGroups_87 : Eq (decode cX1_makeGroups 87) (Except.ok (Instr.getfield 80, 3)) := fE fw_dX1_makeGroups_65_c 18 rfl
theorem dX1_makeGroups_90 : Eq (decode cX1_makeGroups 90) (Except.ok (Instr.iload_n 2, 1)) := fE fw_dX1_makeGroups_65_c 19 rfl
def fw_dX1_makeGroups_91 : List (Nat × Instr × Nat) := [(91, .iconst 1, 1), (92, .iadd, 1), (93, .invokestatic 105, 3), (96, .putfield 80, 3)]
theorem fw_dX1_makeGroups_91_c : fchk 91 (cX1_makeGroups.data.toList.drop 91) fw_dX1_makeGroups_91 = true := by decide +kernel
theorem dX1_makeGroups_91 : Eq (decode cX1_makeGroups 91) (Except.ok (Instr.iconst 1, 1)) := fE fw_dX1_makeGroups_91_c 0 rfl
theorem dX1_makeGroups_92 : Eq (decode cX1_makeGroups 92) (Except.ok (Instr.iadd, 1)) := fE fw_dX1_makeGroups_91_c 1 rfl
theorem dX1_makeGroups_93 : Eq (decode cX1_makeGroups 93) (Except.ok (Instr.invokestatic 105, 3)) := fE fw_dX1_makeGroups_91_c 2 rfl
theorem dX1_makeGroups_96 : Eq (decode cX1_makeGroups 96) (Except.ok (Instr.putfield 80, 3)) := fE fw_dX1_makeGroups_91_c 3 rfl
theorem dX1_makeGroups_99 : decode cX1_makeGroups 99 = .ok (.iinc 1 1, 3) := by decide +kernel
def fw_dX1_makeGroups_102 : List (Nat × Instr × Nat) := [(102, .goto (-79), 3), (105, .return_, 1)]
theorem fw_dX1_makeGroups_102_c : fchk 102 (cX1_makeGroups.data.toList.drop 102) fw_dX1_makeGroups_102 = true := by decide +kernel
theorem dX1_makeGroups_102 : Eq (decode cX1_makeGroups 102) (Except.ok (Instr.goto (-79), 3)) := fE fw_dX1_makeGroups_102_c 0 rfl
theorem dX1_makeGroups_105 : Eq (decode cX1_makeGroups 105) (Except.ok (Instr.return_, 1)) := fE fw_dX1_makeGroups_102_c 1 rfl
def fw_dX1_firstGroupFor_0 : List (Nat × Instr × Nat) := [(0, .iconst 0, 1), (1, .istore_n 2, 1), (2, .iload_n 2, 1), (3, .aload_n 0, 1), (4, .getfield 80, 3), (7, .if_icmp .ge 27, 3), (10, .aload_n 0, 1), (11, .getfield 27, 3), (14, .iload_n 2, 1), (15, .iaload, 1), (16, .aload_n 0, 1), (17, .getfield 24, 3), (20, .iload_n 1, 1), (21, .iaload, 1), (22, .iand, 1), (23, .ifCond .ne 5, 3), (26, .iload_n 2, 1), (27, .ireturn, 1)]
theorem fw_dX1_firstGroupFor_0_c : fchk 0 (cX1_firstGroupFor.data.toList.drop 0) fw_dX1_firstGroupFor_0 = true := by decide +kernel
theorem dX1_firstGroupFor_0 : Eq (decode cX1_firstGroupFor 0) (Except.ok (Instr.iconst 0, 1)) := fE fw_dX1_firstGroupFor_0_c 0 rfl
theorem dX1_firstGroupFor_1 : Eq (decode cX1_firstGroupFor 1) (Except.ok (Instr.istore_n 2, 1)) := fE fw_dX1_firstGroupFor_0_c 1 rfl
theorem dX1_firstGroupFor_2 : Eq (decode cX1_firstGroupFor 2) (Except.ok (Instr.iload_n 2, 1)) := fE fw_dX1_firstGroupFor_0_c 2 rfl
theorem dX1_firstGroupFor_3 : Eq (decode cX1_firstGroupFor 3) (Except.ok (Instr.aload_n 0, 1)) := fE fw_dX1_firstGroupFor_0_c 3 rfl
theorem dX1_firstGroupFor_4 : Eq (decode cX1_firstGroupFor 4) (Except.ok (Instr.getfield 80, 3)) := fE fw_dX1_firstGroupFor_0_c 4 rfl
theorem dX1_firstGroupFor_7 : Eq (decode cX1_firstGroupFor 7) (Except.ok (Instr.if_icmp .ge 27, 3)) := fE fw_dX1_firstGroupFor_0_c 5 rfl
theorem dX1_firstGroupFor_10 : Eq (decode cX1_firstGroupFor 10) (Except.ok (Instr.aload_n 0, 1)) := fE fw_dX1_firstGroupFor_0_c 6 rfl
theorem dX1_firstGroupFor_11 : Eq (decode cX1_firstGroupFor 11) (Except.ok (Instr.getfield 27, 3)) := fE fw_dX1_firstGroupFor_0_c 7 rfl
theorem dX1_firstGroupFor_14 : Eq (decode cX1_firstGroupFor 14) (Except.ok (Instr.iload_n 2, 1)) := fE fw_dX1_firstGroupFor_0_c 8 rfl
theorem dX1_firstGroupFor_15 : Eq (decode cX1_firstGroupFor 15) (Except.ok (Instr.iaload, 1)) := fE fw_dX1_firstGroupFor_0_c 9 rfl
theorem dX1_firstGroupFor_16 : Eq (decode cX1_firstGroupFor 16) (Except.ok (Instr.aload_n 0, 1)) := fE fw_dX1_firstGroupFor_0_c 10 rfl
theorem dX1_firstGroupFor_17 : Eq (decode cX1_firstGroupFor 17) (Except.ok (Instr.getfield 24, 3)) := fE fw_dX1_firstGroupFor_0_c 11 rfl
theorem dX1_firstGroupFor_20 : Eq (decode cX1_firstGroupFor 20) (Except.ok (Instr.iload_n 1, 1)) := fE fw_dX1_firstGroupFor_0_c 12 rfl
theorem dX1_firstGroupFor_21 : Eq (decode cX1_firstGroupFor 21) (Except.ok (Instr.iaload, 1)) := fE fw_dX1_firstGroupFor_0_c 13 rfl
theorem dX1_firstGroupFor_22 : Eq (decode cX1_firstGroupFor 22) (Except.ok (Instr.iand, 1)) := fE fw_dX1_firstGroupFor_0_c 14 rfl
theorem dX1_firstGroupFor_23 : Eq (decode cX1_firstGroupFor 23) (Except.ok (Instr.ifCond .ne 5, 3)) := fE fw_dX1_firstGroupFor_0_c 15 rfl
theorem dX1_firstGroupFor_26 : Eq (decode cX1_firstGroupFor 26) (Except.ok (Instr.iload_n 2, 1)) := fE fw_dX1_firstGroupFor_0_c 16 rfl
theorem dX1_firstGroupFor_27 : Eq (decode cX1_firstGroupFor 27) (Except.ok (Instr.ireturn, 1)) := fE fw_dX1_firstGroupFor_0_c 17 rfl
theorem dX1_firstGroupFor_28 : decode cX1_firstGroupFor 28 = .ok (.iinc 2 1, 3) := by decide +kernel
def fw_dX1_firstGroupFor_31 : List (Nat × Instr × Nat) := [(31, .goto (-29), 3), (34, .aload_n 0, 1), (35, .getfield 80, 3), (38, .ireturn, 1)]
theorem fw_dX1_firstGroupFor_31_c : fchk 31 (cX1_firstGroupFor.data.toList.drop 31) fw_dX1_firstGroupFor_31 = true := by decide +kernel
theorem dX1_firstGroupFor_31 : Eq (decode cX1_firstGroupFor 31) (Except.ok (Instr.goto (-29), 3)) := fE fw_dX1_firstGroupFor_31_c 0 rfl
theorem dX1_firstGroupFor_34 : Eq (decode cX1_firstGroupFor 34) (Except.ok (Instr.aload_n 0, 1)) := fE fw_dX1_firstGroupFor_31_c 1 rfl
theorem dX1_firstGroupFor_35 : Eq (decode cX1_firstGroupFor 35) (Except.ok (Instr.getfield 80, 3)) := fE fw_dX1_firstGroupFor_31_c 2 rfl
theorem dX1_firstGroupFor_38 : Eq (decode cX1_firstGroupFor 38) (Except.ok (Instr.ireturn, 1)) := fE fw_dX1_firstGroupFor_31_c 3 rfl
def fw_dX1_bitsToTell_0 : List (Nat × Instr × Nat) := [(0, .iconst 0, 1), (1, .istore_n 1, 1), (2, .iconst 1, 1), (3, .istore_n 2, 1), (4, .iload_n 2, 1), (5, .iload_n 0, 1), (6, .if_icmp .ge 13, 3)]
theorem fw_dX1_bitsToTell_0_c : fchk 0 (cX1_bitsToTell.data.toList.drop 0) fw_dX1_bitsToTell_0 = true := by decide +kernel
theorem dX1_bitsToTell_0 : Eq (decode cX1_bitsToTell 0) (Except.ok (Instr.iconst 0, 1)) := fE fw_dX1_bitsToTell_0_c 0 rfl
theorem dX1_bitsToTell_1 : Eq (decode cX1_bitsToTell 1) (Except.ok (Instr.istore_n 1, 1)) := fE fw_dX1_bitsToTell_0_c 1 rfl
theorem dX1_bitsToTell_2 : Eq (decode cX1_bitsToTell 2) (Except.ok (Instr.iconst 1, 1)) := fE fw_dX1_bitsToTell_0_c 2 rfl
theorem dX1_bitsToTell_3 : Eq (decode cX1_bitsToTell 3) (Except.ok (Instr.istore_n 2, 1)) := fE fw_dX1_bitsToTell_0_c 3 rfl
theorem dX1_bitsToTell_4 : Eq (decode cX1_bitsToTell 4) (Except.ok (Instr.iload_n 2, 1)) := fE fw_dX1_bitsToTell_0_c 4 rfl
theorem dX1_bitsToTell_5 : Eq (decode cX1_bitsToTell 5) (Except.ok (Instr.iload_n 0, 1)) := fE fw_dX1_bitsToTell_0_c 5 rfl
theorem dX1_bitsToTell_6 : Eq (decode cX1_bitsToTell 6) (Except.ok (Instr.if_icmp .ge 13, 3)) := fE fw_dX1_bitsToTell_0_c 6 rfl
theorem dX1_bitsToTell_9 : decode cX1_bitsToTell 9 = .ok (.iinc 1 1, 3) := by decide +kernel
def fw_dX1_bitsToTell_12 : List (Nat × Instr × Nat) := [(12, .iload_n 2, 1), (13, .iconst 2, 1), (14, .imul, 1), (15, .istore_n 2, 1), (16, .goto (-12), 3), (19, .iload_n 1, 1), (20, .ireturn, 1)]
theorem fw_dX1_bitsToTell_12_c : fchk 12 (cX1_bitsToTell.data.toList.drop 12) fw_dX1_bitsToTell_12 = true := by decide +kernel
theorem dX1_bitsToTell_12 : Eq (decode cX1_bitsToTell 12) (Except.ok (Instr.iload_n 2, 1)) := fE fw_dX1_bitsToTell_12_c 0 rfl
theorem dX1_bitsToTell_13 : Eq (decode cX1_bitsToTell 13) (Except.ok (Instr.iconst 2, 1)) := fE fw_dX1_bitsToTell_12_c 1 rfl
theorem dX1_bitsToTell_14 : Eq (decode cX1_bitsToTell 14) (Except.ok (Instr.imul, 1)) := fE fw_dX1_bitsToTell_12_c 2 rfl
theorem dX1_bitsToTell_15 : Eq (decode cX1_bitsToTell 15) (Except.ok (Instr.istore_n 2, 1)) := fE fw_dX1_bitsToTell_12_c 3 rfl
theorem dX1_bitsToTell_16 : Eq (decode cX1_bitsToTell 16) (Except.ok (Instr.goto (-12), 3)) := fE fw_dX1_bitsToTell_12_c 4 rfl
theorem dX1_bitsToTell_19 : Eq (decode cX1_bitsToTell 19) (Except.ok (Instr.iload_n 1, 1)) := fE fw_dX1_bitsToTell_12_c 5 rfl
theorem dX1_bitsToTell_20 : Eq (decode cX1_bitsToTell 20) (Except.ok (Instr.ireturn, 1)) := fE fw_dX1_bitsToTell_12_c 6 rfl
set_option maxRecDepth 20000 in
theorem gi_wsX2_init_0 : GoodIn wsX2_init wsX2_init := goodIn_sub (fun _ h => h) (by decide +kernel)
set_option maxRecDepth 20000 in
theorem gi_wsX2_init_1 : GoodIn wsX2_init wsX20 := goodIn_sub (fun w h => List.mem_cons_of_mem _ (List.mem_append_right _ h)) (by decide +kernel)
def bs_wsX2_init : List (List Cond) := [wsX2_init, wsX20]
theorem bs_wsX2_init_in : ∀ b ∈ bs_wsX2_init, GoodIn wsX2_init b := List.forall_mem_cons.mpr ⟨gi_wsX2_init_0, List.forall_mem_cons.mpr ⟨gi_wsX2_init_1, (fun _ h => absurd h List.not_mem_nil)⟩⟩
set_option maxRecDepth 20000 in
theorem ggX2_init_J7_fill_53178 : GoodIn wsX2_init wsJ7_fill_53178 := goodIn_k (gi_q bs_wsX2_init_in _ [(0, 13)] rfl) (gi_q bs_wsX2_init_in _ [] rfl)
set_option maxRecDepth 20000 in
theorem gX2_init_J7_fill_53178 : GoodIn wsX2_init (va_wsS RX2 25 yJ7_fill_53178 wsJ7_fill_53178) := goodIn_app (gi_q bs_wsX2_init_in _ [(0, 10), (0, 11), (0, 12)] rfl) ggX2_init_J7_fill_53178
def fw_dX2_init_0 : List (Nat × Instr × Nat) := [(0, .aload_n 0, 1), (1, .invokespecial 3, 3), (4, .aload_n 0, 1), (5, .bipush 8, 2)]
theorem fw_dX2_init_0_c : fchk 0 (cX2_init.data.toList.drop 0) fw_dX2_init_0 = true := by decide +kernel
theorem dX2_init_0 : Eq (decode cX2_init 0) (Except.ok (Instr.aload_n 0, 1)) := fE fw_dX2_init_0_c 0 rfl
theorem dX2_init_1 : Eq (decode cX2_init 1) (Except.ok (Instr.invokespecial 3, 3)) := fE fw_dX2_init_0_c 1 rfl
theorem dX2_init_4 : Eq (decode cX2_init 4) (Except.ok (Instr.aload_n 0, 1)) := fE fw_dX2_init_0_c 2 rfl
theorem dX2_init_5 : Eq (decode cX2_init 5) (Except.ok (Instr.bipush 8, 2)) := fE fw_dX2_init_0_c 3 rfl
theorem dX2_init_7 : decode cX2_init 7 = .ok (.newarray .int, 2) := by decide +kernel
def fw_dX2_init_9 : List (Nat × Instr × Nat) := [(9, .putfield 9, 3), (12, .aload_n 0, 1), (13, .bipush 74, 2)]
theorem fw_dX2_init_9_c : fchk 9 (cX2_init.data.toList.drop 9) fw_dX2_init_9 = true := by decide +kernel
theorem dX2_init_9 : Eq (decode cX2_init 9) (Except.ok (Instr.putfield 9, 3)) := fE fw_dX2_init_9_c 0 rfl
theorem dX2_init_12 : Eq (decode cX2_init 12) (Except.ok (Instr.aload_n 0, 1)) := fE fw_dX2_init_9_c 1 rfl
theorem dX2_init_13 : Eq (decode cX2_init 13) (Except.ok (Instr.bipush 74, 2)) := fE fw_dX2_init_9_c 2 rfl
theorem dX2_init_15 : decode cX2_init 15 = .ok (.newarray .long, 2) := by decide +kernel
def fw_dX2_init_17 : List (Nat × Instr × Nat) := [(17, .putfield 15, 3), (20, .aload_n 0, 1), (21, .bipush 30, 2)]
theorem fw_dX2_init_17_c : fchk 17 (cX2_init.data.toList.drop 17) fw_dX2_init_17 = true := by decide +kernel
theorem dX2_init_17 : Eq (decode cX2_init 17) (Except.ok (Instr.putfield 15, 3)) := fE fw_dX2_init_17_c 0 rfl
theorem dX2_init_20 : Eq (decode cX2_init 20) (Except.ok (Instr.aload_n 0, 1)) := fE fw_dX2_init_17_c 1 rfl
theorem dX2_init_21 : Eq (decode cX2_init 21) (Except.ok (Instr.bipush 30, 2)) := fE fw_dX2_init_17_c 2 rfl
theorem dX2_init_23 : decode cX2_init 23 = .ok (.newarray .int, 2) := by decide +kernel
def fw_dX2_init_25 : List (Nat × Instr × Nat) := [(25, .putfield 19, 3), (28, .aload_n 0, 1), (29, .bipush 30, 2)]
theorem fw_dX2_init_25_c : fchk 25 (cX2_init.data.toList.drop 25) fw_dX2_init_25 = true := by decide +kernel
theorem dX2_init_25 : Eq (decode cX2_init 25) (Except.ok (Instr.putfield 19, 3)) := fE fw_dX2_init_25_c 0 rfl
theorem dX2_init_28 : Eq (decode cX2_init 28) (Except.ok (Instr.aload_n 0, 1)) := fE fw_dX2_init_25_c 1 rfl
theorem dX2_init_29 : Eq (decode cX2_init 29) (Except.ok (Instr.bipush 30, 2)) := fE fw_dX2_init_25_c 2 rfl
theorem dX2_init_31 : decode cX2_init 31 = .ok (.newarray .long, 2) := by decide +kernel
def fw_dX2_init_33 : List (Nat × Instr × Nat) := [(33, .putfield 22, 3), (36, .aload_n 0, 1), (37, .getfield 9, 3), (40, .bipush 16, 2), (42, .invokestatic 25, 3), (45, .return_, 1)]
theorem fw_dX2_init_33_c : fchk 33 (cX2_init.data.toList.drop 33) fw_dX2_init_33 = true := by decide +kernel
theorem dX2_init_33 : Eq (decode cX2_init 33) (Except.ok (Instr.putfield 22, 3)) := fE fw_dX2_init_33_c 0 rfl
theorem dX2_init_36 : Eq (decode cX2_init 36) (Except.ok (Instr.aload_n 0, 1)) := fE fw_dX2_init_33_c 1 rfl
theorem dX2_init_37 : Eq (decode cX2_init 37) (Except.ok (Instr.getfield 9, 3)) := fE fw_dX2_init_33_c 2 rfl
theorem dX2_init_40 : Eq (decode cX2_init 40) (Except.ok (Instr.bipush 16, 2)) := fE fw_dX2_init_33_c 3 rfl
theorem dX2_init_42 : Eq (decode cX2_init 42) (Except.ok (Instr.invokestatic 25, 3)) := fE fw_dX2_init_33_c 4 rfl
theorem dX2_init_45 : Eq (decode cX2_init 45) (Except.ok (Instr.return_, 1)) := fE fw_dX2_init_33_c 5 rfl
def fw_dX2_cutFor_0 : List (Nat × Instr × Nat) := [(0, .iload_n 1, 1), (1, .bipush 8, 2), (3, .if_icmp .ge 12, 3), (6, .aload_n 0, 1), (7, .getfield 9, 3), (10, .iload_n 1, 1), (11, .iaload, 1), (12, .goto 5, 3), (15, .bipush 32, 2), (17, .istore 4, 2), (19, .lload_n 2, 1), (20, .lconst 1, 1), (21, .iload 4, 2), (23, .lshl, 1), (24, .lconst 1, 1), (25, .lsub, 1), (26, .land, 1), (27, .lreturn, 1)]
theorem fw_dX2_cutFor_0_c : fchk 0 (cX2_cutFor.data.toList.drop 0) fw_dX2_cutFor_0 = true := by decide +kernel
theorem dX2_cutFor_0 : Eq (decode cX2_cutFor 0) (Except.ok (Instr.iload_n 1, 1)) := fE fw_dX2_cutFor_0_c 0 rfl
theorem dX2_cutFor_1 : Eq (decode cX2_cutFor 1) (Except.ok (Instr.bipush 8, 2)) := fE fw_dX2_cutFor_0_c 1 rfl
theorem dX2_cutFor_3 : Eq (decode cX2_cutFor 3) (Except.ok (Instr.if_icmp .ge 12, 3)) := fE fw_dX2_cutFor_0_c 2 rfl
theorem dX2_cutFor_6 : Eq (decode cX2_cutFor 6) (Except.ok (Instr.aload_n 0, 1)) := fE fw_dX2_cutFor_0_c 3 rfl
theorem dX2_cutFor_7 : Eq (decode cX2_cutFor 7) (Except.ok (Instr.getfield 9, 3)) := fE fw_dX2_cutFor_0_c 4 rfl
theorem dX2_cutFor_10 : Eq (decode cX2_cutFor 10) (Except.ok (Instr.iload_n 1, 1)) := fE fw_dX2_cutFor_0_c 5 rfl
theorem dX2_cutFor_11 : Eq (decode cX2_cutFor 11) (Except.ok (Instr.iaload, 1)) := fE fw_dX2_cutFor_0_c 6 rfl
theorem dX2_cutFor_12 : Eq (decode cX2_cutFor 12) (Except.ok (Instr.goto 5, 3)) := fE fw_dX2_cutFor_0_c 7 rfl
theorem dX2_cutFor_15 : Eq (decode cX2_cutFor 15) (Except.ok (Instr.bipush 32, 2)) := fE fw_dX2_cutFor_0_c 8 rfl
theorem dX2_cutFor_17 : Eq (decode cX2_cutFor 17) (Except.ok (Instr.istore 4, 2)) := fE fw_dX2_cutFor_0_c 9 rfl
theorem dX2_cutFor_19 : Eq (decode cX2_cutFor 19) (Except.ok (Instr.lload_n 2, 1)) := fE fw_dX2_cutFor_0_c 10 rfl
theorem dX2_cutFor_20 : Eq (decode cX2_cutFor 20) (Except.ok (Instr.lconst 1, 1)) := fE fw_dX2_cutFor_0_c 11 rfl
theorem dX2_cutFor_21 : Eq (decode cX2_cutFor 21) (Except.ok (Instr.iload 4, 2)) := fE fw_dX2_cutFor_0_c 12 rfl
theorem dX2_cutFor_23 : Eq (decode cX2_cutFor 23) (Except.ok (Instr.lshl, 1)) := fE fw_dX2_cutFor_0_c 13 rfl
theorem dX2_cutFor_24 : Eq (decode cX2_cutFor 24) (Except.ok (Instr.lconst 1, 1)) := fE fw_dX2_cutFor_0_c 14 rfl
theorem dX2_cutFor_25 : Eq (decode cX2_cutFor 25) (Except.ok (Instr.lsub, 1)) := fE fw_dX2_cutFor_0_c 15 rfl
theorem dX2_cutFor_26 : Eq (decode cX2_cutFor 26) (Except.ok (Instr.land, 1)) := fE fw_dX2_cutFor_0_c 16 rfl
theorem dX2_cutFor_27 : Eq (decode cX2_cutFor 27) (Except.ok (Instr.lreturn, 1)) := fE fw_dX2_cutFor_0_c 17 rfl
set_option maxRecDepth 20000 in
theorem gi_wsX2_put_0 : GoodIn wsX2_put wsX2_put := goodIn_sub (fun _ h => h) (by decide +kernel)
set_option maxRecDepth 20000 in
theorem gi_wsX2_put_1 : GoodIn wsX2_put wsX20 := goodIn_sub (fun w h => List.mem_cons_of_mem _ (List.mem_append_right _ h)) (by decide +kernel)
def bs_wsX2_put : List (List Cond) := [wsX2_put, wsX20]
theorem bs_wsX2_put_in : ∀ b ∈ bs_wsX2_put, GoodIn wsX2_put b := List.forall_mem_cons.mpr ⟨gi_wsX2_put_0, List.forall_mem_cons.mpr ⟨gi_wsX2_put_1, (fun _ h => absurd h List.not_mem_nil)⟩⟩
set_option maxRecDepth 20000 in
theorem ggX2_put_X2_cutFor : GoodIn wsX2_put wsX2_cutFor := goodIn_k (gi_q bs_wsX2_put_in _ [(0, 6)] rfl) (goodIn_app (gi_q bs_wsX2_put_in _ [(0, 7)] rfl) (gi_wsX2_put_1))
set_option maxRecDepth 20000 in
theorem gX2_put_X2_cutFor : GoodIn wsX2_put (wsV RX2 31 RX2 yX2_cutFor wsX2_cutFor) := goodIn_app (gi_q bs_wsX2_put_in _ [(0, 2), (0, 3), (0, 4), (0, 5)] rfl) ggX2_put_X2_cutFor
def fw_dX2_put_0 : List (Nat × Instr × Nat) := [(0, .aload_n 0, 1), (1, .getfield 15, 3), (4, .iload_n 1, 1), (5, .laload, 1), (6, .lstore 4, 2), (8, .aload_n 0, 1), (9, .getfield 15, 3), (12, .iload_n 1, 1), (13, .aload_n 0, 1), (14, .iload_n 1, 1), (15, .lload_n 2, 1), (16, .invokevirtual 31, 3), (19, .lastore, 1), (20, .aload_n 0, 1), (21, .getfield 15, 3), (24, .iload_n 1, 1), (25, .laload, 1), (26, .lload 4, 2), (28, .lcmp, 1), (29, .ifCond .ne 7, 3)]
theorem fw_dX2_put_0_c : fchk 0 (cX2_put.data.toList.drop 0) fw_dX2_put_0 = true := by decide +kernel
theorem dX2_put_0 : Eq (decode cX2_put 0) (Except.ok (Instr.aload_n 0, 1)) := fE fw_dX2_put_0_c 0 rfl
theorem dX2_put_1 : Eq (decode cX2_put 1) (Except.ok (Instr.getfield 15, 3)) := fE fw_dX2_put_0_c 1 rfl
theorem dX2_put_4 : Eq (decode cX2_put 4) (Except.ok (Instr.iload_n 1, 1)) := fE fw_dX2_put_0_c 2 rfl
theorem dX2_put_5 : Eq (decode cX2_put 5) (Except.ok (Instr.laload, 1)) := fE fw_dX2_put_0_c 3 rfl
theorem dX2_put_6 : Eq (decode cX2_put 6) (Except.ok (Instr.lstore 4, 2)) := fE fw_dX2_put_0_c 4 rfl
theorem dX2_put_8 : Eq (decode cX2_put 8) (Except.ok (Instr.aload_n 0, 1)) := fE fw_dX2_put_0_c 5 rfl
theorem dX2_put_9 : Eq (decode cX2_put 9) (Except.ok (Instr.getfield 15, 3)) := fE fw_dX2_put_0_c 6 rfl
theorem dX2_put_12 : Eq (decode cX2_put 12) (Except.ok (Instr.iload_n 1, 1)) := fE fw_dX2_put_0_c 7 rfl
theorem dX2_put_13 : Eq (decode cX2_put 13) (Except.ok (Instr.aload_n 0, 1)) := fE fw_dX2_put_0_c 8 rfl
theorem dX2_put_14 : Eq (decode cX2_put 14) (Except.ok (Instr.iload_n 1, 1)) := fE fw_dX2_put_0_c 9 rfl
theorem dX2_put_15 : Eq (decode cX2_put 15) (Except.ok (Instr.lload_n 2, 1)) := fE fw_dX2_put_0_c 10 rfl
theorem dX2_put_16 : Eq (decode cX2_put 16) (Except.ok (Instr.invokevirtual 31, 3)) := fE fw_dX2_put_0_c 11 rfl
theorem dX2_put_19 : Eq (decode cX2_put 19) (Except.ok (Instr.lastore, 1)) := fE fw_dX2_put_0_c 12 rfl
theorem dX2_put_20 : Eq (decode cX2_put 20) (Except.ok (Instr.aload_n 0, 1)) := fE fw_dX2_put_0_c 13 rfl
theorem dX2_put_21 : Eq (decode cX2_put 21) (Except.ok (Instr.getfield 15, 3)) := fE fw_dX2_put_0_c 14 rfl
theorem dX2_put_24 : Eq (decode cX2_put 24) (Except.ok (Instr.iload_n 1, 1)) := fE fw_dX2_put_0_c 15 rfl
theorem dX2_put_25 : Eq (decode cX2_put 25) (Except.ok (Instr.laload, 1)) := fE fw_dX2_put_0_c 16 rfl
theorem dX2_put_26 : Eq (decode cX2_put 26) (Except.ok (Instr.lload 4, 2)) := fE fw_dX2_put_0_c 17 rfl
theorem dX2_put_28 : Eq (decode cX2_put 28) (Except.ok (Instr.lcmp, 1)) := fE fw_dX2_put_0_c 18 rfl
theorem dX2_put_29 : Eq (decode cX2_put 29) (Except.ok (Instr.ifCond .ne 7, 3)) := fE fw_dX2_put_0_c 19 rfl
def fw_dX2_put_32 : List (Nat × Instr × Nat) := [(32, .iconst 0, 1), (33, .goto 4, 3), (36, .iconst 1, 1), (37, .ireturn, 1)]
theorem fw_dX2_put_32_c : fchk 32 (cX2_put.data.toList.drop 32) fw_dX2_put_32 = true := by decide +kernel
theorem dX2_put_32 : Eq (decode cX2_put 32) (Except.ok (Instr.iconst 0, 1)) := fE fw_dX2_put_32_c 0 rfl
theorem dX2_put_33 : Eq (decode cX2_put 33) (Except.ok (Instr.goto 4, 3)) := fE fw_dX2_put_32_c 1 rfl
theorem dX2_put_36 : Eq (decode cX2_put 36) (Except.ok (Instr.iconst 1, 1)) := fE fw_dX2_put_32_c 2 rfl
theorem dX2_put_37 : Eq (decode cX2_put 37) (Except.ok (Instr.ireturn, 1)) := fE fw_dX2_put_32_c 3 rfl
def fw_dX2_forgetOlds_0 : List (Nat × Instr × Nat) := [(0, .aload_n 0, 1), (1, .iconst 0, 1), (2, .putfield 35, 3), (5, .return_, 1)]
theorem fw_dX2_forgetOlds_0_c : fchk 0 (cX2_forgetOlds.data.toList.drop 0) fw_dX2_forgetOlds_0 = true := by decide +kernel
theorem dX2_forgetOlds_0 : Eq (decode cX2_forgetOlds 0) (Except.ok (Instr.aload_n 0, 1)) := fE fw_dX2_forgetOlds_0_c 0 rfl
theorem dX2_forgetOlds_1 : Eq (decode cX2_forgetOlds 1) (Except.ok (Instr.iconst 0, 1)) := fE fw_dX2_forgetOlds_0_c 1 rfl
theorem dX2_forgetOlds_2 : Eq (decode cX2_forgetOlds 2) (Except.ok (Instr.putfield 35, 3)) := fE fw_dX2_forgetOlds_0_c 2 rfl
theorem dX2_forgetOlds_5 : Eq (decode cX2_forgetOlds 5) (Except.ok (Instr.return_, 1)) := fE fw_dX2_forgetOlds_0_c 3 rfl
set_option maxRecDepth 20000 in
theorem gi_wsX2_putAndRemember_0 : GoodIn wsX2_putAndRemember wsX2_putAndRemember := goodIn_sub (fun _ h => h) (by decide +kernel)
set_option maxRecDepth 20000 in
theorem gi_wsX2_putAndRemember_1 : GoodIn wsX2_putAndRemember wsX20 := goodIn_sub (fun w h => List.mem_cons_of_mem _ (List.mem_append_right _ h)) (by decide +kernel)
def bs_wsX2_putAndRemember : List (List Cond) := [wsX2_putAndRemember, wsX20]
theorem bs_wsX2_putAndRemember_in : ∀ b ∈ bs_wsX2_putAndRemember, GoodIn wsX2_putAndRemember b := List.forall_mem_cons.mpr ⟨gi_wsX2_putAndRemember_0, List.forall_mem_cons.mpr ⟨gi_wsX2_putAndRemember_1, (fun _ h => absurd h List.not_mem_nil)⟩⟩
set_option maxRecDepth 20000 in
theorem ggX2_putAndRemember_X2_put : GoodIn wsX2_putAndRemember wsX2_put := goodIn_k (gi_q bs_wsX2_putAndRemember_in _ [(0, 9)] rfl) (goodIn_app (gi_q bs_wsX2_putAndRemember_in _ [(0, 4), (0, 10), (0, 11), (0, 12), (0, 8), (0, 13), (0, 14)] rfl) (gi_wsX2_putAndRemember_1))
set_option maxRecDepth 20000 in
theorem gX2_putAndRemember_X2_put : GoodIn wsX2_putAndRemember (wsV RX2 39 RX2 yX2_put wsX2_put) := goodIn_app (gi_q bs_wsX2_putAndRemember_in _ [(0, 5), (0, 6), (0, 7), (0, 8)] rfl) ggX2_putAndRemember_X2_put
def fw_dX2_putAndRemember_0 : List (Nat × Instr × Nat) := [(0, .aload_n 0, 1), (1, .getfield 35, 3), (4, .bipush 30, 2), (6, .if_icmp .ge 38, 3), (9, .aload_n 0, 1), (10, .getfield 19, 3), (13, .aload_n 0, 1), (14, .getfield 35, 3), (17, .iload_n 1, 1), (18, .iastore, 1), (19, .aload_n 0, 1), (20, .getfield 22, 3), (23, .aload_n 0, 1), (24, .getfield 35, 3), (27, .aload_n 0, 1), (28, .getfield 15, 3), (31, .iload_n 1, 1), (32, .laload, 1), (33, .lastore, 1), (34, .aload_n 0, 1)]
theorem fw_dX2_putAndRemember_0_c : fchk 0 (cX2_putAndRemember.data.toList.drop 0) fw_dX2_putAndRemember_0 = true := by decide +kernel
theorem dX2_putAndRemember_0 : Eq (decode cX2_putAndRemember 0) (Except.ok (Instr.aload_n 0, 1)) := fE fw_dX2_putAndRemember_0_c 0 rfl
theorem dX2_putAndRemember_1 : Eq (decode cX2_putAndRemember 1) (Except.ok (Instr.getfield 35, 3)) := fE fw_dX2_putAndRemember_0_c 1 rfl
theorem dX2_putAndRemember_4 : Eq (decode cX2_putAndRemember 4) (Except.ok (Instr.bipush 30, 2)) := fE fw_dX2_putAndRemember_0_c 2 rfl
theorem dX2_putAndRemember_6 : Eq (decode cX2_putAndRemember 6) (Except.ok (Instr.if_icmp .ge 38, 3)) := fE fw_dX2_putAndRemember_0_c 3 rfl
theorem dX2_putAndRemember_9 : Eq (decode cX2_putAndRemember 9) (Except.ok (Instr.aload_n 0, 1)) := fE fw_dX2_putAndRemember_0_c 4 rfl
theorem dX2_putAndRemember_10 : Eq (decode cX2_putAndRemember 10) (Except.ok (Instr.getfield 19, 3)) := fE fw_dX2_putAndRemember_0_c 5 rfl
theorem dX2_putAndRemember_13 : Eq (decode cX2_putAndRemember 13) (Except.ok (Instr.aload_n 0, 1)) := fE fw_dX2_putAndRemember_0_c 6 rfl
theorem dX2_putAndRemember_14 : Eq (decode cX2_putAndRemember 14) (Except.ok (Instr.getfield 35, 3)) := fE fw_dX2_putAndRemember_0_c 7 rfl
theorem dX2_putAndRemember_17 : Eq (decode cX2_putAndRemember 17) (Except.ok (Instr.iload_n 1, 1)) := fE fw_dX2_putAndRemember_0_c 8 rfl
theorem dX2_putAndRemember_18 : Eq (decode cX2_putAndRemember 18) (Except.ok (Instr.iastore, 1)) := fE fw_dX2_putAndRemember_0_c 9 rfl
theorem dX2_putAndRemember_19 : Eq (decode cX2_putAndRemember 19) (Except.ok (Instr.aload_n 0, 1)) := fE fw_dX2_putAndRemember_0_c 10 rfl
theorem dX2_putAndRemember_20 : Eq (decode cX2_putAndRemember 20) (Except.ok (Instr.getfield 22, 3)) := fE fw_dX2_putAndRemember_0_c 11 rfl
theorem dX2_putAndRemember_23 : Eq (decode cX2_putAndRemember 23) (Except.ok (Instr.aload_n 0, 1)) := fE fw_dX2_putAndRemember_0_c 12 rfl
theorem dX2_putAndRemember_24 : Eq (decode cX2_putAndRemember 24) (Except.ok (Instr.getfield 35, 3)) := fE fw_dX2_putAndRemember_0_c 13 rfl
theorem dX2_putAndRemember_27 : Eq (decode cX2_putAndRemember 27) (Except.ok (Instr.aload_n 0, 1)) := fE fw_dX2_putAndRemember_0_c 14 rfl
theorem dX2_putAndRemember_28 : Eq (decode cX2_putAndRemember 28) (Except.ok (Instr.getfield 15, 3)) := fE fw_dX2_putAndRemember_0_c 15 rfl
theorem dX2_putAndRemember_31 : Eq (decode cX2_putAndRemember 31) (Except.ok (Instr.iload_n 1, 1)) := fE fw_dX2_putAndRemember_0_c 16 rfl
theorem dX2_putAndRemember_32 : Eq (decode cX2_putAndRemember 32) (Except.ok (Instr.laload, 1)) := fE fw_dX2_putAndRemember_0_c 17 rfl
theorem dX2_putAndRemember_33 : Eq (decode cX2_putAndRemember 33) (Except.ok (Instr.lastore, 1)) := fE fw_dX2_putAndRemember_0_c 18 rfl
theorem dX2_putAndRemember_34 : Eq (decode cX2_putAndRemember 34) (Except.ok (Instr.aload_n 0, 1)) := fE fw_dX2_putAndRemember_0_c 19 rfl
def fw_dX2_putAndRemember_35 : List (Nat × Instr × Nat) := [(35, .dup, 1), (36, .getfield 35, 3), (39, .iconst 1, 1), (40, .iadd, 1), (41, .putfield 35, 3), (44, .aload_n 0, 1), (45, .iload_n 1, 1), (46, .lload_n 2, 1), (47, .invokevirtual 39, 3), (50, .pop, 1), (51, .return_, 1)]
theorem fw_dX2_putAndRemember_35_c : fchk 35 (cX2_putAndRemember.data.toList.drop 35) fw_dX2_putAndRemember_35 = true := by decide +kernel
theorem dX2_putAndRemember_35 : Eq (decode cX2_putAndRemember 35) (Except.ok (Instr.dup, 1)) := fE fw_dX2_putAndRemember_35_c 0 rfl
theorem dX2_putAndRemember_36 : Eq (decode cX2_putAndRemember 36) (Except.ok (Instr.getfield 35, 3)) := fE fw_dX2_putAndRemember_35_c 1 rfl
theorem dX2_putAndRemember_39 : Eq (decode cX2_putAndRemember 39) (Except.ok (Instr.iconst 1, 1)) := fE fw_dX2_putAndRemember_35_c 2 rfl
theorem dX2_putAndRemember_40 : Eq (decode cX2_putAndRemember 40) (Except.ok (Instr.iadd, 1)) := fE fw_dX2_putAndRemember_35_c 3 rfl
theorem dX2_putAndRemember_41 : Eq (decode cX2_putAndRemember 41) (Except.ok (Instr.putfield 35, 3)) := fE fw_dX2_putAndRemember_35_c 4 rfl
theorem dX2_putAndRemember_44 : Eq (decode cX2_putAndRemember 44) (Except.ok (Instr.aload_n 0, 1)) := fE fw_dX2_putAndRemember_35_c 5 rfl
theorem dX2_putAndRemember_45 : Eq (decode cX2_putAndRemember 45) (Except.ok (Instr.iload_n 1, 1)) := fE fw_dX2_putAndRemember_35_c 6 rfl
theorem dX2_putAndRemember_46 : Eq (decode cX2_putAndRemember 46) (Except.ok (Instr.lload_n 2, 1)) := fE fw_dX2_putAndRemember_35_c 7 rfl
theorem dX2_putAndRemember_47 : Eq (decode cX2_putAndRemember 47) (Except.ok (Instr.invokevirtual 39, 3)) := fE fw_dX2_putAndRemember_35_c 8 rfl
theorem dX2_putAndRemember_50 : Eq (decode cX2_putAndRemember 50) (Except.ok (Instr.pop, 1)) := fE fw_dX2_putAndRemember_35_c 9 rfl
theorem dX2_putAndRemember_51 : Eq (decode cX2_putAndRemember 51) (Except.ok (Instr.return_, 1)) := fE fw_dX2_putAndRemember_35_c 10 rfl
def fw_dX2_goBack_0 : List (Nat × Instr × Nat) := [(0, .aload_n 0, 1), (1, .getfield 35, 3), (4, .iconst 1, 1), (5, .isub, 1), (6, .istore_n 1, 1), (7, .iload_n 1, 1), (8, .ifCond .lt 26, 3), (11, .aload_n 0, 1), (12, .getfield 15, 3), (15, .aload_n 0, 1), (16, .getfield 19, 3), (19, .iload_n 1, 1), (20, .iaload, 1), (21, .aload_n 0, 1), (22, .getfield 22, 3), (25, .iload_n 1, 1), (26, .laload, 1), (27, .lastore, 1)]
theorem fw_dX2_goBack_0_c : fchk 0 (cX2_goBack.data.toList.drop 0) fw_dX2_goBack_0 = true := by decide +kernel
theorem dX2_goBack_0 : Eq (decode cX2_goBack 0) (Except.ok (Instr.aload_n 0, 1)) := fE fw_dX2_goBack_0_c 0 rfl
theorem dX2_goBack_1 : Eq (decode cX2_goBack 1) (Except.ok (Instr.getfield 35, 3)) := fE fw_dX2_goBack_0_c 1 rfl
theorem dX2_goBack_4 : Eq (decode cX2_goBack 4) (Except.ok (Instr.iconst 1, 1)) := fE fw_dX2_goBack_0_c 2 rfl
theorem dX2_goBack_5 : Eq (decode cX2_goBack 5) (Except.ok (Instr.isub, 1)) := fE fw_dX2_goBack_0_c 3 rfl
theorem dX2_goBack_6 : Eq (decode cX2_goBack 6) (Except.ok (Instr.istore_n 1, 1)) := fE fw_dX2_goBack_0_c 4 rfl
theorem dX2_goBack_7 : Eq (decode cX2_goBack 7) (Except.ok (Instr.iload_n 1, 1)) := fE fw_dX2_goBack_0_c 5 rfl
theorem dX2_goBack_8 : Eq (decode cX2_goBack 8) (Except.ok (Instr.ifCond .lt 26, 3)) := fE fw_dX2_goBack_0_c 6 rfl
theorem dX2_goBack_11 : Eq (decode cX2_goBack 11) (Except.ok (Instr.aload_n 0, 1)) := fE fw_dX2_goBack_0_c 7 rfl
theorem dX2_goBack_12 : Eq (decode cX2_goBack 12) (Except.ok (Instr.getfield 15, 3)) := fE fw_dX2_goBack_0_c 8 rfl
theorem dX2_goBack_15 : Eq (decode cX2_goBack 15) (Except.ok (Instr.aload_n 0, 1)) := fE fw_dX2_goBack_0_c 9 rfl
theorem dX2_goBack_16 : Eq (decode cX2_goBack 16) (Except.ok (Instr.getfield 19, 3)) := fE fw_dX2_goBack_0_c 10 rfl
theorem dX2_goBack_19 : Eq (decode cX2_goBack 19) (Except.ok (Instr.iload_n 1, 1)) := fE fw_dX2_goBack_0_c 11 rfl
theorem dX2_goBack_20 : Eq (decode cX2_goBack 20) (Except.ok (Instr.iaload, 1)) := fE fw_dX2_goBack_0_c 12 rfl
theorem dX2_goBack_21 : Eq (decode cX2_goBack 21) (Except.ok (Instr.aload_n 0, 1)) := fE fw_dX2_goBack_0_c 13 rfl
theorem dX2_goBack_22 : Eq (decode cX2_goBack 22) (Except.ok (Instr.getfield 22, 3)) := fE fw_dX2_goBack_0_c 14 rfl
theorem dX2_goBack_25 : Eq (decode cX2_goBack 25) (Except.ok (Instr.iload_n 1, 1)) := fE fw_dX2_goBack_0_c 15 rfl
theorem dX2_goBack_26 : Eq (decode cX2_goBack 26) (Except.ok (Instr.laload, 1)) := fE fw_dX2_goBack_0_c 16 rfl
theorem dX2_goBack_27 : Eq (decode cX2_goBack 27) (Except.ok (Instr.lastore, 1)) := fE fw_dX2_goBack_0_c 17 rfl
theorem dX2_goBack_28 : decode cX2_goBack 28 = .ok (.iinc 1 (-1), 3) := by decide +kernel
def fw_dX2_goBack_31 : List (Nat × Instr × Nat) := [(31, .goto (-24), 3), (34, .aload_n 0, 1), (35, .iconst 0, 1), (36, .putfield 35, 3), (39, .return_, 1)]
theorem fw_dX2_goBack_31_c : fchk 31 (cX2_goBack.data.toList.drop 31) fw_dX2_goBack_31 = true := by decide +kernel
theorem dX2_goBack_31 : Eq (decode cX2_goBack 31) (Except.ok (Instr.goto (-24), 3)) := fE fw_dX2_goBack_31_c 0 rfl
theorem dX2_goBack_34 : Eq (decode cX2_goBack 34) (Except.ok (Instr.aload_n 0, 1)) := fE fw_dX2_goBack_31_c 1 rfl
theorem dX2_goBack_35 : Eq (decode cX2_goBack 35) (Except.ok (Instr.iconst 0, 1)) := fE fw_dX2_goBack_31_c 2 rfl
theorem dX2_goBack_36 : Eq (decode cX2_goBack 36) (Except.ok (Instr.putfield 35, 3)) := fE fw_dX2_goBack_31_c 3 rfl
theorem dX2_goBack_39 : Eq (decode cX2_goBack 39) (Except.ok (Instr.return_, 1)) := fE fw_dX2_goBack_31_c 4 rfl
set_option maxRecDepth 20000 in
theorem gi_wsX3_init_0 : GoodIn wsX3_init wsX3_init_r1 := goodIn_sub (fun w h => List.mem_cons_of_mem _ (List.mem_append_left _ (List.mem_append_left _ (List.mem_append_left _ h)))) (by decide +kernel)
set_option maxRecDepth 20000 in
theorem gi_wsX3_init_1 : GoodIn wsX3_init wsX3_init_r2 := goodIn_sub (fun w h => List.mem_cons_of_mem _ (List.mem_append_left _ (List.mem_append_left _ (List.mem_append_right _ h)))) (by decide +kernel)
set_option maxRecDepth 20000 in
theorem gi_wsX3_init_2 : GoodIn wsX3_init wsX30 := goodIn_sub (fun w h => List.mem_cons_of_mem _ (List.mem_append_left _ (List.mem_append_right _ h))) (by decide +kernel)
set_option maxRecDepth 20000 in
theorem gi_wsX3_init_3 : GoodIn wsX3_init wsX60 := goodIn_sub (fun w h => List.mem_cons_of_mem _ (List.mem_append_right _ h)) (by decide +kernel)
def bs_wsX3_init : List (List Cond) := [wsX3_init_r1, wsX3_init_r2, wsX30, wsX60]
theorem bs_wsX3_init_in : ∀ b ∈ bs_wsX3_init, GoodIn wsX3_init b := List.forall_mem_cons.mpr ⟨gi_wsX3_init_0, List.forall_mem_cons.mpr ⟨gi_wsX3_init_1, List.forall_mem_cons.mpr ⟨gi_wsX3_init_2, List.forall_mem_cons.mpr ⟨gi_wsX3_init_3, (fun _ h => absurd h List.not_mem_nil)⟩⟩⟩⟩
set_option maxRecDepth 20000 in
theorem ggX3_init_X6_init : GoodIn wsX3_init wsX6_init := goodIn_k (gi_q bs_wsX3_init_in _ [(0, 17)] rfl) (goodIn_app (gi_q bs_wsX3_init_in _ [(0, 18), (0, 1), (0, 2), (0, 5), (0, 19), (0, 20), (0, 21), (0, 22), (0, 23), (1, 0), (1, 1), (1, 2), (1, 3)] rfl) (gi_wsX3_init_3))
set_option maxRecDepth 20000 in
theorem gX3_init_X6_init : GoodIn wsX3_init (wsX6_init) := ggX3_init_X6_init
def fw_dX3_init_0 : List (Nat × Instr × Nat) := [(0, .aload_n 0, 1), (1, .invokespecial 3, 3), (4, .aload_n 0, 1), (5, .bipush 12, 2)]
theorem fw_dX3_init_0_c : fchk 0 (cX3_init.data.toList.drop 0) fw_dX3_init_0 = true := by decide +kernel
theorem dX3_init_0 : Eq (decode cX3_init 0) (Except.ok (Instr.aload_n 0, 1)) := fE fw_dX3_init_0_c 0 rfl
theorem dX3_init_1 : Eq (decode cX3_init 1) (Except.ok (Instr.invokespecial 3, 3)) := fE fw_dX3_init_0_c 1 rfl
theorem dX3_init_4 : Eq (decode cX3_init 4) (Except.ok (Instr.aload_n 0, 1)) := fE fw_dX3_init_0_c 2 rfl
theorem dX3_init_5 : Eq (decode cX3_init 5) (Except.ok (Instr.bipush 12, 2)) := fE fw_dX3_init_0_c 3 rfl
theorem dX3_init_7 : decode cX3_init 7 = .ok (.newarray .boolean, 2) := by decide +kernel
def fw_dX3_init_9 : List (Nat × Instr × Nat) := [(9, .putfield 9, 3), (12, .aload_n 0, 1), (13, .bipush 12, 2)]
theorem fw_dX3_init_9_c : fchk 9 (cX3_init.data.toList.drop 9) fw_dX3_init_9 = true := by decide +kernel
theorem dX3_init_9 : Eq (decode cX3_init 9) (Except.ok (Instr.putfield 9, 3)) := fE fw_dX3_init_9_c 0 rfl
theorem dX3_init_12 : Eq (decode cX3_init 12) (Except.ok (Instr.aload_n 0, 1)) := fE fw_dX3_init_9_c 1 rfl
theorem dX3_init_13 : Eq (decode cX3_init 13) (Except.ok (Instr.bipush 12, 2)) := fE fw_dX3_init_9_c 2 rfl
theorem dX3_init_15 : decode cX3_init 15 = .ok (.newarray .int, 2) := by decide +kernel
def fw_dX3_init_17 : List (Nat × Instr × Nat) := [(17, .putfield 15, 3), (20, .aload_n 0, 1), (21, .bipush 120, 2)]
theorem fw_dX3_init_17_c : fchk 17 (cX3_init.data.toList.drop 17) fw_dX3_init_17 = true := by decide +kernel
theorem dX3_init_17 : Eq (decode cX3_init 17) (Except.ok (Instr.putfield 15, 3)) := fE fw_dX3_init_17_c 0 rfl
theorem dX3_init_20 : Eq (decode cX3_init 20) (Except.ok (Instr.aload_n 0, 1)) := fE fw_dX3_init_17_c 1 rfl
theorem dX3_init_21 : Eq (decode cX3_init 21) (Except.ok (Instr.bipush 120, 2)) := fE fw_dX3_init_17_c 2 rfl
theorem dX3_init_23 : decode cX3_init 23 = .ok (.newarray .int, 2) := by decide +kernel
def fw_dX3_init_25 : List (Nat × Instr × Nat) := [(25, .putfield 19, 3), (28, .aload_n 0, 1), (29, .bipush 120, 2)]
theorem fw_dX3_init_25_c : fchk 25 (cX3_init.data.toList.drop 25) fw_dX3_init_25 = true := by decide +kernel
theorem dX3_init_25 : Eq (decode cX3_init 25) (Except.ok (Instr.putfield 19, 3)) := fE fw_dX3_init_25_c 0 rfl
theorem dX3_init_28 : Eq (decode cX3_init 28) (Except.ok (Instr.aload_n 0, 1)) := fE fw_dX3_init_25_c 1 rfl
theorem dX3_init_29 : Eq (decode cX3_init 29) (Except.ok (Instr.bipush 120, 2)) := fE fw_dX3_init_25_c 2 rfl
theorem dX3_init_31 : decode cX3_init 31 = .ok (.newarray .int, 2) := by decide +kernel
def fw_dX3_init_33 : List (Nat × Instr × Nat) := [(33, .putfield 22, 3), (36, .aload_n 0, 1), (37, .iconst 1, 1), (38, .putfield 25, 3), (41, .aload_n 0, 1), (42, .aload_n 1, 1), (43, .putfield 29, 3), (46, .aload_n 0, 1), (47, .new 33, 3), (50, .dup, 1), (51, .aload_n 1, 1), (52, .invokespecial 35, 3), (55, .putfield 38, 3), (58, .return_, 1)]
theorem fw_dX3_init_33_c : fchk 33 (cX3_init.data.toList.drop 33) fw_dX3_init_33 = true := by decide +kernel
theorem dX3_init_33 : Eq (decode cX3_init 33) (Except.ok (Instr.putfield 22, 3)) := fE fw_dX3_init_33_c 0 rfl
theorem dX3_init_36 : Eq (decode cX3_init 36) (Except.ok (Instr.aload_n 0, 1)) := fE fw_dX3_init_33_c 1 rfl
theorem dX3_init_37 : Eq (decode cX3_init 37) (Except.ok (Instr.iconst 1, 1)) := fE fw_dX3_init_33_c 2 rfl
theorem dX3_init_38 : Eq (decode cX3_init 38) (Except.ok (Instr.putfield 25, 3)) := fE fw_dX3_init_33_c 3 rfl
theorem dX3_init_41 : Eq (decode cX3_init 41) (Except.ok (Instr.aload_n 0, 1)) := fE fw_dX3_init_33_c 4 rfl
theorem dX3_init_42 : Eq (decode cX3_init 42) (Except.ok (Instr.aload_n 1, 1)) := fE fw_dX3_init_33_c 5 rfl
theorem dX3_init_43 : Eq (decode cX3_init 43) (Except.ok (Instr.putfield 29, 3)) := fE fw_dX3_init_33_c 6 rfl
theorem dX3_init_46 : Eq (decode cX3_init 46) (Except.ok (Instr.aload_n 0, 1)) := fE fw_dX3_init_33_c 7 rfl
theorem dX3_init_47 : Eq (decode cX3_init 47) (Except.ok (Instr.new 33, 3)) := fE fw_dX3_init_33_c 8 rfl
theorem dX3_init_50 : Eq (decode cX3_init 50) (Except.ok (Instr.dup, 1)) := fE fw_dX3_init_33_c 9 rfl
theorem dX3_init_51 : Eq (decode cX3_init 51) (Except.ok (Instr.aload_n 1, 1)) := fE fw_dX3_init_33_c 10 rfl
theorem dX3_init_52 : Eq (decode cX3_init 52) (Except.ok (Instr.invokespecial 35, 3)) := fE fw_dX3_init_33_c 11 rfl
theorem dX3_init_55 : Eq (decode cX3_init 55) (Except.ok (Instr.putfield 38, 3)) := fE fw_dX3_init_33_c 12 rfl
theorem dX3_init_58 : Eq (decode cX3_init 58) (Except.ok (Instr.return_, 1)) := fE fw_dX3_init_33_c 13 rfl
set_option maxRecDepth 20000 in
theorem gi_wsX3_make_0 : GoodIn wsX3_make wsX3_make_r1 := goodIn_sub (fun w h => List.mem_cons_of_mem _ (List.mem_append_left _ (List.mem_append_left _ (List.mem_append_left _ (List.mem_append_left _ h))))) (by decide +kernel)
set_option maxRecDepth 20000 in
theorem gi_wsX3_make_1 : GoodIn wsX3_make wsX3_make_r2 := goodIn_sub (fun w h => List.mem_cons_of_mem _ (List.mem_append_left _ (List.mem_append_left _ (List.mem_append_left _ (List.mem_append_right _ (List.mem_append_left _ h)))))) (by decide +kernel)
set_option maxRecDepth 20000 in
theorem gi_wsX3_make_2 : GoodIn wsX3_make wsX3_make_r3 := goodIn_sub (fun w h => List.mem_cons_of_mem _ (List.mem_append_left _ (List.mem_append_left _ (List.mem_append_left _ (List.mem_append_right _ (List.mem_append_right _ (List.mem_append_left _ h))))))) (by decide +kernel)
set_option maxRecDepth 20000 in
theorem gi_wsX3_make_3 : GoodIn wsX3_make wsX3_make_r4 := goodIn_sub (fun w h => List.mem_cons_of_mem _ (List.mem_append_left _ (List.mem_append_left _ (List.mem_append_left _ (List.mem_append_right _ (List.mem_append_right _ (List.mem_append_right _ h))))))) (by decide +kernel)
set_option maxRecDepth 20000 in
theorem gi_wsX3_make_4 : GoodIn wsX3_make wsX30 := goodIn_sub (fun w h => List.mem_cons_of_mem _ (List.mem_append_left _ (List.mem_append_left _ (List.mem_append_right _ h)))) (by decide +kernel)
set_option maxRecDepth 20000 in
theorem gi_wsX3_make_5 : GoodIn wsX3_make wsX60 := goodIn_sub (fun w h => List.mem_cons_of_mem _ (List.mem_append_left _ (List.mem_append_right _ h))) (by decide +kernel)
set_option maxRecDepth 20000 in
theorem gi_wsX3_make_6 : GoodIn wsX3_make wsX50 := goodIn_sub (fun w h => List.mem_cons_of_mem _ (List.mem_append_right _ h)) (by decide +kernel)
def bs_wsX3_make : List (List Cond) := [wsX3_make_r1, wsX3_make_r2, wsX3_make_r3, wsX3_make_r4, wsX30, wsX60, wsX50]
theorem bs_wsX3_make_in : ∀ b ∈ bs_wsX3_make, GoodIn wsX3_make b := List.forall_mem_cons.mpr ⟨gi_wsX3_make_0, List.forall_mem_cons.mpr ⟨gi_wsX3_make_1, List.forall_mem_cons.mpr ⟨gi_wsX3_make_2, List.forall_mem_cons.mpr ⟨gi_wsX3_make_3, List.forall_mem_cons.mpr ⟨gi_wsX3_make_4, List.forall_mem_cons.mpr ⟨gi_wsX3_make_5, List.forall_mem_cons.mpr ⟨gi_wsX3_make_6, (fun _ h => absurd h List.not_mem_nil)⟩⟩⟩⟩⟩⟩⟩
set_option maxRecDepth 20000 in
theorem ggX3_make_X6_solve : GoodIn wsX3_make wsX6_solve := goodIn_k (gi_q bs_wsX3_make_in _ [(0, 11)] rfl) (goodIn_app (goodIn_app (goodIn_app (gi_q bs_wsX3_make_in _ [(0, 12), (0, 13), (0, 14), (0, 15), (0, 16), (0, 17), (0, 18), (0, 19), (0, 10), (0, 20), (0, 21), (0, 22), (0, 23), (1, 0), (1, 1), (1, 2), (1, 3), (1, 4), (1, 5), (1, 6), (1, 7), (1, 8), (1, 9), (1, 10)] rfl) (goodIn_app (gi_q bs_wsX3_make_in _ [(1, 11), (1, 12), (1, 13), (1, 14), (1, 15), (1, 16), (1, 17), (1, 18), (1, 19), (1, 20), (1, 21), (1, 22), (1, 23), (2, 0), (2, 1), (2, 2), (2, 3), (2, 4), (2, 5), (2, 6), (2, 7), (2, 8), (2, 9), (2, 10)] rfl) (goodIn_app (gi_q bs_wsX3_make_in _ [(2, 11), (2, 12), (2, 13), (2, 14), (2, 15), (2, 16), (2, 17), (2, 18), (2, 19), (2, 20), (2, 21), (2, 22), (2, 23), (3, 0), (3, 1), (3, 2), (3, 3), (3, 4), (3, 5), (3, 6), (3, 7), (3, 8), (3, 9), (3, 10)] rfl) (gi_q bs_wsX3_make_in _ [(3, 11), (3, 12), (3, 13)] rfl)))) (gi_wsX3_make_5)) (gi_wsX3_make_6))
set_option maxRecDepth 20000 in
theorem gX3_make_X6_solve : GoodIn wsX3_make (wsV RX3 42 RX6 yX6_solve wsX6_solve) := goodIn_app (gi_q bs_wsX3_make_in _ [(0, 7), (0, 8), (0, 9), (0, 10)] rfl) ggX3_make_X6_solve
set_option maxRecDepth 20000 in
theorem ggX3_make_X7_slot : GoodIn wsX3_make wsX7_slot := goodIn_k (gi_q bs_wsX3_make_in _ [(1, 5)] rfl) (gi_q bs_wsX3_make_in _ [] rfl)
set_option maxRecDepth 20000 in
theorem gX3_make_X7_slot_n49 : GoodIn wsX3_make (wsX7_slot) := ggX3_make_X7_slot
set_option maxRecDepth 20000 in
theorem ggX3_make_X7_isIn : GoodIn wsX3_make wsX7_isIn := goodIn_k (gi_q bs_wsX3_make_in _ [(3, 1)] rfl) (gi_q bs_wsX3_make_in _ [] rfl)
set_option maxRecDepth 20000 in
theorem gX3_make_X7_isIn_n52 : GoodIn wsX3_make (wsX7_isIn) := ggX3_make_X7_isIn
def fw_dX3_make_0 : List (Nat × Instr × Nat) := [(0, .aload_n 0, 1), (1, .getfield 9, 3), (4, .iload_n 1, 1), (5, .baload, 1), (6, .ifCond .eq 4, 3), (9, .return_, 1), (10, .aload_n 0, 1), (11, .getfield 38, 3), (14, .iload_n 1, 1), (15, .aload_n 0, 1), (16, .getfield 25, 3), (19, .invokevirtual 42, 3), (22, .istore_n 2, 1), (23, .iconst 0, 1), (24, .istore_n 3, 1), (25, .iload_n 3, 1), (26, .iload_n 2, 1), (27, .if_icmp .ge 70, 3), (30, .aload_n 0, 1), (31, .getfield 38, 3)]
theorem fw_dX3_make_0_c : fchk 0 (cX3_make.data.toList.drop 0) fw_dX3_make_0 = true := by decide +kernel
theorem dX3_make_0 : Eq (decode cX3_make 0) (Except.ok (Instr.aload_n 0, 1)) := fE fw_dX3_make_0_c 0 rfl
theorem dX3_make_1 : Eq (decode cX3_make 1) (Except.ok (Instr.getfield 9, 3)) := fE fw_dX3_make_0_c 1 rfl
theorem dX3_make_4 : Eq (decode cX3_make 4) (Except.ok (Instr.iload_n 1, 1)) := fE fw_dX3_make_0_c 2 rfl
theorem dX3_make_5 : Eq (decode cX3_make 5) (Except.ok (Instr.baload, 1)) := fE fw_dX3_make_0_c 3 rfl
theorem dX3_make_6 : Eq (decode cX3_make 6) (Except.ok (Instr.ifCond .eq 4, 3)) := fE fw_dX3_make_0_c 4 rfl
theorem dX3_make_9 : Eq (decode cX3_make 9) (Except.ok (Instr.return_, 1)) := fE fw_dX3_make_0_c 5 rfl
theorem dX3_make_10 : Eq (decode cX3_make 10) (Except.ok (Instr.aload_n 0, 1)) := fE fw_dX3_make_0_c 6 rfl
theorem dX3_make_11 : Eq (decode cX3_make 11) (Except.ok (Instr.getfield 38, 3)) := fE fw_dX3_make_0_c 7 rfl
theorem dX3_make_14 : Eq (decode cX3_make 14) (Except.ok (Instr.iload_n 1, 1)) := fE fw_dX3_make_0_c 8 rfl
theorem dX3_make_15 : Eq (decode cX3_make 15) (Except.ok (Instr.aload_n 0, 1)) := fE fw_dX3_make_0_c 9 rfl
theorem dX3_make_16 : Eq (decode cX3_make 16) (Except.ok (Instr.getfield 25, 3)) := fE fw_dX3_make_0_c 10 rfl
theorem dX3_make_19 : Eq (decode cX3_make 19) (Except.ok (Instr.invokevirtual 42, 3)) := fE fw_dX3_make_0_c 11 rfl
theorem dX3_make_22 : Eq (decode cX3_make 22) (Except.ok (Instr.istore_n 2, 1)) := fE fw_dX3_make_0_c 12 rfl
theorem dX3_make_23 : Eq (decode cX3_make 23) (Except.ok (Instr.iconst 0, 1)) := fE fw_dX3_make_0_c 13 rfl
theorem dX3_make_24 : Eq (decode cX3_make 24) (Except.ok (Instr.istore_n 3, 1)) := fE fw_dX3_make_0_c 14 rfl
theorem dX3_make_25 : Eq (decode cX3_make 25) (Except.ok (Instr.iload_n 3, 1)) := fE fw_dX3_make_0_c 15 rfl
theorem dX3_make_26 : Eq (decode cX3_make 26) (Except.ok (Instr.iload_n 2, 1)) := fE fw_dX3_make_0_c 16 rfl
theorem dX3_make_27 : Eq (decode cX3_make 27) (Except.ok (Instr.if_icmp .ge 70, 3)) := fE fw_dX3_make_0_c 17 rfl
theorem dX3_make_30 : Eq (decode cX3_make 30) (Except.ok (Instr.aload_n 0, 1)) := fE fw_dX3_make_0_c 18 rfl
theorem dX3_make_31 : Eq (decode cX3_make 31) (Except.ok (Instr.getfield 38, 3)) := fE fw_dX3_make_0_c 19 rfl
def fw_dX3_make_34 : List (Nat × Instr × Nat) := [(34, .getfield 46, 3), (37, .iload_n 3, 1), (38, .iaload, 1), (39, .istore 4, 2), (41, .aload_n 0, 1), (42, .getfield 22, 3), (45, .iload_n 1, 1), (46, .iload_n 3, 1), (47, .invokestatic 49, 3), (50, .iload 4, 2), (52, .iastore, 1), (53, .iconst 0, 1), (54, .istore 5, 2), (56, .iload 5, 2), (58, .bipush 10, 2), (60, .if_icmp .ge 31, 3), (63, .iload 4, 2), (65, .iload 5, 2), (67, .invokestatic 52, 3), (70, .ifCond .eq 15, 3)]
theorem fw_dX3_make_34_c : fchk 34 (cX3_make.data.toList.drop 34) fw_dX3_make_34 = true := by decide +kernel
theorem dX3_make_34 : Eq (decode cX3_make 34) (Except.ok (Instr.getfield 46, 3)) := fE fw_dX3_make_34_c 0 rfl
theorem dX3_make_37 : Eq (decode cX3_make 37) (Except.ok (Instr.iload_n 3, 1)) := fE fw_dX3_make_34_c 1 rfl
theorem dX3_make_38 : Eq (decode cX3_make 38) (Except.ok (Instr.iaload, 1)) := fE fw_dX3_make_34_c 2 rfl
theorem dX3_make_39 : Eq (decode cX3_make 39) (Except.ok (Instr.istore 4, 2)) := fE fw_dX3_make_34_c 3 rfl
theorem dX3_make_41 : Eq (decode cX3_make 41) (Except.ok (Instr.aload_n 0, 1)) := fE fw_dX3_make_34_c 4 rfl
theorem dX3_make_42 : Eq (decode cX3_make 42) (Except.ok (Instr.getfield 22, 3)) := fE fw_dX3_make_34_c 5 rfl
theorem dX3_make_45 : Eq (decode cX3_make 45) (Except.ok (Instr.iload_n 1, 1)) := fE fw_dX3_make_34_c 6 rfl
theorem dX3_make_46 : Eq (decode cX3_make 46) (Except.ok (Instr.iload_n 3, 1)) := fE fw_dX3_make_34_c 7 rfl
theorem dX3_make_47 : Eq (decode cX3_make 47) (Except.ok (Instr.invokestatic 49, 3)) := fE fw_dX3_make_34_c 8 rfl
theorem dX3_make_50 : Eq (decode cX3_make 50) (Except.ok (Instr.iload 4, 2)) := fE fw_dX3_make_34_c 9 rfl
theorem dX3_make_52 : Eq (decode cX3_make 52) (Except.ok (Instr.iastore, 1)) := fE fw_dX3_make_34_c 10 rfl
theorem dX3_make_53 : Eq (decode cX3_make 53) (Except.ok (Instr.iconst 0, 1)) := fE fw_dX3_make_34_c 11 rfl
theorem dX3_make_54 : Eq (decode cX3_make 54) (Except.ok (Instr.istore 5, 2)) := fE fw_dX3_make_34_c 12 rfl
theorem dX3_make_56 : Eq (decode cX3_make 56) (Except.ok (Instr.iload 5, 2)) := fE fw_dX3_make_34_c 13 rfl
theorem dX3_make_58 : Eq (decode cX3_make 58) (Except.ok (Instr.bipush 10, 2)) := fE fw_dX3_make_34_c 14 rfl
theorem dX3_make_60 : Eq (decode cX3_make 60) (Except.ok (Instr.if_icmp .ge 31, 3)) := fE fw_dX3_make_34_c 15 rfl
theorem dX3_make_63 : Eq (decode cX3_make 63) (Except.ok (Instr.iload 4, 2)) := fE fw_dX3_make_34_c 16 rfl
theorem dX3_make_65 : Eq (decode cX3_make 65) (Except.ok (Instr.iload 5, 2)) := fE fw_dX3_make_34_c 17 rfl
theorem dX3_make_67 : Eq (decode cX3_make 67) (Except.ok (Instr.invokestatic 52, 3)) := fE fw_dX3_make_34_c 18 rfl
theorem dX3_make_70 : Eq (decode cX3_make 70) (Except.ok (Instr.ifCond .eq 15, 3)) := fE fw_dX3_make_34_c 19 rfl
def fw_dX3_make_73 : List (Nat × Instr × Nat) := [(73, .aload_n 0, 1), (74, .getfield 19, 3), (77, .iload_n 1, 1), (78, .iload 5, 2), (80, .invokestatic 49, 3), (83, .iload_n 3, 1), (84, .iastore, 1)]
theorem fw_dX3_make_73_c : fchk 73 (cX3_make.data.toList.drop 73) fw_dX3_make_73 = true := by decide +kernel
theorem dX3_make_73 : Eq (decode cX3_make 73) (Except.ok (Instr.aload_n 0, 1)) := fE fw_dX3_make_73_c 0 rfl
theorem dX3_make_74 : Eq (decode cX3_make 74) (Except.ok (Instr.getfield 19, 3)) := fE fw_dX3_make_73_c 1 rfl
theorem dX3_make_77 : Eq (decode cX3_make 77) (Except.ok (Instr.iload_n 1, 1)) := fE fw_dX3_make_73_c 2 rfl
theorem dX3_make_78 : Eq (decode cX3_make 78) (Except.ok (Instr.iload 5, 2)) := fE fw_dX3_make_73_c 3 rfl
theorem dX3_make_80 : Eq (decode cX3_make 80) (Except.ok (Instr.invokestatic 49, 3)) := fE fw_dX3_make_73_c 4 rfl
theorem dX3_make_83 : Eq (decode cX3_make 83) (Except.ok (Instr.iload_n 3, 1)) := fE fw_dX3_make_73_c 5 rfl
theorem dX3_make_84 : Eq (decode cX3_make 84) (Except.ok (Instr.iastore, 1)) := fE fw_dX3_make_73_c 6 rfl
theorem dX3_make_85 : decode cX3_make 85 = .ok (.iinc 5 1, 3) := by decide +kernel
def fw_dX3_make_88 : List (Nat × Instr × Nat) := [(88, .goto (-32), 3)]
theorem fw_dX3_make_88_c : fchk 88 (cX3_make.data.toList.drop 88) fw_dX3_make_88 = true := by decide +kernel
theorem dX3_make_88 : Eq (decode cX3_make 88) (Except.ok (Instr.goto (-32), 3)) := fE fw_dX3_make_88_c 0 rfl
theorem dX3_make_91 : decode cX3_make 91 = .ok (.iinc 3 1, 3) := by decide +kernel
def fw_dX3_make_94 : List (Nat × Instr × Nat) := [(94, .goto (-69), 3), (97, .aload_n 0, 1), (98, .getfield 15, 3), (101, .iload_n 1, 1), (102, .iload_n 2, 1), (103, .iastore, 1), (104, .aload_n 0, 1), (105, .getfield 9, 3), (108, .iload_n 1, 1), (109, .iconst 1, 1), (110, .bastore, 1), (111, .return_, 1)]
theorem fw_dX3_make_94_c : fchk 94 (cX3_make.data.toList.drop 94) fw_dX3_make_94 = true := by decide +kernel
theorem dX3_make_94 : Eq (decode cX3_make 94) (Except.ok (Instr.goto (-69), 3)) := fE fw_dX3_make_94_c 0 rfl
theorem dX3_make_97 : Eq (decode cX3_make 97) (Except.ok (Instr.aload_n 0, 1)) := fE fw_dX3_make_94_c 1 rfl
theorem dX3_make_98 : Eq (decode cX3_make 98) (Except.ok (Instr.getfield 15, 3)) := fE fw_dX3_make_94_c 2 rfl
theorem dX3_make_101 : Eq (decode cX3_make 101) (Except.ok (Instr.iload_n 1, 1)) := fE fw_dX3_make_94_c 3 rfl
theorem dX3_make_102 : Eq (decode cX3_make 102) (Except.ok (Instr.iload_n 2, 1)) := fE fw_dX3_make_94_c 4 rfl
theorem dX3_make_103 : Eq (decode cX3_make 103) (Except.ok (Instr.iastore, 1)) := fE fw_dX3_make_94_c 5 rfl
theorem dX3_make_104 : Eq (decode cX3_make 104) (Except.ok (Instr.aload_n 0, 1)) := fE fw_dX3_make_94_c 6 rfl
theorem dX3_make_105 : Eq (decode cX3_make 105) (Except.ok (Instr.getfield 9, 3)) := fE fw_dX3_make_94_c 7 rfl
theorem dX3_make_108 : Eq (decode cX3_make 108) (Except.ok (Instr.iload_n 1, 1)) := fE fw_dX3_make_94_c 8 rfl
theorem dX3_make_109 : Eq (decode cX3_make 109) (Except.ok (Instr.iconst 1, 1)) := fE fw_dX3_make_94_c 9 rfl
theorem dX3_make_110 : Eq (decode cX3_make 110) (Except.ok (Instr.bastore, 1)) := fE fw_dX3_make_94_c 10 rfl
theorem dX3_make_111 : Eq (decode cX3_make 111) (Except.ok (Instr.return_, 1)) := fE fw_dX3_make_94_c 11 rfl
def fw_dX3_dropAll_0 : List (Nat × Instr × Nat) := [(0, .iconst 0, 1), (1, .istore_n 1, 1), (2, .iload_n 1, 1), (3, .bipush 12, 2), (5, .if_icmp .ge 16, 3), (8, .aload_n 0, 1), (9, .getfield 9, 3), (12, .iload_n 1, 1), (13, .iconst 0, 1), (14, .bastore, 1)]
theorem fw_dX3_dropAll_0_c : fchk 0 (cX3_dropAll.data.toList.drop 0) fw_dX3_dropAll_0 = true := by decide +kernel
theorem dX3_dropAll_0 : Eq (decode cX3_dropAll 0) (Except.ok (Instr.iconst 0, 1)) := fE fw_dX3_dropAll_0_c 0 rfl
theorem dX3_dropAll_1 : Eq (decode cX3_dropAll 1) (Except.ok (Instr.istore_n 1, 1)) := fE fw_dX3_dropAll_0_c 1 rfl
theorem dX3_dropAll_2 : Eq (decode cX3_dropAll 2) (Except.ok (Instr.iload_n 1, 1)) := fE fw_dX3_dropAll_0_c 2 rfl
theorem dX3_dropAll_3 : Eq (decode cX3_dropAll 3) (Except.ok (Instr.bipush 12, 2)) := fE fw_dX3_dropAll_0_c 3 rfl
theorem dX3_dropAll_5 : Eq (decode cX3_dropAll 5) (Except.ok (Instr.if_icmp .ge 16, 3)) := fE fw_dX3_dropAll_0_c 4 rfl
theorem dX3_dropAll_8 : Eq (decode cX3_dropAll 8) (Except.ok (Instr.aload_n 0, 1)) := fE fw_dX3_dropAll_0_c 5 rfl
theorem dX3_dropAll_9 : Eq (decode cX3_dropAll 9) (Except.ok (Instr.getfield 9, 3)) := fE fw_dX3_dropAll_0_c 6 rfl
theorem dX3_dropAll_12 : Eq (decode cX3_dropAll 12) (Except.ok (Instr.iload_n 1, 1)) := fE fw_dX3_dropAll_0_c 7 rfl
theorem dX3_dropAll_13 : Eq (decode cX3_dropAll 13) (Except.ok (Instr.iconst 0, 1)) := fE fw_dX3_dropAll_0_c 8 rfl
theorem dX3_dropAll_14 : Eq (decode cX3_dropAll 14) (Except.ok (Instr.bastore, 1)) := fE fw_dX3_dropAll_0_c 9 rfl
theorem dX3_dropAll_15 : decode cX3_dropAll 15 = .ok (.iinc 1 1, 3) := by decide +kernel
def fw_dX3_dropAll_18 : List (Nat × Instr × Nat) := [(18, .goto (-16), 3), (21, .return_, 1)]
theorem fw_dX3_dropAll_18_c : fchk 18 (cX3_dropAll.data.toList.drop 18) fw_dX3_dropAll_18 = true := by decide +kernel
theorem dX3_dropAll_18 : Eq (decode cX3_dropAll 18) (Except.ok (Instr.goto (-16), 3)) := fE fw_dX3_dropAll_18_c 0 rfl
theorem dX3_dropAll_21 : Eq (decode cX3_dropAll 21) (Except.ok (Instr.return_, 1)) := fE fw_dX3_dropAll_18_c 1 rfl
set_option maxRecDepth 20000 in
theorem gi_wsX3_holderOf_0 : GoodIn wsX3_holderOf wsX3_holderOf := goodIn_sub (fun _ h => h) (by decide +kernel)
set_option maxRecDepth 20000 in
theorem gi_wsX3_holderOf_1 : GoodIn wsX3_holderOf wsX30 := goodIn_sub (fun w h => List.mem_cons_of_mem _ (List.mem_append_left _ (List.mem_append_right _ h))) (by decide +kernel)
set_option maxRecDepth 20000 in
theorem gi_wsX3_holderOf_2 : GoodIn wsX3_holderOf wsX50 := goodIn_sub (fun w h => List.mem_cons_of_mem _ (List.mem_append_right _ h)) (by decide +kernel)
def bs_wsX3_holderOf : List (List Cond) := [wsX3_holderOf, wsX30, wsX50]
theorem bs_wsX3_holderOf_in : ∀ b ∈ bs_wsX3_holderOf, GoodIn wsX3_holderOf b := List.forall_mem_cons.mpr ⟨gi_wsX3_holderOf_0, List.forall_mem_cons.mpr ⟨gi_wsX3_holderOf_1, List.forall_mem_cons.mpr ⟨gi_wsX3_holderOf_2, (fun _ h => absurd h List.not_mem_nil)⟩⟩⟩
set_option maxRecDepth 20000 in
theorem ggX3_holderOf_X7_slot : GoodIn wsX3_holderOf wsX7_slot := goodIn_k (gi_q bs_wsX3_holderOf_in _ [(0, 5)] rfl) (gi_q bs_wsX3_holderOf_in _ [] rfl)
set_option maxRecDepth 20000 in
theorem gX3_holderOf_X7_slot_n49 : GoodIn wsX3_holderOf (wsX7_slot) := ggX3_holderOf_X7_slot
set_option maxRecDepth 20000 in
theorem ggX3_holderOf_X5_need : GoodIn wsX3_holderOf wsX5_need := goodIn_k (gi_q bs_wsX3_holderOf_in _ [(0, 10)] rfl) (goodIn_app (gi_q bs_wsX3_holderOf_in _ [(0, 11), (0, 12), (0, 13), (0, 14), (0, 15), (0, 16), (0, 9), (0, 17)] rfl) (gi_wsX3_holderOf_2))
set_option maxRecDepth 20000 in
theorem gX3_holderOf_X5_need : GoodIn wsX3_holderOf (wsV RX3 56 RX5 yX5_need wsX5_need) := goodIn_app (gi_q bs_wsX3_holderOf_in _ [(0, 6), (0, 7), (0, 8), (0, 9)] rfl) ggX3_holderOf_X5_need
def fw_dX3_holderOf_0 : List (Nat × Instr × Nat) := [(0, .iload_n 1, 1), (1, .iload_n 2, 1), (2, .invokestatic 49, 3), (5, .istore_n 3, 1), (6, .iconst 0, 1), (7, .istore 4, 2), (9, .iload 4, 2), (11, .iload_n 2, 1), (12, .if_icmp .ge 71, 3), (15, .iload_n 1, 1), (16, .iload 4, 2), (18, .invokestatic 49, 3), (21, .istore 5, 2), (23, .aload_n 0, 1), (24, .getfield 29, 3), (27, .iload 5, 2), (29, .iload_n 3, 1), (30, .invokevirtual 56, 3), (33, .istore 6, 2), (35, .aload_n 0, 1)]
theorem fw_dX3_holderOf_0_c : fchk 0 (cX3_holderOf.data.toList.drop 0) fw_dX3_holderOf_0 = true := by decide +kernel
theorem dX3_holderOf_0 : Eq (decode cX3_holderOf 0) (Except.ok (Instr.iload_n 1, 1)) := fE fw_dX3_holderOf_0_c 0 rfl
theorem dX3_holderOf_1 : Eq (decode cX3_holderOf 1) (Except.ok (Instr.iload_n 2, 1)) := fE fw_dX3_holderOf_0_c 1 rfl
theorem dX3_holderOf_2 : Eq (decode cX3_holderOf 2) (Except.ok (Instr.invokestatic 49, 3)) := fE fw_dX3_holderOf_0_c 2 rfl
theorem dX3_holderOf_5 : Eq (decode cX3_holderOf 5) (Except.ok (Instr.istore_n 3, 1)) := fE fw_dX3_holderOf_0_c 3 rfl
theorem dX3_holderOf_6 : Eq (decode cX3_holderOf 6) (Except.ok (Instr.iconst 0, 1)) := fE fw_dX3_holderOf_0_c 4 rfl
theorem dX3_holderOf_7 : Eq (decode cX3_holderOf 7) (Except.ok (Instr.istore 4, 2)) := fE fw_dX3_holderOf_0_c 5 rfl
theorem dX3_holderOf_9 : Eq (decode cX3_holderOf 9) (Except.ok (Instr.iload 4, 2)) := fE fw_dX3_holderOf_0_c 6 rfl
theorem dX3_holderOf_11 : Eq (decode cX3_holderOf 11) (Except.ok (Instr.iload_n 2, 1)) := fE fw_dX3_holderOf_0_c 7 rfl
theorem dX3_holderOf_12 : Eq (decode cX3_holderOf 12) (Except.ok (Instr.if_icmp .ge 71, 3)) := fE fw_dX3_holderOf_0_c 8 rfl
theorem dX3_holderOf_15 : Eq (decode cX3_holderOf 15) (Except.ok (Instr.iload_n 1, 1)) := fE fw_dX3_holderOf_0_c 9 rfl
theorem dX3_holderOf_16 : Eq (decode cX3_holderOf 16) (Except.ok (Instr.iload 4, 2)) := fE fw_dX3_holderOf_0_c 10 rfl
theorem dX3_holderOf_18 : Eq (decode cX3_holderOf 18) (Except.ok (Instr.invokestatic 49, 3)) := fE fw_dX3_holderOf_0_c 11 rfl
theorem dX3_holderOf_21 : Eq (decode cX3_holderOf 21) (Except.ok (Instr.istore 5, 2)) := fE fw_dX3_holderOf_0_c 12 rfl
theorem dX3_holderOf_23 : Eq (decode cX3_holderOf 23) (Except.ok (Instr.aload_n 0, 1)) := fE fw_dX3_holderOf_0_c 13 rfl
theorem dX3_holderOf_24 : Eq (decode cX3_holderOf 24) (Except.ok (Instr.getfield 29, 3)) := fE fw_dX3_holderOf_0_c 14 rfl
theorem dX3_holderOf_27 : Eq (decode cX3_holderOf 27) (Except.ok (Instr.iload 5, 2)) := fE fw_dX3_holderOf_0_c 15 rfl
theorem dX3_holderOf_29 : Eq (decode cX3_holderOf 29) (Except.ok (Instr.iload_n 3, 1)) := fE fw_dX3_holderOf_0_c 16 rfl
theorem dX3_holderOf_30 : Eq (decode cX3_holderOf 30) (Except.ok (Instr.invokevirtual 56, 3)) := fE fw_dX3_holderOf_0_c 17 rfl
theorem dX3_holderOf_33 : Eq (decode cX3_holderOf 33) (Except.ok (Instr.istore 6, 2)) := fE fw_dX3_holderOf_0_c 18 rfl
theorem dX3_holderOf_35 : Eq (decode cX3_holderOf 35) (Except.ok (Instr.aload_n 0, 1)) := fE fw_dX3_holderOf_0_c 19 rfl
def fw_dX3_holderOf_36 : List (Nat × Instr × Nat) := [(36, .getfield 19, 3), (39, .iload_n 3, 1), (40, .iaload, 1), (41, .aload_n 0, 1), (42, .getfield 19, 3), (45, .iload 5, 2), (47, .iaload, 1), (48, .isub, 1), (49, .istore 7, 2), (51, .iload 6, 2), (53, .iconst 2, 1), (54, .if_icmp .ne 9, 3), (57, .iload 7, 2), (59, .iconst 1, 1), (60, .if_icmp .eq 14, 3), (63, .iload 6, 2), (65, .iconst 1, 1), (66, .if_icmp .ne 11, 3), (69, .iload 7, 2), (71, .ifCond .ne 6, 3)]
theorem fw_dX3_holderOf_36_c : fchk 36 (cX3_holderOf.data.toList.drop 36) fw_dX3_holderOf_36 = true := by decide +kernel
theorem dX3_holderOf_36 : Eq (decode cX3_holderOf 36) (Except.ok (Instr.getfield 19, 3)) := fE fw_dX3_holderOf_36_c 0 rfl
theorem dX3_holderOf_39 : Eq (decode cX3_holderOf 39) (Except.ok (Instr.iload_n 3, 1)) := fE fw_dX3_holderOf_36_c 1 rfl
theorem dX3_holderOf_40 : Eq (decode cX3_holderOf 40) (Except.ok (Instr.iaload, 1)) := fE fw_dX3_holderOf_36_c 2 rfl
theorem dX3_holderOf_41 : Eq (decode cX3_holderOf 41) (Except.ok (Instr.aload_n 0, 1)) := fE fw_dX3_holderOf_36_c 3 rfl
theorem dX3_holderOf_42 : Eq (decode cX3_holderOf 42) (Except.ok (Instr.getfield 19, 3)) := fE fw_dX3_holderOf_36_c 4 rfl
theorem dX3_holderOf_45 : Eq (decode cX3_holderOf 45) (Except.ok (Instr.iload 5, 2)) := fE fw_dX3_holderOf_36_c 5 rfl
theorem dX3_holderOf_47 : Eq (decode cX3_holderOf 47) (Except.ok (Instr.iaload, 1)) := fE fw_dX3_holderOf_36_c 6 rfl
theorem dX3_holderOf_48 : Eq (decode cX3_holderOf 48) (Except.ok (Instr.isub, 1)) := fE fw_dX3_holderOf_36_c 7 rfl
theorem dX3_holderOf_49 : Eq (decode cX3_holderOf 49) (Except.ok (Instr.istore 7, 2)) := fE fw_dX3_holderOf_36_c 8 rfl
theorem dX3_holderOf_51 : Eq (decode cX3_holderOf 51) (Except.ok (Instr.iload 6, 2)) := fE fw_dX3_holderOf_36_c 9 rfl
theorem dX3_holderOf_53 : Eq (decode cX3_holderOf 53) (Except.ok (Instr.iconst 2, 1)) := fE fw_dX3_holderOf_36_c 10 rfl
theorem dX3_holderOf_54 : Eq (decode cX3_holderOf 54) (Except.ok (Instr.if_icmp .ne 9, 3)) := fE fw_dX3_holderOf_36_c 11 rfl
theorem dX3_holderOf_57 : Eq (decode cX3_holderOf 57) (Except.ok (Instr.iload 7, 2)) := fE fw_dX3_holderOf_36_c 12 rfl
theorem dX3_holderOf_59 : Eq (decode cX3_holderOf 59) (Except.ok (Instr.iconst 1, 1)) := fE fw_dX3_holderOf_36_c 13 rfl
theorem dX3_holderOf_60 : Eq (decode cX3_holderOf 60) (Except.ok (Instr.if_icmp .eq 14, 3)) := fE fw_dX3_holderOf_36_c 14 rfl
theorem dX3_holderOf_63 : Eq (decode cX3_holderOf 63) (Except.ok (Instr.iload 6, 2)) := fE fw_dX3_holderOf_36_c 15 rfl
theorem dX3_holderOf_65 : Eq (decode cX3_holderOf 65) (Except.ok (Instr.iconst 1, 1)) := fE fw_dX3_holderOf_36_c 16 rfl
theorem dX3_holderOf_66 : Eq (decode cX3_holderOf 66) (Except.ok (Instr.if_icmp .ne 11, 3)) := fE fw_dX3_holderOf_36_c 17 rfl
theorem dX3_holderOf_69 : Eq (decode cX3_holderOf 69) (Except.ok (Instr.iload 7, 2)) := fE fw_dX3_holderOf_36_c 18 rfl
theorem dX3_holderOf_71 : Eq (decode cX3_holderOf 71) (Except.ok (Instr.ifCond .ne 6, 3)) := fE fw_dX3_holderOf_36_c 19 rfl
def fw_dX3_holderOf_74 : List (Nat × Instr × Nat) := [(74, .iload 4, 2), (76, .ireturn, 1)]
theorem fw_dX3_holderOf_74_c : fchk 74 (cX3_holderOf.data.toList.drop 74) fw_dX3_holderOf_74 = true := by decide +kernel
theorem dX3_holderOf_74 : Eq (decode cX3_holderOf 74) (Except.ok (Instr.iload 4, 2)) := fE fw_dX3_holderOf_74_c 0 rfl
theorem dX3_holderOf_76 : Eq (decode cX3_holderOf 76) (Except.ok (Instr.ireturn, 1)) := fE fw_dX3_holderOf_74_c 1 rfl
theorem dX3_holderOf_77 : decode cX3_holderOf 77 = .ok (.iinc 4 1, 3) := by decide +kernel
def fw_dX3_holderOf_80 : List (Nat × Instr × Nat) := [(80, .goto (-71), 3), (83, .iconst (-1), 1), (84, .ireturn, 1)]
theorem fw_dX3_holderOf_80_c : fchk 80 (cX3_holderOf.data.toList.drop 80) fw_dX3_holderOf_80 = true := by decide +kernel
theorem dX3_holderOf_80 : Eq (decode cX3_holderOf 80) (Except.ok (Instr.goto (-71), 3)) := fE fw_dX3_holderOf_80_c 0 rfl
theorem dX3_holderOf_83 : Eq (decode cX3_holderOf 83) (Except.ok (Instr.iconst (-1), 1)) := fE fw_dX3_holderOf_80_c 1 rfl
theorem dX3_holderOf_84 : Eq (decode cX3_holderOf 84) (Except.ok (Instr.ireturn, 1)) := fE fw_dX3_holderOf_80_c 2 rfl
def fw_dX4_init_0 : List (Nat × Instr × Nat) := [(0, .aload_n 0, 1), (1, .invokespecial 3, 3), (4, .aload_n 0, 1), (5, .bipush 120, 2)]
theorem fw_dX4_init_0_c : fchk 0 (cX4_init.data.toList.drop 0) fw_dX4_init_0 = true := by decide +kernel
theorem dX4_init_0 : Eq (decode cX4_init 0) (Except.ok (Instr.aload_n 0, 1)) := fE fw_dX4_init_0_c 0 rfl
theorem dX4_init_1 : Eq (decode cX4_init 1) (Except.ok (Instr.invokespecial 3, 3)) := fE fw_dX4_init_0_c 1 rfl
theorem dX4_init_4 : Eq (decode cX4_init 4) (Except.ok (Instr.aload_n 0, 1)) := fE fw_dX4_init_0_c 2 rfl
theorem dX4_init_5 : Eq (decode cX4_init 5) (Except.ok (Instr.bipush 120, 2)) := fE fw_dX4_init_0_c 3 rfl
theorem dX4_init_7 : decode cX4_init 7 = .ok (.newarray .int, 2) := by decide +kernel
def fw_dX4_init_9 : List (Nat × Instr × Nat) := [(9, .putfield 9, 3), (12, .aload_n 0, 1), (13, .bipush 120, 2)]
theorem fw_dX4_init_9_c : fchk 9 (cX4_init.data.toList.drop 9) fw_dX4_init_9 = true := by decide +kernel
theorem dX4_init_9 : Eq (decode cX4_init 9) (Except.ok (Instr.putfield 9, 3)) := fE fw_dX4_init_9_c 0 rfl
theorem dX4_init_12 : Eq (decode cX4_init 12) (Except.ok (Instr.aload_n 0, 1)) := fE fw_dX4_init_9_c 1 rfl
theorem dX4_init_13 : Eq (decode cX4_init 13) (Except.ok (Instr.bipush 120, 2)) := fE fw_dX4_init_9_c 2 rfl
theorem dX4_init_15 : decode cX4_init 15 = .ok (.newarray .int, 2) := by decide +kernel
def fw_dX4_init_17 : List (Nat × Instr × Nat) := [(17, .putfield 15, 3), (20, .aload_n 0, 1), (21, .bipush 120, 2)]
theorem fw_dX4_init_17_c : fchk 17 (cX4_init.data.toList.drop 17) fw_dX4_init_17 = true := by decide +kernel
theorem dX4_init_17 : Eq (decode cX4_init 17) (Except.ok (Instr.putfield 15, 3)) := fE fw_dX4_init_17_c 0 rfl
theorem dX4_init_20 : Eq (decode cX4_init 20) (Except.ok (Instr.aload_n 0, 1)) := fE fw_dX4_init_17_c 1 rfl
theorem dX4_init_21 : Eq (decode cX4_init 21) (Except.ok (Instr.bipush 120, 2)) := fE fw_dX4_init_17_c 2 rfl
theorem dX4_init_23 : decode cX4_init 23 = .ok (.newarray .int, 2) := by decide +kernel
def fw_dX4_init_25 : List (Nat × Instr × Nat) := [(25, .putfield 18, 3), (28, .aload_n 0, 1), (29, .bipush 120, 2)]
theorem fw_dX4_init_25_c : fchk 25 (cX4_init.data.toList.drop 25) fw_dX4_init_25 = true := by decide +kernel
theorem dX4_init_25 : Eq (decode cX4_init 25) (Except.ok (Instr.putfield 18, 3)) := fE fw_dX4_init_25_c 0 rfl
theorem dX4_init_28 : Eq (decode cX4_init 28) (Except.ok (Instr.aload_n 0, 1)) := fE fw_dX4_init_25_c 1 rfl
theorem dX4_init_29 : Eq (decode cX4_init 29) (Except.ok (Instr.bipush 120, 2)) := fE fw_dX4_init_25_c 2 rfl
theorem dX4_init_31 : decode cX4_init 31 = .ok (.newarray .int, 2) := by decide +kernel
def fw_dX4_init_33 : List (Nat × Instr × Nat) := [(33, .putfield 21, 3), (36, .aload_n 0, 1), (37, .bipush 120, 2)]
theorem fw_dX4_init_33_c : fchk 33 (cX4_init.data.toList.drop 33) fw_dX4_init_33 = true := by decide +kernel
theorem dX4_init_33 : Eq (decode cX4_init 33) (Except.ok (Instr.putfield 21, 3)) := fE fw_dX4_init_33_c 0 rfl
theorem dX4_init_36 : Eq (decode cX4_init 36) (Except.ok (Instr.aload_n 0, 1)) := fE fw_dX4_init_33_c 1 rfl
theorem dX4_init_37 : Eq (decode cX4_init 37) (Except.ok (Instr.bipush 120, 2)) := fE fw_dX4_init_33_c 2 rfl
theorem dX4_init_39 : decode cX4_init 39 = .ok (.newarray .int, 2) := by decide +kernel
def fw_dX4_init_41 : List (Nat × Instr × Nat) := [(41, .putfield 24, 3), (44, .aload_n 0, 1), (45, .aload_n 1, 1), (46, .putfield 27, 3), (49, .aload_n 0, 1), (50, .aload_n 2, 1), (51, .putfield 31, 3), (54, .return_, 1)]
theorem fw_dX4_init_41_c : fchk 41 (cX4_init.data.toList.drop 41) fw_dX4_init_41 = true := by decide +kernel
theorem dX4_init_41 : Eq (decode cX4_init 41) (Except.ok (Instr.putfield 24, 3)) := fE fw_dX4_init_41_c 0 rfl
theorem dX4_init_44 : Eq (decode cX4_init 44) (Except.ok (Instr.aload_n 0, 1)) := fE fw_dX4_init_41_c 1 rfl
theorem dX4_init_45 : Eq (decode cX4_init 45) (Except.ok (Instr.aload_n 1, 1)) := fE fw_dX4_init_41_c 2 rfl
theorem dX4_init_46 : Eq (decode cX4_init 46) (Except.ok (Instr.putfield 27, 3)) := fE fw_dX4_init_41_c 3 rfl
theorem dX4_init_49 : Eq (decode cX4_init 49) (Except.ok (Instr.aload_n 0, 1)) := fE fw_dX4_init_41_c 4 rfl
theorem dX4_init_50 : Eq (decode cX4_init 50) (Except.ok (Instr.aload_n 2, 1)) := fE fw_dX4_init_41_c 5 rfl
theorem dX4_init_51 : Eq (decode cX4_init 51) (Except.ok (Instr.putfield 31, 3)) := fE fw_dX4_init_41_c 6 rfl
theorem dX4_init_54 : Eq (decode cX4_init 54) (Except.ok (Instr.return_, 1)) := fE fw_dX4_init_41_c 7 rfl
set_option maxRecDepth 20000 in
theorem gi_wsX4_make_0 : GoodIn wsX4_make wsX4_make_r1 := goodIn_sub (fun w h => List.mem_cons_of_mem _ (List.mem_append_left _ (List.mem_append_left _ (List.mem_append_left _ (List.mem_append_left _ h))))) (by decide +kernel)
set_option maxRecDepth 20000 in
theorem gi_wsX4_make_1 : GoodIn wsX4_make wsX4_make_r2 := goodIn_sub (fun w h => List.mem_cons_of_mem _ (List.mem_append_left _ (List.mem_append_left _ (List.mem_append_left _ (List.mem_append_right _ h))))) (by decide +kernel)
set_option maxRecDepth 20000 in
theorem gi_wsX4_make_2 : GoodIn wsX4_make wsX40 := goodIn_sub (fun w h => List.mem_cons_of_mem _ (List.mem_append_left _ (List.mem_append_left _ (List.mem_append_right _ h)))) (by decide +kernel)
set_option maxRecDepth 20000 in
theorem gi_wsX4_make_3 : GoodIn wsX4_make wsX30 := goodIn_sub (fun w h => List.mem_cons_of_mem _ (List.mem_append_left _ (List.mem_append_right _ h))) (by decide +kernel)
set_option maxRecDepth 20000 in
theorem gi_wsX4_make_4 : GoodIn wsX4_make wsX50 := goodIn_sub (fun w h => List.mem_cons_of_mem _ (List.mem_append_right _ h)) (by decide +kernel)
def bs_wsX4_make : List (List Cond) := [wsX4_make_r1, wsX4_make_r2, wsX40, wsX30, wsX50]
theorem bs_wsX4_make_in : ∀ b ∈ bs_wsX4_make, GoodIn wsX4_make b := List.forall_mem_cons.mpr ⟨gi_wsX4_make_0, List.forall_mem_cons.mpr ⟨gi_wsX4_make_1, List.forall_mem_cons.mpr ⟨gi_wsX4_make_2, List.forall_mem_cons.mpr ⟨gi_wsX4_make_3, List.forall_mem_cons.mpr ⟨gi_wsX4_make_4, (fun _ h => absurd h List.not_mem_nil)⟩⟩⟩⟩⟩
set_option maxRecDepth 20000 in
theorem ggX4_make_X7_slot : GoodIn wsX4_make wsX7_slot := goodIn_k (gi_q bs_wsX4_make_in _ [(0, 9)] rfl) (gi_q bs_wsX4_make_in _ [] rfl)
set_option maxRecDepth 20000 in
theorem gX4_make_X7_slot_n44 : GoodIn wsX4_make (wsX7_slot) := ggX4_make_X7_slot
set_option maxRecDepth 20000 in
theorem ggX4_make_X4_findOrAdd : GoodIn wsX4_make wsX4_findOrAdd := goodIn_k (gi_q bs_wsX4_make_in _ [(0, 14)] rfl) (goodIn_app (goodIn_app (goodIn_app (gi_q bs_wsX4_make_in _ [(0, 0), (0, 15), (0, 16), (0, 17), (0, 4), (0, 18), (0, 19), (0, 20), (0, 13), (0, 21), (0, 22), (0, 23), (1, 0), (1, 1), (1, 2), (1, 3), (1, 4), (1, 5), (1, 6), (0, 8), (1, 7), (1, 8), (1, 9), (1, 10)] rfl) (gi_q bs_wsX4_make_in _ [(0, 7), (0, 9), (1, 11), (1, 12), (1, 13), (1, 14), (1, 15), (1, 16), (1, 17), (1, 18), (1, 19)] rfl)) (gi_wsX4_make_2)) (gi_wsX4_make_4))
set_option maxRecDepth 20000 in
theorem gX4_make_X4_findOrAdd : GoodIn wsX4_make (wsV RX4 51 RX4 yX4_findOrAdd wsX4_findOrAdd) := goodIn_app (gi_q bs_wsX4_make_in _ [(0, 10), (0, 11), (0, 12), (0, 13)] rfl) ggX4_make_X4_findOrAdd
def fw_dX4_make_0 : List (Nat × Instr × Nat) := [(0, .aload_n 0, 1), (1, .iconst 0, 1), (2, .putfield 35, 3), (5, .iconst 0, 1), (6, .istore_n 1, 1), (7, .iload_n 1, 1), (8, .bipush 12, 2), (10, .if_icmp .ge 75, 3), (13, .iconst (-1), 1), (14, .istore_n 2, 1), (15, .aload_n 0, 1), (16, .getfield 31, 3), (19, .getfield 39, 3), (22, .iload_n 1, 1), (23, .iaload, 1), (24, .iconst 1, 1), (25, .isub, 1), (26, .istore_n 3, 1), (27, .iload_n 3, 1), (28, .ifCond .lt 51, 3)]
theorem fw_dX4_make_0_c : fchk 0 (cX4_make.data.toList.drop 0) fw_dX4_make_0 = true := by decide +kernel
theorem dX4_make_0 : Eq (decode cX4_make 0) (Except.ok (Instr.aload_n 0, 1)) := fE fw_dX4_make_0_c 0 rfl
theorem dX4_make_1 : Eq (decode cX4_make 1) (Except.ok (Instr.iconst 0, 1)) := fE fw_dX4_make_0_c 1 rfl
theorem dX4_make_2 : Eq (decode cX4_make 2) (Except.ok (Instr.putfield 35, 3)) := fE fw_dX4_make_0_c 2 rfl
theorem dX4_make_5 : Eq (decode cX4_make 5) (Except.ok (Instr.iconst 0, 1)) := fE fw_dX4_make_0_c 3 rfl
theorem dX4_make_6 : Eq (decode cX4_make 6) (Except.ok (Instr.istore_n 1, 1)) := fE fw_dX4_make_0_c 4 rfl
theorem dX4_make_7 : Eq (decode cX4_make 7) (Except.ok (Instr.iload_n 1, 1)) := fE fw_dX4_make_0_c 5 rfl
theorem dX4_make_8 : Eq (decode cX4_make 8) (Except.ok (Instr.bipush 12, 2)) := fE fw_dX4_make_0_c 6 rfl
theorem dX4_make_10 : Eq (decode cX4_make 10) (Except.ok (Instr.if_icmp .ge 75, 3)) := fE fw_dX4_make_0_c 7 rfl
theorem dX4_make_13 : Eq (decode cX4_make 13) (Except.ok (Instr.iconst (-1), 1)) := fE fw_dX4_make_0_c 8 rfl
theorem dX4_make_14 : Eq (decode cX4_make 14) (Except.ok (Instr.istore_n 2, 1)) := fE fw_dX4_make_0_c 9 rfl
theorem dX4_make_15 : Eq (decode cX4_make 15) (Except.ok (Instr.aload_n 0, 1)) := fE fw_dX4_make_0_c 10 rfl
theorem dX4_make_16 : Eq (decode cX4_make 16) (Except.ok (Instr.getfield 31, 3)) := fE fw_dX4_make_0_c 11 rfl
theorem dX4_make_19 : Eq (decode cX4_make 19) (Except.ok (Instr.getfield 39, 3)) := fE fw_dX4_make_0_c 12 rfl
theorem dX4_make_22 : Eq (decode cX4_make 22) (Except.ok (Instr.iload_n 1, 1)) := fE fw_dX4_make_0_c 13 rfl
theorem dX4_make_23 : Eq (decode cX4_make 23) (Except.ok (Instr.iaload, 1)) := fE fw_dX4_make_0_c 14 rfl
theorem dX4_make_24 : Eq (decode cX4_make 24) (Except.ok (Instr.iconst 1, 1)) := fE fw_dX4_make_0_c 15 rfl
theorem dX4_make_25 : Eq (decode cX4_make 25) (Except.ok (Instr.isub, 1)) := fE fw_dX4_make_0_c 16 rfl
theorem dX4_make_26 : Eq (decode cX4_make 26) (Except.ok (Instr.istore_n 3, 1)) := fE fw_dX4_make_0_c 17 rfl
theorem dX4_make_27 : Eq (decode cX4_make 27) (Except.ok (Instr.iload_n 3, 1)) := fE fw_dX4_make_0_c 18 rfl
theorem dX4_make_28 : Eq (decode cX4_make 28) (Except.ok (Instr.ifCond .lt 51, 3)) := fE fw_dX4_make_0_c 19 rfl
def fw_dX4_make_31 : List (Nat × Instr × Nat) := [(31, .iload_n 1, 1), (32, .iload_n 3, 1), (33, .invokestatic 44, 3), (36, .istore 4, 2), (38, .aload_n 0, 1), (39, .iload_n 1, 1), (40, .aload_n 0, 1), (41, .getfield 31, 3), (44, .getfield 48, 3), (47, .iload 4, 2), (49, .iaload, 1), (50, .iload_n 2, 1), (51, .invokevirtual 51, 3), (54, .istore_n 2, 1), (55, .aload_n 0, 1), (56, .getfield 21, 3), (59, .iload_n 2, 1), (60, .dup2, 1), (61, .iaload, 1), (62, .iconst 1, 1)]
theorem fw_dX4_make_31_c : fchk 31 (cX4_make.data.toList.drop 31) fw_dX4_make_31 = true := by decide +kernel
theorem dX4_make_31 : Eq (decode cX4_make 31) (Except.ok (Instr.iload_n 1, 1)) := fE fw_dX4_make_31_c 0 rfl
theorem dX4_make_32 : Eq (decode cX4_make 32) (Except.ok (Instr.iload_n 3, 1)) := fE fw_dX4_make_31_c 1 rfl
theorem dX4_make_33 : Eq (decode cX4_make 33) (Except.ok (Instr.invokestatic 44, 3)) := fE fw_dX4_make_31_c 2 rfl
theorem dX4_make_36 : Eq (decode cX4_make 36) (Except.ok (Instr.istore 4, 2)) := fE fw_dX4_make_31_c 3 rfl
theorem dX4_make_38 : Eq (decode cX4_make 38) (Except.ok (Instr.aload_n 0, 1)) := fE fw_dX4_make_31_c 4 rfl
theorem dX4_make_39 : Eq (decode cX4_make 39) (Except.ok (Instr.iload_n 1, 1)) := fE fw_dX4_make_31_c 5 rfl
theorem dX4_make_40 : Eq (decode cX4_make 40) (Except.ok (Instr.aload_n 0, 1)) := fE fw_dX4_make_31_c 6 rfl
theorem dX4_make_41 : Eq (decode cX4_make 41) (Except.ok (Instr.getfield 31, 3)) := fE fw_dX4_make_31_c 7 rfl
theorem dX4_make_44 : Eq (decode cX4_make 44) (Except.ok (Instr.getfield 48, 3)) := fE fw_dX4_make_31_c 8 rfl
theorem dX4_make_47 : Eq (decode cX4_make 47) (Except.ok (Instr.iload 4, 2)) := fE fw_dX4_make_31_c 9 rfl
theorem dX4_make_49 : Eq (decode cX4_make 49) (Except.ok (Instr.iaload, 1)) := fE fw_dX4_make_31_c 10 rfl
theorem dX4_make_50 : Eq (decode cX4_make 50) (Except.ok (Instr.iload_n 2, 1)) := fE fw_dX4_make_31_c 11 rfl
theorem dX4_make_51 : Eq (decode cX4_make 51) (Except.ok (Instr.invokevirtual 51, 3)) := fE fw_dX4_make_31_c 12 rfl
theorem dX4_make_54 : Eq (decode cX4_make 54) (Except.ok (Instr.istore_n 2, 1)) := fE fw_dX4_make_31_c 13 rfl
theorem dX4_make_55 : Eq (decode cX4_make 55) (Except.ok (Instr.aload_n 0, 1)) := fE fw_dX4_make_31_c 14 rfl
theorem dX4_make_56 : Eq (decode cX4_make 56) (Except.ok (Instr.getfield 21, 3)) := fE fw_dX4_make_31_c 15 rfl
theorem dX4_make_59 : Eq (decode cX4_make 59) (Except.ok (Instr.iload_n 2, 1)) := fE fw_dX4_make_31_c 16 rfl
theorem dX4_make_60 : Eq (decode cX4_make 60) (Except.ok (Instr.dup2, 1)) := fE fw_dX4_make_31_c 17 rfl
theorem dX4_make_61 : Eq (decode cX4_make 61) (Except.ok (Instr.iaload, 1)) := fE fw_dX4_make_31_c 18 rfl
theorem dX4_make_62 : Eq (decode cX4_make 62) (Except.ok (Instr.iconst 1, 1)) := fE fw_dX4_make_31_c 19 rfl
def fw_dX4_make_63 : List (Nat × Instr × Nat) := [(63, .iadd, 1), (64, .iastore, 1), (65, .aload_n 0, 1), (66, .getfield 24, 3), (69, .iload 4, 2), (71, .iload_n 2, 1), (72, .iastore, 1)]
theorem fw_dX4_make_63_c : fchk 63 (cX4_make.data.toList.drop 63) fw_dX4_make_63 = true := by decide +kernel
theorem dX4_make_63 : Eq (decode cX4_make 63) (Except.ok (Instr.iadd, 1)) := fE fw_dX4_make_63_c 0 rfl
theorem dX4_make_64 : Eq (decode cX4_make 64) (Except.ok (Instr.iastore, 1)) := fE fw_dX4_make_63_c 1 rfl
theorem dX4_make_65 : Eq (decode cX4_make 65) (Except.ok (Instr.aload_n 0, 1)) := fE fw_dX4_make_63_c 2 rfl
theorem dX4_make_66 : Eq (decode cX4_make 66) (Except.ok (Instr.getfield 24, 3)) := fE fw_dX4_make_63_c 3 rfl
theorem dX4_make_69 : Eq (decode cX4_make 69) (Except.ok (Instr.iload 4, 2)) := fE fw_dX4_make_63_c 4 rfl
theorem dX4_make_71 : Eq (decode cX4_make 71) (Except.ok (Instr.iload_n 2, 1)) := fE fw_dX4_make_63_c 5 rfl
theorem dX4_make_72 : Eq (decode cX4_make 72) (Except.ok (Instr.iastore, 1)) := fE fw_dX4_make_63_c 6 rfl
theorem dX4_make_73 : decode cX4_make 73 = .ok (.iinc 3 (-1), 3) := by decide +kernel
def fw_dX4_make_76 : List (Nat × Instr × Nat) := [(76, .goto (-49), 3)]
theorem fw_dX4_make_76_c : fchk 76 (cX4_make.data.toList.drop 76) fw_dX4_make_76 = true := by decide +kernel
theorem dX4_make_76 : Eq (decode cX4_make 76) (Except.ok (Instr.goto (-49), 3)) := fE fw_dX4_make_76_c 0 rfl
theorem dX4_make_79 : decode cX4_make 79 = .ok (.iinc 1 1, 3) := by decide +kernel
def fw_dX4_make_82 : List (Nat × Instr × Nat) := [(82, .goto (-75), 3), (85, .aload_n 0, 1), (86, .iconst 1, 1), (87, .putfield 55, 3), (90, .return_, 1)]
theorem fw_dX4_make_82_c : fchk 82 (cX4_make.data.toList.drop 82) fw_dX4_make_82 = true := by decide +kernel
theorem dX4_make_82 : Eq (decode cX4_make 82) (Except.ok (Instr.goto (-75), 3)) := fE fw_dX4_make_82_c 0 rfl
theorem dX4_make_85 : Eq (decode cX4_make 85) (Except.ok (Instr.aload_n 0, 1)) := fE fw_dX4_make_82_c 1 rfl
theorem dX4_make_86 : Eq (decode cX4_make 86) (Except.ok (Instr.iconst 1, 1)) := fE fw_dX4_make_82_c 2 rfl
theorem dX4_make_87 : Eq (decode cX4_make 87) (Except.ok (Instr.putfield 55, 3)) := fE fw_dX4_make_82_c 3 rfl
theorem dX4_make_90 : Eq (decode cX4_make 90) (Except.ok (Instr.return_, 1)) := fE fw_dX4_make_82_c 4 rfl
set_option maxRecDepth 20000 in
theorem gi_wsX4_findOrAdd_0 : GoodIn wsX4_findOrAdd wsX4_findOrAdd_r1 := goodIn_sub (fun w h => List.mem_cons_of_mem _ (List.mem_append_left _ (List.mem_append_left _ (List.mem_append_left _ h)))) (by decide +kernel)
set_option maxRecDepth 20000 in
theorem gi_wsX4_findOrAdd_1 : GoodIn wsX4_findOrAdd wsX4_findOrAdd_r2 := goodIn_sub (fun w h => List.mem_cons_of_mem _ (List.mem_append_left _ (List.mem_append_left _ (List.mem_append_right _ h)))) (by decide +kernel)
set_option maxRecDepth 20000 in
theorem gi_wsX4_findOrAdd_2 : GoodIn wsX4_findOrAdd wsX40 := goodIn_sub (fun w h => List.mem_cons_of_mem _ (List.mem_append_left _ (List.mem_append_right _ h))) (by decide +kernel)
set_option maxRecDepth 20000 in
theorem gi_wsX4_findOrAdd_3 : GoodIn wsX4_findOrAdd wsX50 := goodIn_sub (fun w h => List.mem_cons_of_mem _ (List.mem_append_right _ h)) (by decide +kernel)
def bs_wsX4_findOrAdd : List (List Cond) := [wsX4_findOrAdd_r1, wsX4_findOrAdd_r2, wsX40, wsX50]
theorem bs_wsX4_findOrAdd_in : ∀ b ∈ bs_wsX4_findOrAdd, GoodIn wsX4_findOrAdd b := List.forall_mem_cons.mpr ⟨gi_wsX4_findOrAdd_0, List.forall_mem_cons.mpr ⟨gi_wsX4_findOrAdd_1, List.forall_mem_cons.mpr ⟨gi_wsX4_findOrAdd_2, List.forall_mem_cons.mpr ⟨gi_wsX4_findOrAdd_3, (fun _ h => absurd h List.not_mem_nil)⟩⟩⟩⟩
set_option maxRecDepth 20000 in
theorem ggX4_findOrAdd_X4_hasSameActs : GoodIn wsX4_findOrAdd wsX4_hasSameActs := goodIn_k (gi_q bs_wsX4_findOrAdd_in _ [(0, 9)] rfl) (goodIn_app (goodIn_app (goodIn_app (gi_q bs_wsX4_findOrAdd_in _ [(0, 3), (0, 10), (0, 2), (0, 11), (0, 12), (0, 13), (0, 14), (0, 15), (0, 16), (0, 17), (0, 18), (0, 19), (0, 20), (0, 21), (0, 22), (0, 8), (0, 23), (1, 0), (1, 1), (1, 2), (1, 3), (1, 4), (1, 5), (1, 6)] rfl) (gi_q bs_wsX4_findOrAdd_in _ [(1, 7), (1, 8), (1, 9), (1, 10)] rfl)) (gi_wsX4_findOrAdd_2)) (gi_wsX4_findOrAdd_3))
set_option maxRecDepth 20000 in
theorem gX4_findOrAdd_X4_hasSameActs : GoodIn wsX4_findOrAdd (wsV RX4 59 RX4 yX4_hasSameActs wsX4_hasSameActs) := goodIn_app (gi_q bs_wsX4_findOrAdd_in _ [(0, 5), (0, 6), (0, 7), (0, 8)] rfl) ggX4_findOrAdd_X4_hasSameActs
def fw_dX4_findOrAdd_0 : List (Nat × Instr × Nat) := [(0, .iconst 0, 1), (1, .istore 4, 2), (3, .iload 4, 2), (5, .aload_n 0, 1), (6, .getfield 35, 3), (9, .if_icmp .ge 34, 3), (12, .aload_n 0, 1), (13, .getfield 18, 3), (16, .iload 4, 2), (18, .iaload, 1), (19, .iload_n 3, 1), (20, .if_icmp .ne 17, 3), (23, .aload_n 0, 1), (24, .iload 4, 2), (26, .iload_n 1, 1), (27, .iload_n 2, 1), (28, .invokevirtual 59, 3), (31, .ifCond .eq 6, 3), (34, .iload 4, 2), (36, .ireturn, 1)]
theorem fw_dX4_findOrAdd_0_c : fchk 0 (cX4_findOrAdd.data.toList.drop 0) fw_dX4_findOrAdd_0 = true := by decide +kernel
theorem dX4_findOrAdd_0 : Eq (decode cX4_findOrAdd 0) (Except.ok (Instr.iconst 0, 1)) := fE fw_dX4_findOrAdd_0_c 0 rfl
theorem dX4_findOrAdd_1 : Eq (decode cX4_findOrAdd 1) (Except.ok (Instr.istore 4, 2)) := fE fw_dX4_findOrAdd_0_c 1 rfl
theorem dX4_findOrAdd_3 : Eq (decode cX4_findOrAdd 3) (Except.ok (Instr.iload 4, 2)) := fE fw_dX4_findOrAdd_0_c 2 rfl
theorem dX4_findOrAdd_5 : Eq (decode cX4_findOrAdd 5) (Except.ok (Instr.aload_n 0, 1)) := fE fw_dX4_findOrAdd_0_c 3 rfl
theorem dX4_findOrAdd_6 : Eq (decode cX4_findOrAdd 6) (Except.ok (Instr.getfield 35, 3)) := fE fw_dX4_findOrAdd_0_c 4 rfl
theorem dX4_findOrAdd_9 : Eq (decode cX4_findOrAdd 9) (Except.ok (Instr.if_icmp .ge 34, 3)) := fE fw_dX4_findOrAdd_0_c 5 rfl
theorem dX4_findOrAdd_12 : Eq (decode cX4_findOrAdd 12) (Except.ok (Instr.aload_n 0, 1)) := fE fw_dX4_findOrAdd_0_c 6 rfl
theorem dX4_findOrAdd_13 : Eq (decode cX4_findOrAdd 13) (Except.ok (Instr.getfield 18, 3)) := fE fw_dX4_findOrAdd_0_c 7 rfl
theorem dX4_findOrAdd_16 : Eq (decode cX4_findOrAdd 16) (Except.ok (Instr.iload 4, 2)) := fE fw_dX4_findOrAdd_0_c 8 rfl
theorem dX4_findOrAdd_18 : Eq (decode cX4_findOrAdd 18) (Except.ok (Instr.iaload, 1)) := fE fw_dX4_findOrAdd_0_c 9 rfl
theorem dX4_findOrAdd_19 : Eq (decode cX4_findOrAdd 19) (Except.ok (Instr.iload_n 3, 1)) := fE fw_dX4_findOrAdd_0_c 10 rfl
theorem dX4_findOrAdd_20 : Eq (decode cX4_findOrAdd 20) (Except.ok (Instr.if_icmp .ne 17, 3)) := fE fw_dX4_findOrAdd_0_c 11 rfl
theorem dX4_findOrAdd_23 : Eq (decode cX4_findOrAdd 23) (Except.ok (Instr.aload_n 0, 1)) := fE fw_dX4_findOrAdd_0_c 12 rfl
theorem dX4_findOrAdd_24 : Eq (decode cX4_findOrAdd 24) (Except.ok (Instr.iload 4, 2)) := fE fw_dX4_findOrAdd_0_c 13 rfl
theorem dX4_findOrAdd_26 : Eq (decode cX4_findOrAdd 26) (Except.ok (Instr.iload_n 1, 1)) := fE fw_dX4_findOrAdd_0_c 14 rfl
theorem dX4_findOrAdd_27 : Eq (decode cX4_findOrAdd 27) (Except.ok (Instr.iload_n 2, 1)) := fE fw_dX4_findOrAdd_0_c 15 rfl
theorem dX4_findOrAdd_28 : Eq (decode cX4_findOrAdd 28) (Except.ok (Instr.invokevirtual 59, 3)) := fE fw_dX4_findOrAdd_0_c 16 rfl
theorem dX4_findOrAdd_31 : Eq (decode cX4_findOrAdd 31) (Except.ok (Instr.ifCond .eq 6, 3)) := fE fw_dX4_findOrAdd_0_c 17 rfl
theorem dX4_findOrAdd_34 : Eq (decode cX4_findOrAdd 34) (Except.ok (Instr.iload 4, 2)) := fE fw_dX4_findOrAdd_0_c 18 rfl
theorem dX4_findOrAdd_36 : Eq (decode cX4_findOrAdd 36) (Except.ok (Instr.ireturn, 1)) := fE fw_dX4_findOrAdd_0_c 19 rfl
theorem dX4_findOrAdd_37 : decode cX4_findOrAdd 37 = .ok (.iinc 4 1, 3) := by decide +kernel
def fw_dX4_findOrAdd_40 : List (Nat × Instr × Nat) := [(40, .goto (-37), 3), (43, .aload_n 0, 1), (44, .getfield 9, 3), (47, .aload_n 0, 1), (48, .getfield 35, 3), (51, .iload_n 1, 1), (52, .iastore, 1), (53, .aload_n 0, 1), (54, .getfield 15, 3), (57, .aload_n 0, 1), (58, .getfield 35, 3), (61, .iload_n 2, 1), (62, .iastore, 1), (63, .aload_n 0, 1), (64, .getfield 18, 3), (67, .aload_n 0, 1), (68, .getfield 35, 3), (71, .iload_n 3, 1), (72, .iastore, 1), (73, .aload_n 0, 1)]
theorem fw_dX4_findOrAdd_40_c : fchk 40 (cX4_findOrAdd.data.toList.drop 40) fw_dX4_findOrAdd_40 = true := by decide +kernel
theorem dX4_findOrAdd_40 : Eq (decode cX4_findOrAdd 40) (Except.ok (Instr.goto (-37), 3)) := fE fw_dX4_findOrAdd_40_c 0 rfl
theorem dX4_findOrAdd_43 : Eq (decode cX4_findOrAdd 43) (Except.ok (Instr.aload_n 0, 1)) := fE fw_dX4_findOrAdd_40_c 1 rfl
theorem dX4_findOrAdd_44 : Eq (decode cX4_findOrAdd 44) (Except.ok (Instr.getfield 9, 3)) := fE fw_dX4_findOrAdd_40_c 2 rfl
theorem dX4_findOrAdd_47 : Eq (decode cX4_findOrAdd 47) (Except.ok (Instr.aload_n 0, 1)) := fE fw_dX4_findOrAdd_40_c 3 rfl
theorem dX4_findOrAdd_48 : Eq (decode cX4_findOrAdd 48) (Except.ok (Instr.getfield 35, 3)) := fE fw_dX4_findOrAdd_40_c 4 rfl
theorem dX4_findOrAdd_51 : Eq (decode cX4_findOrAdd 51) (Except.ok (Instr.iload_n 1, 1)) := fE fw_dX4_findOrAdd_40_c 5 rfl
theorem dX4_findOrAdd_52 : Eq (decode cX4_findOrAdd 52) (Except.ok (Instr.iastore, 1)) := fE fw_dX4_findOrAdd_40_c 6 rfl
theorem dX4_findOrAdd_53 : Eq (decode cX4_findOrAdd 53) (Except.ok (Instr.aload_n 0, 1)) := fE fw_dX4_findOrAdd_40_c 7 rfl
theorem dX4_findOrAdd_54 : Eq (decode cX4_findOrAdd 54) (Except.ok (Instr.getfield 15, 3)) := fE fw_dX4_findOrAdd_40_c 8 rfl
theorem dX4_findOrAdd_57 : Eq (decode cX4_findOrAdd 57) (Except.ok (Instr.aload_n 0, 1)) := fE fw_dX4_findOrAdd_40_c 9 rfl
theorem dX4_findOrAdd_58 : Eq (decode cX4_findOrAdd 58) (Except.ok (Instr.getfield 35, 3)) := fE fw_dX4_findOrAdd_40_c 10 rfl
theorem dX4_findOrAdd_61 : Eq (decode cX4_findOrAdd 61) (Except.ok (Instr.iload_n 2, 1)) := fE fw_dX4_findOrAdd_40_c 11 rfl
theorem dX4_findOrAdd_62 : Eq (decode cX4_findOrAdd 62) (Except.ok (Instr.iastore, 1)) := fE fw_dX4_findOrAdd_40_c 12 rfl
theorem dX4_findOrAdd_63 : Eq (decode cX4_findOrAdd 63) (Except.ok (Instr.aload_n 0, 1)) := fE fw_dX4_findOrAdd_40_c 13 rfl
theorem dX4_findOrAdd_64 : Eq (decode cX4_findOrAdd 64) (Except.ok (Instr.getfield 18, 3)) := fE fw_dX4_findOrAdd_40_c 14 rfl
theorem dX4_findOrAdd_67 : Eq (decode cX4_findOrAdd 67) (Except.ok (Instr.aload_n 0, 1)) := fE fw_dX4_findOrAdd_40_c 15 rfl
theorem dX4_findOrAdd_68 : Eq (decode cX4_findOrAdd 68) (Except.ok (Instr.getfield 35, 3)) := fE fw_dX4_findOrAdd_40_c 16 rfl
theorem dX4_findOrAdd_71 : Eq (decode cX4_findOrAdd 71) (Except.ok (Instr.iload_n 3, 1)) := fE fw_dX4_findOrAdd_40_c 17 rfl
theorem dX4_findOrAdd_72 : Eq (decode cX4_findOrAdd 72) (Except.ok (Instr.iastore, 1)) := fE fw_dX4_findOrAdd_40_c 18 rfl
theorem dX4_findOrAdd_73 : Eq (decode cX4_findOrAdd 73) (Except.ok (Instr.aload_n 0, 1)) := fE fw_dX4_findOrAdd_40_c 19 rfl
def fw_dX4_findOrAdd_74 : List (Nat × Instr × Nat) := [(74, .getfield 21, 3), (77, .aload_n 0, 1), (78, .getfield 35, 3), (81, .iconst 0, 1), (82, .iastore, 1), (83, .aload_n 0, 1), (84, .dup, 1), (85, .getfield 35, 3), (88, .iconst 1, 1), (89, .iadd, 1), (90, .putfield 35, 3), (93, .aload_n 0, 1), (94, .getfield 35, 3), (97, .iconst 1, 1), (98, .isub, 1), (99, .ireturn, 1)]
theorem fw_dX4_findOrAdd_74_c : fchk 74 (cX4_findOrAdd.data.toList.drop 74) fw_dX4_findOrAdd_74 = true := by decide +kernel
theorem dX4_findOrAdd_74 : Eq (decode cX4_findOrAdd 74) (Except.ok (Instr.getfield 21, 3)) := fE fw_dX4_findOrAdd_74_c 0 rfl
theorem dX4_findOrAdd_77 : Eq (decode cX4_findOrAdd 77) (Except.ok (Instr.aload_n 0, 1)) := fE fw_dX4_findOrAdd_74_c 1 rfl
theorem dX4_findOrAdd_78 : Eq (decode cX4_findOrAdd 78) (Except.ok (Instr.getfield 35, 3)) := fE fw_dX4_findOrAdd_74_c 2 rfl
theorem dX4_findOrAdd_81 : Eq (decode cX4_findOrAdd 81) (Except.ok (Instr.iconst 0, 1)) := fE fw_dX4_findOrAdd_74_c 3 rfl
theorem dX4_findOrAdd_82 : Eq (decode cX4_findOrAdd 82) (Except.ok (Instr.iastore, 1)) := fE fw_dX4_findOrAdd_74_c 4 rfl
theorem dX4_findOrAdd_83 : Eq (decode cX4_findOrAdd 83) (Except.ok (Instr.aload_n 0, 1)) := fE fw_dX4_findOrAdd_74_c 5 rfl
theorem dX4_findOrAdd_84 : Eq (decode cX4_findOrAdd 84) (Except.ok (Instr.dup, 1)) := fE fw_dX4_findOrAdd_74_c 6 rfl
theorem dX4_findOrAdd_85 : Eq (decode cX4_findOrAdd 85) (Except.ok (Instr.getfield 35, 3)) := fE fw_dX4_findOrAdd_74_c 7 rfl
theorem dX4_findOrAdd_88 : Eq (decode cX4_findOrAdd 88) (Except.ok (Instr.iconst 1, 1)) := fE fw_dX4_findOrAdd_74_c 8 rfl
theorem dX4_findOrAdd_89 : Eq (decode cX4_findOrAdd 89) (Except.ok (Instr.iadd, 1)) := fE fw_dX4_findOrAdd_74_c 9 rfl
theorem dX4_findOrAdd_90 : Eq (decode cX4_findOrAdd 90) (Except.ok (Instr.putfield 35, 3)) := fE fw_dX4_findOrAdd_74_c 10 rfl
theorem dX4_findOrAdd_93 : Eq (decode cX4_findOrAdd 93) (Except.ok (Instr.aload_n 0, 1)) := fE fw_dX4_findOrAdd_74_c 11 rfl
theorem dX4_findOrAdd_94 : Eq (decode cX4_findOrAdd 94) (Except.ok (Instr.getfield 35, 3)) := fE fw_dX4_findOrAdd_74_c 12 rfl
theorem dX4_findOrAdd_97 : Eq (decode cX4_findOrAdd 97) (Except.ok (Instr.iconst 1, 1)) := fE fw_dX4_findOrAdd_74_c 13 rfl
theorem dX4_findOrAdd_98 : Eq (decode cX4_findOrAdd 98) (Except.ok (Instr.isub, 1)) := fE fw_dX4_findOrAdd_74_c 14 rfl
theorem dX4_findOrAdd_99 : Eq (decode cX4_findOrAdd 99) (Except.ok (Instr.ireturn, 1)) := fE fw_dX4_findOrAdd_74_c 15 rfl
set_option maxRecDepth 20000 in
theorem gi_wsX4_hasSameActs_0 : GoodIn wsX4_hasSameActs wsX4_hasSameActs_r1 := goodIn_sub (fun w h => List.mem_cons_of_mem _ (List.mem_append_left _ (List.mem_append_left _ (List.mem_append_left _ h)))) (by decide +kernel)
set_option maxRecDepth 20000 in
theorem gi_wsX4_hasSameActs_1 : GoodIn wsX4_hasSameActs wsX4_hasSameActs_r2 := goodIn_sub (fun w h => List.mem_cons_of_mem _ (List.mem_append_left _ (List.mem_append_left _ (List.mem_append_right _ h)))) (by decide +kernel)
set_option maxRecDepth 20000 in
theorem gi_wsX4_hasSameActs_2 : GoodIn wsX4_hasSameActs wsX40 := goodIn_sub (fun w h => List.mem_cons_of_mem _ (List.mem_append_left _ (List.mem_append_right _ h))) (by decide +kernel)
set_option maxRecDepth 20000 in
theorem gi_wsX4_hasSameActs_3 : GoodIn wsX4_hasSameActs wsX50 := goodIn_sub (fun w h => List.mem_cons_of_mem _ (List.mem_append_right _ h)) (by decide +kernel)
def bs_wsX4_hasSameActs : List (List Cond) := [wsX4_hasSameActs_r1, wsX4_hasSameActs_r2, wsX40, wsX50]
theorem bs_wsX4_hasSameActs_in : ∀ b ∈ bs_wsX4_hasSameActs, GoodIn wsX4_hasSameActs b := List.forall_mem_cons.mpr ⟨gi_wsX4_hasSameActs_0, List.forall_mem_cons.mpr ⟨gi_wsX4_hasSameActs_1, List.forall_mem_cons.mpr ⟨gi_wsX4_hasSameActs_2, List.forall_mem_cons.mpr ⟨gi_wsX4_hasSameActs_3, (fun _ h => absurd h List.not_mem_nil)⟩⟩⟩⟩
set_option maxRecDepth 20000 in
theorem ggX4_hasSameActs_J6_bitCount_0f7a4 : GoodIn wsX4_hasSameActs wsJ6_bitCount_0f7a4 := goodIn_k (gi_q bs_wsX4_hasSameActs_in _ [(0, 6)] rfl) (gi_q bs_wsX4_hasSameActs_in _ [(0, 7), (0, 8), (0, 9)] rfl)
set_option maxRecDepth 20000 in
theorem gX4_hasSameActs_J6_bitCount_0f7a4 : GoodIn wsX4_hasSameActs (va_wsS RX4 63 yJ6_bitCount_0f7a4 wsJ6_bitCount_0f7a4) := goodIn_app (gi_q bs_wsX4_hasSameActs_in _ [(0, 3), (0, 4), (0, 5)] rfl) ggX4_hasSameActs_J6_bitCount_0f7a4
set_option maxRecDepth 20000 in
theorem ggX4_hasSameActs_X7_isIn : GoodIn wsX4_hasSameActs wsX7_isIn := goodIn_k (gi_q bs_wsX4_hasSameActs_in _ [(0, 12)] rfl) (gi_q bs_wsX4_hasSameActs_in _ [] rfl)
set_option maxRecDepth 20000 in
theorem gX4_hasSameActs_X7_isIn_n69 : GoodIn wsX4_hasSameActs (wsX7_isIn) := ggX4_hasSameActs_X7_isIn
set_option maxRecDepth 20000 in
theorem ggX4_hasSameActs_X4_firstIn : GoodIn wsX4_hasSameActs wsX4_firstIn := goodIn_k (gi_q bs_wsX4_hasSameActs_in _ [(0, 16)] rfl) (gi_q bs_wsX4_hasSameActs_in _ [(0, 10), (0, 11), (0, 12)] rfl)
set_option maxRecDepth 20000 in
theorem gX4_hasSameActs_X4_firstIn : GoodIn wsX4_hasSameActs (va_wsS RX4 73 yX4_firstIn wsX4_firstIn) := goodIn_app (gi_q bs_wsX4_hasSameActs_in _ [(0, 13), (0, 14), (0, 15)] rfl) ggX4_hasSameActs_X4_firstIn
set_option maxRecDepth 20000 in
theorem ggX4_hasSameActs_X7_slot : GoodIn wsX4_hasSameActs wsX7_slot := goodIn_k (gi_q bs_wsX4_hasSameActs_in _ [(0, 18)] rfl) (gi_q bs_wsX4_hasSameActs_in _ [] rfl)
set_option maxRecDepth 20000 in
theorem gX4_hasSameActs_X7_slot_n44 : GoodIn wsX4_hasSameActs (wsX7_slot) := ggX4_hasSameActs_X7_slot
set_option maxRecDepth 20000 in
theorem ggX4_hasSameActs_X5_same : GoodIn wsX4_hasSameActs wsX5_same := goodIn_k (gi_q bs_wsX4_hasSameActs_in _ [(0, 23)] rfl) (goodIn_app (gi_q bs_wsX4_hasSameActs_in _ [(1, 0), (1, 1), (1, 2), (1, 3)] rfl) (gi_wsX4_hasSameActs_3))
set_option maxRecDepth 20000 in
theorem gX4_hasSameActs_X5_same : GoodIn wsX4_hasSameActs (wsV RX4 76 RX5 yX5_same wsX5_same) := goodIn_app (gi_q bs_wsX4_hasSameActs_in _ [(0, 19), (0, 20), (0, 21), (0, 22)] rfl) ggX4_hasSameActs_X5_same
def fw_dX4_hasSameActs_0 : List (Nat × Instr × Nat) := [(0, .aload_n 0, 1), (1, .getfield 15, 3), (4, .iload_n 1, 1), (5, .iaload, 1), (6, .istore 4, 2), (8, .iload 4, 2), (10, .invokestatic 63, 3), (13, .iload_n 3, 1), (14, .invokestatic 63, 3), (17, .if_icmp .eq 5, 3), (20, .iconst 0, 1), (21, .ireturn, 1), (22, .iconst 0, 1), (23, .istore 5, 2), (25, .iconst 0, 1), (26, .istore 6, 2), (28, .iload 6, 2), (30, .bipush 10, 2), (32, .if_icmp .ge 59, 3), (35, .iload_n 3, 1)]
theorem fw_dX4_hasSameActs_0_c : fchk 0 (cX4_hasSameActs.data.toList.drop 0) fw_dX4_hasSameActs_0 = true := by decide +kernel
theorem dX4_hasSameActs_0 : Eq (decode cX4_hasSameActs 0) (Except.ok (Instr.aload_n 0, 1)) := fE fw_dX4_hasSameActs_0_c 0 rfl
theorem dX4_hasSameActs_1 : Eq (decode cX4_hasSameActs 1) (Except.ok (Instr.getfield 15, 3)) := fE fw_dX4_hasSameActs_0_c 1 rfl
theorem dX4_hasSameActs_4 : Eq (decode cX4_hasSameActs 4) (Except.ok (Instr.iload_n 1, 1)) := fE fw_dX4_hasSameActs_0_c 2 rfl
theorem dX4_hasSameActs_5 : Eq (decode cX4_hasSameActs 5) (Except.ok (Instr.iaload, 1)) := fE fw_dX4_hasSameActs_0_c 3 rfl
theorem dX4_hasSameActs_6 : Eq (decode cX4_hasSameActs 6) (Except.ok (Instr.istore 4, 2)) := fE fw_dX4_hasSameActs_0_c 4 rfl
theorem dX4_hasSameActs_8 : Eq (decode cX4_hasSameActs 8) (Except.ok (Instr.iload 4, 2)) := fE fw_dX4_hasSameActs_0_c 5 rfl
theorem dX4_hasSameActs_10 : Eq (decode cX4_hasSameActs 10) (Except.ok (Instr.invokestatic 63, 3)) := fE fw_dX4_hasSameActs_0_c 6 rfl
theorem dX4_hasSameActs_13 : Eq (decode cX4_hasSameActs 13) (Except.ok (Instr.iload_n 3, 1)) := fE fw_dX4_hasSameActs_0_c 7 rfl
theorem dX4_hasSameActs_14 : Eq (decode cX4_hasSameActs 14) (Except.ok (Instr.invokestatic 63, 3)) := fE fw_dX4_hasSameActs_0_c 8 rfl
theorem dX4_hasSameActs_17 : Eq (decode cX4_hasSameActs 17) (Except.ok (Instr.if_icmp .eq 5, 3)) := fE fw_dX4_hasSameActs_0_c 9 rfl
theorem dX4_hasSameActs_20 : Eq (decode cX4_hasSameActs 20) (Except.ok (Instr.iconst 0, 1)) := fE fw_dX4_hasSameActs_0_c 10 rfl
theorem dX4_hasSameActs_21 : Eq (decode cX4_hasSameActs 21) (Except.ok (Instr.ireturn, 1)) := fE fw_dX4_hasSameActs_0_c 11 rfl
theorem dX4_hasSameActs_22 : Eq (decode cX4_hasSameActs 22) (Except.ok (Instr.iconst 0, 1)) := fE fw_dX4_hasSameActs_0_c 12 rfl
theorem dX4_hasSameActs_23 : Eq (decode cX4_hasSameActs 23) (Except.ok (Instr.istore 5, 2)) := fE fw_dX4_hasSameActs_0_c 13 rfl
theorem dX4_hasSameActs_25 : Eq (decode cX4_hasSameActs 25) (Except.ok (Instr.iconst 0, 1)) := fE fw_dX4_hasSameActs_0_c 14 rfl
theorem dX4_hasSameActs_26 : Eq (decode cX4_hasSameActs 26) (Except.ok (Instr.istore 6, 2)) := fE fw_dX4_hasSameActs_0_c 15 rfl
theorem dX4_hasSameActs_28 : Eq (decode cX4_hasSameActs 28) (Except.ok (Instr.iload 6, 2)) := fE fw_dX4_hasSameActs_0_c 16 rfl
theorem dX4_hasSameActs_30 : Eq (decode cX4_hasSameActs 30) (Except.ok (Instr.bipush 10, 2)) := fE fw_dX4_hasSameActs_0_c 17 rfl
theorem dX4_hasSameActs_32 : Eq (decode cX4_hasSameActs 32) (Except.ok (Instr.if_icmp .ge 59, 3)) := fE fw_dX4_hasSameActs_0_c 18 rfl
theorem dX4_hasSameActs_35 : Eq (decode cX4_hasSameActs 35) (Except.ok (Instr.iload_n 3, 1)) := fE fw_dX4_hasSameActs_0_c 19 rfl
def fw_dX4_hasSameActs_36 : List (Nat × Instr × Nat) := [(36, .iload 6, 2), (38, .invokestatic 69, 3), (41, .ifCond .eq 44, 3), (44, .iload 4, 2), (46, .iload 5, 2), (48, .invokestatic 73, 3), (51, .istore 5, 2), (53, .aload_n 0, 1), (54, .getfield 27, 3), (57, .iload_n 2, 1), (58, .iload 6, 2), (60, .invokestatic 44, 3), (63, .aload_n 0, 1), (64, .getfield 9, 3), (67, .iload_n 1, 1), (68, .iaload, 1), (69, .iload 5, 2), (71, .invokestatic 44, 3), (74, .invokevirtual 76, 3), (77, .ifCond .ne 5, 3)]
theorem fw_dX4_hasSameActs_36_c : fchk 36 (cX4_hasSameActs.data.toList.drop 36) fw_dX4_hasSameActs_36 = true := by decide +kernel
theorem dX4_hasSameActs_36 : Eq (decode cX4_hasSameActs 36) (Except.ok (Instr.iload 6, 2)) := fE fw_dX4_hasSameActs_36_c 0 rfl
theorem dX4_hasSameActs_38 : Eq (decode cX4_hasSameActs 38) (Except.ok (Instr.invokestatic 69, 3)) := fE fw_dX4_hasSameActs_36_c 1 rfl
theorem dX4_hasSameActs_41 : Eq (decode cX4_hasSameActs 41) (Except.ok (Instr.ifCond .eq 44, 3)) := fE fw_dX4_hasSameActs_36_c 2 rfl
theorem dX4_hasSameActs_44 : Eq (decode cX4_hasSameActs 44) (Except.ok (Instr.iload 4, 2)) := fE fw_dX4_hasSameActs_36_c 3 rfl
theorem dX4_hasSameActs_46 : Eq (decode cX4_hasSameActs 46) (Except.ok (Instr.iload 5, 2)) := fE fw_dX4_hasSameActs_36_c 4 rfl
theorem dX4_hasSameActs_48 : Eq (decode cX4_hasSameActs 48) (Except.ok (Instr.invokestatic 73, 3)) := fE fw_dX4_hasSameActs_36_c 5 rfl
theorem dX4_hasSameActs_51 : Eq (decode cX4_hasSameActs 51) (Except.ok (Instr.istore 5, 2)) := fE fw_dX4_hasSameActs_36_c 6 rfl
theorem dX4_hasSameActs_53 : Eq (decode cX4_hasSameActs 53) (Except.ok (Instr.aload_n 0, 1)) := fE fw_dX4_hasSameActs_36_c 7 rfl
theorem dX4_hasSameActs_54 : Eq (decode cX4_hasSameActs 54) (Except.ok (Instr.getfield 27, 3)) := fE fw_dX4_hasSameActs_36_c 8 rfl
theorem dX4_hasSameActs_57 : Eq (decode cX4_hasSameActs 57) (Except.ok (Instr.iload_n 2, 1)) := fE fw_dX4_hasSameActs_36_c 9 rfl
theorem dX4_hasSameActs_58 : Eq (decode cX4_hasSameActs 58) (Except.ok (Instr.iload 6, 2)) := fE fw_dX4_hasSameActs_36_c 10 rfl
theorem dX4_hasSameActs_60 : Eq (decode cX4_hasSameActs 60) (Except.ok (Instr.invokestatic 44, 3)) := fE fw_dX4_hasSameActs_36_c 11 rfl
theorem dX4_hasSameActs_63 : Eq (decode cX4_hasSameActs 63) (Except.ok (Instr.aload_n 0, 1)) := fE fw_dX4_hasSameActs_36_c 12 rfl
theorem dX4_hasSameActs_64 : Eq (decode cX4_hasSameActs 64) (Except.ok (Instr.getfield 9, 3)) := fE fw_dX4_hasSameActs_36_c 13 rfl
theorem dX4_hasSameActs_67 : Eq (decode cX4_hasSameActs 67) (Except.ok (Instr.iload_n 1, 1)) := fE fw_dX4_hasSameActs_36_c 14 rfl
theorem dX4_hasSameActs_68 : Eq (decode cX4_hasSameActs 68) (Except.ok (Instr.iaload, 1)) := fE fw_dX4_hasSameActs_36_c 15 rfl
theorem dX4_hasSameActs_69 : Eq (decode cX4_hasSameActs 69) (Except.ok (Instr.iload 5, 2)) := fE fw_dX4_hasSameActs_36_c 16 rfl
theorem dX4_hasSameActs_71 : Eq (decode cX4_hasSameActs 71) (Except.ok (Instr.invokestatic 44, 3)) := fE fw_dX4_hasSameActs_36_c 17 rfl
theorem dX4_hasSameActs_74 : Eq (decode cX4_hasSameActs 74) (Except.ok (Instr.invokevirtual 76, 3)) := fE fw_dX4_hasSameActs_36_c 18 rfl
theorem dX4_hasSameActs_77 : Eq (decode cX4_hasSameActs 77) (Except.ok (Instr.ifCond .ne 5, 3)) := fE fw_dX4_hasSameActs_36_c 19 rfl
def fw_dX4_hasSameActs_80 : List (Nat × Instr × Nat) := [(80, .iconst 0, 1), (81, .ireturn, 1)]
theorem fw_dX4_hasSameActs_80_c : fchk 80 (cX4_hasSameActs.data.toList.drop 80) fw_dX4_hasSameActs_80 = true := by decide +kernel
theorem dX4_hasSameActs_80 : Eq (decode cX4_hasSameActs 80) (Except.ok (Instr.iconst 0, 1)) := fE fw_dX4_hasSameActs_80_c 0 rfl
theorem dX4_hasSameActs_81 : Eq (decode cX4_hasSameActs 81) (Except.ok (Instr.ireturn, 1)) := fE fw_dX4_hasSameActs_80_c 1 rfl
theorem dX4_hasSameActs_82 : decode cX4_hasSameActs 82 = .ok (.iinc 5 1, 3) := by decide +kernel
theorem dX4_hasSameActs_85 : decode cX4_hasSameActs 85 = .ok (.iinc 6 1, 3) := by decide +kernel
def fw_dX4_hasSameActs_88 : List (Nat × Instr × Nat) := [(88, .goto (-60), 3), (91, .iconst 1, 1), (92, .ireturn, 1)]
theorem fw_dX4_hasSameActs_88_c : fchk 88 (cX4_hasSameActs.data.toList.drop 88) fw_dX4_hasSameActs_88 = true := by decide +kernel
theorem dX4_hasSameActs_88 : Eq (decode cX4_hasSameActs 88) (Except.ok (Instr.goto (-60), 3)) := fE fw_dX4_hasSameActs_88_c 0 rfl
theorem dX4_hasSameActs_91 : Eq (decode cX4_hasSameActs 91) (Except.ok (Instr.iconst 1, 1)) := fE fw_dX4_hasSameActs_88_c 1 rfl
theorem dX4_hasSameActs_92 : Eq (decode cX4_hasSameActs 92) (Except.ok (Instr.ireturn, 1)) := fE fw_dX4_hasSameActs_88_c 2 rfl
set_option maxRecDepth 20000 in
theorem gi_wsX4_firstIn_0 : GoodIn wsX4_firstIn wsX4_firstIn := goodIn_sub (fun _ h => h) (by decide +kernel)
def bs_wsX4_firstIn : List (List Cond) := [wsX4_firstIn]
theorem bs_wsX4_firstIn_in : ∀ b ∈ bs_wsX4_firstIn, GoodIn wsX4_firstIn b := List.forall_mem_cons.mpr ⟨gi_wsX4_firstIn_0, (fun _ h => absurd h List.not_mem_nil)⟩
set_option maxRecDepth 20000 in
theorem ggX4_firstIn_X7_isIn : GoodIn wsX4_firstIn wsX7_isIn := goodIn_k (gi_q bs_wsX4_firstIn_in _ [(0, 3)] rfl) (gi_q bs_wsX4_firstIn_in _ [] rfl)
set_option maxRecDepth 20000 in
theorem gX4_firstIn_X7_isIn_n69 : GoodIn wsX4_firstIn (wsX7_isIn) := ggX4_firstIn_X7_isIn
def fw_dX4_firstIn_0 : List (Nat × Instr × Nat) := [(0, .iload_n 1, 1), (1, .istore_n 2, 1), (2, .iload_n 2, 1), (3, .bipush 10, 2), (5, .if_icmp .ge 19, 3), (8, .iload_n 0, 1), (9, .iload_n 2, 1), (10, .invokestatic 69, 3), (13, .ifCond .eq 5, 3), (16, .iload_n 2, 1), (17, .ireturn, 1)]
theorem fw_dX4_firstIn_0_c : fchk 0 (cX4_firstIn.data.toList.drop 0) fw_dX4_firstIn_0 = true := by decide +kernel
theorem dX4_firstIn_0 : Eq (decode cX4_firstIn 0) (Except.ok (Instr.iload_n 1, 1)) := fE fw_dX4_firstIn_0_c 0 rfl
theorem dX4_firstIn_1 : Eq (decode cX4_firstIn 1) (Except.ok (Instr.istore_n 2, 1)) := fE fw_dX4_firstIn_0_c 1 rfl
theorem dX4_firstIn_2 : Eq (decode cX4_firstIn 2) (Except.ok (Instr.iload_n 2, 1)) := fE fw_dX4_firstIn_0_c 2 rfl
theorem dX4_firstIn_3 : Eq (decode cX4_firstIn 3) (Except.ok (Instr.bipush 10, 2)) := fE fw_dX4_firstIn_0_c 3 rfl
theorem dX4_firstIn_5 : Eq (decode cX4_firstIn 5) (Except.ok (Instr.if_icmp .ge 19, 3)) := fE fw_dX4_firstIn_0_c 4 rfl
theorem dX4_firstIn_8 : Eq (decode cX4_firstIn 8) (Except.ok (Instr.iload_n 0, 1)) := fE fw_dX4_firstIn_0_c 5 rfl
theorem dX4_firstIn_9 : Eq (decode cX4_firstIn 9) (Except.ok (Instr.iload_n 2, 1)) := fE fw_dX4_firstIn_0_c 6 rfl
theorem dX4_firstIn_10 : Eq (decode cX4_firstIn 10) (Except.ok (Instr.invokestatic 69, 3)) := fE fw_dX4_firstIn_0_c 7 rfl
theorem dX4_firstIn_13 : Eq (decode cX4_firstIn 13) (Except.ok (Instr.ifCond .eq 5, 3)) := fE fw_dX4_firstIn_0_c 8 rfl
theorem dX4_firstIn_16 : Eq (decode cX4_firstIn 16) (Except.ok (Instr.iload_n 2, 1)) := fE fw_dX4_firstIn_0_c 9 rfl
theorem dX4_firstIn_17 : Eq (decode cX4_firstIn 17) (Except.ok (Instr.ireturn, 1)) := fE fw_dX4_firstIn_0_c 10 rfl
theorem dX4_firstIn_18 : decode cX4_firstIn 18 = .ok (.iinc 2 1, 3) := by decide +kernel
def fw_dX4_firstIn_21 : List (Nat × Instr × Nat) := [(21, .goto (-19), 3), (24, .iconst 0, 1), (25, .ireturn, 1)]
theorem fw_dX4_firstIn_21_c : fchk 21 (cX4_firstIn.data.toList.drop 21) fw_dX4_firstIn_21 = true := by decide +kernel
theorem dX4_firstIn_21 : Eq (decode cX4_firstIn 21) (Except.ok (Instr.goto (-19), 3)) := fE fw_dX4_firstIn_21_c 0 rfl
theorem dX4_firstIn_24 : Eq (decode cX4_firstIn 24) (Except.ok (Instr.iconst 0, 1)) := fE fw_dX4_firstIn_21_c 1 rfl
theorem dX4_firstIn_25 : Eq (decode cX4_firstIn 25) (Except.ok (Instr.ireturn, 1)) := fE fw_dX4_firstIn_21_c 2 rfl
