set_option maxRecDepth 20000 in
theorem gX8_store_X8_lays : GoodIn wsX8_store (wsV RX8 211 RX8 yX8_lays wsX8_lays) := goodIn_app (gi_q bs_wsX8_store_in _ [(1, 21), (1, 22), (1, 23), (0, 7)] rfl) ggX8_store_X8_lays
set_option maxRecDepth 20000 in
theorem ggX8_store_X8_findFields : GoodIn wsX8_store wsX8_findFields := goodIn_k (gi_q bs_wsX8_store_in _ [(2, 20)] rfl) (goodIn_app (goodIn_app (gi_q bs_wsX8_store_in _ [(2, 21), (2, 22), (0, 0), (2, 23), (2, 3), (2, 4), (0, 19), (3, 0), (3, 1), (3, 2), (0, 7), (3, 3), (2, 9), (2, 10), (2, 11), (2, 12), (0, 10), (0, 14), (1, 18), (1, 19), (1, 20), (3, 4), (3, 5), (3, 6)] rfl) (gi_q bs_wsX8_store_in _ [(3, 7), (2, 13), (2, 14), (2, 15), (2, 16), (1, 0), (1, 8), (1, 9), (3, 8), (3, 9), (3, 10), (3, 11), (3, 12), (3, 13), (3, 14), (3, 15), (3, 16), (3, 17), (3, 18)] rfl)) (gi_wsX8_store_4))
set_option maxRecDepth 20000 in
theorem gX8_store_X8_findFields : GoodIn wsX8_store (wsV RX8 214 RX8 yX8_findFields wsX8_findFields) := goodIn_app (gi_q bs_wsX8_store_in _ [(2, 17), (2, 18), (2, 19), (0, 7)] rfl) ggX8_store_X8_findFields
def fw_dX8_store_0 : List (Nat × Instr × Nat) := [(0, .aload_n 0, 1), (1, .iconst 0, 1), (2, .putfield 205, 3), (5, .iconst 0, 1), (6, .istore_n 1, 1), (7, .iload_n 1, 1), (8, .bipush 12, 2), (10, .if_icmp .ge 55, 3), (13, .aload_n 0, 1), (14, .iload_n 1, 1), (15, .invokevirtual 194, 3), (18, .iconst (-1), 1), (19, .istore_n 2, 1), (20, .aload_n 0, 1), (21, .getfield 57, 3), (24, .iload_n 1, 1), (25, .iaload, 1), (26, .iconst 1, 1), (27, .isub, 1), (28, .istore_n 3, 1)]
theorem fw_dX8_store_0_c : fchk 0 (cX8_store.data.toList.drop 0) fw_dX8_store_0 = true := by decide +kernel
theorem dX8_store_0 : Eq (decode cX8_store 0) (Except.ok (Instr.aload_n 0, 1)) := fE fw_dX8_store_0_c 0 rfl
theorem dX8_store_1 : Eq (decode cX8_store 1) (Except.ok (Instr.iconst 0, 1)) := fE fw_dX8_store_0_c 1 rfl
theorem dX8_store_2 : Eq (decode cX8_store 2) (Except.ok (Instr.putfield 205, 3)) := fE fw_dX8_store_0_c 2 rfl
theorem dX8_store_5 : Eq (decode cX8_store 5) (Except.ok (Instr.iconst 0, 1)) := fE fw_dX8_store_0_c 3 rfl
theorem dX8_store_6 : Eq (decode cX8_store 6) (Except.ok (Instr.istore_n 1, 1)) := fE fw_dX8_store_0_c 4 rfl
theorem dX8_store_7 : Eq (decode cX8_store 7) (Except.ok (Instr.iload_n 1, 1)) := fE fw_dX8_store_0_c 5 rfl
theorem dX8_store_8 : Eq (decode cX8_store 8) (Except.ok (Instr.bipush 12, 2)) := fE fw_dX8_store_0_c 6 rfl
theorem dX8_store_10 : Eq (decode cX8_store 10) (Except.ok (Instr.if_icmp .ge 55, 3)) := fE fw_dX8_store_0_c 7 rfl
theorem dX8_store_13 : Eq (decode cX8_store 13) (Except.ok (Instr.aload_n 0, 1)) := fE fw_dX8_store_0_c 8 rfl
theorem dX8_store_14 : Eq (decode cX8_store 14) (Except.ok (Instr.iload_n 1, 1)) := fE fw_dX8_store_0_c 9 rfl
theorem dX8_store_15 : Eq (decode cX8_store 15) (Except.ok (Instr.invokevirtual 194, 3)) := fE fw_dX8_store_0_c 10 rfl
theorem dX8_store_18 : Eq (decode cX8_store 18) (Except.ok (Instr.iconst (-1), 1)) := fE fw_dX8_store_0_c 11 rfl
theorem dX8_store_19 : Eq (decode cX8_store 19) (Except.ok (Instr.istore_n 2, 1)) := fE fw_dX8_store_0_c 12 rfl
theorem dX8_store_20 : Eq (decode cX8_store 20) (Except.ok (Instr.aload_n 0, 1)) := fE fw_dX8_store_0_c 13 rfl
theorem dX8_store_21 : Eq (decode cX8_store 21) (Except.ok (Instr.getfield 57, 3)) := fE fw_dX8_store_0_c 14 rfl
theorem dX8_store_24 : Eq (decode cX8_store 24) (Except.ok (Instr.iload_n 1, 1)) := fE fw_dX8_store_0_c 15 rfl
theorem dX8_store_25 : Eq (decode cX8_store 25) (Except.ok (Instr.iaload, 1)) := fE fw_dX8_store_0_c 16 rfl
theorem dX8_store_26 : Eq (decode cX8_store 26) (Except.ok (Instr.iconst 1, 1)) := fE fw_dX8_store_0_c 17 rfl
theorem dX8_store_27 : Eq (decode cX8_store 27) (Except.ok (Instr.isub, 1)) := fE fw_dX8_store_0_c 18 rfl
theorem dX8_store_28 : Eq (decode cX8_store 28) (Except.ok (Instr.istore_n 3, 1)) := fE fw_dX8_store_0_c 19 rfl
def fw_dX8_store_29 : List (Nat × Instr × Nat) := [(29, .iload_n 3, 1), (30, .ifCond .lt 29, 3), (33, .aload_n 0, 1), (34, .iload_n 1, 1), (35, .iload_n 3, 1), (36, .iload_n 2, 1), (37, .invokevirtual 211, 3), (40, .istore_n 2, 1), (41, .aload_n 0, 1), (42, .getfield 82, 3), (45, .bipush 10, 2), (47, .iload_n 1, 1), (48, .imul, 1), (49, .iload_n 3, 1), (50, .iadd, 1), (51, .iload_n 2, 1), (52, .iastore, 1)]
theorem fw_dX8_store_29_c : fchk 29 (cX8_store.data.toList.drop 29) fw_dX8_store_29 = true := by decide +kernel
theorem dX8_store_29 : Eq (decode cX8_store 29) (Except.ok (Instr.iload_n 3, 1)) := fE fw_dX8_store_29_c 0 rfl
theorem dX8_store_30 : Eq (decode cX8_store 30) (Except.ok (Instr.ifCond .lt 29, 3)) := fE fw_dX8_store_29_c 1 rfl
theorem dX8_store_33 : Eq (decode cX8_store 33) (Except.ok (Instr.aload_n 0, 1)) := fE fw_dX8_store_29_c 2 rfl
theorem dX8_store_34 : Eq (decode cX8_store 34) (Except.ok (Instr.iload_n 1, 1)) := fE fw_dX8_store_29_c 3 rfl
theorem dX8_store_35 : Eq (decode cX8_store 35) (Except.ok (Instr.iload_n 3, 1)) := fE fw_dX8_store_29_c 4 rfl
theorem dX8_store_36 : Eq (decode cX8_store 36) (Except.ok (Instr.iload_n 2, 1)) := fE fw_dX8_store_29_c 5 rfl
theorem dX8_store_37 : Eq (decode cX8_store 37) (Except.ok (Instr.invokevirtual 211, 3)) := fE fw_dX8_store_29_c 6 rfl
theorem dX8_store_40 : Eq (decode cX8_store 40) (Except.ok (Instr.istore_n 2, 1)) := fE fw_dX8_store_29_c 7 rfl
theorem dX8_store_41 : Eq (decode cX8_store 41) (Except.ok (Instr.aload_n 0, 1)) := fE fw_dX8_store_29_c 8 rfl
theorem dX8_store_42 : Eq (decode cX8_store 42) (Except.ok (Instr.getfield 82, 3)) := fE fw_dX8_store_29_c 9 rfl
theorem dX8_store_45 : Eq (decode cX8_store 45) (Except.ok (Instr.bipush 10, 2)) := fE fw_dX8_store_29_c 10 rfl
theorem dX8_store_47 : Eq (decode cX8_store 47) (Except.ok (Instr.iload_n 1, 1)) := fE fw_dX8_store_29_c 11 rfl
theorem dX8_store_48 : Eq (decode cX8_store 48) (Except.ok (Instr.imul, 1)) := fE fw_dX8_store_29_c 12 rfl
theorem dX8_store_49 : Eq (decode cX8_store 49) (Except.ok (Instr.iload_n 3, 1)) := fE fw_dX8_store_29_c 13 rfl
theorem dX8_store_50 : Eq (decode cX8_store 50) (Except.ok (Instr.iadd, 1)) := fE fw_dX8_store_29_c 14 rfl
theorem dX8_store_51 : Eq (decode cX8_store 51) (Except.ok (Instr.iload_n 2, 1)) := fE fw_dX8_store_29_c 15 rfl
theorem dX8_store_52 : Eq (decode cX8_store 52) (Except.ok (Instr.iastore, 1)) := fE fw_dX8_store_29_c 16 rfl
theorem dX8_store_53 : decode cX8_store 53 = .ok (.iinc 3 (-1), 3) := by decide +kernel
def fw_dX8_store_56 : List (Nat × Instr × Nat) := [(56, .goto (-27), 3)]
theorem fw_dX8_store_56_c : fchk 56 (cX8_store.data.toList.drop 56) fw_dX8_store_56 = true := by decide +kernel
theorem dX8_store_56 : Eq (decode cX8_store 56) (Except.ok (Instr.goto (-27), 3)) := fE fw_dX8_store_56_c 0 rfl
theorem dX8_store_59 : decode cX8_store 59 = .ok (.iinc 1 1, 3) := by decide +kernel
def fw_dX8_store_62 : List (Nat × Instr × Nat) := [(62, .goto (-55), 3), (65, .aload_n 0, 1), (66, .iconst 1, 1), (67, .putfield 164, 3), (70, .aload_n 0, 1), (71, .invokevirtual 214, 3), (74, .aload_n 0, 1), (75, .getfield 205, 3), (78, .ireturn, 1)]
theorem fw_dX8_store_62_c : fchk 62 (cX8_store.data.toList.drop 62) fw_dX8_store_62 = true := by decide +kernel
theorem dX8_store_62 : Eq (decode cX8_store 62) (Except.ok (Instr.goto (-55), 3)) := fE fw_dX8_store_62_c 0 rfl
theorem dX8_store_65 : Eq (decode cX8_store 65) (Except.ok (Instr.aload_n 0, 1)) := fE fw_dX8_store_62_c 1 rfl
theorem dX8_store_66 : Eq (decode cX8_store 66) (Except.ok (Instr.iconst 1, 1)) := fE fw_dX8_store_62_c 2 rfl
theorem dX8_store_67 : Eq (decode cX8_store 67) (Except.ok (Instr.putfield 164, 3)) := fE fw_dX8_store_62_c 3 rfl
theorem dX8_store_70 : Eq (decode cX8_store 70) (Except.ok (Instr.aload_n 0, 1)) := fE fw_dX8_store_62_c 4 rfl
theorem dX8_store_71 : Eq (decode cX8_store 71) (Except.ok (Instr.invokevirtual 214, 3)) := fE fw_dX8_store_62_c 5 rfl
theorem dX8_store_74 : Eq (decode cX8_store 74) (Except.ok (Instr.aload_n 0, 1)) := fE fw_dX8_store_62_c 6 rfl
theorem dX8_store_75 : Eq (decode cX8_store 75) (Except.ok (Instr.getfield 205, 3)) := fE fw_dX8_store_62_c 7 rfl
theorem dX8_store_78 : Eq (decode cX8_store 78) (Except.ok (Instr.ireturn, 1)) := fE fw_dX8_store_62_c 8 rfl
set_option maxRecDepth 20000 in
theorem gi_wsX8_place_0 : GoodIn wsX8_place wsX8_place := goodIn_sub (fun _ h => h) (by decide +kernel)
set_option maxRecDepth 20000 in
theorem gi_wsX8_place_1 : GoodIn wsX8_place wsX80 := goodIn_sub (fun w h => List.mem_cons_of_mem _ (List.mem_append_right _ h)) (by decide +kernel)
def bs_wsX8_place : List (List Cond) := [wsX8_place, wsX80]
theorem bs_wsX8_place_in : ∀ b ∈ bs_wsX8_place, GoodIn wsX8_place b := List.forall_mem_cons.mpr ⟨gi_wsX8_place_0, List.forall_mem_cons.mpr ⟨gi_wsX8_place_1, (fun _ h => absurd h List.not_mem_nil)⟩⟩
set_option maxRecDepth 20000 in
theorem ggX8_place_X8_isInstruction : GoodIn wsX8_place wsX8_isInstruction := goodIn_k (gi_q bs_wsX8_place_in _ [(0, 7)] rfl) (gi_q bs_wsX8_place_in _ [] rfl)
set_option maxRecDepth 20000 in
theorem gX8_place_X8_isInstruction : GoodIn wsX8_place (va_wsS RX8 157 yX8_isInstruction wsX8_isInstruction) := goodIn_app (gi_q bs_wsX8_place_in _ [(0, 4), (0, 5), (0, 6)] rfl) ggX8_place_X8_isInstruction
set_option maxRecDepth 20000 in
theorem ggX8_place_X8_no : GoodIn wsX8_place wsX8_no := goodIn_k (gi_q bs_wsX8_place_in _ [(0, 11)] rfl) (goodIn_app (gi_q bs_wsX8_place_in _ [(0, 12)] rfl) (gi_wsX8_place_1))
set_option maxRecDepth 20000 in
theorem gX8_place_X8_no : GoodIn wsX8_place (wsV RX8 122 RX8 yX8_no wsX8_no) := goodIn_app (gi_q bs_wsX8_place_in _ [(0, 8), (0, 9), (0, 10), (0, 6)] rfl) ggX8_place_X8_no
set_option maxRecDepth 20000 in
theorem ggX8_place_X8_isIn : GoodIn wsX8_place wsX8_isIn := goodIn_k (gi_q bs_wsX8_place_in _ [(0, 15)] rfl) (gi_q bs_wsX8_place_in _ [] rfl)
set_option maxRecDepth 20000 in
theorem gX8_place_X8_isIn : GoodIn wsX8_place (va_wsS RX8 128 yX8_isIn wsX8_isIn) := goodIn_app (gi_q bs_wsX8_place_in _ [(0, 13), (0, 14), (0, 6)] rfl) ggX8_place_X8_isIn
def fw_dX8_place_0 : List (Nat × Instr × Nat) := [(0, .iload_n 1, 1), (1, .invokestatic 157, 3), (4, .ifCond .ne 10, 3), (7, .aload_n 0, 1), (8, .bipush (-3), 2), (10, .invokevirtual 122, 3), (13, .ireturn, 1), (14, .aload_n 0, 1), (15, .getfield 164, 3), (18, .ifCond .ne 10, 3), (21, .aload_n 0, 1), (22, .bipush (-2), 2), (24, .invokevirtual 122, 3), (27, .ireturn, 1), (28, .iload_n 2, 1), (29, .i2l, 1), (30, .lconst 0, 1), (31, .aload_n 0, 1), (32, .getfield 57, 3), (35, .iload_n 1, 1)]
theorem fw_dX8_place_0_c : fchk 0 (cX8_place.data.toList.drop 0) fw_dX8_place_0 = true := by decide +kernel
theorem dX8_place_0 : Eq (decode cX8_place 0) (Except.ok (Instr.iload_n 1, 1)) := fE fw_dX8_place_0_c 0 rfl
theorem dX8_place_1 : Eq (decode cX8_place 1) (Except.ok (Instr.invokestatic 157, 3)) := fE fw_dX8_place_0_c 1 rfl
theorem dX8_place_4 : Eq (decode cX8_place 4) (Except.ok (Instr.ifCond .ne 10, 3)) := fE fw_dX8_place_0_c 2 rfl
theorem dX8_place_7 : Eq (decode cX8_place 7) (Except.ok (Instr.aload_n 0, 1)) := fE fw_dX8_place_0_c 3 rfl
theorem dX8_place_8 : Eq (decode cX8_place 8) (Except.ok (Instr.bipush (-3), 2)) := fE fw_dX8_place_0_c 4 rfl
theorem dX8_place_10 : Eq (decode cX8_place 10) (Except.ok (Instr.invokevirtual 122, 3)) := fE fw_dX8_place_0_c 5 rfl
theorem dX8_place_13 : Eq (decode cX8_place 13) (Except.ok (Instr.ireturn, 1)) := fE fw_dX8_place_0_c 6 rfl
theorem dX8_place_14 : Eq (decode cX8_place 14) (Except.ok (Instr.aload_n 0, 1)) := fE fw_dX8_place_0_c 7 rfl
theorem dX8_place_15 : Eq (decode cX8_place 15) (Except.ok (Instr.getfield 164, 3)) := fE fw_dX8_place_0_c 8 rfl
theorem dX8_place_18 : Eq (decode cX8_place 18) (Except.ok (Instr.ifCond .ne 10, 3)) := fE fw_dX8_place_0_c 9 rfl
theorem dX8_place_21 : Eq (decode cX8_place 21) (Except.ok (Instr.aload_n 0, 1)) := fE fw_dX8_place_0_c 10 rfl
theorem dX8_place_22 : Eq (decode cX8_place 22) (Except.ok (Instr.bipush (-2), 2)) := fE fw_dX8_place_0_c 11 rfl
theorem dX8_place_24 : Eq (decode cX8_place 24) (Except.ok (Instr.invokevirtual 122, 3)) := fE fw_dX8_place_0_c 12 rfl
theorem dX8_place_27 : Eq (decode cX8_place 27) (Except.ok (Instr.ireturn, 1)) := fE fw_dX8_place_0_c 13 rfl
theorem dX8_place_28 : Eq (decode cX8_place 28) (Except.ok (Instr.iload_n 2, 1)) := fE fw_dX8_place_0_c 14 rfl
theorem dX8_place_29 : Eq (decode cX8_place 29) (Except.ok (Instr.i2l, 1)) := fE fw_dX8_place_0_c 15 rfl
theorem dX8_place_30 : Eq (decode cX8_place 30) (Except.ok (Instr.lconst 0, 1)) := fE fw_dX8_place_0_c 16 rfl
theorem dX8_place_31 : Eq (decode cX8_place 31) (Except.ok (Instr.aload_n 0, 1)) := fE fw_dX8_place_0_c 17 rfl
theorem dX8_place_32 : Eq (decode cX8_place 32) (Except.ok (Instr.getfield 57, 3)) := fE fw_dX8_place_0_c 18 rfl
theorem dX8_place_35 : Eq (decode cX8_place 35) (Except.ok (Instr.iload_n 1, 1)) := fE fw_dX8_place_0_c 19 rfl
def fw_dX8_place_36 : List (Nat × Instr × Nat) := [(36, .iaload, 1), (37, .iconst 1, 1), (38, .isub, 1), (39, .i2l, 1), (40, .invokestatic 128, 3), (43, .ifCond .eq 17, 3), (46, .aload_n 0, 1), (47, .getfield 82, 3), (50, .bipush 10, 2), (52, .iload_n 1, 1), (53, .imul, 1), (54, .iload_n 2, 1), (55, .iadd, 1), (56, .iaload, 1), (57, .goto 9, 3), (60, .aload_n 0, 1), (61, .bipush (-3), 2), (63, .invokevirtual 122, 3), (66, .ireturn, 1)]
theorem fw_dX8_place_36_c : fchk 36 (cX8_place.data.toList.drop 36) fw_dX8_place_36 = true := by decide +kernel
theorem dX8_place_36 : Eq (decode cX8_place 36) (Except.ok (Instr.iaload, 1)) := fE fw_dX8_place_36_c 0 rfl
theorem dX8_place_37 : Eq (decode cX8_place 37) (Except.ok (Instr.iconst 1, 1)) := fE fw_dX8_place_36_c 1 rfl
theorem dX8_place_38 : Eq (decode cX8_place 38) (Except.ok (Instr.isub, 1)) := fE fw_dX8_place_36_c 2 rfl
theorem dX8_place_39 : Eq (decode cX8_place 39) (Except.ok (Instr.i2l, 1)) := fE fw_dX8_place_36_c 3 rfl
theorem dX8_place_40 : Eq (decode cX8_place 40) (Except.ok (Instr.invokestatic 128, 3)) := fE fw_dX8_place_36_c 4 rfl
theorem dX8_place_43 : Eq (decode cX8_place 43) (Except.ok (Instr.ifCond .eq 17, 3)) := fE fw_dX8_place_36_c 5 rfl
theorem dX8_place_46 : Eq (decode cX8_place 46) (Except.ok (Instr.aload_n 0, 1)) := fE fw_dX8_place_36_c 6 rfl
theorem dX8_place_47 : Eq (decode cX8_place 47) (Except.ok (Instr.getfield 82, 3)) := fE fw_dX8_place_36_c 7 rfl
theorem dX8_place_50 : Eq (decode cX8_place 50) (Except.ok (Instr.bipush 10, 2)) := fE fw_dX8_place_36_c 8 rfl
theorem dX8_place_52 : Eq (decode cX8_place 52) (Except.ok (Instr.iload_n 1, 1)) := fE fw_dX8_place_36_c 9 rfl
theorem dX8_place_53 : Eq (decode cX8_place 53) (Except.ok (Instr.imul, 1)) := fE fw_dX8_place_36_c 10 rfl
theorem dX8_place_54 : Eq (decode cX8_place 54) (Except.ok (Instr.iload_n 2, 1)) := fE fw_dX8_place_36_c 11 rfl
theorem dX8_place_55 : Eq (decode cX8_place 55) (Except.ok (Instr.iadd, 1)) := fE fw_dX8_place_36_c 12 rfl
theorem dX8_place_56 : Eq (decode cX8_place 56) (Except.ok (Instr.iaload, 1)) := fE fw_dX8_place_36_c 13 rfl
theorem dX8_place_57 : Eq (decode cX8_place 57) (Except.ok (Instr.goto 9, 3)) := fE fw_dX8_place_36_c 14 rfl
theorem dX8_place_60 : Eq (decode cX8_place 60) (Except.ok (Instr.aload_n 0, 1)) := fE fw_dX8_place_36_c 15 rfl
theorem dX8_place_61 : Eq (decode cX8_place 61) (Except.ok (Instr.bipush (-3), 2)) := fE fw_dX8_place_36_c 16 rfl
theorem dX8_place_63 : Eq (decode cX8_place 63) (Except.ok (Instr.invokevirtual 122, 3)) := fE fw_dX8_place_36_c 17 rfl
theorem dX8_place_66 : Eq (decode cX8_place 66) (Except.ok (Instr.ireturn, 1)) := fE fw_dX8_place_36_c 18 rfl
set_option maxRecDepth 20000 in
theorem gi_wsX8_actsAt_0 : GoodIn wsX8_actsAt wsX8_actsAt := goodIn_sub (fun _ h => h) (by decide +kernel)
set_option maxRecDepth 20000 in
theorem gi_wsX8_actsAt_1 : GoodIn wsX8_actsAt wsX80 := goodIn_sub (fun w h => List.mem_cons_of_mem _ (List.mem_append_right _ h)) (by decide +kernel)
def bs_wsX8_actsAt : List (List Cond) := [wsX8_actsAt, wsX80]
theorem bs_wsX8_actsAt_in : ∀ b ∈ bs_wsX8_actsAt, GoodIn wsX8_actsAt b := List.forall_mem_cons.mpr ⟨gi_wsX8_actsAt_0, List.forall_mem_cons.mpr ⟨gi_wsX8_actsAt_1, (fun _ h => absurd h List.not_mem_nil)⟩⟩
set_option maxRecDepth 20000 in
theorem ggX8_actsAt_X8_actOf : GoodIn wsX8_actsAt wsX8_actOf := goodIn_k (gi_q bs_wsX8_actsAt_in _ [(0, 7)] rfl) (goodIn_app (gi_q bs_wsX8_actsAt_in _ [(0, 8), (0, 9)] rfl) (gi_wsX8_actsAt_1))
set_option maxRecDepth 20000 in
theorem gX8_actsAt_X8_actOf : GoodIn wsX8_actsAt (wsV RX8 198 RX8 yX8_actOf wsX8_actOf) := goodIn_app (gi_q bs_wsX8_actsAt_in _ [(0, 3), (0, 4), (0, 5), (0, 6)] rfl) ggX8_actsAt_X8_actOf
def fw_dX8_actsAt_0 : List (Nat × Instr × Nat) := [(0, .iconst 0, 1), (1, .istore_n 2, 1), (2, .aload_n 0, 1), (3, .aload_n 0, 1), (4, .getfield 70, 3), (7, .iload_n 1, 1), (8, .iaload, 1), (9, .aload_n 0, 1), (10, .getfield 73, 3), (13, .iload_n 1, 1), (14, .iaload, 1), (15, .iload_n 2, 1), (16, .invokevirtual 198, 3), (19, .ifCond .lt 9, 3)]
theorem fw_dX8_actsAt_0_c : fchk 0 (cX8_actsAt.data.toList.drop 0) fw_dX8_actsAt_0 = true := by decide +kernel
theorem dX8_actsAt_0 : Eq (decode cX8_actsAt 0) (Except.ok (Instr.iconst 0, 1)) := fE fw_dX8_actsAt_0_c 0 rfl
theorem dX8_actsAt_1 : Eq (decode cX8_actsAt 1) (Except.ok (Instr.istore_n 2, 1)) := fE fw_dX8_actsAt_0_c 1 rfl
theorem dX8_actsAt_2 : Eq (decode cX8_actsAt 2) (Except.ok (Instr.aload_n 0, 1)) := fE fw_dX8_actsAt_0_c 2 rfl
theorem dX8_actsAt_3 : Eq (decode cX8_actsAt 3) (Except.ok (Instr.aload_n 0, 1)) := fE fw_dX8_actsAt_0_c 3 rfl
theorem dX8_actsAt_4 : Eq (decode cX8_actsAt 4) (Except.ok (Instr.getfield 70, 3)) := fE fw_dX8_actsAt_0_c 4 rfl
theorem dX8_actsAt_7 : Eq (decode cX8_actsAt 7) (Except.ok (Instr.iload_n 1, 1)) := fE fw_dX8_actsAt_0_c 5 rfl
theorem dX8_actsAt_8 : Eq (decode cX8_actsAt 8) (Except.ok (Instr.iaload, 1)) := fE fw_dX8_actsAt_0_c 6 rfl
theorem dX8_actsAt_9 : Eq (decode cX8_actsAt 9) (Except.ok (Instr.aload_n 0, 1)) := fE fw_dX8_actsAt_0_c 7 rfl
theorem dX8_actsAt_10 : Eq (decode cX8_actsAt 10) (Except.ok (Instr.getfield 73, 3)) := fE fw_dX8_actsAt_0_c 8 rfl
theorem dX8_actsAt_13 : Eq (decode cX8_actsAt 13) (Except.ok (Instr.iload_n 1, 1)) := fE fw_dX8_actsAt_0_c 9 rfl
theorem dX8_actsAt_14 : Eq (decode cX8_actsAt 14) (Except.ok (Instr.iaload, 1)) := fE fw_dX8_actsAt_0_c 10 rfl
theorem dX8_actsAt_15 : Eq (decode cX8_actsAt 15) (Except.ok (Instr.iload_n 2, 1)) := fE fw_dX8_actsAt_0_c 11 rfl
theorem dX8_actsAt_16 : Eq (decode cX8_actsAt 16) (Except.ok (Instr.invokevirtual 198, 3)) := fE fw_dX8_actsAt_0_c 12 rfl
theorem dX8_actsAt_19 : Eq (decode cX8_actsAt 19) (Except.ok (Instr.ifCond .lt 9, 3)) := fE fw_dX8_actsAt_0_c 13 rfl
theorem dX8_actsAt_22 : decode cX8_actsAt 22 = .ok (.iinc 2 1, 3) := by decide +kernel
def fw_dX8_actsAt_25 : List (Nat × Instr × Nat) := [(25, .goto (-23), 3), (28, .iload_n 2, 1), (29, .ireturn, 1)]
theorem fw_dX8_actsAt_25_c : fchk 25 (cX8_actsAt.data.toList.drop 25) fw_dX8_actsAt_25 = true := by decide +kernel
theorem dX8_actsAt_25 : Eq (decode cX8_actsAt 25) (Except.ok (Instr.goto (-23), 3)) := fE fw_dX8_actsAt_25_c 0 rfl
theorem dX8_actsAt_28 : Eq (decode cX8_actsAt 28) (Except.ok (Instr.iload_n 2, 1)) := fE fw_dX8_actsAt_25_c 1 rfl
theorem dX8_actsAt_29 : Eq (decode cX8_actsAt 29) (Except.ok (Instr.ireturn, 1)) := fE fw_dX8_actsAt_25_c 2 rfl
set_option maxRecDepth 20000 in
theorem gi_wsX8_at_0 : GoodIn wsX8_at wsX8_at_r1 := goodIn_sub (fun w h => List.mem_cons_of_mem _ (List.mem_append_left _ (List.mem_append_left _ h))) (by decide +kernel)
set_option maxRecDepth 20000 in
theorem gi_wsX8_at_1 : GoodIn wsX8_at wsX8_at_r2 := goodIn_sub (fun w h => List.mem_cons_of_mem _ (List.mem_append_left _ (List.mem_append_right _ h))) (by decide +kernel)
set_option maxRecDepth 20000 in
theorem gi_wsX8_at_2 : GoodIn wsX8_at wsX80 := goodIn_sub (fun w h => List.mem_cons_of_mem _ (List.mem_append_right _ h)) (by decide +kernel)
def bs_wsX8_at : List (List Cond) := [wsX8_at_r1, wsX8_at_r2, wsX80]
theorem bs_wsX8_at_in : ∀ b ∈ bs_wsX8_at, GoodIn wsX8_at b := List.forall_mem_cons.mpr ⟨gi_wsX8_at_0, List.forall_mem_cons.mpr ⟨gi_wsX8_at_1, List.forall_mem_cons.mpr ⟨gi_wsX8_at_2, (fun _ h => absurd h List.not_mem_nil)⟩⟩⟩
set_option maxRecDepth 20000 in
theorem ggX8_at_X8_no : GoodIn wsX8_at wsX8_no := goodIn_k (gi_q bs_wsX8_at_in _ [(0, 8)] rfl) (goodIn_app (gi_q bs_wsX8_at_in _ [(0, 9)] rfl) (gi_wsX8_at_2))
set_option maxRecDepth 20000 in
theorem gX8_at_X8_no : GoodIn wsX8_at (wsV RX8 122 RX8 yX8_no wsX8_no) := goodIn_app (gi_q bs_wsX8_at_in _ [(0, 4), (0, 5), (0, 6), (0, 7)] rfl) ggX8_at_X8_no
set_option maxRecDepth 20000 in
theorem ggX8_at_X8_isIn : GoodIn wsX8_at wsX8_isIn := goodIn_k (gi_q bs_wsX8_at_in _ [(0, 12)] rfl) (gi_q bs_wsX8_at_in _ [] rfl)
set_option maxRecDepth 20000 in
theorem gX8_at_X8_isIn : GoodIn wsX8_at (va_wsS RX8 128 yX8_isIn wsX8_isIn) := goodIn_app (gi_q bs_wsX8_at_in _ [(0, 10), (0, 11), (0, 7)] rfl) ggX8_at_X8_isIn
set_option maxRecDepth 20000 in
theorem ggX8_at_X8_actsAt : GoodIn wsX8_at wsX8_actsAt := goodIn_k (gi_q bs_wsX8_at_in _ [(0, 16)] rfl) (goodIn_app (gi_q bs_wsX8_at_in _ [(0, 17), (0, 18), (0, 19), (0, 20), (0, 21), (0, 7), (0, 22), (0, 23), (1, 0)] rfl) (gi_wsX8_at_2))
set_option maxRecDepth 20000 in
theorem gX8_at_X8_actsAt : GoodIn wsX8_at (wsV RX8 217 RX8 yX8_actsAt wsX8_actsAt) := goodIn_app (gi_q bs_wsX8_at_in _ [(0, 13), (0, 14), (0, 15), (0, 7)] rfl) ggX8_at_X8_actsAt
def fw_dX8_at_0 : List (Nat × Instr × Nat) := [(0, .aload_n 0, 1), (1, .getfield 164, 3), (4, .ifCond .ne 10, 3), (7, .aload_n 0, 1), (8, .bipush (-2), 2), (10, .invokevirtual 122, 3), (13, .ireturn, 1), (14, .iload_n 1, 1), (15, .i2l, 1), (16, .lconst 0, 1), (17, .aload_n 0, 1), (18, .getfield 205, 3), (21, .iconst 1, 1), (22, .isub, 1), (23, .i2l, 1), (24, .invokestatic 128, 3), (27, .ifCond .ne 10, 3), (30, .aload_n 0, 1), (31, .bipush (-3), 2), (33, .invokevirtual 122, 3)]
theorem fw_dX8_at_0_c : fchk 0 (cX8_at.data.toList.drop 0) fw_dX8_at_0 = true := by decide +kernel
theorem dX8_at_0 : Eq (decode cX8_at 0) (Except.ok (Instr.aload_n 0, 1)) := fE fw_dX8_at_0_c 0 rfl
theorem dX8_at_1 : Eq (decode cX8_at 1) (Except.ok (Instr.getfield 164, 3)) := fE fw_dX8_at_0_c 1 rfl
theorem dX8_at_4 : Eq (decode cX8_at 4) (Except.ok (Instr.ifCond .ne 10, 3)) := fE fw_dX8_at_0_c 2 rfl
theorem dX8_at_7 : Eq (decode cX8_at 7) (Except.ok (Instr.aload_n 0, 1)) := fE fw_dX8_at_0_c 3 rfl
theorem dX8_at_8 : Eq (decode cX8_at 8) (Except.ok (Instr.bipush (-2), 2)) := fE fw_dX8_at_0_c 4 rfl
theorem dX8_at_10 : Eq (decode cX8_at 10) (Except.ok (Instr.invokevirtual 122, 3)) := fE fw_dX8_at_0_c 5 rfl
theorem dX8_at_13 : Eq (decode cX8_at 13) (Except.ok (Instr.ireturn, 1)) := fE fw_dX8_at_0_c 6 rfl
theorem dX8_at_14 : Eq (decode cX8_at 14) (Except.ok (Instr.iload_n 1, 1)) := fE fw_dX8_at_0_c 7 rfl
theorem dX8_at_15 : Eq (decode cX8_at 15) (Except.ok (Instr.i2l, 1)) := fE fw_dX8_at_0_c 8 rfl
theorem dX8_at_16 : Eq (decode cX8_at 16) (Except.ok (Instr.lconst 0, 1)) := fE fw_dX8_at_0_c 9 rfl
theorem dX8_at_17 : Eq (decode cX8_at 17) (Except.ok (Instr.aload_n 0, 1)) := fE fw_dX8_at_0_c 10 rfl
theorem dX8_at_18 : Eq (decode cX8_at 18) (Except.ok (Instr.getfield 205, 3)) := fE fw_dX8_at_0_c 11 rfl
theorem dX8_at_21 : Eq (decode cX8_at 21) (Except.ok (Instr.iconst 1, 1)) := fE fw_dX8_at_0_c 12 rfl
theorem dX8_at_22 : Eq (decode cX8_at 22) (Except.ok (Instr.isub, 1)) := fE fw_dX8_at_0_c 13 rfl
theorem dX8_at_23 : Eq (decode cX8_at 23) (Except.ok (Instr.i2l, 1)) := fE fw_dX8_at_0_c 14 rfl
theorem dX8_at_24 : Eq (decode cX8_at 24) (Except.ok (Instr.invokestatic 128, 3)) := fE fw_dX8_at_0_c 15 rfl
theorem dX8_at_27 : Eq (decode cX8_at 27) (Except.ok (Instr.ifCond .ne 10, 3)) := fE fw_dX8_at_0_c 16 rfl
theorem dX8_at_30 : Eq (decode cX8_at 30) (Except.ok (Instr.aload_n 0, 1)) := fE fw_dX8_at_0_c 17 rfl
theorem dX8_at_31 : Eq (decode cX8_at 31) (Except.ok (Instr.bipush (-3), 2)) := fE fw_dX8_at_0_c 18 rfl
theorem dX8_at_33 : Eq (decode cX8_at 33) (Except.ok (Instr.invokevirtual 122, 3)) := fE fw_dX8_at_0_c 19 rfl
def fw_dX8_at_36 : List (Nat × Instr × Nat) := [(36, .ireturn, 1), (37, .iload_n 2, 1)]
theorem fw_dX8_at_36_c : fchk 36 (cX8_at.data.toList.drop 36) fw_dX8_at_36 = true := by decide +kernel
theorem dX8_at_36 : Eq (decode cX8_at 36) (Except.ok (Instr.ireturn, 1)) := fE fw_dX8_at_36_c 0 rfl
theorem dX8_at_37 : Eq (decode cX8_at 37) (Except.ok (Instr.iload_n 2, 1)) := fE fw_dX8_at_36_c 1 rfl
theorem dX8_at_38 : decode cX8_at 38 = .ok (.tableswitch 46 0 2 #[26, 32, 39], 26) := by decide +kernel
def fw_dX8_at_64 : List (Nat × Instr × Nat) := [(64, .aload_n 0, 1), (65, .iload_n 1, 1), (66, .invokevirtual 217, 3), (69, .ireturn, 1), (70, .aload_n 0, 1), (71, .getfield 76, 3), (74, .iload_n 1, 1), (75, .iaload, 1), (76, .ireturn, 1), (77, .aload_n 0, 1), (78, .getfield 79, 3), (81, .iload_n 1, 1), (82, .iaload, 1), (83, .ireturn, 1), (84, .aload_n 0, 1), (85, .bipush (-6), 2), (87, .invokevirtual 122, 3), (90, .ireturn, 1)]
theorem fw_dX8_at_64_c : fchk 64 (cX8_at.data.toList.drop 64) fw_dX8_at_64 = true := by decide +kernel
theorem dX8_at_64 : Eq (decode cX8_at 64) (Except.ok (Instr.aload_n 0, 1)) := fE fw_dX8_at_64_c 0 rfl
theorem dX8_at_65 : Eq (decode cX8_at 65) (Except.ok (Instr.iload_n 1, 1)) := fE fw_dX8_at_64_c 1 rfl
theorem dX8_at_66 : Eq (decode cX8_at 66) (Except.ok (Instr.invokevirtual 217, 3)) := fE fw_dX8_at_64_c 2 rfl
theorem dX8_at_69 : Eq (decode cX8_at 69) (Except.ok (Instr.ireturn, 1)) := fE fw_dX8_at_64_c 3 rfl
theorem dX8_at_70 : Eq (decode cX8_at 70) (Except.ok (Instr.aload_n 0, 1)) := fE fw_dX8_at_64_c 4 rfl
theorem dX8_at_71 : Eq (decode cX8_at 71) (Except.ok (Instr.getfield 76, 3)) := fE fw_dX8_at_64_c 5 rfl
theorem dX8_at_74 : Eq (decode cX8_at 74) (Except.ok (Instr.iload_n 1, 1)) := fE fw_dX8_at_64_c 6 rfl
theorem dX8_at_75 : Eq (decode cX8_at 75) (Except.ok (Instr.iaload, 1)) := fE fw_dX8_at_64_c 7 rfl
theorem dX8_at_76 : Eq (decode cX8_at 76) (Except.ok (Instr.ireturn, 1)) := fE fw_dX8_at_64_c 8 rfl
theorem dX8_at_77 : Eq (decode cX8_at 77) (Except.ok (Instr.aload_n 0, 1)) := fE fw_dX8_at_64_c 9 rfl
theorem dX8_at_78 : Eq (decode cX8_at 78) (Except.ok (Instr.getfield 79, 3)) := fE fw_dX8_at_64_c 10 rfl
theorem dX8_at_81 : Eq (decode cX8_at 81) (Except.ok (Instr.iload_n 1, 1)) := fE fw_dX8_at_64_c 11 rfl
theorem dX8_at_82 : Eq (decode cX8_at 82) (Except.ok (Instr.iaload, 1)) := fE fw_dX8_at_64_c 12 rfl
theorem dX8_at_83 : Eq (decode cX8_at 83) (Except.ok (Instr.ireturn, 1)) := fE fw_dX8_at_64_c 13 rfl
theorem dX8_at_84 : Eq (decode cX8_at 84) (Except.ok (Instr.aload_n 0, 1)) := fE fw_dX8_at_64_c 14 rfl
theorem dX8_at_85 : Eq (decode cX8_at 85) (Except.ok (Instr.bipush (-6), 2)) := fE fw_dX8_at_64_c 15 rfl
theorem dX8_at_87 : Eq (decode cX8_at 87) (Except.ok (Instr.invokevirtual 122, 3)) := fE fw_dX8_at_64_c 16 rfl
theorem dX8_at_90 : Eq (decode cX8_at 90) (Except.ok (Instr.ireturn, 1)) := fE fw_dX8_at_64_c 17 rfl
set_option maxRecDepth 20000 in
theorem gi_wsX8_findFields_0 : GoodIn wsX8_findFields wsX8_findFields_r1 := goodIn_sub (fun w h => List.mem_cons_of_mem _ (List.mem_append_left _ (List.mem_append_left _ h))) (by decide +kernel)
set_option maxRecDepth 20000 in
theorem gi_wsX8_findFields_1 : GoodIn wsX8_findFields wsX8_findFields_r2 := goodIn_sub (fun w h => List.mem_cons_of_mem _ (List.mem_append_left _ (List.mem_append_right _ h))) (by decide +kernel)
set_option maxRecDepth 20000 in
theorem gi_wsX8_findFields_2 : GoodIn wsX8_findFields wsX80 := goodIn_sub (fun w h => List.mem_cons_of_mem _ (List.mem_append_right _ h)) (by decide +kernel)
def bs_wsX8_findFields : List (List Cond) := [wsX8_findFields_r1, wsX8_findFields_r2, wsX80]
theorem bs_wsX8_findFields_in : ∀ b ∈ bs_wsX8_findFields, GoodIn wsX8_findFields b := List.forall_mem_cons.mpr ⟨gi_wsX8_findFields_0, List.forall_mem_cons.mpr ⟨gi_wsX8_findFields_1, List.forall_mem_cons.mpr ⟨gi_wsX8_findFields_2, (fun _ h => absurd h List.not_mem_nil)⟩⟩⟩
set_option maxRecDepth 20000 in
theorem ggX8_findFields_X8_actsAt : GoodIn wsX8_findFields wsX8_actsAt := goodIn_k (gi_q bs_wsX8_findFields_in _ [(0, 11)] rfl) (goodIn_app (gi_q bs_wsX8_findFields_in _ [(0, 4), (0, 5), (0, 12), (0, 13), (0, 14), (0, 10), (0, 15), (0, 16), (0, 17)] rfl) (gi_wsX8_findFields_2))
set_option maxRecDepth 20000 in
theorem gX8_findFields_X8_actsAt : GoodIn wsX8_findFields (wsV RX8 217 RX8 yX8_actsAt wsX8_actsAt) := goodIn_app (gi_q bs_wsX8_findFields_in _ [(0, 7), (0, 8), (0, 9), (0, 10)] rfl) ggX8_findFields_X8_actsAt
set_option maxRecDepth 20000 in
theorem ggX8_findFields_X8_actOf : GoodIn wsX8_findFields wsX8_actOf := goodIn_k (gi_q bs_wsX8_findFields_in _ [(0, 15)] rfl) (goodIn_app (gi_q bs_wsX8_findFields_in _ [(0, 16), (0, 17)] rfl) (gi_wsX8_findFields_2))
set_option maxRecDepth 20000 in
theorem gX8_findFields_X8_actOf : GoodIn wsX8_findFields (wsV RX8 198 RX8 yX8_actOf wsX8_actOf) := goodIn_app (gi_q bs_wsX8_findFields_in _ [(0, 12), (0, 13), (0, 14), (0, 10)] rfl) ggX8_findFields_X8_actOf
set_option maxRecDepth 20000 in
theorem ggX8_findFields_X8_partOf : GoodIn wsX8_findFields wsX8_partOf := goodIn_k (gi_q bs_wsX8_findFields_in _ [(0, 20)] rfl) (gi_q bs_wsX8_findFields_in _ [] rfl)
set_option maxRecDepth 20000 in
theorem gX8_findFields_X8_partOf : GoodIn wsX8_findFields (va_wsS RX8 172 yX8_partOf wsX8_partOf) := goodIn_app (gi_q bs_wsX8_findFields_in _ [(0, 18), (0, 19), (0, 10)] rfl) ggX8_findFields_X8_partOf
set_option maxRecDepth 20000 in
theorem ggX8_findFields_X8_isNew : GoodIn wsX8_findFields wsX8_isNew := goodIn_k (gi_q bs_wsX8_findFields_in _ [(1, 0)] rfl) (goodIn_app (gi_q bs_wsX8_findFields_in _ [(0, 3), (1, 1), (1, 2), (1, 3), (0, 10), (1, 4), (0, 6), (1, 5), (1, 6), (1, 7)] rfl) (gi_wsX8_findFields_2))
set_option maxRecDepth 20000 in
theorem gX8_findFields_X8_isNew : GoodIn wsX8_findFields (wsV RX8 220 RX8 yX8_isNew wsX8_isNew) := goodIn_app (gi_q bs_wsX8_findFields_in _ [(0, 21), (0, 22), (0, 23), (0, 10)] rfl) ggX8_findFields_X8_isNew
set_option maxRecDepth 20000 in
theorem ggX8_findFields_X8_findGroups : GoodIn wsX8_findFields wsX8_findGroups := goodIn_k (gi_q bs_wsX8_findFields_in _ [(1, 11)] rfl) (goodIn_app (gi_q bs_wsX8_findFields_in _ [(1, 12), (1, 13), (0, 0), (1, 14), (1, 15), (1, 16), (1, 17), (0, 10), (1, 18), (0, 1)] rfl) (gi_wsX8_findFields_2))
set_option maxRecDepth 20000 in
theorem gX8_findFields_X8_findGroups : GoodIn wsX8_findFields (wsV RX8 223 RX8 yX8_findGroups wsX8_findGroups) := goodIn_app (gi_q bs_wsX8_findFields_in _ [(1, 8), (1, 9), (1, 10), (0, 10)] rfl) ggX8_findFields_X8_findGroups
def fw_dX8_findFields_0 : List (Nat × Instr × Nat) := [(0, .iconst 0, 1), (1, .istore_n 1, 1), (2, .iload_n 1, 1), (3, .bipush 7, 2), (5, .if_icmp .ge 23, 3), (8, .aload_n 0, 1), (9, .getfield 88, 3), (12, .iload_n 1, 1), (13, .iconst 0, 1), (14, .iastore, 1), (15, .aload_n 0, 1), (16, .getfield 91, 3), (19, .iload_n 1, 1), (20, .iconst 0, 1), (21, .iastore, 1)]
theorem fw_dX8_findFields_0_c : fchk 0 (cX8_findFields.data.toList.drop 0) fw_dX8_findFields_0 = true := by decide +kernel
theorem dX8_findFields_0 : Eq (decode cX8_findFields 0) (Except.ok (Instr.iconst 0, 1)) := fE fw_dX8_findFields_0_c 0 rfl
theorem dX8_findFields_1 : Eq (decode cX8_findFields 1) (Except.ok (Instr.istore_n 1, 1)) := fE fw_dX8_findFields_0_c 1 rfl
theorem dX8_findFields_2 : Eq (decode cX8_findFields 2) (Except.ok (Instr.iload_n 1, 1)) := fE fw_dX8_findFields_0_c 2 rfl
theorem dX8_findFields_3 : Eq (decode cX8_findFields 3) (Except.ok (Instr.bipush 7, 2)) := fE fw_dX8_findFields_0_c 3 rfl
theorem dX8_findFields_5 : Eq (decode cX8_findFields 5) (Except.ok (Instr.if_icmp .ge 23, 3)) := fE fw_dX8_findFields_0_c 4 rfl
theorem dX8_findFields_8 : Eq (decode cX8_findFields 8) (Except.ok (Instr.aload_n 0, 1)) := fE fw_dX8_findFields_0_c 5 rfl
theorem dX8_findFields_9 : Eq (decode cX8_findFields 9) (Except.ok (Instr.getfield 88, 3)) := fE fw_dX8_findFields_0_c 6 rfl
theorem dX8_findFields_12 : Eq (decode cX8_findFields 12) (Except.ok (Instr.iload_n 1, 1)) := fE fw_dX8_findFields_0_c 7 rfl
theorem dX8_findFields_13 : Eq (decode cX8_findFields 13) (Except.ok (Instr.iconst 0, 1)) := fE fw_dX8_findFields_0_c 8 rfl
theorem dX8_findFields_14 : Eq (decode cX8_findFields 14) (Except.ok (Instr.iastore, 1)) := fE fw_dX8_findFields_0_c 9 rfl
theorem dX8_findFields_15 : Eq (decode cX8_findFields 15) (Except.ok (Instr.aload_n 0, 1)) := fE fw_dX8_findFields_0_c 10 rfl
theorem dX8_findFields_16 : Eq (decode cX8_findFields 16) (Except.ok (Instr.getfield 91, 3)) := fE fw_dX8_findFields_0_c 11 rfl
theorem dX8_findFields_19 : Eq (decode cX8_findFields 19) (Except.ok (Instr.iload_n 1, 1)) := fE fw_dX8_findFields_0_c 12 rfl
theorem dX8_findFields_20 : Eq (decode cX8_findFields 20) (Except.ok (Instr.iconst 0, 1)) := fE fw_dX8_findFields_0_c 13 rfl
theorem dX8_findFields_21 : Eq (decode cX8_findFields 21) (Except.ok (Instr.iastore, 1)) := fE fw_dX8_findFields_0_c 14 rfl
theorem dX8_findFields_22 : decode cX8_findFields 22 = .ok (.iinc 1 1, 3) := by decide +kernel
def fw_dX8_findFields_25 : List (Nat × Instr × Nat) := [(25, .goto (-23), 3), (28, .iconst 0, 1), (29, .istore_n 1, 1), (30, .iload_n 1, 1), (31, .aload_n 0, 1), (32, .getfield 205, 3), (35, .if_icmp .ge 226, 3), (38, .iconst 0, 1), (39, .istore_n 2, 1), (40, .iconst 0, 1), (41, .istore_n 3, 1), (42, .iload_n 3, 1), (43, .bipush 7, 2), (45, .if_icmp .ge 21, 3), (48, .aload_n 0, 1), (49, .getfield 85, 3), (52, .bipush 7, 2), (54, .iload_n 1, 1), (55, .imul, 1), (56, .iload_n 3, 1)]
theorem fw_dX8_findFields_25_c : fchk 25 (cX8_findFields.data.toList.drop 25) fw_dX8_findFields_25 = true := by decide +kernel
theorem dX8_findFields_25 : Eq (decode cX8_findFields 25) (Except.ok (Instr.goto (-23), 3)) := fE fw_dX8_findFields_25_c 0 rfl
theorem dX8_findFields_28 : Eq (decode cX8_findFields 28) (Except.ok (Instr.iconst 0, 1)) := fE fw_dX8_findFields_25_c 1 rfl
theorem dX8_findFields_29 : Eq (decode cX8_findFields 29) (Except.ok (Instr.istore_n 1, 1)) := fE fw_dX8_findFields_25_c 2 rfl
theorem dX8_findFields_30 : Eq (decode cX8_findFields 30) (Except.ok (Instr.iload_n 1, 1)) := fE fw_dX8_findFields_25_c 3 rfl
theorem dX8_findFields_31 : Eq (decode cX8_findFields 31) (Except.ok (Instr.aload_n 0, 1)) := fE fw_dX8_findFields_25_c 4 rfl
theorem dX8_findFields_32 : Eq (decode cX8_findFields 32) (Except.ok (Instr.getfield 205, 3)) := fE fw_dX8_findFields_25_c 5 rfl
theorem dX8_findFields_35 : Eq (decode cX8_findFields 35) (Except.ok (Instr.if_icmp .ge 226, 3)) := fE fw_dX8_findFields_25_c 6 rfl
theorem dX8_findFields_38 : Eq (decode cX8_findFields 38) (Except.ok (Instr.iconst 0, 1)) := fE fw_dX8_findFields_25_c 7 rfl
theorem dX8_findFields_39 : Eq (decode cX8_findFields 39) (Except.ok (Instr.istore_n 2, 1)) := fE fw_dX8_findFields_25_c 8 rfl
theorem dX8_findFields_40 : Eq (decode cX8_findFields 40) (Except.ok (Instr.iconst 0, 1)) := fE fw_dX8_findFields_25_c 9 rfl
theorem dX8_findFields_41 : Eq (decode cX8_findFields 41) (Except.ok (Instr.istore_n 3, 1)) := fE fw_dX8_findFields_25_c 10 rfl
theorem dX8_findFields_42 : Eq (decode cX8_findFields 42) (Except.ok (Instr.iload_n 3, 1)) := fE fw_dX8_findFields_25_c 11 rfl
theorem dX8_findFields_43 : Eq (decode cX8_findFields 43) (Except.ok (Instr.bipush 7, 2)) := fE fw_dX8_findFields_25_c 12 rfl
theorem dX8_findFields_45 : Eq (decode cX8_findFields 45) (Except.ok (Instr.if_icmp .ge 21, 3)) := fE fw_dX8_findFields_25_c 13 rfl
theorem dX8_findFields_48 : Eq (decode cX8_findFields 48) (Except.ok (Instr.aload_n 0, 1)) := fE fw_dX8_findFields_25_c 14 rfl
theorem dX8_findFields_49 : Eq (decode cX8_findFields 49) (Except.ok (Instr.getfield 85, 3)) := fE fw_dX8_findFields_25_c 15 rfl
theorem dX8_findFields_52 : Eq (decode cX8_findFields 52) (Except.ok (Instr.bipush 7, 2)) := fE fw_dX8_findFields_25_c 16 rfl
theorem dX8_findFields_54 : Eq (decode cX8_findFields 54) (Except.ok (Instr.iload_n 1, 1)) := fE fw_dX8_findFields_25_c 17 rfl
theorem dX8_findFields_55 : Eq (decode cX8_findFields 55) (Except.ok (Instr.imul, 1)) := fE fw_dX8_findFields_25_c 18 rfl
theorem dX8_findFields_56 : Eq (decode cX8_findFields 56) (Except.ok (Instr.iload_n 3, 1)) := fE fw_dX8_findFields_25_c 19 rfl
def fw_dX8_findFields_57 : List (Nat × Instr × Nat) := [(57, .iadd, 1), (58, .iconst (-1), 1), (59, .iastore, 1)]
theorem fw_dX8_findFields_57_c : fchk 57 (cX8_findFields.data.toList.drop 57) fw_dX8_findFields_57 = true := by decide +kernel
theorem dX8_findFields_57 : Eq (decode cX8_findFields 57) (Except.ok (Instr.iadd, 1)) := fE fw_dX8_findFields_57_c 0 rfl
theorem dX8_findFields_58 : Eq (decode cX8_findFields 58) (Except.ok (Instr.iconst (-1), 1)) := fE fw_dX8_findFields_57_c 1 rfl
theorem dX8_findFields_59 : Eq (decode cX8_findFields 59) (Except.ok (Instr.iastore, 1)) := fE fw_dX8_findFields_57_c 2 rfl
theorem dX8_findFields_60 : decode cX8_findFields 60 = .ok (.iinc 3 1, 3) := by decide +kernel
def fw_dX8_findFields_63 : List (Nat × Instr × Nat) := [(63, .goto (-21), 3), (66, .iconst 0, 1), (67, .istore_n 3, 1), (68, .iload_n 3, 1), (69, .aload_n 0, 1), (70, .iload_n 1, 1), (71, .invokevirtual 217, 3), (74, .if_icmp .ge 73, 3), (77, .aload_n 0, 1), (78, .aload_n 0, 1), (79, .getfield 70, 3), (82, .iload_n 1, 1), (83, .iaload, 1), (84, .aload_n 0, 1), (85, .getfield 73, 3), (88, .iload_n 1, 1), (89, .iaload, 1), (90, .iload_n 3, 1), (91, .invokevirtual 198, 3), (94, .istore 4, 2)]
theorem fw_dX8_findFields_63_c : fchk 63 (cX8_findFields.data.toList.drop 63) fw_dX8_findFields_63 = true := by decide +kernel
theorem dX8_findFields_63 : Eq (decode cX8_findFields 63) (Except.ok (Instr.goto (-21), 3)) := fE fw_dX8_findFields_63_c 0 rfl
theorem dX8_findFields_66 : Eq (decode cX8_findFields 66) (Except.ok (Instr.iconst 0, 1)) := fE fw_dX8_findFields_63_c 1 rfl
theorem dX8_findFields_67 : Eq (decode cX8_findFields 67) (Except.ok (Instr.istore_n 3, 1)) := fE fw_dX8_findFields_63_c 2 rfl
theorem dX8_findFields_68 : Eq (decode cX8_findFields 68) (Except.ok (Instr.iload_n 3, 1)) := fE fw_dX8_findFields_63_c 3 rfl
theorem dX8_findFields_69 : Eq (decode cX8_findFields 69) (Except.ok (Instr.aload_n 0, 1)) := fE fw_dX8_findFields_63_c 4 rfl
theorem dX8_findFields_70 : Eq (decode cX8_findFields 70) (Except.ok (Instr.iload_n 1, 1)) := fE fw_dX8_findFields_63_c 5 rfl
theorem dX8_findFields_71 : Eq (decode cX8_findFields 71) (Except.ok (Instr.invokevirtual 217, 3)) := fE fw_dX8_findFields_63_c 6 rfl
theorem dX8_findFields_74 : Eq (decode cX8_findFields 74) (Except.ok (Instr.if_icmp .ge 73, 3)) := fE fw_dX8_findFields_63_c 7 rfl
theorem dX8_findFields_77 : Eq (decode cX8_findFields 77) (Except.ok (Instr.aload_n 0, 1)) := fE fw_dX8_findFields_63_c 8 rfl
theorem dX8_findFields_78 : Eq (decode cX8_findFields 78) (Except.ok (Instr.aload_n 0, 1)) := fE fw_dX8_findFields_63_c 9 rfl
theorem dX8_findFields_79 : Eq (decode cX8_findFields 79) (Except.ok (Instr.getfield 70, 3)) := fE fw_dX8_findFields_63_c 10 rfl
theorem dX8_findFields_82 : Eq (decode cX8_findFields 82) (Except.ok (Instr.iload_n 1, 1)) := fE fw_dX8_findFields_63_c 11 rfl
theorem dX8_findFields_83 : Eq (decode cX8_findFields 83) (Except.ok (Instr.iaload, 1)) := fE fw_dX8_findFields_63_c 12 rfl
theorem dX8_findFields_84 : Eq (decode cX8_findFields 84) (Except.ok (Instr.aload_n 0, 1)) := fE fw_dX8_findFields_63_c 13 rfl
theorem dX8_findFields_85 : Eq (decode cX8_findFields 85) (Except.ok (Instr.getfield 73, 3)) := fE fw_dX8_findFields_63_c 14 rfl
theorem dX8_findFields_88 : Eq (decode cX8_findFields 88) (Except.ok (Instr.iload_n 1, 1)) := fE fw_dX8_findFields_63_c 15 rfl
theorem dX8_findFields_89 : Eq (decode cX8_findFields 89) (Except.ok (Instr.iaload, 1)) := fE fw_dX8_findFields_63_c 16 rfl
theorem dX8_findFields_90 : Eq (decode cX8_findFields 90) (Except.ok (Instr.iload_n 3, 1)) := fE fw_dX8_findFields_63_c 17 rfl
theorem dX8_findFields_91 : Eq (decode cX8_findFields 91) (Except.ok (Instr.invokevirtual 198, 3)) := fE fw_dX8_findFields_63_c 18 rfl
theorem dX8_findFields_94 : Eq (decode cX8_findFields 94) (Except.ok (Instr.istore 4, 2)) := fE fw_dX8_findFields_63_c 19 rfl
def fw_dX8_findFields_96 : List (Nat × Instr × Nat) := [(96, .aload_n 0, 1), (97, .getfield 29, 3), (100, .iload 4, 2), (102, .iaload, 1), (103, .invokestatic 172, 3), (106, .istore 5, 2), (108, .aload_n 0, 1), (109, .getfield 85, 3), (112, .bipush 7, 2), (114, .iload_n 1, 1), (115, .imul, 1), (116, .iload 5, 2), (118, .ifCond .ne 7, 3), (121, .iload_n 2, 1), (122, .goto 7, 3), (125, .iload 5, 2), (127, .iconst 2, 1), (128, .iadd, 1), (129, .iadd, 1), (130, .iload 4, 2)]
theorem fw_dX8_findFields_96_c : fchk 96 (cX8_findFields.data.toList.drop 96) fw_dX8_findFields_96 = true := by decide +kernel
theorem dX8_findFields_96 : Eq (decode cX8_findFields 96) (Except.ok (Instr.aload_n 0, 1)) := fE fw_dX8_findFields_96_c 0 rfl
theorem dX8_findFields_97 : Eq (decode cX8_findFields 97) (Except.ok (Instr.getfield 29, 3)) := fE fw_dX8_findFields_96_c 1 rfl
theorem dX8_findFields_100 : Eq (decode cX8_findFields 100) (Except.ok (Instr.iload 4, 2)) := fE fw_dX8_findFields_96_c 2 rfl
theorem dX8_findFields_102 : Eq (decode cX8_findFields 102) (Except.ok (Instr.iaload, 1)) := fE fw_dX8_findFields_96_c 3 rfl
theorem dX8_findFields_103 : Eq (decode cX8_findFields 103) (Except.ok (Instr.invokestatic 172, 3)) := fE fw_dX8_findFields_96_c 4 rfl
theorem dX8_findFields_106 : Eq (decode cX8_findFields 106) (Except.ok (Instr.istore 5, 2)) := fE fw_dX8_findFields_96_c 5 rfl
theorem dX8_findFields_108 : Eq (decode cX8_findFields 108) (Except.ok (Instr.aload_n 0, 1)) := fE fw_dX8_findFields_96_c 6 rfl
theorem dX8_findFields_109 : Eq (decode cX8_findFields 109) (Except.ok (Instr.getfield 85, 3)) := fE fw_dX8_findFields_96_c 7 rfl
theorem dX8_findFields_112 : Eq (decode cX8_findFields 112) (Except.ok (Instr.bipush 7, 2)) := fE fw_dX8_findFields_96_c 8 rfl
theorem dX8_findFields_114 : Eq (decode cX8_findFields 114) (Except.ok (Instr.iload_n 1, 1)) := fE fw_dX8_findFields_96_c 9 rfl
theorem dX8_findFields_115 : Eq (decode cX8_findFields 115) (Except.ok (Instr.imul, 1)) := fE fw_dX8_findFields_96_c 10 rfl
theorem dX8_findFields_116 : Eq (decode cX8_findFields 116) (Except.ok (Instr.iload 5, 2)) := fE fw_dX8_findFields_96_c 11 rfl
theorem dX8_findFields_118 : Eq (decode cX8_findFields 118) (Except.ok (Instr.ifCond .ne 7, 3)) := fE fw_dX8_findFields_96_c 12 rfl
theorem dX8_findFields_121 : Eq (decode cX8_findFields 121) (Except.ok (Instr.iload_n 2, 1)) := fE fw_dX8_findFields_96_c 13 rfl
theorem dX8_findFields_122 : Eq (decode cX8_findFields 122) (Except.ok (Instr.goto 7, 3)) := fE fw_dX8_findFields_96_c 14 rfl
theorem dX8_findFields_125 : Eq (decode cX8_findFields 125) (Except.ok (Instr.iload 5, 2)) := fE fw_dX8_findFields_96_c 15 rfl
theorem dX8_findFields_127 : Eq (decode cX8_findFields 127) (Except.ok (Instr.iconst 2, 1)) := fE fw_dX8_findFields_96_c 16 rfl
theorem dX8_findFields_128 : Eq (decode cX8_findFields 128) (Except.ok (Instr.iadd, 1)) := fE fw_dX8_findFields_96_c 17 rfl
theorem dX8_findFields_129 : Eq (decode cX8_findFields 129) (Except.ok (Instr.iadd, 1)) := fE fw_dX8_findFields_96_c 18 rfl
theorem dX8_findFields_130 : Eq (decode cX8_findFields 130) (Except.ok (Instr.iload 4, 2)) := fE fw_dX8_findFields_96_c 19 rfl
def fw_dX8_findFields_132 : List (Nat × Instr × Nat) := [(132, .iastore, 1), (133, .iload 5, 2), (135, .ifCond .ne 6, 3)]
theorem fw_dX8_findFields_132_c : fchk 132 (cX8_findFields.data.toList.drop 132) fw_dX8_findFields_132 = true := by decide +kernel
theorem dX8_findFields_132 : Eq (decode cX8_findFields 132) (Except.ok (Instr.iastore, 1)) := fE fw_dX8_findFields_132_c 0 rfl
theorem dX8_findFields_133 : Eq (decode cX8_findFields 133) (Except.ok (Instr.iload 5, 2)) := fE fw_dX8_findFields_132_c 1 rfl
theorem dX8_findFields_135 : Eq (decode cX8_findFields 135) (Except.ok (Instr.ifCond .ne 6, 3)) := fE fw_dX8_findFields_132_c 2 rfl
theorem dX8_findFields_138 : decode cX8_findFields 138 = .ok (.iinc 2 1, 3) := by decide +kernel
theorem dX8_findFields_141 : decode cX8_findFields 141 = .ok (.iinc 3 1, 3) := by decide +kernel
def fw_dX8_findFields_144 : List (Nat × Instr × Nat) := [(144, .goto (-76), 3), (147, .iconst 0, 1), (148, .istore_n 3, 1), (149, .iload_n 3, 1), (150, .bipush 7, 2), (152, .if_icmp .ge 103, 3), (155, .aload_n 0, 1), (156, .getfield 85, 3), (159, .bipush 7, 2), (161, .iload_n 1, 1), (162, .imul, 1), (163, .iload_n 3, 1), (164, .iadd, 1), (165, .iaload, 1), (166, .ifCond .ge 6, 3), (169, .goto 80, 3), (172, .aload_n 0, 1), (173, .getfield 88, 3), (176, .iload_n 3, 1), (177, .dup2, 1)]
theorem fw_dX8_findFields_144_c : fchk 144 (cX8_findFields.data.toList.drop 144) fw_dX8_findFields_144 = true := by decide +kernel
theorem dX8_findFields_144 : Eq (decode cX8_findFields 144) (Except.ok (Instr.goto (-76), 3)) := fE fw_dX8_findFields_144_c 0 rfl
theorem dX8_findFields_147 : Eq (decode cX8_findFields 147) (Except.ok (Instr.iconst 0, 1)) := fE fw_dX8_findFields_144_c 1 rfl
theorem dX8_findFields_148 : Eq (decode cX8_findFields 148) (Except.ok (Instr.istore_n 3, 1)) := fE fw_dX8_findFields_144_c 2 rfl
theorem dX8_findFields_149 : Eq (decode cX8_findFields 149) (Except.ok (Instr.iload_n 3, 1)) := fE fw_dX8_findFields_144_c 3 rfl
theorem dX8_findFields_150 : Eq (decode cX8_findFields 150) (Except.ok (Instr.bipush 7, 2)) := fE fw_dX8_findFields_144_c 4 rfl
theorem dX8_findFields_152 : Eq (decode cX8_findFields 152) (Except.ok (Instr.if_icmp .ge 103, 3)) := fE fw_dX8_findFields_144_c 5 rfl
theorem dX8_findFields_155 : Eq (decode cX8_findFields 155) (Except.ok (Instr.aload_n 0, 1)) := fE fw_dX8_findFields_144_c 6 rfl
theorem dX8_findFields_156 : Eq (decode cX8_findFields 156) (Except.ok (Instr.getfield 85, 3)) := fE fw_dX8_findFields_144_c 7 rfl
theorem dX8_findFields_159 : Eq (decode cX8_findFields 159) (Except.ok (Instr.bipush 7, 2)) := fE fw_dX8_findFields_144_c 8 rfl
theorem dX8_findFields_161 : Eq (decode cX8_findFields 161) (Except.ok (Instr.iload_n 1, 1)) := fE fw_dX8_findFields_144_c 9 rfl
theorem dX8_findFields_162 : Eq (decode cX8_findFields 162) (Except.ok (Instr.imul, 1)) := fE fw_dX8_findFields_144_c 10 rfl
theorem dX8_findFields_163 : Eq (decode cX8_findFields 163) (Except.ok (Instr.iload_n 3, 1)) := fE fw_dX8_findFields_144_c 11 rfl
theorem dX8_findFields_164 : Eq (decode cX8_findFields 164) (Except.ok (Instr.iadd, 1)) := fE fw_dX8_findFields_144_c 12 rfl
theorem dX8_findFields_165 : Eq (decode cX8_findFields 165) (Except.ok (Instr.iaload, 1)) := fE fw_dX8_findFields_144_c 13 rfl
theorem dX8_findFields_166 : Eq (decode cX8_findFields 166) (Except.ok (Instr.ifCond .ge 6, 3)) := fE fw_dX8_findFields_144_c 14 rfl
theorem dX8_findFields_169 : Eq (decode cX8_findFields 169) (Except.ok (Instr.goto 80, 3)) := fE fw_dX8_findFields_144_c 15 rfl
theorem dX8_findFields_172 : Eq (decode cX8_findFields 172) (Except.ok (Instr.aload_n 0, 1)) := fE fw_dX8_findFields_144_c 16 rfl
theorem dX8_findFields_173 : Eq (decode cX8_findFields 173) (Except.ok (Instr.getfield 88, 3)) := fE fw_dX8_findFields_144_c 17 rfl
theorem dX8_findFields_176 : Eq (decode cX8_findFields 176) (Except.ok (Instr.iload_n 3, 1)) := fE fw_dX8_findFields_144_c 18 rfl
theorem dX8_findFields_177 : Eq (decode cX8_findFields 177) (Except.ok (Instr.dup2, 1)) := fE fw_dX8_findFields_144_c 19 rfl
def fw_dX8_findFields_178 : List (Nat × Instr × Nat) := [(178, .iaload, 1), (179, .aload_n 0, 1), (180, .iload_n 1, 1), (181, .iload_n 3, 1), (182, .invokevirtual 220, 3), (185, .ifCond .eq 7, 3), (188, .iconst 1, 1), (189, .goto 4, 3), (192, .iconst 0, 1), (193, .iadd, 1), (194, .iastore, 1), (195, .iconst 0, 1), (196, .istore 4, 2), (198, .iload 4, 2), (200, .bipush 7, 2), (202, .if_icmp .ge 47, 3), (205, .aload_n 0, 1), (206, .getfield 91, 3), (209, .iload_n 3, 1), (210, .dup2, 1)]
theorem fw_dX8_findFields_178_c : fchk 178 (cX8_findFields.data.toList.drop 178) fw_dX8_findFields_178 = true := by decide +kernel
theorem dX8_findFields_178 : Eq (decode cX8_findFields 178) (Except.ok (Instr.iaload, 1)) := fE fw_dX8_findFields_178_c 0 rfl
theorem dX8_findFields_179 : Eq (decode cX8_findFields 179) (Except.ok (Instr.aload_n 0, 1)) := fE fw_dX8_findFields_178_c 1 rfl
theorem dX8_findFields_180 : Eq (decode cX8_findFields 180) (Except.ok (Instr.iload_n 1, 1)) := fE fw_dX8_findFields_178_c 2 rfl
theorem dX8_findFields_181 : Eq (decode cX8_findFields 181) (Except.ok (Instr.iload_n 3, 1)) := fE fw_dX8_findFields_178_c 3 rfl
theorem dX8_findFields_182 : Eq (decode cX8_findFields 182) (Except.ok (Instr.invokevirtual 220, 3)) := fE fw_dX8_findFields_178_c 4 rfl
theorem dX8_findFields_185 : Eq (decode cX8_findFields 185) (Except.ok (Instr.ifCond .eq 7, 3)) := fE fw_dX8_findFields_178_c 5 rfl
theorem dX8_findFields_188 : Eq (decode cX8_findFields 188) (Except.ok (Instr.iconst 1, 1)) := fE fw_dX8_findFields_178_c 6 rfl
theorem dX8_findFields_189 : Eq (decode cX8_findFields 189) (Except.ok (Instr.goto 4, 3)) := fE fw_dX8_findFields_178_c 7 rfl
theorem dX8_findFields_192 : Eq (decode cX8_findFields 192) (Except.ok (Instr.iconst 0, 1)) := fE fw_dX8_findFields_178_c 8 rfl
theorem dX8_findFields_193 : Eq (decode cX8_findFields 193) (Except.ok (Instr.iadd, 1)) := fE fw_dX8_findFields_178_c 9 rfl
theorem dX8_findFields_194 : Eq (decode cX8_findFields 194) (Except.ok (Instr.iastore, 1)) := fE fw_dX8_findFields_178_c 10 rfl
theorem dX8_findFields_195 : Eq (decode cX8_findFields 195) (Except.ok (Instr.iconst 0, 1)) := fE fw_dX8_findFields_178_c 11 rfl
theorem dX8_findFields_196 : Eq (decode cX8_findFields 196) (Except.ok (Instr.istore 4, 2)) := fE fw_dX8_findFields_178_c 12 rfl
theorem dX8_findFields_198 : Eq (decode cX8_findFields 198) (Except.ok (Instr.iload 4, 2)) := fE fw_dX8_findFields_178_c 13 rfl
theorem dX8_findFields_200 : Eq (decode cX8_findFields 200) (Except.ok (Instr.bipush 7, 2)) := fE fw_dX8_findFields_178_c 14 rfl
theorem dX8_findFields_202 : Eq (decode cX8_findFields 202) (Except.ok (Instr.if_icmp .ge 47, 3)) := fE fw_dX8_findFields_178_c 15 rfl
theorem dX8_findFields_205 : Eq (decode cX8_findFields 205) (Except.ok (Instr.aload_n 0, 1)) := fE fw_dX8_findFields_178_c 16 rfl
theorem dX8_findFields_206 : Eq (decode cX8_findFields 206) (Except.ok (Instr.getfield 91, 3)) := fE fw_dX8_findFields_178_c 17 rfl
theorem dX8_findFields_209 : Eq (decode cX8_findFields 209) (Except.ok (Instr.iload_n 3, 1)) := fE fw_dX8_findFields_178_c 18 rfl
theorem dX8_findFields_210 : Eq (decode cX8_findFields 210) (Except.ok (Instr.dup2, 1)) := fE fw_dX8_findFields_178_c 19 rfl
def fw_dX8_findFields_211 : List (Nat × Instr × Nat) := [(211, .iaload, 1), (212, .iload 4, 2), (214, .iload_n 3, 1), (215, .if_icmp .eq 25, 3), (218, .aload_n 0, 1), (219, .getfield 85, 3), (222, .bipush 7, 2), (224, .iload_n 1, 1), (225, .imul, 1), (226, .iload 4, 2), (228, .iadd, 1), (229, .iaload, 1), (230, .ifCond .lt 10, 3), (233, .iconst 1, 1), (234, .iload 4, 2), (236, .ishl, 1), (237, .goto 4, 3), (240, .iconst 0, 1), (241, .ior, 1), (242, .iastore, 1)]
theorem fw_dX8_findFields_211_c : fchk 211 (cX8_findFields.data.toList.drop 211) fw_dX8_findFields_211 = true := by decide +kernel
theorem dX8_findFields_211 : Eq (decode cX8_findFields 211) (Except.ok (Instr.iaload, 1)) := fE fw_dX8_findFields_211_c 0 rfl
theorem dX8_findFields_212 : Eq (decode cX8_findFields 212) (Except.ok (Instr.iload 4, 2)) := fE fw_dX8_findFields_211_c 1 rfl
theorem dX8_findFields_214 : Eq (decode cX8_findFields 214) (Except.ok (Instr.iload_n 3, 1)) := fE fw_dX8_findFields_211_c 2 rfl
theorem dX8_findFields_215 : Eq (decode cX8_findFields 215) (Except.ok (Instr.if_icmp .eq 25, 3)) := fE fw_dX8_findFields_211_c 3 rfl
theorem dX8_findFields_218 : Eq (decode cX8_findFields 218) (Except.ok (Instr.aload_n 0, 1)) := fE fw_dX8_findFields_211_c 4 rfl
theorem dX8_findFields_219 : Eq (decode cX8_findFields 219) (Except.ok (Instr.getfield 85, 3)) := fE fw_dX8_findFields_211_c 5 rfl
theorem dX8_findFields_222 : Eq (decode cX8_findFields 222) (Except.ok (Instr.bipush 7, 2)) := fE fw_dX8_findFields_211_c 6 rfl
theorem dX8_findFields_224 : Eq (decode cX8_findFields 224) (Except.ok (Instr.iload_n 1, 1)) := fE fw_dX8_findFields_211_c 7 rfl
theorem dX8_findFields_225 : Eq (decode cX8_findFields 225) (Except.ok (Instr.imul, 1)) := fE fw_dX8_findFields_211_c 8 rfl
theorem dX8_findFields_226 : Eq (decode cX8_findFields 226) (Except.ok (Instr.iload 4, 2)) := fE fw_dX8_findFields_211_c 9 rfl
theorem dX8_findFields_228 : Eq (decode cX8_findFields 228) (Except.ok (Instr.iadd, 1)) := fE fw_dX8_findFields_211_c 10 rfl
theorem dX8_findFields_229 : Eq (decode cX8_findFields 229) (Except.ok (Instr.iaload, 1)) := fE fw_dX8_findFields_211_c 11 rfl
theorem dX8_findFields_230 : Eq (decode cX8_findFields 230) (Except.ok (Instr.ifCond .lt 10, 3)) := fE fw_dX8_findFields_211_c 12 rfl
theorem dX8_findFields_233 : Eq (decode cX8_findFields 233) (Except.ok (Instr.iconst 1, 1)) := fE fw_dX8_findFields_211_c 13 rfl
theorem dX8_findFields_234 : Eq (decode cX8_findFields 234) (Except.ok (Instr.iload 4, 2)) := fE fw_dX8_findFields_211_c 14 rfl
theorem dX8_findFields_236 : Eq (decode cX8_findFields 236) (Except.ok (Instr.ishl, 1)) := fE fw_dX8_findFields_211_c 15 rfl
theorem dX8_findFields_237 : Eq (decode cX8_findFields 237) (Except.ok (Instr.goto 4, 3)) := fE fw_dX8_findFields_211_c 16 rfl
theorem dX8_findFields_240 : Eq (decode cX8_findFields 240) (Except.ok (Instr.iconst 0, 1)) := fE fw_dX8_findFields_211_c 17 rfl
theorem dX8_findFields_241 : Eq (decode cX8_findFields 241) (Except.ok (Instr.ior, 1)) := fE fw_dX8_findFields_211_c 18 rfl
theorem dX8_findFields_242 : Eq (decode cX8_findFields 242) (Except.ok (Instr.iastore, 1)) := fE fw_dX8_findFields_211_c 19 rfl
theorem dX8_findFields_243 : decode cX8_findFields 243 = .ok (.iinc 4 1, 3) := by decide +kernel
def fw_dX8_findFields_246 : List (Nat × Instr × Nat) := [(246, .goto (-48), 3)]
theorem fw_dX8_findFields_246_c : fchk 246 (cX8_findFields.data.toList.drop 246) fw_dX8_findFields_246 = true := by decide +kernel
theorem dX8_findFields_246 : Eq (decode cX8_findFields 246) (Except.ok (Instr.goto (-48), 3)) := fE fw_dX8_findFields_246_c 0 rfl
theorem dX8_findFields_249 : decode cX8_findFields 249 = .ok (.iinc 3 1, 3) := by decide +kernel
def fw_dX8_findFields_252 : List (Nat × Instr × Nat) := [(252, .goto (-103), 3)]
theorem fw_dX8_findFields_252_c : fchk 252 (cX8_findFields.data.toList.drop 252) fw_dX8_findFields_252 = true := by decide +kernel
theorem dX8_findFields_252 : Eq (decode cX8_findFields 252) (Except.ok (Instr.goto (-103), 3)) := fE fw_dX8_findFields_252_c 0 rfl
theorem dX8_findFields_255 : decode cX8_findFields 255 = .ok (.iinc 1 1, 3) := by decide +kernel
def fw_dX8_findFields_258 : List (Nat × Instr × Nat) := [(258, .goto (-228), 3), (261, .aload_n 0, 1), (262, .invokevirtual 223, 3), (265, .return_, 1)]
theorem fw_dX8_findFields_258_c : fchk 258 (cX8_findFields.data.toList.drop 258) fw_dX8_findFields_258 = true := by decide +kernel
theorem dX8_findFields_258 : Eq (decode cX8_findFields 258) (Except.ok (Instr.goto (-228), 3)) := fE fw_dX8_findFields_258_c 0 rfl
theorem dX8_findFields_261 : Eq (decode cX8_findFields 261) (Except.ok (Instr.aload_n 0, 1)) := fE fw_dX8_findFields_258_c 1 rfl
theorem dX8_findFields_262 : Eq (decode cX8_findFields 262) (Except.ok (Instr.invokevirtual 223, 3)) := fE fw_dX8_findFields_258_c 2 rfl
theorem dX8_findFields_265 : Eq (decode cX8_findFields 265) (Except.ok (Instr.return_, 1)) := fE fw_dX8_findFields_258_c 3 rfl
set_option maxRecDepth 20000 in
theorem gi_wsX8_isNew_0 : GoodIn wsX8_isNew wsX8_isNew := goodIn_sub (fun _ h => h) (by decide +kernel)
set_option maxRecDepth 20000 in
theorem gi_wsX8_isNew_1 : GoodIn wsX8_isNew wsX80 := goodIn_sub (fun w h => List.mem_cons_of_mem _ (List.mem_append_right _ h)) (by decide +kernel)
def bs_wsX8_isNew : List (List Cond) := [wsX8_isNew, wsX80]
theorem bs_wsX8_isNew_in : ∀ b ∈ bs_wsX8_isNew, GoodIn wsX8_isNew b := List.forall_mem_cons.mpr ⟨gi_wsX8_isNew_0, List.forall_mem_cons.mpr ⟨gi_wsX8_isNew_1, (fun _ h => absurd h List.not_mem_nil)⟩⟩
set_option maxRecDepth 20000 in
theorem ggX8_isNew_X8_areSame : GoodIn wsX8_isNew wsX8_areSame := goodIn_k (gi_q bs_wsX8_isNew_in _ [(0, 6)] rfl) (goodIn_app (gi_q bs_wsX8_isNew_in _ [(0, 7), (0, 8), (0, 9), (0, 10)] rfl) (gi_wsX8_isNew_1))
set_option maxRecDepth 20000 in
theorem gX8_isNew_X8_areSame : GoodIn wsX8_isNew (wsV RX8 202 RX8 yX8_areSame wsX8_areSame) := goodIn_app (gi_q bs_wsX8_isNew_in _ [(0, 2), (0, 3), (0, 4), (0, 5)] rfl) ggX8_isNew_X8_areSame
def fw_dX8_isNew_0 : List (Nat × Instr × Nat) := [(0, .aload_n 0, 1), (1, .getfield 85, 3), (4, .bipush 7, 2), (6, .iload_n 1, 1), (7, .imul, 1), (8, .iload_n 2, 1), (9, .iadd, 1), (10, .iaload, 1), (11, .istore_n 3, 1), (12, .iconst 1, 1), (13, .istore 4, 2), (15, .iconst 0, 1), (16, .istore 5, 2), (18, .iload 5, 2), (20, .iload_n 1, 1), (21, .if_icmp .ge 50, 3), (24, .aload_n 0, 1), (25, .getfield 85, 3), (28, .bipush 7, 2), (30, .iload 5, 2)]
theorem fw_dX8_isNew_0_c : fchk 0 (cX8_isNew.data.toList.drop 0) fw_dX8_isNew_0 = true := by decide +kernel
theorem dX8_isNew_0 : Eq (decode cX8_isNew 0) (Except.ok (Instr.aload_n 0, 1)) := fE fw_dX8_isNew_0_c 0 rfl
theorem dX8_isNew_1 : Eq (decode cX8_isNew 1) (Except.ok (Instr.getfield 85, 3)) := fE fw_dX8_isNew_0_c 1 rfl
theorem dX8_isNew_4 : Eq (decode cX8_isNew 4) (Except.ok (Instr.bipush 7, 2)) := fE fw_dX8_isNew_0_c 2 rfl
theorem dX8_isNew_6 : Eq (decode cX8_isNew 6) (Except.ok (Instr.iload_n 1, 1)) := fE fw_dX8_isNew_0_c 3 rfl
theorem dX8_isNew_7 : Eq (decode cX8_isNew 7) (Except.ok (Instr.imul, 1)) := fE fw_dX8_isNew_0_c 4 rfl
theorem dX8_isNew_8 : Eq (decode cX8_isNew 8) (Except.ok (Instr.iload_n 2, 1)) := fE fw_dX8_isNew_0_c 5 rfl
theorem dX8_isNew_9 : Eq (decode cX8_isNew 9) (Except.ok (Instr.iadd, 1)) := fE fw_dX8_isNew_0_c 6 rfl
theorem dX8_isNew_10 : Eq (decode cX8_isNew 10) (Except.ok (Instr.iaload, 1)) := fE fw_dX8_isNew_0_c 7 rfl
theorem dX8_isNew_11 : Eq (decode cX8_isNew 11) (Except.ok (Instr.istore_n 3, 1)) := fE fw_dX8_isNew_0_c 8 rfl
theorem dX8_isNew_12 : Eq (decode cX8_isNew 12) (Except.ok (Instr.iconst 1, 1)) := fE fw_dX8_isNew_0_c 9 rfl
theorem dX8_isNew_13 : Eq (decode cX8_isNew 13) (Except.ok (Instr.istore 4, 2)) := fE fw_dX8_isNew_0_c 10 rfl
theorem dX8_isNew_15 : Eq (decode cX8_isNew 15) (Except.ok (Instr.iconst 0, 1)) := fE fw_dX8_isNew_0_c 11 rfl
theorem dX8_isNew_16 : Eq (decode cX8_isNew 16) (Except.ok (Instr.istore 5, 2)) := fE fw_dX8_isNew_0_c 12 rfl
theorem dX8_isNew_18 : Eq (decode cX8_isNew 18) (Except.ok (Instr.iload 5, 2)) := fE fw_dX8_isNew_0_c 13 rfl
theorem dX8_isNew_20 : Eq (decode cX8_isNew 20) (Except.ok (Instr.iload_n 1, 1)) := fE fw_dX8_isNew_0_c 14 rfl
theorem dX8_isNew_21 : Eq (decode cX8_isNew 21) (Except.ok (Instr.if_icmp .ge 50, 3)) := fE fw_dX8_isNew_0_c 15 rfl
theorem dX8_isNew_24 : Eq (decode cX8_isNew 24) (Except.ok (Instr.aload_n 0, 1)) := fE fw_dX8_isNew_0_c 16 rfl
theorem dX8_isNew_25 : Eq (decode cX8_isNew 25) (Except.ok (Instr.getfield 85, 3)) := fE fw_dX8_isNew_0_c 17 rfl
theorem dX8_isNew_28 : Eq (decode cX8_isNew 28) (Except.ok (Instr.bipush 7, 2)) := fE fw_dX8_isNew_0_c 18 rfl
theorem dX8_isNew_30 : Eq (decode cX8_isNew 30) (Except.ok (Instr.iload 5, 2)) := fE fw_dX8_isNew_0_c 19 rfl
def fw_dX8_isNew_32 : List (Nat × Instr × Nat) := [(32, .imul, 1), (33, .iload_n 2, 1), (34, .iadd, 1), (35, .iaload, 1), (36, .istore 6, 2), (38, .iload 4, 2), (40, .ifCond .eq 22, 3), (43, .iload 6, 2), (45, .ifCond .lt 13, 3), (48, .aload_n 0, 1), (49, .iload_n 3, 1), (50, .iload 6, 2), (52, .invokevirtual 202, 3), (55, .ifCond .ne 7, 3), (58, .iconst 1, 1), (59, .goto 4, 3), (62, .iconst 0, 1), (63, .istore 4, 2)]
theorem fw_dX8_isNew_32_c : fchk 32 (cX8_isNew.data.toList.drop 32) fw_dX8_isNew_32 = true := by decide +kernel
theorem dX8_isNew_32 : Eq (decode cX8_isNew 32) (Except.ok (Instr.imul, 1)) := fE fw_dX8_isNew_32_c 0 rfl
theorem dX8_isNew_33 : Eq (decode cX8_isNew 33) (Except.ok (Instr.iload_n 2, 1)) := fE fw_dX8_isNew_32_c 1 rfl
theorem dX8_isNew_34 : Eq (decode cX8_isNew 34) (Except.ok (Instr.iadd, 1)) := fE fw_dX8_isNew_32_c 2 rfl
theorem dX8_isNew_35 : Eq (decode cX8_isNew 35) (Except.ok (Instr.iaload, 1)) := fE fw_dX8_isNew_32_c 3 rfl
theorem dX8_isNew_36 : Eq (decode cX8_isNew 36) (Except.ok (Instr.istore 6, 2)) := fE fw_dX8_isNew_32_c 4 rfl
theorem dX8_isNew_38 : Eq (decode cX8_isNew 38) (Except.ok (Instr.iload 4, 2)) := fE fw_dX8_isNew_32_c 5 rfl
theorem dX8_isNew_40 : Eq (decode cX8_isNew 40) (Except.ok (Instr.ifCond .eq 22, 3)) := fE fw_dX8_isNew_32_c 6 rfl
theorem dX8_isNew_43 : Eq (decode cX8_isNew 43) (Except.ok (Instr.iload 6, 2)) := fE fw_dX8_isNew_32_c 7 rfl
theorem dX8_isNew_45 : Eq (decode cX8_isNew 45) (Except.ok (Instr.ifCond .lt 13, 3)) := fE fw_dX8_isNew_32_c 8 rfl
theorem dX8_isNew_48 : Eq (decode cX8_isNew 48) (Except.ok (Instr.aload_n 0, 1)) := fE fw_dX8_isNew_32_c 9 rfl
theorem dX8_isNew_49 : Eq (decode cX8_isNew 49) (Except.ok (Instr.iload_n 3, 1)) := fE fw_dX8_isNew_32_c 10 rfl
theorem dX8_isNew_50 : Eq (decode cX8_isNew 50) (Except.ok (Instr.iload 6, 2)) := fE fw_dX8_isNew_32_c 11 rfl
theorem dX8_isNew_52 : Eq (decode cX8_isNew 52) (Except.ok (Instr.invokevirtual 202, 3)) := fE fw_dX8_isNew_32_c 12 rfl
theorem dX8_isNew_55 : Eq (decode cX8_isNew 55) (Except.ok (Instr.ifCond .ne 7, 3)) := fE fw_dX8_isNew_32_c 13 rfl
theorem dX8_isNew_58 : Eq (decode cX8_isNew 58) (Except.ok (Instr.iconst 1, 1)) := fE fw_dX8_isNew_32_c 14 rfl
theorem dX8_isNew_59 : Eq (decode cX8_isNew 59) (Except.ok (Instr.goto 4, 3)) := fE fw_dX8_isNew_32_c 15 rfl
theorem dX8_isNew_62 : Eq (decode cX8_isNew 62) (Except.ok (Instr.iconst 0, 1)) := fE fw_dX8_isNew_32_c 16 rfl
theorem dX8_isNew_63 : Eq (decode cX8_isNew 63) (Except.ok (Instr.istore 4, 2)) := fE fw_dX8_isNew_32_c 17 rfl
theorem dX8_isNew_65 : decode cX8_isNew 65 = .ok (.iinc 5 1, 3) := by decide +kernel
def fw_dX8_isNew_68 : List (Nat × Instr × Nat) := [(68, .goto (-50), 3), (71, .iload 4, 2), (73, .ireturn, 1)]
theorem fw_dX8_isNew_68_c : fchk 68 (cX8_isNew.data.toList.drop 68) fw_dX8_isNew_68 = true := by decide +kernel
theorem dX8_isNew_68 : Eq (decode cX8_isNew 68) (Except.ok (Instr.goto (-50), 3)) := fE fw_dX8_isNew_68_c 0 rfl
theorem dX8_isNew_71 : Eq (decode cX8_isNew 71) (Except.ok (Instr.iload 4, 2)) := fE fw_dX8_isNew_68_c 1 rfl
theorem dX8_isNew_73 : Eq (decode cX8_isNew 73) (Except.ok (Instr.ireturn, 1)) := fE fw_dX8_isNew_68_c 2 rfl
set_option maxRecDepth 20000 in
theorem gi_wsX8_findGroups_0 : GoodIn wsX8_findGroups wsX8_findGroups := goodIn_sub (fun _ h => h) (by decide +kernel)
set_option maxRecDepth 20000 in
theorem gi_wsX8_findGroups_1 : GoodIn wsX8_findGroups wsX80 := goodIn_sub (fun w h => List.mem_cons_of_mem _ (List.mem_append_right _ h)) (by decide +kernel)
def bs_wsX8_findGroups : List (List Cond) := [wsX8_findGroups, wsX80]
theorem bs_wsX8_findGroups_in : ∀ b ∈ bs_wsX8_findGroups, GoodIn wsX8_findGroups b := List.forall_mem_cons.mpr ⟨gi_wsX8_findGroups_0, List.forall_mem_cons.mpr ⟨gi_wsX8_findGroups_1, (fun _ h => absurd h List.not_mem_nil)⟩⟩
set_option maxRecDepth 20000 in
theorem ggX8_findGroups_X8_isMet : GoodIn wsX8_findGroups wsX8_isMet := goodIn_k (gi_q bs_wsX8_findGroups_in _ [(0, 9)] rfl) (goodIn_app (gi_q bs_wsX8_findGroups_in _ [(0, 2), (0, 10)] rfl) (gi_wsX8_findGroups_1))
set_option maxRecDepth 20000 in
theorem gX8_findGroups_X8_isMet : GoodIn wsX8_findGroups (wsV RX8 229 RX8 yX8_isMet wsX8_isMet) := goodIn_app (gi_q bs_wsX8_findGroups_in _ [(0, 5), (0, 6), (0, 7), (0, 8)] rfl) ggX8_findGroups_X8_isMet
def fw_dX8_findGroups_0 : List (Nat × Instr × Nat) := [(0, .aload_n 0, 1), (1, .iconst 0, 1), (2, .putfield 226, 3), (5, .iconst 0, 1), (6, .istore_n 1, 1), (7, .iload_n 1, 1), (8, .bipush 7, 2), (10, .if_icmp .ge 100, 3), (13, .aload_n 0, 1), (14, .getfield 94, 3), (17, .iload_n 1, 1), (18, .iconst (-1), 1), (19, .iastore, 1), (20, .aload_n 0, 1), (21, .getfield 88, 3), (24, .iload_n 1, 1), (25, .iaload, 1), (26, .ifCond .ne 6, 3), (29, .goto 75, 3), (32, .iconst 0, 1)]
theorem fw_dX8_findGroups_0_c : fchk 0 (cX8_findGroups.data.toList.drop 0) fw_dX8_findGroups_0 = true := by decide +kernel
theorem dX8_findGroups_0 : Eq (decode cX8_findGroups 0) (Except.ok (Instr.aload_n 0, 1)) := fE fw_dX8_findGroups_0_c 0 rfl
theorem dX8_findGroups_1 : Eq (decode cX8_findGroups 1) (Except.ok (Instr.iconst 0, 1)) := fE fw_dX8_findGroups_0_c 1 rfl
theorem dX8_findGroups_2 : Eq (decode cX8_findGroups 2) (Except.ok (Instr.putfield 226, 3)) := fE fw_dX8_findGroups_0_c 2 rfl
theorem dX8_findGroups_5 : Eq (decode cX8_findGroups 5) (Except.ok (Instr.iconst 0, 1)) := fE fw_dX8_findGroups_0_c 3 rfl
theorem dX8_findGroups_6 : Eq (decode cX8_findGroups 6) (Except.ok (Instr.istore_n 1, 1)) := fE fw_dX8_findGroups_0_c 4 rfl
theorem dX8_findGroups_7 : Eq (decode cX8_findGroups 7) (Except.ok (Instr.iload_n 1, 1)) := fE fw_dX8_findGroups_0_c 5 rfl
theorem dX8_findGroups_8 : Eq (decode cX8_findGroups 8) (Except.ok (Instr.bipush 7, 2)) := fE fw_dX8_findGroups_0_c 6 rfl
theorem dX8_findGroups_10 : Eq (decode cX8_findGroups 10) (Except.ok (Instr.if_icmp .ge 100, 3)) := fE fw_dX8_findGroups_0_c 7 rfl
theorem dX8_findGroups_13 : Eq (decode cX8_findGroups 13) (Except.ok (Instr.aload_n 0, 1)) := fE fw_dX8_findGroups_0_c 8 rfl
theorem dX8_findGroups_14 : Eq (decode cX8_findGroups 14) (Except.ok (Instr.getfield 94, 3)) := fE fw_dX8_findGroups_0_c 9 rfl
theorem dX8_findGroups_17 : Eq (decode cX8_findGroups 17) (Except.ok (Instr.iload_n 1, 1)) := fE fw_dX8_findGroups_0_c 10 rfl
theorem dX8_findGroups_18 : Eq (decode cX8_findGroups 18) (Except.ok (Instr.iconst (-1), 1)) := fE fw_dX8_findGroups_0_c 11 rfl
theorem dX8_findGroups_19 : Eq (decode cX8_findGroups 19) (Except.ok (Instr.iastore, 1)) := fE fw_dX8_findGroups_0_c 12 rfl
theorem dX8_findGroups_20 : Eq (decode cX8_findGroups 20) (Except.ok (Instr.aload_n 0, 1)) := fE fw_dX8_findGroups_0_c 13 rfl
theorem dX8_findGroups_21 : Eq (decode cX8_findGroups 21) (Except.ok (Instr.getfield 88, 3)) := fE fw_dX8_findGroups_0_c 14 rfl
theorem dX8_findGroups_24 : Eq (decode cX8_findGroups 24) (Except.ok (Instr.iload_n 1, 1)) := fE fw_dX8_findGroups_0_c 15 rfl
theorem dX8_findGroups_25 : Eq (decode cX8_findGroups 25) (Except.ok (Instr.iaload, 1)) := fE fw_dX8_findGroups_0_c 16 rfl
theorem dX8_findGroups_26 : Eq (decode cX8_findGroups 26) (Except.ok (Instr.ifCond .ne 6, 3)) := fE fw_dX8_findGroups_0_c 17 rfl
theorem dX8_findGroups_29 : Eq (decode cX8_findGroups 29) (Except.ok (Instr.goto 75, 3)) := fE fw_dX8_findGroups_0_c 18 rfl
theorem dX8_findGroups_32 : Eq (decode cX8_findGroups 32) (Except.ok (Instr.iconst 0, 1)) := fE fw_dX8_findGroups_0_c 19 rfl
def fw_dX8_findGroups_33 : List (Nat × Instr × Nat) := [(33, .istore_n 2, 1), (34, .iload_n 2, 1), (35, .aload_n 0, 1), (36, .getfield 226, 3), (39, .if_icmp .ge 18, 3), (42, .aload_n 0, 1), (43, .iload_n 1, 1), (44, .iload_n 2, 1), (45, .invokevirtual 229, 3), (48, .ifCond .eq 9, 3)]
theorem fw_dX8_findGroups_33_c : fchk 33 (cX8_findGroups.data.toList.drop 33) fw_dX8_findGroups_33 = true := by decide +kernel
theorem dX8_findGroups_33 : Eq (decode cX8_findGroups 33) (Except.ok (Instr.istore_n 2, 1)) := fE fw_dX8_findGroups_33_c 0 rfl
theorem dX8_findGroups_34 : Eq (decode cX8_findGroups 34) (Except.ok (Instr.iload_n 2, 1)) := fE fw_dX8_findGroups_33_c 1 rfl
theorem dX8_findGroups_35 : Eq (decode cX8_findGroups 35) (Except.ok (Instr.aload_n 0, 1)) := fE fw_dX8_findGroups_33_c 2 rfl
theorem dX8_findGroups_36 : Eq (decode cX8_findGroups 36) (Except.ok (Instr.getfield 226, 3)) := fE fw_dX8_findGroups_33_c 3 rfl
theorem dX8_findGroups_39 : Eq (decode cX8_findGroups 39) (Except.ok (Instr.if_icmp .ge 18, 3)) := fE fw_dX8_findGroups_33_c 4 rfl
theorem dX8_findGroups_42 : Eq (decode cX8_findGroups 42) (Except.ok (Instr.aload_n 0, 1)) := fE fw_dX8_findGroups_33_c 5 rfl
theorem dX8_findGroups_43 : Eq (decode cX8_findGroups 43) (Except.ok (Instr.iload_n 1, 1)) := fE fw_dX8_findGroups_33_c 6 rfl
theorem dX8_findGroups_44 : Eq (decode cX8_findGroups 44) (Except.ok (Instr.iload_n 2, 1)) := fE fw_dX8_findGroups_33_c 7 rfl
theorem dX8_findGroups_45 : Eq (decode cX8_findGroups 45) (Except.ok (Instr.invokevirtual 229, 3)) := fE fw_dX8_findGroups_33_c 8 rfl
theorem dX8_findGroups_48 : Eq (decode cX8_findGroups 48) (Except.ok (Instr.ifCond .eq 9, 3)) := fE fw_dX8_findGroups_33_c 9 rfl
theorem dX8_findGroups_51 : decode cX8_findGroups 51 = .ok (.iinc 2 1, 3) := by decide +kernel
def fw_dX8_findGroups_54 : List (Nat × Instr × Nat) := [(54, .goto (-20), 3), (57, .iload_n 2, 1), (58, .aload_n 0, 1), (59, .getfield 226, 3), (62, .if_icmp .ne 20, 3), (65, .aload_n 0, 1), (66, .getfield 97, 3), (69, .iload_n 2, 1), (70, .iconst 0, 1), (71, .iastore, 1), (72, .aload_n 0, 1), (73, .dup, 1), (74, .getfield 226, 3), (77, .iconst 1, 1), (78, .iadd, 1), (79, .putfield 226, 3), (82, .aload_n 0, 1), (83, .getfield 94, 3), (86, .iload_n 1, 1), (87, .iload_n 2, 1)]
theorem fw_dX8_findGroups_54_c : fchk 54 (cX8_findGroups.data.toList.drop 54) fw_dX8_findGroups_54 = true := by decide +kernel
theorem dX8_findGroups_54 : Eq (decode cX8_findGroups 54) (Except.ok (Instr.goto (-20), 3)) := fE fw_dX8_findGroups_54_c 0 rfl
theorem dX8_findGroups_57 : Eq (decode cX8_findGroups 57) (Except.ok (Instr.iload_n 2, 1)) := fE fw_dX8_findGroups_54_c 1 rfl
theorem dX8_findGroups_58 : Eq (decode cX8_findGroups 58) (Except.ok (Instr.aload_n 0, 1)) := fE fw_dX8_findGroups_54_c 2 rfl
theorem dX8_findGroups_59 : Eq (decode cX8_findGroups 59) (Except.ok (Instr.getfield 226, 3)) := fE fw_dX8_findGroups_54_c 3 rfl
theorem dX8_findGroups_62 : Eq (decode cX8_findGroups 62) (Except.ok (Instr.if_icmp .ne 20, 3)) := fE fw_dX8_findGroups_54_c 4 rfl
theorem dX8_findGroups_65 : Eq (decode cX8_findGroups 65) (Except.ok (Instr.aload_n 0, 1)) := fE fw_dX8_findGroups_54_c 5 rfl
theorem dX8_findGroups_66 : Eq (decode cX8_findGroups 66) (Except.ok (Instr.getfield 97, 3)) := fE fw_dX8_findGroups_54_c 6 rfl
theorem dX8_findGroups_69 : Eq (decode cX8_findGroups 69) (Except.ok (Instr.iload_n 2, 1)) := fE fw_dX8_findGroups_54_c 7 rfl
theorem dX8_findGroups_70 : Eq (decode cX8_findGroups 70) (Except.ok (Instr.iconst 0, 1)) := fE fw_dX8_findGroups_54_c 8 rfl
theorem dX8_findGroups_71 : Eq (decode cX8_findGroups 71) (Except.ok (Instr.iastore, 1)) := fE fw_dX8_findGroups_54_c 9 rfl
theorem dX8_findGroups_72 : Eq (decode cX8_findGroups 72) (Except.ok (Instr.aload_n 0, 1)) := fE fw_dX8_findGroups_54_c 10 rfl
theorem dX8_findGroups_73 : Eq (decode cX8_findGroups 73) (Except.ok (Instr.dup, 1)) := fE fw_dX8_findGroups_54_c 11 rfl
theorem dX8_findGroups_74 : Eq (decode cX8_findGroups 74) (Except.ok (Instr.getfield 226, 3)) := fE fw_dX8_findGroups_54_c 12 rfl
theorem dX8_findGroups_77 : Eq (decode cX8_findGroups 77) (Except.ok (Instr.iconst 1, 1)) := fE fw_dX8_findGroups_54_c 13 rfl
theorem dX8_findGroups_78 : Eq (decode cX8_findGroups 78) (Except.ok (Instr.iadd, 1)) := fE fw_dX8_findGroups_54_c 14 rfl
theorem dX8_findGroups_79 : Eq (decode cX8_findGroups 79) (Except.ok (Instr.putfield 226, 3)) := fE fw_dX8_findGroups_54_c 15 rfl
theorem dX8_findGroups_82 : Eq (decode cX8_findGroups 82) (Except.ok (Instr.aload_n 0, 1)) := fE fw_dX8_findGroups_54_c 16 rfl
theorem dX8_findGroups_83 : Eq (decode cX8_findGroups 83) (Except.ok (Instr.getfield 94, 3)) := fE fw_dX8_findGroups_54_c 17 rfl
theorem dX8_findGroups_86 : Eq (decode cX8_findGroups 86) (Except.ok (Instr.iload_n 1, 1)) := fE fw_dX8_findGroups_54_c 18 rfl
theorem dX8_findGroups_87 : Eq (decode cX8_findGroups 87) (Except.ok (Instr.iload_n 2, 1)) := fE fw_dX8_findGroups_54_c 19 rfl
def fw_dX8_findGroups_88 : List (Nat × Instr × Nat) := [(88, .iastore, 1), (89, .aload_n 0, 1), (90, .getfield 97, 3), (93, .iload_n 2, 1), (94, .dup2, 1), (95, .iaload, 1), (96, .aload_n 0, 1), (97, .getfield 88, 3), (100, .iload_n 1, 1), (101, .iaload, 1), (102, .iadd, 1), (103, .iastore, 1)]
theorem fw_dX8_findGroups_88_c : fchk 88 (cX8_findGroups.data.toList.drop 88) fw_dX8_findGroups_88 = true := by decide +kernel
theorem dX8_findGroups_88 : Eq (decode cX8_findGroups 88) (Except.ok (Instr.iastore, 1)) := fE fw_dX8_findGroups_88_c 0 rfl
theorem dX8_findGroups_89 : Eq (decode cX8_findGroups 89) (Except.ok (Instr.aload_n 0, 1)) := fE fw_dX8_findGroups_88_c 1 rfl
theorem dX8_findGroups_90 : Eq (decode cX8_findGroups 90) (Except.ok (Instr.getfield 97, 3)) := fE fw_dX8_findGroups_88_c 2 rfl
theorem dX8_findGroups_93 : Eq (decode cX8_findGroups 93) (Except.ok (Instr.iload_n 2, 1)) := fE fw_dX8_findGroups_88_c 3 rfl
theorem dX8_findGroups_94 : Eq (decode cX8_findGroups 94) (Except.ok (Instr.dup2, 1)) := fE fw_dX8_findGroups_88_c 4 rfl
theorem dX8_findGroups_95 : Eq (decode cX8_findGroups 95) (Except.ok (Instr.iaload, 1)) := fE fw_dX8_findGroups_88_c 5 rfl
theorem dX8_findGroups_96 : Eq (decode cX8_findGroups 96) (Except.ok (Instr.aload_n 0, 1)) := fE fw_dX8_findGroups_88_c 6 rfl
theorem dX8_findGroups_97 : Eq (decode cX8_findGroups 97) (Except.ok (Instr.getfield 88, 3)) := fE fw_dX8_findGroups_88_c 7 rfl
theorem dX8_findGroups_100 : Eq (decode cX8_findGroups 100) (Except.ok (Instr.iload_n 1, 1)) := fE fw_dX8_findGroups_88_c 8 rfl
theorem dX8_findGroups_101 : Eq (decode cX8_findGroups 101) (Except.ok (Instr.iaload, 1)) := fE fw_dX8_findGroups_88_c 9 rfl
theorem dX8_findGroups_102 : Eq (decode cX8_findGroups 102) (Except.ok (Instr.iadd, 1)) := fE fw_dX8_findGroups_88_c 10 rfl
theorem dX8_findGroups_103 : Eq (decode cX8_findGroups 103) (Except.ok (Instr.iastore, 1)) := fE fw_dX8_findGroups_88_c 11 rfl
theorem dX8_findGroups_104 : decode cX8_findGroups 104 = .ok (.iinc 1 1, 3) := by decide +kernel
def fw_dX8_findGroups_107 : List (Nat × Instr × Nat) := [(107, .goto (-100), 3), (110, .return_, 1)]
theorem fw_dX8_findGroups_107_c : fchk 107 (cX8_findGroups.data.toList.drop 107) fw_dX8_findGroups_107 = true := by decide +kernel
theorem dX8_findGroups_107 : Eq (decode cX8_findGroups 107) (Except.ok (Instr.goto (-100), 3)) := fE fw_dX8_findGroups_107_c 0 rfl
theorem dX8_findGroups_110 : Eq (decode cX8_findGroups 110) (Except.ok (Instr.return_, 1)) := fE fw_dX8_findGroups_107_c 1 rfl
def fw_dX8_isMet_0 : List (Nat × Instr × Nat) := [(0, .iconst 0, 1), (1, .istore_n 3, 1), (2, .iconst 0, 1), (3, .istore 4, 2), (5, .iload 4, 2), (7, .iload_n 1, 1), (8, .if_icmp .ge 45, 3), (11, .iload_n 3, 1), (12, .ifCond .ne 29, 3), (15, .aload_n 0, 1), (16, .getfield 94, 3), (19, .iload 4, 2), (21, .iaload, 1), (22, .iload_n 2, 1), (23, .if_icmp .ne 22, 3), (26, .aload_n 0, 1), (27, .getfield 91, 3), (30, .iload_n 1, 1), (31, .iaload, 1), (32, .iload 4, 2)]
theorem fw_dX8_isMet_0_c : fchk 0 (cX8_isMet.data.toList.drop 0) fw_dX8_isMet_0 = true := by decide +kernel
theorem dX8_isMet_0 : Eq (decode cX8_isMet 0) (Except.ok (Instr.iconst 0, 1)) := fE fw_dX8_isMet_0_c 0 rfl
theorem dX8_isMet_1 : Eq (decode cX8_isMet 1) (Except.ok (Instr.istore_n 3, 1)) := fE fw_dX8_isMet_0_c 1 rfl
theorem dX8_isMet_2 : Eq (decode cX8_isMet 2) (Except.ok (Instr.iconst 0, 1)) := fE fw_dX8_isMet_0_c 2 rfl
theorem dX8_isMet_3 : Eq (decode cX8_isMet 3) (Except.ok (Instr.istore 4, 2)) := fE fw_dX8_isMet_0_c 3 rfl
theorem dX8_isMet_5 : Eq (decode cX8_isMet 5) (Except.ok (Instr.iload 4, 2)) := fE fw_dX8_isMet_0_c 4 rfl
theorem dX8_isMet_7 : Eq (decode cX8_isMet 7) (Except.ok (Instr.iload_n 1, 1)) := fE fw_dX8_isMet_0_c 5 rfl
theorem dX8_isMet_8 : Eq (decode cX8_isMet 8) (Except.ok (Instr.if_icmp .ge 45, 3)) := fE fw_dX8_isMet_0_c 6 rfl
theorem dX8_isMet_11 : Eq (decode cX8_isMet 11) (Except.ok (Instr.iload_n 3, 1)) := fE fw_dX8_isMet_0_c 7 rfl
theorem dX8_isMet_12 : Eq (decode cX8_isMet 12) (Except.ok (Instr.ifCond .ne 29, 3)) := fE fw_dX8_isMet_0_c 8 rfl
theorem dX8_isMet_15 : Eq (decode cX8_isMet 15) (Except.ok (Instr.aload_n 0, 1)) := fE fw_dX8_isMet_0_c 9 rfl
theorem dX8_isMet_16 : Eq (decode cX8_isMet 16) (Except.ok (Instr.getfield 94, 3)) := fE fw_dX8_isMet_0_c 10 rfl
theorem dX8_isMet_19 : Eq (decode cX8_isMet 19) (Except.ok (Instr.iload 4, 2)) := fE fw_dX8_isMet_0_c 11 rfl
theorem dX8_isMet_21 : Eq (decode cX8_isMet 21) (Except.ok (Instr.iaload, 1)) := fE fw_dX8_isMet_0_c 12 rfl
theorem dX8_isMet_22 : Eq (decode cX8_isMet 22) (Except.ok (Instr.iload_n 2, 1)) := fE fw_dX8_isMet_0_c 13 rfl
theorem dX8_isMet_23 : Eq (decode cX8_isMet 23) (Except.ok (Instr.if_icmp .ne 22, 3)) := fE fw_dX8_isMet_0_c 14 rfl
theorem dX8_isMet_26 : Eq (decode cX8_isMet 26) (Except.ok (Instr.aload_n 0, 1)) := fE fw_dX8_isMet_0_c 15 rfl
theorem dX8_isMet_27 : Eq (decode cX8_isMet 27) (Except.ok (Instr.getfield 91, 3)) := fE fw_dX8_isMet_0_c 16 rfl
theorem dX8_isMet_30 : Eq (decode cX8_isMet 30) (Except.ok (Instr.iload_n 1, 1)) := fE fw_dX8_isMet_0_c 17 rfl
theorem dX8_isMet_31 : Eq (decode cX8_isMet 31) (Except.ok (Instr.iaload, 1)) := fE fw_dX8_isMet_0_c 18 rfl
theorem dX8_isMet_32 : Eq (decode cX8_isMet 32) (Except.ok (Instr.iload 4, 2)) := fE fw_dX8_isMet_0_c 19 rfl
def fw_dX8_isMet_34 : List (Nat × Instr × Nat) := [(34, .ishr, 1), (35, .iconst 1, 1), (36, .iand, 1), (37, .iconst 1, 1), (38, .if_icmp .ne 7, 3), (41, .iconst 1, 1), (42, .goto 4, 3), (45, .iconst 0, 1), (46, .istore_n 3, 1)]
theorem fw_dX8_isMet_34_c : fchk 34 (cX8_isMet.data.toList.drop 34) fw_dX8_isMet_34 = true := by decide +kernel
theorem dX8_isMet_34 : Eq (decode cX8_isMet 34) (Except.ok (Instr.ishr, 1)) := fE fw_dX8_isMet_34_c 0 rfl
theorem dX8_isMet_35 : Eq (decode cX8_isMet 35) (Except.ok (Instr.iconst 1, 1)) := fE fw_dX8_isMet_34_c 1 rfl
theorem dX8_isMet_36 : Eq (decode cX8_isMet 36) (Except.ok (Instr.iand, 1)) := fE fw_dX8_isMet_34_c 2 rfl
theorem dX8_isMet_37 : Eq (decode cX8_isMet 37) (Except.ok (Instr.iconst 1, 1)) := fE fw_dX8_isMet_34_c 3 rfl
theorem dX8_isMet_38 : Eq (decode cX8_isMet 38) (Except.ok (Instr.if_icmp .ne 7, 3)) := fE fw_dX8_isMet_34_c 4 rfl
theorem dX8_isMet_41 : Eq (decode cX8_isMet 41) (Except.ok (Instr.iconst 1, 1)) := fE fw_dX8_isMet_34_c 5 rfl
theorem dX8_isMet_42 : Eq (decode cX8_isMet 42) (Except.ok (Instr.goto 4, 3)) := fE fw_dX8_isMet_34_c 6 rfl
theorem dX8_isMet_45 : Eq (decode cX8_isMet 45) (Except.ok (Instr.iconst 0, 1)) := fE fw_dX8_isMet_34_c 7 rfl
theorem dX8_isMet_46 : Eq (decode cX8_isMet 46) (Except.ok (Instr.istore_n 3, 1)) := fE fw_dX8_isMet_34_c 8 rfl
theorem dX8_isMet_47 : decode cX8_isMet 47 = .ok (.iinc 4 1, 3) := by decide +kernel
def fw_dX8_isMet_50 : List (Nat × Instr × Nat) := [(50, .goto (-45), 3), (53, .iload_n 3, 1), (54, .ireturn, 1)]
theorem fw_dX8_isMet_50_c : fchk 50 (cX8_isMet.data.toList.drop 50) fw_dX8_isMet_50 = true := by decide +kernel
theorem dX8_isMet_50 : Eq (decode cX8_isMet 50) (Except.ok (Instr.goto (-45), 3)) := fE fw_dX8_isMet_50_c 0 rfl
theorem dX8_isMet_53 : Eq (decode cX8_isMet 53) (Except.ok (Instr.iload_n 3, 1)) := fE fw_dX8_isMet_50_c 1 rfl
theorem dX8_isMet_54 : Eq (decode cX8_isMet 54) (Except.ok (Instr.ireturn, 1)) := fE fw_dX8_isMet_50_c 2 rfl
def fw_dX8_bits_0 : List (Nat × Instr × Nat) := [(0, .iconst 0, 1), (1, .istore_n 1, 1), (2, .iconst 1, 1), (3, .iload_n 1, 1), (4, .ishl, 1), (5, .iload_n 0, 1), (6, .if_icmp .gt 9, 3)]
theorem fw_dX8_bits_0_c : fchk 0 (cX8_bits.data.toList.drop 0) fw_dX8_bits_0 = true := by decide +kernel
theorem dX8_bits_0 : Eq (decode cX8_bits 0) (Except.ok (Instr.iconst 0, 1)) := fE fw_dX8_bits_0_c 0 rfl
theorem dX8_bits_1 : Eq (decode cX8_bits 1) (Except.ok (Instr.istore_n 1, 1)) := fE fw_dX8_bits_0_c 1 rfl
theorem dX8_bits_2 : Eq (decode cX8_bits 2) (Except.ok (Instr.iconst 1, 1)) := fE fw_dX8_bits_0_c 2 rfl
theorem dX8_bits_3 : Eq (decode cX8_bits 3) (Except.ok (Instr.iload_n 1, 1)) := fE fw_dX8_bits_0_c 3 rfl
theorem dX8_bits_4 : Eq (decode cX8_bits 4) (Except.ok (Instr.ishl, 1)) := fE fw_dX8_bits_0_c 4 rfl
theorem dX8_bits_5 : Eq (decode cX8_bits 5) (Except.ok (Instr.iload_n 0, 1)) := fE fw_dX8_bits_0_c 5 rfl
theorem dX8_bits_6 : Eq (decode cX8_bits 6) (Except.ok (Instr.if_icmp .gt 9, 3)) := fE fw_dX8_bits_0_c 6 rfl
theorem dX8_bits_9 : decode cX8_bits 9 = .ok (.iinc 1 1, 3) := by decide +kernel
def fw_dX8_bits_12 : List (Nat × Instr × Nat) := [(12, .goto (-10), 3), (15, .iload_n 1, 1), (16, .ireturn, 1)]
theorem fw_dX8_bits_12_c : fchk 12 (cX8_bits.data.toList.drop 12) fw_dX8_bits_12 = true := by decide +kernel
theorem dX8_bits_12 : Eq (decode cX8_bits 12) (Except.ok (Instr.goto (-10), 3)) := fE fw_dX8_bits_12_c 0 rfl
theorem dX8_bits_15 : Eq (decode cX8_bits 15) (Except.ok (Instr.iload_n 1, 1)) := fE fw_dX8_bits_12_c 1 rfl
theorem dX8_bits_16 : Eq (decode cX8_bits 16) (Except.ok (Instr.ireturn, 1)) := fE fw_dX8_bits_12_c 2 rfl
set_option maxRecDepth 20000 in
theorem gi_wsX8_group_0 : GoodIn wsX8_group wsX8_group := goodIn_sub (fun _ h => h) (by decide +kernel)
set_option maxRecDepth 20000 in
theorem gi_wsX8_group_1 : GoodIn wsX8_group wsX80 := goodIn_sub (fun w h => List.mem_cons_of_mem _ (List.mem_append_right _ h)) (by decide +kernel)
def bs_wsX8_group : List (List Cond) := [wsX8_group, wsX80]
theorem bs_wsX8_group_in : ∀ b ∈ bs_wsX8_group, GoodIn wsX8_group b := List.forall_mem_cons.mpr ⟨gi_wsX8_group_0, List.forall_mem_cons.mpr ⟨gi_wsX8_group_1, (fun _ h => absurd h List.not_mem_nil)⟩⟩
set_option maxRecDepth 20000 in
theorem ggX8_group_X8_isIn : GoodIn wsX8_group wsX8_isIn := goodIn_k (gi_q bs_wsX8_group_in _ [(0, 7)] rfl) (gi_q bs_wsX8_group_in _ [] rfl)
set_option maxRecDepth 20000 in
theorem gX8_group_X8_isIn : GoodIn wsX8_group (va_wsS RX8 128 yX8_isIn wsX8_isIn) := goodIn_app (gi_q bs_wsX8_group_in _ [(0, 4), (0, 5), (0, 6)] rfl) ggX8_group_X8_isIn
set_option maxRecDepth 20000 in
theorem ggX8_group_X8_no : GoodIn wsX8_group wsX8_no := goodIn_k (gi_q bs_wsX8_group_in _ [(0, 11)] rfl) (goodIn_app (gi_q bs_wsX8_group_in _ [(0, 12)] rfl) (gi_wsX8_group_1))
set_option maxRecDepth 20000 in
theorem gX8_group_X8_no : GoodIn wsX8_group (wsV RX8 122 RX8 yX8_no wsX8_no) := goodIn_app (gi_q bs_wsX8_group_in _ [(0, 8), (0, 9), (0, 10), (0, 6)] rfl) ggX8_group_X8_no
def fw_dX8_group_0 : List (Nat × Instr × Nat) := [(0, .iload_n 1, 1), (1, .i2l, 1), (2, .lconst 0, 1), (3, .ldc2_w 232, 3), (6, .invokestatic 128, 3), (9, .ifCond .ne 10, 3), (12, .aload_n 0, 1), (13, .bipush (-3), 2), (15, .invokevirtual 122, 3), (18, .ireturn, 1), (19, .aload_n 0, 1), (20, .getfield 164, 3), (23, .ifCond .eq 12, 3), (26, .aload_n 0, 1), (27, .getfield 94, 3), (30, .iload_n 1, 1), (31, .iaload, 1), (32, .goto 9, 3), (35, .aload_n 0, 1), (36, .bipush (-2), 2)]
theorem fw_dX8_group_0_c : fchk 0 (cX8_group.data.toList.drop 0) fw_dX8_group_0 = true := by decide +kernel
theorem dX8_group_0 : Eq (decode cX8_group 0) (Except.ok (Instr.iload_n 1, 1)) := fE fw_dX8_group_0_c 0 rfl
theorem dX8_group_1 : Eq (decode cX8_group 1) (Except.ok (Instr.i2l, 1)) := fE fw_dX8_group_0_c 1 rfl
theorem dX8_group_2 : Eq (decode cX8_group 2) (Except.ok (Instr.lconst 0, 1)) := fE fw_dX8_group_0_c 2 rfl
theorem dX8_group_3 : Eq (decode cX8_group 3) (Except.ok (Instr.ldc2_w 232, 3)) := fE fw_dX8_group_0_c 3 rfl
theorem dX8_group_6 : Eq (decode cX8_group 6) (Except.ok (Instr.invokestatic 128, 3)) := fE fw_dX8_group_0_c 4 rfl
theorem dX8_group_9 : Eq (decode cX8_group 9) (Except.ok (Instr.ifCond .ne 10, 3)) := fE fw_dX8_group_0_c 5 rfl
theorem dX8_group_12 : Eq (decode cX8_group 12) (Except.ok (Instr.aload_n 0, 1)) := fE fw_dX8_group_0_c 6 rfl
theorem dX8_group_13 : Eq (decode cX8_group 13) (Except.ok (Instr.bipush (-3), 2)) := fE fw_dX8_group_0_c 7 rfl
theorem dX8_group_15 : Eq (decode cX8_group 15) (Except.ok (Instr.invokevirtual 122, 3)) := fE fw_dX8_group_0_c 8 rfl
theorem dX8_group_18 : Eq (decode cX8_group 18) (Except.ok (Instr.ireturn, 1)) := fE fw_dX8_group_0_c 9 rfl
theorem dX8_group_19 : Eq (decode cX8_group 19) (Except.ok (Instr.aload_n 0, 1)) := fE fw_dX8_group_0_c 10 rfl
theorem dX8_group_20 : Eq (decode cX8_group 20) (Except.ok (Instr.getfield 164, 3)) := fE fw_dX8_group_0_c 11 rfl
theorem dX8_group_23 : Eq (decode cX8_group 23) (Except.ok (Instr.ifCond .eq 12, 3)) := fE fw_dX8_group_0_c 12 rfl
theorem dX8_group_26 : Eq (decode cX8_group 26) (Except.ok (Instr.aload_n 0, 1)) := fE fw_dX8_group_0_c 13 rfl
theorem dX8_group_27 : Eq (decode cX8_group 27) (Except.ok (Instr.getfield 94, 3)) := fE fw_dX8_group_0_c 14 rfl
theorem dX8_group_30 : Eq (decode cX8_group 30) (Except.ok (Instr.iload_n 1, 1)) := fE fw_dX8_group_0_c 15 rfl
theorem dX8_group_31 : Eq (decode cX8_group 31) (Except.ok (Instr.iaload, 1)) := fE fw_dX8_group_0_c 16 rfl
theorem dX8_group_32 : Eq (decode cX8_group 32) (Except.ok (Instr.goto 9, 3)) := fE fw_dX8_group_0_c 17 rfl
theorem dX8_group_35 : Eq (decode cX8_group 35) (Except.ok (Instr.aload_n 0, 1)) := fE fw_dX8_group_0_c 18 rfl
theorem dX8_group_36 : Eq (decode cX8_group 36) (Except.ok (Instr.bipush (-2), 2)) := fE fw_dX8_group_0_c 19 rfl
def fw_dX8_group_38 : List (Nat × Instr × Nat) := [(38, .invokevirtual 122, 3), (41, .ireturn, 1)]
theorem fw_dX8_group_38_c : fchk 38 (cX8_group.data.toList.drop 38) fw_dX8_group_38 = true := by decide +kernel
theorem dX8_group_38 : Eq (decode cX8_group 38) (Except.ok (Instr.invokevirtual 122, 3)) := fE fw_dX8_group_38_c 0 rfl
theorem dX8_group_41 : Eq (decode cX8_group 41) (Except.ok (Instr.ireturn, 1)) := fE fw_dX8_group_38_c 1 rfl
set_option maxRecDepth 20000 in
theorem gi_wsX8_narrow_0 : GoodIn wsX8_narrow wsX8_narrow := goodIn_sub (fun _ h => h) (by decide +kernel)
set_option maxRecDepth 20000 in
theorem gi_wsX8_narrow_1 : GoodIn wsX8_narrow wsX80 := goodIn_sub (fun w h => List.mem_cons_of_mem _ (List.mem_append_right _ h)) (by decide +kernel)
def bs_wsX8_narrow : List (List Cond) := [wsX8_narrow, wsX80]
theorem bs_wsX8_narrow_in : ∀ b ∈ bs_wsX8_narrow, GoodIn wsX8_narrow b := List.forall_mem_cons.mpr ⟨gi_wsX8_narrow_0, List.forall_mem_cons.mpr ⟨gi_wsX8_narrow_1, (fun _ h => absurd h List.not_mem_nil)⟩⟩
set_option maxRecDepth 20000 in
theorem ggX8_narrow_X8_no : GoodIn wsX8_narrow wsX8_no := goodIn_k (gi_q bs_wsX8_narrow_in _ [(0, 11)] rfl) (goodIn_app (gi_q bs_wsX8_narrow_in _ [(0, 12)] rfl) (gi_wsX8_narrow_1))
set_option maxRecDepth 20000 in
theorem gX8_narrow_X8_no : GoodIn wsX8_narrow (wsV RX8 122 RX8 yX8_no wsX8_no) := goodIn_app (gi_q bs_wsX8_narrow_in _ [(0, 7), (0, 8), (0, 9), (0, 10)] rfl) ggX8_narrow_X8_no
set_option maxRecDepth 20000 in
theorem ggX8_narrow_X8_isIn : GoodIn wsX8_narrow wsX8_isIn := goodIn_k (gi_q bs_wsX8_narrow_in _ [(0, 15)] rfl) (gi_q bs_wsX8_narrow_in _ [] rfl)
set_option maxRecDepth 20000 in
theorem gX8_narrow_X8_isIn : GoodIn wsX8_narrow (va_wsS RX8 128 yX8_isIn wsX8_isIn) := goodIn_app (gi_q bs_wsX8_narrow_in _ [(0, 13), (0, 14), (0, 10)] rfl) ggX8_narrow_X8_isIn
set_option maxRecDepth 20000 in
theorem ggX8_narrow_X8_bits : GoodIn wsX8_narrow wsX8_bits := goodIn_k (gi_q bs_wsX8_narrow_in _ [(0, 18)] rfl) (gi_q bs_wsX8_narrow_in _ [] rfl)
set_option maxRecDepth 20000 in
theorem gX8_narrow_X8_bits : GoodIn wsX8_narrow (va_wsS RX8 234 yX8_bits wsX8_bits) := goodIn_app (gi_q bs_wsX8_narrow_in _ [(0, 16), (0, 17), (0, 10)] rfl) ggX8_narrow_X8_bits
def fw_dX8_narrow_0 : List (Nat × Instr × Nat) := [(0, .aload_n 0, 1), (1, .getfield 164, 3), (4, .ifCond .ne 10, 3), (7, .aload_n 0, 1), (8, .bipush (-2), 2), (10, .invokevirtual 122, 3), (13, .ireturn, 1), (14, .iload_n 1, 1), (15, .i2l, 1), (16, .lconst 0, 1), (17, .ldc2_w 178, 3), (20, .invokestatic 128, 3), (23, .ifCond .ne 10, 3), (26, .aload_n 0, 1), (27, .bipush (-6), 2), (29, .invokevirtual 122, 3), (32, .ireturn, 1), (33, .iload_n 1, 1), (34, .iconst 2, 1), (35, .if_icmp .ne 8, 3)]
theorem fw_dX8_narrow_0_c : fchk 0 (cX8_narrow.data.toList.drop 0) fw_dX8_narrow_0 = true := by decide +kernel
theorem dX8_narrow_0 : Eq (decode cX8_narrow 0) (Except.ok (Instr.aload_n 0, 1)) := fE fw_dX8_narrow_0_c 0 rfl
theorem dX8_narrow_1 : Eq (decode cX8_narrow 1) (Except.ok (Instr.getfield 164, 3)) := fE fw_dX8_narrow_0_c 1 rfl
theorem dX8_narrow_4 : Eq (decode cX8_narrow 4) (Except.ok (Instr.ifCond .ne 10, 3)) := fE fw_dX8_narrow_0_c 2 rfl
theorem dX8_narrow_7 : Eq (decode cX8_narrow 7) (Except.ok (Instr.aload_n 0, 1)) := fE fw_dX8_narrow_0_c 3 rfl
theorem dX8_narrow_8 : Eq (decode cX8_narrow 8) (Except.ok (Instr.bipush (-2), 2)) := fE fw_dX8_narrow_0_c 4 rfl
theorem dX8_narrow_10 : Eq (decode cX8_narrow 10) (Except.ok (Instr.invokevirtual 122, 3)) := fE fw_dX8_narrow_0_c 5 rfl
theorem dX8_narrow_13 : Eq (decode cX8_narrow 13) (Except.ok (Instr.ireturn, 1)) := fE fw_dX8_narrow_0_c 6 rfl
theorem dX8_narrow_14 : Eq (decode cX8_narrow 14) (Except.ok (Instr.iload_n 1, 1)) := fE fw_dX8_narrow_0_c 7 rfl
theorem dX8_narrow_15 : Eq (decode cX8_narrow 15) (Except.ok (Instr.i2l, 1)) := fE fw_dX8_narrow_0_c 8 rfl
theorem dX8_narrow_16 : Eq (decode cX8_narrow 16) (Except.ok (Instr.lconst 0, 1)) := fE fw_dX8_narrow_0_c 9 rfl
theorem dX8_narrow_17 : Eq (decode cX8_narrow 17) (Except.ok (Instr.ldc2_w 178, 3)) := fE fw_dX8_narrow_0_c 10 rfl
theorem dX8_narrow_20 : Eq (decode cX8_narrow 20) (Except.ok (Instr.invokestatic 128, 3)) := fE fw_dX8_narrow_0_c 11 rfl
theorem dX8_narrow_23 : Eq (decode cX8_narrow 23) (Except.ok (Instr.ifCond .ne 10, 3)) := fE fw_dX8_narrow_0_c 12 rfl
theorem dX8_narrow_26 : Eq (decode cX8_narrow 26) (Except.ok (Instr.aload_n 0, 1)) := fE fw_dX8_narrow_0_c 13 rfl
theorem dX8_narrow_27 : Eq (decode cX8_narrow 27) (Except.ok (Instr.bipush (-6), 2)) := fE fw_dX8_narrow_0_c 14 rfl
theorem dX8_narrow_29 : Eq (decode cX8_narrow 29) (Except.ok (Instr.invokevirtual 122, 3)) := fE fw_dX8_narrow_0_c 15 rfl
theorem dX8_narrow_32 : Eq (decode cX8_narrow 32) (Except.ok (Instr.ireturn, 1)) := fE fw_dX8_narrow_0_c 16 rfl
theorem dX8_narrow_33 : Eq (decode cX8_narrow 33) (Except.ok (Instr.iload_n 1, 1)) := fE fw_dX8_narrow_0_c 17 rfl
theorem dX8_narrow_34 : Eq (decode cX8_narrow 34) (Except.ok (Instr.iconst 2, 1)) := fE fw_dX8_narrow_0_c 18 rfl
theorem dX8_narrow_35 : Eq (decode cX8_narrow 35) (Except.ok (Instr.if_icmp .ne 8, 3)) := fE fw_dX8_narrow_0_c 19 rfl
def fw_dX8_narrow_38 : List (Nat × Instr × Nat) := [(38, .aload_n 0, 1), (39, .getfield 226, 3), (42, .ireturn, 1), (43, .iconst 0, 1), (44, .istore_n 2, 1), (45, .iload_n 1, 1), (46, .iconst 3, 1), (47, .if_icmp .ne 28, 3), (50, .iconst 0, 1), (51, .istore_n 3, 1), (52, .iload_n 3, 1), (53, .bipush 7, 2), (55, .if_icmp .ge 18, 3), (58, .iload_n 2, 1), (59, .aload_n 0, 1), (60, .getfield 88, 3), (63, .iload_n 3, 1), (64, .iaload, 1), (65, .iadd, 1), (66, .istore_n 2, 1)]
theorem fw_dX8_narrow_38_c : fchk 38 (cX8_narrow.data.toList.drop 38) fw_dX8_narrow_38 = true := by decide +kernel
theorem dX8_narrow_38 : Eq (decode cX8_narrow 38) (Except.ok (Instr.aload_n 0, 1)) := fE fw_dX8_narrow_38_c 0 rfl
theorem dX8_narrow_39 : Eq (decode cX8_narrow 39) (Except.ok (Instr.getfield 226, 3)) := fE fw_dX8_narrow_38_c 1 rfl
theorem dX8_narrow_42 : Eq (decode cX8_narrow 42) (Except.ok (Instr.ireturn, 1)) := fE fw_dX8_narrow_38_c 2 rfl
theorem dX8_narrow_43 : Eq (decode cX8_narrow 43) (Except.ok (Instr.iconst 0, 1)) := fE fw_dX8_narrow_38_c 3 rfl
theorem dX8_narrow_44 : Eq (decode cX8_narrow 44) (Except.ok (Instr.istore_n 2, 1)) := fE fw_dX8_narrow_38_c 4 rfl
theorem dX8_narrow_45 : Eq (decode cX8_narrow 45) (Except.ok (Instr.iload_n 1, 1)) := fE fw_dX8_narrow_38_c 5 rfl
theorem dX8_narrow_46 : Eq (decode cX8_narrow 46) (Except.ok (Instr.iconst 3, 1)) := fE fw_dX8_narrow_38_c 6 rfl
theorem dX8_narrow_47 : Eq (decode cX8_narrow 47) (Except.ok (Instr.if_icmp .ne 28, 3)) := fE fw_dX8_narrow_38_c 7 rfl
theorem dX8_narrow_50 : Eq (decode cX8_narrow 50) (Except.ok (Instr.iconst 0, 1)) := fE fw_dX8_narrow_38_c 8 rfl
theorem dX8_narrow_51 : Eq (decode cX8_narrow 51) (Except.ok (Instr.istore_n 3, 1)) := fE fw_dX8_narrow_38_c 9 rfl
theorem dX8_narrow_52 : Eq (decode cX8_narrow 52) (Except.ok (Instr.iload_n 3, 1)) := fE fw_dX8_narrow_38_c 10 rfl
theorem dX8_narrow_53 : Eq (decode cX8_narrow 53) (Except.ok (Instr.bipush 7, 2)) := fE fw_dX8_narrow_38_c 11 rfl
theorem dX8_narrow_55 : Eq (decode cX8_narrow 55) (Except.ok (Instr.if_icmp .ge 18, 3)) := fE fw_dX8_narrow_38_c 12 rfl
theorem dX8_narrow_58 : Eq (decode cX8_narrow 58) (Except.ok (Instr.iload_n 2, 1)) := fE fw_dX8_narrow_38_c 13 rfl
theorem dX8_narrow_59 : Eq (decode cX8_narrow 59) (Except.ok (Instr.aload_n 0, 1)) := fE fw_dX8_narrow_38_c 14 rfl
theorem dX8_narrow_60 : Eq (decode cX8_narrow 60) (Except.ok (Instr.getfield 88, 3)) := fE fw_dX8_narrow_38_c 15 rfl
theorem dX8_narrow_63 : Eq (decode cX8_narrow 63) (Except.ok (Instr.iload_n 3, 1)) := fE fw_dX8_narrow_38_c 16 rfl
theorem dX8_narrow_64 : Eq (decode cX8_narrow 64) (Except.ok (Instr.iaload, 1)) := fE fw_dX8_narrow_38_c 17 rfl
theorem dX8_narrow_65 : Eq (decode cX8_narrow 65) (Except.ok (Instr.iadd, 1)) := fE fw_dX8_narrow_38_c 18 rfl
theorem dX8_narrow_66 : Eq (decode cX8_narrow 66) (Except.ok (Instr.istore_n 2, 1)) := fE fw_dX8_narrow_38_c 19 rfl
theorem dX8_narrow_67 : decode cX8_narrow 67 = .ok (.iinc 3 1, 3) := by decide +kernel
def fw_dX8_narrow_70 : List (Nat × Instr × Nat) := [(70, .goto (-18), 3), (73, .iload_n 2, 1), (74, .ireturn, 1), (75, .iconst 0, 1), (76, .istore_n 3, 1), (77, .iload_n 3, 1), (78, .aload_n 0, 1), (79, .getfield 226, 3), (82, .if_icmp .ge 21, 3), (85, .iload_n 2, 1), (86, .aload_n 0, 1), (87, .getfield 97, 3), (90, .iload_n 3, 1), (91, .iaload, 1), (92, .invokestatic 234, 3), (95, .iadd, 1), (96, .istore_n 2, 1)]
theorem fw_dX8_narrow_70_c : fchk 70 (cX8_narrow.data.toList.drop 70) fw_dX8_narrow_70 = true := by decide +kernel
theorem dX8_narrow_70 : Eq (decode cX8_narrow 70) (Except.ok (Instr.goto (-18), 3)) := fE fw_dX8_narrow_70_c 0 rfl
theorem dX8_narrow_73 : Eq (decode cX8_narrow 73) (Except.ok (Instr.iload_n 2, 1)) := fE fw_dX8_narrow_70_c 1 rfl
theorem dX8_narrow_74 : Eq (decode cX8_narrow 74) (Except.ok (Instr.ireturn, 1)) := fE fw_dX8_narrow_70_c 2 rfl
theorem dX8_narrow_75 : Eq (decode cX8_narrow 75) (Except.ok (Instr.iconst 0, 1)) := fE fw_dX8_narrow_70_c 3 rfl
theorem dX8_narrow_76 : Eq (decode cX8_narrow 76) (Except.ok (Instr.istore_n 3, 1)) := fE fw_dX8_narrow_70_c 4 rfl
theorem dX8_narrow_77 : Eq (decode cX8_narrow 77) (Except.ok (Instr.iload_n 3, 1)) := fE fw_dX8_narrow_70_c 5 rfl
theorem dX8_narrow_78 : Eq (decode cX8_narrow 78) (Except.ok (Instr.aload_n 0, 1)) := fE fw_dX8_narrow_70_c 6 rfl
theorem dX8_narrow_79 : Eq (decode cX8_narrow 79) (Except.ok (Instr.getfield 226, 3)) := fE fw_dX8_narrow_70_c 7 rfl
theorem dX8_narrow_82 : Eq (decode cX8_narrow 82) (Except.ok (Instr.if_icmp .ge 21, 3)) := fE fw_dX8_narrow_70_c 8 rfl
theorem dX8_narrow_85 : Eq (decode cX8_narrow 85) (Except.ok (Instr.iload_n 2, 1)) := fE fw_dX8_narrow_70_c 9 rfl
theorem dX8_narrow_86 : Eq (decode cX8_narrow 86) (Except.ok (Instr.aload_n 0, 1)) := fE fw_dX8_narrow_70_c 10 rfl
theorem dX8_narrow_87 : Eq (decode cX8_narrow 87) (Except.ok (Instr.getfield 97, 3)) := fE fw_dX8_narrow_70_c 11 rfl
theorem dX8_narrow_90 : Eq (decode cX8_narrow 90) (Except.ok (Instr.iload_n 3, 1)) := fE fw_dX8_narrow_70_c 12 rfl
theorem dX8_narrow_91 : Eq (decode cX8_narrow 91) (Except.ok (Instr.iaload, 1)) := fE fw_dX8_narrow_70_c 13 rfl
theorem dX8_narrow_92 : Eq (decode cX8_narrow 92) (Except.ok (Instr.invokestatic 234, 3)) := fE fw_dX8_narrow_70_c 14 rfl
theorem dX8_narrow_95 : Eq (decode cX8_narrow 95) (Except.ok (Instr.iadd, 1)) := fE fw_dX8_narrow_70_c 15 rfl
theorem dX8_narrow_96 : Eq (decode cX8_narrow 96) (Except.ok (Instr.istore_n 2, 1)) := fE fw_dX8_narrow_70_c 16 rfl
theorem dX8_narrow_97 : decode cX8_narrow 97 = .ok (.iinc 3 1, 3) := by decide +kernel
def fw_dX8_narrow_100 : List (Nat × Instr × Nat) := [(100, .goto (-23), 3), (103, .iload_n 2, 1), (104, .aload_n 0, 1), (105, .getfield 205, 3), (108, .invokestatic 234, 3), (111, .iadd, 1), (112, .istore_n 2, 1), (113, .iload_n 1, 1), (114, .ifCond .ne 7, 3), (117, .iload_n 2, 1), (118, .goto 9, 3), (121, .iload_n 2, 1), (122, .aload_n 0, 1), (123, .getfield 205, 3), (126, .imul, 1), (127, .ireturn, 1)]
theorem fw_dX8_narrow_100_c : fchk 100 (cX8_narrow.data.toList.drop 100) fw_dX8_narrow_100 = true := by decide +kernel
theorem dX8_narrow_100 : Eq (decode cX8_narrow 100) (Except.ok (Instr.goto (-23), 3)) := fE fw_dX8_narrow_100_c 0 rfl
theorem dX8_narrow_103 : Eq (decode cX8_narrow 103) (Except.ok (Instr.iload_n 2, 1)) := fE fw_dX8_narrow_100_c 1 rfl
theorem dX8_narrow_104 : Eq (decode cX8_narrow 104) (Except.ok (Instr.aload_n 0, 1)) := fE fw_dX8_narrow_100_c 2 rfl
theorem dX8_narrow_105 : Eq (decode cX8_narrow 105) (Except.ok (Instr.getfield 205, 3)) := fE fw_dX8_narrow_100_c 3 rfl
theorem dX8_narrow_108 : Eq (decode cX8_narrow 108) (Except.ok (Instr.invokestatic 234, 3)) := fE fw_dX8_narrow_100_c 4 rfl
theorem dX8_narrow_111 : Eq (decode cX8_narrow 111) (Except.ok (Instr.iadd, 1)) := fE fw_dX8_narrow_100_c 5 rfl
theorem dX8_narrow_112 : Eq (decode cX8_narrow 112) (Except.ok (Instr.istore_n 2, 1)) := fE fw_dX8_narrow_100_c 6 rfl
theorem dX8_narrow_113 : Eq (decode cX8_narrow 113) (Except.ok (Instr.iload_n 1, 1)) := fE fw_dX8_narrow_100_c 7 rfl
theorem dX8_narrow_114 : Eq (decode cX8_narrow 114) (Except.ok (Instr.ifCond .ne 7, 3)) := fE fw_dX8_narrow_100_c 8 rfl
theorem dX8_narrow_117 : Eq (decode cX8_narrow 117) (Except.ok (Instr.iload_n 2, 1)) := fE fw_dX8_narrow_100_c 9 rfl
theorem dX8_narrow_118 : Eq (decode cX8_narrow 118) (Except.ok (Instr.goto 9, 3)) := fE fw_dX8_narrow_100_c 10 rfl
theorem dX8_narrow_121 : Eq (decode cX8_narrow 121) (Except.ok (Instr.iload_n 2, 1)) := fE fw_dX8_narrow_100_c 11 rfl
theorem dX8_narrow_122 : Eq (decode cX8_narrow 122) (Except.ok (Instr.aload_n 0, 1)) := fE fw_dX8_narrow_100_c 12 rfl
theorem dX8_narrow_123 : Eq (decode cX8_narrow 123) (Except.ok (Instr.getfield 205, 3)) := fE fw_dX8_narrow_100_c 13 rfl
theorem dX8_narrow_126 : Eq (decode cX8_narrow 126) (Except.ok (Instr.imul, 1)) := fE fw_dX8_narrow_100_c 14 rfl
theorem dX8_narrow_127 : Eq (decode cX8_narrow 127) (Except.ok (Instr.ireturn, 1)) := fE fw_dX8_narrow_100_c 15 rfl
def fw_dX8_copies_0 : List (Nat × Instr × Nat) := [(0, .iconst 0, 1), (1, .istore_n 2, 1), (2, .iload_n 2, 1), (3, .bipush 74, 2), (5, .if_icmp .ge 15, 3), (8, .aload_n 1, 1), (9, .iload_n 2, 1), (10, .aload_n 0, 1), (11, .iload_n 2, 1), (12, .laload, 1), (13, .lastore, 1)]
theorem fw_dX8_copies_0_c : fchk 0 (cX8_copies.data.toList.drop 0) fw_dX8_copies_0 = true := by decide +kernel
theorem dX8_copies_0 : Eq (decode cX8_copies 0) (Except.ok (Instr.iconst 0, 1)) := fE fw_dX8_copies_0_c 0 rfl
theorem dX8_copies_1 : Eq (decode cX8_copies 1) (Except.ok (Instr.istore_n 2, 1)) := fE fw_dX8_copies_0_c 1 rfl
theorem dX8_copies_2 : Eq (decode cX8_copies 2) (Except.ok (Instr.iload_n 2, 1)) := fE fw_dX8_copies_0_c 2 rfl
theorem dX8_copies_3 : Eq (decode cX8_copies 3) (Except.ok (Instr.bipush 74, 2)) := fE fw_dX8_copies_0_c 3 rfl
theorem dX8_copies_5 : Eq (decode cX8_copies 5) (Except.ok (Instr.if_icmp .ge 15, 3)) := fE fw_dX8_copies_0_c 4 rfl
theorem dX8_copies_8 : Eq (decode cX8_copies 8) (Except.ok (Instr.aload_n 1, 1)) := fE fw_dX8_copies_0_c 5 rfl
theorem dX8_copies_9 : Eq (decode cX8_copies 9) (Except.ok (Instr.iload_n 2, 1)) := fE fw_dX8_copies_0_c 6 rfl
theorem dX8_copies_10 : Eq (decode cX8_copies 10) (Except.ok (Instr.aload_n 0, 1)) := fE fw_dX8_copies_0_c 7 rfl
theorem dX8_copies_11 : Eq (decode cX8_copies 11) (Except.ok (Instr.iload_n 2, 1)) := fE fw_dX8_copies_0_c 8 rfl
theorem dX8_copies_12 : Eq (decode cX8_copies 12) (Except.ok (Instr.laload, 1)) := fE fw_dX8_copies_0_c 9 rfl
theorem dX8_copies_13 : Eq (decode cX8_copies 13) (Except.ok (Instr.lastore, 1)) := fE fw_dX8_copies_0_c 10 rfl
theorem dX8_copies_14 : decode cX8_copies 14 = .ok (.iinc 2 1, 3) := by decide +kernel
def fw_dX8_copies_17 : List (Nat × Instr × Nat) := [(17, .goto (-15), 3), (20, .return_, 1)]
theorem fw_dX8_copies_17_c : fchk 17 (cX8_copies.data.toList.drop 17) fw_dX8_copies_17 = true := by decide +kernel
theorem dX8_copies_17 : Eq (decode cX8_copies 17) (Except.ok (Instr.goto (-15), 3)) := fE fw_dX8_copies_17_c 0 rfl
theorem dX8_copies_20 : Eq (decode cX8_copies 20) (Except.ok (Instr.return_, 1)) := fE fw_dX8_copies_17_c 1 rfl
def fw_dX8_holds_0 : List (Nat × Instr × Nat) := [(0, .aload_n 0, 1), (1, .getfield 29, 3), (4, .iload_n 1, 1), (5, .iaload, 1), (6, .bipush 9, 2), (8, .if_icmp .lt 34, 3), (11, .aload_n 0, 1), (12, .getfield 16, 3), (15, .bipush 8, 2), (17, .aload_n 0, 1), (18, .getfield 35, 3), (21, .iload_n 1, 1), (22, .iaload, 1), (23, .iadd, 1), (24, .laload, 1), (25, .aload_n 0, 1), (26, .getfield 38, 3), (29, .iload_n 1, 1), (30, .iaload, 1), (31, .i2l, 1)]
theorem fw_dX8_holds_0_c : fchk 0 (cX8_holds.data.toList.drop 0) fw_dX8_holds_0 = true := by decide +kernel
theorem dX8_holds_0 : Eq (decode cX8_holds 0) (Except.ok (Instr.aload_n 0, 1)) := fE fw_dX8_holds_0_c 0 rfl
theorem dX8_holds_1 : Eq (decode cX8_holds 1) (Except.ok (Instr.getfield 29, 3)) := fE fw_dX8_holds_0_c 1 rfl
theorem dX8_holds_4 : Eq (decode cX8_holds 4) (Except.ok (Instr.iload_n 1, 1)) := fE fw_dX8_holds_0_c 2 rfl
theorem dX8_holds_5 : Eq (decode cX8_holds 5) (Except.ok (Instr.iaload, 1)) := fE fw_dX8_holds_0_c 3 rfl
theorem dX8_holds_6 : Eq (decode cX8_holds 6) (Except.ok (Instr.bipush 9, 2)) := fE fw_dX8_holds_0_c 4 rfl
theorem dX8_holds_8 : Eq (decode cX8_holds 8) (Except.ok (Instr.if_icmp .lt 34, 3)) := fE fw_dX8_holds_0_c 5 rfl
theorem dX8_holds_11 : Eq (decode cX8_holds 11) (Except.ok (Instr.aload_n 0, 1)) := fE fw_dX8_holds_0_c 6 rfl
theorem dX8_holds_12 : Eq (decode cX8_holds 12) (Except.ok (Instr.getfield 16, 3)) := fE fw_dX8_holds_0_c 7 rfl
theorem dX8_holds_15 : Eq (decode cX8_holds 15) (Except.ok (Instr.bipush 8, 2)) := fE fw_dX8_holds_0_c 8 rfl
theorem dX8_holds_17 : Eq (decode cX8_holds 17) (Except.ok (Instr.aload_n 0, 1)) := fE fw_dX8_holds_0_c 9 rfl
theorem dX8_holds_18 : Eq (decode cX8_holds 18) (Except.ok (Instr.getfield 35, 3)) := fE fw_dX8_holds_0_c 10 rfl
theorem dX8_holds_21 : Eq (decode cX8_holds 21) (Except.ok (Instr.iload_n 1, 1)) := fE fw_dX8_holds_0_c 11 rfl
theorem dX8_holds_22 : Eq (decode cX8_holds 22) (Except.ok (Instr.iaload, 1)) := fE fw_dX8_holds_0_c 12 rfl
theorem dX8_holds_23 : Eq (decode cX8_holds 23) (Except.ok (Instr.iadd, 1)) := fE fw_dX8_holds_0_c 13 rfl
theorem dX8_holds_24 : Eq (decode cX8_holds 24) (Except.ok (Instr.laload, 1)) := fE fw_dX8_holds_0_c 14 rfl
theorem dX8_holds_25 : Eq (decode cX8_holds 25) (Except.ok (Instr.aload_n 0, 1)) := fE fw_dX8_holds_0_c 15 rfl
theorem dX8_holds_26 : Eq (decode cX8_holds 26) (Except.ok (Instr.getfield 38, 3)) := fE fw_dX8_holds_0_c 16 rfl
theorem dX8_holds_29 : Eq (decode cX8_holds 29) (Except.ok (Instr.iload_n 1, 1)) := fE fw_dX8_holds_0_c 17 rfl
theorem dX8_holds_30 : Eq (decode cX8_holds 30) (Except.ok (Instr.iaload, 1)) := fE fw_dX8_holds_0_c 18 rfl
theorem dX8_holds_31 : Eq (decode cX8_holds 31) (Except.ok (Instr.i2l, 1)) := fE fw_dX8_holds_0_c 19 rfl
def fw_dX8_holds_32 : List (Nat × Instr × Nat) := [(32, .lcmp, 1), (33, .ifCond .ne 7, 3), (36, .iconst 1, 1), (37, .goto 4, 3), (40, .iconst 0, 1), (41, .ireturn, 1), (42, .aload_n 0, 1), (43, .getfield 29, 3), (46, .iload_n 1, 1), (47, .iaload, 1), (48, .bipush 7, 2), (50, .if_icmp .eq 14, 3), (53, .aload_n 0, 1), (54, .getfield 29, 3), (57, .iload_n 1, 1), (58, .iaload, 1), (59, .bipush 8, 2), (61, .if_icmp .ne 25, 3), (64, .aload_n 0, 1), (65, .getfield 16, 3)]
theorem fw_dX8_holds_32_c : fchk 32 (cX8_holds.data.toList.drop 32) fw_dX8_holds_32 = true := by decide +kernel
theorem dX8_holds_32 : Eq (decode cX8_holds 32) (Except.ok (Instr.lcmp, 1)) := fE fw_dX8_holds_32_c 0 rfl
theorem dX8_holds_33 : Eq (decode cX8_holds 33) (Except.ok (Instr.ifCond .ne 7, 3)) := fE fw_dX8_holds_32_c 1 rfl
theorem dX8_holds_36 : Eq (decode cX8_holds 36) (Except.ok (Instr.iconst 1, 1)) := fE fw_dX8_holds_32_c 2 rfl
theorem dX8_holds_37 : Eq (decode cX8_holds 37) (Except.ok (Instr.goto 4, 3)) := fE fw_dX8_holds_32_c 3 rfl
theorem dX8_holds_40 : Eq (decode cX8_holds 40) (Except.ok (Instr.iconst 0, 1)) := fE fw_dX8_holds_32_c 4 rfl
theorem dX8_holds_41 : Eq (decode cX8_holds 41) (Except.ok (Instr.ireturn, 1)) := fE fw_dX8_holds_32_c 5 rfl
theorem dX8_holds_42 : Eq (decode cX8_holds 42) (Except.ok (Instr.aload_n 0, 1)) := fE fw_dX8_holds_32_c 6 rfl
theorem dX8_holds_43 : Eq (decode cX8_holds 43) (Except.ok (Instr.getfield 29, 3)) := fE fw_dX8_holds_32_c 7 rfl
theorem dX8_holds_46 : Eq (decode cX8_holds 46) (Except.ok (Instr.iload_n 1, 1)) := fE fw_dX8_holds_32_c 8 rfl
theorem dX8_holds_47 : Eq (decode cX8_holds 47) (Except.ok (Instr.iaload, 1)) := fE fw_dX8_holds_32_c 9 rfl
theorem dX8_holds_48 : Eq (decode cX8_holds 48) (Except.ok (Instr.bipush 7, 2)) := fE fw_dX8_holds_32_c 10 rfl
theorem dX8_holds_50 : Eq (decode cX8_holds 50) (Except.ok (Instr.if_icmp .eq 14, 3)) := fE fw_dX8_holds_32_c 11 rfl
theorem dX8_holds_53 : Eq (decode cX8_holds 53) (Except.ok (Instr.aload_n 0, 1)) := fE fw_dX8_holds_32_c 12 rfl
theorem dX8_holds_54 : Eq (decode cX8_holds 54) (Except.ok (Instr.getfield 29, 3)) := fE fw_dX8_holds_32_c 13 rfl
theorem dX8_holds_57 : Eq (decode cX8_holds 57) (Except.ok (Instr.iload_n 1, 1)) := fE fw_dX8_holds_32_c 14 rfl
theorem dX8_holds_58 : Eq (decode cX8_holds 58) (Except.ok (Instr.iaload, 1)) := fE fw_dX8_holds_32_c 15 rfl
theorem dX8_holds_59 : Eq (decode cX8_holds 59) (Except.ok (Instr.bipush 8, 2)) := fE fw_dX8_holds_32_c 16 rfl
theorem dX8_holds_61 : Eq (decode cX8_holds 61) (Except.ok (Instr.if_icmp .ne 25, 3)) := fE fw_dX8_holds_32_c 17 rfl
theorem dX8_holds_64 : Eq (decode cX8_holds 64) (Except.ok (Instr.aload_n 0, 1)) := fE fw_dX8_holds_32_c 18 rfl
theorem dX8_holds_65 : Eq (decode cX8_holds 65) (Except.ok (Instr.getfield 16, 3)) := fE fw_dX8_holds_32_c 19 rfl
def fw_dX8_holds_68 : List (Nat × Instr × Nat) := [(68, .aload_n 0, 1), (69, .getfield 35, 3), (72, .iload_n 1, 1), (73, .iaload, 1), (74, .laload, 1), (75, .ldc2_w 237, 3), (78, .lcmp, 1), (79, .ifCond .le 7, 3), (82, .iconst 1, 1), (83, .goto 4, 3), (86, .iconst 0, 1), (87, .ireturn, 1)]
theorem fw_dX8_holds_68_c : fchk 68 (cX8_holds.data.toList.drop 68) fw_dX8_holds_68 = true := by decide +kernel
theorem dX8_holds_68 : Eq (decode cX8_holds 68) (Except.ok (Instr.aload_n 0, 1)) := fE fw_dX8_holds_68_c 0 rfl
theorem dX8_holds_69 : Eq (decode cX8_holds 69) (Except.ok (Instr.getfield 35, 3)) := fE fw_dX8_holds_68_c 1 rfl
theorem dX8_holds_72 : Eq (decode cX8_holds 72) (Except.ok (Instr.iload_n 1, 1)) := fE fw_dX8_holds_68_c 2 rfl
theorem dX8_holds_73 : Eq (decode cX8_holds 73) (Except.ok (Instr.iaload, 1)) := fE fw_dX8_holds_68_c 3 rfl
theorem dX8_holds_74 : Eq (decode cX8_holds 74) (Except.ok (Instr.laload, 1)) := fE fw_dX8_holds_68_c 4 rfl
theorem dX8_holds_75 : Eq (decode cX8_holds 75) (Except.ok (Instr.ldc2_w 237, 3)) := fE fw_dX8_holds_68_c 5 rfl
theorem dX8_holds_78 : Eq (decode cX8_holds 78) (Except.ok (Instr.lcmp, 1)) := fE fw_dX8_holds_68_c 6 rfl
theorem dX8_holds_79 : Eq (decode cX8_holds 79) (Except.ok (Instr.ifCond .le 7, 3)) := fE fw_dX8_holds_68_c 7 rfl
theorem dX8_holds_82 : Eq (decode cX8_holds 82) (Except.ok (Instr.iconst 1, 1)) := fE fw_dX8_holds_68_c 8 rfl
theorem dX8_holds_83 : Eq (decode cX8_holds 83) (Except.ok (Instr.goto 4, 3)) := fE fw_dX8_holds_68_c 9 rfl
theorem dX8_holds_86 : Eq (decode cX8_holds 86) (Except.ok (Instr.iconst 0, 1)) := fE fw_dX8_holds_68_c 10 rfl
theorem dX8_holds_87 : Eq (decode cX8_holds 87) (Except.ok (Instr.ireturn, 1)) := fE fw_dX8_holds_68_c 11 rfl
set_option maxRecDepth 20000 in
theorem gi_wsX8_puts_0 : GoodIn wsX8_puts wsX8_puts := goodIn_sub (fun _ h => h) (by decide +kernel)
set_option maxRecDepth 20000 in
theorem gi_wsX8_puts_1 : GoodIn wsX8_puts wsX80 := goodIn_sub (fun w h => List.mem_cons_of_mem _ (List.mem_append_right _ h)) (by decide +kernel)
def bs_wsX8_puts : List (List Cond) := [wsX8_puts, wsX80]
theorem bs_wsX8_puts_in : ∀ b ∈ bs_wsX8_puts, GoodIn wsX8_puts b := List.forall_mem_cons.mpr ⟨gi_wsX8_puts_0, List.forall_mem_cons.mpr ⟨gi_wsX8_puts_1, (fun _ h => absurd h List.not_mem_nil)⟩⟩
set_option maxRecDepth 20000 in
theorem ggX8_puts_X8_cut : GoodIn wsX8_puts wsX8_cut := goodIn_k (gi_q bs_wsX8_puts_in _ [(0, 7)] rfl) (goodIn_app (gi_q bs_wsX8_puts_in _ [(0, 8)] rfl) (gi_wsX8_puts_1))
set_option maxRecDepth 20000 in
theorem gX8_puts_X8_cut : GoodIn wsX8_puts (wsV RX8 132 RX8 yX8_cut wsX8_cut) := goodIn_app (gi_q bs_wsX8_puts_in _ [(0, 3), (0, 4), (0, 5), (0, 6)] rfl) ggX8_puts_X8_cut
def fw_dX8_puts_0 : List (Nat × Instr × Nat) := [(0, .aload_n 0, 1), (1, .getfield 7, 3), (4, .aload_n 0, 1), (5, .getfield 32, 3), (8, .iload_n 1, 1), (9, .iaload, 1), (10, .aload_n 0, 1), (11, .aload_n 0, 1), (12, .getfield 32, 3), (15, .iload_n 1, 1), (16, .iaload, 1), (17, .lload_n 2, 1), (18, .invokevirtual 132, 3), (21, .lastore, 1), (22, .return_, 1)]
theorem fw_dX8_puts_0_c : fchk 0 (cX8_puts.data.toList.drop 0) fw_dX8_puts_0 = true := by decide +kernel
theorem dX8_puts_0 : Eq (decode cX8_puts 0) (Except.ok (Instr.aload_n 0, 1)) := fE fw_dX8_puts_0_c 0 rfl
theorem dX8_puts_1 : Eq (decode cX8_puts 1) (Except.ok (Instr.getfield 7, 3)) := fE fw_dX8_puts_0_c 1 rfl
theorem dX8_puts_4 : Eq (decode cX8_puts 4) (Except.ok (Instr.aload_n 0, 1)) := fE fw_dX8_puts_0_c 2 rfl
theorem dX8_puts_5 : Eq (decode cX8_puts 5) (Except.ok (Instr.getfield 32, 3)) := fE fw_dX8_puts_0_c 3 rfl
theorem dX8_puts_8 : Eq (decode cX8_puts 8) (Except.ok (Instr.iload_n 1, 1)) := fE fw_dX8_puts_0_c 4 rfl
theorem dX8_puts_9 : Eq (decode cX8_puts 9) (Except.ok (Instr.iaload, 1)) := fE fw_dX8_puts_0_c 5 rfl
theorem dX8_puts_10 : Eq (decode cX8_puts 10) (Except.ok (Instr.aload_n 0, 1)) := fE fw_dX8_puts_0_c 6 rfl
theorem dX8_puts_11 : Eq (decode cX8_puts 11) (Except.ok (Instr.aload_n 0, 1)) := fE fw_dX8_puts_0_c 7 rfl
theorem dX8_puts_12 : Eq (decode cX8_puts 12) (Except.ok (Instr.getfield 32, 3)) := fE fw_dX8_puts_0_c 8 rfl
theorem dX8_puts_15 : Eq (decode cX8_puts 15) (Except.ok (Instr.iload_n 1, 1)) := fE fw_dX8_puts_0_c 9 rfl
theorem dX8_puts_16 : Eq (decode cX8_puts 16) (Except.ok (Instr.iaload, 1)) := fE fw_dX8_puts_0_c 10 rfl
theorem dX8_puts_17 : Eq (decode cX8_puts 17) (Except.ok (Instr.lload_n 2, 1)) := fE fw_dX8_puts_0_c 11 rfl
theorem dX8_puts_18 : Eq (decode cX8_puts 18) (Except.ok (Instr.invokevirtual 132, 3)) := fE fw_dX8_puts_0_c 12 rfl
theorem dX8_puts_21 : Eq (decode cX8_puts 21) (Except.ok (Instr.lastore, 1)) := fE fw_dX8_puts_0_c 13 rfl
theorem dX8_puts_22 : Eq (decode cX8_puts 22) (Except.ok (Instr.return_, 1)) := fE fw_dX8_puts_0_c 14 rfl
set_option maxRecDepth 20000 in
theorem gi_wsX8_worker_0 : GoodIn wsX8_worker wsX8_worker := goodIn_sub (fun _ h => h) (by decide +kernel)
set_option maxRecDepth 20000 in
theorem gi_wsX8_worker_1 : GoodIn wsX8_worker wsX80 := goodIn_sub (fun w h => List.mem_cons_of_mem _ (List.mem_append_right _ h)) (by decide +kernel)
def bs_wsX8_worker : List (List Cond) := [wsX8_worker, wsX80]
theorem bs_wsX8_worker_in : ∀ b ∈ bs_wsX8_worker, GoodIn wsX8_worker b := List.forall_mem_cons.mpr ⟨gi_wsX8_worker_0, List.forall_mem_cons.mpr ⟨gi_wsX8_worker_1, (fun _ h => absurd h List.not_mem_nil)⟩⟩
set_option maxRecDepth 20000 in
theorem ggX8_worker_X8_puts : GoodIn wsX8_worker wsX8_puts := goodIn_k (gi_q bs_wsX8_worker_in _ [(0, 12)] rfl) (goodIn_app (gi_q bs_wsX8_worker_in _ [(0, 7), (0, 6), (0, 13), (0, 14), (0, 15), (0, 11), (0, 16), (0, 5)] rfl) (gi_wsX8_worker_1))
set_option maxRecDepth 20000 in
theorem gX8_worker_X8_puts : GoodIn wsX8_worker (wsV RX8 239 RX8 yX8_puts wsX8_puts) := goodIn_app (gi_q bs_wsX8_worker_in _ [(0, 8), (0, 9), (0, 10), (0, 11)] rfl) ggX8_worker_X8_puts
def fw_dX8_worker_0 : List (Nat × Instr × Nat) := [(0, .aload_n 0, 1), (1, .getfield 16, 3), (4, .aload_n 0, 1), (5, .getfield 35, 3), (8, .iload_n 1, 1), (9, .iaload, 1), (10, .laload, 1), (11, .lstore_n 2, 1), (12, .aload_n 0, 1), (13, .getfield 16, 3), (16, .aload_n 0, 1), (17, .getfield 38, 3), (20, .iload_n 1, 1), (21, .iaload, 1), (22, .laload, 1), (23, .lstore 4, 2), (25, .aload_n 0, 1), (26, .getfield 29, 3), (29, .iload_n 1, 1), (30, .iaload, 1)]
theorem fw_dX8_worker_0_c : fchk 0 (cX8_worker.data.toList.drop 0) fw_dX8_worker_0 = true := by decide +kernel
theorem dX8_worker_0 : Eq (decode cX8_worker 0) (Except.ok (Instr.aload_n 0, 1)) := fE fw_dX8_worker_0_c 0 rfl
theorem dX8_worker_1 : Eq (decode cX8_worker 1) (Except.ok (Instr.getfield 16, 3)) := fE fw_dX8_worker_0_c 1 rfl
theorem dX8_worker_4 : Eq (decode cX8_worker 4) (Except.ok (Instr.aload_n 0, 1)) := fE fw_dX8_worker_0_c 2 rfl
theorem dX8_worker_5 : Eq (decode cX8_worker 5) (Except.ok (Instr.getfield 35, 3)) := fE fw_dX8_worker_0_c 3 rfl
theorem dX8_worker_8 : Eq (decode cX8_worker 8) (Except.ok (Instr.iload_n 1, 1)) := fE fw_dX8_worker_0_c 4 rfl
theorem dX8_worker_9 : Eq (decode cX8_worker 9) (Except.ok (Instr.iaload, 1)) := fE fw_dX8_worker_0_c 5 rfl
theorem dX8_worker_10 : Eq (decode cX8_worker 10) (Except.ok (Instr.laload, 1)) := fE fw_dX8_worker_0_c 6 rfl
theorem dX8_worker_11 : Eq (decode cX8_worker 11) (Except.ok (Instr.lstore_n 2, 1)) := fE fw_dX8_worker_0_c 7 rfl
theorem dX8_worker_12 : Eq (decode cX8_worker 12) (Except.ok (Instr.aload_n 0, 1)) := fE fw_dX8_worker_0_c 8 rfl
theorem dX8_worker_13 : Eq (decode cX8_worker 13) (Except.ok (Instr.getfield 16, 3)) := fE fw_dX8_worker_0_c 9 rfl
theorem dX8_worker_16 : Eq (decode cX8_worker 16) (Except.ok (Instr.aload_n 0, 1)) := fE fw_dX8_worker_0_c 10 rfl
theorem dX8_worker_17 : Eq (decode cX8_worker 17) (Except.ok (Instr.getfield 38, 3)) := fE fw_dX8_worker_0_c 11 rfl
theorem dX8_worker_20 : Eq (decode cX8_worker 20) (Except.ok (Instr.iload_n 1, 1)) := fE fw_dX8_worker_0_c 12 rfl
theorem dX8_worker_21 : Eq (decode cX8_worker 21) (Except.ok (Instr.iaload, 1)) := fE fw_dX8_worker_0_c 13 rfl
theorem dX8_worker_22 : Eq (decode cX8_worker 22) (Except.ok (Instr.laload, 1)) := fE fw_dX8_worker_0_c 14 rfl
theorem dX8_worker_23 : Eq (decode cX8_worker 23) (Except.ok (Instr.lstore 4, 2)) := fE fw_dX8_worker_0_c 15 rfl
theorem dX8_worker_25 : Eq (decode cX8_worker 25) (Except.ok (Instr.aload_n 0, 1)) := fE fw_dX8_worker_0_c 16 rfl
theorem dX8_worker_26 : Eq (decode cX8_worker 26) (Except.ok (Instr.getfield 29, 3)) := fE fw_dX8_worker_0_c 17 rfl
theorem dX8_worker_29 : Eq (decode cX8_worker 29) (Except.ok (Instr.iload_n 1, 1)) := fE fw_dX8_worker_0_c 18 rfl
theorem dX8_worker_30 : Eq (decode cX8_worker 30) (Except.ok (Instr.iaload, 1)) := fE fw_dX8_worker_0_c 19 rfl
def fw_dX8_worker_31 : List (Nat × Instr × Nat) := [(31, .iconst 2, 1), (32, .if_icmp .ne 10, 3), (35, .lload_n 2, 1), (36, .lload 4, 2), (38, .ladd, 1), (39, .goto 41, 3), (42, .aload_n 0, 1), (43, .getfield 29, 3), (46, .iload_n 1, 1), (47, .iaload, 1), (48, .iconst 3, 1), (49, .if_icmp .ne 10, 3), (52, .lload_n 2, 1), (53, .lload 4, 2), (55, .lsub, 1), (56, .goto 24, 3), (59, .aload_n 0, 1), (60, .getfield 29, 3), (63, .iload_n 1, 1), (64, .iaload, 1)]
theorem fw_dX8_worker_31_c : fchk 31 (cX8_worker.data.toList.drop 31) fw_dX8_worker_31 = true := by decide +kernel
theorem dX8_worker_31 : Eq (decode cX8_worker 31) (Except.ok (Instr.iconst 2, 1)) := fE fw_dX8_worker_31_c 0 rfl
theorem dX8_worker_32 : Eq (decode cX8_worker 32) (Except.ok (Instr.if_icmp .ne 10, 3)) := fE fw_dX8_worker_31_c 1 rfl
theorem dX8_worker_35 : Eq (decode cX8_worker 35) (Except.ok (Instr.lload_n 2, 1)) := fE fw_dX8_worker_31_c 2 rfl
theorem dX8_worker_36 : Eq (decode cX8_worker 36) (Except.ok (Instr.lload 4, 2)) := fE fw_dX8_worker_31_c 3 rfl
theorem dX8_worker_38 : Eq (decode cX8_worker 38) (Except.ok (Instr.ladd, 1)) := fE fw_dX8_worker_31_c 4 rfl
theorem dX8_worker_39 : Eq (decode cX8_worker 39) (Except.ok (Instr.goto 41, 3)) := fE fw_dX8_worker_31_c 5 rfl
theorem dX8_worker_42 : Eq (decode cX8_worker 42) (Except.ok (Instr.aload_n 0, 1)) := fE fw_dX8_worker_31_c 6 rfl
theorem dX8_worker_43 : Eq (decode cX8_worker 43) (Except.ok (Instr.getfield 29, 3)) := fE fw_dX8_worker_31_c 7 rfl
theorem dX8_worker_46 : Eq (decode cX8_worker 46) (Except.ok (Instr.iload_n 1, 1)) := fE fw_dX8_worker_31_c 8 rfl
theorem dX8_worker_47 : Eq (decode cX8_worker 47) (Except.ok (Instr.iaload, 1)) := fE fw_dX8_worker_31_c 9 rfl
theorem dX8_worker_48 : Eq (decode cX8_worker 48) (Except.ok (Instr.iconst 3, 1)) := fE fw_dX8_worker_31_c 10 rfl
theorem dX8_worker_49 : Eq (decode cX8_worker 49) (Except.ok (Instr.if_icmp .ne 10, 3)) := fE fw_dX8_worker_31_c 11 rfl
theorem dX8_worker_52 : Eq (decode cX8_worker 52) (Except.ok (Instr.lload_n 2, 1)) := fE fw_dX8_worker_31_c 12 rfl
theorem dX8_worker_53 : Eq (decode cX8_worker 53) (Except.ok (Instr.lload 4, 2)) := fE fw_dX8_worker_31_c 13 rfl
theorem dX8_worker_55 : Eq (decode cX8_worker 55) (Except.ok (Instr.lsub, 1)) := fE fw_dX8_worker_31_c 14 rfl
theorem dX8_worker_56 : Eq (decode cX8_worker 56) (Except.ok (Instr.goto 24, 3)) := fE fw_dX8_worker_31_c 15 rfl
theorem dX8_worker_59 : Eq (decode cX8_worker 59) (Except.ok (Instr.aload_n 0, 1)) := fE fw_dX8_worker_31_c 16 rfl
theorem dX8_worker_60 : Eq (decode cX8_worker 60) (Except.ok (Instr.getfield 29, 3)) := fE fw_dX8_worker_31_c 17 rfl
theorem dX8_worker_63 : Eq (decode cX8_worker 63) (Except.ok (Instr.iload_n 1, 1)) := fE fw_dX8_worker_31_c 18 rfl
theorem dX8_worker_64 : Eq (decode cX8_worker 64) (Except.ok (Instr.iaload, 1)) := fE fw_dX8_worker_31_c 19 rfl
def fw_dX8_worker_65 : List (Nat × Instr × Nat) := [(65, .iconst 4, 1), (66, .if_icmp .ne 10, 3), (69, .lload_n 2, 1), (70, .lload 4, 2), (72, .land, 1), (73, .goto 7, 3), (76, .lload_n 2, 1), (77, .lload 4, 2), (79, .lxor, 1), (80, .lstore 6, 2), (82, .aload_n 0, 1), (83, .getfield 29, 3), (86, .iload_n 1, 1), (87, .iaload, 1), (88, .iconst 2, 1), (89, .if_icmp .ne 30, 3), (92, .lload 6, 2), (94, .lconst 1, 1), (95, .aload_n 0, 1), (96, .getfield 25, 3)]
theorem fw_dX8_worker_65_c : fchk 65 (cX8_worker.data.toList.drop 65) fw_dX8_worker_65 = true := by decide +kernel
theorem dX8_worker_65 : Eq (decode cX8_worker 65) (Except.ok (Instr.iconst 4, 1)) := fE fw_dX8_worker_65_c 0 rfl
theorem dX8_worker_66 : Eq (decode cX8_worker 66) (Except.ok (Instr.if_icmp .ne 10, 3)) := fE fw_dX8_worker_65_c 1 rfl
theorem dX8_worker_69 : Eq (decode cX8_worker 69) (Except.ok (Instr.lload_n 2, 1)) := fE fw_dX8_worker_65_c 2 rfl
theorem dX8_worker_70 : Eq (decode cX8_worker 70) (Except.ok (Instr.lload 4, 2)) := fE fw_dX8_worker_65_c 3 rfl
theorem dX8_worker_72 : Eq (decode cX8_worker 72) (Except.ok (Instr.land, 1)) := fE fw_dX8_worker_65_c 4 rfl
theorem dX8_worker_73 : Eq (decode cX8_worker 73) (Except.ok (Instr.goto 7, 3)) := fE fw_dX8_worker_65_c 5 rfl
theorem dX8_worker_76 : Eq (decode cX8_worker 76) (Except.ok (Instr.lload_n 2, 1)) := fE fw_dX8_worker_65_c 6 rfl
theorem dX8_worker_77 : Eq (decode cX8_worker 77) (Except.ok (Instr.lload 4, 2)) := fE fw_dX8_worker_65_c 7 rfl
theorem dX8_worker_79 : Eq (decode cX8_worker 79) (Except.ok (Instr.lxor, 1)) := fE fw_dX8_worker_65_c 8 rfl
theorem dX8_worker_80 : Eq (decode cX8_worker 80) (Except.ok (Instr.lstore 6, 2)) := fE fw_dX8_worker_65_c 9 rfl
theorem dX8_worker_82 : Eq (decode cX8_worker 82) (Except.ok (Instr.aload_n 0, 1)) := fE fw_dX8_worker_65_c 10 rfl
theorem dX8_worker_83 : Eq (decode cX8_worker 83) (Except.ok (Instr.getfield 29, 3)) := fE fw_dX8_worker_65_c 11 rfl
theorem dX8_worker_86 : Eq (decode cX8_worker 86) (Except.ok (Instr.iload_n 1, 1)) := fE fw_dX8_worker_65_c 12 rfl
theorem dX8_worker_87 : Eq (decode cX8_worker 87) (Except.ok (Instr.iaload, 1)) := fE fw_dX8_worker_65_c 13 rfl
theorem dX8_worker_88 : Eq (decode cX8_worker 88) (Except.ok (Instr.iconst 2, 1)) := fE fw_dX8_worker_65_c 14 rfl
theorem dX8_worker_89 : Eq (decode cX8_worker 89) (Except.ok (Instr.if_icmp .ne 30, 3)) := fE fw_dX8_worker_65_c 15 rfl
theorem dX8_worker_92 : Eq (decode cX8_worker 92) (Except.ok (Instr.lload 6, 2)) := fE fw_dX8_worker_65_c 16 rfl
theorem dX8_worker_94 : Eq (decode cX8_worker 94) (Except.ok (Instr.lconst 1, 1)) := fE fw_dX8_worker_65_c 17 rfl
theorem dX8_worker_95 : Eq (decode cX8_worker 95) (Except.ok (Instr.aload_n 0, 1)) := fE fw_dX8_worker_65_c 18 rfl
theorem dX8_worker_96 : Eq (decode cX8_worker 96) (Except.ok (Instr.getfield 25, 3)) := fE fw_dX8_worker_65_c 19 rfl
def fw_dX8_worker_99 : List (Nat × Instr × Nat) := [(99, .aload_n 0, 1), (100, .getfield 32, 3), (103, .iload_n 1, 1), (104, .iaload, 1), (105, .iaload, 1), (106, .lshl, 1), (107, .lcmp, 1), (108, .ifCond .lt 7, 3), (111, .iconst 1, 1), (112, .goto 29, 3), (115, .iconst 0, 1), (116, .goto 25, 3), (119, .aload_n 0, 1), (120, .getfield 29, 3), (123, .iload_n 1, 1), (124, .iaload, 1), (125, .iconst 3, 1), (126, .if_icmp .ne 14, 3), (129, .lload 4, 2), (131, .lload_n 2, 1)]
theorem fw_dX8_worker_99_c : fchk 99 (cX8_worker.data.toList.drop 99) fw_dX8_worker_99 = true := by decide +kernel
theorem dX8_worker_99 : Eq (decode cX8_worker 99) (Except.ok (Instr.aload_n 0, 1)) := fE fw_dX8_worker_99_c 0 rfl
theorem dX8_worker_100 : Eq (decode cX8_worker 100) (Except.ok (Instr.getfield 32, 3)) := fE fw_dX8_worker_99_c 1 rfl
theorem dX8_worker_103 : Eq (decode cX8_worker 103) (Except.ok (Instr.iload_n 1, 1)) := fE fw_dX8_worker_99_c 2 rfl
theorem dX8_worker_104 : Eq (decode cX8_worker 104) (Except.ok (Instr.iaload, 1)) := fE fw_dX8_worker_99_c 3 rfl
theorem dX8_worker_105 : Eq (decode cX8_worker 105) (Except.ok (Instr.iaload, 1)) := fE fw_dX8_worker_99_c 4 rfl
theorem dX8_worker_106 : Eq (decode cX8_worker 106) (Except.ok (Instr.lshl, 1)) := fE fw_dX8_worker_99_c 5 rfl
theorem dX8_worker_107 : Eq (decode cX8_worker 107) (Except.ok (Instr.lcmp, 1)) := fE fw_dX8_worker_99_c 6 rfl
theorem dX8_worker_108 : Eq (decode cX8_worker 108) (Except.ok (Instr.ifCond .lt 7, 3)) := fE fw_dX8_worker_99_c 7 rfl
theorem dX8_worker_111 : Eq (decode cX8_worker 111) (Except.ok (Instr.iconst 1, 1)) := fE fw_dX8_worker_99_c 8 rfl
theorem dX8_worker_112 : Eq (decode cX8_worker 112) (Except.ok (Instr.goto 29, 3)) := fE fw_dX8_worker_99_c 9 rfl
theorem dX8_worker_115 : Eq (decode cX8_worker 115) (Except.ok (Instr.iconst 0, 1)) := fE fw_dX8_worker_99_c 10 rfl
theorem dX8_worker_116 : Eq (decode cX8_worker 116) (Except.ok (Instr.goto 25, 3)) := fE fw_dX8_worker_99_c 11 rfl
theorem dX8_worker_119 : Eq (decode cX8_worker 119) (Except.ok (Instr.aload_n 0, 1)) := fE fw_dX8_worker_99_c 12 rfl
theorem dX8_worker_120 : Eq (decode cX8_worker 120) (Except.ok (Instr.getfield 29, 3)) := fE fw_dX8_worker_99_c 13 rfl
theorem dX8_worker_123 : Eq (decode cX8_worker 123) (Except.ok (Instr.iload_n 1, 1)) := fE fw_dX8_worker_99_c 14 rfl
theorem dX8_worker_124 : Eq (decode cX8_worker 124) (Except.ok (Instr.iaload, 1)) := fE fw_dX8_worker_99_c 15 rfl
theorem dX8_worker_125 : Eq (decode cX8_worker 125) (Except.ok (Instr.iconst 3, 1)) := fE fw_dX8_worker_99_c 16 rfl
theorem dX8_worker_126 : Eq (decode cX8_worker 126) (Except.ok (Instr.if_icmp .ne 14, 3)) := fE fw_dX8_worker_99_c 17 rfl
theorem dX8_worker_129 : Eq (decode cX8_worker 129) (Except.ok (Instr.lload 4, 2)) := fE fw_dX8_worker_99_c 18 rfl
theorem dX8_worker_131 : Eq (decode cX8_worker 131) (Except.ok (Instr.lload_n 2, 1)) := fE fw_dX8_worker_99_c 19 rfl
def fw_dX8_worker_132 : List (Nat × Instr × Nat) := [(132, .lcmp, 1), (133, .ifCond .le 7, 3), (136, .iconst 1, 1), (137, .goto 4, 3), (140, .iconst 0, 1), (141, .istore 8, 2), (143, .aload_n 0, 1), (144, .iload_n 1, 1), (145, .lload 6, 2), (147, .invokevirtual 239, 3), (150, .aload_n 0, 1), (151, .getfield 7, 3), (154, .bipush 8, 2), (156, .aload_n 0, 1), (157, .getfield 7, 3), (160, .aload_n 0, 1), (161, .getfield 32, 3), (164, .iload_n 1, 1), (165, .iaload, 1), (166, .laload, 1)]
theorem fw_dX8_worker_132_c : fchk 132 (cX8_worker.data.toList.drop 132) fw_dX8_worker_132 = true := by decide +kernel
theorem dX8_worker_132 : Eq (decode cX8_worker 132) (Except.ok (Instr.lcmp, 1)) := fE fw_dX8_worker_132_c 0 rfl
theorem dX8_worker_133 : Eq (decode cX8_worker 133) (Except.ok (Instr.ifCond .le 7, 3)) := fE fw_dX8_worker_132_c 1 rfl
theorem dX8_worker_136 : Eq (decode cX8_worker 136) (Except.ok (Instr.iconst 1, 1)) := fE fw_dX8_worker_132_c 2 rfl
theorem dX8_worker_137 : Eq (decode cX8_worker 137) (Except.ok (Instr.goto 4, 3)) := fE fw_dX8_worker_132_c 3 rfl
theorem dX8_worker_140 : Eq (decode cX8_worker 140) (Except.ok (Instr.iconst 0, 1)) := fE fw_dX8_worker_132_c 4 rfl
theorem dX8_worker_141 : Eq (decode cX8_worker 141) (Except.ok (Instr.istore 8, 2)) := fE fw_dX8_worker_132_c 5 rfl
theorem dX8_worker_143 : Eq (decode cX8_worker 143) (Except.ok (Instr.aload_n 0, 1)) := fE fw_dX8_worker_132_c 6 rfl
theorem dX8_worker_144 : Eq (decode cX8_worker 144) (Except.ok (Instr.iload_n 1, 1)) := fE fw_dX8_worker_132_c 7 rfl
theorem dX8_worker_145 : Eq (decode cX8_worker 145) (Except.ok (Instr.lload 6, 2)) := fE fw_dX8_worker_132_c 8 rfl
theorem dX8_worker_147 : Eq (decode cX8_worker 147) (Except.ok (Instr.invokevirtual 239, 3)) := fE fw_dX8_worker_132_c 9 rfl
theorem dX8_worker_150 : Eq (decode cX8_worker 150) (Except.ok (Instr.aload_n 0, 1)) := fE fw_dX8_worker_132_c 10 rfl
theorem dX8_worker_151 : Eq (decode cX8_worker 151) (Except.ok (Instr.getfield 7, 3)) := fE fw_dX8_worker_132_c 11 rfl
theorem dX8_worker_154 : Eq (decode cX8_worker 154) (Except.ok (Instr.bipush 8, 2)) := fE fw_dX8_worker_132_c 12 rfl
theorem dX8_worker_156 : Eq (decode cX8_worker 156) (Except.ok (Instr.aload_n 0, 1)) := fE fw_dX8_worker_132_c 13 rfl
theorem dX8_worker_157 : Eq (decode cX8_worker 157) (Except.ok (Instr.getfield 7, 3)) := fE fw_dX8_worker_132_c 14 rfl
theorem dX8_worker_160 : Eq (decode cX8_worker 160) (Except.ok (Instr.aload_n 0, 1)) := fE fw_dX8_worker_132_c 15 rfl
theorem dX8_worker_161 : Eq (decode cX8_worker 161) (Except.ok (Instr.getfield 32, 3)) := fE fw_dX8_worker_132_c 16 rfl
theorem dX8_worker_164 : Eq (decode cX8_worker 164) (Except.ok (Instr.iload_n 1, 1)) := fE fw_dX8_worker_132_c 17 rfl
theorem dX8_worker_165 : Eq (decode cX8_worker 165) (Except.ok (Instr.iaload, 1)) := fE fw_dX8_worker_132_c 18 rfl
theorem dX8_worker_166 : Eq (decode cX8_worker 166) (Except.ok (Instr.laload, 1)) := fE fw_dX8_worker_132_c 19 rfl
def fw_dX8_worker_167 : List (Nat × Instr × Nat) := [(167, .lconst 0, 1), (168, .lcmp, 1), (169, .ifCond .ne 7, 3), (172, .lconst 1, 1), (173, .goto 4, 3), (176, .lconst 0, 1), (177, .lastore, 1), (178, .aload_n 0, 1), (179, .getfield 7, 3), (182, .bipush 9, 2), (184, .iload 8, 2), (186, .ifCond .eq 7, 3), (189, .lconst 1, 1), (190, .goto 4, 3), (193, .lconst 0, 1), (194, .lastore, 1), (195, .return_, 1)]
theorem fw_dX8_worker_167_c : fchk 167 (cX8_worker.data.toList.drop 167) fw_dX8_worker_167 = true := by decide +kernel
theorem dX8_worker_167 : Eq (decode cX8_worker 167) (Except.ok (Instr.lconst 0, 1)) := fE fw_dX8_worker_167_c 0 rfl
theorem dX8_worker_168 : Eq (decode cX8_worker 168) (Except.ok (Instr.lcmp, 1)) := fE fw_dX8_worker_167_c 1 rfl
theorem dX8_worker_169 : Eq (decode cX8_worker 169) (Except.ok (Instr.ifCond .ne 7, 3)) := fE fw_dX8_worker_167_c 2 rfl
theorem dX8_worker_172 : Eq (decode cX8_worker 172) (Except.ok (Instr.lconst 1, 1)) := fE fw_dX8_worker_167_c 3 rfl
theorem dX8_worker_173 : Eq (decode cX8_worker 173) (Except.ok (Instr.goto 4, 3)) := fE fw_dX8_worker_167_c 4 rfl
theorem dX8_worker_176 : Eq (decode cX8_worker 176) (Except.ok (Instr.lconst 0, 1)) := fE fw_dX8_worker_167_c 5 rfl
theorem dX8_worker_177 : Eq (decode cX8_worker 177) (Except.ok (Instr.lastore, 1)) := fE fw_dX8_worker_167_c 6 rfl
theorem dX8_worker_178 : Eq (decode cX8_worker 178) (Except.ok (Instr.aload_n 0, 1)) := fE fw_dX8_worker_167_c 7 rfl
theorem dX8_worker_179 : Eq (decode cX8_worker 179) (Except.ok (Instr.getfield 7, 3)) := fE fw_dX8_worker_167_c 8 rfl
theorem dX8_worker_182 : Eq (decode cX8_worker 182) (Except.ok (Instr.bipush 9, 2)) := fE fw_dX8_worker_167_c 9 rfl
theorem dX8_worker_184 : Eq (decode cX8_worker 184) (Except.ok (Instr.iload 8, 2)) := fE fw_dX8_worker_167_c 10 rfl
theorem dX8_worker_186 : Eq (decode cX8_worker 186) (Except.ok (Instr.ifCond .eq 7, 3)) := fE fw_dX8_worker_167_c 11 rfl
theorem dX8_worker_189 : Eq (decode cX8_worker 189) (Except.ok (Instr.lconst 1, 1)) := fE fw_dX8_worker_167_c 12 rfl
theorem dX8_worker_190 : Eq (decode cX8_worker 190) (Except.ok (Instr.goto 4, 3)) := fE fw_dX8_worker_167_c 13 rfl
theorem dX8_worker_193 : Eq (decode cX8_worker 193) (Except.ok (Instr.lconst 0, 1)) := fE fw_dX8_worker_167_c 14 rfl
theorem dX8_worker_194 : Eq (decode cX8_worker 194) (Except.ok (Instr.lastore, 1)) := fE fw_dX8_worker_167_c 15 rfl
theorem dX8_worker_195 : Eq (decode cX8_worker 195) (Except.ok (Instr.return_, 1)) := fE fw_dX8_worker_167_c 16 rfl
set_option maxRecDepth 20000 in
theorem gi_wsX8_does_0 : GoodIn wsX8_does wsX8_does := goodIn_sub (fun _ h => h) (by decide +kernel)
set_option maxRecDepth 20000 in
theorem gi_wsX8_does_1 : GoodIn wsX8_does wsX80 := goodIn_sub (fun w h => List.mem_cons_of_mem _ (List.mem_append_right _ h)) (by decide +kernel)
def bs_wsX8_does : List (List Cond) := [wsX8_does, wsX80]
theorem bs_wsX8_does_in : ∀ b ∈ bs_wsX8_does, GoodIn wsX8_does b := List.forall_mem_cons.mpr ⟨gi_wsX8_does_0, List.forall_mem_cons.mpr ⟨gi_wsX8_does_1, (fun _ h => absurd h List.not_mem_nil)⟩⟩
set_option maxRecDepth 20000 in
theorem ggX8_does_X8_puts : GoodIn wsX8_does wsX8_puts := goodIn_k (gi_q bs_wsX8_does_in _ [(0, 10)] rfl) (goodIn_app (gi_q bs_wsX8_does_in _ [(0, 5), (0, 11), (0, 12), (0, 13), (0, 14), (0, 9), (0, 15), (0, 16)] rfl) (gi_wsX8_does_1))
set_option maxRecDepth 20000 in
theorem gX8_does_X8_puts : GoodIn wsX8_does (wsV RX8 239 RX8 yX8_puts wsX8_puts) := goodIn_app (gi_q bs_wsX8_does_in _ [(0, 6), (0, 7), (0, 8), (0, 9)] rfl) ggX8_does_X8_puts
set_option maxRecDepth 20000 in
theorem ggX8_does_X8_worker : GoodIn wsX8_does wsX8_worker := goodIn_k (gi_q bs_wsX8_does_in _ [(0, 20)] rfl) (goodIn_app (gi_q bs_wsX8_does_in _ [(0, 3), (0, 2), (0, 4), (0, 1), (0, 16), (0, 11), (0, 5), (0, 6), (0, 7), (0, 8), (0, 9), (0, 10), (0, 12), (0, 13), (0, 14), (0, 15)] rfl) (gi_wsX8_does_1))
set_option maxRecDepth 20000 in
theorem gX8_does_X8_worker : GoodIn wsX8_does (wsV RX8 243 RX8 yX8_worker wsX8_worker) := goodIn_app (gi_q bs_wsX8_does_in _ [(0, 17), (0, 18), (0, 19), (0, 9)] rfl) ggX8_does_X8_worker
def fw_dX8_does_0 : List (Nat × Instr × Nat) := [(0, .aload_n 0, 1), (1, .getfield 29, 3), (4, .iload_n 1, 1), (5, .iaload, 1)]
theorem fw_dX8_does_0_c : fchk 0 (cX8_does.data.toList.drop 0) fw_dX8_does_0 = true := by decide +kernel
theorem dX8_does_0 : Eq (decode cX8_does 0) (Except.ok (Instr.aload_n 0, 1)) := fE fw_dX8_does_0_c 0 rfl
theorem dX8_does_1 : Eq (decode cX8_does 1) (Except.ok (Instr.getfield 29, 3)) := fE fw_dX8_does_0_c 1 rfl
theorem dX8_does_4 : Eq (decode cX8_does 4) (Except.ok (Instr.iload_n 1, 1)) := fE fw_dX8_does_0_c 2 rfl
theorem dX8_does_5 : Eq (decode cX8_does 5) (Except.ok (Instr.iaload, 1)) := fE fw_dX8_does_0_c 3 rfl
theorem dX8_does_6 : decode cX8_does 6 = .ok (.tableswitch 211 0 8 #[50, 65, 84, 84, 84, 84, 92, 149, 177], 50) := by decide +kernel
def fw_dX8_does_56 : List (Nat × Instr × Nat) := [(56, .aload_n 0, 1), (57, .iload_n 1, 1), (58, .aload_n 0, 1), (59, .getfield 35, 3), (62, .iload_n 1, 1), (63, .iaload, 1), (64, .i2l, 1), (65, .invokevirtual 239, 3), (68, .goto 149, 3), (71, .aload_n 0, 1), (72, .iload_n 1, 1), (73, .aload_n 0, 1), (74, .getfield 16, 3), (77, .aload_n 0, 1), (78, .getfield 35, 3), (81, .iload_n 1, 1), (82, .iaload, 1), (83, .laload, 1), (84, .invokevirtual 239, 3), (87, .goto 130, 3)]
theorem fw_dX8_does_56_c : fchk 56 (cX8_does.data.toList.drop 56) fw_dX8_does_56 = true := by decide +kernel
theorem dX8_does_56 : Eq (decode cX8_does 56) (Except.ok (Instr.aload_n 0, 1)) := fE fw_dX8_does_56_c 0 rfl
theorem dX8_does_57 : Eq (decode cX8_does 57) (Except.ok (Instr.iload_n 1, 1)) := fE fw_dX8_does_56_c 1 rfl
theorem dX8_does_58 : Eq (decode cX8_does 58) (Except.ok (Instr.aload_n 0, 1)) := fE fw_dX8_does_56_c 2 rfl
theorem dX8_does_59 : Eq (decode cX8_does 59) (Except.ok (Instr.getfield 35, 3)) := fE fw_dX8_does_56_c 3 rfl
theorem dX8_does_62 : Eq (decode cX8_does 62) (Except.ok (Instr.iload_n 1, 1)) := fE fw_dX8_does_56_c 4 rfl
theorem dX8_does_63 : Eq (decode cX8_does 63) (Except.ok (Instr.iaload, 1)) := fE fw_dX8_does_56_c 5 rfl
theorem dX8_does_64 : Eq (decode cX8_does 64) (Except.ok (Instr.i2l, 1)) := fE fw_dX8_does_56_c 6 rfl
theorem dX8_does_65 : Eq (decode cX8_does 65) (Except.ok (Instr.invokevirtual 239, 3)) := fE fw_dX8_does_56_c 7 rfl
theorem dX8_does_68 : Eq (decode cX8_does 68) (Except.ok (Instr.goto 149, 3)) := fE fw_dX8_does_56_c 8 rfl
theorem dX8_does_71 : Eq (decode cX8_does 71) (Except.ok (Instr.aload_n 0, 1)) := fE fw_dX8_does_56_c 9 rfl
theorem dX8_does_72 : Eq (decode cX8_does 72) (Except.ok (Instr.iload_n 1, 1)) := fE fw_dX8_does_56_c 10 rfl
theorem dX8_does_73 : Eq (decode cX8_does 73) (Except.ok (Instr.aload_n 0, 1)) := fE fw_dX8_does_56_c 11 rfl
theorem dX8_does_74 : Eq (decode cX8_does 74) (Except.ok (Instr.getfield 16, 3)) := fE fw_dX8_does_56_c 12 rfl
theorem dX8_does_77 : Eq (decode cX8_does 77) (Except.ok (Instr.aload_n 0, 1)) := fE fw_dX8_does_56_c 13 rfl
theorem dX8_does_78 : Eq (decode cX8_does 78) (Except.ok (Instr.getfield 35, 3)) := fE fw_dX8_does_56_c 14 rfl
theorem dX8_does_81 : Eq (decode cX8_does 81) (Except.ok (Instr.iload_n 1, 1)) := fE fw_dX8_does_56_c 15 rfl
theorem dX8_does_82 : Eq (decode cX8_does 82) (Except.ok (Instr.iaload, 1)) := fE fw_dX8_does_56_c 16 rfl
theorem dX8_does_83 : Eq (decode cX8_does 83) (Except.ok (Instr.laload, 1)) := fE fw_dX8_does_56_c 17 rfl
theorem dX8_does_84 : Eq (decode cX8_does 84) (Except.ok (Instr.invokevirtual 239, 3)) := fE fw_dX8_does_56_c 18 rfl
theorem dX8_does_87 : Eq (decode cX8_does 87) (Except.ok (Instr.goto 130, 3)) := fE fw_dX8_does_56_c 19 rfl
def fw_dX8_does_90 : List (Nat × Instr × Nat) := [(90, .aload_n 0, 1), (91, .iload_n 1, 1), (92, .invokevirtual 243, 3), (95, .goto 122, 3), (98, .aload_n 0, 1), (99, .iload_n 1, 1), (100, .aload_n 0, 1), (101, .getfield 38, 3), (104, .iload_n 1, 1), (105, .iaload, 1), (106, .ifCond .lt 24, 3), (109, .aload_n 0, 1), (110, .getfield 16, 3), (113, .aload_n 0, 1), (114, .getfield 35, 3), (117, .iload_n 1, 1), (118, .iaload, 1), (119, .laload, 1), (120, .aload_n 0, 1), (121, .getfield 38, 3)]
theorem fw_dX8_does_90_c : fchk 90 (cX8_does.data.toList.drop 90) fw_dX8_does_90 = true := by decide +kernel
theorem dX8_does_90 : Eq (decode cX8_does 90) (Except.ok (Instr.aload_n 0, 1)) := fE fw_dX8_does_90_c 0 rfl
theorem dX8_does_91 : Eq (decode cX8_does 91) (Except.ok (Instr.iload_n 1, 1)) := fE fw_dX8_does_90_c 1 rfl
theorem dX8_does_92 : Eq (decode cX8_does 92) (Except.ok (Instr.invokevirtual 243, 3)) := fE fw_dX8_does_90_c 2 rfl
theorem dX8_does_95 : Eq (decode cX8_does 95) (Except.ok (Instr.goto 122, 3)) := fE fw_dX8_does_90_c 3 rfl
theorem dX8_does_98 : Eq (decode cX8_does 98) (Except.ok (Instr.aload_n 0, 1)) := fE fw_dX8_does_90_c 4 rfl
theorem dX8_does_99 : Eq (decode cX8_does 99) (Except.ok (Instr.iload_n 1, 1)) := fE fw_dX8_does_90_c 5 rfl
theorem dX8_does_100 : Eq (decode cX8_does 100) (Except.ok (Instr.aload_n 0, 1)) := fE fw_dX8_does_90_c 6 rfl
theorem dX8_does_101 : Eq (decode cX8_does 101) (Except.ok (Instr.getfield 38, 3)) := fE fw_dX8_does_90_c 7 rfl
theorem dX8_does_104 : Eq (decode cX8_does 104) (Except.ok (Instr.iload_n 1, 1)) := fE fw_dX8_does_90_c 8 rfl
theorem dX8_does_105 : Eq (decode cX8_does 105) (Except.ok (Instr.iaload, 1)) := fE fw_dX8_does_90_c 9 rfl
theorem dX8_does_106 : Eq (decode cX8_does 106) (Except.ok (Instr.ifCond .lt 24, 3)) := fE fw_dX8_does_90_c 10 rfl
theorem dX8_does_109 : Eq (decode cX8_does 109) (Except.ok (Instr.aload_n 0, 1)) := fE fw_dX8_does_90_c 11 rfl
theorem dX8_does_110 : Eq (decode cX8_does 110) (Except.ok (Instr.getfield 16, 3)) := fE fw_dX8_does_90_c 12 rfl
theorem dX8_does_113 : Eq (decode cX8_does 113) (Except.ok (Instr.aload_n 0, 1)) := fE fw_dX8_does_90_c 13 rfl
theorem dX8_does_114 : Eq (decode cX8_does 114) (Except.ok (Instr.getfield 35, 3)) := fE fw_dX8_does_90_c 14 rfl
theorem dX8_does_117 : Eq (decode cX8_does 117) (Except.ok (Instr.iload_n 1, 1)) := fE fw_dX8_does_90_c 15 rfl
theorem dX8_does_118 : Eq (decode cX8_does 118) (Except.ok (Instr.iaload, 1)) := fE fw_dX8_does_90_c 16 rfl
theorem dX8_does_119 : Eq (decode cX8_does 119) (Except.ok (Instr.laload, 1)) := fE fw_dX8_does_90_c 17 rfl
theorem dX8_does_120 : Eq (decode cX8_does 120) (Except.ok (Instr.aload_n 0, 1)) := fE fw_dX8_does_90_c 18 rfl
theorem dX8_does_121 : Eq (decode cX8_does 121) (Except.ok (Instr.getfield 38, 3)) := fE fw_dX8_does_90_c 19 rfl
def fw_dX8_does_124 : List (Nat × Instr × Nat) := [(124, .iload_n 1, 1), (125, .iaload, 1), (126, .lshl, 1), (127, .goto 22, 3), (130, .aload_n 0, 1), (131, .getfield 16, 3), (134, .aload_n 0, 1), (135, .getfield 35, 3), (138, .iload_n 1, 1), (139, .iaload, 1), (140, .laload, 1), (141, .aload_n 0, 1), (142, .getfield 38, 3), (145, .iload_n 1, 1), (146, .iaload, 1), (147, .ineg, 1), (148, .lshr, 1), (149, .invokevirtual 239, 3), (152, .goto 65, 3), (155, .aload_n 0, 1)]
theorem fw_dX8_does_124_c : fchk 124 (cX8_does.data.toList.drop 124) fw_dX8_does_124 = true := by decide +kernel
theorem dX8_does_124 : Eq (decode cX8_does 124) (Except.ok (Instr.iload_n 1, 1)) := fE fw_dX8_does_124_c 0 rfl
theorem dX8_does_125 : Eq (decode cX8_does 125) (Except.ok (Instr.iaload, 1)) := fE fw_dX8_does_124_c 1 rfl
theorem dX8_does_126 : Eq (decode cX8_does 126) (Except.ok (Instr.lshl, 1)) := fE fw_dX8_does_124_c 2 rfl
theorem dX8_does_127 : Eq (decode cX8_does 127) (Except.ok (Instr.goto 22, 3)) := fE fw_dX8_does_124_c 3 rfl
theorem dX8_does_130 : Eq (decode cX8_does 130) (Except.ok (Instr.aload_n 0, 1)) := fE fw_dX8_does_124_c 4 rfl
theorem dX8_does_131 : Eq (decode cX8_does 131) (Except.ok (Instr.getfield 16, 3)) := fE fw_dX8_does_124_c 5 rfl
theorem dX8_does_134 : Eq (decode cX8_does 134) (Except.ok (Instr.aload_n 0, 1)) := fE fw_dX8_does_124_c 6 rfl
theorem dX8_does_135 : Eq (decode cX8_does 135) (Except.ok (Instr.getfield 35, 3)) := fE fw_dX8_does_124_c 7 rfl
theorem dX8_does_138 : Eq (decode cX8_does 138) (Except.ok (Instr.iload_n 1, 1)) := fE fw_dX8_does_124_c 8 rfl
theorem dX8_does_139 : Eq (decode cX8_does 139) (Except.ok (Instr.iaload, 1)) := fE fw_dX8_does_124_c 9 rfl
theorem dX8_does_140 : Eq (decode cX8_does 140) (Except.ok (Instr.laload, 1)) := fE fw_dX8_does_124_c 10 rfl
theorem dX8_does_141 : Eq (decode cX8_does 141) (Except.ok (Instr.aload_n 0, 1)) := fE fw_dX8_does_124_c 11 rfl
theorem dX8_does_142 : Eq (decode cX8_does 142) (Except.ok (Instr.getfield 38, 3)) := fE fw_dX8_does_124_c 12 rfl
theorem dX8_does_145 : Eq (decode cX8_does 145) (Except.ok (Instr.iload_n 1, 1)) := fE fw_dX8_does_124_c 13 rfl
theorem dX8_does_146 : Eq (decode cX8_does 146) (Except.ok (Instr.iaload, 1)) := fE fw_dX8_does_124_c 14 rfl
theorem dX8_does_147 : Eq (decode cX8_does 147) (Except.ok (Instr.ineg, 1)) := fE fw_dX8_does_124_c 15 rfl
theorem dX8_does_148 : Eq (decode cX8_does 148) (Except.ok (Instr.lshr, 1)) := fE fw_dX8_does_124_c 16 rfl
theorem dX8_does_149 : Eq (decode cX8_does 149) (Except.ok (Instr.invokevirtual 239, 3)) := fE fw_dX8_does_124_c 17 rfl
theorem dX8_does_152 : Eq (decode cX8_does 152) (Except.ok (Instr.goto 65, 3)) := fE fw_dX8_does_124_c 18 rfl
theorem dX8_does_155 : Eq (decode cX8_does 155) (Except.ok (Instr.aload_n 0, 1)) := fE fw_dX8_does_124_c 19 rfl
def fw_dX8_does_156 : List (Nat × Instr × Nat) := [(156, .iload_n 1, 1), (157, .aload_n 0, 1), (158, .getfield 16, 3), (161, .bipush 10, 2), (163, .aload_n 0, 1), (164, .getfield 16, 3), (167, .aload_n 0, 1), (168, .getfield 35, 3), (171, .iload_n 1, 1), (172, .iaload, 1), (173, .laload, 1), (174, .l2i, 1), (175, .iadd, 1), (176, .laload, 1), (177, .invokevirtual 239, 3), (180, .goto 37, 3), (183, .aload_n 0, 1), (184, .getfield 7, 3), (187, .bipush 10, 2), (189, .aload_n 0, 1)]
theorem fw_dX8_does_156_c : fchk 156 (cX8_does.data.toList.drop 156) fw_dX8_does_156 = true := by decide +kernel
theorem dX8_does_156 : Eq (decode cX8_does 156) (Except.ok (Instr.iload_n 1, 1)) := fE fw_dX8_does_156_c 0 rfl
theorem dX8_does_157 : Eq (decode cX8_does 157) (Except.ok (Instr.aload_n 0, 1)) := fE fw_dX8_does_156_c 1 rfl
theorem dX8_does_158 : Eq (decode cX8_does 158) (Except.ok (Instr.getfield 16, 3)) := fE fw_dX8_does_156_c 2 rfl
theorem dX8_does_161 : Eq (decode cX8_does 161) (Except.ok (Instr.bipush 10, 2)) := fE fw_dX8_does_156_c 3 rfl
theorem dX8_does_163 : Eq (decode cX8_does 163) (Except.ok (Instr.aload_n 0, 1)) := fE fw_dX8_does_156_c 4 rfl
theorem dX8_does_164 : Eq (decode cX8_does 164) (Except.ok (Instr.getfield 16, 3)) := fE fw_dX8_does_156_c 5 rfl
theorem dX8_does_167 : Eq (decode cX8_does 167) (Except.ok (Instr.aload_n 0, 1)) := fE fw_dX8_does_156_c 6 rfl
theorem dX8_does_168 : Eq (decode cX8_does 168) (Except.ok (Instr.getfield 35, 3)) := fE fw_dX8_does_156_c 7 rfl
theorem dX8_does_171 : Eq (decode cX8_does 171) (Except.ok (Instr.iload_n 1, 1)) := fE fw_dX8_does_156_c 8 rfl
theorem dX8_does_172 : Eq (decode cX8_does 172) (Except.ok (Instr.iaload, 1)) := fE fw_dX8_does_156_c 9 rfl
theorem dX8_does_173 : Eq (decode cX8_does 173) (Except.ok (Instr.laload, 1)) := fE fw_dX8_does_156_c 10 rfl
theorem dX8_does_174 : Eq (decode cX8_does 174) (Except.ok (Instr.l2i, 1)) := fE fw_dX8_does_156_c 11 rfl
theorem dX8_does_175 : Eq (decode cX8_does 175) (Except.ok (Instr.iadd, 1)) := fE fw_dX8_does_156_c 12 rfl
theorem dX8_does_176 : Eq (decode cX8_does 176) (Except.ok (Instr.laload, 1)) := fE fw_dX8_does_156_c 13 rfl
theorem dX8_does_177 : Eq (decode cX8_does 177) (Except.ok (Instr.invokevirtual 239, 3)) := fE fw_dX8_does_156_c 14 rfl
theorem dX8_does_180 : Eq (decode cX8_does 180) (Except.ok (Instr.goto 37, 3)) := fE fw_dX8_does_156_c 15 rfl
theorem dX8_does_183 : Eq (decode cX8_does 183) (Except.ok (Instr.aload_n 0, 1)) := fE fw_dX8_does_156_c 16 rfl
theorem dX8_does_184 : Eq (decode cX8_does 184) (Except.ok (Instr.getfield 7, 3)) := fE fw_dX8_does_156_c 17 rfl
theorem dX8_does_187 : Eq (decode cX8_does 187) (Except.ok (Instr.bipush 10, 2)) := fE fw_dX8_does_156_c 18 rfl
theorem dX8_does_189 : Eq (decode cX8_does 189) (Except.ok (Instr.aload_n 0, 1)) := fE fw_dX8_does_156_c 19 rfl
def fw_dX8_does_190 : List (Nat × Instr × Nat) := [(190, .getfield 16, 3), (193, .aload_n 0, 1), (194, .getfield 35, 3), (197, .iload_n 1, 1), (198, .iaload, 1), (199, .laload, 1), (200, .l2i, 1), (201, .iadd, 1), (202, .aload_n 0, 1), (203, .getfield 16, 3), (206, .aload_n 0, 1), (207, .getfield 38, 3), (210, .iload_n 1, 1), (211, .iaload, 1), (212, .laload, 1), (213, .lastore, 1), (214, .goto 3, 3), (217, .return_, 1)]
theorem fw_dX8_does_190_c : fchk 190 (cX8_does.data.toList.drop 190) fw_dX8_does_190 = true := by decide +kernel
theorem dX8_does_190 : Eq (decode cX8_does 190) (Except.ok (Instr.getfield 16, 3)) := fE fw_dX8_does_190_c 0 rfl
theorem dX8_does_193 : Eq (decode cX8_does 193) (Except.ok (Instr.aload_n 0, 1)) := fE fw_dX8_does_190_c 1 rfl
theorem dX8_does_194 : Eq (decode cX8_does 194) (Except.ok (Instr.getfield 35, 3)) := fE fw_dX8_does_190_c 2 rfl
theorem dX8_does_197 : Eq (decode cX8_does 197) (Except.ok (Instr.iload_n 1, 1)) := fE fw_dX8_does_190_c 3 rfl
theorem dX8_does_198 : Eq (decode cX8_does 198) (Except.ok (Instr.iaload, 1)) := fE fw_dX8_does_190_c 4 rfl
theorem dX8_does_199 : Eq (decode cX8_does 199) (Except.ok (Instr.laload, 1)) := fE fw_dX8_does_190_c 5 rfl
theorem dX8_does_200 : Eq (decode cX8_does 200) (Except.ok (Instr.l2i, 1)) := fE fw_dX8_does_190_c 6 rfl
theorem dX8_does_201 : Eq (decode cX8_does 201) (Except.ok (Instr.iadd, 1)) := fE fw_dX8_does_190_c 7 rfl
theorem dX8_does_202 : Eq (decode cX8_does 202) (Except.ok (Instr.aload_n 0, 1)) := fE fw_dX8_does_190_c 8 rfl
theorem dX8_does_203 : Eq (decode cX8_does 203) (Except.ok (Instr.getfield 16, 3)) := fE fw_dX8_does_190_c 9 rfl
theorem dX8_does_206 : Eq (decode cX8_does 206) (Except.ok (Instr.aload_n 0, 1)) := fE fw_dX8_does_190_c 10 rfl
theorem dX8_does_207 : Eq (decode cX8_does 207) (Except.ok (Instr.getfield 38, 3)) := fE fw_dX8_does_190_c 11 rfl
theorem dX8_does_210 : Eq (decode cX8_does 210) (Except.ok (Instr.iload_n 1, 1)) := fE fw_dX8_does_190_c 12 rfl
theorem dX8_does_211 : Eq (decode cX8_does 211) (Except.ok (Instr.iaload, 1)) := fE fw_dX8_does_190_c 13 rfl
theorem dX8_does_212 : Eq (decode cX8_does 212) (Except.ok (Instr.laload, 1)) := fE fw_dX8_does_190_c 14 rfl
theorem dX8_does_213 : Eq (decode cX8_does 213) (Except.ok (Instr.lastore, 1)) := fE fw_dX8_does_190_c 15 rfl
theorem dX8_does_214 : Eq (decode cX8_does 214) (Except.ok (Instr.goto 3, 3)) := fE fw_dX8_does_190_c 16 rfl
theorem dX8_does_217 : Eq (decode cX8_does 217) (Except.ok (Instr.return_, 1)) := fE fw_dX8_does_190_c 17 rfl
set_option maxRecDepth 20000 in
theorem gi_wsX8_plainly_0 : GoodIn wsX8_plainly wsX8_plainly_r1 := goodIn_sub (fun w h => List.mem_cons_of_mem _ (List.mem_append_left _ (List.mem_append_left _ h))) (by decide +kernel)
set_option maxRecDepth 20000 in
theorem gi_wsX8_plainly_1 : GoodIn wsX8_plainly wsX8_plainly_r2 := goodIn_sub (fun w h => List.mem_cons_of_mem _ (List.mem_append_left _ (List.mem_append_right _ h))) (by decide +kernel)
set_option maxRecDepth 20000 in
theorem gi_wsX8_plainly_2 : GoodIn wsX8_plainly wsX80 := goodIn_sub (fun w h => List.mem_cons_of_mem _ (List.mem_append_right _ h)) (by decide +kernel)
def bs_wsX8_plainly : List (List Cond) := [wsX8_plainly_r1, wsX8_plainly_r2, wsX80]
theorem bs_wsX8_plainly_in : ∀ b ∈ bs_wsX8_plainly, GoodIn wsX8_plainly b := List.forall_mem_cons.mpr ⟨gi_wsX8_plainly_0, List.forall_mem_cons.mpr ⟨gi_wsX8_plainly_1, List.forall_mem_cons.mpr ⟨gi_wsX8_plainly_2, (fun _ h => absurd h List.not_mem_nil)⟩⟩⟩
set_option maxRecDepth 20000 in
theorem ggX8_plainly_X8_copies : GoodIn wsX8_plainly wsX8_copies := goodIn_k (gi_q bs_wsX8_plainly_in _ [(0, 11)] rfl) (gi_q bs_wsX8_plainly_in _ [] rfl)
set_option maxRecDepth 20000 in
theorem gX8_plainly_X8_copies : GoodIn wsX8_plainly (va_wsS RX8 246 yX8_copies wsX8_copies) := goodIn_app (gi_q bs_wsX8_plainly_in _ [(0, 8), (0, 9), (0, 10)] rfl) ggX8_plainly_X8_copies
set_option maxRecDepth 20000 in
theorem ggX8_plainly_X8_holds : GoodIn wsX8_plainly wsX8_holds := goodIn_k (gi_q bs_wsX8_plainly_in _ [(0, 15)] rfl) (goodIn_app (gi_q bs_wsX8_plainly_in _ [(0, 7), (0, 6), (0, 16), (0, 17), (0, 18)] rfl) (gi_wsX8_plainly_2))
set_option maxRecDepth 20000 in
theorem gX8_plainly_X8_holds : GoodIn wsX8_plainly (wsV RX8 256 RX8 yX8_holds wsX8_holds) := goodIn_app (gi_q bs_wsX8_plainly_in _ [(0, 12), (0, 13), (0, 14), (0, 10)] rfl) ggX8_plainly_X8_holds
set_option maxRecDepth 20000 in
theorem ggX8_plainly_X8_does : GoodIn wsX8_plainly wsX8_does := goodIn_k (gi_q bs_wsX8_plainly_in _ [(0, 22)] rfl) (goodIn_app (gi_q bs_wsX8_plainly_in _ [(0, 7), (0, 16), (0, 6), (0, 17), (0, 0), (0, 23), (1, 0), (1, 1), (0, 10), (1, 2), (1, 3), (1, 4), (1, 5), (1, 6), (1, 7), (1, 8), (1, 9), (1, 10), (1, 11), (1, 12)] rfl) (gi_wsX8_plainly_2))
set_option maxRecDepth 20000 in
theorem gX8_plainly_X8_does : GoodIn wsX8_plainly (wsV RX8 259 RX8 yX8_does wsX8_does) := goodIn_app (gi_q bs_wsX8_plainly_in _ [(0, 19), (0, 20), (0, 21), (0, 10)] rfl) ggX8_plainly_X8_does
def fw_dX8_plainly_0 : List (Nat × Instr × Nat) := [(0, .aload_n 0, 1), (1, .getfield 7, 3), (4, .aload_n 0, 1), (5, .getfield 19, 3), (8, .invokestatic 246, 3), (11, .aload_n 0, 1), (12, .iconst 0, 1), (13, .putfield 250, 3), (16, .aload_n 0, 1), (17, .iconst 0, 1), (18, .putfield 253, 3), (21, .aload_n 0, 1), (22, .iconst (-1), 1), (23, .putfield 100, 3), (26, .iconst 0, 1), (27, .istore_n 2, 1), (28, .iload_n 2, 1), (29, .aload_n 0, 1), (30, .getfield 41, 3), (33, .iload_n 1, 1)]
theorem fw_dX8_plainly_0_c : fchk 0 (cX8_plainly.data.toList.drop 0) fw_dX8_plainly_0 = true := by decide +kernel
theorem dX8_plainly_0 : Eq (decode cX8_plainly 0) (Except.ok (Instr.aload_n 0, 1)) := fE fw_dX8_plainly_0_c 0 rfl
theorem dX8_plainly_1 : Eq (decode cX8_plainly 1) (Except.ok (Instr.getfield 7, 3)) := fE fw_dX8_plainly_0_c 1 rfl
theorem dX8_plainly_4 : Eq (decode cX8_plainly 4) (Except.ok (Instr.aload_n 0, 1)) := fE fw_dX8_plainly_0_c 2 rfl
theorem dX8_plainly_5 : Eq (decode cX8_plainly 5) (Except.ok (Instr.getfield 19, 3)) := fE fw_dX8_plainly_0_c 3 rfl
theorem dX8_plainly_8 : Eq (decode cX8_plainly 8) (Except.ok (Instr.invokestatic 246, 3)) := fE fw_dX8_plainly_0_c 4 rfl
theorem dX8_plainly_11 : Eq (decode cX8_plainly 11) (Except.ok (Instr.aload_n 0, 1)) := fE fw_dX8_plainly_0_c 5 rfl
theorem dX8_plainly_12 : Eq (decode cX8_plainly 12) (Except.ok (Instr.iconst 0, 1)) := fE fw_dX8_plainly_0_c 6 rfl
theorem dX8_plainly_13 : Eq (decode cX8_plainly 13) (Except.ok (Instr.putfield 250, 3)) := fE fw_dX8_plainly_0_c 7 rfl
theorem dX8_plainly_16 : Eq (decode cX8_plainly 16) (Except.ok (Instr.aload_n 0, 1)) := fE fw_dX8_plainly_0_c 8 rfl
theorem dX8_plainly_17 : Eq (decode cX8_plainly 17) (Except.ok (Instr.iconst 0, 1)) := fE fw_dX8_plainly_0_c 9 rfl
theorem dX8_plainly_18 : Eq (decode cX8_plainly 18) (Except.ok (Instr.putfield 253, 3)) := fE fw_dX8_plainly_0_c 10 rfl
theorem dX8_plainly_21 : Eq (decode cX8_plainly 21) (Except.ok (Instr.aload_n 0, 1)) := fE fw_dX8_plainly_0_c 11 rfl
theorem dX8_plainly_22 : Eq (decode cX8_plainly 22) (Except.ok (Instr.iconst (-1), 1)) := fE fw_dX8_plainly_0_c 12 rfl
theorem dX8_plainly_23 : Eq (decode cX8_plainly 23) (Except.ok (Instr.putfield 100, 3)) := fE fw_dX8_plainly_0_c 13 rfl
theorem dX8_plainly_26 : Eq (decode cX8_plainly 26) (Except.ok (Instr.iconst 0, 1)) := fE fw_dX8_plainly_0_c 14 rfl
theorem dX8_plainly_27 : Eq (decode cX8_plainly 27) (Except.ok (Instr.istore_n 2, 1)) := fE fw_dX8_plainly_0_c 15 rfl
theorem dX8_plainly_28 : Eq (decode cX8_plainly 28) (Except.ok (Instr.iload_n 2, 1)) := fE fw_dX8_plainly_0_c 16 rfl
theorem dX8_plainly_29 : Eq (decode cX8_plainly 29) (Except.ok (Instr.aload_n 0, 1)) := fE fw_dX8_plainly_0_c 17 rfl
theorem dX8_plainly_30 : Eq (decode cX8_plainly 30) (Except.ok (Instr.getfield 41, 3)) := fE fw_dX8_plainly_0_c 18 rfl
theorem dX8_plainly_33 : Eq (decode cX8_plainly 33) (Except.ok (Instr.iload_n 1, 1)) := fE fw_dX8_plainly_0_c 19 rfl
def fw_dX8_plainly_34 : List (Nat × Instr × Nat) := [(34, .iaload, 1), (35, .if_icmp .ge 89, 3), (38, .bipush 10, 2), (40, .iload_n 1, 1), (41, .imul, 1), (42, .iload_n 2, 1), (43, .iadd, 1), (44, .istore_n 3, 1), (45, .aload_n 0, 1), (46, .getfield 7, 3), (49, .aload_n 0, 1), (50, .getfield 16, 3), (53, .invokestatic 246, 3), (56, .aload_n 0, 1), (57, .dup, 1), (58, .getfield 250, 3), (61, .iconst 1, 1), (62, .iadd, 1), (63, .putfield 250, 3), (66, .aload_n 0, 1)]
theorem fw_dX8_plainly_34_c : fchk 34 (cX8_plainly.data.toList.drop 34) fw_dX8_plainly_34 = true := by decide +kernel
theorem dX8_plainly_34 : Eq (decode cX8_plainly 34) (Except.ok (Instr.iaload, 1)) := fE fw_dX8_plainly_34_c 0 rfl
theorem dX8_plainly_35 : Eq (decode cX8_plainly 35) (Except.ok (Instr.if_icmp .ge 89, 3)) := fE fw_dX8_plainly_34_c 1 rfl
theorem dX8_plainly_38 : Eq (decode cX8_plainly 38) (Except.ok (Instr.bipush 10, 2)) := fE fw_dX8_plainly_34_c 2 rfl
theorem dX8_plainly_40 : Eq (decode cX8_plainly 40) (Except.ok (Instr.iload_n 1, 1)) := fE fw_dX8_plainly_34_c 3 rfl
theorem dX8_plainly_41 : Eq (decode cX8_plainly 41) (Except.ok (Instr.imul, 1)) := fE fw_dX8_plainly_34_c 4 rfl
theorem dX8_plainly_42 : Eq (decode cX8_plainly 42) (Except.ok (Instr.iload_n 2, 1)) := fE fw_dX8_plainly_34_c 5 rfl
theorem dX8_plainly_43 : Eq (decode cX8_plainly 43) (Except.ok (Instr.iadd, 1)) := fE fw_dX8_plainly_34_c 6 rfl
theorem dX8_plainly_44 : Eq (decode cX8_plainly 44) (Except.ok (Instr.istore_n 3, 1)) := fE fw_dX8_plainly_34_c 7 rfl
theorem dX8_plainly_45 : Eq (decode cX8_plainly 45) (Except.ok (Instr.aload_n 0, 1)) := fE fw_dX8_plainly_34_c 8 rfl
theorem dX8_plainly_46 : Eq (decode cX8_plainly 46) (Except.ok (Instr.getfield 7, 3)) := fE fw_dX8_plainly_34_c 9 rfl
theorem dX8_plainly_49 : Eq (decode cX8_plainly 49) (Except.ok (Instr.aload_n 0, 1)) := fE fw_dX8_plainly_34_c 10 rfl
theorem dX8_plainly_50 : Eq (decode cX8_plainly 50) (Except.ok (Instr.getfield 16, 3)) := fE fw_dX8_plainly_34_c 11 rfl
theorem dX8_plainly_53 : Eq (decode cX8_plainly 53) (Except.ok (Instr.invokestatic 246, 3)) := fE fw_dX8_plainly_34_c 12 rfl
theorem dX8_plainly_56 : Eq (decode cX8_plainly 56) (Except.ok (Instr.aload_n 0, 1)) := fE fw_dX8_plainly_34_c 13 rfl
theorem dX8_plainly_57 : Eq (decode cX8_plainly 57) (Except.ok (Instr.dup, 1)) := fE fw_dX8_plainly_34_c 14 rfl
theorem dX8_plainly_58 : Eq (decode cX8_plainly 58) (Except.ok (Instr.getfield 250, 3)) := fE fw_dX8_plainly_34_c 15 rfl
theorem dX8_plainly_61 : Eq (decode cX8_plainly 61) (Except.ok (Instr.iconst 1, 1)) := fE fw_dX8_plainly_34_c 16 rfl
theorem dX8_plainly_62 : Eq (decode cX8_plainly 62) (Except.ok (Instr.iadd, 1)) := fE fw_dX8_plainly_34_c 17 rfl
theorem dX8_plainly_63 : Eq (decode cX8_plainly 63) (Except.ok (Instr.putfield 250, 3)) := fE fw_dX8_plainly_34_c 18 rfl
theorem dX8_plainly_66 : Eq (decode cX8_plainly 66) (Except.ok (Instr.aload_n 0, 1)) := fE fw_dX8_plainly_34_c 19 rfl
def fw_dX8_plainly_67 : List (Nat × Instr × Nat) := [(67, .iload_n 3, 1), (68, .invokevirtual 256, 3), (71, .ifCond .eq 16, 3), (74, .aload_n 0, 1), (75, .getfield 29, 3), (78, .iload_n 3, 1), (79, .iaload, 1), (80, .bipush 9, 2), (82, .if_icmp .ne 5, 3), (85, .iconst 1, 1), (86, .ireturn, 1), (87, .aload_n 0, 1), (88, .iload_n 3, 1), (89, .invokevirtual 256, 3), (92, .ifCond .eq 21, 3), (95, .aload_n 0, 1), (96, .iload_n 2, 1), (97, .putfield 100, 3), (100, .aload_n 0, 1), (101, .getfield 19, 3)]
theorem fw_dX8_plainly_67_c : fchk 67 (cX8_plainly.data.toList.drop 67) fw_dX8_plainly_67 = true := by decide +kernel
theorem dX8_plainly_67 : Eq (decode cX8_plainly 67) (Except.ok (Instr.iload_n 3, 1)) := fE fw_dX8_plainly_67_c 0 rfl
theorem dX8_plainly_68 : Eq (decode cX8_plainly 68) (Except.ok (Instr.invokevirtual 256, 3)) := fE fw_dX8_plainly_67_c 1 rfl
theorem dX8_plainly_71 : Eq (decode cX8_plainly 71) (Except.ok (Instr.ifCond .eq 16, 3)) := fE fw_dX8_plainly_67_c 2 rfl
theorem dX8_plainly_74 : Eq (decode cX8_plainly 74) (Except.ok (Instr.aload_n 0, 1)) := fE fw_dX8_plainly_67_c 3 rfl
theorem dX8_plainly_75 : Eq (decode cX8_plainly 75) (Except.ok (Instr.getfield 29, 3)) := fE fw_dX8_plainly_67_c 4 rfl
theorem dX8_plainly_78 : Eq (decode cX8_plainly 78) (Except.ok (Instr.iload_n 3, 1)) := fE fw_dX8_plainly_67_c 5 rfl
theorem dX8_plainly_79 : Eq (decode cX8_plainly 79) (Except.ok (Instr.iaload, 1)) := fE fw_dX8_plainly_67_c 6 rfl
theorem dX8_plainly_80 : Eq (decode cX8_plainly 80) (Except.ok (Instr.bipush 9, 2)) := fE fw_dX8_plainly_67_c 7 rfl
theorem dX8_plainly_82 : Eq (decode cX8_plainly 82) (Except.ok (Instr.if_icmp .ne 5, 3)) := fE fw_dX8_plainly_67_c 8 rfl
theorem dX8_plainly_85 : Eq (decode cX8_plainly 85) (Except.ok (Instr.iconst 1, 1)) := fE fw_dX8_plainly_67_c 9 rfl
theorem dX8_plainly_86 : Eq (decode cX8_plainly 86) (Except.ok (Instr.ireturn, 1)) := fE fw_dX8_plainly_67_c 10 rfl
theorem dX8_plainly_87 : Eq (decode cX8_plainly 87) (Except.ok (Instr.aload_n 0, 1)) := fE fw_dX8_plainly_67_c 11 rfl
theorem dX8_plainly_88 : Eq (decode cX8_plainly 88) (Except.ok (Instr.iload_n 3, 1)) := fE fw_dX8_plainly_67_c 12 rfl
theorem dX8_plainly_89 : Eq (decode cX8_plainly 89) (Except.ok (Instr.invokevirtual 256, 3)) := fE fw_dX8_plainly_67_c 13 rfl
theorem dX8_plainly_92 : Eq (decode cX8_plainly 92) (Except.ok (Instr.ifCond .eq 21, 3)) := fE fw_dX8_plainly_67_c 14 rfl
theorem dX8_plainly_95 : Eq (decode cX8_plainly 95) (Except.ok (Instr.aload_n 0, 1)) := fE fw_dX8_plainly_67_c 15 rfl
theorem dX8_plainly_96 : Eq (decode cX8_plainly 96) (Except.ok (Instr.iload_n 2, 1)) := fE fw_dX8_plainly_67_c 16 rfl
theorem dX8_plainly_97 : Eq (decode cX8_plainly 97) (Except.ok (Instr.putfield 100, 3)) := fE fw_dX8_plainly_67_c 17 rfl
theorem dX8_plainly_100 : Eq (decode cX8_plainly 100) (Except.ok (Instr.aload_n 0, 1)) := fE fw_dX8_plainly_67_c 18 rfl
theorem dX8_plainly_101 : Eq (decode cX8_plainly 101) (Except.ok (Instr.getfield 19, 3)) := fE fw_dX8_plainly_67_c 19 rfl
def fw_dX8_plainly_104 : List (Nat × Instr × Nat) := [(104, .aload_n 0, 1), (105, .getfield 7, 3), (108, .invokestatic 246, 3), (111, .iconst 2, 1), (112, .ireturn, 1), (113, .aload_n 0, 1), (114, .iload_n 3, 1), (115, .invokevirtual 259, 3)]
theorem fw_dX8_plainly_104_c : fchk 104 (cX8_plainly.data.toList.drop 104) fw_dX8_plainly_104 = true := by decide +kernel
theorem dX8_plainly_104 : Eq (decode cX8_plainly 104) (Except.ok (Instr.aload_n 0, 1)) := fE fw_dX8_plainly_104_c 0 rfl
theorem dX8_plainly_105 : Eq (decode cX8_plainly 105) (Except.ok (Instr.getfield 7, 3)) := fE fw_dX8_plainly_104_c 1 rfl
theorem dX8_plainly_108 : Eq (decode cX8_plainly 108) (Except.ok (Instr.invokestatic 246, 3)) := fE fw_dX8_plainly_104_c 2 rfl
theorem dX8_plainly_111 : Eq (decode cX8_plainly 111) (Except.ok (Instr.iconst 2, 1)) := fE fw_dX8_plainly_104_c 3 rfl
theorem dX8_plainly_112 : Eq (decode cX8_plainly 112) (Except.ok (Instr.ireturn, 1)) := fE fw_dX8_plainly_104_c 4 rfl
theorem dX8_plainly_113 : Eq (decode cX8_plainly 113) (Except.ok (Instr.aload_n 0, 1)) := fE fw_dX8_plainly_104_c 5 rfl
theorem dX8_plainly_114 : Eq (decode cX8_plainly 114) (Except.ok (Instr.iload_n 3, 1)) := fE fw_dX8_plainly_104_c 6 rfl
theorem dX8_plainly_115 : Eq (decode cX8_plainly 115) (Except.ok (Instr.invokevirtual 259, 3)) := fE fw_dX8_plainly_104_c 7 rfl
theorem dX8_plainly_118 : decode cX8_plainly 118 = .ok (.iinc 2 1, 3) := by decide +kernel
def fw_dX8_plainly_121 : List (Nat × Instr × Nat) := [(121, .goto (-93), 3), (124, .iconst 0, 1), (125, .ireturn, 1)]
theorem fw_dX8_plainly_121_c : fchk 121 (cX8_plainly.data.toList.drop 121) fw_dX8_plainly_121 = true := by decide +kernel
theorem dX8_plainly_121 : Eq (decode cX8_plainly 121) (Except.ok (Instr.goto (-93), 3)) := fE fw_dX8_plainly_121_c 0 rfl
theorem dX8_plainly_124 : Eq (decode cX8_plainly 124) (Except.ok (Instr.iconst 0, 1)) := fE fw_dX8_plainly_121_c 1 rfl
theorem dX8_plainly_125 : Eq (decode cX8_plainly 125) (Except.ok (Instr.ireturn, 1)) := fE fw_dX8_plainly_121_c 2 rfl
set_option maxRecDepth 20000 in
theorem gi_wsX8_byWords_0 : GoodIn wsX8_byWords wsX8_byWords_r1 := goodIn_sub (fun w h => List.mem_cons_of_mem _ (List.mem_append_left _ (List.mem_append_left _ h))) (by decide +kernel)
set_option maxRecDepth 20000 in
theorem gi_wsX8_byWords_1 : GoodIn wsX8_byWords wsX8_byWords_r2 := goodIn_sub (fun w h => List.mem_cons_of_mem _ (List.mem_append_left _ (List.mem_append_right _ (List.mem_append_left _ h)))) (by decide +kernel)
set_option maxRecDepth 20000 in
theorem gi_wsX8_byWords_2 : GoodIn wsX8_byWords wsX8_byWords_r3 := goodIn_sub (fun w h => List.mem_cons_of_mem _ (List.mem_append_left _ (List.mem_append_right _ (List.mem_append_right _ (List.mem_append_left _ h))))) (by decide +kernel)
set_option maxRecDepth 20000 in
theorem gi_wsX8_byWords_3 : GoodIn wsX8_byWords wsX8_byWords_r4 := goodIn_sub (fun w h => List.mem_cons_of_mem _ (List.mem_append_left _ (List.mem_append_right _ (List.mem_append_right _ (List.mem_append_right _ h))))) (by decide +kernel)
set_option maxRecDepth 20000 in
theorem gi_wsX8_byWords_4 : GoodIn wsX8_byWords wsX80 := goodIn_sub (fun w h => List.mem_cons_of_mem _ (List.mem_append_right _ h)) (by decide +kernel)
def bs_wsX8_byWords : List (List Cond) := [wsX8_byWords_r1, wsX8_byWords_r2, wsX8_byWords_r3, wsX8_byWords_r4, wsX80]
theorem bs_wsX8_byWords_in : ∀ b ∈ bs_wsX8_byWords, GoodIn wsX8_byWords b := List.forall_mem_cons.mpr ⟨gi_wsX8_byWords_0, List.forall_mem_cons.mpr ⟨gi_wsX8_byWords_1, List.forall_mem_cons.mpr ⟨gi_wsX8_byWords_2, List.forall_mem_cons.mpr ⟨gi_wsX8_byWords_3, List.forall_mem_cons.mpr ⟨gi_wsX8_byWords_4, (fun _ h => absurd h List.not_mem_nil)⟩⟩⟩⟩⟩
set_option maxRecDepth 20000 in
theorem ggX8_byWords_X8_packs : GoodIn wsX8_byWords wsX8_packs := goodIn_k (gi_q bs_wsX8_byWords_in _ [(0, 14)] rfl) (goodIn_app (goodIn_app (gi_q bs_wsX8_byWords_in _ [(0, 15), (0, 7), (0, 16), (0, 17), (0, 18), (0, 8), (0, 5), (0, 19), (0, 20), (0, 21), (0, 13), (0, 22), (0, 9), (0, 23), (1, 0), (1, 1), (1, 2), (1, 3), (1, 4), (1, 5), (1, 6), (1, 7), (1, 8), (1, 9)] rfl) (gi_q bs_wsX8_byWords_in _ [(1, 10), (1, 11), (1, 12), (1, 13), (1, 14), (1, 15), (1, 16), (1, 17), (1, 18), (1, 19), (1, 20), (1, 21), (1, 22), (1, 23)] rfl)) (gi_wsX8_byWords_4))
set_option maxRecDepth 20000 in
theorem gX8_byWords_X8_packs : GoodIn wsX8_byWords (wsV RX8 194 RX8 yX8_packs wsX8_packs) := goodIn_app (gi_q bs_wsX8_byWords_in _ [(0, 10), (0, 11), (0, 12), (0, 13)] rfl) ggX8_byWords_X8_packs
set_option maxRecDepth 20000 in
theorem ggX8_byWords_X8_copies : GoodIn wsX8_byWords wsX8_copies := goodIn_k (gi_q bs_wsX8_byWords_in _ [(2, 2)] rfl) (gi_q bs_wsX8_byWords_in _ [] rfl)
set_option maxRecDepth 20000 in
theorem gX8_byWords_X8_copies : GoodIn wsX8_byWords (va_wsS RX8 246 yX8_copies wsX8_copies) := goodIn_app (gi_q bs_wsX8_byWords_in _ [(2, 0), (2, 1), (0, 13)] rfl) ggX8_byWords_X8_copies
set_option maxRecDepth 20000 in
theorem ggX8_byWords_X8_holds : GoodIn wsX8_byWords wsX8_holds := goodIn_k (gi_q bs_wsX8_byWords_in _ [(2, 6)] rfl) (goodIn_app (gi_q bs_wsX8_byWords_in _ [(0, 9), (0, 6), (1, 11), (1, 12), (2, 7)] rfl) (gi_wsX8_byWords_4))
set_option maxRecDepth 20000 in
theorem gX8_byWords_X8_holds : GoodIn wsX8_byWords (wsV RX8 256 RX8 yX8_holds wsX8_holds) := goodIn_app (gi_q bs_wsX8_byWords_in _ [(2, 3), (2, 4), (2, 5), (0, 13)] rfl) ggX8_byWords_X8_holds
set_option maxRecDepth 20000 in
theorem ggX8_byWords_X8_does : GoodIn wsX8_byWords wsX8_does := goodIn_k (gi_q bs_wsX8_byWords_in _ [(2, 11)] rfl) (goodIn_app (gi_q bs_wsX8_byWords_in _ [(0, 9), (1, 11), (0, 6), (1, 12), (0, 0), (2, 12), (2, 13), (2, 14), (0, 13), (2, 15), (1, 3), (2, 16), (2, 17), (2, 18), (2, 19), (2, 20), (2, 21), (2, 22), (2, 23), (3, 0)] rfl) (gi_wsX8_byWords_4))
set_option maxRecDepth 20000 in
theorem gX8_byWords_X8_does : GoodIn wsX8_byWords (wsV RX8 259 RX8 yX8_does wsX8_does) := goodIn_app (gi_q bs_wsX8_byWords_in _ [(2, 8), (2, 9), (2, 10), (0, 13)] rfl) ggX8_byWords_X8_does
def fw_dX8_byWords_0 : List (Nat × Instr × Nat) := [(0, .aload_n 0, 1), (1, .iload_n 1, 1), (2, .invokevirtual 194, 3), (5, .aload_n 0, 1), (6, .getfield 7, 3), (9, .aload_n 0, 1), (10, .getfield 19, 3), (13, .invokestatic 246, 3), (16, .aload_n 0, 1), (17, .iconst 0, 1), (18, .putfield 250, 3), (21, .aload_n 0, 1), (22, .iconst 0, 1), (23, .putfield 253, 3), (26, .aload_n 0, 1), (27, .iconst (-1), 1), (28, .putfield 100, 3), (31, .iconst 0, 1), (32, .istore_n 2, 1), (33, .iload_n 2, 1)]
theorem fw_dX8_byWords_0_c : fchk 0 (cX8_byWords.data.toList.drop 0) fw_dX8_byWords_0 = true := by decide +kernel
theorem dX8_byWords_0 : Eq (decode cX8_byWords 0) (Except.ok (Instr.aload_n 0, 1)) := fE fw_dX8_byWords_0_c 0 rfl
theorem dX8_byWords_1 : Eq (decode cX8_byWords 1) (Except.ok (Instr.iload_n 1, 1)) := fE fw_dX8_byWords_0_c 1 rfl
theorem dX8_byWords_2 : Eq (decode cX8_byWords 2) (Except.ok (Instr.invokevirtual 194, 3)) := fE fw_dX8_byWords_0_c 2 rfl
theorem dX8_byWords_5 : Eq (decode cX8_byWords 5) (Except.ok (Instr.aload_n 0, 1)) := fE fw_dX8_byWords_0_c 3 rfl
theorem dX8_byWords_6 : Eq (decode cX8_byWords 6) (Except.ok (Instr.getfield 7, 3)) := fE fw_dX8_byWords_0_c 4 rfl
theorem dX8_byWords_9 : Eq (decode cX8_byWords 9) (Except.ok (Instr.aload_n 0, 1)) := fE fw_dX8_byWords_0_c 5 rfl
theorem dX8_byWords_10 : Eq (decode cX8_byWords 10) (Except.ok (Instr.getfield 19, 3)) := fE fw_dX8_byWords_0_c 6 rfl
theorem dX8_byWords_13 : Eq (decode cX8_byWords 13) (Except.ok (Instr.invokestatic 246, 3)) := fE fw_dX8_byWords_0_c 7 rfl
theorem dX8_byWords_16 : Eq (decode cX8_byWords 16) (Except.ok (Instr.aload_n 0, 1)) := fE fw_dX8_byWords_0_c 8 rfl
theorem dX8_byWords_17 : Eq (decode cX8_byWords 17) (Except.ok (Instr.iconst 0, 1)) := fE fw_dX8_byWords_0_c 9 rfl
theorem dX8_byWords_18 : Eq (decode cX8_byWords 18) (Except.ok (Instr.putfield 250, 3)) := fE fw_dX8_byWords_0_c 10 rfl
theorem dX8_byWords_21 : Eq (decode cX8_byWords 21) (Except.ok (Instr.aload_n 0, 1)) := fE fw_dX8_byWords_0_c 11 rfl
theorem dX8_byWords_22 : Eq (decode cX8_byWords 22) (Except.ok (Instr.iconst 0, 1)) := fE fw_dX8_byWords_0_c 12 rfl
theorem dX8_byWords_23 : Eq (decode cX8_byWords 23) (Except.ok (Instr.putfield 253, 3)) := fE fw_dX8_byWords_0_c 13 rfl
theorem dX8_byWords_26 : Eq (decode cX8_byWords 26) (Except.ok (Instr.aload_n 0, 1)) := fE fw_dX8_byWords_0_c 14 rfl
theorem dX8_byWords_27 : Eq (decode cX8_byWords 27) (Except.ok (Instr.iconst (-1), 1)) := fE fw_dX8_byWords_0_c 15 rfl
theorem dX8_byWords_28 : Eq (decode cX8_byWords 28) (Except.ok (Instr.putfield 100, 3)) := fE fw_dX8_byWords_0_c 16 rfl
theorem dX8_byWords_31 : Eq (decode cX8_byWords 31) (Except.ok (Instr.iconst 0, 1)) := fE fw_dX8_byWords_0_c 17 rfl
theorem dX8_byWords_32 : Eq (decode cX8_byWords 32) (Except.ok (Instr.istore_n 2, 1)) := fE fw_dX8_byWords_0_c 18 rfl
theorem dX8_byWords_33 : Eq (decode cX8_byWords 33) (Except.ok (Instr.iload_n 2, 1)) := fE fw_dX8_byWords_0_c 19 rfl
def fw_dX8_byWords_34 : List (Nat × Instr × Nat) := [(34, .aload_n 0, 1), (35, .getfield 57, 3), (38, .iload_n 1, 1), (39, .iaload, 1), (40, .if_icmp .ge 159, 3), (43, .iconst 0, 1), (44, .istore_n 3, 1), (45, .aload_n 0, 1), (46, .getfield 7, 3), (49, .aload_n 0, 1), (50, .getfield 16, 3), (53, .invokestatic 246, 3), (56, .aload_n 0, 1), (57, .dup, 1), (58, .getfield 253, 3), (61, .iconst 1, 1), (62, .iadd, 1), (63, .putfield 253, 3), (66, .iconst 0, 1), (67, .istore 4, 2)]
theorem fw_dX8_byWords_34_c : fchk 34 (cX8_byWords.data.toList.drop 34) fw_dX8_byWords_34 = true := by decide +kernel
theorem dX8_byWords_34 : Eq (decode cX8_byWords 34) (Except.ok (Instr.aload_n 0, 1)) := fE fw_dX8_byWords_34_c 0 rfl
theorem dX8_byWords_35 : Eq (decode cX8_byWords 35) (Except.ok (Instr.getfield 57, 3)) := fE fw_dX8_byWords_34_c 1 rfl
theorem dX8_byWords_38 : Eq (decode cX8_byWords 38) (Except.ok (Instr.iload_n 1, 1)) := fE fw_dX8_byWords_34_c 2 rfl
theorem dX8_byWords_39 : Eq (decode cX8_byWords 39) (Except.ok (Instr.iaload, 1)) := fE fw_dX8_byWords_34_c 3 rfl
theorem dX8_byWords_40 : Eq (decode cX8_byWords 40) (Except.ok (Instr.if_icmp .ge 159, 3)) := fE fw_dX8_byWords_34_c 4 rfl
theorem dX8_byWords_43 : Eq (decode cX8_byWords 43) (Except.ok (Instr.iconst 0, 1)) := fE fw_dX8_byWords_34_c 5 rfl
theorem dX8_byWords_44 : Eq (decode cX8_byWords 44) (Except.ok (Instr.istore_n 3, 1)) := fE fw_dX8_byWords_34_c 6 rfl
theorem dX8_byWords_45 : Eq (decode cX8_byWords 45) (Except.ok (Instr.aload_n 0, 1)) := fE fw_dX8_byWords_34_c 7 rfl
theorem dX8_byWords_46 : Eq (decode cX8_byWords 46) (Except.ok (Instr.getfield 7, 3)) := fE fw_dX8_byWords_34_c 8 rfl
theorem dX8_byWords_49 : Eq (decode cX8_byWords 49) (Except.ok (Instr.aload_n 0, 1)) := fE fw_dX8_byWords_34_c 9 rfl
theorem dX8_byWords_50 : Eq (decode cX8_byWords 50) (Except.ok (Instr.getfield 16, 3)) := fE fw_dX8_byWords_34_c 10 rfl
theorem dX8_byWords_53 : Eq (decode cX8_byWords 53) (Except.ok (Instr.invokestatic 246, 3)) := fE fw_dX8_byWords_34_c 11 rfl
theorem dX8_byWords_56 : Eq (decode cX8_byWords 56) (Except.ok (Instr.aload_n 0, 1)) := fE fw_dX8_byWords_34_c 12 rfl
theorem dX8_byWords_57 : Eq (decode cX8_byWords 57) (Except.ok (Instr.dup, 1)) := fE fw_dX8_byWords_34_c 13 rfl
theorem dX8_byWords_58 : Eq (decode cX8_byWords 58) (Except.ok (Instr.getfield 253, 3)) := fE fw_dX8_byWords_34_c 14 rfl
theorem dX8_byWords_61 : Eq (decode cX8_byWords 61) (Except.ok (Instr.iconst 1, 1)) := fE fw_dX8_byWords_34_c 15 rfl
theorem dX8_byWords_62 : Eq (decode cX8_byWords 62) (Except.ok (Instr.iadd, 1)) := fE fw_dX8_byWords_34_c 16 rfl
theorem dX8_byWords_63 : Eq (decode cX8_byWords 63) (Except.ok (Instr.putfield 253, 3)) := fE fw_dX8_byWords_34_c 17 rfl
theorem dX8_byWords_66 : Eq (decode cX8_byWords 66) (Except.ok (Instr.iconst 0, 1)) := fE fw_dX8_byWords_34_c 18 rfl
theorem dX8_byWords_67 : Eq (decode cX8_byWords 67) (Except.ok (Instr.istore 4, 2)) := fE fw_dX8_byWords_34_c 19 rfl
def fw_dX8_byWords_69 : List (Nat × Instr × Nat) := [(69, .iload 4, 2), (71, .aload_n 0, 1), (72, .getfield 41, 3), (75, .iload_n 1, 1), (76, .iaload, 1), (77, .if_icmp .ge 90, 3), (80, .bipush 10, 2), (82, .iload_n 1, 1), (83, .imul, 1), (84, .iload 4, 2), (86, .iadd, 1), (87, .istore 5, 2), (89, .aload_n 0, 1), (90, .getfield 54, 3), (93, .iload 5, 2), (95, .iaload, 1), (96, .iload_n 2, 1), (97, .if_icmp .eq 6, 3), (100, .goto 61, 3), (103, .aload_n 0, 1)]
theorem fw_dX8_byWords_69_c : fchk 69 (cX8_byWords.data.toList.drop 69) fw_dX8_byWords_69 = true := by decide +kernel
theorem dX8_byWords_69 : Eq (decode cX8_byWords 69) (Except.ok (Instr.iload 4, 2)) := fE fw_dX8_byWords_69_c 0 rfl
theorem dX8_byWords_71 : Eq (decode cX8_byWords 71) (Except.ok (Instr.aload_n 0, 1)) := fE fw_dX8_byWords_69_c 1 rfl
theorem dX8_byWords_72 : Eq (decode cX8_byWords 72) (Except.ok (Instr.getfield 41, 3)) := fE fw_dX8_byWords_69_c 2 rfl
theorem dX8_byWords_75 : Eq (decode cX8_byWords 75) (Except.ok (Instr.iload_n 1, 1)) := fE fw_dX8_byWords_69_c 3 rfl
theorem dX8_byWords_76 : Eq (decode cX8_byWords 76) (Except.ok (Instr.iaload, 1)) := fE fw_dX8_byWords_69_c 4 rfl
theorem dX8_byWords_77 : Eq (decode cX8_byWords 77) (Except.ok (Instr.if_icmp .ge 90, 3)) := fE fw_dX8_byWords_69_c 5 rfl
theorem dX8_byWords_80 : Eq (decode cX8_byWords 80) (Except.ok (Instr.bipush 10, 2)) := fE fw_dX8_byWords_69_c 6 rfl
theorem dX8_byWords_82 : Eq (decode cX8_byWords 82) (Except.ok (Instr.iload_n 1, 1)) := fE fw_dX8_byWords_69_c 7 rfl
theorem dX8_byWords_83 : Eq (decode cX8_byWords 83) (Except.ok (Instr.imul, 1)) := fE fw_dX8_byWords_69_c 8 rfl
theorem dX8_byWords_84 : Eq (decode cX8_byWords 84) (Except.ok (Instr.iload 4, 2)) := fE fw_dX8_byWords_69_c 9 rfl
theorem dX8_byWords_86 : Eq (decode cX8_byWords 86) (Except.ok (Instr.iadd, 1)) := fE fw_dX8_byWords_69_c 10 rfl
theorem dX8_byWords_87 : Eq (decode cX8_byWords 87) (Except.ok (Instr.istore 5, 2)) := fE fw_dX8_byWords_69_c 11 rfl
theorem dX8_byWords_89 : Eq (decode cX8_byWords 89) (Except.ok (Instr.aload_n 0, 1)) := fE fw_dX8_byWords_69_c 12 rfl
theorem dX8_byWords_90 : Eq (decode cX8_byWords 90) (Except.ok (Instr.getfield 54, 3)) := fE fw_dX8_byWords_69_c 13 rfl
theorem dX8_byWords_93 : Eq (decode cX8_byWords 93) (Except.ok (Instr.iload 5, 2)) := fE fw_dX8_byWords_69_c 14 rfl
theorem dX8_byWords_95 : Eq (decode cX8_byWords 95) (Except.ok (Instr.iaload, 1)) := fE fw_dX8_byWords_69_c 15 rfl
theorem dX8_byWords_96 : Eq (decode cX8_byWords 96) (Except.ok (Instr.iload_n 2, 1)) := fE fw_dX8_byWords_69_c 16 rfl
theorem dX8_byWords_97 : Eq (decode cX8_byWords 97) (Except.ok (Instr.if_icmp .eq 6, 3)) := fE fw_dX8_byWords_69_c 17 rfl
theorem dX8_byWords_100 : Eq (decode cX8_byWords 100) (Except.ok (Instr.goto 61, 3)) := fE fw_dX8_byWords_69_c 18 rfl
theorem dX8_byWords_103 : Eq (decode cX8_byWords 103) (Except.ok (Instr.aload_n 0, 1)) := fE fw_dX8_byWords_69_c 19 rfl
def fw_dX8_byWords_104 : List (Nat × Instr × Nat) := [(104, .dup, 1), (105, .getfield 250, 3), (108, .iconst 1, 1), (109, .iadd, 1), (110, .putfield 250, 3), (113, .aload_n 0, 1), (114, .iload 5, 2), (116, .invokevirtual 256, 3), (119, .ifCond .ne 12, 3), (122, .aload_n 0, 1), (123, .iload 5, 2), (125, .invokevirtual 259, 3), (128, .goto 33, 3), (131, .aload_n 0, 1), (132, .getfield 29, 3), (135, .iload 5, 2), (137, .iaload, 1), (138, .bipush 9, 2), (140, .if_icmp .ne 8, 3), (143, .iconst 1, 1)]
theorem fw_dX8_byWords_104_c : fchk 104 (cX8_byWords.data.toList.drop 104) fw_dX8_byWords_104 = true := by decide +kernel
theorem dX8_byWords_104 : Eq (decode cX8_byWords 104) (Except.ok (Instr.dup, 1)) := fE fw_dX8_byWords_104_c 0 rfl
theorem dX8_byWords_105 : Eq (decode cX8_byWords 105) (Except.ok (Instr.getfield 250, 3)) := fE fw_dX8_byWords_104_c 1 rfl
theorem dX8_byWords_108 : Eq (decode cX8_byWords 108) (Except.ok (Instr.iconst 1, 1)) := fE fw_dX8_byWords_104_c 2 rfl
theorem dX8_byWords_109 : Eq (decode cX8_byWords 109) (Except.ok (Instr.iadd, 1)) := fE fw_dX8_byWords_104_c 3 rfl
theorem dX8_byWords_110 : Eq (decode cX8_byWords 110) (Except.ok (Instr.putfield 250, 3)) := fE fw_dX8_byWords_104_c 4 rfl
theorem dX8_byWords_113 : Eq (decode cX8_byWords 113) (Except.ok (Instr.aload_n 0, 1)) := fE fw_dX8_byWords_104_c 5 rfl
theorem dX8_byWords_114 : Eq (decode cX8_byWords 114) (Except.ok (Instr.iload 5, 2)) := fE fw_dX8_byWords_104_c 6 rfl
theorem dX8_byWords_116 : Eq (decode cX8_byWords 116) (Except.ok (Instr.invokevirtual 256, 3)) := fE fw_dX8_byWords_104_c 7 rfl
theorem dX8_byWords_119 : Eq (decode cX8_byWords 119) (Except.ok (Instr.ifCond .ne 12, 3)) := fE fw_dX8_byWords_104_c 8 rfl
theorem dX8_byWords_122 : Eq (decode cX8_byWords 122) (Except.ok (Instr.aload_n 0, 1)) := fE fw_dX8_byWords_104_c 9 rfl
theorem dX8_byWords_123 : Eq (decode cX8_byWords 123) (Except.ok (Instr.iload 5, 2)) := fE fw_dX8_byWords_104_c 10 rfl
theorem dX8_byWords_125 : Eq (decode cX8_byWords 125) (Except.ok (Instr.invokevirtual 259, 3)) := fE fw_dX8_byWords_104_c 11 rfl
theorem dX8_byWords_128 : Eq (decode cX8_byWords 128) (Except.ok (Instr.goto 33, 3)) := fE fw_dX8_byWords_104_c 12 rfl
theorem dX8_byWords_131 : Eq (decode cX8_byWords 131) (Except.ok (Instr.aload_n 0, 1)) := fE fw_dX8_byWords_104_c 13 rfl
theorem dX8_byWords_132 : Eq (decode cX8_byWords 132) (Except.ok (Instr.getfield 29, 3)) := fE fw_dX8_byWords_104_c 14 rfl
theorem dX8_byWords_135 : Eq (decode cX8_byWords 135) (Except.ok (Instr.iload 5, 2)) := fE fw_dX8_byWords_104_c 15 rfl
theorem dX8_byWords_137 : Eq (decode cX8_byWords 137) (Except.ok (Instr.iaload, 1)) := fE fw_dX8_byWords_104_c 16 rfl
theorem dX8_byWords_138 : Eq (decode cX8_byWords 138) (Except.ok (Instr.bipush 9, 2)) := fE fw_dX8_byWords_104_c 17 rfl
theorem dX8_byWords_140 : Eq (decode cX8_byWords 140) (Except.ok (Instr.if_icmp .ne 8, 3)) := fE fw_dX8_byWords_104_c 18 rfl
theorem dX8_byWords_143 : Eq (decode cX8_byWords 143) (Except.ok (Instr.iconst 1, 1)) := fE fw_dX8_byWords_104_c 19 rfl
def fw_dX8_byWords_144 : List (Nat × Instr × Nat) := [(144, .istore_n 3, 1), (145, .goto 16, 3), (148, .aload_n 0, 1), (149, .getfield 100, 3), (152, .ifCond .ge 9, 3), (155, .aload_n 0, 1), (156, .iload 4, 2), (158, .putfield 100, 3)]
theorem fw_dX8_byWords_144_c : fchk 144 (cX8_byWords.data.toList.drop 144) fw_dX8_byWords_144 = true := by decide +kernel
theorem dX8_byWords_144 : Eq (decode cX8_byWords 144) (Except.ok (Instr.istore_n 3, 1)) := fE fw_dX8_byWords_144_c 0 rfl
theorem dX8_byWords_145 : Eq (decode cX8_byWords 145) (Except.ok (Instr.goto 16, 3)) := fE fw_dX8_byWords_144_c 1 rfl
theorem dX8_byWords_148 : Eq (decode cX8_byWords 148) (Except.ok (Instr.aload_n 0, 1)) := fE fw_dX8_byWords_144_c 2 rfl
theorem dX8_byWords_149 : Eq (decode cX8_byWords 149) (Except.ok (Instr.getfield 100, 3)) := fE fw_dX8_byWords_144_c 3 rfl
theorem dX8_byWords_152 : Eq (decode cX8_byWords 152) (Except.ok (Instr.ifCond .ge 9, 3)) := fE fw_dX8_byWords_144_c 4 rfl
theorem dX8_byWords_155 : Eq (decode cX8_byWords 155) (Except.ok (Instr.aload_n 0, 1)) := fE fw_dX8_byWords_144_c 5 rfl
theorem dX8_byWords_156 : Eq (decode cX8_byWords 156) (Except.ok (Instr.iload 4, 2)) := fE fw_dX8_byWords_144_c 6 rfl
theorem dX8_byWords_158 : Eq (decode cX8_byWords 158) (Except.ok (Instr.putfield 100, 3)) := fE fw_dX8_byWords_144_c 7 rfl
theorem dX8_byWords_161 : decode cX8_byWords 161 = .ok (.iinc 4 1, 3) := by decide +kernel
def fw_dX8_byWords_164 : List (Nat × Instr × Nat) := [(164, .goto (-95), 3), (167, .aload_n 0, 1), (168, .getfield 100, 3), (171, .ifCond .lt 16, 3), (174, .aload_n 0, 1), (175, .getfield 19, 3), (178, .aload_n 0, 1), (179, .getfield 7, 3), (182, .invokestatic 246, 3), (185, .iconst 2, 1), (186, .ireturn, 1), (187, .iload_n 3, 1), (188, .ifCond .eq 5, 3), (191, .iconst 1, 1), (192, .ireturn, 1)]
theorem fw_dX8_byWords_164_c : fchk 164 (cX8_byWords.data.toList.drop 164) fw_dX8_byWords_164 = true := by decide +kernel
theorem dX8_byWords_164 : Eq (decode cX8_byWords 164) (Except.ok (Instr.goto (-95), 3)) := fE fw_dX8_byWords_164_c 0 rfl
theorem dX8_byWords_167 : Eq (decode cX8_byWords 167) (Except.ok (Instr.aload_n 0, 1)) := fE fw_dX8_byWords_164_c 1 rfl
theorem dX8_byWords_168 : Eq (decode cX8_byWords 168) (Except.ok (Instr.getfield 100, 3)) := fE fw_dX8_byWords_164_c 2 rfl
theorem dX8_byWords_171 : Eq (decode cX8_byWords 171) (Except.ok (Instr.ifCond .lt 16, 3)) := fE fw_dX8_byWords_164_c 3 rfl
theorem dX8_byWords_174 : Eq (decode cX8_byWords 174) (Except.ok (Instr.aload_n 0, 1)) := fE fw_dX8_byWords_164_c 4 rfl
theorem dX8_byWords_175 : Eq (decode cX8_byWords 175) (Except.ok (Instr.getfield 19, 3)) := fE fw_dX8_byWords_164_c 5 rfl
theorem dX8_byWords_178 : Eq (decode cX8_byWords 178) (Except.ok (Instr.aload_n 0, 1)) := fE fw_dX8_byWords_164_c 6 rfl
theorem dX8_byWords_179 : Eq (decode cX8_byWords 179) (Except.ok (Instr.getfield 7, 3)) := fE fw_dX8_byWords_164_c 7 rfl
theorem dX8_byWords_182 : Eq (decode cX8_byWords 182) (Except.ok (Instr.invokestatic 246, 3)) := fE fw_dX8_byWords_164_c 8 rfl
theorem dX8_byWords_185 : Eq (decode cX8_byWords 185) (Except.ok (Instr.iconst 2, 1)) := fE fw_dX8_byWords_164_c 9 rfl
theorem dX8_byWords_186 : Eq (decode cX8_byWords 186) (Except.ok (Instr.ireturn, 1)) := fE fw_dX8_byWords_164_c 10 rfl
theorem dX8_byWords_187 : Eq (decode cX8_byWords 187) (Except.ok (Instr.iload_n 3, 1)) := fE fw_dX8_byWords_164_c 11 rfl
theorem dX8_byWords_188 : Eq (decode cX8_byWords 188) (Except.ok (Instr.ifCond .eq 5, 3)) := fE fw_dX8_byWords_164_c 12 rfl
theorem dX8_byWords_191 : Eq (decode cX8_byWords 191) (Except.ok (Instr.iconst 1, 1)) := fE fw_dX8_byWords_164_c 13 rfl
theorem dX8_byWords_192 : Eq (decode cX8_byWords 192) (Except.ok (Instr.ireturn, 1)) := fE fw_dX8_byWords_164_c 14 rfl
theorem dX8_byWords_193 : decode cX8_byWords 193 = .ok (.iinc 2 1, 3) := by decide +kernel
def fw_dX8_byWords_196 : List (Nat × Instr × Nat) := [(196, .goto (-163), 3), (199, .iconst 0, 1), (200, .ireturn, 1)]
theorem fw_dX8_byWords_196_c : fchk 196 (cX8_byWords.data.toList.drop 196) fw_dX8_byWords_196 = true := by decide +kernel
theorem dX8_byWords_196 : Eq (decode cX8_byWords 196) (Except.ok (Instr.goto (-163), 3)) := fE fw_dX8_byWords_196_c 0 rfl
theorem dX8_byWords_199 : Eq (decode cX8_byWords 199) (Except.ok (Instr.iconst 0, 1)) := fE fw_dX8_byWords_196_c 1 rfl
theorem dX8_byWords_200 : Eq (decode cX8_byWords 200) (Except.ok (Instr.ireturn, 1)) := fE fw_dX8_byWords_196_c 2 rfl
set_option maxRecDepth 20000 in
theorem gi_wsX8_run_0 : GoodIn wsX8_run wsX8_run_r1 := goodIn_sub (fun w h => List.mem_cons_of_mem _ (List.mem_append_left _ (List.mem_append_left _ h))) (by decide +kernel)
set_option maxRecDepth 20000 in
theorem gi_wsX8_run_1 : GoodIn wsX8_run wsX8_run_r2 := goodIn_sub (fun w h => List.mem_cons_of_mem _ (List.mem_append_left _ (List.mem_append_right _ (List.mem_append_left _ h)))) (by decide +kernel)
set_option maxRecDepth 20000 in
theorem gi_wsX8_run_2 : GoodIn wsX8_run wsX8_run_r3 := goodIn_sub (fun w h => List.mem_cons_of_mem _ (List.mem_append_left _ (List.mem_append_right _ (List.mem_append_right _ (List.mem_append_left _ h))))) (by decide +kernel)
set_option maxRecDepth 20000 in
theorem gi_wsX8_run_3 : GoodIn wsX8_run wsX8_run_r4 := goodIn_sub (fun w h => List.mem_cons_of_mem _ (List.mem_append_left _ (List.mem_append_right _ (List.mem_append_right _ (List.mem_append_right _ h))))) (by decide +kernel)
set_option maxRecDepth 20000 in
theorem gi_wsX8_run_4 : GoodIn wsX8_run wsX80 := goodIn_sub (fun w h => List.mem_cons_of_mem _ (List.mem_append_right _ h)) (by decide +kernel)
def bs_wsX8_run : List (List Cond) := [wsX8_run_r1, wsX8_run_r2, wsX8_run_r3, wsX8_run_r4, wsX80]
theorem bs_wsX8_run_in : ∀ b ∈ bs_wsX8_run, GoodIn wsX8_run b := List.forall_mem_cons.mpr ⟨gi_wsX8_run_0, List.forall_mem_cons.mpr ⟨gi_wsX8_run_1, List.forall_mem_cons.mpr ⟨gi_wsX8_run_2, List.forall_mem_cons.mpr ⟨gi_wsX8_run_3, List.forall_mem_cons.mpr ⟨gi_wsX8_run_4, (fun _ h => absurd h List.not_mem_nil)⟩⟩⟩⟩⟩
set_option maxRecDepth 20000 in
theorem ggX8_run_X8_isInstruction : GoodIn wsX8_run wsX8_isInstruction := goodIn_k (gi_q bs_wsX8_run_in _ [(0, 3)] rfl) (gi_q bs_wsX8_run_in _ [] rfl)
set_option maxRecDepth 20000 in
theorem gX8_run_X8_isInstruction : GoodIn wsX8_run (va_wsS RX8 157 yX8_isInstruction wsX8_isInstruction) := goodIn_app (gi_q bs_wsX8_run_in _ [(0, 0), (0, 1), (0, 2)] rfl) ggX8_run_X8_isInstruction
set_option maxRecDepth 20000 in
theorem ggX8_run_X8_no : GoodIn wsX8_run wsX8_no := goodIn_k (gi_q bs_wsX8_run_in _ [(0, 7)] rfl) (goodIn_app (gi_q bs_wsX8_run_in _ [(0, 8)] rfl) (gi_wsX8_run_4))
set_option maxRecDepth 20000 in
theorem gX8_run_X8_no : GoodIn wsX8_run (wsV RX8 122 RX8 yX8_no wsX8_no) := goodIn_app (gi_q bs_wsX8_run_in _ [(0, 4), (0, 5), (0, 6), (0, 2)] rfl) ggX8_run_X8_no
set_option maxRecDepth 20000 in
theorem ggX8_run_X8_byWords : GoodIn wsX8_run wsX8_byWords := goodIn_k (gi_q bs_wsX8_run_in _ [(0, 12)] rfl) (goodIn_app (goodIn_app (gi_q bs_wsX8_run_in _ [(0, 13), (0, 14), (0, 15), (0, 16), (0, 17), (0, 18), (0, 19), (0, 20), (0, 21), (0, 22), (0, 23), (1, 0), (1, 1), (0, 2), (1, 2), (1, 3), (1, 4), (1, 5), (1, 6), (1, 7), (1, 8), (1, 9), (1, 10), (1, 11)] rfl) (goodIn_app (gi_q bs_wsX8_run_in _ [(1, 12), (1, 13), (1, 14), (1, 15), (1, 16), (1, 17), (1, 18), (1, 19), (1, 20), (1, 21), (1, 22), (1, 23), (2, 0), (2, 1), (2, 2), (2, 3), (2, 4), (2, 5), (2, 6), (2, 7), (2, 8), (2, 9), (2, 10), (2, 11)] rfl) (goodIn_app (gi_q bs_wsX8_run_in _ [(2, 12), (2, 13), (2, 14), (2, 15), (2, 16), (2, 17), (2, 18), (2, 19), (2, 20), (2, 21), (2, 22), (2, 23), (3, 0), (3, 1), (3, 2), (3, 3), (3, 4), (3, 5), (3, 6), (3, 7), (3, 8), (3, 9), (3, 10), (3, 11)] rfl) (gi_q bs_wsX8_run_in _ [(3, 12)] rfl)))) (gi_wsX8_run_4))
set_option maxRecDepth 20000 in
theorem gX8_run_X8_byWords : GoodIn wsX8_run (wsV RX8 262 RX8 yX8_byWords wsX8_byWords) := goodIn_app (gi_q bs_wsX8_run_in _ [(0, 9), (0, 10), (0, 11), (0, 2)] rfl) ggX8_run_X8_byWords
set_option maxRecDepth 20000 in
theorem ggX8_run_X8_plainly : GoodIn wsX8_run wsX8_plainly := goodIn_k (gi_q bs_wsX8_run_in _ [(3, 16)] rfl) (goodIn_app (goodIn_app (gi_q bs_wsX8_run_in _ [(0, 13), (0, 14), (0, 15), (0, 16), (0, 17), (0, 20), (0, 19), (0, 22), (2, 12), (2, 13), (0, 2), (2, 14), (2, 15), (2, 16), (2, 17), (2, 18), (1, 23), (2, 0), (2, 19), (2, 20), (2, 21), (2, 22), (2, 23), (3, 0)] rfl) (gi_q bs_wsX8_run_in _ [(3, 1), (3, 2), (3, 3), (1, 15), (3, 4), (3, 5), (3, 6), (3, 7), (3, 8), (3, 9), (3, 10), (3, 11), (3, 12)] rfl)) (gi_wsX8_run_4))
set_option maxRecDepth 20000 in
theorem gX8_run_X8_plainly : GoodIn wsX8_run (wsV RX8 265 RX8 yX8_plainly wsX8_plainly) := goodIn_app (gi_q bs_wsX8_run_in _ [(3, 13), (3, 14), (3, 15), (0, 2)] rfl) ggX8_run_X8_plainly
def fw_dX8_run_0 : List (Nat × Instr × Nat) := [(0, .iload_n 1, 1), (1, .invokestatic 157, 3), (4, .ifCond .ne 10, 3), (7, .aload_n 0, 1), (8, .bipush (-3), 2), (10, .invokevirtual 122, 3), (13, .ireturn, 1), (14, .iload_n 2, 1), (15, .ifCond .eq 11, 3), (18, .aload_n 0, 1), (19, .iload_n 1, 1), (20, .invokevirtual 262, 3), (23, .goto 8, 3), (26, .aload_n 0, 1), (27, .iload_n 1, 1), (28, .invokevirtual 265, 3), (31, .ireturn, 1)]
theorem fw_dX8_run_0_c : fchk 0 (cX8_run.data.toList.drop 0) fw_dX8_run_0 = true := by decide +kernel
theorem dX8_run_0 : Eq (decode cX8_run 0) (Except.ok (Instr.iload_n 1, 1)) := fE fw_dX8_run_0_c 0 rfl
theorem dX8_run_1 : Eq (decode cX8_run 1) (Except.ok (Instr.invokestatic 157, 3)) := fE fw_dX8_run_0_c 1 rfl
theorem dX8_run_4 : Eq (decode cX8_run 4) (Except.ok (Instr.ifCond .ne 10, 3)) := fE fw_dX8_run_0_c 2 rfl
theorem dX8_run_7 : Eq (decode cX8_run 7) (Except.ok (Instr.aload_n 0, 1)) := fE fw_dX8_run_0_c 3 rfl
theorem dX8_run_8 : Eq (decode cX8_run 8) (Except.ok (Instr.bipush (-3), 2)) := fE fw_dX8_run_0_c 4 rfl
theorem dX8_run_10 : Eq (decode cX8_run 10) (Except.ok (Instr.invokevirtual 122, 3)) := fE fw_dX8_run_0_c 5 rfl
theorem dX8_run_13 : Eq (decode cX8_run 13) (Except.ok (Instr.ireturn, 1)) := fE fw_dX8_run_0_c 6 rfl
theorem dX8_run_14 : Eq (decode cX8_run 14) (Except.ok (Instr.iload_n 2, 1)) := fE fw_dX8_run_0_c 7 rfl
theorem dX8_run_15 : Eq (decode cX8_run 15) (Except.ok (Instr.ifCond .eq 11, 3)) := fE fw_dX8_run_0_c 8 rfl
theorem dX8_run_18 : Eq (decode cX8_run 18) (Except.ok (Instr.aload_n 0, 1)) := fE fw_dX8_run_0_c 9 rfl
theorem dX8_run_19 : Eq (decode cX8_run 19) (Except.ok (Instr.iload_n 1, 1)) := fE fw_dX8_run_0_c 10 rfl
theorem dX8_run_20 : Eq (decode cX8_run 20) (Except.ok (Instr.invokevirtual 262, 3)) := fE fw_dX8_run_0_c 11 rfl
theorem dX8_run_23 : Eq (decode cX8_run 23) (Except.ok (Instr.goto 8, 3)) := fE fw_dX8_run_0_c 12 rfl
theorem dX8_run_26 : Eq (decode cX8_run 26) (Except.ok (Instr.aload_n 0, 1)) := fE fw_dX8_run_0_c 13 rfl
theorem dX8_run_27 : Eq (decode cX8_run 27) (Except.ok (Instr.iload_n 1, 1)) := fE fw_dX8_run_0_c 14 rfl
theorem dX8_run_28 : Eq (decode cX8_run 28) (Except.ok (Instr.invokevirtual 265, 3)) := fE fw_dX8_run_0_c 15 rfl
theorem dX8_run_31 : Eq (decode cX8_run 31) (Except.ok (Instr.ireturn, 1)) := fE fw_dX8_run_0_c 16 rfl
set_option maxRecDepth 20000 in
theorem gi_wsX8_told_0 : GoodIn wsX8_told wsX8_told := goodIn_sub (fun _ h => h) (by decide +kernel)
set_option maxRecDepth 20000 in
theorem gi_wsX8_told_1 : GoodIn wsX8_told wsX80 := goodIn_sub (fun w h => List.mem_cons_of_mem _ (List.mem_append_right _ h)) (by decide +kernel)
def bs_wsX8_told : List (List Cond) := [wsX8_told, wsX80]
theorem bs_wsX8_told_in : ∀ b ∈ bs_wsX8_told, GoodIn wsX8_told b := List.forall_mem_cons.mpr ⟨gi_wsX8_told_0, List.forall_mem_cons.mpr ⟨gi_wsX8_told_1, (fun _ h => absurd h List.not_mem_nil)⟩⟩
set_option maxRecDepth 20000 in
theorem ggX8_told_X8_isIn : GoodIn wsX8_told wsX8_isIn := goodIn_k (gi_q bs_wsX8_told_in _ [(0, 8)] rfl) (gi_q bs_wsX8_told_in _ [] rfl)
set_option maxRecDepth 20000 in
theorem gX8_told_X8_isIn : GoodIn wsX8_told (va_wsS RX8 128 yX8_isIn wsX8_isIn) := goodIn_app (gi_q bs_wsX8_told_in _ [(0, 5), (0, 6), (0, 7)] rfl) ggX8_told_X8_isIn
set_option maxRecDepth 20000 in
theorem ggX8_told_X8_no : GoodIn wsX8_told wsX8_no := goodIn_k (gi_q bs_wsX8_told_in _ [(0, 12)] rfl) (goodIn_app (gi_q bs_wsX8_told_in _ [(0, 13)] rfl) (gi_wsX8_told_1))
set_option maxRecDepth 20000 in
theorem gX8_told_X8_no : GoodIn wsX8_told (wsV RX8 122 RX8 yX8_no wsX8_no) := goodIn_app (gi_q bs_wsX8_told_in _ [(0, 9), (0, 10), (0, 11), (0, 7)] rfl) ggX8_told_X8_no
def fw_dX8_told_0 : List (Nat × Instr × Nat) := [(0, .iload_n 1, 1), (1, .i2l, 1), (2, .lconst 0, 1), (3, .ldc2_w 141, 3), (6, .invokestatic 128, 3), (9, .ifCond .ne 10, 3), (12, .aload_n 0, 1), (13, .bipush (-6), 2), (15, .invokevirtual 122, 3), (18, .ireturn, 1), (19, .iload_n 1, 1), (20, .ifCond .ne 10, 3), (23, .aload_n 0, 1), (24, .getfield 250, 3), (27, .goto 19, 3), (30, .iload_n 1, 1), (31, .iconst 1, 1), (32, .if_icmp .ne 10, 3), (35, .aload_n 0, 1), (36, .getfield 253, 3)]
theorem fw_dX8_told_0_c : fchk 0 (cX8_told.data.toList.drop 0) fw_dX8_told_0 = true := by decide +kernel
theorem dX8_told_0 : Eq (decode cX8_told 0) (Except.ok (Instr.iload_n 1, 1)) := fE fw_dX8_told_0_c 0 rfl
theorem dX8_told_1 : Eq (decode cX8_told 1) (Except.ok (Instr.i2l, 1)) := fE fw_dX8_told_0_c 1 rfl
theorem dX8_told_2 : Eq (decode cX8_told 2) (Except.ok (Instr.lconst 0, 1)) := fE fw_dX8_told_0_c 2 rfl
theorem dX8_told_3 : Eq (decode cX8_told 3) (Except.ok (Instr.ldc2_w 141, 3)) := fE fw_dX8_told_0_c 3 rfl
theorem dX8_told_6 : Eq (decode cX8_told 6) (Except.ok (Instr.invokestatic 128, 3)) := fE fw_dX8_told_0_c 4 rfl
theorem dX8_told_9 : Eq (decode cX8_told 9) (Except.ok (Instr.ifCond .ne 10, 3)) := fE fw_dX8_told_0_c 5 rfl
theorem dX8_told_12 : Eq (decode cX8_told 12) (Except.ok (Instr.aload_n 0, 1)) := fE fw_dX8_told_0_c 6 rfl
theorem dX8_told_13 : Eq (decode cX8_told 13) (Except.ok (Instr.bipush (-6), 2)) := fE fw_dX8_told_0_c 7 rfl
theorem dX8_told_15 : Eq (decode cX8_told 15) (Except.ok (Instr.invokevirtual 122, 3)) := fE fw_dX8_told_0_c 8 rfl
theorem dX8_told_18 : Eq (decode cX8_told 18) (Except.ok (Instr.ireturn, 1)) := fE fw_dX8_told_0_c 9 rfl
theorem dX8_told_19 : Eq (decode cX8_told 19) (Except.ok (Instr.iload_n 1, 1)) := fE fw_dX8_told_0_c 10 rfl
theorem dX8_told_20 : Eq (decode cX8_told 20) (Except.ok (Instr.ifCond .ne 10, 3)) := fE fw_dX8_told_0_c 11 rfl
theorem dX8_told_23 : Eq (decode cX8_told 23) (Except.ok (Instr.aload_n 0, 1)) := fE fw_dX8_told_0_c 12 rfl
theorem dX8_told_24 : Eq (decode cX8_told 24) (Except.ok (Instr.getfield 250, 3)) := fE fw_dX8_told_0_c 13 rfl
theorem dX8_told_27 : Eq (decode cX8_told 27) (Except.ok (Instr.goto 19, 3)) := fE fw_dX8_told_0_c 14 rfl
theorem dX8_told_30 : Eq (decode cX8_told 30) (Except.ok (Instr.iload_n 1, 1)) := fE fw_dX8_told_0_c 15 rfl
theorem dX8_told_31 : Eq (decode cX8_told 31) (Except.ok (Instr.iconst 1, 1)) := fE fw_dX8_told_0_c 16 rfl
theorem dX8_told_32 : Eq (decode cX8_told 32) (Except.ok (Instr.if_icmp .ne 10, 3)) := fE fw_dX8_told_0_c 17 rfl
theorem dX8_told_35 : Eq (decode cX8_told 35) (Except.ok (Instr.aload_n 0, 1)) := fE fw_dX8_told_0_c 18 rfl
theorem dX8_told_36 : Eq (decode cX8_told 36) (Except.ok (Instr.getfield 253, 3)) := fE fw_dX8_told_0_c 19 rfl
def fw_dX8_told_39 : List (Nat × Instr × Nat) := [(39, .goto 7, 3), (42, .aload_n 0, 1), (43, .getfield 100, 3), (46, .ireturn, 1)]
theorem fw_dX8_told_39_c : fchk 39 (cX8_told.data.toList.drop 39) fw_dX8_told_39 = true := by decide +kernel
theorem dX8_told_39 : Eq (decode cX8_told 39) (Except.ok (Instr.goto 7, 3)) := fE fw_dX8_told_39_c 0 rfl
theorem dX8_told_42 : Eq (decode cX8_told 42) (Except.ok (Instr.aload_n 0, 1)) := fE fw_dX8_told_39_c 1 rfl
theorem dX8_told_43 : Eq (decode cX8_told 43) (Except.ok (Instr.getfield 100, 3)) := fE fw_dX8_told_39_c 2 rfl
theorem dX8_told_46 : Eq (decode cX8_told 46) (Except.ok (Instr.ireturn, 1)) := fE fw_dX8_told_39_c 3 rfl
set_option maxRecDepth 20000 in
theorem gi_wsX8_beside_0 : GoodIn wsX8_beside wsX8_beside_r1 := goodIn_sub (fun w h => List.mem_cons_of_mem _ (List.mem_append_left _ (List.mem_append_left _ h))) (by decide +kernel)
set_option maxRecDepth 20000 in
theorem gi_wsX8_beside_1 : GoodIn wsX8_beside wsX8_beside_r2 := goodIn_sub (fun w h => List.mem_cons_of_mem _ (List.mem_append_left _ (List.mem_append_right _ (List.mem_append_left _ h)))) (by decide +kernel)
set_option maxRecDepth 20000 in
theorem gi_wsX8_beside_2 : GoodIn wsX8_beside wsX8_beside_r3 := goodIn_sub (fun w h => List.mem_cons_of_mem _ (List.mem_append_left _ (List.mem_append_right _ (List.mem_append_right _ (List.mem_append_left _ h))))) (by decide +kernel)
set_option maxRecDepth 20000 in
theorem gi_wsX8_beside_3 : GoodIn wsX8_beside wsX8_beside_r4 := goodIn_sub (fun w h => List.mem_cons_of_mem _ (List.mem_append_left _ (List.mem_append_right _ (List.mem_append_right _ (List.mem_append_right _ h))))) (by decide +kernel)
set_option maxRecDepth 20000 in
theorem gi_wsX8_beside_4 : GoodIn wsX8_beside wsX80 := goodIn_sub (fun w h => List.mem_cons_of_mem _ (List.mem_append_right _ h)) (by decide +kernel)
def bs_wsX8_beside : List (List Cond) := [wsX8_beside_r1, wsX8_beside_r2, wsX8_beside_r3, wsX8_beside_r4, wsX80]
theorem bs_wsX8_beside_in : ∀ b ∈ bs_wsX8_beside, GoodIn wsX8_beside b := List.forall_mem_cons.mpr ⟨gi_wsX8_beside_0, List.forall_mem_cons.mpr ⟨gi_wsX8_beside_1, List.forall_mem_cons.mpr ⟨gi_wsX8_beside_2, List.forall_mem_cons.mpr ⟨gi_wsX8_beside_3, List.forall_mem_cons.mpr ⟨gi_wsX8_beside_4, (fun _ h => absurd h List.not_mem_nil)⟩⟩⟩⟩⟩
set_option maxRecDepth 20000 in
theorem ggX8_beside_X8_isInstruction : GoodIn wsX8_beside wsX8_isInstruction := goodIn_k (gi_q bs_wsX8_beside_in _ [(0, 9)] rfl) (gi_q bs_wsX8_beside_in _ [] rfl)
set_option maxRecDepth 20000 in
theorem gX8_beside_X8_isInstruction : GoodIn wsX8_beside (va_wsS RX8 157 yX8_isInstruction wsX8_isInstruction) := goodIn_app (gi_q bs_wsX8_beside_in _ [(0, 6), (0, 7), (0, 8)] rfl) ggX8_beside_X8_isInstruction
set_option maxRecDepth 20000 in
theorem ggX8_beside_X8_no : GoodIn wsX8_beside wsX8_no := goodIn_k (gi_q bs_wsX8_beside_in _ [(0, 13)] rfl) (goodIn_app (gi_q bs_wsX8_beside_in _ [(0, 14)] rfl) (gi_wsX8_beside_4))
set_option maxRecDepth 20000 in
theorem gX8_beside_X8_no : GoodIn wsX8_beside (wsV RX8 122 RX8 yX8_no wsX8_no) := goodIn_app (gi_q bs_wsX8_beside_in _ [(0, 10), (0, 11), (0, 12), (0, 8)] rfl) ggX8_beside_X8_no
set_option maxRecDepth 20000 in
theorem ggX8_beside_X8_copies : GoodIn wsX8_beside wsX8_copies := goodIn_k (gi_q bs_wsX8_beside_in _ [(0, 17)] rfl) (gi_q bs_wsX8_beside_in _ [] rfl)
set_option maxRecDepth 20000 in
theorem gX8_beside_X8_copies : GoodIn wsX8_beside (va_wsS RX8 246 yX8_copies wsX8_copies) := goodIn_app (gi_q bs_wsX8_beside_in _ [(0, 15), (0, 16), (0, 8)] rfl) ggX8_beside_X8_copies
set_option maxRecDepth 20000 in
theorem ggX8_beside_X8_plainly : GoodIn wsX8_beside wsX8_plainly := goodIn_k (gi_q bs_wsX8_beside_in _ [(0, 21)] rfl) (goodIn_app (goodIn_app (gi_q bs_wsX8_beside_in _ [(0, 3), (0, 22), (0, 0), (0, 1), (0, 2), (0, 23), (1, 0), (1, 1), (0, 15), (0, 16), (0, 8), (0, 17), (1, 2), (1, 3), (1, 4), (1, 5), (1, 6), (1, 7), (1, 8), (1, 9), (1, 10), (1, 11), (1, 12), (1, 13)] rfl) (gi_q bs_wsX8_beside_in _ [(1, 14), (1, 15), (1, 16), (1, 17), (1, 18), (1, 19), (1, 20), (1, 21), (1, 22), (1, 23), (2, 0), (2, 1), (2, 2)] rfl)) (gi_wsX8_beside_4))
set_option maxRecDepth 20000 in
theorem gX8_beside_X8_plainly : GoodIn wsX8_beside (wsV RX8 265 RX8 yX8_plainly wsX8_plainly) := goodIn_app (gi_q bs_wsX8_beside_in _ [(0, 18), (0, 19), (0, 20), (0, 8)] rfl) ggX8_beside_X8_plainly
set_option maxRecDepth 20000 in
theorem ggX8_beside_X8_byWords : GoodIn wsX8_beside wsX8_byWords := goodIn_k (gi_q bs_wsX8_beside_in _ [(2, 6)] rfl) (goodIn_app (goodIn_app (gi_q bs_wsX8_beside_in _ [(0, 3), (0, 22), (0, 0), (0, 1), (0, 2), (2, 7), (1, 0), (0, 23), (2, 8), (1, 1), (2, 9), (2, 10), (2, 11), (0, 8), (2, 12), (2, 13), (2, 14), (2, 15), (2, 16), (2, 17), (2, 18), (2, 19), (2, 20), (2, 21)] rfl) (goodIn_app (gi_q bs_wsX8_beside_in _ [(2, 22), (2, 23), (3, 0), (1, 17), (3, 1), (3, 2), (3, 3), (3, 4), (3, 5), (3, 6), (3, 7), (1, 6), (1, 7), (3, 8), (3, 9), (3, 10), (3, 11), (3, 12), (3, 13), (3, 14), (3, 15), (3, 16), (3, 17), (3, 18)] rfl) (goodIn_app (gi_q bs_wsX8_beside_in _ [(0, 15), (0, 16), (0, 17), (1, 2), (1, 3), (1, 4), (1, 5), (1, 8), (1, 9), (1, 10), (1, 11), (1, 12), (1, 13), (1, 14), (1, 15), (1, 16), (1, 18), (1, 19), (1, 20), (1, 21), (1, 22), (1, 23), (2, 0), (2, 1)] rfl) (gi_q bs_wsX8_beside_in _ [(2, 2)] rfl)))) (gi_wsX8_beside_4))
set_option maxRecDepth 20000 in
theorem gX8_beside_X8_byWords : GoodIn wsX8_beside (wsV RX8 262 RX8 yX8_byWords wsX8_byWords) := goodIn_app (gi_q bs_wsX8_beside_in _ [(2, 3), (2, 4), (2, 5), (0, 8)] rfl) ggX8_beside_X8_byWords
def fw_dX8_beside_0 : List (Nat × Instr × Nat) := [(0, .iload_n 1, 1), (1, .invokestatic 157, 3), (4, .ifCond .ne 10, 3), (7, .aload_n 0, 1), (8, .bipush (-3), 2), (10, .invokevirtual 122, 3), (13, .ireturn, 1), (14, .aload_n 0, 1), (15, .getfield 250, 3), (18, .istore_n 2, 1), (19, .aload_n 0, 1), (20, .getfield 253, 3), (23, .istore_n 3, 1), (24, .aload_n 0, 1), (25, .getfield 100, 3), (28, .istore 4, 2), (30, .aload_n 0, 1), (31, .getfield 7, 3), (34, .aload_n 0, 1), (35, .getfield 103, 3)]
theorem fw_dX8_beside_0_c : fchk 0 (cX8_beside.data.toList.drop 0) fw_dX8_beside_0 = true := by decide +kernel
theorem dX8_beside_0 : Eq (decode cX8_beside 0) (Except.ok (Instr.iload_n 1, 1)) := fE fw_dX8_beside_0_c 0 rfl
theorem dX8_beside_1 : Eq (decode cX8_beside 1) (Except.ok (Instr.invokestatic 157, 3)) := fE fw_dX8_beside_0_c 1 rfl
theorem dX8_beside_4 : Eq (decode cX8_beside 4) (Except.ok (Instr.ifCond .ne 10, 3)) := fE fw_dX8_beside_0_c 2 rfl
theorem dX8_beside_7 : Eq (decode cX8_beside 7) (Except.ok (Instr.aload_n 0, 1)) := fE fw_dX8_beside_0_c 3 rfl
theorem dX8_beside_8 : Eq (decode cX8_beside 8) (Except.ok (Instr.bipush (-3), 2)) := fE fw_dX8_beside_0_c 4 rfl
theorem dX8_beside_10 : Eq (decode cX8_beside 10) (Except.ok (Instr.invokevirtual 122, 3)) := fE fw_dX8_beside_0_c 5 rfl
theorem dX8_beside_13 : Eq (decode cX8_beside 13) (Except.ok (Instr.ireturn, 1)) := fE fw_dX8_beside_0_c 6 rfl
theorem dX8_beside_14 : Eq (decode cX8_beside 14) (Except.ok (Instr.aload_n 0, 1)) := fE fw_dX8_beside_0_c 7 rfl
theorem dX8_beside_15 : Eq (decode cX8_beside 15) (Except.ok (Instr.getfield 250, 3)) := fE fw_dX8_beside_0_c 8 rfl
theorem dX8_beside_18 : Eq (decode cX8_beside 18) (Except.ok (Instr.istore_n 2, 1)) := fE fw_dX8_beside_0_c 9 rfl
theorem dX8_beside_19 : Eq (decode cX8_beside 19) (Except.ok (Instr.aload_n 0, 1)) := fE fw_dX8_beside_0_c 10 rfl
theorem dX8_beside_20 : Eq (decode cX8_beside 20) (Except.ok (Instr.getfield 253, 3)) := fE fw_dX8_beside_0_c 11 rfl
theorem dX8_beside_23 : Eq (decode cX8_beside 23) (Except.ok (Instr.istore_n 3, 1)) := fE fw_dX8_beside_0_c 12 rfl
theorem dX8_beside_24 : Eq (decode cX8_beside 24) (Except.ok (Instr.aload_n 0, 1)) := fE fw_dX8_beside_0_c 13 rfl
theorem dX8_beside_25 : Eq (decode cX8_beside 25) (Except.ok (Instr.getfield 100, 3)) := fE fw_dX8_beside_0_c 14 rfl
theorem dX8_beside_28 : Eq (decode cX8_beside 28) (Except.ok (Instr.istore 4, 2)) := fE fw_dX8_beside_0_c 15 rfl
theorem dX8_beside_30 : Eq (decode cX8_beside 30) (Except.ok (Instr.aload_n 0, 1)) := fE fw_dX8_beside_0_c 16 rfl
theorem dX8_beside_31 : Eq (decode cX8_beside 31) (Except.ok (Instr.getfield 7, 3)) := fE fw_dX8_beside_0_c 17 rfl
theorem dX8_beside_34 : Eq (decode cX8_beside 34) (Except.ok (Instr.aload_n 0, 1)) := fE fw_dX8_beside_0_c 18 rfl
theorem dX8_beside_35 : Eq (decode cX8_beside 35) (Except.ok (Instr.getfield 103, 3)) := fE fw_dX8_beside_0_c 19 rfl
def fw_dX8_beside_38 : List (Nat × Instr × Nat) := [(38, .invokestatic 246, 3), (41, .aload_n 0, 1), (42, .iload_n 1, 1), (43, .invokevirtual 265, 3), (46, .istore 5, 2), (48, .aload_n 0, 1), (49, .getfield 7, 3), (52, .aload_n 0, 1), (53, .getfield 22, 3), (56, .invokestatic 246, 3), (59, .aload_n 0, 1), (60, .getfield 103, 3), (63, .aload_n 0, 1), (64, .getfield 7, 3), (67, .invokestatic 246, 3), (70, .aload_n 0, 1), (71, .iload_n 1, 1), (72, .invokevirtual 262, 3), (75, .iload 5, 2), (77, .if_icmp .ne 7, 3)]
theorem fw_dX8_beside_38_c : fchk 38 (cX8_beside.data.toList.drop 38) fw_dX8_beside_38 = true := by decide +kernel
theorem dX8_beside_38 : Eq (decode cX8_beside 38) (Except.ok (Instr.invokestatic 246, 3)) := fE fw_dX8_beside_38_c 0 rfl
theorem dX8_beside_41 : Eq (decode cX8_beside 41) (Except.ok (Instr.aload_n 0, 1)) := fE fw_dX8_beside_38_c 1 rfl
theorem dX8_beside_42 : Eq (decode cX8_beside 42) (Except.ok (Instr.iload_n 1, 1)) := fE fw_dX8_beside_38_c 2 rfl
theorem dX8_beside_43 : Eq (decode cX8_beside 43) (Except.ok (Instr.invokevirtual 265, 3)) := fE fw_dX8_beside_38_c 3 rfl
theorem dX8_beside_46 : Eq (decode cX8_beside 46) (Except.ok (Instr.istore 5, 2)) := fE fw_dX8_beside_38_c 4 rfl
theorem dX8_beside_48 : Eq (decode cX8_beside 48) (Except.ok (Instr.aload_n 0, 1)) := fE fw_dX8_beside_38_c 5 rfl
theorem dX8_beside_49 : Eq (decode cX8_beside 49) (Except.ok (Instr.getfield 7, 3)) := fE fw_dX8_beside_38_c 6 rfl
theorem dX8_beside_52 : Eq (decode cX8_beside 52) (Except.ok (Instr.aload_n 0, 1)) := fE fw_dX8_beside_38_c 7 rfl
theorem dX8_beside_53 : Eq (decode cX8_beside 53) (Except.ok (Instr.getfield 22, 3)) := fE fw_dX8_beside_38_c 8 rfl
theorem dX8_beside_56 : Eq (decode cX8_beside 56) (Except.ok (Instr.invokestatic 246, 3)) := fE fw_dX8_beside_38_c 9 rfl
theorem dX8_beside_59 : Eq (decode cX8_beside 59) (Except.ok (Instr.aload_n 0, 1)) := fE fw_dX8_beside_38_c 10 rfl
theorem dX8_beside_60 : Eq (decode cX8_beside 60) (Except.ok (Instr.getfield 103, 3)) := fE fw_dX8_beside_38_c 11 rfl
theorem dX8_beside_63 : Eq (decode cX8_beside 63) (Except.ok (Instr.aload_n 0, 1)) := fE fw_dX8_beside_38_c 12 rfl
theorem dX8_beside_64 : Eq (decode cX8_beside 64) (Except.ok (Instr.getfield 7, 3)) := fE fw_dX8_beside_38_c 13 rfl
theorem dX8_beside_67 : Eq (decode cX8_beside 67) (Except.ok (Instr.invokestatic 246, 3)) := fE fw_dX8_beside_38_c 14 rfl
theorem dX8_beside_70 : Eq (decode cX8_beside 70) (Except.ok (Instr.aload_n 0, 1)) := fE fw_dX8_beside_38_c 15 rfl
theorem dX8_beside_71 : Eq (decode cX8_beside 71) (Except.ok (Instr.iload_n 1, 1)) := fE fw_dX8_beside_38_c 16 rfl
theorem dX8_beside_72 : Eq (decode cX8_beside 72) (Except.ok (Instr.invokevirtual 262, 3)) := fE fw_dX8_beside_38_c 17 rfl
theorem dX8_beside_75 : Eq (decode cX8_beside 75) (Except.ok (Instr.iload 5, 2)) := fE fw_dX8_beside_38_c 18 rfl
theorem dX8_beside_77 : Eq (decode cX8_beside 77) (Except.ok (Instr.if_icmp .ne 7, 3)) := fE fw_dX8_beside_38_c 19 rfl
def fw_dX8_beside_80 : List (Nat × Instr × Nat) := [(80, .iconst 1, 1), (81, .goto 4, 3), (84, .iconst 0, 1), (85, .istore 6, 2), (87, .iconst 0, 1), (88, .istore 7, 2), (90, .iload 7, 2), (92, .bipush 74, 2), (94, .if_icmp .ge 39, 3), (97, .iload 6, 2), (99, .ifCond .eq 25, 3), (102, .aload_n 0, 1), (103, .getfield 7, 3), (106, .iload 7, 2), (108, .laload, 1), (109, .aload_n 0, 1), (110, .getfield 22, 3), (113, .iload 7, 2), (115, .laload, 1), (116, .lcmp, 1)]
theorem fw_dX8_beside_80_c : fchk 80 (cX8_beside.data.toList.drop 80) fw_dX8_beside_80 = true := by decide +kernel
theorem dX8_beside_80 : Eq (decode cX8_beside 80) (Except.ok (Instr.iconst 1, 1)) := fE fw_dX8_beside_80_c 0 rfl
theorem dX8_beside_81 : Eq (decode cX8_beside 81) (Except.ok (Instr.goto 4, 3)) := fE fw_dX8_beside_80_c 1 rfl
theorem dX8_beside_84 : Eq (decode cX8_beside 84) (Except.ok (Instr.iconst 0, 1)) := fE fw_dX8_beside_80_c 2 rfl
theorem dX8_beside_85 : Eq (decode cX8_beside 85) (Except.ok (Instr.istore 6, 2)) := fE fw_dX8_beside_80_c 3 rfl
theorem dX8_beside_87 : Eq (decode cX8_beside 87) (Except.ok (Instr.iconst 0, 1)) := fE fw_dX8_beside_80_c 4 rfl
theorem dX8_beside_88 : Eq (decode cX8_beside 88) (Except.ok (Instr.istore 7, 2)) := fE fw_dX8_beside_80_c 5 rfl
theorem dX8_beside_90 : Eq (decode cX8_beside 90) (Except.ok (Instr.iload 7, 2)) := fE fw_dX8_beside_80_c 6 rfl
theorem dX8_beside_92 : Eq (decode cX8_beside 92) (Except.ok (Instr.bipush 74, 2)) := fE fw_dX8_beside_80_c 7 rfl
theorem dX8_beside_94 : Eq (decode cX8_beside 94) (Except.ok (Instr.if_icmp .ge 39, 3)) := fE fw_dX8_beside_80_c 8 rfl
theorem dX8_beside_97 : Eq (decode cX8_beside 97) (Except.ok (Instr.iload 6, 2)) := fE fw_dX8_beside_80_c 9 rfl
theorem dX8_beside_99 : Eq (decode cX8_beside 99) (Except.ok (Instr.ifCond .eq 25, 3)) := fE fw_dX8_beside_80_c 10 rfl
theorem dX8_beside_102 : Eq (decode cX8_beside 102) (Except.ok (Instr.aload_n 0, 1)) := fE fw_dX8_beside_80_c 11 rfl
theorem dX8_beside_103 : Eq (decode cX8_beside 103) (Except.ok (Instr.getfield 7, 3)) := fE fw_dX8_beside_80_c 12 rfl
theorem dX8_beside_106 : Eq (decode cX8_beside 106) (Except.ok (Instr.iload 7, 2)) := fE fw_dX8_beside_80_c 13 rfl
theorem dX8_beside_108 : Eq (decode cX8_beside 108) (Except.ok (Instr.laload, 1)) := fE fw_dX8_beside_80_c 14 rfl
theorem dX8_beside_109 : Eq (decode cX8_beside 109) (Except.ok (Instr.aload_n 0, 1)) := fE fw_dX8_beside_80_c 15 rfl
theorem dX8_beside_110 : Eq (decode cX8_beside 110) (Except.ok (Instr.getfield 22, 3)) := fE fw_dX8_beside_80_c 16 rfl
theorem dX8_beside_113 : Eq (decode cX8_beside 113) (Except.ok (Instr.iload 7, 2)) := fE fw_dX8_beside_80_c 17 rfl
theorem dX8_beside_115 : Eq (decode cX8_beside 115) (Except.ok (Instr.laload, 1)) := fE fw_dX8_beside_80_c 18 rfl
theorem dX8_beside_116 : Eq (decode cX8_beside 116) (Except.ok (Instr.lcmp, 1)) := fE fw_dX8_beside_80_c 19 rfl
def fw_dX8_beside_117 : List (Nat × Instr × Nat) := [(117, .ifCond .ne 7, 3), (120, .iconst 1, 1), (121, .goto 4, 3), (124, .iconst 0, 1), (125, .istore 6, 2)]
theorem fw_dX8_beside_117_c : fchk 117 (cX8_beside.data.toList.drop 117) fw_dX8_beside_117 = true := by decide +kernel
theorem dX8_beside_117 : Eq (decode cX8_beside 117) (Except.ok (Instr.ifCond .ne 7, 3)) := fE fw_dX8_beside_117_c 0 rfl
theorem dX8_beside_120 : Eq (decode cX8_beside 120) (Except.ok (Instr.iconst 1, 1)) := fE fw_dX8_beside_117_c 1 rfl
theorem dX8_beside_121 : Eq (decode cX8_beside 121) (Except.ok (Instr.goto 4, 3)) := fE fw_dX8_beside_117_c 2 rfl
theorem dX8_beside_124 : Eq (decode cX8_beside 124) (Except.ok (Instr.iconst 0, 1)) := fE fw_dX8_beside_117_c 3 rfl
theorem dX8_beside_125 : Eq (decode cX8_beside 125) (Except.ok (Instr.istore 6, 2)) := fE fw_dX8_beside_117_c 4 rfl
theorem dX8_beside_127 : decode cX8_beside 127 = .ok (.iinc 7 1, 3) := by decide +kernel
def fw_dX8_beside_130 : List (Nat × Instr × Nat) := [(130, .goto (-40), 3), (133, .aload_n 0, 1), (134, .getfield 103, 3), (137, .aload_n 0, 1), (138, .getfield 7, 3), (141, .invokestatic 246, 3), (144, .aload_n 0, 1), (145, .iload_n 2, 1), (146, .putfield 250, 3), (149, .aload_n 0, 1), (150, .iload_n 3, 1), (151, .putfield 253, 3), (154, .aload_n 0, 1), (155, .iload 4, 2), (157, .putfield 100, 3), (160, .iload 6, 2), (162, .ifCond .eq 7, 3), (165, .iconst 0, 1), (166, .goto 4, 3), (169, .iconst 1, 1)]
theorem fw_dX8_beside_130_c : fchk 130 (cX8_beside.data.toList.drop 130) fw_dX8_beside_130 = true := by decide +kernel
theorem dX8_beside_130 : Eq (decode cX8_beside 130) (Except.ok (Instr.goto (-40), 3)) := fE fw_dX8_beside_130_c 0 rfl
theorem dX8_beside_133 : Eq (decode cX8_beside 133) (Except.ok (Instr.aload_n 0, 1)) := fE fw_dX8_beside_130_c 1 rfl
theorem dX8_beside_134 : Eq (decode cX8_beside 134) (Except.ok (Instr.getfield 103, 3)) := fE fw_dX8_beside_130_c 2 rfl
theorem dX8_beside_137 : Eq (decode cX8_beside 137) (Except.ok (Instr.aload_n 0, 1)) := fE fw_dX8_beside_130_c 3 rfl
theorem dX8_beside_138 : Eq (decode cX8_beside 138) (Except.ok (Instr.getfield 7, 3)) := fE fw_dX8_beside_130_c 4 rfl
theorem dX8_beside_141 : Eq (decode cX8_beside 141) (Except.ok (Instr.invokestatic 246, 3)) := fE fw_dX8_beside_130_c 5 rfl
theorem dX8_beside_144 : Eq (decode cX8_beside 144) (Except.ok (Instr.aload_n 0, 1)) := fE fw_dX8_beside_130_c 6 rfl
theorem dX8_beside_145 : Eq (decode cX8_beside 145) (Except.ok (Instr.iload_n 2, 1)) := fE fw_dX8_beside_130_c 7 rfl
theorem dX8_beside_146 : Eq (decode cX8_beside 146) (Except.ok (Instr.putfield 250, 3)) := fE fw_dX8_beside_130_c 8 rfl
theorem dX8_beside_149 : Eq (decode cX8_beside 149) (Except.ok (Instr.aload_n 0, 1)) := fE fw_dX8_beside_130_c 9 rfl
theorem dX8_beside_150 : Eq (decode cX8_beside 150) (Except.ok (Instr.iload_n 3, 1)) := fE fw_dX8_beside_130_c 10 rfl
theorem dX8_beside_151 : Eq (decode cX8_beside 151) (Except.ok (Instr.putfield 253, 3)) := fE fw_dX8_beside_130_c 11 rfl
theorem dX8_beside_154 : Eq (decode cX8_beside 154) (Except.ok (Instr.aload_n 0, 1)) := fE fw_dX8_beside_130_c 12 rfl
theorem dX8_beside_155 : Eq (decode cX8_beside 155) (Except.ok (Instr.iload 4, 2)) := fE fw_dX8_beside_130_c 13 rfl
theorem dX8_beside_157 : Eq (decode cX8_beside 157) (Except.ok (Instr.putfield 100, 3)) := fE fw_dX8_beside_130_c 14 rfl
theorem dX8_beside_160 : Eq (decode cX8_beside 160) (Except.ok (Instr.iload 6, 2)) := fE fw_dX8_beside_130_c 15 rfl
theorem dX8_beside_162 : Eq (decode cX8_beside 162) (Except.ok (Instr.ifCond .eq 7, 3)) := fE fw_dX8_beside_130_c 16 rfl
theorem dX8_beside_165 : Eq (decode cX8_beside 165) (Except.ok (Instr.iconst 0, 1)) := fE fw_dX8_beside_130_c 17 rfl
theorem dX8_beside_166 : Eq (decode cX8_beside 166) (Except.ok (Instr.goto 4, 3)) := fE fw_dX8_beside_130_c 18 rfl
theorem dX8_beside_169 : Eq (decode cX8_beside 169) (Except.ok (Instr.iconst 1, 1)) := fE fw_dX8_beside_130_c 19 rfl
def fw_dX8_beside_170 : List (Nat × Instr × Nat) := [(170, .ireturn, 1)]
theorem fw_dX8_beside_170_c : fchk 170 (cX8_beside.data.toList.drop 170) fw_dX8_beside_170 = true := by decide +kernel
theorem dX8_beside_170 : Eq (decode cX8_beside 170) (Except.ok (Instr.ireturn, 1)) := fE fw_dX8_beside_170_c 0 rfl
set_option maxRecDepth 20000 in
theorem gi_wsX8_code_0 : GoodIn wsX8_code wsX8_code := goodIn_sub (fun _ h => h) (by decide +kernel)
set_option maxRecDepth 20000 in
theorem gi_wsX8_code_1 : GoodIn wsX8_code wsX80 := goodIn_sub (fun w h => List.mem_cons_of_mem _ (List.mem_append_right _ h)) (by decide +kernel)
def bs_wsX8_code : List (List Cond) := [wsX8_code, wsX80]
theorem bs_wsX8_code_in : ∀ b ∈ bs_wsX8_code, GoodIn wsX8_code b := List.forall_mem_cons.mpr ⟨gi_wsX8_code_0, List.forall_mem_cons.mpr ⟨gi_wsX8_code_1, (fun _ h => absurd h List.not_mem_nil)⟩⟩
set_option maxRecDepth 20000 in
theorem ggX8_code_X8_isIn : GoodIn wsX8_code wsX8_isIn := goodIn_k (gi_q bs_wsX8_code_in _ [(0, 6)] rfl) (gi_q bs_wsX8_code_in _ [] rfl)
set_option maxRecDepth 20000 in
theorem gX8_code_X8_isIn : GoodIn wsX8_code (va_wsS RX8 128 yX8_isIn wsX8_isIn) := goodIn_app (gi_q bs_wsX8_code_in _ [(0, 3), (0, 4), (0, 5)] rfl) ggX8_code_X8_isIn
set_option maxRecDepth 20000 in
theorem ggX8_code_X8_isInstruction : GoodIn wsX8_code wsX8_isInstruction := goodIn_k (gi_q bs_wsX8_code_in _ [(0, 9)] rfl) (gi_q bs_wsX8_code_in _ [] rfl)
set_option maxRecDepth 20000 in
theorem gX8_code_X8_isInstruction : GoodIn wsX8_code (va_wsS RX8 157 yX8_isInstruction wsX8_isInstruction) := goodIn_app (gi_q bs_wsX8_code_in _ [(0, 7), (0, 8), (0, 5)] rfl) ggX8_code_X8_isInstruction
set_option maxRecDepth 20000 in
theorem ggX8_code_X8_no : GoodIn wsX8_code wsX8_no := goodIn_k (gi_q bs_wsX8_code_in _ [(0, 13)] rfl) (goodIn_app (gi_q bs_wsX8_code_in _ [(0, 14)] rfl) (gi_wsX8_code_1))
set_option maxRecDepth 20000 in
theorem gX8_code_X8_no : GoodIn wsX8_code (wsV RX8 122 RX8 yX8_no wsX8_no) := goodIn_app (gi_q bs_wsX8_code_in _ [(0, 10), (0, 11), (0, 12), (0, 5)] rfl) ggX8_code_X8_no
def fw_dX8_code_0 : List (Nat × Instr × Nat) := [(0, .iload_n 1, 1), (1, .i2l, 1), (2, .lconst 0, 1), (3, .ldc2_w 268, 3), (6, .invokestatic 128, 3), (9, .ifCond .eq 15, 3), (12, .iload_n 2, 1), (13, .iconst (-1), 1), (14, .if_icmp .eq 17, 3), (17, .iload_n 2, 1), (18, .invokestatic 157, 3), (21, .ifCond .ne 10, 3), (24, .aload_n 0, 1), (25, .bipush (-3), 2), (27, .invokevirtual 122, 3), (30, .ireturn, 1), (31, .aload_n 0, 1), (32, .getfield 106, 3), (35, .iload_n 1, 1), (36, .iaload, 1)]
theorem fw_dX8_code_0_c : fchk 0 (cX8_code.data.toList.drop 0) fw_dX8_code_0 = true := by decide +kernel
theorem dX8_code_0 : Eq (decode cX8_code 0) (Except.ok (Instr.iload_n 1, 1)) := fE fw_dX8_code_0_c 0 rfl
theorem dX8_code_1 : Eq (decode cX8_code 1) (Except.ok (Instr.i2l, 1)) := fE fw_dX8_code_0_c 1 rfl
theorem dX8_code_2 : Eq (decode cX8_code 2) (Except.ok (Instr.lconst 0, 1)) := fE fw_dX8_code_0_c 2 rfl
theorem dX8_code_3 : Eq (decode cX8_code 3) (Except.ok (Instr.ldc2_w 268, 3)) := fE fw_dX8_code_0_c 3 rfl
theorem dX8_code_6 : Eq (decode cX8_code 6) (Except.ok (Instr.invokestatic 128, 3)) := fE fw_dX8_code_0_c 4 rfl
theorem dX8_code_9 : Eq (decode cX8_code 9) (Except.ok (Instr.ifCond .eq 15, 3)) := fE fw_dX8_code_0_c 5 rfl
theorem dX8_code_12 : Eq (decode cX8_code 12) (Except.ok (Instr.iload_n 2, 1)) := fE fw_dX8_code_0_c 6 rfl
theorem dX8_code_13 : Eq (decode cX8_code 13) (Except.ok (Instr.iconst (-1), 1)) := fE fw_dX8_code_0_c 7 rfl
theorem dX8_code_14 : Eq (decode cX8_code 14) (Except.ok (Instr.if_icmp .eq 17, 3)) := fE fw_dX8_code_0_c 8 rfl
theorem dX8_code_17 : Eq (decode cX8_code 17) (Except.ok (Instr.iload_n 2, 1)) := fE fw_dX8_code_0_c 9 rfl
theorem dX8_code_18 : Eq (decode cX8_code 18) (Except.ok (Instr.invokestatic 157, 3)) := fE fw_dX8_code_0_c 10 rfl
theorem dX8_code_21 : Eq (decode cX8_code 21) (Except.ok (Instr.ifCond .ne 10, 3)) := fE fw_dX8_code_0_c 11 rfl
theorem dX8_code_24 : Eq (decode cX8_code 24) (Except.ok (Instr.aload_n 0, 1)) := fE fw_dX8_code_0_c 12 rfl
theorem dX8_code_25 : Eq (decode cX8_code 25) (Except.ok (Instr.bipush (-3), 2)) := fE fw_dX8_code_0_c 13 rfl
theorem dX8_code_27 : Eq (decode cX8_code 27) (Except.ok (Instr.invokevirtual 122, 3)) := fE fw_dX8_code_0_c 14 rfl
theorem dX8_code_30 : Eq (decode cX8_code 30) (Except.ok (Instr.ireturn, 1)) := fE fw_dX8_code_0_c 15 rfl
theorem dX8_code_31 : Eq (decode cX8_code 31) (Except.ok (Instr.aload_n 0, 1)) := fE fw_dX8_code_0_c 16 rfl
theorem dX8_code_32 : Eq (decode cX8_code 32) (Except.ok (Instr.getfield 106, 3)) := fE fw_dX8_code_0_c 17 rfl
theorem dX8_code_35 : Eq (decode cX8_code 35) (Except.ok (Instr.iload_n 1, 1)) := fE fw_dX8_code_0_c 18 rfl
theorem dX8_code_36 : Eq (decode cX8_code 36) (Except.ok (Instr.iaload, 1)) := fE fw_dX8_code_0_c 19 rfl
def fw_dX8_code_37 : List (Nat × Instr × Nat) := [(37, .istore_n 3, 1), (38, .aload_n 0, 1), (39, .getfield 106, 3), (42, .iload_n 1, 1), (43, .iload_n 2, 1), (44, .iastore, 1), (45, .iload_n 3, 1), (46, .ireturn, 1)]
theorem fw_dX8_code_37_c : fchk 37 (cX8_code.data.toList.drop 37) fw_dX8_code_37 = true := by decide +kernel
theorem dX8_code_37 : Eq (decode cX8_code 37) (Except.ok (Instr.istore_n 3, 1)) := fE fw_dX8_code_37_c 0 rfl
theorem dX8_code_38 : Eq (decode cX8_code 38) (Except.ok (Instr.aload_n 0, 1)) := fE fw_dX8_code_37_c 1 rfl
theorem dX8_code_39 : Eq (decode cX8_code 39) (Except.ok (Instr.getfield 106, 3)) := fE fw_dX8_code_37_c 2 rfl
theorem dX8_code_42 : Eq (decode cX8_code 42) (Except.ok (Instr.iload_n 1, 1)) := fE fw_dX8_code_37_c 3 rfl
theorem dX8_code_43 : Eq (decode cX8_code 43) (Except.ok (Instr.iload_n 2, 1)) := fE fw_dX8_code_37_c 4 rfl
theorem dX8_code_44 : Eq (decode cX8_code 44) (Except.ok (Instr.iastore, 1)) := fE fw_dX8_code_37_c 5 rfl
theorem dX8_code_45 : Eq (decode cX8_code 45) (Except.ok (Instr.iload_n 3, 1)) := fE fw_dX8_code_37_c 6 rfl
theorem dX8_code_46 : Eq (decode cX8_code 46) (Except.ok (Instr.ireturn, 1)) := fE fw_dX8_code_37_c 7 rfl
set_option maxRecDepth 20000 in
theorem gi_wsX8_step_0 : GoodIn wsX8_step wsX8_step_r1 := goodIn_sub (fun w h => List.mem_cons_of_mem _ (List.mem_append_left _ (List.mem_append_left _ h))) (by decide +kernel)
set_option maxRecDepth 20000 in
theorem gi_wsX8_step_1 : GoodIn wsX8_step wsX8_step_r2 := goodIn_sub (fun w h => List.mem_cons_of_mem _ (List.mem_append_left _ (List.mem_append_right _ (List.mem_append_left _ h)))) (by decide +kernel)
set_option maxRecDepth 20000 in
theorem gi_wsX8_step_2 : GoodIn wsX8_step wsX8_step_r3 := goodIn_sub (fun w h => List.mem_cons_of_mem _ (List.mem_append_left _ (List.mem_append_right _ (List.mem_append_right _ (List.mem_append_left _ h))))) (by decide +kernel)
set_option maxRecDepth 20000 in
theorem gi_wsX8_step_3 : GoodIn wsX8_step wsX8_step_r4 := goodIn_sub (fun w h => List.mem_cons_of_mem _ (List.mem_append_left _ (List.mem_append_right _ (List.mem_append_right _ (List.mem_append_right _ h))))) (by decide +kernel)
set_option maxRecDepth 20000 in
theorem gi_wsX8_step_4 : GoodIn wsX8_step wsX80 := goodIn_sub (fun w h => List.mem_cons_of_mem _ (List.mem_append_right _ h)) (by decide +kernel)
def bs_wsX8_step : List (List Cond) := [wsX8_step_r1, wsX8_step_r2, wsX8_step_r3, wsX8_step_r4, wsX80]
theorem bs_wsX8_step_in : ∀ b ∈ bs_wsX8_step, GoodIn wsX8_step b := List.forall_mem_cons.mpr ⟨gi_wsX8_step_0, List.forall_mem_cons.mpr ⟨gi_wsX8_step_1, List.forall_mem_cons.mpr ⟨gi_wsX8_step_2, List.forall_mem_cons.mpr ⟨gi_wsX8_step_3, List.forall_mem_cons.mpr ⟨gi_wsX8_step_4, (fun _ h => absurd h List.not_mem_nil)⟩⟩⟩⟩⟩
set_option maxRecDepth 20000 in
theorem ggX8_step_X8_no : GoodIn wsX8_step wsX8_no := goodIn_k (gi_q bs_wsX8_step_in _ [(0, 12)] rfl) (goodIn_app (gi_q bs_wsX8_step_in _ [(0, 13)] rfl) (gi_wsX8_step_4))
set_option maxRecDepth 20000 in
theorem gX8_step_X8_no : GoodIn wsX8_step (wsV RX8 122 RX8 yX8_no wsX8_no) := goodIn_app (gi_q bs_wsX8_step_in _ [(0, 8), (0, 9), (0, 10), (0, 11)] rfl) ggX8_step_X8_no
set_option maxRecDepth 20000 in
theorem ggX8_step_X8_isIn : GoodIn wsX8_step wsX8_isIn := goodIn_k (gi_q bs_wsX8_step_in _ [(0, 16)] rfl) (gi_q bs_wsX8_step_in _ [] rfl)
set_option maxRecDepth 20000 in
theorem gX8_step_X8_isIn : GoodIn wsX8_step (va_wsS RX8 128 yX8_isIn wsX8_isIn) := goodIn_app (gi_q bs_wsX8_step_in _ [(0, 14), (0, 15), (0, 11)] rfl) ggX8_step_X8_isIn
set_option maxRecDepth 20000 in
theorem ggX8_step_X8_cut : GoodIn wsX8_step wsX8_cut := goodIn_k (gi_q bs_wsX8_step_in _ [(0, 20)] rfl) (goodIn_app (gi_q bs_wsX8_step_in _ [(0, 21)] rfl) (gi_wsX8_step_4))
set_option maxRecDepth 20000 in
theorem gX8_step_X8_cut : GoodIn wsX8_step (wsV RX8 132 RX8 yX8_cut wsX8_cut) := goodIn_app (gi_q bs_wsX8_step_in _ [(0, 17), (0, 18), (0, 19), (0, 11)] rfl) ggX8_step_X8_cut
set_option maxRecDepth 20000 in
theorem ggX8_step_X8_byWords : GoodIn wsX8_step wsX8_byWords := goodIn_k (gi_q bs_wsX8_step_in _ [(1, 1)] rfl) (goodIn_app (goodIn_app (gi_q bs_wsX8_step_in _ [(0, 2), (1, 2), (1, 3), (1, 4), (1, 5), (1, 6), (1, 7), (1, 8), (1, 9), (1, 10), (1, 11), (1, 12), (1, 13), (0, 11), (1, 14), (1, 15), (1, 16), (1, 17), (1, 18), (1, 19), (1, 20), (1, 21), (1, 22), (1, 23)] rfl) (goodIn_app (gi_q bs_wsX8_step_in _ [(2, 0), (2, 1), (2, 2), (2, 3), (2, 4), (2, 5), (2, 6), (2, 7), (2, 8), (2, 9), (2, 10), (2, 11), (2, 12), (2, 13), (2, 14), (2, 15), (2, 16), (2, 17), (2, 18), (2, 19), (2, 20), (2, 21), (2, 22), (2, 23)] rfl) (goodIn_app (gi_q bs_wsX8_step_in _ [(3, 0), (3, 1), (3, 2), (3, 3), (3, 4), (3, 5), (3, 6), (0, 3), (3, 7), (3, 8), (3, 9), (3, 10), (3, 11), (3, 12), (3, 13), (3, 14), (0, 17), (0, 18), (0, 19), (0, 20), (0, 21), (3, 15), (3, 16), (3, 17)] rfl) (gi_q bs_wsX8_step_in _ [(3, 18)] rfl)))) (gi_wsX8_step_4))
set_option maxRecDepth 20000 in
theorem gX8_step_X8_byWords : GoodIn wsX8_step (wsV RX8 262 RX8 yX8_byWords wsX8_byWords) := goodIn_app (gi_q bs_wsX8_step_in _ [(0, 22), (0, 23), (1, 0), (0, 11)] rfl) ggX8_step_X8_byWords
def fw_dX8_step_0 : List (Nat × Instr × Nat) := [(0, .iload_n 1, 1), (1, .ifCond .ge 10, 3), (4, .aload_n 0, 1), (5, .bipush (-4), 2), (7, .invokevirtual 122, 3), (10, .ireturn, 1), (11, .iload_n 1, 1), (12, .i2l, 1), (13, .lconst 1, 1), (14, .ldc2_w 270, 3), (17, .invokestatic 128, 3), (20, .ifCond .ne 10, 3), (23, .aload_n 0, 1), (24, .bipush (-6), 2), (26, .invokevirtual 122, 3), (29, .ireturn, 1), (30, .aload_n 0, 1), (31, .iconst 0, 1), (32, .putfield 272, 3), (35, .iconst 0, 1)]
theorem fw_dX8_step_0_c : fchk 0 (cX8_step.data.toList.drop 0) fw_dX8_step_0 = true := by decide +kernel
theorem dX8_step_0 : Eq (decode cX8_step 0) (Except.ok (Instr.iload_n 1, 1)) := fE fw_dX8_step_0_c 0 rfl
theorem dX8_step_1 : Eq (decode cX8_step 1) (Except.ok (Instr.ifCond .ge 10, 3)) := fE fw_dX8_step_0_c 1 rfl
theorem dX8_step_4 : Eq (decode cX8_step 4) (Except.ok (Instr.aload_n 0, 1)) := fE fw_dX8_step_0_c 2 rfl
theorem dX8_step_5 : Eq (decode cX8_step 5) (Except.ok (Instr.bipush (-4), 2)) := fE fw_dX8_step_0_c 3 rfl
theorem dX8_step_7 : Eq (decode cX8_step 7) (Except.ok (Instr.invokevirtual 122, 3)) := fE fw_dX8_step_0_c 4 rfl
theorem dX8_step_10 : Eq (decode cX8_step 10) (Except.ok (Instr.ireturn, 1)) := fE fw_dX8_step_0_c 5 rfl
theorem dX8_step_11 : Eq (decode cX8_step 11) (Except.ok (Instr.iload_n 1, 1)) := fE fw_dX8_step_0_c 6 rfl
theorem dX8_step_12 : Eq (decode cX8_step 12) (Except.ok (Instr.i2l, 1)) := fE fw_dX8_step_0_c 7 rfl
theorem dX8_step_13 : Eq (decode cX8_step 13) (Except.ok (Instr.lconst 1, 1)) := fE fw_dX8_step_0_c 8 rfl
theorem dX8_step_14 : Eq (decode cX8_step 14) (Except.ok (Instr.ldc2_w 270, 3)) := fE fw_dX8_step_0_c 9 rfl
theorem dX8_step_17 : Eq (decode cX8_step 17) (Except.ok (Instr.invokestatic 128, 3)) := fE fw_dX8_step_0_c 10 rfl
theorem dX8_step_20 : Eq (decode cX8_step 20) (Except.ok (Instr.ifCond .ne 10, 3)) := fE fw_dX8_step_0_c 11 rfl
theorem dX8_step_23 : Eq (decode cX8_step 23) (Except.ok (Instr.aload_n 0, 1)) := fE fw_dX8_step_0_c 12 rfl
theorem dX8_step_24 : Eq (decode cX8_step 24) (Except.ok (Instr.bipush (-6), 2)) := fE fw_dX8_step_0_c 13 rfl
theorem dX8_step_26 : Eq (decode cX8_step 26) (Except.ok (Instr.invokevirtual 122, 3)) := fE fw_dX8_step_0_c 14 rfl
theorem dX8_step_29 : Eq (decode cX8_step 29) (Except.ok (Instr.ireturn, 1)) := fE fw_dX8_step_0_c 15 rfl
theorem dX8_step_30 : Eq (decode cX8_step 30) (Except.ok (Instr.aload_n 0, 1)) := fE fw_dX8_step_0_c 16 rfl
theorem dX8_step_31 : Eq (decode cX8_step 31) (Except.ok (Instr.iconst 0, 1)) := fE fw_dX8_step_0_c 17 rfl
theorem dX8_step_32 : Eq (decode cX8_step 32) (Except.ok (Instr.putfield 272, 3)) := fE fw_dX8_step_0_c 18 rfl
theorem dX8_step_35 : Eq (decode cX8_step 35) (Except.ok (Instr.iconst 0, 1)) := fE fw_dX8_step_0_c 19 rfl
def fw_dX8_step_36 : List (Nat × Instr × Nat) := [(36, .istore_n 2, 1), (37, .iload_n 2, 1), (38, .iload_n 1, 1), (39, .if_icmp .ge 129, 3), (42, .aload_n 0, 1), (43, .getfield 272, 3), (46, .ifCond .ne 122, 3), (49, .aload_n 0, 1), (50, .getfield 7, 3), (53, .bipush 7, 2), (55, .laload, 1), (56, .lstore_n 3, 1), (57, .lload_n 3, 1), (58, .ldc2_w 237, 3), (61, .lcmp, 1), (62, .ifCond .le 7, 3), (65, .iconst (-1), 1), (66, .goto 23, 3), (69, .aload_n 0, 1), (70, .getfield 106, 3)]
theorem fw_dX8_step_36_c : fchk 36 (cX8_step.data.toList.drop 36) fw_dX8_step_36 = true := by decide +kernel
theorem dX8_step_36 : Eq (decode cX8_step 36) (Except.ok (Instr.istore_n 2, 1)) := fE fw_dX8_step_36_c 0 rfl
theorem dX8_step_37 : Eq (decode cX8_step 37) (Except.ok (Instr.iload_n 2, 1)) := fE fw_dX8_step_36_c 1 rfl
theorem dX8_step_38 : Eq (decode cX8_step 38) (Except.ok (Instr.iload_n 1, 1)) := fE fw_dX8_step_36_c 2 rfl
theorem dX8_step_39 : Eq (decode cX8_step 39) (Except.ok (Instr.if_icmp .ge 129, 3)) := fE fw_dX8_step_36_c 3 rfl
theorem dX8_step_42 : Eq (decode cX8_step 42) (Except.ok (Instr.aload_n 0, 1)) := fE fw_dX8_step_36_c 4 rfl
theorem dX8_step_43 : Eq (decode cX8_step 43) (Except.ok (Instr.getfield 272, 3)) := fE fw_dX8_step_36_c 5 rfl
theorem dX8_step_46 : Eq (decode cX8_step 46) (Except.ok (Instr.ifCond .ne 122, 3)) := fE fw_dX8_step_36_c 6 rfl
theorem dX8_step_49 : Eq (decode cX8_step 49) (Except.ok (Instr.aload_n 0, 1)) := fE fw_dX8_step_36_c 7 rfl
theorem dX8_step_50 : Eq (decode cX8_step 50) (Except.ok (Instr.getfield 7, 3)) := fE fw_dX8_step_36_c 8 rfl
theorem dX8_step_53 : Eq (decode cX8_step 53) (Except.ok (Instr.bipush 7, 2)) := fE fw_dX8_step_36_c 9 rfl
theorem dX8_step_55 : Eq (decode cX8_step 55) (Except.ok (Instr.laload, 1)) := fE fw_dX8_step_36_c 10 rfl
theorem dX8_step_56 : Eq (decode cX8_step 56) (Except.ok (Instr.lstore_n 3, 1)) := fE fw_dX8_step_36_c 11 rfl
theorem dX8_step_57 : Eq (decode cX8_step 57) (Except.ok (Instr.lload_n 3, 1)) := fE fw_dX8_step_36_c 12 rfl
theorem dX8_step_58 : Eq (decode cX8_step 58) (Except.ok (Instr.ldc2_w 237, 3)) := fE fw_dX8_step_36_c 13 rfl
theorem dX8_step_61 : Eq (decode cX8_step 61) (Except.ok (Instr.lcmp, 1)) := fE fw_dX8_step_36_c 14 rfl
theorem dX8_step_62 : Eq (decode cX8_step 62) (Except.ok (Instr.ifCond .le 7, 3)) := fE fw_dX8_step_36_c 15 rfl
theorem dX8_step_65 : Eq (decode cX8_step 65) (Except.ok (Instr.iconst (-1), 1)) := fE fw_dX8_step_36_c 16 rfl
theorem dX8_step_66 : Eq (decode cX8_step 66) (Except.ok (Instr.goto 23, 3)) := fE fw_dX8_step_36_c 17 rfl
theorem dX8_step_69 : Eq (decode cX8_step 69) (Except.ok (Instr.aload_n 0, 1)) := fE fw_dX8_step_36_c 18 rfl
theorem dX8_step_70 : Eq (decode cX8_step 70) (Except.ok (Instr.getfield 106, 3)) := fE fw_dX8_step_36_c 19 rfl
def fw_dX8_step_73 : List (Nat × Instr × Nat) := [(73, .aload_n 0, 1), (74, .getfield 7, 3), (77, .bipush 10, 2), (79, .lload_n 3, 1), (80, .l2i, 1), (81, .iadd, 1), (82, .laload, 1), (83, .ldc2_w 275, 3), (86, .lrem, 1), (87, .l2i, 1), (88, .iaload, 1), (89, .istore 5, 2), (91, .iload 5, 2), (93, .ifCond .ge 23, 3), (96, .aload_n 0, 1), (97, .lload_n 3, 1), (98, .ldc2_w 237, 3), (101, .lcmp, 1), (102, .ifCond .le 7, 3), (105, .iconst 1, 1)]
theorem fw_dX8_step_73_c : fchk 73 (cX8_step.data.toList.drop 73) fw_dX8_step_73 = true := by decide +kernel
theorem dX8_step_73 : Eq (decode cX8_step 73) (Except.ok (Instr.aload_n 0, 1)) := fE fw_dX8_step_73_c 0 rfl
theorem dX8_step_74 : Eq (decode cX8_step 74) (Except.ok (Instr.getfield 7, 3)) := fE fw_dX8_step_73_c 1 rfl
theorem dX8_step_77 : Eq (decode cX8_step 77) (Except.ok (Instr.bipush 10, 2)) := fE fw_dX8_step_73_c 2 rfl
theorem dX8_step_79 : Eq (decode cX8_step 79) (Except.ok (Instr.lload_n 3, 1)) := fE fw_dX8_step_73_c 3 rfl
theorem dX8_step_80 : Eq (decode cX8_step 80) (Except.ok (Instr.l2i, 1)) := fE fw_dX8_step_73_c 4 rfl
theorem dX8_step_81 : Eq (decode cX8_step 81) (Except.ok (Instr.iadd, 1)) := fE fw_dX8_step_73_c 5 rfl
theorem dX8_step_82 : Eq (decode cX8_step 82) (Except.ok (Instr.laload, 1)) := fE fw_dX8_step_73_c 6 rfl
theorem dX8_step_83 : Eq (decode cX8_step 83) (Except.ok (Instr.ldc2_w 275, 3)) := fE fw_dX8_step_73_c 7 rfl
theorem dX8_step_86 : Eq (decode cX8_step 86) (Except.ok (Instr.lrem, 1)) := fE fw_dX8_step_73_c 8 rfl
theorem dX8_step_87 : Eq (decode cX8_step 87) (Except.ok (Instr.l2i, 1)) := fE fw_dX8_step_73_c 9 rfl
theorem dX8_step_88 : Eq (decode cX8_step 88) (Except.ok (Instr.iaload, 1)) := fE fw_dX8_step_73_c 10 rfl
theorem dX8_step_89 : Eq (decode cX8_step 89) (Except.ok (Instr.istore 5, 2)) := fE fw_dX8_step_73_c 11 rfl
theorem dX8_step_91 : Eq (decode cX8_step 91) (Except.ok (Instr.iload 5, 2)) := fE fw_dX8_step_73_c 12 rfl
theorem dX8_step_93 : Eq (decode cX8_step 93) (Except.ok (Instr.ifCond .ge 23, 3)) := fE fw_dX8_step_73_c 13 rfl
theorem dX8_step_96 : Eq (decode cX8_step 96) (Except.ok (Instr.aload_n 0, 1)) := fE fw_dX8_step_73_c 14 rfl
theorem dX8_step_97 : Eq (decode cX8_step 97) (Except.ok (Instr.lload_n 3, 1)) := fE fw_dX8_step_73_c 15 rfl
theorem dX8_step_98 : Eq (decode cX8_step 98) (Except.ok (Instr.ldc2_w 237, 3)) := fE fw_dX8_step_73_c 16 rfl
theorem dX8_step_101 : Eq (decode cX8_step 101) (Except.ok (Instr.lcmp, 1)) := fE fw_dX8_step_73_c 17 rfl
theorem dX8_step_102 : Eq (decode cX8_step 102) (Except.ok (Instr.ifCond .le 7, 3)) := fE fw_dX8_step_73_c 18 rfl
theorem dX8_step_105 : Eq (decode cX8_step 105) (Except.ok (Instr.iconst 1, 1)) := fE fw_dX8_step_73_c 19 rfl
def fw_dX8_step_106 : List (Nat × Instr × Nat) := [(106, .goto 4, 3), (109, .iconst 2, 1), (110, .putfield 272, 3), (113, .goto 52, 3), (116, .aload_n 0, 1), (117, .getfield 7, 3), (120, .bipush 7, 2), (122, .aload_n 0, 1), (123, .bipush 7, 2), (125, .lload_n 3, 1), (126, .lconst 1, 1), (127, .ladd, 1), (128, .invokevirtual 132, 3), (131, .lastore, 1), (132, .aload_n 0, 1), (133, .iload 5, 2), (135, .invokevirtual 262, 3), (138, .iconst 2, 1), (139, .if_icmp .ne 13, 3), (142, .aload_n 0, 1)]
theorem fw_dX8_step_106_c : fchk 106 (cX8_step.data.toList.drop 106) fw_dX8_step_106 = true := by decide +kernel
theorem dX8_step_106 : Eq (decode cX8_step 106) (Except.ok (Instr.goto 4, 3)) := fE fw_dX8_step_106_c 0 rfl
theorem dX8_step_109 : Eq (decode cX8_step 109) (Except.ok (Instr.iconst 2, 1)) := fE fw_dX8_step_106_c 1 rfl
theorem dX8_step_110 : Eq (decode cX8_step 110) (Except.ok (Instr.putfield 272, 3)) := fE fw_dX8_step_106_c 2 rfl
theorem dX8_step_113 : Eq (decode cX8_step 113) (Except.ok (Instr.goto 52, 3)) := fE fw_dX8_step_106_c 3 rfl
theorem dX8_step_116 : Eq (decode cX8_step 116) (Except.ok (Instr.aload_n 0, 1)) := fE fw_dX8_step_106_c 4 rfl
theorem dX8_step_117 : Eq (decode cX8_step 117) (Except.ok (Instr.getfield 7, 3)) := fE fw_dX8_step_106_c 5 rfl
theorem dX8_step_120 : Eq (decode cX8_step 120) (Except.ok (Instr.bipush 7, 2)) := fE fw_dX8_step_106_c 6 rfl
theorem dX8_step_122 : Eq (decode cX8_step 122) (Except.ok (Instr.aload_n 0, 1)) := fE fw_dX8_step_106_c 7 rfl
theorem dX8_step_123 : Eq (decode cX8_step 123) (Except.ok (Instr.bipush 7, 2)) := fE fw_dX8_step_106_c 8 rfl
theorem dX8_step_125 : Eq (decode cX8_step 125) (Except.ok (Instr.lload_n 3, 1)) := fE fw_dX8_step_106_c 9 rfl
theorem dX8_step_126 : Eq (decode cX8_step 126) (Except.ok (Instr.lconst 1, 1)) := fE fw_dX8_step_106_c 10 rfl
theorem dX8_step_127 : Eq (decode cX8_step 127) (Except.ok (Instr.ladd, 1)) := fE fw_dX8_step_106_c 11 rfl
theorem dX8_step_128 : Eq (decode cX8_step 128) (Except.ok (Instr.invokevirtual 132, 3)) := fE fw_dX8_step_106_c 12 rfl
theorem dX8_step_131 : Eq (decode cX8_step 131) (Except.ok (Instr.lastore, 1)) := fE fw_dX8_step_106_c 13 rfl
theorem dX8_step_132 : Eq (decode cX8_step 132) (Except.ok (Instr.aload_n 0, 1)) := fE fw_dX8_step_106_c 14 rfl
theorem dX8_step_133 : Eq (decode cX8_step 133) (Except.ok (Instr.iload 5, 2)) := fE fw_dX8_step_106_c 15 rfl
theorem dX8_step_135 : Eq (decode cX8_step 135) (Except.ok (Instr.invokevirtual 262, 3)) := fE fw_dX8_step_106_c 16 rfl
theorem dX8_step_138 : Eq (decode cX8_step 138) (Except.ok (Instr.iconst 2, 1)) := fE fw_dX8_step_106_c 17 rfl
theorem dX8_step_139 : Eq (decode cX8_step 139) (Except.ok (Instr.if_icmp .ne 13, 3)) := fE fw_dX8_step_106_c 18 rfl
theorem dX8_step_142 : Eq (decode cX8_step 142) (Except.ok (Instr.aload_n 0, 1)) := fE fw_dX8_step_106_c 19 rfl
def fw_dX8_step_143 : List (Nat × Instr × Nat) := [(143, .dup, 1), (144, .getfield 277, 3), (147, .iconst 1, 1), (148, .iadd, 1), (149, .putfield 277, 3)]
theorem fw_dX8_step_143_c : fchk 143 (cX8_step.data.toList.drop 143) fw_dX8_step_143 = true := by decide +kernel
theorem dX8_step_143 : Eq (decode cX8_step 143) (Except.ok (Instr.dup, 1)) := fE fw_dX8_step_143_c 0 rfl
theorem dX8_step_144 : Eq (decode cX8_step 144) (Except.ok (Instr.getfield 277, 3)) := fE fw_dX8_step_143_c 1 rfl
theorem dX8_step_147 : Eq (decode cX8_step 147) (Except.ok (Instr.iconst 1, 1)) := fE fw_dX8_step_143_c 2 rfl
theorem dX8_step_148 : Eq (decode cX8_step 148) (Except.ok (Instr.iadd, 1)) := fE fw_dX8_step_143_c 3 rfl
theorem dX8_step_149 : Eq (decode cX8_step 149) (Except.ok (Instr.putfield 277, 3)) := fE fw_dX8_step_143_c 4 rfl
theorem dX8_step_152 : decode cX8_step 152 = .ok (.iinc 2 1, 3) := by decide +kernel
def fw_dX8_step_155 : List (Nat × Instr × Nat) := [(155, .aload_n 0, 1), (156, .dup, 1), (157, .getfield 280, 3), (160, .iconst 1, 1), (161, .iadd, 1), (162, .putfield 280, 3), (165, .goto (-128), 3), (168, .iload_n 2, 1), (169, .ireturn, 1)]
theorem fw_dX8_step_155_c : fchk 155 (cX8_step.data.toList.drop 155) fw_dX8_step_155 = true := by decide +kernel
theorem dX8_step_155 : Eq (decode cX8_step 155) (Except.ok (Instr.aload_n 0, 1)) := fE fw_dX8_step_155_c 0 rfl
theorem dX8_step_156 : Eq (decode cX8_step 156) (Except.ok (Instr.dup, 1)) := fE fw_dX8_step_155_c 1 rfl
theorem dX8_step_157 : Eq (decode cX8_step 157) (Except.ok (Instr.getfield 280, 3)) := fE fw_dX8_step_155_c 2 rfl
theorem dX8_step_160 : Eq (decode cX8_step 160) (Except.ok (Instr.iconst 1, 1)) := fE fw_dX8_step_155_c 3 rfl
theorem dX8_step_161 : Eq (decode cX8_step 161) (Except.ok (Instr.iadd, 1)) := fE fw_dX8_step_155_c 4 rfl
theorem dX8_step_162 : Eq (decode cX8_step 162) (Except.ok (Instr.putfield 280, 3)) := fE fw_dX8_step_155_c 5 rfl
theorem dX8_step_165 : Eq (decode cX8_step 165) (Except.ok (Instr.goto (-128), 3)) := fE fw_dX8_step_155_c 6 rfl
theorem dX8_step_168 : Eq (decode cX8_step 168) (Except.ok (Instr.iload_n 2, 1)) := fE fw_dX8_step_155_c 7 rfl
theorem dX8_step_169 : Eq (decode cX8_step 169) (Except.ok (Instr.ireturn, 1)) := fE fw_dX8_step_155_c 8 rfl
set_option maxRecDepth 20000 in
theorem gi_wsX8_count_0 : GoodIn wsX8_count wsX8_count := goodIn_sub (fun _ h => h) (by decide +kernel)
set_option maxRecDepth 20000 in
theorem gi_wsX8_count_1 : GoodIn wsX8_count wsX80 := goodIn_sub (fun w h => List.mem_cons_of_mem _ (List.mem_append_right _ h)) (by decide +kernel)
def bs_wsX8_count : List (List Cond) := [wsX8_count, wsX80]
theorem bs_wsX8_count_in : ∀ b ∈ bs_wsX8_count, GoodIn wsX8_count b := List.forall_mem_cons.mpr ⟨gi_wsX8_count_0, List.forall_mem_cons.mpr ⟨gi_wsX8_count_1, (fun _ h => absurd h List.not_mem_nil)⟩⟩
set_option maxRecDepth 20000 in
theorem ggX8_count_X8_no : GoodIn wsX8_count wsX8_no := goodIn_k (gi_q bs_wsX8_count_in _ [(0, 8)] rfl) (goodIn_app (gi_q bs_wsX8_count_in _ [(0, 9)] rfl) (gi_wsX8_count_1))
set_option maxRecDepth 20000 in
theorem gX8_count_X8_no : GoodIn wsX8_count (wsV RX8 122 RX8 yX8_no wsX8_no) := goodIn_app (gi_q bs_wsX8_count_in _ [(0, 4), (0, 5), (0, 6), (0, 7)] rfl) ggX8_count_X8_no
def fw_dX8_count_0 : List (Nat × Instr × Nat) := [(0, .iload_n 1, 1)]
theorem fw_dX8_count_0_c : fchk 0 (cX8_count.data.toList.drop 0) fw_dX8_count_0 = true := by decide +kernel
theorem dX8_count_0 : Eq (decode cX8_count 0) (Except.ok (Instr.iload_n 1, 1)) := fE fw_dX8_count_0_c 0 rfl
theorem dX8_count_1 : decode cX8_count 1 = .ok (.tableswitch 42 0 2 #[27, 32, 37], 27) := by decide +kernel
def fw_dX8_count_28 : List (Nat × Instr × Nat) := [(28, .aload_n 0, 1), (29, .getfield 280, 3), (32, .ireturn, 1), (33, .aload_n 0, 1), (34, .getfield 277, 3), (37, .ireturn, 1), (38, .aload_n 0, 1), (39, .getfield 272, 3), (42, .ireturn, 1), (43, .aload_n 0, 1), (44, .bipush (-6), 2), (46, .invokevirtual 122, 3), (49, .ireturn, 1)]
theorem fw_dX8_count_28_c : fchk 28 (cX8_count.data.toList.drop 28) fw_dX8_count_28 = true := by decide +kernel
theorem dX8_count_28 : Eq (decode cX8_count 28) (Except.ok (Instr.aload_n 0, 1)) := fE fw_dX8_count_28_c 0 rfl
theorem dX8_count_29 : Eq (decode cX8_count 29) (Except.ok (Instr.getfield 280, 3)) := fE fw_dX8_count_28_c 1 rfl
theorem dX8_count_32 : Eq (decode cX8_count 32) (Except.ok (Instr.ireturn, 1)) := fE fw_dX8_count_28_c 2 rfl
theorem dX8_count_33 : Eq (decode cX8_count 33) (Except.ok (Instr.aload_n 0, 1)) := fE fw_dX8_count_28_c 3 rfl
theorem dX8_count_34 : Eq (decode cX8_count 34) (Except.ok (Instr.getfield 277, 3)) := fE fw_dX8_count_28_c 4 rfl
theorem dX8_count_37 : Eq (decode cX8_count 37) (Except.ok (Instr.ireturn, 1)) := fE fw_dX8_count_28_c 5 rfl
theorem dX8_count_38 : Eq (decode cX8_count 38) (Except.ok (Instr.aload_n 0, 1)) := fE fw_dX8_count_28_c 6 rfl
theorem dX8_count_39 : Eq (decode cX8_count 39) (Except.ok (Instr.getfield 272, 3)) := fE fw_dX8_count_28_c 7 rfl
theorem dX8_count_42 : Eq (decode cX8_count 42) (Except.ok (Instr.ireturn, 1)) := fE fw_dX8_count_28_c 8 rfl
theorem dX8_count_43 : Eq (decode cX8_count 43) (Except.ok (Instr.aload_n 0, 1)) := fE fw_dX8_count_28_c 9 rfl
theorem dX8_count_44 : Eq (decode cX8_count 44) (Except.ok (Instr.bipush (-6), 2)) := fE fw_dX8_count_28_c 10 rfl
theorem dX8_count_46 : Eq (decode cX8_count 46) (Except.ok (Instr.invokevirtual 122, 3)) := fE fw_dX8_count_28_c 11 rfl
theorem dX8_count_49 : Eq (decode cX8_count 49) (Except.ok (Instr.ireturn, 1)) := fE fw_dX8_count_28_c 12 rfl
set_option maxRecDepth 20000 in
theorem gi_wsX8_image_0 : GoodIn wsX8_image wsX8_image := goodIn_sub (fun _ h => h) (by decide +kernel)
set_option maxRecDepth 20000 in
theorem gi_wsX8_image_1 : GoodIn wsX8_image wsX80 := goodIn_sub (fun w h => List.mem_cons_of_mem _ (List.mem_append_right _ h)) (by decide +kernel)
def bs_wsX8_image : List (List Cond) := [wsX8_image, wsX80]
theorem bs_wsX8_image_in : ∀ b ∈ bs_wsX8_image, GoodIn wsX8_image b := List.forall_mem_cons.mpr ⟨gi_wsX8_image_0, List.forall_mem_cons.mpr ⟨gi_wsX8_image_1, (fun _ h => absurd h List.not_mem_nil)⟩⟩
set_option maxRecDepth 20000 in
theorem ggX8_image_X8_copies : GoodIn wsX8_image wsX8_copies := goodIn_k (gi_q bs_wsX8_image_in _ [(0, 7)] rfl) (gi_q bs_wsX8_image_in _ [] rfl)
set_option maxRecDepth 20000 in
theorem gX8_image_X8_copies : GoodIn wsX8_image (va_wsS RX8 246 yX8_copies wsX8_copies) := goodIn_app (gi_q bs_wsX8_image_in _ [(0, 4), (0, 5), (0, 6)] rfl) ggX8_image_X8_copies
def fw_dX8_image_0 : List (Nat × Instr × Nat) := [(0, .aload_n 0, 1), (1, .getfield 7, 3), (4, .aload_n 0, 1), (5, .getfield 13, 3), (8, .invokestatic 246, 3), (11, .aload_n 0, 1), (12, .iconst 1, 1), (13, .putfield 283, 3), (16, .iconst 0, 1), (17, .istore_n 1, 1), (18, .iconst 0, 1), (19, .istore_n 2, 1), (20, .iload_n 2, 1), (21, .bipush 74, 2), (23, .if_icmp .ge 28, 3), (26, .iload_n 1, 1), (27, .aload_n 0, 1), (28, .getfield 7, 3), (31, .iload_n 2, 1), (32, .laload, 1)]
theorem fw_dX8_image_0_c : fchk 0 (cX8_image.data.toList.drop 0) fw_dX8_image_0 = true := by decide +kernel
theorem dX8_image_0 : Eq (decode cX8_image 0) (Except.ok (Instr.aload_n 0, 1)) := fE fw_dX8_image_0_c 0 rfl
theorem dX8_image_1 : Eq (decode cX8_image 1) (Except.ok (Instr.getfield 7, 3)) := fE fw_dX8_image_0_c 1 rfl
theorem dX8_image_4 : Eq (decode cX8_image 4) (Except.ok (Instr.aload_n 0, 1)) := fE fw_dX8_image_0_c 2 rfl
theorem dX8_image_5 : Eq (decode cX8_image 5) (Except.ok (Instr.getfield 13, 3)) := fE fw_dX8_image_0_c 3 rfl
theorem dX8_image_8 : Eq (decode cX8_image 8) (Except.ok (Instr.invokestatic 246, 3)) := fE fw_dX8_image_0_c 4 rfl
theorem dX8_image_11 : Eq (decode cX8_image 11) (Except.ok (Instr.aload_n 0, 1)) := fE fw_dX8_image_0_c 5 rfl
theorem dX8_image_12 : Eq (decode cX8_image 12) (Except.ok (Instr.iconst 1, 1)) := fE fw_dX8_image_0_c 6 rfl
theorem dX8_image_13 : Eq (decode cX8_image 13) (Except.ok (Instr.putfield 283, 3)) := fE fw_dX8_image_0_c 7 rfl
theorem dX8_image_16 : Eq (decode cX8_image 16) (Except.ok (Instr.iconst 0, 1)) := fE fw_dX8_image_0_c 8 rfl
theorem dX8_image_17 : Eq (decode cX8_image 17) (Except.ok (Instr.istore_n 1, 1)) := fE fw_dX8_image_0_c 9 rfl
theorem dX8_image_18 : Eq (decode cX8_image 18) (Except.ok (Instr.iconst 0, 1)) := fE fw_dX8_image_0_c 10 rfl
theorem dX8_image_19 : Eq (decode cX8_image 19) (Except.ok (Instr.istore_n 2, 1)) := fE fw_dX8_image_0_c 11 rfl
theorem dX8_image_20 : Eq (decode cX8_image 20) (Except.ok (Instr.iload_n 2, 1)) := fE fw_dX8_image_0_c 12 rfl
theorem dX8_image_21 : Eq (decode cX8_image 21) (Except.ok (Instr.bipush 74, 2)) := fE fw_dX8_image_0_c 13 rfl
theorem dX8_image_23 : Eq (decode cX8_image 23) (Except.ok (Instr.if_icmp .ge 28, 3)) := fE fw_dX8_image_0_c 14 rfl
theorem dX8_image_26 : Eq (decode cX8_image 26) (Except.ok (Instr.iload_n 1, 1)) := fE fw_dX8_image_0_c 15 rfl
theorem dX8_image_27 : Eq (decode cX8_image 27) (Except.ok (Instr.aload_n 0, 1)) := fE fw_dX8_image_0_c 16 rfl
theorem dX8_image_28 : Eq (decode cX8_image 28) (Except.ok (Instr.getfield 7, 3)) := fE fw_dX8_image_0_c 17 rfl
theorem dX8_image_31 : Eq (decode cX8_image 31) (Except.ok (Instr.iload_n 2, 1)) := fE fw_dX8_image_0_c 18 rfl
theorem dX8_image_32 : Eq (decode cX8_image 32) (Except.ok (Instr.laload, 1)) := fE fw_dX8_image_0_c 19 rfl
def fw_dX8_image_33 : List (Nat × Instr × Nat) := [(33, .lconst 0, 1), (34, .lcmp, 1), (35, .ifCond .eq 7, 3), (38, .iconst 1, 1), (39, .goto 4, 3), (42, .iconst 0, 1), (43, .iadd, 1), (44, .istore_n 1, 1)]
theorem fw_dX8_image_33_c : fchk 33 (cX8_image.data.toList.drop 33) fw_dX8_image_33 = true := by decide +kernel
theorem dX8_image_33 : Eq (decode cX8_image 33) (Except.ok (Instr.lconst 0, 1)) := fE fw_dX8_image_33_c 0 rfl
theorem dX8_image_34 : Eq (decode cX8_image 34) (Except.ok (Instr.lcmp, 1)) := fE fw_dX8_image_33_c 1 rfl
theorem dX8_image_35 : Eq (decode cX8_image 35) (Except.ok (Instr.ifCond .eq 7, 3)) := fE fw_dX8_image_33_c 2 rfl
theorem dX8_image_38 : Eq (decode cX8_image 38) (Except.ok (Instr.iconst 1, 1)) := fE fw_dX8_image_33_c 3 rfl
theorem dX8_image_39 : Eq (decode cX8_image 39) (Except.ok (Instr.goto 4, 3)) := fE fw_dX8_image_33_c 4 rfl
theorem dX8_image_42 : Eq (decode cX8_image 42) (Except.ok (Instr.iconst 0, 1)) := fE fw_dX8_image_33_c 5 rfl
theorem dX8_image_43 : Eq (decode cX8_image 43) (Except.ok (Instr.iadd, 1)) := fE fw_dX8_image_33_c 6 rfl
theorem dX8_image_44 : Eq (decode cX8_image 44) (Except.ok (Instr.istore_n 1, 1)) := fE fw_dX8_image_33_c 7 rfl
theorem dX8_image_45 : decode cX8_image 45 = .ok (.iinc 2 1, 3) := by decide +kernel
def fw_dX8_image_48 : List (Nat × Instr × Nat) := [(48, .goto (-28), 3), (51, .iload_n 1, 1), (52, .ireturn, 1)]
theorem fw_dX8_image_48_c : fchk 48 (cX8_image.data.toList.drop 48) fw_dX8_image_48 = true := by decide +kernel
theorem dX8_image_48 : Eq (decode cX8_image 48) (Except.ok (Instr.goto (-28), 3)) := fE fw_dX8_image_48_c 0 rfl
theorem dX8_image_51 : Eq (decode cX8_image 51) (Except.ok (Instr.iload_n 1, 1)) := fE fw_dX8_image_48_c 1 rfl
theorem dX8_image_52 : Eq (decode cX8_image 52) (Except.ok (Instr.ireturn, 1)) := fE fw_dX8_image_48_c 2 rfl
set_option maxRecDepth 20000 in
theorem gi_wsX8_restore_0 : GoodIn wsX8_restore wsX8_restore := goodIn_sub (fun _ h => h) (by decide +kernel)
set_option maxRecDepth 20000 in
theorem gi_wsX8_restore_1 : GoodIn wsX8_restore wsX80 := goodIn_sub (fun w h => List.mem_cons_of_mem _ (List.mem_append_right _ h)) (by decide +kernel)
def bs_wsX8_restore : List (List Cond) := [wsX8_restore, wsX80]
theorem bs_wsX8_restore_in : ∀ b ∈ bs_wsX8_restore, GoodIn wsX8_restore b := List.forall_mem_cons.mpr ⟨gi_wsX8_restore_0, List.forall_mem_cons.mpr ⟨gi_wsX8_restore_1, (fun _ h => absurd h List.not_mem_nil)⟩⟩
set_option maxRecDepth 20000 in
theorem ggX8_restore_X8_no : GoodIn wsX8_restore wsX8_no := goodIn_k (gi_q bs_wsX8_restore_in _ [(0, 8)] rfl) (goodIn_app (gi_q bs_wsX8_restore_in _ [(0, 9)] rfl) (gi_wsX8_restore_1))
set_option maxRecDepth 20000 in
theorem gX8_restore_X8_no : GoodIn wsX8_restore (wsV RX8 122 RX8 yX8_no wsX8_no) := goodIn_app (gi_q bs_wsX8_restore_in _ [(0, 4), (0, 5), (0, 6), (0, 7)] rfl) ggX8_restore_X8_no
set_option maxRecDepth 20000 in
theorem ggX8_restore_X8_cut : GoodIn wsX8_restore wsX8_cut := goodIn_k (gi_q bs_wsX8_restore_in _ [(0, 13)] rfl) (goodIn_app (gi_q bs_wsX8_restore_in _ [(0, 14)] rfl) (gi_wsX8_restore_1))
set_option maxRecDepth 20000 in
theorem gX8_restore_X8_cut : GoodIn wsX8_restore (wsV RX8 132 RX8 yX8_cut wsX8_cut) := goodIn_app (gi_q bs_wsX8_restore_in _ [(0, 10), (0, 11), (0, 12), (0, 7)] rfl) ggX8_restore_X8_cut
def fw_dX8_restore_0 : List (Nat × Instr × Nat) := [(0, .aload_n 0, 1), (1, .getfield 283, 3), (4, .ifCond .ne 10, 3), (7, .aload_n 0, 1), (8, .bipush (-2), 2), (10, .invokevirtual 122, 3), (13, .ireturn, 1), (14, .iconst 0, 1), (15, .istore_n 1, 1), (16, .iconst 0, 1), (17, .istore_n 2, 1), (18, .iload_n 2, 1), (19, .bipush 74, 2), (21, .if_icmp .ge 62, 3), (24, .iload_n 2, 1), (25, .bipush 8, 2), (27, .if_icmp .ge 17, 3), (30, .aload_n 0, 1), (31, .iload_n 2, 1), (32, .aload_n 0, 1)]
theorem fw_dX8_restore_0_c : fchk 0 (cX8_restore.data.toList.drop 0) fw_dX8_restore_0 = true := by decide +kernel
theorem dX8_restore_0 : Eq (decode cX8_restore 0) (Except.ok (Instr.aload_n 0, 1)) := fE fw_dX8_restore_0_c 0 rfl
theorem dX8_restore_1 : Eq (decode cX8_restore 1) (Except.ok (Instr.getfield 283, 3)) := fE fw_dX8_restore_0_c 1 rfl
theorem dX8_restore_4 : Eq (decode cX8_restore 4) (Except.ok (Instr.ifCond .ne 10, 3)) := fE fw_dX8_restore_0_c 2 rfl
theorem dX8_restore_7 : Eq (decode cX8_restore 7) (Except.ok (Instr.aload_n 0, 1)) := fE fw_dX8_restore_0_c 3 rfl
theorem dX8_restore_8 : Eq (decode cX8_restore 8) (Except.ok (Instr.bipush (-2), 2)) := fE fw_dX8_restore_0_c 4 rfl
theorem dX8_restore_10 : Eq (decode cX8_restore 10) (Except.ok (Instr.invokevirtual 122, 3)) := fE fw_dX8_restore_0_c 5 rfl
theorem dX8_restore_13 : Eq (decode cX8_restore 13) (Except.ok (Instr.ireturn, 1)) := fE fw_dX8_restore_0_c 6 rfl
theorem dX8_restore_14 : Eq (decode cX8_restore 14) (Except.ok (Instr.iconst 0, 1)) := fE fw_dX8_restore_0_c 7 rfl
theorem dX8_restore_15 : Eq (decode cX8_restore 15) (Except.ok (Instr.istore_n 1, 1)) := fE fw_dX8_restore_0_c 8 rfl
theorem dX8_restore_16 : Eq (decode cX8_restore 16) (Except.ok (Instr.iconst 0, 1)) := fE fw_dX8_restore_0_c 9 rfl
theorem dX8_restore_17 : Eq (decode cX8_restore 17) (Except.ok (Instr.istore_n 2, 1)) := fE fw_dX8_restore_0_c 10 rfl
theorem dX8_restore_18 : Eq (decode cX8_restore 18) (Except.ok (Instr.iload_n 2, 1)) := fE fw_dX8_restore_0_c 11 rfl
theorem dX8_restore_19 : Eq (decode cX8_restore 19) (Except.ok (Instr.bipush 74, 2)) := fE fw_dX8_restore_0_c 12 rfl
theorem dX8_restore_21 : Eq (decode cX8_restore 21) (Except.ok (Instr.if_icmp .ge 62, 3)) := fE fw_dX8_restore_0_c 13 rfl
theorem dX8_restore_24 : Eq (decode cX8_restore 24) (Except.ok (Instr.iload_n 2, 1)) := fE fw_dX8_restore_0_c 14 rfl
theorem dX8_restore_25 : Eq (decode cX8_restore 25) (Except.ok (Instr.bipush 8, 2)) := fE fw_dX8_restore_0_c 15 rfl
theorem dX8_restore_27 : Eq (decode cX8_restore 27) (Except.ok (Instr.if_icmp .ge 17, 3)) := fE fw_dX8_restore_0_c 16 rfl
theorem dX8_restore_30 : Eq (decode cX8_restore 30) (Except.ok (Instr.aload_n 0, 1)) := fE fw_dX8_restore_0_c 17 rfl
theorem dX8_restore_31 : Eq (decode cX8_restore 31) (Except.ok (Instr.iload_n 2, 1)) := fE fw_dX8_restore_0_c 18 rfl
theorem dX8_restore_32 : Eq (decode cX8_restore 32) (Except.ok (Instr.aload_n 0, 1)) := fE fw_dX8_restore_0_c 19 rfl
def fw_dX8_restore_33 : List (Nat × Instr × Nat) := [(33, .getfield 13, 3), (36, .iload_n 2, 1), (37, .laload, 1), (38, .invokevirtual 132, 3), (41, .goto 9, 3), (44, .aload_n 0, 1), (45, .getfield 13, 3), (48, .iload_n 2, 1), (49, .laload, 1), (50, .lstore_n 3, 1), (51, .iload_n 1, 1), (52, .lload_n 3, 1), (53, .aload_n 0, 1), (54, .getfield 7, 3), (57, .iload_n 2, 1), (58, .laload, 1), (59, .lcmp, 1), (60, .ifCond .eq 7, 3), (63, .iconst 1, 1), (64, .goto 4, 3)]
theorem fw_dX8_restore_33_c : fchk 33 (cX8_restore.data.toList.drop 33) fw_dX8_restore_33 = true := by decide +kernel
theorem dX8_restore_33 : Eq (decode cX8_restore 33) (Except.ok (Instr.getfield 13, 3)) := fE fw_dX8_restore_33_c 0 rfl
theorem dX8_restore_36 : Eq (decode cX8_restore 36) (Except.ok (Instr.iload_n 2, 1)) := fE fw_dX8_restore_33_c 1 rfl
theorem dX8_restore_37 : Eq (decode cX8_restore 37) (Except.ok (Instr.laload, 1)) := fE fw_dX8_restore_33_c 2 rfl
theorem dX8_restore_38 : Eq (decode cX8_restore 38) (Except.ok (Instr.invokevirtual 132, 3)) := fE fw_dX8_restore_33_c 3 rfl
theorem dX8_restore_41 : Eq (decode cX8_restore 41) (Except.ok (Instr.goto 9, 3)) := fE fw_dX8_restore_33_c 4 rfl
theorem dX8_restore_44 : Eq (decode cX8_restore 44) (Except.ok (Instr.aload_n 0, 1)) := fE fw_dX8_restore_33_c 5 rfl
theorem dX8_restore_45 : Eq (decode cX8_restore 45) (Except.ok (Instr.getfield 13, 3)) := fE fw_dX8_restore_33_c 6 rfl
theorem dX8_restore_48 : Eq (decode cX8_restore 48) (Except.ok (Instr.iload_n 2, 1)) := fE fw_dX8_restore_33_c 7 rfl
theorem dX8_restore_49 : Eq (decode cX8_restore 49) (Except.ok (Instr.laload, 1)) := fE fw_dX8_restore_33_c 8 rfl
theorem dX8_restore_50 : Eq (decode cX8_restore 50) (Except.ok (Instr.lstore_n 3, 1)) := fE fw_dX8_restore_33_c 9 rfl
theorem dX8_restore_51 : Eq (decode cX8_restore 51) (Except.ok (Instr.iload_n 1, 1)) := fE fw_dX8_restore_33_c 10 rfl
theorem dX8_restore_52 : Eq (decode cX8_restore 52) (Except.ok (Instr.lload_n 3, 1)) := fE fw_dX8_restore_33_c 11 rfl
theorem dX8_restore_53 : Eq (decode cX8_restore 53) (Except.ok (Instr.aload_n 0, 1)) := fE fw_dX8_restore_33_c 12 rfl
theorem dX8_restore_54 : Eq (decode cX8_restore 54) (Except.ok (Instr.getfield 7, 3)) := fE fw_dX8_restore_33_c 13 rfl
theorem dX8_restore_57 : Eq (decode cX8_restore 57) (Except.ok (Instr.iload_n 2, 1)) := fE fw_dX8_restore_33_c 14 rfl
theorem dX8_restore_58 : Eq (decode cX8_restore 58) (Except.ok (Instr.laload, 1)) := fE fw_dX8_restore_33_c 15 rfl
theorem dX8_restore_59 : Eq (decode cX8_restore 59) (Except.ok (Instr.lcmp, 1)) := fE fw_dX8_restore_33_c 16 rfl
theorem dX8_restore_60 : Eq (decode cX8_restore 60) (Except.ok (Instr.ifCond .eq 7, 3)) := fE fw_dX8_restore_33_c 17 rfl
theorem dX8_restore_63 : Eq (decode cX8_restore 63) (Except.ok (Instr.iconst 1, 1)) := fE fw_dX8_restore_33_c 18 rfl
theorem dX8_restore_64 : Eq (decode cX8_restore 64) (Except.ok (Instr.goto 4, 3)) := fE fw_dX8_restore_33_c 19 rfl
def fw_dX8_restore_67 : List (Nat × Instr × Nat) := [(67, .iconst 0, 1), (68, .iadd, 1), (69, .istore_n 1, 1), (70, .aload_n 0, 1), (71, .getfield 7, 3), (74, .iload_n 2, 1), (75, .lload_n 3, 1), (76, .lastore, 1)]
theorem fw_dX8_restore_67_c : fchk 67 (cX8_restore.data.toList.drop 67) fw_dX8_restore_67 = true := by decide +kernel
theorem dX8_restore_67 : Eq (decode cX8_restore 67) (Except.ok (Instr.iconst 0, 1)) := fE fw_dX8_restore_67_c 0 rfl
theorem dX8_restore_68 : Eq (decode cX8_restore 68) (Except.ok (Instr.iadd, 1)) := fE fw_dX8_restore_67_c 1 rfl
theorem dX8_restore_69 : Eq (decode cX8_restore 69) (Except.ok (Instr.istore_n 1, 1)) := fE fw_dX8_restore_67_c 2 rfl
theorem dX8_restore_70 : Eq (decode cX8_restore 70) (Except.ok (Instr.aload_n 0, 1)) := fE fw_dX8_restore_67_c 3 rfl
theorem dX8_restore_71 : Eq (decode cX8_restore 71) (Except.ok (Instr.getfield 7, 3)) := fE fw_dX8_restore_67_c 4 rfl
theorem dX8_restore_74 : Eq (decode cX8_restore 74) (Except.ok (Instr.iload_n 2, 1)) := fE fw_dX8_restore_67_c 5 rfl
theorem dX8_restore_75 : Eq (decode cX8_restore 75) (Except.ok (Instr.lload_n 3, 1)) := fE fw_dX8_restore_67_c 6 rfl
theorem dX8_restore_76 : Eq (decode cX8_restore 76) (Except.ok (Instr.lastore, 1)) := fE fw_dX8_restore_67_c 7 rfl
theorem dX8_restore_77 : decode cX8_restore 77 = .ok (.iinc 2 1, 3) := by decide +kernel
def fw_dX8_restore_80 : List (Nat × Instr × Nat) := [(80, .goto (-62), 3), (83, .iload_n 1, 1), (84, .ireturn, 1)]
theorem fw_dX8_restore_80_c : fchk 80 (cX8_restore.data.toList.drop 80) fw_dX8_restore_80 = true := by decide +kernel
theorem dX8_restore_80 : Eq (decode cX8_restore 80) (Except.ok (Instr.goto (-62), 3)) := fE fw_dX8_restore_80_c 0 rfl
theorem dX8_restore_83 : Eq (decode cX8_restore 83) (Except.ok (Instr.iload_n 1, 1)) := fE fw_dX8_restore_80_c 1 rfl
theorem dX8_restore_84 : Eq (decode cX8_restore 84) (Except.ok (Instr.ireturn, 1)) := fE fw_dX8_restore_80_c 2 rfl
set_option maxRecDepth 20000 in
theorem gi_wsX8_lay_0 : GoodIn wsX8_lay wsX8_lay := goodIn_sub (fun _ h => h) (by decide +kernel)
set_option maxRecDepth 20000 in
theorem gi_wsX8_lay_1 : GoodIn wsX8_lay wsX80 := goodIn_sub (fun w h => List.mem_cons_of_mem _ (List.mem_append_right _ h)) (by decide +kernel)
def bs_wsX8_lay : List (List Cond) := [wsX8_lay, wsX80]
theorem bs_wsX8_lay_in : ∀ b ∈ bs_wsX8_lay, GoodIn wsX8_lay b := List.forall_mem_cons.mpr ⟨gi_wsX8_lay_0, List.forall_mem_cons.mpr ⟨gi_wsX8_lay_1, (fun _ h => absurd h List.not_mem_nil)⟩⟩
set_option maxRecDepth 20000 in
theorem ggX8_lay_X8_no : GoodIn wsX8_lay wsX8_no := goodIn_k (gi_q bs_wsX8_lay_in _ [(0, 11)] rfl) (goodIn_app (gi_q bs_wsX8_lay_in _ [(0, 12)] rfl) (gi_wsX8_lay_1))
set_option maxRecDepth 20000 in
theorem gX8_lay_X8_no : GoodIn wsX8_lay (wsV RX8 122 RX8 yX8_no wsX8_no) := goodIn_app (gi_q bs_wsX8_lay_in _ [(0, 7), (0, 8), (0, 9), (0, 10)] rfl) ggX8_lay_X8_no
def fw_dX8_lay_0 : List (Nat × Instr × Nat) := [(0, .iload_n 2, 1), (1, .ifCond .ge 10, 3), (4, .aload_n 0, 1), (5, .bipush (-4), 2), (7, .invokevirtual 122, 3), (10, .ireturn, 1), (11, .iload_n 1, 1), (12, .ifCond .lt 15, 3), (15, .iload_n 1, 1), (16, .i2l, 1), (17, .iload_n 2, 1), (18, .i2l, 1), (19, .ladd, 1), (20, .ldc2_w 286, 3), (23, .lcmp, 1), (24, .ifCond .le 10, 3), (27, .aload_n 0, 1), (28, .bipush (-3), 2), (30, .invokevirtual 122, 3), (33, .ireturn, 1)]
theorem fw_dX8_lay_0_c : fchk 0 (cX8_lay.data.toList.drop 0) fw_dX8_lay_0 = true := by decide +kernel
theorem dX8_lay_0 : Eq (decode cX8_lay 0) (Except.ok (Instr.iload_n 2, 1)) := fE fw_dX8_lay_0_c 0 rfl
theorem dX8_lay_1 : Eq (decode cX8_lay 1) (Except.ok (Instr.ifCond .ge 10, 3)) := fE fw_dX8_lay_0_c 1 rfl
theorem dX8_lay_4 : Eq (decode cX8_lay 4) (Except.ok (Instr.aload_n 0, 1)) := fE fw_dX8_lay_0_c 2 rfl
theorem dX8_lay_5 : Eq (decode cX8_lay 5) (Except.ok (Instr.bipush (-4), 2)) := fE fw_dX8_lay_0_c 3 rfl
theorem dX8_lay_7 : Eq (decode cX8_lay 7) (Except.ok (Instr.invokevirtual 122, 3)) := fE fw_dX8_lay_0_c 4 rfl
theorem dX8_lay_10 : Eq (decode cX8_lay 10) (Except.ok (Instr.ireturn, 1)) := fE fw_dX8_lay_0_c 5 rfl
theorem dX8_lay_11 : Eq (decode cX8_lay 11) (Except.ok (Instr.iload_n 1, 1)) := fE fw_dX8_lay_0_c 6 rfl
theorem dX8_lay_12 : Eq (decode cX8_lay 12) (Except.ok (Instr.ifCond .lt 15, 3)) := fE fw_dX8_lay_0_c 7 rfl
theorem dX8_lay_15 : Eq (decode cX8_lay 15) (Except.ok (Instr.iload_n 1, 1)) := fE fw_dX8_lay_0_c 8 rfl
theorem dX8_lay_16 : Eq (decode cX8_lay 16) (Except.ok (Instr.i2l, 1)) := fE fw_dX8_lay_0_c 9 rfl
theorem dX8_lay_17 : Eq (decode cX8_lay 17) (Except.ok (Instr.iload_n 2, 1)) := fE fw_dX8_lay_0_c 10 rfl
theorem dX8_lay_18 : Eq (decode cX8_lay 18) (Except.ok (Instr.i2l, 1)) := fE fw_dX8_lay_0_c 11 rfl
theorem dX8_lay_19 : Eq (decode cX8_lay 19) (Except.ok (Instr.ladd, 1)) := fE fw_dX8_lay_0_c 12 rfl
theorem dX8_lay_20 : Eq (decode cX8_lay 20) (Except.ok (Instr.ldc2_w 286, 3)) := fE fw_dX8_lay_0_c 13 rfl
theorem dX8_lay_23 : Eq (decode cX8_lay 23) (Except.ok (Instr.lcmp, 1)) := fE fw_dX8_lay_0_c 14 rfl
theorem dX8_lay_24 : Eq (decode cX8_lay 24) (Except.ok (Instr.ifCond .le 10, 3)) := fE fw_dX8_lay_0_c 15 rfl
theorem dX8_lay_27 : Eq (decode cX8_lay 27) (Except.ok (Instr.aload_n 0, 1)) := fE fw_dX8_lay_0_c 16 rfl
theorem dX8_lay_28 : Eq (decode cX8_lay 28) (Except.ok (Instr.bipush (-3), 2)) := fE fw_dX8_lay_0_c 17 rfl
theorem dX8_lay_30 : Eq (decode cX8_lay 30) (Except.ok (Instr.invokevirtual 122, 3)) := fE fw_dX8_lay_0_c 18 rfl
theorem dX8_lay_33 : Eq (decode cX8_lay 33) (Except.ok (Instr.ireturn, 1)) := fE fw_dX8_lay_0_c 19 rfl
def fw_dX8_lay_34 : List (Nat × Instr × Nat) := [(34, .aload_n 0, 1), (35, .iload_n 2, 1), (36, .putfield 115, 3), (39, .iconst 0, 1), (40, .istore_n 3, 1), (41, .iload_n 3, 1), (42, .iload_n 2, 1), (43, .if_icmp .ge 52, 3), (46, .aload_n 0, 1), (47, .getfield 7, 3), (50, .bipush 10, 2), (52, .iload_n 1, 1), (53, .iadd, 1), (54, .iload_n 3, 1), (55, .iadd, 1), (56, .laload, 1), (57, .ldc2_w 288, 3), (60, .land, 1), (61, .l2i, 1), (62, .istore 4, 2)]
theorem fw_dX8_lay_34_c : fchk 34 (cX8_lay.data.toList.drop 34) fw_dX8_lay_34 = true := by decide +kernel
theorem dX8_lay_34 : Eq (decode cX8_lay 34) (Except.ok (Instr.aload_n 0, 1)) := fE fw_dX8_lay_34_c 0 rfl
theorem dX8_lay_35 : Eq (decode cX8_lay 35) (Except.ok (Instr.iload_n 2, 1)) := fE fw_dX8_lay_34_c 1 rfl
theorem dX8_lay_36 : Eq (decode cX8_lay 36) (Except.ok (Instr.putfield 115, 3)) := fE fw_dX8_lay_34_c 2 rfl
theorem dX8_lay_39 : Eq (decode cX8_lay 39) (Except.ok (Instr.iconst 0, 1)) := fE fw_dX8_lay_34_c 3 rfl
theorem dX8_lay_40 : Eq (decode cX8_lay 40) (Except.ok (Instr.istore_n 3, 1)) := fE fw_dX8_lay_34_c 4 rfl
theorem dX8_lay_41 : Eq (decode cX8_lay 41) (Except.ok (Instr.iload_n 3, 1)) := fE fw_dX8_lay_34_c 5 rfl
theorem dX8_lay_42 : Eq (decode cX8_lay 42) (Except.ok (Instr.iload_n 2, 1)) := fE fw_dX8_lay_34_c 6 rfl
theorem dX8_lay_43 : Eq (decode cX8_lay 43) (Except.ok (Instr.if_icmp .ge 52, 3)) := fE fw_dX8_lay_34_c 7 rfl
theorem dX8_lay_46 : Eq (decode cX8_lay 46) (Except.ok (Instr.aload_n 0, 1)) := fE fw_dX8_lay_34_c 8 rfl
theorem dX8_lay_47 : Eq (decode cX8_lay 47) (Except.ok (Instr.getfield 7, 3)) := fE fw_dX8_lay_34_c 9 rfl
theorem dX8_lay_50 : Eq (decode cX8_lay 50) (Except.ok (Instr.bipush 10, 2)) := fE fw_dX8_lay_34_c 10 rfl
theorem dX8_lay_52 : Eq (decode cX8_lay 52) (Except.ok (Instr.iload_n 1, 1)) := fE fw_dX8_lay_34_c 11 rfl
theorem dX8_lay_53 : Eq (decode cX8_lay 53) (Except.ok (Instr.iadd, 1)) := fE fw_dX8_lay_34_c 12 rfl
theorem dX8_lay_54 : Eq (decode cX8_lay 54) (Except.ok (Instr.iload_n 3, 1)) := fE fw_dX8_lay_34_c 13 rfl
theorem dX8_lay_55 : Eq (decode cX8_lay 55) (Except.ok (Instr.iadd, 1)) := fE fw_dX8_lay_34_c 14 rfl
theorem dX8_lay_56 : Eq (decode cX8_lay 56) (Except.ok (Instr.laload, 1)) := fE fw_dX8_lay_34_c 15 rfl
theorem dX8_lay_57 : Eq (decode cX8_lay 57) (Except.ok (Instr.ldc2_w 288, 3)) := fE fw_dX8_lay_34_c 16 rfl
theorem dX8_lay_60 : Eq (decode cX8_lay 60) (Except.ok (Instr.land, 1)) := fE fw_dX8_lay_34_c 17 rfl
theorem dX8_lay_61 : Eq (decode cX8_lay 61) (Except.ok (Instr.l2i, 1)) := fE fw_dX8_lay_34_c 18 rfl
theorem dX8_lay_62 : Eq (decode cX8_lay 62) (Except.ok (Instr.istore 4, 2)) := fE fw_dX8_lay_34_c 19 rfl
def fw_dX8_lay_64 : List (Nat × Instr × Nat) := [(64, .aload_n 0, 1), (65, .getfield 109, 3), (68, .iload_n 3, 1), (69, .iload 4, 2), (71, .sipush 32767, 3), (74, .if_icmp .le 12, 3), (77, .iload 4, 2), (79, .ldc_w 290, 3), (82, .isub, 1), (83, .goto 5, 3), (86, .iload 4, 2), (88, .iastore, 1)]
theorem fw_dX8_lay_64_c : fchk 64 (cX8_lay.data.toList.drop 64) fw_dX8_lay_64 = true := by decide +kernel
theorem dX8_lay_64 : Eq (decode cX8_lay 64) (Except.ok (Instr.aload_n 0, 1)) := fE fw_dX8_lay_64_c 0 rfl
theorem dX8_lay_65 : Eq (decode cX8_lay 65) (Except.ok (Instr.getfield 109, 3)) := fE fw_dX8_lay_64_c 1 rfl
theorem dX8_lay_68 : Eq (decode cX8_lay 68) (Except.ok (Instr.iload_n 3, 1)) := fE fw_dX8_lay_64_c 2 rfl
theorem dX8_lay_69 : Eq (decode cX8_lay 69) (Except.ok (Instr.iload 4, 2)) := fE fw_dX8_lay_64_c 3 rfl
theorem dX8_lay_71 : Eq (decode cX8_lay 71) (Except.ok (Instr.sipush 32767, 3)) := fE fw_dX8_lay_64_c 4 rfl
theorem dX8_lay_74 : Eq (decode cX8_lay 74) (Except.ok (Instr.if_icmp .le 12, 3)) := fE fw_dX8_lay_64_c 5 rfl
theorem dX8_lay_77 : Eq (decode cX8_lay 77) (Except.ok (Instr.iload 4, 2)) := fE fw_dX8_lay_64_c 6 rfl
theorem dX8_lay_79 : Eq (decode cX8_lay 79) (Except.ok (Instr.ldc_w 290, 3)) := fE fw_dX8_lay_64_c 7 rfl
theorem dX8_lay_82 : Eq (decode cX8_lay 82) (Except.ok (Instr.isub, 1)) := fE fw_dX8_lay_64_c 8 rfl
theorem dX8_lay_83 : Eq (decode cX8_lay 83) (Except.ok (Instr.goto 5, 3)) := fE fw_dX8_lay_64_c 9 rfl
theorem dX8_lay_86 : Eq (decode cX8_lay 86) (Except.ok (Instr.iload 4, 2)) := fE fw_dX8_lay_64_c 10 rfl
theorem dX8_lay_88 : Eq (decode cX8_lay 88) (Except.ok (Instr.iastore, 1)) := fE fw_dX8_lay_64_c 11 rfl
theorem dX8_lay_89 : decode cX8_lay 89 = .ok (.iinc 3 1, 3) := by decide +kernel
def fw_dX8_lay_92 : List (Nat × Instr × Nat) := [(92, .goto (-51), 3), (95, .iload_n 2, 1), (96, .ireturn, 1)]
theorem fw_dX8_lay_92_c : fchk 92 (cX8_lay.data.toList.drop 92) fw_dX8_lay_92 = true := by decide +kernel
theorem dX8_lay_92 : Eq (decode cX8_lay 92) (Except.ok (Instr.goto (-51), 3)) := fE fw_dX8_lay_92_c 0 rfl
theorem dX8_lay_95 : Eq (decode cX8_lay 95) (Except.ok (Instr.iload_n 2, 1)) := fE fw_dX8_lay_92_c 1 rfl
theorem dX8_lay_96 : Eq (decode cX8_lay 96) (Except.ok (Instr.ireturn, 1)) := fE fw_dX8_lay_92_c 2 rfl
def fw_dX8_tear_0 : List (Nat × Instr × Nat) := [(0, .aload_n 0, 1), (1, .getfield 115, 3), (4, .ifCond .lt 7, 3), (7, .iconst 1, 1), (8, .goto 4, 3), (11, .iconst 0, 1), (12, .istore_n 1, 1), (13, .aload_n 0, 1), (14, .iconst (-1), 1), (15, .putfield 115, 3), (18, .iload_n 1, 1), (19, .ireturn, 1)]
theorem fw_dX8_tear_0_c : fchk 0 (cX8_tear.data.toList.drop 0) fw_dX8_tear_0 = true := by decide +kernel
theorem dX8_tear_0 : Eq (decode cX8_tear 0) (Except.ok (Instr.aload_n 0, 1)) := fE fw_dX8_tear_0_c 0 rfl
theorem dX8_tear_1 : Eq (decode cX8_tear 1) (Except.ok (Instr.getfield 115, 3)) := fE fw_dX8_tear_0_c 1 rfl
theorem dX8_tear_4 : Eq (decode cX8_tear 4) (Except.ok (Instr.ifCond .lt 7, 3)) := fE fw_dX8_tear_0_c 2 rfl
theorem dX8_tear_7 : Eq (decode cX8_tear 7) (Except.ok (Instr.iconst 1, 1)) := fE fw_dX8_tear_0_c 3 rfl
theorem dX8_tear_8 : Eq (decode cX8_tear 8) (Except.ok (Instr.goto 4, 3)) := fE fw_dX8_tear_0_c 4 rfl
theorem dX8_tear_11 : Eq (decode cX8_tear 11) (Except.ok (Instr.iconst 0, 1)) := fE fw_dX8_tear_0_c 5 rfl
theorem dX8_tear_12 : Eq (decode cX8_tear 12) (Except.ok (Instr.istore_n 1, 1)) := fE fw_dX8_tear_0_c 6 rfl
theorem dX8_tear_13 : Eq (decode cX8_tear 13) (Except.ok (Instr.aload_n 0, 1)) := fE fw_dX8_tear_0_c 7 rfl
theorem dX8_tear_14 : Eq (decode cX8_tear 14) (Except.ok (Instr.iconst (-1), 1)) := fE fw_dX8_tear_0_c 8 rfl
theorem dX8_tear_15 : Eq (decode cX8_tear 15) (Except.ok (Instr.putfield 115, 3)) := fE fw_dX8_tear_0_c 9 rfl
theorem dX8_tear_18 : Eq (decode cX8_tear 18) (Except.ok (Instr.iload_n 1, 1)) := fE fw_dX8_tear_0_c 10 rfl
theorem dX8_tear_19 : Eq (decode cX8_tear 19) (Except.ok (Instr.ireturn, 1)) := fE fw_dX8_tear_0_c 11 rfl
set_option maxRecDepth 20000 in
theorem gi_wsX8_row_0 : GoodIn wsX8_row wsX8_row := goodIn_sub (fun _ h => h) (by decide +kernel)
set_option maxRecDepth 20000 in
theorem gi_wsX8_row_1 : GoodIn wsX8_row wsX80 := goodIn_sub (fun w h => List.mem_cons_of_mem _ (List.mem_append_right _ h)) (by decide +kernel)
def bs_wsX8_row : List (List Cond) := [wsX8_row, wsX80]
theorem bs_wsX8_row_in : ∀ b ∈ bs_wsX8_row, GoodIn wsX8_row b := List.forall_mem_cons.mpr ⟨gi_wsX8_row_0, List.forall_mem_cons.mpr ⟨gi_wsX8_row_1, (fun _ h => absurd h List.not_mem_nil)⟩⟩
set_option maxRecDepth 20000 in
theorem ggX8_row_X8_no : GoodIn wsX8_row wsX8_no := goodIn_k (gi_q bs_wsX8_row_in _ [(0, 7)] rfl) (goodIn_app (gi_q bs_wsX8_row_in _ [(0, 8)] rfl) (gi_wsX8_row_1))
set_option maxRecDepth 20000 in
theorem gX8_row_X8_no : GoodIn wsX8_row (wsV RX8 122 RX8 yX8_no wsX8_no) := goodIn_app (gi_q bs_wsX8_row_in _ [(0, 3), (0, 4), (0, 5), (0, 6)] rfl) ggX8_row_X8_no
set_option maxRecDepth 20000 in
theorem ggX8_row_X8_isIn : GoodIn wsX8_row wsX8_isIn := goodIn_k (gi_q bs_wsX8_row_in _ [(0, 11)] rfl) (gi_q bs_wsX8_row_in _ [] rfl)
set_option maxRecDepth 20000 in
theorem gX8_row_X8_isIn : GoodIn wsX8_row (va_wsS RX8 128 yX8_isIn wsX8_isIn) := goodIn_app (gi_q bs_wsX8_row_in _ [(0, 9), (0, 10), (0, 6)] rfl) ggX8_row_X8_isIn
def fw_dX8_row_0 : List (Nat × Instr × Nat) := [(0, .aload_n 0, 1), (1, .getfield 115, 3), (4, .ifCond .ge 10, 3), (7, .aload_n 0, 1), (8, .bipush (-2), 2), (10, .invokevirtual 122, 3), (13, .ireturn, 1), (14, .iload_n 1, 1), (15, .i2l, 1), (16, .lconst 0, 1), (17, .aload_n 0, 1), (18, .getfield 115, 3), (21, .iconst 1, 1), (22, .isub, 1), (23, .i2l, 1), (24, .invokestatic 128, 3), (27, .ifCond .eq 12, 3), (30, .aload_n 0, 1), (31, .getfield 109, 3), (34, .iload_n 1, 1)]
theorem fw_dX8_row_0_c : fchk 0 (cX8_row.data.toList.drop 0) fw_dX8_row_0 = true := by decide +kernel
theorem dX8_row_0 : Eq (decode cX8_row 0) (Except.ok (Instr.aload_n 0, 1)) := fE fw_dX8_row_0_c 0 rfl
theorem dX8_row_1 : Eq (decode cX8_row 1) (Except.ok (Instr.getfield 115, 3)) := fE fw_dX8_row_0_c 1 rfl
theorem dX8_row_4 : Eq (decode cX8_row 4) (Except.ok (Instr.ifCond .ge 10, 3)) := fE fw_dX8_row_0_c 2 rfl
theorem dX8_row_7 : Eq (decode cX8_row 7) (Except.ok (Instr.aload_n 0, 1)) := fE fw_dX8_row_0_c 3 rfl
theorem dX8_row_8 : Eq (decode cX8_row 8) (Except.ok (Instr.bipush (-2), 2)) := fE fw_dX8_row_0_c 4 rfl
theorem dX8_row_10 : Eq (decode cX8_row 10) (Except.ok (Instr.invokevirtual 122, 3)) := fE fw_dX8_row_0_c 5 rfl
theorem dX8_row_13 : Eq (decode cX8_row 13) (Except.ok (Instr.ireturn, 1)) := fE fw_dX8_row_0_c 6 rfl
theorem dX8_row_14 : Eq (decode cX8_row 14) (Except.ok (Instr.iload_n 1, 1)) := fE fw_dX8_row_0_c 7 rfl
theorem dX8_row_15 : Eq (decode cX8_row 15) (Except.ok (Instr.i2l, 1)) := fE fw_dX8_row_0_c 8 rfl
theorem dX8_row_16 : Eq (decode cX8_row 16) (Except.ok (Instr.lconst 0, 1)) := fE fw_dX8_row_0_c 9 rfl
theorem dX8_row_17 : Eq (decode cX8_row 17) (Except.ok (Instr.aload_n 0, 1)) := fE fw_dX8_row_0_c 10 rfl
theorem dX8_row_18 : Eq (decode cX8_row 18) (Except.ok (Instr.getfield 115, 3)) := fE fw_dX8_row_0_c 11 rfl
theorem dX8_row_21 : Eq (decode cX8_row 21) (Except.ok (Instr.iconst 1, 1)) := fE fw_dX8_row_0_c 12 rfl
theorem dX8_row_22 : Eq (decode cX8_row 22) (Except.ok (Instr.isub, 1)) := fE fw_dX8_row_0_c 13 rfl
theorem dX8_row_23 : Eq (decode cX8_row 23) (Except.ok (Instr.i2l, 1)) := fE fw_dX8_row_0_c 14 rfl
theorem dX8_row_24 : Eq (decode cX8_row 24) (Except.ok (Instr.invokestatic 128, 3)) := fE fw_dX8_row_0_c 15 rfl
theorem dX8_row_27 : Eq (decode cX8_row 27) (Except.ok (Instr.ifCond .eq 12, 3)) := fE fw_dX8_row_0_c 16 rfl
theorem dX8_row_30 : Eq (decode cX8_row 30) (Except.ok (Instr.aload_n 0, 1)) := fE fw_dX8_row_0_c 17 rfl
theorem dX8_row_31 : Eq (decode cX8_row 31) (Except.ok (Instr.getfield 109, 3)) := fE fw_dX8_row_0_c 18 rfl
theorem dX8_row_34 : Eq (decode cX8_row 34) (Except.ok (Instr.iload_n 1, 1)) := fE fw_dX8_row_0_c 19 rfl
def fw_dX8_row_35 : List (Nat × Instr × Nat) := [(35, .iaload, 1), (36, .goto 9, 3), (39, .aload_n 0, 1), (40, .bipush (-3), 2), (42, .invokevirtual 122, 3), (45, .ireturn, 1)]
theorem fw_dX8_row_35_c : fchk 35 (cX8_row.data.toList.drop 35) fw_dX8_row_35 = true := by decide +kernel
theorem dX8_row_35 : Eq (decode cX8_row 35) (Except.ok (Instr.iaload, 1)) := fE fw_dX8_row_35_c 0 rfl
theorem dX8_row_36 : Eq (decode cX8_row 36) (Except.ok (Instr.goto 9, 3)) := fE fw_dX8_row_35_c 1 rfl
theorem dX8_row_39 : Eq (decode cX8_row 39) (Except.ok (Instr.aload_n 0, 1)) := fE fw_dX8_row_35_c 2 rfl
theorem dX8_row_40 : Eq (decode cX8_row 40) (Except.ok (Instr.bipush (-3), 2)) := fE fw_dX8_row_35_c 3 rfl
theorem dX8_row_42 : Eq (decode cX8_row 42) (Except.ok (Instr.invokevirtual 122, 3)) := fE fw_dX8_row_35_c 4 rfl
theorem dX8_row_45 : Eq (decode cX8_row 45) (Except.ok (Instr.ireturn, 1)) := fE fw_dX8_row_35_c 5 rfl
set_option maxRecDepth 20000 in
theorem gi_wsX8_copy_0 : GoodIn wsX8_copy wsX8_copy := goodIn_sub (fun _ h => h) (by decide +kernel)
set_option maxRecDepth 20000 in
theorem gi_wsX8_copy_1 : GoodIn wsX8_copy wsX80 := goodIn_sub (fun w h => List.mem_cons_of_mem _ (List.mem_append_right _ h)) (by decide +kernel)
def bs_wsX8_copy : List (List Cond) := [wsX8_copy, wsX80]
theorem bs_wsX8_copy_in : ∀ b ∈ bs_wsX8_copy, GoodIn wsX8_copy b := List.forall_mem_cons.mpr ⟨gi_wsX8_copy_0, List.forall_mem_cons.mpr ⟨gi_wsX8_copy_1, (fun _ h => absurd h List.not_mem_nil)⟩⟩
set_option maxRecDepth 20000 in
theorem ggX8_copy_X8_no : GoodIn wsX8_copy wsX8_no := goodIn_k (gi_q bs_wsX8_copy_in _ [(0, 8)] rfl) (goodIn_app (gi_q bs_wsX8_copy_in _ [(0, 9)] rfl) (gi_wsX8_copy_1))
set_option maxRecDepth 20000 in
theorem gX8_copy_X8_no : GoodIn wsX8_copy (wsV RX8 122 RX8 yX8_no wsX8_no) := goodIn_app (gi_q bs_wsX8_copy_in _ [(0, 4), (0, 5), (0, 6), (0, 7)] rfl) ggX8_copy_X8_no
def fw_dX8_copy_0 : List (Nat × Instr × Nat) := [(0, .aload_n 0, 1), (1, .getfield 115, 3), (4, .ifCond .ge 10, 3), (7, .aload_n 0, 1), (8, .bipush (-2), 2), (10, .invokevirtual 122, 3), (13, .ireturn, 1), (14, .iload_n 3, 1), (15, .ifCond .ge 10, 3), (18, .aload_n 0, 1), (19, .bipush (-4), 2), (21, .invokevirtual 122, 3), (24, .ireturn, 1), (25, .iload_n 1, 1), (26, .ifCond .lt 35, 3), (29, .iload_n 2, 1), (30, .ifCond .lt 31, 3), (33, .iload_n 1, 1), (34, .i2l, 1), (35, .iload_n 3, 1)]
theorem fw_dX8_copy_0_c : fchk 0 (cX8_copy.data.toList.drop 0) fw_dX8_copy_0 = true := by decide +kernel
theorem dX8_copy_0 : Eq (decode cX8_copy 0) (Except.ok (Instr.aload_n 0, 1)) := fE fw_dX8_copy_0_c 0 rfl
theorem dX8_copy_1 : Eq (decode cX8_copy 1) (Except.ok (Instr.getfield 115, 3)) := fE fw_dX8_copy_0_c 1 rfl
theorem dX8_copy_4 : Eq (decode cX8_copy 4) (Except.ok (Instr.ifCond .ge 10, 3)) := fE fw_dX8_copy_0_c 2 rfl
theorem dX8_copy_7 : Eq (decode cX8_copy 7) (Except.ok (Instr.aload_n 0, 1)) := fE fw_dX8_copy_0_c 3 rfl
theorem dX8_copy_8 : Eq (decode cX8_copy 8) (Except.ok (Instr.bipush (-2), 2)) := fE fw_dX8_copy_0_c 4 rfl
theorem dX8_copy_10 : Eq (decode cX8_copy 10) (Except.ok (Instr.invokevirtual 122, 3)) := fE fw_dX8_copy_0_c 5 rfl
theorem dX8_copy_13 : Eq (decode cX8_copy 13) (Except.ok (Instr.ireturn, 1)) := fE fw_dX8_copy_0_c 6 rfl
theorem dX8_copy_14 : Eq (decode cX8_copy 14) (Except.ok (Instr.iload_n 3, 1)) := fE fw_dX8_copy_0_c 7 rfl
theorem dX8_copy_15 : Eq (decode cX8_copy 15) (Except.ok (Instr.ifCond .ge 10, 3)) := fE fw_dX8_copy_0_c 8 rfl
theorem dX8_copy_18 : Eq (decode cX8_copy 18) (Except.ok (Instr.aload_n 0, 1)) := fE fw_dX8_copy_0_c 9 rfl
theorem dX8_copy_19 : Eq (decode cX8_copy 19) (Except.ok (Instr.bipush (-4), 2)) := fE fw_dX8_copy_0_c 10 rfl
theorem dX8_copy_21 : Eq (decode cX8_copy 21) (Except.ok (Instr.invokevirtual 122, 3)) := fE fw_dX8_copy_0_c 11 rfl
theorem dX8_copy_24 : Eq (decode cX8_copy 24) (Except.ok (Instr.ireturn, 1)) := fE fw_dX8_copy_0_c 12 rfl
theorem dX8_copy_25 : Eq (decode cX8_copy 25) (Except.ok (Instr.iload_n 1, 1)) := fE fw_dX8_copy_0_c 13 rfl
theorem dX8_copy_26 : Eq (decode cX8_copy 26) (Except.ok (Instr.ifCond .lt 35, 3)) := fE fw_dX8_copy_0_c 14 rfl
theorem dX8_copy_29 : Eq (decode cX8_copy 29) (Except.ok (Instr.iload_n 2, 1)) := fE fw_dX8_copy_0_c 15 rfl
theorem dX8_copy_30 : Eq (decode cX8_copy 30) (Except.ok (Instr.ifCond .lt 31, 3)) := fE fw_dX8_copy_0_c 16 rfl
theorem dX8_copy_33 : Eq (decode cX8_copy 33) (Except.ok (Instr.iload_n 1, 1)) := fE fw_dX8_copy_0_c 17 rfl
theorem dX8_copy_34 : Eq (decode cX8_copy 34) (Except.ok (Instr.i2l, 1)) := fE fw_dX8_copy_0_c 18 rfl
theorem dX8_copy_35 : Eq (decode cX8_copy 35) (Except.ok (Instr.iload_n 3, 1)) := fE fw_dX8_copy_0_c 19 rfl
def fw_dX8_copy_36 : List (Nat × Instr × Nat) := [(36, .i2l, 1), (37, .ladd, 1), (38, .aload_n 0, 1), (39, .getfield 115, 3), (42, .i2l, 1), (43, .lcmp, 1), (44, .ifCond .gt 17, 3), (47, .iload_n 2, 1), (48, .i2l, 1), (49, .iload_n 3, 1), (50, .i2l, 1), (51, .ladd, 1), (52, .aload_n 0, 1), (53, .getfield 115, 3), (56, .i2l, 1), (57, .lcmp, 1), (58, .ifCond .le 10, 3), (61, .aload_n 0, 1), (62, .bipush (-5), 2), (64, .invokevirtual 122, 3)]
theorem fw_dX8_copy_36_c : fchk 36 (cX8_copy.data.toList.drop 36) fw_dX8_copy_36 = true := by decide +kernel
theorem dX8_copy_36 : Eq (decode cX8_copy 36) (Except.ok (Instr.i2l, 1)) := fE fw_dX8_copy_36_c 0 rfl
theorem dX8_copy_37 : Eq (decode cX8_copy 37) (Except.ok (Instr.ladd, 1)) := fE fw_dX8_copy_36_c 1 rfl
theorem dX8_copy_38 : Eq (decode cX8_copy 38) (Except.ok (Instr.aload_n 0, 1)) := fE fw_dX8_copy_36_c 2 rfl
theorem dX8_copy_39 : Eq (decode cX8_copy 39) (Except.ok (Instr.getfield 115, 3)) := fE fw_dX8_copy_36_c 3 rfl
theorem dX8_copy_42 : Eq (decode cX8_copy 42) (Except.ok (Instr.i2l, 1)) := fE fw_dX8_copy_36_c 4 rfl
theorem dX8_copy_43 : Eq (decode cX8_copy 43) (Except.ok (Instr.lcmp, 1)) := fE fw_dX8_copy_36_c 5 rfl
theorem dX8_copy_44 : Eq (decode cX8_copy 44) (Except.ok (Instr.ifCond .gt 17, 3)) := fE fw_dX8_copy_36_c 6 rfl
theorem dX8_copy_47 : Eq (decode cX8_copy 47) (Except.ok (Instr.iload_n 2, 1)) := fE fw_dX8_copy_36_c 7 rfl
theorem dX8_copy_48 : Eq (decode cX8_copy 48) (Except.ok (Instr.i2l, 1)) := fE fw_dX8_copy_36_c 8 rfl
theorem dX8_copy_49 : Eq (decode cX8_copy 49) (Except.ok (Instr.iload_n 3, 1)) := fE fw_dX8_copy_36_c 9 rfl
theorem dX8_copy_50 : Eq (decode cX8_copy 50) (Except.ok (Instr.i2l, 1)) := fE fw_dX8_copy_36_c 10 rfl
theorem dX8_copy_51 : Eq (decode cX8_copy 51) (Except.ok (Instr.ladd, 1)) := fE fw_dX8_copy_36_c 11 rfl
theorem dX8_copy_52 : Eq (decode cX8_copy 52) (Except.ok (Instr.aload_n 0, 1)) := fE fw_dX8_copy_36_c 12 rfl
theorem dX8_copy_53 : Eq (decode cX8_copy 53) (Except.ok (Instr.getfield 115, 3)) := fE fw_dX8_copy_36_c 13 rfl
theorem dX8_copy_56 : Eq (decode cX8_copy 56) (Except.ok (Instr.i2l, 1)) := fE fw_dX8_copy_36_c 14 rfl
theorem dX8_copy_57 : Eq (decode cX8_copy 57) (Except.ok (Instr.lcmp, 1)) := fE fw_dX8_copy_36_c 15 rfl
theorem dX8_copy_58 : Eq (decode cX8_copy 58) (Except.ok (Instr.ifCond .le 10, 3)) := fE fw_dX8_copy_36_c 16 rfl
theorem dX8_copy_61 : Eq (decode cX8_copy 61) (Except.ok (Instr.aload_n 0, 1)) := fE fw_dX8_copy_36_c 17 rfl
theorem dX8_copy_62 : Eq (decode cX8_copy 62) (Except.ok (Instr.bipush (-5), 2)) := fE fw_dX8_copy_36_c 18 rfl
theorem dX8_copy_64 : Eq (decode cX8_copy 64) (Except.ok (Instr.invokevirtual 122, 3)) := fE fw_dX8_copy_36_c 19 rfl
def fw_dX8_copy_67 : List (Nat × Instr × Nat) := [(67, .ireturn, 1), (68, .iconst 0, 1), (69, .istore 4, 2), (71, .iload 4, 2), (73, .iload_n 3, 1), (74, .if_icmp .ge 25, 3), (77, .aload_n 0, 1), (78, .getfield 112, 3), (81, .iload 4, 2), (83, .aload_n 0, 1), (84, .getfield 109, 3), (87, .iload_n 1, 1), (88, .iload 4, 2), (90, .iadd, 1), (91, .iaload, 1), (92, .iastore, 1)]
theorem fw_dX8_copy_67_c : fchk 67 (cX8_copy.data.toList.drop 67) fw_dX8_copy_67 = true := by decide +kernel
theorem dX8_copy_67 : Eq (decode cX8_copy 67) (Except.ok (Instr.ireturn, 1)) := fE fw_dX8_copy_67_c 0 rfl
theorem dX8_copy_68 : Eq (decode cX8_copy 68) (Except.ok (Instr.iconst 0, 1)) := fE fw_dX8_copy_67_c 1 rfl
theorem dX8_copy_69 : Eq (decode cX8_copy 69) (Except.ok (Instr.istore 4, 2)) := fE fw_dX8_copy_67_c 2 rfl
theorem dX8_copy_71 : Eq (decode cX8_copy 71) (Except.ok (Instr.iload 4, 2)) := fE fw_dX8_copy_67_c 3 rfl
theorem dX8_copy_73 : Eq (decode cX8_copy 73) (Except.ok (Instr.iload_n 3, 1)) := fE fw_dX8_copy_67_c 4 rfl
theorem dX8_copy_74 : Eq (decode cX8_copy 74) (Except.ok (Instr.if_icmp .ge 25, 3)) := fE fw_dX8_copy_67_c 5 rfl
theorem dX8_copy_77 : Eq (decode cX8_copy 77) (Except.ok (Instr.aload_n 0, 1)) := fE fw_dX8_copy_67_c 6 rfl
theorem dX8_copy_78 : Eq (decode cX8_copy 78) (Except.ok (Instr.getfield 112, 3)) := fE fw_dX8_copy_67_c 7 rfl
theorem dX8_copy_81 : Eq (decode cX8_copy 81) (Except.ok (Instr.iload 4, 2)) := fE fw_dX8_copy_67_c 8 rfl
theorem dX8_copy_83 : Eq (decode cX8_copy 83) (Except.ok (Instr.aload_n 0, 1)) := fE fw_dX8_copy_67_c 9 rfl
theorem dX8_copy_84 : Eq (decode cX8_copy 84) (Except.ok (Instr.getfield 109, 3)) := fE fw_dX8_copy_67_c 10 rfl
theorem dX8_copy_87 : Eq (decode cX8_copy 87) (Except.ok (Instr.iload_n 1, 1)) := fE fw_dX8_copy_67_c 11 rfl
theorem dX8_copy_88 : Eq (decode cX8_copy 88) (Except.ok (Instr.iload 4, 2)) := fE fw_dX8_copy_67_c 12 rfl
theorem dX8_copy_90 : Eq (decode cX8_copy 90) (Except.ok (Instr.iadd, 1)) := fE fw_dX8_copy_67_c 13 rfl
theorem dX8_copy_91 : Eq (decode cX8_copy 91) (Except.ok (Instr.iaload, 1)) := fE fw_dX8_copy_67_c 14 rfl
theorem dX8_copy_92 : Eq (decode cX8_copy 92) (Except.ok (Instr.iastore, 1)) := fE fw_dX8_copy_67_c 15 rfl
theorem dX8_copy_93 : decode cX8_copy 93 = .ok (.iinc 4 1, 3) := by decide +kernel
def fw_dX8_copy_96 : List (Nat × Instr × Nat) := [(96, .goto (-25), 3), (99, .iconst 0, 1), (100, .istore 4, 2), (102, .iload 4, 2), (104, .iload_n 3, 1), (105, .if_icmp .ge 25, 3), (108, .aload_n 0, 1), (109, .getfield 109, 3), (112, .iload_n 2, 1), (113, .iload 4, 2), (115, .iadd, 1), (116, .aload_n 0, 1), (117, .getfield 112, 3), (120, .iload 4, 2), (122, .iaload, 1), (123, .iastore, 1)]
theorem fw_dX8_copy_96_c : fchk 96 (cX8_copy.data.toList.drop 96) fw_dX8_copy_96 = true := by decide +kernel
theorem dX8_copy_96 : Eq (decode cX8_copy 96) (Except.ok (Instr.goto (-25), 3)) := fE fw_dX8_copy_96_c 0 rfl
theorem dX8_copy_99 : Eq (decode cX8_copy 99) (Except.ok (Instr.iconst 0, 1)) := fE fw_dX8_copy_96_c 1 rfl
theorem dX8_copy_100 : Eq (decode cX8_copy 100) (Except.ok (Instr.istore 4, 2)) := fE fw_dX8_copy_96_c 2 rfl
theorem dX8_copy_102 : Eq (decode cX8_copy 102) (Except.ok (Instr.iload 4, 2)) := fE fw_dX8_copy_96_c 3 rfl
theorem dX8_copy_104 : Eq (decode cX8_copy 104) (Except.ok (Instr.iload_n 3, 1)) := fE fw_dX8_copy_96_c 4 rfl
theorem dX8_copy_105 : Eq (decode cX8_copy 105) (Except.ok (Instr.if_icmp .ge 25, 3)) := fE fw_dX8_copy_96_c 5 rfl
theorem dX8_copy_108 : Eq (decode cX8_copy 108) (Except.ok (Instr.aload_n 0, 1)) := fE fw_dX8_copy_96_c 6 rfl
theorem dX8_copy_109 : Eq (decode cX8_copy 109) (Except.ok (Instr.getfield 109, 3)) := fE fw_dX8_copy_96_c 7 rfl
theorem dX8_copy_112 : Eq (decode cX8_copy 112) (Except.ok (Instr.iload_n 2, 1)) := fE fw_dX8_copy_96_c 8 rfl
theorem dX8_copy_113 : Eq (decode cX8_copy 113) (Except.ok (Instr.iload 4, 2)) := fE fw_dX8_copy_96_c 9 rfl
theorem dX8_copy_115 : Eq (decode cX8_copy 115) (Except.ok (Instr.iadd, 1)) := fE fw_dX8_copy_96_c 10 rfl
theorem dX8_copy_116 : Eq (decode cX8_copy 116) (Except.ok (Instr.aload_n 0, 1)) := fE fw_dX8_copy_96_c 11 rfl
theorem dX8_copy_117 : Eq (decode cX8_copy 117) (Except.ok (Instr.getfield 112, 3)) := fE fw_dX8_copy_96_c 12 rfl
theorem dX8_copy_120 : Eq (decode cX8_copy 120) (Except.ok (Instr.iload 4, 2)) := fE fw_dX8_copy_96_c 13 rfl
theorem dX8_copy_122 : Eq (decode cX8_copy 122) (Except.ok (Instr.iaload, 1)) := fE fw_dX8_copy_96_c 14 rfl
theorem dX8_copy_123 : Eq (decode cX8_copy 123) (Except.ok (Instr.iastore, 1)) := fE fw_dX8_copy_96_c 15 rfl
theorem dX8_copy_124 : decode cX8_copy 124 = .ok (.iinc 4 1, 3) := by decide +kernel
def fw_dX8_copy_127 : List (Nat × Instr × Nat) := [(127, .goto (-25), 3), (130, .iload_n 3, 1), (131, .ireturn, 1)]
theorem fw_dX8_copy_127_c : fchk 127 (cX8_copy.data.toList.drop 127) fw_dX8_copy_127 = true := by decide +kernel
theorem dX8_copy_127 : Eq (decode cX8_copy 127) (Except.ok (Instr.goto (-25), 3)) := fE fw_dX8_copy_127_c 0 rfl
theorem dX8_copy_130 : Eq (decode cX8_copy 130) (Except.ok (Instr.iload_n 3, 1)) := fE fw_dX8_copy_127_c 1 rfl
theorem dX8_copy_131 : Eq (decode cX8_copy 131) (Except.ok (Instr.ireturn, 1)) := fE fw_dX8_copy_127_c 2 rfl
set_option maxRecDepth 20000 in
theorem gi_wsX8_status_0 : GoodIn wsX8_status wsX8_status := goodIn_sub (fun _ h => h) (by decide +kernel)
set_option maxRecDepth 20000 in
theorem gi_wsX8_status_1 : GoodIn wsX8_status wsX80 := goodIn_sub (fun w h => List.mem_cons_of_mem _ (List.mem_append_right _ h)) (by decide +kernel)
def bs_wsX8_status : List (List Cond) := [wsX8_status, wsX80]
theorem bs_wsX8_status_in : ∀ b ∈ bs_wsX8_status, GoodIn wsX8_status b := List.forall_mem_cons.mpr ⟨gi_wsX8_status_0, List.forall_mem_cons.mpr ⟨gi_wsX8_status_1, (fun _ h => absurd h List.not_mem_nil)⟩⟩
set_option maxRecDepth 20000 in
theorem ggX8_status_X8_isIn : GoodIn wsX8_status wsX8_isIn := goodIn_k (gi_q bs_wsX8_status_in _ [(0, 7)] rfl) (gi_q bs_wsX8_status_in _ [] rfl)
set_option maxRecDepth 20000 in
theorem gX8_status_X8_isIn : GoodIn wsX8_status (va_wsS RX8 128 yX8_isIn wsX8_isIn) := goodIn_app (gi_q bs_wsX8_status_in _ [(0, 4), (0, 5), (0, 6)] rfl) ggX8_status_X8_isIn
set_option maxRecDepth 20000 in
theorem ggX8_status_X8_no : GoodIn wsX8_status wsX8_no := goodIn_k (gi_q bs_wsX8_status_in _ [(0, 11)] rfl) (goodIn_app (gi_q bs_wsX8_status_in _ [(0, 3)] rfl) (gi_wsX8_status_1))
set_option maxRecDepth 20000 in
theorem gX8_status_X8_no : GoodIn wsX8_status (wsV RX8 122 RX8 yX8_no wsX8_no) := goodIn_app (gi_q bs_wsX8_status_in _ [(0, 8), (0, 9), (0, 10), (0, 6)] rfl) ggX8_status_X8_no
def fw_dX8_status_0 : List (Nat × Instr × Nat) := [(0, .iload_n 1, 1), (1, .i2l, 1), (2, .ldc2_w 291, 3), (5, .ldc2_w 293, 3), (8, .invokestatic 128, 3), (11, .ifCond .eq 13, 3), (14, .aload_n 0, 1), (15, .getfield 48, 3), (18, .iload_n 1, 1), (19, .ineg, 1), (20, .iaload, 1), (21, .goto 9, 3), (24, .aload_n 0, 1), (25, .bipush (-6), 2), (27, .invokevirtual 122, 3), (30, .ireturn, 1)]
theorem fw_dX8_status_0_c : fchk 0 (cX8_status.data.toList.drop 0) fw_dX8_status_0 = true := by decide +kernel
theorem dX8_status_0 : Eq (decode cX8_status 0) (Except.ok (Instr.iload_n 1, 1)) := fE fw_dX8_status_0_c 0 rfl
theorem dX8_status_1 : Eq (decode cX8_status 1) (Except.ok (Instr.i2l, 1)) := fE fw_dX8_status_0_c 1 rfl
theorem dX8_status_2 : Eq (decode cX8_status 2) (Except.ok (Instr.ldc2_w 291, 3)) := fE fw_dX8_status_0_c 2 rfl
theorem dX8_status_5 : Eq (decode cX8_status 5) (Except.ok (Instr.ldc2_w 293, 3)) := fE fw_dX8_status_0_c 3 rfl
theorem dX8_status_8 : Eq (decode cX8_status 8) (Except.ok (Instr.invokestatic 128, 3)) := fE fw_dX8_status_0_c 4 rfl
theorem dX8_status_11 : Eq (decode cX8_status 11) (Except.ok (Instr.ifCond .eq 13, 3)) := fE fw_dX8_status_0_c 5 rfl
theorem dX8_status_14 : Eq (decode cX8_status 14) (Except.ok (Instr.aload_n 0, 1)) := fE fw_dX8_status_0_c 6 rfl
theorem dX8_status_15 : Eq (decode cX8_status 15) (Except.ok (Instr.getfield 48, 3)) := fE fw_dX8_status_0_c 7 rfl
theorem dX8_status_18 : Eq (decode cX8_status 18) (Except.ok (Instr.iload_n 1, 1)) := fE fw_dX8_status_0_c 8 rfl
theorem dX8_status_19 : Eq (decode cX8_status 19) (Except.ok (Instr.ineg, 1)) := fE fw_dX8_status_0_c 9 rfl
theorem dX8_status_20 : Eq (decode cX8_status 20) (Except.ok (Instr.iaload, 1)) := fE fw_dX8_status_0_c 10 rfl
theorem dX8_status_21 : Eq (decode cX8_status 21) (Except.ok (Instr.goto 9, 3)) := fE fw_dX8_status_0_c 11 rfl
theorem dX8_status_24 : Eq (decode cX8_status 24) (Except.ok (Instr.aload_n 0, 1)) := fE fw_dX8_status_0_c 12 rfl
theorem dX8_status_25 : Eq (decode cX8_status 25) (Except.ok (Instr.bipush (-6), 2)) := fE fw_dX8_status_0_c 13 rfl
theorem dX8_status_27 : Eq (decode cX8_status 27) (Except.ok (Instr.invokevirtual 122, 3)) := fE fw_dX8_status_0_c 14 rfl
theorem dX8_status_30 : Eq (decode cX8_status 30) (Except.ok (Instr.ireturn, 1)) := fE fw_dX8_status_0_c 15 rfl
