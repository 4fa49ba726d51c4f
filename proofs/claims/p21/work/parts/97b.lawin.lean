theorem goodIn_m {big : List Cond} (ws : List Cond) (ps : List Nat) (hp : ws = ps.filterMap (fun i => big[i]?)) : ∀ w ∈ ws, w ∈ big := by
  intro w hw
  rw [hp] at hw
  obtain ⟨i, -, hi⟩ := List.mem_filterMap.mp hw
  first | exact List.mem_of_getElem? hi | exact List.getElem?_mem hi
theorem kmem_app {big a b : List Cond} (ha : ∀ w ∈ a, w ∈ big) (hb : ∀ w ∈ b, w ∈ big) : ∀ w ∈ a ++ b, w ∈ big := fun w h => (List.mem_append.mp h).elim (ha w) (hb w)
theorem ini_nil {big : List Cond} : ∀ w ∈ ([] : List Cond), w ∈ big := fun _ h => absurd h List.not_mem_nil
theorem tb_0 : ∀ w ∈ k2_sels lw_privs, w ∈ lw_tbl := fun w h => List.mem_append_left _ h
theorem tb_1 : ∀ w ∈ tables_1_1, w ∈ lw_tbl := fun w h => List.mem_append_right _ (List.mem_append_left _ h)
theorem tb_2 : ∀ w ∈ tables_1_2, w ∈ lw_tbl := fun w h => List.mem_append_right _ (List.mem_append_right _ (List.mem_append_left _ h))
theorem tb_3 : ∀ w ∈ tables_1_3, w ∈ lw_tbl := fun w h => List.mem_append_right _ (List.mem_append_right _ (List.mem_append_right _ (List.mem_append_left _ h)))
theorem tb_4 : ∀ w ∈ tables_1_4, w ∈ lw_tbl := fun w h => List.mem_append_right _ (List.mem_append_right _ (List.mem_append_right _ (List.mem_append_right _ (List.mem_append_left _ h))))
theorem tb_5 : ∀ w ∈ tables_1_5, w ∈ lw_tbl := fun w h => List.mem_append_right _ (List.mem_append_right _ (List.mem_append_right _ (List.mem_append_right _ (List.mem_append_right _ h))))
theorem tb_sub {l : List Cond} {n m : Nat} {big : List Cond} (hl : ∀ w ∈ l, w ∈ big) : ∀ w ∈ (l.drop n).take m, w ∈ big := fun w h => hl w (List.mem_of_mem_drop (List.mem_of_mem_take h))
def tbCh : List (List Cond) := [((k2_sels lw_privs).drop 0).take 25, ((k2_sels lw_privs).drop 25).take 25, ((tables_1_1).drop 0).take 25, ((tables_1_1).drop 25).take 25, ((tables_1_1).drop 50).take 25, ((tables_1_1).drop 75).take 25, ((tables_1_1).drop 100).take 25, ((tables_1_1).drop 125).take 25, ((tables_1_1).drop 150).take 25, ((tables_1_1).drop 175).take 25, ((tables_1_1).drop 200).take 25, ((tables_1_1).drop 225).take 25, ((tables_1_2).drop 0).take 25, ((tables_1_2).drop 25).take 25, ((tables_1_2).drop 50).take 25, ((tables_1_2).drop 75).take 25, ((tables_1_2).drop 100).take 25, ((tables_1_2).drop 125).take 25, ((tables_1_2).drop 150).take 25, ((tables_1_2).drop 175).take 25, ((tables_1_2).drop 200).take 25, ((tables_1_2).drop 225).take 25, ((tables_1_3).drop 0).take 25, ((tables_1_3).drop 25).take 25, ((tables_1_3).drop 50).take 25, ((tables_1_3).drop 75).take 25, ((tables_1_3).drop 100).take 25, ((tables_1_3).drop 125).take 25, ((tables_1_3).drop 150).take 25, ((tables_1_3).drop 175).take 25, ((tables_1_3).drop 200).take 25, ((tables_1_3).drop 225).take 25, ((tables_1_4).drop 0).take 25, ((tables_1_4).drop 25).take 25, ((tables_1_4).drop 50).take 25, ((tables_1_4).drop 75).take 25, ((tables_1_4).drop 100).take 25, ((tables_1_4).drop 125).take 25, ((tables_1_4).drop 150).take 25, ((tables_1_4).drop 175).take 25, ((tables_1_4).drop 200).take 25, ((tables_1_4).drop 225).take 25, ((tables_1_5).drop 0).take 25, ((tables_1_5).drop 25).take 25, ((tables_1_5).drop 50).take 25, ((tables_1_5).drop 75).take 25, ((tables_1_5).drop 100).take 25, ((tables_1_5).drop 125).take 25, ((tables_1_5).drop 150).take 25, ((tables_1_5).drop 175).take 25]
theorem tbCh_in : ∀ c ∈ tbCh, ∀ w ∈ c, w ∈ lw_tbl := List.forall_mem_cons.mpr ⟨tb_sub tb_0, List.forall_mem_cons.mpr ⟨tb_sub tb_0, List.forall_mem_cons.mpr ⟨tb_sub tb_1, List.forall_mem_cons.mpr ⟨tb_sub tb_1, List.forall_mem_cons.mpr ⟨tb_sub tb_1, List.forall_mem_cons.mpr ⟨tb_sub tb_1, List.forall_mem_cons.mpr ⟨tb_sub tb_1, List.forall_mem_cons.mpr ⟨tb_sub tb_1, List.forall_mem_cons.mpr ⟨tb_sub tb_1, List.forall_mem_cons.mpr ⟨tb_sub tb_1, List.forall_mem_cons.mpr ⟨tb_sub tb_1, List.forall_mem_cons.mpr ⟨tb_sub tb_1, List.forall_mem_cons.mpr ⟨tb_sub tb_2, List.forall_mem_cons.mpr ⟨tb_sub tb_2, List.forall_mem_cons.mpr ⟨tb_sub tb_2, List.forall_mem_cons.mpr ⟨tb_sub tb_2, List.forall_mem_cons.mpr ⟨tb_sub tb_2, List.forall_mem_cons.mpr ⟨tb_sub tb_2, List.forall_mem_cons.mpr ⟨tb_sub tb_2, List.forall_mem_cons.mpr ⟨tb_sub tb_2, List.forall_mem_cons.mpr ⟨tb_sub tb_2, List.forall_mem_cons.mpr ⟨tb_sub tb_2, List.forall_mem_cons.mpr ⟨tb_sub tb_3, List.forall_mem_cons.mpr ⟨tb_sub tb_3, List.forall_mem_cons.mpr ⟨tb_sub tb_3, List.forall_mem_cons.mpr ⟨tb_sub tb_3, List.forall_mem_cons.mpr ⟨tb_sub tb_3, List.forall_mem_cons.mpr ⟨tb_sub tb_3, List.forall_mem_cons.mpr ⟨tb_sub tb_3, List.forall_mem_cons.mpr ⟨tb_sub tb_3, List.forall_mem_cons.mpr ⟨tb_sub tb_3, List.forall_mem_cons.mpr ⟨tb_sub tb_3, List.forall_mem_cons.mpr ⟨tb_sub tb_4, List.forall_mem_cons.mpr ⟨tb_sub tb_4, List.forall_mem_cons.mpr ⟨tb_sub tb_4, List.forall_mem_cons.mpr ⟨tb_sub tb_4, List.forall_mem_cons.mpr ⟨tb_sub tb_4, List.forall_mem_cons.mpr ⟨tb_sub tb_4, List.forall_mem_cons.mpr ⟨tb_sub tb_4, List.forall_mem_cons.mpr ⟨tb_sub tb_4, List.forall_mem_cons.mpr ⟨tb_sub tb_4, List.forall_mem_cons.mpr ⟨tb_sub tb_4, List.forall_mem_cons.mpr ⟨tb_sub tb_5, List.forall_mem_cons.mpr ⟨tb_sub tb_5, List.forall_mem_cons.mpr ⟨tb_sub tb_5, List.forall_mem_cons.mpr ⟨tb_sub tb_5, List.forall_mem_cons.mpr ⟨tb_sub tb_5, List.forall_mem_cons.mpr ⟨tb_sub tb_5, List.forall_mem_cons.mpr ⟨tb_sub tb_5, List.forall_mem_cons.mpr ⟨tb_sub tb_5, (fun _ h => absurd h List.not_mem_nil)⟩⟩⟩⟩⟩⟩⟩⟩⟩⟩⟩⟩⟩⟩⟩⟩⟩⟩⟩⟩⟩⟩⟩⟩⟩⟩⟩⟩⟩⟩⟩⟩⟩⟩⟩⟩⟩⟩⟩⟩⟩⟩⟩⟩⟩⟩⟩⟩⟩⟩
theorem tb_m (ws : List Cond) (qs : List (Nat × Nat)) (hp : ws = qs.filterMap (fun q => (tbCh[q.1]?).bind (fun c => c[q.2]?))) : ∀ w ∈ ws, w ∈ lw_tbl := by
  intro w hw
  rw [hp] at hw
  obtain ⟨q, -, hq⟩ := List.mem_filterMap.mp hw
  obtain ⟨c, hc, hw2⟩ := Option.bind_eq_some_iff.mp hq
  exact tbCh_in c (List.mem_of_getElem? hc) w (List.mem_of_getElem? hw2)
set_option maxRecDepth 20000 in
theorem ini_wsL_law_r1 : ∀ w ∈ wsL_law_r1, w ∈ lw_tbl := tb_m wsL_law_r1 [(2, 14), (2, 15), (2, 1), (33, 0), (33, 1), (2, 10), (49, 24), (2, 16), (2, 17), (2, 18), (2, 19), (2, 20), (2, 21), (2, 22), (2, 23), (2, 2), (14, 8), (4, 2), (4, 3), (2, 4), (14, 9), (5, 16), (5, 17), (2, 5)] rfl
set_option maxRecDepth 20000 in
theorem ini_wsL_law_r2 : ∀ w ∈ wsL_law_r2, w ∈ lw_tbl := tb_m wsL_law_r2 [(14, 10), (8, 17), (8, 18), (2, 7), (14, 11), (10, 10), (10, 11), (2, 8), (14, 12), (12, 17), (12, 18), (2, 9), (14, 13), (4, 0), (14, 14), (14, 15), (4, 1), (14, 19), (16, 7), (14, 21), (14, 23), (14, 22), (2, 24), (3, 0)] rfl
set_option maxRecDepth 20000 in
theorem ini_wsL_law_r3 : ∀ w ∈ wsL_law_r3, w ∈ lw_tbl := tb_m wsL_law_r3 [(3, 1), (3, 2), (3, 6), (3, 8), (3, 11), (3, 12), (3, 3), (3, 4), (2, 3), (3, 5), (4, 5), (4, 6), (4, 7), (4, 8), (4, 12), (4, 15), (4, 18), (4, 21), (4, 24), (5, 0), (5, 18), (5, 19), (5, 20), (5, 21)] rfl
set_option maxRecDepth 20000 in
theorem ini_wsL_law_r4 : ∀ w ∈ wsL_law_r4, w ∈ lw_tbl := tb_m wsL_law_r4 [(7, 10), (7, 12), (7, 14), (7, 18), (7, 20), (7, 23), (8, 0), (5, 22), (5, 23), (2, 6), (8, 1), (5, 24), (6, 0), (6, 1), (6, 2), (6, 3), (6, 6), (6, 7), (6, 8), (6, 9), (6, 10), (7, 11), (6, 11), (6, 5)] rfl
set_option maxRecDepth 20000 in
theorem ini_wsL_law_r5 : ∀ w ∈ wsL_law_r5, w ∈ lw_tbl := tb_m wsL_law_r5 [(8, 19), (8, 20), (8, 21), (8, 22), (9, 3), (9, 5), (9, 8), (9, 10), (9, 12), (9, 14), (9, 15), (10, 12), (10, 13), (10, 14), (10, 15), (10, 16), (10, 24), (11, 0), (11, 1), (11, 2), (11, 3), (11, 4), (11, 5), (11, 6)] rfl
set_option maxRecDepth 20000 in
theorem ini_wsL_law_r6 : ∀ w ∈ wsL_law_r6, w ∈ lw_tbl := tb_m wsL_law_r6 [(12, 19), (12, 20), (12, 21), (12, 22), (13, 2), (13, 7), (13, 8), (13, 10), (13, 4), (13, 5), (13, 6), (14, 7), (33, 2), (33, 3), (33, 4), (33, 5), (33, 6), (33, 7), (33, 8), (33, 9), (33, 10), (33, 11), (33, 13), (33, 14)] rfl
set_option maxRecDepth 20000 in
theorem ini_wsL_law_r7 : ∀ w ∈ wsL_law_r7, w ∈ lw_tbl := tb_m wsL_law_r7 [(33, 15), (33, 16), (33, 17), (33, 18), (33, 19), (33, 20), (33, 21), (33, 22), (33, 23), (33, 24), (34, 0), (34, 1), (34, 2), (34, 3), (34, 4), (34, 5), (34, 8), (34, 9), (34, 10), (34, 11), (34, 12), (34, 16), (34, 17), (34, 18)] rfl
set_option maxRecDepth 20000 in
theorem ini_wsL_law_r8 : ∀ w ∈ wsL_law_r8, w ∈ lw_tbl := tb_m wsL_law_r8 [(34, 22), (34, 23), (34, 24), (16, 8), (16, 9), (16, 10), (16, 11), (3, 7), (3, 9), (16, 12), (16, 13), (16, 14), (16, 15), (16, 17), (0, 0), (16, 18), (16, 19), (16, 20), (16, 21), (16, 22), (16, 23), (16, 24), (17, 0), (17, 1)] rfl
set_option maxRecDepth 20000 in
theorem ini_wsL_law_r9 : ∀ w ∈ wsL_law_r9, w ∈ lw_tbl := tb_m wsL_law_r9 [(38, 14), (38, 15), (38, 16), (38, 17), (39, 0), (38, 18), (38, 19), (38, 20), (38, 21), (38, 23), (1, 0), (38, 24), (39, 1), (39, 2), (39, 3), (39, 4), (39, 6), (1, 1), (39, 7), (17, 2), (17, 3), (17, 4), (17, 5), (39, 8)] rfl
set_option maxRecDepth 20000 in
theorem ini_wsL_law_r10 : ∀ w ∈ wsL_law_r10, w ∈ lw_tbl := tb_m wsL_law_r10 [(39, 9), (39, 10), (39, 11), (17, 6), (17, 7), (17, 8), (17, 9), (39, 12), (39, 13), (39, 14), (39, 15), (17, 10), (17, 11), (17, 12), (17, 13), (17, 14), (17, 15), (17, 16), (17, 17), (39, 16), (39, 17), (39, 18), (39, 19), (39, 23)] rfl
set_option maxRecDepth 20000 in
theorem ini_wsL_law_r11 : ∀ w ∈ wsL_law_r11, w ∈ lw_tbl := tb_m wsL_law_r11 [(39, 20), (39, 21), (39, 22), (17, 18), (17, 19), (17, 20), (17, 21), (39, 24), (40, 0), (40, 1), (40, 2), (17, 22), (17, 23), (17, 24), (18, 0), (40, 3), (40, 4), (40, 5), (40, 6), (18, 1), (18, 2), (18, 3), (18, 4), (18, 5)] rfl
set_option maxRecDepth 20000 in
theorem ini_wsL_law_r12 : ∀ w ∈ wsL_law_r12, w ∈ lw_tbl := tb_m wsL_law_r12 [(40, 7), (40, 8), (40, 9), (40, 10), (40, 11), (18, 6), (18, 7), (18, 8), (18, 9), (4, 11), (18, 10), (18, 11), (18, 12), (18, 13), (18, 14), (18, 15), (18, 16), (19, 0), (19, 2), (18, 18), (18, 19), (18, 20), (18, 21), (18, 23)] rfl
set_option maxRecDepth 20000 in
theorem ini_wsL_law_r13 : ∀ w ∈ wsL_law_r13, w ∈ lw_tbl := tb_m wsL_law_r13 [(19, 4), (19, 5), (19, 6), (19, 7), (19, 9), (19, 10), (19, 13), (19, 14), (19, 15), (19, 17), (19, 18), (19, 19), (19, 22), (19, 24), (0, 1), (20, 0), (7, 13), (8, 24), (40, 12), (40, 13), (40, 14), (40, 15), (34, 7), (40, 16)] rfl
set_option maxRecDepth 20000 in
theorem ini_wsL_law_r14 : ∀ w ∈ wsL_law_r14, w ∈ lw_tbl := tb_m wsL_law_r14 [(40, 17), (40, 18), (40, 19), (40, 20), (40, 21), (40, 22), (41, 1), (41, 5), (41, 6), (40, 23), (40, 24), (41, 0), (41, 2), (41, 3), (41, 4), (20, 1), (20, 2), (20, 3), (20, 4), (41, 7), (41, 8), (41, 9), (41, 10), (20, 5)] rfl
set_option maxRecDepth 20000 in
theorem ini_wsL_law_r15 : ∀ w ∈ wsL_law_r15, w ∈ lw_tbl := tb_m wsL_law_r15 [(20, 6), (20, 7), (20, 8), (4, 14), (4, 17), (4, 20), (4, 23), (20, 9), (20, 11), (0, 2), (20, 12), (20, 13), (20, 14), (20, 15), (20, 16), (20, 17), (20, 18), (20, 19), (20, 20), (20, 21), (41, 11), (41, 12), (41, 13), (41, 14)] rfl
set_option maxRecDepth 20000 in
theorem ini_wsL_law_r16 : ∀ w ∈ wsL_law_r16, w ∈ lw_tbl := tb_m wsL_law_r16 [(42, 0), (42, 2), (1, 2), (42, 3), (42, 4), (42, 5), (42, 6), (42, 7), (42, 8), (42, 9), (20, 22), (20, 23), (20, 24), (21, 0), (7, 24), (21, 1), (21, 2), (21, 3), (21, 4), (42, 10), (42, 11), (42, 12), (42, 13), (42, 14)] rfl
set_option maxRecDepth 20000 in
theorem ini_wsL_law_r17 : ∀ w ∈ wsL_law_r17, w ∈ lw_tbl := tb_m wsL_law_r17 [(21, 5), (21, 6), (21, 7), (21, 8), (21, 9), (21, 10), (21, 11), (21, 12), (21, 13), (42, 15), (42, 16), (42, 17), (42, 18), (42, 19), (42, 21), (1, 3), (42, 22), (42, 23), (43, 0), (1, 4), (43, 1), (43, 2), (43, 4), (1, 5)] rfl
set_option maxRecDepth 20000 in
theorem ini_wsL_law_r18 : ∀ w ∈ wsL_law_r18, w ∈ lw_tbl := tb_m wsL_law_r18 [(43, 5), (21, 14), (22, 0), (22, 1), (22, 2), (7, 17), (22, 3), (22, 4), (22, 5), (22, 6), (6, 4), (22, 7), (22, 8), (22, 9), (22, 10), (4, 9), (6, 12), (6, 13), (22, 11), (22, 13), (0, 3), (22, 14), (22, 15), (22, 17)] rfl
set_option maxRecDepth 20000 in
theorem ini_wsL_law_r19 : ∀ w ∈ wsL_law_r19, w ∈ lw_tbl := tb_m wsL_law_r19 [(22, 18), (22, 20), (0, 4), (22, 21), (22, 23), (22, 24), (2, 11), (23, 0), (22, 22), (23, 1), (23, 2), (23, 3), (23, 4), (23, 6), (0, 5), (23, 7), (23, 8), (23, 9), (2, 12), (23, 10), (23, 11), (23, 12), (23, 13), (23, 15)] rfl
set_option maxRecDepth 20000 in
theorem ini_wsL_law_r20 : ∀ w ∈ wsL_law_r20, w ∈ lw_tbl := tb_m wsL_law_r20 [(23, 16), (23, 17), (23, 19), (0, 6), (23, 20), (23, 21), (23, 23), (0, 7), (23, 24), (24, 0), (24, 2), (0, 8), (24, 3), (43, 6), (43, 7), (43, 8), (43, 9), (43, 10), (43, 12), (1, 6), (43, 13), (43, 14), (43, 16), (1, 7)] rfl
set_option maxRecDepth 20000 in
theorem ini_wsL_law_r21 : ∀ w ∈ wsL_law_r21, w ∈ lw_tbl := tb_m wsL_law_r21 [(43, 17), (24, 6), (24, 7), (24, 8), (24, 9), (7, 19), (43, 18), (43, 19), (43, 20), (43, 21), (24, 10), (24, 11), (24, 12), (24, 13), (24, 14), (24, 15), (24, 16), (24, 17), (24, 18), (43, 22), (43, 23), (43, 24), (44, 0), (24, 19)] rfl
set_option maxRecDepth 20000 in
theorem ini_wsL_law_r22 : ∀ w ∈ wsL_law_r22, w ∈ lw_tbl := tb_m wsL_law_r22 [(24, 20), (24, 21), (24, 22), (9, 2), (24, 23), (24, 24), (25, 0), (25, 1), (9, 0), (7, 15), (7, 21), (8, 23), (25, 3), (25, 5), (0, 9), (25, 6), (25, 7), (25, 9), (0, 10), (25, 10), (25, 11), (25, 13), (25, 14), (25, 15)] rfl
set_option maxRecDepth 20000 in
theorem ini_wsL_law_r23 : ∀ w ∈ wsL_law_r23, w ∈ lw_tbl := tb_m wsL_law_r23 [(25, 16), (25, 17), (25, 18), (25, 19), (25, 20), (25, 21), (25, 22), (25, 23), (10, 22), (9, 1), (9, 4), (9, 6), (10, 20), (10, 18), (25, 24), (26, 0), (26, 2), (0, 11), (26, 3), (26, 6), (26, 7), (26, 9), (0, 12), (26, 10)] rfl
set_option maxRecDepth 20000 in
theorem ini_wsL_law_r24 : ∀ w ∈ wsL_law_r24, w ∈ lw_tbl := tb_m wsL_law_r24 [(26, 11), (26, 12), (26, 14), (0, 13), (26, 15), (26, 16), (26, 18), (0, 14), (26, 19), (26, 24), (26, 20), (26, 22), (0, 15), (26, 23), (27, 0), (27, 1), (27, 2), (44, 1), (44, 2), (44, 3), (44, 4), (34, 6), (44, 5), (44, 7)] rfl
set_option maxRecDepth 20000 in
theorem ini_wsL_law_r25 : ∀ w ∈ wsL_law_r25, w ∈ lw_tbl := tb_m wsL_law_r25 [(1, 8), (44, 8), (44, 9), (44, 11), (1, 9), (44, 12), (44, 13), (44, 15), (1, 10), (44, 16), (44, 17), (44, 19), (1, 11), (44, 20), (44, 21), (44, 23), (1, 12), (44, 24), (45, 0), (45, 2), (1, 13), (45, 3), (45, 4), (45, 6)] rfl
set_option maxRecDepth 20000 in
theorem ini_wsL_law_r26 : ∀ w ∈ wsL_law_r26, w ∈ lw_tbl := tb_m wsL_law_r26 [(1, 14), (45, 7), (45, 8), (45, 10), (1, 15), (45, 11), (34, 13), (45, 12), (45, 14), (1, 16), (45, 15), (27, 3), (27, 4), (27, 5), (27, 6), (9, 13), (45, 16), (45, 17), (45, 18), (45, 19), (27, 7), (27, 8), (27, 9), (27, 10)] rfl
set_option maxRecDepth 20000 in
theorem ini_wsL_law_r27 : ∀ w ∈ wsL_law_r27, w ∈ lw_tbl := tb_m wsL_law_r27 [(9, 7), (9, 9), (9, 11), (27, 11), (45, 20), (45, 21), (45, 22), (45, 23), (27, 12), (27, 13), (27, 14), (27, 15), (10, 17), (45, 24), (46, 0), (46, 1), (46, 2), (46, 3), (27, 16), (27, 17), (27, 18), (27, 19), (10, 21), (10, 19)] rfl
set_option maxRecDepth 20000 in
theorem ini_wsL_law_r28 : ∀ w ∈ wsL_law_r28, w ∈ lw_tbl := tb_m wsL_law_r28 [(10, 23), (46, 4), (46, 5), (46, 6), (46, 7), (46, 8), (46, 9), (46, 10), (27, 20), (27, 21), (27, 22), (27, 23), (27, 24), (28, 0), (28, 1), (28, 2), (12, 23), (13, 0), (7, 16), (4, 10), (7, 22), (28, 3), (28, 4), (28, 5)] rfl
set_option maxRecDepth 20000 in
theorem ini_wsL_law_r29 : ∀ w ∈ wsL_law_r29, w ∈ lw_tbl := tb_m wsL_law_r29 [(28, 6), (3, 13), (28, 8), (28, 10), (0, 16), (28, 11), (13, 9), (28, 13), (28, 15), (0, 17), (28, 16), (4, 16), (4, 19), (4, 22), (4, 13), (3, 10), (28, 17), (28, 19), (0, 18), (28, 20), (28, 21), (28, 23), (0, 19), (28, 24)] rfl
set_option maxRecDepth 20000 in
theorem ini_wsL_law_r30 : ∀ w ∈ wsL_law_r30, w ∈ lw_tbl := tb_m wsL_law_r30 [(29, 1), (29, 3), (0, 20), (29, 4), (29, 5), (29, 7), (0, 21), (29, 8), (29, 9), (29, 10), (29, 11), (29, 12), (29, 13), (29, 14), (29, 15), (29, 16), (29, 17), (29, 18), (29, 19), (29, 20), (29, 22), (0, 22), (29, 23), (12, 24)] rfl
set_option maxRecDepth 20000 in
theorem ini_wsL_law_r31 : ∀ w ∈ wsL_law_r31, w ∈ lw_tbl := tb_m wsL_law_r31 [(13, 1), (13, 3), (46, 11), (46, 12), (46, 13), (46, 14), (46, 15), (46, 17), (1, 17), (46, 18), (34, 14), (34, 15), (46, 19), (46, 20), (46, 21), (46, 22), (46, 24), (1, 18), (47, 0), (47, 1), (47, 2), (47, 4), (1, 19), (47, 5)] rfl
set_option maxRecDepth 20000 in
theorem ini_wsL_law_r32 : ∀ w ∈ wsL_law_r32, w ∈ lw_tbl := tb_m wsL_law_r32 [(47, 6), (47, 8), (1, 20), (47, 9), (47, 10), (47, 12), (1, 21), (47, 13), (47, 14), (47, 16), (1, 22), (47, 17), (29, 24), (30, 0), (30, 1), (30, 2), (47, 18), (47, 19), (47, 20), (47, 21), (30, 3), (30, 4), (30, 5), (30, 6)] rfl
set_option maxRecDepth 20000 in
theorem ini_wsL_law_r33 : ∀ w ∈ wsL_law_r33, w ∈ lw_tbl := tb_m wsL_law_r33 [(30, 7), (30, 8), (30, 9), (30, 10), (30, 12), (30, 14), (30, 13), (2, 13), (30, 11), (30, 15), (30, 17), (0, 23), (30, 18), (47, 22), (47, 23), (47, 24), (48, 0), (30, 19), (30, 20), (30, 21), (30, 22), (48, 1), (48, 2), (48, 3)] rfl
set_option maxRecDepth 20000 in
theorem ini_wsL_law_r34 : ∀ w ∈ wsL_law_r34, w ∈ lw_tbl := tb_m wsL_law_r34 [(48, 4), (48, 5), (30, 23), (30, 24), (31, 0), (31, 1), (14, 18), (14, 16), (31, 2), (31, 4), (0, 24), (31, 5), (31, 6), (14, 17), (48, 6), (48, 7), (48, 8), (48, 9), (48, 10), (34, 21), (48, 11), (34, 20), (34, 19), (31, 7)] rfl
set_option maxRecDepth 20000 in
theorem ini_wsL_law_r35 : ∀ w ∈ wsL_law_r35, w ∈ lw_tbl := tb_m wsL_law_r35 [(31, 8), (31, 9), (31, 10), (48, 12), (48, 13), (48, 14), (48, 15), (31, 11), (31, 12), (31, 13), (31, 14), (14, 20), (48, 16), (48, 17), (48, 18), (48, 19), (33, 12), (32, 0), (32, 1), (32, 2), (32, 3), (48, 20), (48, 21), (48, 22)] rfl
set_option maxRecDepth 20000 in
theorem ini_wsL_law_r36 : ∀ w ∈ wsL_law_r36, w ∈ lw_tbl := tb_m wsL_law_r36 [(48, 23), (32, 4), (32, 5), (32, 6), (32, 7), (48, 24), (49, 0), (49, 1), (49, 2), (49, 3), (49, 4), (49, 5), (32, 8), (32, 9), (32, 10), (32, 11), (49, 6), (49, 7), (49, 8), (49, 9), (32, 12), (32, 13), (32, 14), (32, 15)] rfl
set_option maxRecDepth 20000 in
theorem ini_wsL_law_r37 : ∀ w ∈ wsL_law_r37, w ∈ lw_tbl := tb_m wsL_law_r37 [(49, 10), (49, 11), (49, 12), (49, 13), (32, 16), (32, 17), (32, 18), (32, 19), (32, 20), (49, 14), (49, 15), (49, 16), (49, 17), (32, 21), (32, 22), (32, 23), (32, 24), (49, 18), (49, 19), (49, 20), (49, 21), (49, 22), (49, 23)] rfl
set_option maxRecDepth 20000 in
theorem ini_wsX70 : ∀ w ∈ wsX70, w ∈ lw_tbl := tb_m wsX70 [(14, 24), (15, 1), (15, 3), (15, 5), (15, 7), (15, 9), (15, 11), (15, 13), (15, 15), (15, 17), (15, 19), (15, 21), (15, 23), (16, 0), (16, 2), (16, 4)] rfl
set_option maxRecDepth 20000 in
theorem ini_wsX80 : ∀ w ∈ wsX80, w ∈ lw_tbl := tb_m wsX80 [(35, 0), (35, 2), (35, 4), (35, 6), (35, 8), (35, 10), (35, 12), (35, 14), (35, 16), (35, 18), (35, 20), (35, 22), (35, 24), (36, 1), (36, 3), (36, 5), (36, 7), (36, 9), (36, 11), (36, 13), (36, 15), (36, 17), (36, 19), (36, 21), (36, 23), (37, 0), (37, 2), (37, 4), (37, 6), (37, 8), (37, 10), (37, 12), (37, 14), (37, 16), (37, 18), (37, 20), (37, 22), (37, 24), (38, 1), (38, 3), (38, 5), (38, 7), (38, 9), (38, 11)] rfl
set_option maxRecDepth 20000 in
theorem ini_wsX20 : ∀ w ∈ wsX20, w ∈ lw_tbl := tb_m wsX20 [(3, 14), (3, 16), (3, 18), (3, 20), (3, 22)] rfl
set_option maxRecDepth 20000 in
theorem ini_wsX50 : ∀ w ∈ wsX50, w ∈ lw_tbl := tb_m wsX50 [(5, 1), (5, 3), (5, 5), (5, 7), (5, 9), (5, 11), (5, 13)] rfl
set_option maxRecDepth 20000 in
theorem ini_wsX30 : ∀ w ∈ wsX30, w ∈ lw_tbl := tb_m wsX30 [(8, 2), (8, 4), (8, 6), (8, 8), (8, 10), (8, 12), (8, 14)] rfl
set_option maxRecDepth 20000 in
theorem ini_wsX40 : ∀ w ∈ wsX40, w ∈ lw_tbl := tb_m wsX40 [(9, 16), (9, 18), (9, 20), (9, 22), (9, 24), (10, 1), (10, 3), (10, 5), (10, 7)] rfl
set_option maxRecDepth 20000 in
theorem ini_wsX10 : ∀ w ∈ wsX10, w ∈ lw_tbl := tb_m wsX10 [(11, 7), (11, 9), (11, 11), (11, 13), (12, 0), (12, 2), (12, 4), (12, 6), (12, 8), (12, 10), (12, 12), (12, 14)] rfl
set_option maxRecDepth 20000 in
theorem ini_wsX00 : ∀ w ∈ wsX00, w ∈ lw_tbl := tb_m wsX00 [(13, 11), (13, 13), (13, 15), (13, 17), (13, 19), (13, 21), (13, 23), (14, 0), (14, 2), (14, 4)] rfl
set_option maxRecDepth 20000 in
theorem ini_wsX60 : ∀ w ∈ wsX60, w ∈ lw_tbl := tb_m wsX60 [(6, 14), (6, 16), (6, 18), (6, 20), (6, 22), (6, 24), (7, 1), (7, 3), (7, 5), (7, 7)] rfl
theorem wsL_law_in : ∀ w ∈ wsL_law, w ∈ lw_tbl := by
  intro w h
  unfold wsL_law at h
  simp only [List.mem_append] at h
  rcases h with ((((((((((h | (h | (h | (h | (h | (h | (h | (h | (h | (h | (h | (h | (h | (h | (h | (h | (h | (h | (h | (h | (h | (h | (h | (h | (h | (h | (h | (h | (h | (h | (h | (h | (h | (h | (h | (h | h)))))))))))))))))))))))))))))))))))) | h) | h) | h) | h) | h) | h) | h) | h) | h) | h
  · exact ini_wsL_law_r1 w h
  · exact ini_wsL_law_r2 w h
  · exact ini_wsL_law_r3 w h
  · exact ini_wsL_law_r4 w h
  · exact ini_wsL_law_r5 w h
  · exact ini_wsL_law_r6 w h
  · exact ini_wsL_law_r7 w h
  · exact ini_wsL_law_r8 w h
  · exact ini_wsL_law_r9 w h
  · exact ini_wsL_law_r10 w h
  · exact ini_wsL_law_r11 w h
  · exact ini_wsL_law_r12 w h
  · exact ini_wsL_law_r13 w h
  · exact ini_wsL_law_r14 w h
  · exact ini_wsL_law_r15 w h
  · exact ini_wsL_law_r16 w h
  · exact ini_wsL_law_r17 w h
  · exact ini_wsL_law_r18 w h
  · exact ini_wsL_law_r19 w h
  · exact ini_wsL_law_r20 w h
  · exact ini_wsL_law_r21 w h
  · exact ini_wsL_law_r22 w h
  · exact ini_wsL_law_r23 w h
  · exact ini_wsL_law_r24 w h
  · exact ini_wsL_law_r25 w h
  · exact ini_wsL_law_r26 w h
  · exact ini_wsL_law_r27 w h
  · exact ini_wsL_law_r28 w h
  · exact ini_wsL_law_r29 w h
  · exact ini_wsL_law_r30 w h
  · exact ini_wsL_law_r31 w h
  · exact ini_wsL_law_r32 w h
  · exact ini_wsL_law_r33 w h
  · exact ini_wsL_law_r34 w h
  · exact ini_wsL_law_r35 w h
  · exact ini_wsL_law_r36 w h
  · exact ini_wsL_law_r37 w h
  · exact ini_wsX70 w h
  · exact ini_wsX80 w h
  · exact ini_wsX20 w h
  · exact ini_wsX50 w h
  · exact ini_wsX30 w h
  · exact ini_wsX40 w h
  · exact ini_wsX10 w h
  · exact ini_wsX00 w h
  · exact ini_wsX60 w h
  · exact absurd h List.not_mem_nil
theorem inlX0 : ∀ w ∈ wsX00, w ∈ wsL_law := fun _ h => List.mem_append_left _ (List.mem_append_left _ (List.mem_append_right _ h))
theorem inX0 : ∀ w ∈ wsX00, w ∈ lw_tbl := fun w h => wsL_law_in w (inlX0 w h)
theorem inlX1 : ∀ w ∈ wsX10, w ∈ wsL_law := fun _ h => List.mem_append_left _ (List.mem_append_left _ (List.mem_append_left _ (List.mem_append_right _ h)))
theorem inX1 : ∀ w ∈ wsX10, w ∈ lw_tbl := fun w h => wsL_law_in w (inlX1 w h)
theorem inlX2 : ∀ w ∈ wsX20, w ∈ wsL_law := fun _ h => List.mem_append_left _ (List.mem_append_left _ (List.mem_append_left _ (List.mem_append_left _ (List.mem_append_left _ (List.mem_append_left _ (List.mem_append_left _ (List.mem_append_right _ h)))))))
theorem inX2 : ∀ w ∈ wsX20, w ∈ lw_tbl := fun w h => wsL_law_in w (inlX2 w h)
theorem inlX3 : ∀ w ∈ wsX30, w ∈ wsL_law := fun _ h => List.mem_append_left _ (List.mem_append_left _ (List.mem_append_left _ (List.mem_append_left _ (List.mem_append_left _ (List.mem_append_right _ h)))))
theorem inX3 : ∀ w ∈ wsX30, w ∈ lw_tbl := fun w h => wsL_law_in w (inlX3 w h)
theorem inlX4 : ∀ w ∈ wsX40, w ∈ wsL_law := fun _ h => List.mem_append_left _ (List.mem_append_left _ (List.mem_append_left _ (List.mem_append_left _ (List.mem_append_right _ h))))
theorem inX4 : ∀ w ∈ wsX40, w ∈ lw_tbl := fun w h => wsL_law_in w (inlX4 w h)
theorem inlX5 : ∀ w ∈ wsX50, w ∈ wsL_law := fun _ h => List.mem_append_left _ (List.mem_append_left _ (List.mem_append_left _ (List.mem_append_left _ (List.mem_append_left _ (List.mem_append_left _ (List.mem_append_right _ h))))))
theorem inX5 : ∀ w ∈ wsX50, w ∈ lw_tbl := fun w h => wsL_law_in w (inlX5 w h)
theorem inlX6 : ∀ w ∈ wsX60, w ∈ wsL_law := fun _ h => List.mem_append_left _ (List.mem_append_right _ h)
theorem inX6 : ∀ w ∈ wsX60, w ∈ lw_tbl := fun w h => wsL_law_in w (inlX6 w h)
theorem inlX7 : ∀ w ∈ wsX70, w ∈ wsL_law := fun _ h => List.mem_append_left _ (List.mem_append_left _ (List.mem_append_left _ (List.mem_append_left _ (List.mem_append_left _ (List.mem_append_left _ (List.mem_append_left _ (List.mem_append_left _ (List.mem_append_left _ (List.mem_append_right _ h)))))))))
theorem inX7 : ∀ w ∈ wsX70, w ∈ lw_tbl := fun w h => wsL_law_in w (inlX7 w h)
theorem inlX8 : ∀ w ∈ wsX80, w ∈ wsL_law := fun _ h => List.mem_append_left _ (List.mem_append_left _ (List.mem_append_left _ (List.mem_append_left _ (List.mem_append_left _ (List.mem_append_left _ (List.mem_append_left _ (List.mem_append_left _ (List.mem_append_right _ h))))))))
theorem inX8 : ∀ w ∈ wsX80, w ∈ lw_tbl := fun w h => wsL_law_in w (inlX8 w h)
