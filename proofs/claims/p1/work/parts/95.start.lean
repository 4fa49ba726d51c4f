theorem k_permT {s : State} {A : Nat → Prop} {D : va_G} {ws : va_W} {tys : List (ClassId × FieldType)} {H : Heap} {locs : List Loc} {ws' : va_W} {tys' : List (ClassId × FieldType)} (h : KS D A ws tys s H locs) (is ts : List Nat) (hn : va_nd is = true) (h1 : is.filterMap (fun i => ws[i]?) = ws') (h2 : is.map (fun i => ws[i]?) = ws'.map some) (h3 : ts.filterMap (fun i => tys[i]?) = tys') : KS D A ws' tys' s H locs :=
  ⟨h.1.sub ts h3, h.2.1.sub is h1, h.2.2.1.sub is hn h2, h.2.2.2⟩
set_option maxHeartbeats 8000000 in
set_option maxRecDepth 100000 in
theorem law_stat {p : Program} {s : State} {m : MethodId} {meth : Method} {c : Code} {b L : Nat} {xs : Nat → Int32} (C0 : lw_At p s m meth c b L xs) : KSt (lawA s) s := by
  obtain ⟨hx, hb, hr, hml, hown, hts, hXs, hbl, hlocks, hgv⟩ := C0
  have hs := flat_of_before _ hgv
  have hA : ∀ a : Nat, a < s.heap.size → ¬ lawA s a := fun a ha => Nat.not_le.mpr ha
  have hini := hts (.initialized "StepStore") (List.mem_of_getElem? (i := 49) (by decide +kernel))
  have hkTabD : KT "SORT_OF_D" 11 kTabD (lawA s) s := KT.of (by decide) (hts (.laysStatic "StepStore" "SORT_OF_D" "[I") (List.mem_of_getElem? (i := 455) (by decide +kernel))) hini (hs _ (by decide +kernel)) (hs _ (by decide +kernel)) (fun j hj => by
    rcases (show j = 0 ∨ j = 1 ∨ j = 2 ∨ j = 3 ∨ j = 4 ∨ j = 5 ∨ j = 6 ∨ j = 7 ∨ j = 8 ∨ j = 9 ∨ j = 10 by omega) with rfl | rfl | rfl | rfl | rfl | rfl | rfl | rfl | rfl | rfl | rfl <;> exact hs _ (by decide +kernel)) hA
  have hkTabX : KT "SORT_OF_X" 11 kTabX (lawA s) s := KT.of (by decide) (hts (.laysStatic "StepStore" "SORT_OF_X" "[I") (List.mem_of_getElem? (i := 464) (by decide +kernel))) hini (hs _ (by decide +kernel)) (hs _ (by decide +kernel)) (fun j hj => by
    rcases (show j = 0 ∨ j = 1 ∨ j = 2 ∨ j = 3 ∨ j = 4 ∨ j = 5 ∨ j = 6 ∨ j = 7 ∨ j = 8 ∨ j = 9 ∨ j = 10 by omega) with rfl | rfl | rfl | rfl | rfl | rfl | rfl | rfl | rfl | rfl | rfl <;> exact hs _ (by decide +kernel)) hA
  have hkTabY : KT "SORT_OF_Y" 11 kTabY (lawA s) s := KT.of (by decide) (hts (.laysStatic "StepStore" "SORT_OF_Y" "[I") (List.mem_of_getElem? (i := 466) (by decide +kernel))) hini (hs _ (by decide +kernel)) (hs _ (by decide +kernel)) (fun j hj => by
    rcases (show j = 0 ∨ j = 1 ∨ j = 2 ∨ j = 3 ∨ j = 4 ∨ j = 5 ∨ j = 6 ∨ j = 7 ∨ j = 8 ∨ j = 9 ∨ j = 10 by omega) with rfl | rfl | rfl | rfl | rfl | rfl | rfl | rfl | rfl | rfl | rfl <;> exact hs _ (by decide +kernel)) hA
  have hkTabP : KT "PART_OF_KIND" 11 kTabP (lawA s) s := KT.of (by decide) (hts (.laysStatic "StepStore" "PART_OF_KIND" "[I") (List.mem_of_getElem? (i := 484) (by decide +kernel))) hini (hs _ (by decide +kernel)) (hs _ (by decide +kernel)) (fun j hj => by
    rcases (show j = 0 ∨ j = 1 ∨ j = 2 ∨ j = 3 ∨ j = 4 ∨ j = 5 ∨ j = 6 ∨ j = 7 ∨ j = 8 ∨ j = 9 ∨ j = 10 by omega) with rfl | rfl | rfl | rfl | rfl | rfl | rfl | rfl | rfl | rfl | rfl <;> exact hs _ (by decide +kernel)) hA
  have hkTabL : KT "LEAST_OF_SORT" 5 kTabL (lawA s) s := KT.of (by decide) (hts (.laysStatic "StepStore" "LEAST_OF_SORT" "[I") (List.mem_of_getElem? (i := 460) (by decide +kernel))) hini (hs _ (by decide +kernel)) (hs _ (by decide +kernel)) (fun j hj => by
    rcases (show j = 0 ∨ j = 1 ∨ j = 2 ∨ j = 3 ∨ j = 4 by omega) with rfl | rfl | rfl | rfl | rfl <;> exact hs _ (by decide +kernel)) hA
  have hkTabM : KT "MOST_OF_SORT" 5 kTabM (lawA s) s := KT.of (by decide) (hts (.laysStatic "StepStore" "MOST_OF_SORT" "[I") (List.mem_of_getElem? (i := 462) (by decide +kernel))) hini (hs _ (by decide +kernel)) (hs _ (by decide +kernel)) (fun j hj => by
    rcases (show j = 0 ∨ j = 1 ∨ j = 2 ∨ j = 3 ∨ j = 4 by omega) with rfl | rfl | rfl | rfl | rfl <;> exact hs _ (by decide +kernel)) hA
  exact ⟨hkTabD, hkTabX, hkTabY, hkTabP, hkTabL, hkTabM, va_Nw.of rfl (hts (.methodLinkNest RX5 33 yX7_slot RX7) (List.mem_of_getElem? (i := 471) (by decide +kernel))), va_Nw.of rfl (hts (.fieldLinkNest RX5 37 "StepStore" "SORT_OF_D" "[I" RX7) (List.mem_of_getElem? (i := 474) (by decide +kernel))), va_Nw.of rfl (hts (.fieldLinkNest RX5 40 "StepStore" "SORT_OF_Y" "[I" RX7) (List.mem_of_getElem? (i := 475) (by decide +kernel))), va_Nw.of rfl (hts (.fieldLinkNest RX5 50 "StepStore" "SORT_OF_X" "[I" RX7) (List.mem_of_getElem? (i := 479) (by decide +kernel))), va_Nw.of rfl (hts (.fieldLinkNest RX5 53 "StepStore" "PART_OF_KIND" "[I" RX7) (List.mem_of_getElem? (i := 483) (by decide +kernel)))⟩
set_option maxHeartbeats 8000000 in
set_option maxRecDepth 100000 in
/-- THE LAW, from its entry -/
theorem whole_start {p : Program} {e : Env} {s : State} {m : MethodId} {below : List Frame} {meth : Method} {c : Code} (l : Launch) {b L : Nat} {xs : Nat → Int32} (hL : L ≤ 6) (C0 : lw_At p s m meth c b L xs) : W p l e room_1 s m #[Value.ref b] below meth c s.heap [] 0 0 (lw_Z below #[Value.ref b] s) (entryFrame m ([Value.ref b] : List Value).toArray 4) := by
  obtain ⟨hx, hb, hr, hml, hown, hts, hXs, hbl, hlocks, hgv⟩ := id C0
  have E := law_E C0
  have hbA : ¬ lawA s b := Nat.not_le.mpr hbl
  obtain ⟨c0, iS0, hKn0⟩ := u_known (C := RX0) (T := TX0) (N := 10) (n := 10) hts inX0 (hts (.instantiable RX0 10) (List.mem_of_getElem? (i := 306) (by decide +kernel)))
  obtain ⟨c1, iS1, hKn1⟩ := u_known (C := RX1) (T := TX1) (N := 12) (n := 12) hts inX1 (hts (.instantiable RX1 12) (List.mem_of_getElem? (i := 259) (by decide +kernel)))
  obtain ⟨c2, iS2, hKn2⟩ := u_known (C := RX2) (T := TX2) (N := 5) (n := 5) hts inX2 (hts (.instantiable RX2 5) (List.mem_of_getElem? (i := 71) (by decide +kernel)))
  obtain ⟨c3, iS3, hKn3⟩ := u_known (C := RX3) (T := TX3) (N := 7) (n := 7) hts inX3 (hts (.instantiable RX3 7) (List.mem_of_getElem? (i := 140) (by decide +kernel)))
  obtain ⟨c4, iS4, hKn4⟩ := u_known (C := RX4) (T := TX4) (N := 9) (n := 9) hts inX4 (hts (.instantiable RX4 9) (List.mem_of_getElem? (i := 216) (by decide +kernel)))
  obtain ⟨c5, iS5, hKn5⟩ := u_known (C := RX5) (T := TX5) (N := 7) (n := 7) hts inX5 (hts (.instantiable RX5 7) (List.mem_of_getElem? (i := 101) (by decide +kernel)))
  obtain ⟨c6, iS6, hKn6⟩ := u_known (C := RX6) (T := TX6) (N := 10) (n := 10) hts inX6 (hts (.instantiable RX6 10) (List.mem_of_getElem? (i := 146) (by decide +kernel)))
  obtain ⟨c7, iS7, hKn7⟩ := u_known (C := RX7) (T := TX7) (N := 16) (n := 16) hts inX7 (hts (.instantiable RX7 16) (List.mem_of_getElem? (i := 63) (by decide +kernel)))
  obtain ⟨c8, iS8, hKn8⟩ := u_known (C := RX8) (T := TX8) (N := 44) (n := 44) hts inX8 (hts (.instantiable RX8 44) (List.mem_of_getElem? (i := 794) (by decide +kernel)))
  obtain ⟨dC, dI, hKc⟩ : ∃ (dC : Nat → ClassId) (dI : Nat → Nat → Nat), ∀ (k : Nat) (q : vw_C), vwCl[k]? = some q → u_Kn s q.1 q.2.1 q.2.2 (dC k) (dI k) := by
    refine ⟨fun k => if k = 0 then c0 else if k = 1 then c1 else if k = 2 then c2 else if k = 3 then c3 else if k = 4 then c4 else if k = 5 then c5 else if k = 6 then c6 else if k = 7 then c7 else c8, fun k => if k = 0 then iS0 else if k = 1 then iS1 else if k = 2 then iS2 else if k = 3 then iS3 else if k = 4 then iS4 else if k = 5 then iS5 else if k = 6 then iS6 else if k = 7 then iS7 else iS8, ?_⟩
    intro k q hq
    match k, hq with
    | 0, hq => cases hq; exact hKn0
    | 1, hq => cases hq; exact hKn1
    | 2, hq => cases hq; exact hKn2
    | 3, hq => cases hq; exact hKn3
    | 4, hq => cases hq; exact hKn4
    | 5, hq => cases hq; exact hKn5
    | 6, hq => cases hq; exact hKn6
    | 7, hq => cases hq; exact hKn7
    | 8, hq => cases hq; exact hKn8
    | k + 9, hq => simp [vwCl] at hq
  have hN18 : va_Nw (.methodLinkNest RX7 18 yX5_init RX7) s := va_Nw.of rfl (hts (.methodLinkNest RX7 18 yX5_init RX7) (List.mem_of_getElem? (i := 102) (by decide +kernel)))
  have hSt : KSt (lawA s) s := law_stat C0
  have h : KS (dC, dI) (lawA s) [] [] s s.heap [] := ⟨⟨hKc, fun k q h => by simp at h⟩, fun k q h => by simp at h, ⟨fun i j p q h => by simp at h, fun k q h => by simp at h⟩, va_S.rf, fun _ h => h⟩
  have hl := lv_entry ([.ref b]) (n := 4) (Nat.le_of_ble_eq_true rfl)
  rw [lg_entry_eq]
  generalize (lg_sl ([.ref b]) ++ List.replicate (4 - (lg_sl ([.ref b])).length) Slot.unset).toArray = ls at hl ⊢
  have hl : lv_has ls 4 [(0, .ref b)] := hl
  generalize hAe : lawA s = A at h hbA
  refine k_new (ci := 7) (fs := [.null, .null, .null, .null, .null, .null, .null, .null, .int 0, .int 0, .int 0, .null, .int 0, .null, .int 0, .null]) (k := 1) (n := 16) E h inlX7 tyX7_ok (List.mem_of_getElem? (i := 0) rfl) (List.mem_of_getElem? (i := 1) rfl) (List.mem_of_getElem? (i := 2) rfl) rfl (fun j hj => by rcases (show j = 0 ∨ j = 1 ∨ j = 2 ∨ j = 3 ∨ j = 4 ∨ j = 5 ∨ j = 6 ∨ j = 7 ∨ j = 8 ∨ j = 9 ∨ j = 10 ∨ j = 11 ∨ j = 12 ∨ j = 13 ∨ j = 14 ∨ j = 15 by omega) with rfl | rfl | rfl | rfl | rfl | rfl | rfl | rfl | rfl | rfl | rfl | rfl | rfl | rfl | rfl | rfl <;> rfl) (Nat.le_of_ble_eq_true rfl) (Nat.le_of_ble_eq_true rfl) dL_law_0 (Nat.le_of_ble_eq_true rfl) (Nat.le_of_ble_eq_true rfl) (fun q_1 H h => ?_)
  have h : KS (dC, dI) A [(q_1, .inr (7, [.null, .null, .null, .null, .null, .null, .null, .null, .int 0, .int 0, .int 0, .null, .int 0, .null, .int 0, .null]))] [] s H _ := h
  refine lv_dup hx hb dL_law_3 rfl ?_
  refine kc_vK (k := 50) (n := 3462) (wc := [(q_1, .inr (7, [.null, .null, .null, .null, .null, .null, .null, .null, .int 0, .int 0, .int 0, .null, .int 0, .null, .int 0, .null]))]) (wr := []) h (va_runI (As := []) (rest := [.ref q_1]) E (c_X7_init l dC dI _ (o7 := q_1)  ) (cwI 0 E.2.2.2.2 gL_law_X7_init rfl rfl rfl (E.2.2.2.2 _ (List.mem_of_getElem? (i := 2) rfl)) (E.2.2.2.2 _ (List.mem_of_getElem? (i := 7) rfl)) (E.2.2.2.2 _ (List.mem_of_getElem? (i := 8) rfl)) rfl (by decide +kernel) ⟨Nat.le_of_ble_eq_true rfl, Nat.le_of_ble_eq_true rfl⟩) (kPreS h (fun a U g mk h => va_Nw.same rfl rfl h) (fun U hU hW => va_Nw.warmM hW hN18) [0] [] (by decide) rfl rfl) rfl rfl hl.1 rfl (lv_room (Nat.le_of_ble_eq_true rfl)) dL_law_4 ⟨Nat.le_of_ble_eq_true rfl, Nat.le_of_ble_eq_true rfl⟩) [0] [] rfl rfl (by decide) (by decide) (Nat.le_of_ble_eq_true rfl) (Nat.le_of_ble_eq_true rfl) (fun u_2 H locs hw_2 h => ?_)
  obtain ⟨z_3, z_4, z_5, z_6, z_7, z_8, z_9, z_10, z_11, z_12, z_13, z_14, z_15, z_16, z_17, z_18, z_19, z_20, z_21, z_22, z_23, z_24, z_25⟩ := u_2
  have h : KS (dC, dI) A [(q_1, .inr (7, [.ref z_5, .ref z_8, .ref z_11, .ref z_17, .ref z_20, .ref z_23, .ref (z_3 0), .ref (z_3 1), .int 0, .int 0, .int 0, .ref (z_3 2), .int 0, .ref (z_3 3), .int (-1), .ref (z_3 4)])), ((z_3 0), .inl ((z_4 0), 3, .inl (upd (fun _ => 0) 2 (-1)))), ((z_3 1), .inl ((z_4 1), 16, .inl (fun _ => (-1)))), ((z_3 2), .inl ((z_4 2), 74, .inr (.inl (fun _ => 0)))), ((z_3 3), .inl ((z_4 3), 64, .inl (fun _ => 0))), ((z_3 4), .inl ((z_4 4), 8, .inl (fun _ => 0))), (z_5, .inr (2, [.ref (z_6 0), .ref (z_6 1), .ref (z_6 2), .ref (z_6 3), .int 0])), ((z_6 0), .inl ((z_7 0), 8, .inl (fun _ => 16))), ((z_6 1), .inl ((z_7 1), 74, .inr (.inl (fun _ => 0)))), ((z_6 2), .inl ((z_7 2), 30, .inl (fun _ => 0))), ((z_6 3), .inl ((z_7 3), 30, .inr (.inl (fun _ => 0)))), (z_8, .inr (5, [.ref (z_9 0), .ref (z_9 1), .ref (z_9 2), .ref (z_9 3), .ref (z_9 4), .ref (z_9 5), .ref (z_9 6)])), ((z_9 0), .inl ((z_10 0), 12, .inl (fun _ => 0))), ((z_9 1), .inl ((z_10 1), 120, .inl (fun _ => 0))), ((z_9 2), .inl ((z_10 2), 120, .inl (fun _ => 0))), ((z_9 3), .inl ((z_10 3), 120, .inl (fun _ => 0))), ((z_9 4), .inl ((z_10 4), 120, .inl (fun _ => 0))), ((z_9 5), .inl ((z_10 5), 120, .inl (fun _ => 0))), ((z_9 6), .inl ((z_10 6), 120, .inl (fun _ => 0))), (z_11, .inr (3, [.ref (z_12 0), .ref (z_12 1), .ref (z_12 2), .ref (z_12 3), .int 1, .ref z_8, .ref z_14])), ((z_12 0), .inl ((z_13 0), 12, .inl (fun _ => 0))), ((z_12 1), .inl ((z_13 1), 12, .inl (fun _ => 0))), ((z_12 2), .inl ((z_13 2), 120, .inl (fun _ => 0))), ((z_12 3), .inl ((z_13 3), 120, .inl (fun _ => 0))), (z_14, .inr (6, [.ref (z_15 0), .ref z_8, .ref (z_15 1), .ref (z_15 2), .ref (z_15 3), .ref (z_15 4), .ref (z_15 5), .ref (z_15 6), .int 0, .int 0])), ((z_15 0), .inl ((z_16 0), 10, .inl (fun _ => 0))), ((z_15 1), .inl ((z_16 1), 10, .inl (fun _ => 0))), ((z_15 2), .inl ((z_16 2), 10, .inl (fun _ => 0))), ((z_15 3), .inl ((z_16 3), 10, .inl (fun _ => 0))), ((z_15 4), .inl ((z_16 4), 5, .inl (fun _ => 0))), ((z_15 5), .inl ((z_16 5), 5, .inl (fun _ => 0))), ((z_15 6), .inl ((z_16 6), 1024, .inl (fun _ => 0))), (z_17, .inr (4, [.int 0, .int 0, .ref (z_18 0), .ref (z_18 1), .ref (z_18 2), .ref (z_18 3), .ref (z_18 4), .ref z_8, .ref z_11])), ((z_18 0), .inl ((z_19 0), 120, .inl (fun _ => 0))), ((z_18 1), .inl ((z_19 1), 120, .inl (fun _ => 0))), ((z_18 2), .inl ((z_19 2), 120, .inl (fun _ => 0))), ((z_18 3), .inl ((z_19 3), 120, .inl (fun _ => 0))), ((z_18 4), .inl ((z_19 4), 120, .inl (fun _ => 0))), (z_20, .inr (1, [.ref (z_21 0), .int 0, .int 0, .int 0, .ref (z_21 1), .ref (z_21 2), .ref (z_21 3), .ref (z_21 4), .ref (z_21 5), .ref (z_21 6), .ref z_8, .ref z_17])), ((z_21 0), .inl ((z_22 0), 7, .inl (fun _ => 0))), ((z_21 1), .inl ((z_22 1), 120, .inl (fun _ => 0))), ((z_21 2), .inl ((z_22 2), 120, .inl (fun _ => 0))), ((z_21 3), .inl ((z_22 3), 7, .inl (fun _ => 0))), ((z_21 4), .inl ((z_22 4), 7, .inl (fun _ => 0))), ((z_21 5), .inl ((z_22 5), 7, .inl (fun _ => 0))), ((z_21 6), .inl ((z_22 6), 7, .inl (fun _ => 0))), (z_23, .inr (0, [.int 0, .int 0, .int (-1), .ref z_5, .ref z_8, .ref z_11, .ref (z_24 0), .ref (z_24 1), .int 0, .ref (z_24 2)])), ((z_24 0), .inl ((z_25 0), 30, .inl (fun _ => 0))), ((z_24 1), .inl ((z_25 1), 30, .inr (.inl (fun _ => 0)))), ((z_24 2), .inl ((z_25 2), 74, .inr (.inl (fun _ => 0))))] [((z_4 0), .int), ((z_4 1), .int), ((z_4 2), .long), ((z_4 3), .short), ((z_4 4), .int), ((z_7 0), .int), ((z_7 1), .long), ((z_7 2), .int), ((z_7 3), .long), ((z_10 0), .int), ((z_10 1), .int), ((z_10 2), .int), ((z_10 3), .int), ((z_10 4), .int), ((z_10 5), .int), ((z_10 6), .int), ((z_13 0), .boolean), ((z_13 1), .int), ((z_13 2), .int), ((z_13 3), .int), ((z_16 0), .int), ((z_16 1), .int), ((z_16 2), .int), ((z_16 3), .int), ((z_16 4), .int), ((z_16 5), .int), ((z_16 6), .byte), ((z_19 0), .int), ((z_19 1), .int), ((z_19 2), .int), ((z_19 3), .int), ((z_19 4), .int), ((z_22 0), .int), ((z_22 1), .int), ((z_22 2), .int), ((z_22 3), .int), ((z_22 4), .int), ((z_22 5), .int), ((z_22 6), .int), ((z_25 0), .int), ((z_25 1), .long), ((z_25 2), .long)] s H locs := h
  refine W.eq (g2 := F0 m 7 ls [.ref q_1]) rfl ?_
  refine lv_astore_n (lv' := [(1, .ref q_1), (0, .ref b)]) hx hb dL_law_7 rfl hl (by decide) rfl (fun ls hl => ?_)
  refine k_new (ci := 8) (fs := [.null, .null, .null, .null, .null, .null, .int 0, .null, .null, .null, .null, .null, .int 0, .null, .null, .null, .null, .null, .null, .null, .null, .null, .null, .null, .null, .int 0, .int 0, .null, .null, .null, .null, .null, .int 0, .int 0, .int 0, .int 0, .null, .null, .int 0, .int 0, .int 0, .null, .null, .int 0]) (k := 51) (n := 3506) E h inlX8 tyX8_ok (List.mem_of_getElem? (i := 3) rfl) (List.mem_of_getElem? (i := 4) rfl) (List.mem_of_getElem? (i := 5) rfl) rfl (fun j hj => by rcases (show j = 0 ∨ j = 1 ∨ j = 2 ∨ j = 3 ∨ j = 4 ∨ j = 5 ∨ j = 6 ∨ j = 7 ∨ j = 8 ∨ j = 9 ∨ j = 10 ∨ j = 11 ∨ j = 12 ∨ j = 13 ∨ j = 14 ∨ j = 15 ∨ j = 16 ∨ j = 17 ∨ j = 18 ∨ j = 19 ∨ j = 20 ∨ j = 21 ∨ j = 22 ∨ j = 23 ∨ j = 24 ∨ j = 25 ∨ j = 26 ∨ j = 27 ∨ j = 28 ∨ j = 29 ∨ j = 30 ∨ j = 31 ∨ j = 32 ∨ j = 33 ∨ j = 34 ∨ j = 35 ∨ j = 36 ∨ j = 37 ∨ j = 38 ∨ j = 39 ∨ j = 40 ∨ j = 41 ∨ j = 42 ∨ j = 43 by omega) with rfl | rfl | rfl | rfl | rfl | rfl | rfl | rfl | rfl | rfl | rfl | rfl | rfl | rfl | rfl | rfl | rfl | rfl | rfl | rfl | rfl | rfl | rfl | rfl | rfl | rfl | rfl | rfl | rfl | rfl | rfl | rfl | rfl | rfl | rfl | rfl | rfl | rfl | rfl | rfl | rfl | rfl | rfl | rfl <;> rfl) (Nat.le_of_ble_eq_true rfl) (Nat.le_of_ble_eq_true rfl) dL_law_8 (Nat.le_of_ble_eq_true rfl) (Nat.le_of_ble_eq_true rfl) (fun q_26 H h => ?_)
  have h : KS (dC, dI) A [(q_1, .inr (7, [.ref z_5, .ref z_8, .ref z_11, .ref z_17, .ref z_20, .ref z_23, .ref (z_3 0), .ref (z_3 1), .int 0, .int 0, .int 0, .ref (z_3 2), .int 0, .ref (z_3 3), .int (-1), .ref (z_3 4)])), ((z_3 0), .inl ((z_4 0), 3, .inl (upd (fun _ => 0) 2 (-1)))), ((z_3 1), .inl ((z_4 1), 16, .inl (fun _ => (-1)))), ((z_3 2), .inl ((z_4 2), 74, .inr (.inl (fun _ => 0)))), ((z_3 3), .inl ((z_4 3), 64, .inl (fun _ => 0))), ((z_3 4), .inl ((z_4 4), 8, .inl (fun _ => 0))), (z_5, .inr (2, [.ref (z_6 0), .ref (z_6 1), .ref (z_6 2), .ref (z_6 3), .int 0])), ((z_6 0), .inl ((z_7 0), 8, .inl (fun _ => 16))), ((z_6 1), .inl ((z_7 1), 74, .inr (.inl (fun _ => 0)))), ((z_6 2), .inl ((z_7 2), 30, .inl (fun _ => 0))), ((z_6 3), .inl ((z_7 3), 30, .inr (.inl (fun _ => 0)))), (z_8, .inr (5, [.ref (z_9 0), .ref (z_9 1), .ref (z_9 2), .ref (z_9 3), .ref (z_9 4), .ref (z_9 5), .ref (z_9 6)])), ((z_9 0), .inl ((z_10 0), 12, .inl (fun _ => 0))), ((z_9 1), .inl ((z_10 1), 120, .inl (fun _ => 0))), ((z_9 2), .inl ((z_10 2), 120, .inl (fun _ => 0))), ((z_9 3), .inl ((z_10 3), 120, .inl (fun _ => 0))), ((z_9 4), .inl ((z_10 4), 120, .inl (fun _ => 0))), ((z_9 5), .inl ((z_10 5), 120, .inl (fun _ => 0))), ((z_9 6), .inl ((z_10 6), 120, .inl (fun _ => 0))), (z_11, .inr (3, [.ref (z_12 0), .ref (z_12 1), .ref (z_12 2), .ref (z_12 3), .int 1, .ref z_8, .ref z_14])), ((z_12 0), .inl ((z_13 0), 12, .inl (fun _ => 0))), ((z_12 1), .inl ((z_13 1), 12, .inl (fun _ => 0))), ((z_12 2), .inl ((z_13 2), 120, .inl (fun _ => 0))), ((z_12 3), .inl ((z_13 3), 120, .inl (fun _ => 0))), (z_14, .inr (6, [.ref (z_15 0), .ref z_8, .ref (z_15 1), .ref (z_15 2), .ref (z_15 3), .ref (z_15 4), .ref (z_15 5), .ref (z_15 6), .int 0, .int 0])), ((z_15 0), .inl ((z_16 0), 10, .inl (fun _ => 0))), ((z_15 1), .inl ((z_16 1), 10, .inl (fun _ => 0))), ((z_15 2), .inl ((z_16 2), 10, .inl (fun _ => 0))), ((z_15 3), .inl ((z_16 3), 10, .inl (fun _ => 0))), ((z_15 4), .inl ((z_16 4), 5, .inl (fun _ => 0))), ((z_15 5), .inl ((z_16 5), 5, .inl (fun _ => 0))), ((z_15 6), .inl ((z_16 6), 1024, .inl (fun _ => 0))), (z_17, .inr (4, [.int 0, .int 0, .ref (z_18 0), .ref (z_18 1), .ref (z_18 2), .ref (z_18 3), .ref (z_18 4), .ref z_8, .ref z_11])), ((z_18 0), .inl ((z_19 0), 120, .inl (fun _ => 0))), ((z_18 1), .inl ((z_19 1), 120, .inl (fun _ => 0))), ((z_18 2), .inl ((z_19 2), 120, .inl (fun _ => 0))), ((z_18 3), .inl ((z_19 3), 120, .inl (fun _ => 0))), ((z_18 4), .inl ((z_19 4), 120, .inl (fun _ => 0))), (z_20, .inr (1, [.ref (z_21 0), .int 0, .int 0, .int 0, .ref (z_21 1), .ref (z_21 2), .ref (z_21 3), .ref (z_21 4), .ref (z_21 5), .ref (z_21 6), .ref z_8, .ref z_17])), ((z_21 0), .inl ((z_22 0), 7, .inl (fun _ => 0))), ((z_21 1), .inl ((z_22 1), 120, .inl (fun _ => 0))), ((z_21 2), .inl ((z_22 2), 120, .inl (fun _ => 0))), ((z_21 3), .inl ((z_22 3), 7, .inl (fun _ => 0))), ((z_21 4), .inl ((z_22 4), 7, .inl (fun _ => 0))), ((z_21 5), .inl ((z_22 5), 7, .inl (fun _ => 0))), ((z_21 6), .inl ((z_22 6), 7, .inl (fun _ => 0))), (z_23, .inr (0, [.int 0, .int 0, .int (-1), .ref z_5, .ref z_8, .ref z_11, .ref (z_24 0), .ref (z_24 1), .int 0, .ref (z_24 2)])), ((z_24 0), .inl ((z_25 0), 30, .inl (fun _ => 0))), ((z_24 1), .inl ((z_25 1), 30, .inr (.inl (fun _ => 0)))), ((z_24 2), .inl ((z_25 2), 74, .inr (.inl (fun _ => 0)))), (q_26, .inr (8, [.null, .null, .null, .null, .null, .null, .int 0, .null, .null, .null, .null, .null, .int 0, .null, .null, .null, .null, .null, .null, .null, .null, .null, .null, .null, .null, .int 0, .int 0, .null, .null, .null, .null, .null, .int 0, .int 0, .int 0, .int 0, .null, .null, .int 0, .int 0, .int 0, .null, .null, .int 0]))] [((z_4 0), .int), ((z_4 1), .int), ((z_4 2), .long), ((z_4 3), .short), ((z_4 4), .int), ((z_7 0), .int), ((z_7 1), .long), ((z_7 2), .int), ((z_7 3), .long), ((z_10 0), .int), ((z_10 1), .int), ((z_10 2), .int), ((z_10 3), .int), ((z_10 4), .int), ((z_10 5), .int), ((z_10 6), .int), ((z_13 0), .boolean), ((z_13 1), .int), ((z_13 2), .int), ((z_13 3), .int), ((z_16 0), .int), ((z_16 1), .int), ((z_16 2), .int), ((z_16 3), .int), ((z_16 4), .int), ((z_16 5), .int), ((z_16 6), .byte), ((z_19 0), .int), ((z_19 1), .int), ((z_19 2), .int), ((z_19 3), .int), ((z_19 4), .int), ((z_22 0), .int), ((z_22 1), .int), ((z_22 2), .int), ((z_22 3), .int), ((z_22 4), .int), ((z_22 5), .int), ((z_22 6), .int), ((z_25 0), .int), ((z_25 1), .long), ((z_25 2), .long)] s H _ := h
  refine lv_dup hx hb dL_law_11 rfl ?_
  refine kc_vK (k := 83) (n := 7258) (wc := [(q_26, .inr (8, [.null, .null, .null, .null, .null, .null, .int 0, .null, .null, .null, .null, .null, .int 0, .null, .null, .null, .null, .null, .null, .null, .null, .null, .null, .null, .null, .int 0, .int 0, .null, .null, .null, .null, .null, .int 0, .int 0, .int 0, .int 0, .null, .null, .int 0, .int 0, .int 0, .null, .null, .int 0]))]) (wr := [(q_1, .inr (7, [.ref z_5, .ref z_8, .ref z_11, .ref z_17, .ref z_20, .ref z_23, .ref (z_3 0), .ref (z_3 1), .int 0, .int 0, .int 0, .ref (z_3 2), .int 0, .ref (z_3 3), .int (-1), .ref (z_3 4)])), ((z_3 0), .inl ((z_4 0), 3, .inl (upd (fun _ => 0) 2 (-1)))), ((z_3 1), .inl ((z_4 1), 16, .inl (fun _ => (-1)))), ((z_3 2), .inl ((z_4 2), 74, .inr (.inl (fun _ => 0)))), ((z_3 3), .inl ((z_4 3), 64, .inl (fun _ => 0))), ((z_3 4), .inl ((z_4 4), 8, .inl (fun _ => 0))), (z_5, .inr (2, [.ref (z_6 0), .ref (z_6 1), .ref (z_6 2), .ref (z_6 3), .int 0])), ((z_6 0), .inl ((z_7 0), 8, .inl (fun _ => 16))), ((z_6 1), .inl ((z_7 1), 74, .inr (.inl (fun _ => 0)))), ((z_6 2), .inl ((z_7 2), 30, .inl (fun _ => 0))), ((z_6 3), .inl ((z_7 3), 30, .inr (.inl (fun _ => 0)))), (z_8, .inr (5, [.ref (z_9 0), .ref (z_9 1), .ref (z_9 2), .ref (z_9 3), .ref (z_9 4), .ref (z_9 5), .ref (z_9 6)])), ((z_9 0), .inl ((z_10 0), 12, .inl (fun _ => 0))), ((z_9 1), .inl ((z_10 1), 120, .inl (fun _ => 0))), ((z_9 2), .inl ((z_10 2), 120, .inl (fun _ => 0))), ((z_9 3), .inl ((z_10 3), 120, .inl (fun _ => 0))), ((z_9 4), .inl ((z_10 4), 120, .inl (fun _ => 0))), ((z_9 5), .inl ((z_10 5), 120, .inl (fun _ => 0))), ((z_9 6), .inl ((z_10 6), 120, .inl (fun _ => 0))), (z_11, .inr (3, [.ref (z_12 0), .ref (z_12 1), .ref (z_12 2), .ref (z_12 3), .int 1, .ref z_8, .ref z_14])), ((z_12 0), .inl ((z_13 0), 12, .inl (fun _ => 0))), ((z_12 1), .inl ((z_13 1), 12, .inl (fun _ => 0))), ((z_12 2), .inl ((z_13 2), 120, .inl (fun _ => 0))), ((z_12 3), .inl ((z_13 3), 120, .inl (fun _ => 0))), (z_14, .inr (6, [.ref (z_15 0), .ref z_8, .ref (z_15 1), .ref (z_15 2), .ref (z_15 3), .ref (z_15 4), .ref (z_15 5), .ref (z_15 6), .int 0, .int 0])), ((z_15 0), .inl ((z_16 0), 10, .inl (fun _ => 0))), ((z_15 1), .inl ((z_16 1), 10, .inl (fun _ => 0))), ((z_15 2), .inl ((z_16 2), 10, .inl (fun _ => 0))), ((z_15 3), .inl ((z_16 3), 10, .inl (fun _ => 0))), ((z_15 4), .inl ((z_16 4), 5, .inl (fun _ => 0))), ((z_15 5), .inl ((z_16 5), 5, .inl (fun _ => 0))), ((z_15 6), .inl ((z_16 6), 1024, .inl (fun _ => 0))), (z_17, .inr (4, [.int 0, .int 0, .ref (z_18 0), .ref (z_18 1), .ref (z_18 2), .ref (z_18 3), .ref (z_18 4), .ref z_8, .ref z_11])), ((z_18 0), .inl ((z_19 0), 120, .inl (fun _ => 0))), ((z_18 1), .inl ((z_19 1), 120, .inl (fun _ => 0))), ((z_18 2), .inl ((z_19 2), 120, .inl (fun _ => 0))), ((z_18 3), .inl ((z_19 3), 120, .inl (fun _ => 0))), ((z_18 4), .inl ((z_19 4), 120, .inl (fun _ => 0))), (z_20, .inr (1, [.ref (z_21 0), .int 0, .int 0, .int 0, .ref (z_21 1), .ref (z_21 2), .ref (z_21 3), .ref (z_21 4), .ref (z_21 5), .ref (z_21 6), .ref z_8, .ref z_17])), ((z_21 0), .inl ((z_22 0), 7, .inl (fun _ => 0))), ((z_21 1), .inl ((z_22 1), 120, .inl (fun _ => 0))), ((z_21 2), .inl ((z_22 2), 120, .inl (fun _ => 0))), ((z_21 3), .inl ((z_22 3), 7, .inl (fun _ => 0))), ((z_21 4), .inl ((z_22 4), 7, .inl (fun _ => 0))), ((z_21 5), .inl ((z_22 5), 7, .inl (fun _ => 0))), ((z_21 6), .inl ((z_22 6), 7, .inl (fun _ => 0))), (z_23, .inr (0, [.int 0, .int 0, .int (-1), .ref z_5, .ref z_8, .ref z_11, .ref (z_24 0), .ref (z_24 1), .int 0, .ref (z_24 2)])), ((z_24 0), .inl ((z_25 0), 30, .inl (fun _ => 0))), ((z_24 1), .inl ((z_25 1), 30, .inr (.inl (fun _ => 0)))), ((z_24 2), .inl ((z_25 2), 74, .inr (.inl (fun _ => 0))))]) h (va_runI (As := []) (rest := [.ref q_26]) E (c_X8_init l dC dI _ (o8 := q_26)  ) (cwI 0 E.2.2.2.2 gL_law_X8_init rfl rfl rfl (E.2.2.2.2 _ (List.mem_of_getElem? (i := 5) rfl)) (E.2.2.2.2 _ (List.mem_of_getElem? (i := 132) rfl)) (E.2.2.2.2 _ (List.mem_of_getElem? (i := 133) rfl)) rfl (by decide +kernel) ⟨Nat.le_of_ble_eq_true rfl, Nat.le_of_ble_eq_true rfl⟩) (kPreS h KX_true (fun _ _ _ => trivial) [50] [] (by decide) rfl rfl) rfl rfl hl.1 rfl (lv_room (Nat.le_of_ble_eq_true rfl)) dL_law_12 ⟨Nat.le_of_ble_eq_true rfl, Nat.le_of_ble_eq_true rfl⟩) [50] [0, 1, 2, 3, 4, 5, 6, 7, 8, 9, 10, 11, 12, 13, 14, 15, 16, 17, 18, 19, 20, 21, 22, 23, 24, 25, 26, 27, 28, 29, 30, 31, 32, 33, 34, 35, 36, 37, 38, 39, 40, 41, 42, 43, 44, 45, 46, 47, 48, 49] rfl rfl (by decide) (by decide) (Nat.le_of_ble_eq_true rfl) (Nat.le_of_ble_eq_true rfl) (fun u_27 H locs hw_27 h => ?_)
  obtain ⟨z_28, z_29⟩ := u_27
  have h : KS (dC, dI) A [(q_1, .inr (7, [.ref z_5, .ref z_8, .ref z_11, .ref z_17, .ref z_20, .ref z_23, .ref (z_3 0), .ref (z_3 1), .int 0, .int 0, .int 0, .ref (z_3 2), .int 0, .ref (z_3 3), .int (-1), .ref (z_3 4)])), ((z_3 0), .inl ((z_4 0), 3, .inl (upd (fun _ => 0) 2 (-1)))), ((z_3 1), .inl ((z_4 1), 16, .inl (fun _ => (-1)))), ((z_3 2), .inl ((z_4 2), 74, .inr (.inl (fun _ => 0)))), ((z_3 3), .inl ((z_4 3), 64, .inl (fun _ => 0))), ((z_3 4), .inl ((z_4 4), 8, .inl (fun _ => 0))), (z_5, .inr (2, [.ref (z_6 0), .ref (z_6 1), .ref (z_6 2), .ref (z_6 3), .int 0])), ((z_6 0), .inl ((z_7 0), 8, .inl (fun _ => 16))), ((z_6 1), .inl ((z_7 1), 74, .inr (.inl (fun _ => 0)))), ((z_6 2), .inl ((z_7 2), 30, .inl (fun _ => 0))), ((z_6 3), .inl ((z_7 3), 30, .inr (.inl (fun _ => 0)))), (z_8, .inr (5, [.ref (z_9 0), .ref (z_9 1), .ref (z_9 2), .ref (z_9 3), .ref (z_9 4), .ref (z_9 5), .ref (z_9 6)])), ((z_9 0), .inl ((z_10 0), 12, .inl (fun _ => 0))), ((z_9 1), .inl ((z_10 1), 120, .inl (fun _ => 0))), ((z_9 2), .inl ((z_10 2), 120, .inl (fun _ => 0))), ((z_9 3), .inl ((z_10 3), 120, .inl (fun _ => 0))), ((z_9 4), .inl ((z_10 4), 120, .inl (fun _ => 0))), ((z_9 5), .inl ((z_10 5), 120, .inl (fun _ => 0))), ((z_9 6), .inl ((z_10 6), 120, .inl (fun _ => 0))), (z_11, .inr (3, [.ref (z_12 0), .ref (z_12 1), .ref (z_12 2), .ref (z_12 3), .int 1, .ref z_8, .ref z_14])), ((z_12 0), .inl ((z_13 0), 12, .inl (fun _ => 0))), ((z_12 1), .inl ((z_13 1), 12, .inl (fun _ => 0))), ((z_12 2), .inl ((z_13 2), 120, .inl (fun _ => 0))), ((z_12 3), .inl ((z_13 3), 120, .inl (fun _ => 0))), (z_14, .inr (6, [.ref (z_15 0), .ref z_8, .ref (z_15 1), .ref (z_15 2), .ref (z_15 3), .ref (z_15 4), .ref (z_15 5), .ref (z_15 6), .int 0, .int 0])), ((z_15 0), .inl ((z_16 0), 10, .inl (fun _ => 0))), ((z_15 1), .inl ((z_16 1), 10, .inl (fun _ => 0))), ((z_15 2), .inl ((z_16 2), 10, .inl (fun _ => 0))), ((z_15 3), .inl ((z_16 3), 10, .inl (fun _ => 0))), ((z_15 4), .inl ((z_16 4), 5, .inl (fun _ => 0))), ((z_15 5), .inl ((z_16 5), 5, .inl (fun _ => 0))), ((z_15 6), .inl ((z_16 6), 1024, .inl (fun _ => 0))), (z_17, .inr (4, [.int 0, .int 0, .ref (z_18 0), .ref (z_18 1), .ref (z_18 2), .ref (z_18 3), .ref (z_18 4), .ref z_8, .ref z_11])), ((z_18 0), .inl ((z_19 0), 120, .inl (fun _ => 0))), ((z_18 1), .inl ((z_19 1), 120, .inl (fun _ => 0))), ((z_18 2), .inl ((z_19 2), 120, .inl (fun _ => 0))), ((z_18 3), .inl ((z_19 3), 120, .inl (fun _ => 0))), ((z_18 4), .inl ((z_19 4), 120, .inl (fun _ => 0))), (z_20, .inr (1, [.ref (z_21 0), .int 0, .int 0, .int 0, .ref (z_21 1), .ref (z_21 2), .ref (z_21 3), .ref (z_21 4), .ref (z_21 5), .ref (z_21 6), .ref z_8, .ref z_17])), ((z_21 0), .inl ((z_22 0), 7, .inl (fun _ => 0))), ((z_21 1), .inl ((z_22 1), 120, .inl (fun _ => 0))), ((z_21 2), .inl ((z_22 2), 120, .inl (fun _ => 0))), ((z_21 3), .inl ((z_22 3), 7, .inl (fun _ => 0))), ((z_21 4), .inl ((z_22 4), 7, .inl (fun _ => 0))), ((z_21 5), .inl ((z_22 5), 7, .inl (fun _ => 0))), ((z_21 6), .inl ((z_22 6), 7, .inl (fun _ => 0))), (z_23, .inr (0, [.int 0, .int 0, .int (-1), .ref z_5, .ref z_8, .ref z_11, .ref (z_24 0), .ref (z_24 1), .int 0, .ref (z_24 2)])), ((z_24 0), .inl ((z_25 0), 30, .inl (fun _ => 0))), ((z_24 1), .inl ((z_25 1), 30, .inr (.inl (fun _ => 0)))), ((z_24 2), .inl ((z_25 2), 74, .inr (.inl (fun _ => 0)))), (q_26, .inr (8, [.ref (z_28 0), .ref (z_28 1), .ref (z_28 2), .ref (z_28 3), .ref (z_28 4), .ref (z_28 5), .int 0, .ref (z_28 6), .ref (z_28 7), .ref (z_28 8), .ref (z_28 9), .ref (z_28 10), .int 1, .ref (z_28 11), .ref (z_28 12), .ref (z_28 13), .ref (z_28 14), .ref (z_28 15), .ref (z_28 16), .ref (z_28 17), .ref (z_28 18), .ref (z_28 19), .ref (z_28 20), .ref (z_28 21), .ref (z_28 22), .int 0, .int 0, .ref (z_28 23), .ref (z_28 24), .ref (z_28 25), .ref (z_28 26), .ref (z_28 27), .int 0, .int 0, .int 0, .int (-1), .ref (z_28 28), .ref (z_28 29), .int 0, .int 0, .int 0, .ref (z_28 30), .ref (z_28 31), .int (-1)])), ((z_28 0), .inl ((z_29 0), 74, .inr (.inl (fun _ => 0)))), ((z_28 1), .inl ((z_29 1), 74, .inr (.inl (fun _ => 0)))), ((z_28 2), .inl ((z_29 2), 74, .inr (.inl (fun _ => 0)))), ((z_28 3), .inl ((z_29 3), 74, .inr (.inl (fun _ => 0)))), ((z_28 4), .inl ((z_29 4), 74, .inr (.inl (fun _ => 0)))), ((z_28 5), .inl ((z_29 5), 8, .inl (fun _ => 16))), ((z_28 6), .inl ((z_29 6), 120, .inl (fun _ => 0))), ((z_28 7), .inl ((z_29 7), 120, .inl (fun _ => 0))), ((z_28 8), .inl ((z_29 8), 120, .inl (fun _ => 0))), ((z_28 9), .inl ((z_29 9), 120, .inl (fun _ => 0))), ((z_28 10), .inl ((z_29 10), 12, .inl (fun _ => 0))), ((z_28 11), .inl ((z_29 11), 8, .inl (fun _ => 0))), ((z_28 12), .inl ((z_29 12), 1024, .inl (fun _ => 0))), ((z_28 13), .inl ((z_29 13), 120, .inl (fun _ => 0))), ((z_28 14), .inl ((z_29 14), 12, .inl (fun _ => 0))), ((z_28 15), .inl ((z_29 15), 10, .inl (fun _ => 0))), ((z_28 16), .inl ((z_29 16), 10, .inl (fun _ => 0))), ((z_28 17), .inl ((z_29 17), 12, .inl (fun _ => 0))), ((z_28 18), .inl ((z_29 18), 120, .inl (fun _ => 0))), ((z_28 19), .inl ((z_29 19), 120, .inl (fun _ => 0))), ((z_28 20), .inl ((z_29 20), 120, .inl (fun _ => 0))), ((z_28 21), .inl ((z_29 21), 120, .inl (fun _ => 0))), ((z_28 22), .inl ((z_29 22), 120, .inl (fun _ => 0))), ((z_28 23), .inl ((z_29 23), 840, .inl (fun _ => 0))), ((z_28 24), .inl ((z_29 24), 7, .inl (fun _ => 0))), ((z_28 25), .inl ((z_29 25), 7, .inl (fun _ => 0))), ((z_28 26), .inl ((z_29 26), 7, .inl (fun _ => 0))), ((z_28 27), .inl ((z_29 27), 7, .inl (fun _ => 0))), ((z_28 28), .inl ((z_29 28), 74, .inr (.inl (fun _ => 0)))), ((z_28 29), .inl ((z_29 29), 16, .inl (fun _ => (-1)))), ((z_28 30), .inl ((z_29 30), 64, .inl (fun _ => 0))), ((z_28 31), .inl ((z_29 31), 64, .inl (fun _ => 0)))] [((z_4 0), .int), ((z_4 1), .int), ((z_4 2), .long), ((z_4 3), .short), ((z_4 4), .int), ((z_7 0), .int), ((z_7 1), .long), ((z_7 2), .int), ((z_7 3), .long), ((z_10 0), .int), ((z_10 1), .int), ((z_10 2), .int), ((z_10 3), .int), ((z_10 4), .int), ((z_10 5), .int), ((z_10 6), .int), ((z_13 0), .boolean), ((z_13 1), .int), ((z_13 2), .int), ((z_13 3), .int), ((z_16 0), .int), ((z_16 1), .int), ((z_16 2), .int), ((z_16 3), .int), ((z_16 4), .int), ((z_16 5), .int), ((z_16 6), .byte), ((z_19 0), .int), ((z_19 1), .int), ((z_19 2), .int), ((z_19 3), .int), ((z_19 4), .int), ((z_22 0), .int), ((z_22 1), .int), ((z_22 2), .int), ((z_22 3), .int), ((z_22 4), .int), ((z_22 5), .int), ((z_22 6), .int), ((z_25 0), .int), ((z_25 1), .long), ((z_25 2), .long), ((z_29 0), .long), ((z_29 1), .long), ((z_29 2), .long), ((z_29 3), .long), ((z_29 4), .long), ((z_29 5), .int), ((z_29 6), .int), ((z_29 7), .int), ((z_29 8), .int), ((z_29 9), .int), ((z_29 10), .int), ((z_29 11), .int), ((z_29 12), .int), ((z_29 13), .int), ((z_29 14), .int), ((z_29 15), .int), ((z_29 16), .int), ((z_29 17), .boolean), ((z_29 18), .int), ((z_29 19), .int), ((z_29 20), .int), ((z_29 21), .int), ((z_29 22), .int), ((z_29 23), .int), ((z_29 24), .int), ((z_29 25), .int), ((z_29 26), .int), ((z_29 27), .int), ((z_29 28), .long), ((z_29 29), .int), ((z_29 30), .int), ((z_29 31), .int)] s H locs := h
  refine W.eq (g2 := F0 m 15 ls [.ref q_26]) rfl ?_
  refine lv_astore_n (lv' := [(2, .ref q_26), (1, .ref q_1), (0, .ref b)]) hx hb dL_law_15 rfl hl (by decide) rfl (fun ls hl => ?_)
  refine lv_iconst (v := 0) hx hb dL_law_16 (by decide) ?_
  refine lv_istore_n (lv' := [(3, .int 0), (2, .ref q_26), (1, .ref q_1), (0, .ref b)]) hx hb dL_law_17 rfl hl (by decide) rfl (fun ls hl => ?_)
  have hl : lv_has ls 4 [(0, .ref b), (1, .ref q_1), (2, .ref q_26), (3, .int 0)] := lv_sub hl [3, 2, 1, 0] rfl
  refine lv_iload_n hx hb dL_law_18 rfl (lv_at hl 3 rfl) ?_
  refine lv_aload_n hx hb dL_law_19 rfl (lv_at hl 0 rfl) ?_
  refine va_slen hx hb hXs hbl hbA h.2.2.2.1 dL_law_20 ?_
  refine lv_bipush (v := 6) hx hb dL_law_21 (by decide) ?_
  refine lv_isub hx hb dL_law_23 ?_
  by_cases hL6 : L = 6
  · subst hL6
    refine k_topi (y := 0) (by decide) ?_
    refine lv_icmp_gt (tgt := 1199) hx hb dL_law_24 (by decide) (fun c_1 => absurd c_1 (by decide)) (fun _ => ?_)
    refine lv_aload_n hx hb dL_law_27 rfl (lv_at hl 0 rfl) ?_
    refine lv_iload_n hx hb dL_law_28 rfl (lv_at hl 3 rfl) ?_
    refine va_sld hx hb hXs hbl hbA h.2.2.2.1 (vin_dec rfl) dL_law_29 ?_
    refine k_topi (y := xs 0) rfl ?_
    refine lv_bipush (v := 63) hx hb dL_law_30 (by decide) ?_
    refine lv_iand hx hb dL_law_32 ?_
    refine k_topi (y := xs 0 &&& 63) rfl ?_
    rw [← hAe] at h
    by_cases s_0 : xs 0 &&& 63 = 0
    · refine k_topi (y := 0) s_0 ?_
      refine lv_tableIn (off := 147) (tgt := 180) hx hb dL_law_33 (by decide) (by decide) rfl (by decide) ?_
      exact law_0 l C0 (k_permT h [0, 5, 6, 7, 8, 50, 62, 51, 56] [4, 5, 6, 53, 42, 47] (by decide) rfl rfl rfl) hl
    have i_0 : ¬ (xs 0 &&& 63).toInt = 0 := fun h9 => s_0 ((fa_eq _ _).mpr h9)
    by_cases s_1 : xs 0 &&& 63 = 1
    · refine k_topi (y := 1) s_1 ?_
      refine lv_tableIn (off := 180) (tgt := 213) hx hb dL_law_33 (by decide) (by decide) rfl (by decide) ?_
      exact law_1 l C0 (k_permT h [0, 5, 6, 7, 8, 50, 62, 51, 56] [4, 5, 6, 53, 42, 47] (by decide) rfl rfl rfl) hl
    have i_1 : ¬ (xs 0 &&& 63).toInt = 1 := fun h9 => s_1 ((fa_eq _ _).mpr h9)
    by_cases s_2 : xs 0 &&& 63 = 2
    · refine k_topi (y := 2) s_2 ?_
      refine lv_tableIn (off := 243) (tgt := 276) hx hb dL_law_33 (by decide) (by decide) rfl (by decide) ?_
      exact law_2 l C0 (k_permT h [0, 5, 6, 7, 8, 50, 62, 51, 56] [4, 5, 6, 53, 42, 47] (by decide) rfl rfl rfl) hl
    have i_2 : ¬ (xs 0 &&& 63).toInt = 2 := fun h9 => s_2 ((fa_eq _ _).mpr h9)
    by_cases s_3 : xs 0 &&& 63 = 3
    · refine k_topi (y := 3) s_3 ?_
      refine lv_tableIn (off := 267) (tgt := 300) hx hb dL_law_33 (by decide) (by decide) rfl (by decide) ?_
      exact law_3 l C0 (k_permT h [0, 5, 6, 7, 8, 50, 62, 51, 56] [4, 5, 6, 53, 42, 47] (by decide) rfl rfl rfl) hl
    have i_3 : ¬ (xs 0 &&& 63).toInt = 3 := fun h9 => s_3 ((fa_eq _ _).mpr h9)
    by_cases s_4 : xs 0 &&& 63 = 4
    · refine k_topi (y := 4) s_4 ?_
      refine lv_tableIn (off := 330) (tgt := 363) hx hb dL_law_33 (by decide) (by decide) rfl (by decide) ?_
      exact law_4 l C0 (k_permT h [0, 5, 6, 7, 8, 50, 62, 51, 56] [4, 5, 6, 53, 42, 47] (by decide) rfl rfl rfl) hl
    have i_4 : ¬ (xs 0 &&& 63).toInt = 4 := fun h9 => s_4 ((fa_eq _ _).mpr h9)
    by_cases s_5 : xs 0 &&& 63 = 5
    · refine k_topi (y := 5) s_5 ?_
      refine lv_tableIn (off := 354) (tgt := 387) hx hb dL_law_33 (by decide) (by decide) rfl (by decide) ?_
      exact law_5 l C0 (k_permT h [0, 5, 6, 7, 8, 50, 62, 51, 56] [4, 5, 6, 53, 42, 47] (by decide) rfl rfl rfl) hl
    have i_5 : ¬ (xs 0 &&& 63).toInt = 5 := fun h9 => s_5 ((fa_eq _ _).mpr h9)
    by_cases s_6 : xs 0 &&& 63 = 6
    · refine k_topi (y := 6) s_6 ?_
      refine lv_tableIn (off := 403) (tgt := 436) hx hb dL_law_33 (by decide) (by decide) rfl (by decide) ?_
      exact law_6 l C0 (k_permT h [0, 6, 7, 8, 50, 51] [5, 6, 42] (by decide) rfl rfl rfl) hl
    have i_6 : ¬ (xs 0 &&& 63).toInt = 6 := fun h9 => s_6 ((fa_eq _ _).mpr h9)
    by_cases s_7 : xs 0 &&& 63 = 7
    · refine k_topi (y := 7) s_7 ?_
      refine lv_tableIn (off := 416) (tgt := 449) hx hb dL_law_33 (by decide) (by decide) rfl (by decide) ?_
      exact law_7 l C0 (hSt := hSt) (k_permT h [0, 5, 11, 12, 13, 14, 15, 16, 17, 18, 19, 20, 32, 50, 62, 61, 57, 58, 59, 60, 68] [4, 9, 10, 11, 12, 13, 14, 15, 16, 53, 52, 48, 49, 50, 51, 59] (by decide) rfl rfl rfl) hl
    have i_7 : ¬ (xs 0 &&& 63).toInt = 7 := fun h9 => s_7 ((fa_eq _ _).mpr h9)
    by_cases s_8 : xs 0 &&& 63 = 8
    · refine k_topi (y := 8) s_8 ?_
      refine lv_tableIn (off := 479) (tgt := 512) hx hb dL_law_33 (by decide) (by decide) rfl (by decide) ?_
      exact law_8 l C0 (k_permT h [0, 5, 11, 12, 50, 62, 61] [4, 9, 53, 52] (by decide) rfl rfl rfl) hl
    have i_8 : ¬ (xs 0 &&& 63).toInt = 8 := fun h9 => s_8 ((fa_eq _ _).mpr h9)
    by_cases s_9 : xs 0 &&& 63 = 9
    · refine k_topi (y := 9) s_9 ?_
      refine lv_tableIn (off := 502) (tgt := 535) hx hb dL_law_33 (by decide) (by decide) rfl (by decide) ?_
      exact law_9 l C0 (k_permT h [0, 5, 11, 12, 50, 62, 61] [4, 9, 53, 52] (by decide) rfl rfl rfl) hl
    have i_9 : ¬ (xs 0 &&& 63).toInt = 9 := fun h9 => s_9 ((fa_eq _ _).mpr h9)
    by_cases s_10 : xs 0 &&& 63 = 10
    · refine k_topi (y := 10) s_10 ?_
      refine lv_tableIn (off := 545) (tgt := 578) hx hb dL_law_33 (by decide) (by decide) rfl (by decide) ?_
      exact law_10 l C0 (k_permT h [0, 5, 19, 20, 32, 50, 62, 68] [4, 16, 53, 59] (by decide) rfl rfl rfl) hl
    have i_10 : ¬ (xs 0 &&& 63).toInt = 10 := fun h9 => s_10 ((fa_eq _ _).mpr h9)
    by_cases s_11 : xs 0 &&& 63 = 11
    · refine k_topi (y := 11) s_11 ?_
      refine lv_tableIn (off := 568) (tgt := 601) hx hb dL_law_33 (by decide) (by decide) rfl (by decide) ?_
      exact law_11 l C0 (k_permT h [0, 5, 11, 12, 50, 62, 61] [4, 9, 53, 52] (by decide) rfl rfl rfl) hl
    have i_11 : ¬ (xs 0 &&& 63).toInt = 11 := fun h9 => s_11 ((fa_eq _ _).mpr h9)
    by_cases s_12 : xs 0 &&& 63 = 12
    · refine k_topi (y := 12) s_12 ?_
      refine lv_tableIn (off := 611) (tgt := 644) hx hb dL_law_33 (by decide) (by decide) rfl (by decide) ?_
      exact law_12 l C0 (k_permT h [0, 5, 19, 20, 21, 24, 26, 27, 28, 29, 30, 31, 11, 12, 50, 62, 68, 61, 63, 65] [4, 16, 17, 21, 22, 23, 24, 25, 26, 9, 53, 59, 52, 54, 56] (by decide) rfl rfl rfl) hl
    have i_12 : ¬ (xs 0 &&& 63).toInt = 12 := fun h9 => s_12 ((fa_eq _ _).mpr h9)
    by_cases s_13 : xs 0 &&& 63 = 13
    · refine k_topi (y := 13) s_13 ?_
      refine lv_tableIn (off := 634) (tgt := 667) hx hb dL_law_33 (by decide) (by decide) rfl (by decide) ?_
      exact law_13 l C0 (k_permT h [0, 5, 11, 12, 50, 62, 61] [4, 9, 53, 52] (by decide) rfl rfl rfl) hl
    have i_13 : ¬ (xs 0 &&& 63).toInt = 13 := fun h9 => s_13 ((fa_eq _ _).mpr h9)
    by_cases s_14 : xs 0 &&& 63 = 14
    · refine k_topi (y := 14) s_14 ?_
      refine lv_tableIn (off := 667) (tgt := 700) hx hb dL_law_33 (by decide) (by decide) rfl (by decide) ?_
      exact law_14 l C0 (k_permT h [0, 5, 11, 12, 50, 62, 61] [4, 9, 53, 52] (by decide) rfl rfl rfl) hl
    have i_14 : ¬ (xs 0 &&& 63).toInt = 14 := fun h9 => s_14 ((fa_eq _ _).mpr h9)
    by_cases s_15 : xs 0 &&& 63 = 15
    · refine k_topi (y := 15) s_15 ?_
      refine lv_tableIn (off := 700) (tgt := 733) hx hb dL_law_33 (by decide) (by decide) rfl (by decide) ?_
      exact law_15 l C0 (k_permT h [0, 19, 20, 21, 24, 26, 27, 28, 29, 30, 31, 11, 12, 32, 38, 39, 42, 43, 44, 45, 50, 68, 61, 63, 65, 75, 76, 77] [16, 17, 21, 22, 23, 24, 25, 26, 9, 32, 35, 36, 37, 38, 59, 52, 54, 56, 66, 67, 68] (by decide) rfl rfl rfl) hl
    have i_15 : ¬ (xs 0 &&& 63).toInt = 15 := fun h9 => s_15 ((fa_eq _ _).mpr h9)
    by_cases s_16 : xs 0 &&& 63 = 16
    · refine k_topi (y := 16) s_16 ?_
      refine lv_tableIn (off := 713) (tgt := 746) hx hb dL_law_33 (by decide) (by decide) rfl (by decide) ?_
      exact law_16 l C0 (k_permT h [0, 5, 32, 50, 62] [4, 53] (by decide) rfl rfl rfl) hl
    have i_16 : ¬ (xs 0 &&& 63).toInt = 16 := fun h9 => s_16 ((fa_eq _ _).mpr h9)
    by_cases s_17 : xs 0 &&& 63 = 17
    · refine k_topi (y := 17) s_17 ?_
      refine lv_tableIn (off := 746) (tgt := 779) hx hb dL_law_33 (by decide) (by decide) rfl (by decide) ?_
      exact law_17 l C0 (k_permT h [0, 5, 32, 50, 62] [4, 53] (by decide) rfl rfl rfl) hl
    have i_17 : ¬ (xs 0 &&& 63).toInt = 17 := fun h9 => s_17 ((fa_eq _ _).mpr h9)
    by_cases s_18 : xs 0 &&& 63 = 18
    · refine k_topi (y := 18) s_18 ?_
      refine lv_tableIn (off := 779) (tgt := 812) hx hb dL_law_33 (by decide) (by decide) rfl (by decide) ?_
      exact law_18 l C0 (k_permT h [0, 5, 32, 50, 62] [4, 53] (by decide) rfl rfl rfl) hl
    have i_18 : ¬ (xs 0 &&& 63).toInt = 18 := fun h9 => s_18 ((fa_eq _ _).mpr h9)
    by_cases s_19 : xs 0 &&& 63 = 19
    · refine k_topi (y := 19) s_19 ?_
      refine lv_tableIn (off := 802) (tgt := 835) hx hb dL_law_33 (by decide) (by decide) rfl (by decide) ?_
      exact law_19 l C0 (k_permT h [0, 5, 32, 50, 62] [4, 53] (by decide) rfl rfl rfl) hl
    have i_19 : ¬ (xs 0 &&& 63).toInt = 19 := fun h9 => s_19 ((fa_eq _ _).mpr h9)
    by_cases s_20 : xs 0 &&& 63 = 20
    · refine k_topi (y := 20) s_20 ?_
      refine lv_tableIn (off := 825) (tgt := 858) hx hb dL_law_33 (by decide) (by decide) rfl (by decide) ?_
      exact law_20 l C0 (k_permT h [0, 5, 1, 19, 20, 21, 24, 26, 27, 28, 29, 30, 31, 11, 12, 46, 6, 50, 62, 68, 61, 63, 65, 51, 54] [4, 0, 16, 17, 21, 22, 23, 24, 25, 26, 9, 53, 59, 52, 54, 56, 42, 45] (by decide) rfl rfl rfl) hl
    have i_20 : ¬ (xs 0 &&& 63).toInt = 20 := fun h9 => s_20 ((fa_eq _ _).mpr h9)
    by_cases s_21 : xs 0 &&& 63 = 21
    · refine k_topi (y := 21) s_21 ?_
      refine lv_tableIn (off := 874) (tgt := 907) hx hb dL_law_33 (by decide) (by decide) rfl (by decide) ?_
      exact law_21 l C0 (k_permT h [0, 5, 1, 50, 62] [4, 0, 53] (by decide) rfl rfl rfl) hl
    have i_21 : ¬ (xs 0 &&& 63).toInt = 21 := fun h9 => s_21 ((fa_eq _ _).mpr h9)
    by_cases s_22 : xs 0 &&& 63 = 22
    · refine k_topi (y := 22) s_22 ?_
      refine lv_tableIn (off := 897) (tgt := 930) hx hb dL_law_33 (by decide) (by decide) rfl (by decide) ?_
      exact law_22 l C0 (k_permT h [0, 5, 19, 20, 21, 24, 26, 27, 28, 29, 30, 31, 11, 12, 46, 6, 8, 49, 50, 62, 68, 61, 63, 65, 51, 54, 79, 55] [4, 16, 17, 21, 22, 23, 24, 25, 26, 9, 6, 41, 53, 59, 52, 54, 56, 42, 45, 70, 46] (by decide) rfl rfl rfl) hl
    have i_22 : ¬ (xs 0 &&& 63).toInt = 22 := fun h9 => s_22 ((fa_eq _ _).mpr h9)
    by_cases s_23 : xs 0 &&& 63 = 23
    · refine k_topi (y := 23) s_23 ?_
      refine lv_tableIn (off := 920) (tgt := 953) hx hb dL_law_33 (by decide) (by decide) rfl (by decide) ?_
      exact law_23 l C0 (k_permT h [0, 5, 2, 50, 62, 80] [4, 1, 53, 71] (by decide) rfl rfl rfl) hl
    have i_23 : ¬ (xs 0 &&& 63).toInt = 23 := fun h9 => s_23 ((fa_eq _ _).mpr h9)
    by_cases s_24 : xs 0 &&& 63 = 24
    · refine k_topi (y := 24) s_24 ?_
      refine lv_tableIn (off := 953) (tgt := 986) hx hb dL_law_33 (by decide) (by decide) rfl (by decide) ?_
      exact law_24 l C0 (k_permT h [0, 5, 2, 6, 8, 50, 62, 51, 80] [4, 1, 6, 53, 42, 71] (by decide) rfl rfl rfl) hl
    have i_24 : ¬ (xs 0 &&& 63).toInt = 24 := fun h9 => s_24 ((fa_eq _ _).mpr h9)
    by_cases s_25 : xs 0 &&& 63 = 25
    · refine k_topi (y := 25) s_25 ?_
      refine lv_tableIn (off := 976) (tgt := 1009) hx hb dL_law_33 (by decide) (by decide) rfl (by decide) ?_
      exact law_25 l C0 (k_permT h [0, 5, 50, 62] [4, 53] (by decide) rfl rfl rfl) hl
    have i_25 : ¬ (xs 0 &&& 63).toInt = 25 := fun h9 => s_25 ((fa_eq _ _).mpr h9)
    by_cases s_26 : xs 0 &&& 63 = 26
    · refine k_topi (y := 26) s_26 ?_
      refine lv_tableIn (off := 999) (tgt := 1032) hx hb dL_law_33 (by decide) (by decide) rfl (by decide) ?_
      exact law_26 l C0 (k_permT h [0, 3, 6, 8, 50, 51, 52] [2, 6, 42, 43] (by decide) rfl rfl rfl) hl
    have i_26 : ¬ (xs 0 &&& 63).toInt = 26 := fun h9 => s_26 ((fa_eq _ _).mpr h9)
    by_cases s_27 : xs 0 &&& 63 = 27
    · refine k_topi (y := 27) s_27 ?_
      refine lv_tableIn (off := 1012) (tgt := 1045) hx hb dL_law_33 (by decide) (by decide) rfl (by decide) ?_
      exact law_27 l C0 (k_permT h [0, 5, 50, 62] [4, 53] (by decide) rfl rfl rfl) hl
    have i_27 : ¬ (xs 0 &&& 63).toInt = 27 := fun h9 => s_27 ((fa_eq _ _).mpr h9)
    by_cases s_28 : xs 0 &&& 63 = 28
    · refine k_topi (y := 28) s_28 ?_
      refine lv_tableIn (off := 1025) (tgt := 1058) hx hb dL_law_33 (by decide) (by decide) rfl (by decide) ?_
      exact law_28 l C0 (k_permT h [0, 5, 4, 6, 8, 50, 62, 81, 51] [4, 3, 6, 53, 72, 42] (by decide) rfl rfl rfl) hl
    have i_28 : ¬ (xs 0 &&& 63).toInt = 28 := fun h9 => s_28 ((fa_eq _ _).mpr h9)
    by_cases s_29 : xs 0 &&& 63 = 29
    · refine k_topi (y := 29) s_29 ?_
      refine lv_tableIn (off := 1058) (tgt := 1091) hx hb dL_law_33 (by decide) (by decide) rfl (by decide) ?_
      exact law_29 l C0 (k_permT h [0, 50] [] (by decide) rfl rfl rfl) hl
    have i_29 : ¬ (xs 0 &&& 63).toInt = 29 := fun h9 => s_29 ((fa_eq _ _).mpr h9)
    by_cases s_30 : xs 0 &&& 63 = 30
    · refine k_topi (y := 30) s_30 ?_
      refine lv_tableIn (off := 1071) (tgt := 1104) hx hb dL_law_33 (by decide) (by decide) rfl (by decide) ?_
      exact law_30 l C0 (k_permT h [0, 5, 50, 62] [4, 53] (by decide) rfl rfl rfl) hl
    have i_30 : ¬ (xs 0 &&& 63).toInt = 30 := fun h9 => s_30 ((fa_eq _ _).mpr h9)
    by_cases s_31 : xs 0 &&& 63 = 31
    · refine k_topi (y := 31) s_31 ?_
      refine lv_tableIn (off := 1094) (tgt := 1127) hx hb dL_law_33 (by decide) (by decide) rfl (by decide) ?_
      exact law_31 l C0 (k_permT h [0, 5, 50, 62] [4, 53] (by decide) rfl rfl rfl) hl
    have i_31 : ¬ (xs 0 &&& 63).toInt = 31 := fun h9 => s_31 ((fa_eq _ _).mpr h9)
    by_cases s_32 : xs 0 &&& 63 = 32
    · refine k_topi (y := 32) s_32 ?_
      refine lv_tableIn (off := 1137) (tgt := 1170) hx hb dL_law_33 (by decide) (by decide) rfl (by decide) ?_
      exact law_32 l C0 (k_permT h [0, 5, 50, 62] [4, 53] (by decide) rfl rfl rfl) hl
    have i_32 : ¬ (xs 0 &&& 63).toInt = 32 := fun h9 => s_32 ((fa_eq _ _).mpr h9)
    refine lv_tableOut (tgt := 1193) hx hb dL_law_33 (by omega) (by decide) ?_
    exact law_tail C0 (Nat.le_of_ble_eq_true rfl) (Nat.le_of_ble_eq_true rfl) h hl
  · refine lv_icmp_gt (tgt := 1199) hx hb dL_law_24 (by decide) (fun _ => ?_) (fun c_1 => absurd (pk_sneg (a := L) (b := 6) (by decide) (by omega)) c_1)
    refine lv_iconst (v := 1) hx hb dL_law_1199 (by decide) ?_
    rw [← hAe] at h
    refine va_forget (fun q hq => h.2.2.2.1.2.2 q hq) ?_
    refine W.widen (k := 600000) (n := 7302250) (Nat.le_of_ble_eq_true rfl) (Nat.le_of_ble_eq_true rfl) ?_
    exact lw_ret hx hb hr hlocks dL_law_1200
