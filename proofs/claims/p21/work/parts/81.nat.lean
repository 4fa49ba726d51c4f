def mUpd (f : Nat → Nat) (k v : Nat) : Nat → Nat := fun j => if j = k then v else f j
theorem mUpd_s {f : Nat → Nat} {k v : Nat} : mUpd f k v k = v := if_pos rfl
theorem mUpd_n {f : Nat → Nat} {k v j : Nat} (h : j ≠ k) : mUpd f k v j = f j := if_neg h
theorem mm_upd {X : Nat → Nat} {k v : Nat} (j : Nat) : upd (fun j => nI (X j)) k (nI v) j = nI (mUpd X k v j) := by
  by_cases h : j = k
  · rw [h, pk_us, mUpd_s]
  · rw [pk_un h, mUpd_n h]
theorem mm_max {a b : Nat} (ha : a < 2147483648) (hb : b < 2147483648) : (if nI a < nI b then nI b else nI a) = nI (if a < b then b else a) := by
  by_cases h : a < b
  · rw [if_pos h, if_pos ((nI_ltI ha hb).mpr h)]
  · rw [if_neg h, if_neg (fun z => h ((nI_ltI ha hb).mp z))]
theorem mm_byte1 : ∀ i : Fin 128, (nI i.val).toInt8.toInt32 = nI i.val ∧ vp_nar .byte (nI i.val) = nI i.val := by decide +kernel
theorem mm_byte {n : Nat} (h : n < 128) : (nI n).toInt8.toInt32 = nI n := (mm_byte1 ⟨n, h⟩).1
theorem mm_nar {n : Nat} (h : n < 128) : vp_nar .byte (nI n) = nI n := (mm_byte1 ⟨n, h⟩).2
theorem kisinN {m i : Nat} (hm : m < 2147483648) (hi : i < 31) {r : Int32} (h : r = if ¬ (nI m >>> (nI i &&& 31)) &&& 1 = 0 then 1 else 0) : r = if m.testBit i = true then 1 else 0 := by
  have z := mm_isin (m := m) (i := i) hm hi
  rw [h]
  cases e : m.testBit i
  · rw [if_neg (fun q => q (z.mpr e)), if_neg (by decide)]
  · rw [if_pos (fun q => absurd (z.mp q) (by rw [e]; decide)), if_pos rfl]
def kbA1 (x : Int32) : Int32 := x - ((x.toUInt32 >>> ((1 : Int32).toUInt32 &&& Int32.toUInt32 31)).toInt32 &&& (1431655765 : Int32))
def kbA2 (x : Int32) : Int32 := (x &&& (858993459 : Int32)) + ((x.toUInt32 >>> ((2 : Int32).toUInt32 &&& Int32.toUInt32 31)).toInt32 &&& (858993459 : Int32))
def kbA3 (x : Int32) : Int32 := (x + (x.toUInt32 >>> ((4 : Int32).toUInt32 &&& Int32.toUInt32 31)).toInt32) &&& (252645135 : Int32)
def kbA4 (x : Int32) : Int32 := x + (x.toUInt32 >>> ((8 : Int32).toUInt32 &&& Int32.toUInt32 31)).toInt32
def kbA5 (x : Int32) : Int32 := x + (x.toUInt32 >>> ((16 : Int32).toUInt32 &&& Int32.toUInt32 31)).toInt32
theorem kbc1 : ∀ m : Fin 1024, kbA5 (kbA4 (kbA3 (kbA2 (kbA1 (nI m.val))))) &&& (63 : Int32) = nI (mCnt m.val 10) := by decide +kernel
theorem kbc {m : Nat} (h : m < 1024) {x1 x2 x3 x4 x5 : Int32} (e1 : x1 = ((nI m).toUInt32 >>> ((1 : Int32).toUInt32 &&& Int32.toUInt32 31)).toInt32) (e2 : x2 = ((nI m - (x1 &&& (1431655765 : Int32))).toUInt32 >>> ((2 : Int32).toUInt32 &&& Int32.toUInt32 31)).toInt32)
    (e3 : x3 = ((((nI m - (x1 &&& (1431655765 : Int32))) &&& (858993459 : Int32)) + (x2 &&& (858993459 : Int32))).toUInt32 >>> ((4 : Int32).toUInt32 &&& Int32.toUInt32 31)).toInt32)
    (e4 : x4 = ((((((nI m - (x1 &&& (1431655765 : Int32))) &&& (858993459 : Int32)) + (x2 &&& (858993459 : Int32))) + x3) &&& (252645135 : Int32)).toUInt32 >>> ((8 : Int32).toUInt32 &&& Int32.toUInt32 31)).toInt32)
    (e5 : x5 = (((((((nI m - (x1 &&& (1431655765 : Int32))) &&& (858993459 : Int32)) + (x2 &&& (858993459 : Int32))) + x3) &&& (252645135 : Int32)) + x4).toUInt32 >>> ((16 : Int32).toUInt32 &&& Int32.toUInt32 31)).toInt32) :
    (((((((nI m - (x1 &&& (1431655765 : Int32))) &&& (858993459 : Int32)) + (x2 &&& (858993459 : Int32))) + x3) &&& (252645135 : Int32)) + x4) + x5) &&& (63 : Int32) = nI (mCnt m 10) := by
  subst e5
  subst e4
  subst e3
  subst e2
  subst e1
  exact kbc1 ⟨m, h⟩
/-- the part of a kind -/
def pN (k : Int32) : Nat := ([0, 0, 1, 1, 1, 1, 2, 3, 3, 4, 4] : List Nat).getD k.toNatClampNeg 0
theorem kTabP_N {k : Int32} (h : 0 ≤ k.toInt ∧ k.toInt ≤ 10) : kTabP k.toNatClampNeg = nI (pN k) := by
  have main : ∀ i : Fin 11, kTabP i.val = nI (([0, 0, 1, 1, 1, 1, 2, 3, 3, 4, 4] : List Nat).getD i.val 0) := by decide
  have hk : k.toNatClampNeg < 11 := by unfold Int32.toNatClampNeg; omega
  exact main ⟨_, hk⟩
theorem pN_lt {k : Int32} (h : 0 ≤ k.toInt ∧ k.toInt ≤ 10) : pN k < 5 := by
  have main : ∀ i : Fin 11, ([0, 0, 1, 1, 1, 1, 2, 3, 3, 4, 4] : List Nat).getD i.val 0 < 5 := by decide
  have hk : k.toNatClampNeg < 11 := by unfold Int32.toNatClampNeg; omega
  exact main ⟨_, hk⟩
theorem kTab_f {k : Int32} (h0 : 0 ≤ k.toInt ∧ k.toInt < 11) : ((kTabD k.toNatClampNeg).toInt = 1 ↔ k.toInt ≤ 7) ∧ ((kTabD k.toNatClampNeg).toInt = 0 ↔ 7 < k.toInt) ∧ ((kTabX k.toNatClampNeg).toInt = 1 ↔ (1 ≤ k.toInt ∧ k.toInt ≤ 8)) ∧ ((kTabY k.toNatClampNeg).toInt = 1 ↔ ((2 ≤ k.toInt ∧ k.toInt ≤ 5) ∨ k.toInt = 8)) ∧ ((kTabY k.toNatClampNeg).toInt = 0 ↔ (k.toInt < 2 ∨ k.toInt = 7)) ∧ ((kTabP k.toNatClampNeg).toInt = 1 ↔ (2 ≤ k.toInt ∧ k.toInt ≤ 5)) := by
  have main : ∀ i : Fin 11, ((kTabD i.val).toInt = 1 ↔ i.val ≤ 7) ∧ ((kTabD i.val).toInt = 0 ↔ 7 < i.val) ∧ ((kTabX i.val).toInt = 1 ↔ (1 ≤ i.val ∧ i.val ≤ 8)) ∧ ((kTabY i.val).toInt = 1 ↔ ((2 ≤ i.val ∧ i.val ≤ 5) ∨ i.val = 8)) ∧ ((kTabY i.val).toInt = 0 ↔ (i.val < 2 ∨ i.val = 7)) ∧ ((kTabP i.val).toInt = 1 ↔ (2 ≤ i.val ∧ i.val ≤ 5)) := by decide
  have hk : k.toNatClampNeg < 11 := by unfold Int32.toNatClampNeg; omega
  have e : (k.toNatClampNeg : Int) = k.toInt := by unfold Int32.toNatClampNeg; omega
  have z := main ⟨_, hk⟩
  simp only at z
  obtain ⟨z1, z2, z3, z4, z5, z6⟩ := z
  exact ⟨z1.trans (by omega), z2.trans (by omega), z3.trans (by omega), z4.trans (by omega), z5.trans (by omega), z6.trans (by omega)⟩
def kOr (c : Prop) [Decidable c] (t v : Int32) : Int32 := if c then t ||| v else t
/-- what an act reads, what it writes -/
def kRd (k x y : Int32) : Int32 := kOr (9 ≤ k.toInt) (kOr (k.toInt = 7) (kOr ((2 ≤ k.toInt ∧ k.toInt ≤ 5) ∨ k.toInt = 8) (kOr (1 ≤ k.toInt ∧ k.toInt ≤ 8) 0 ((1 : Int32) <<< (x &&& 31))) ((1 : Int32) <<< (y &&& 31))) 1024) ((1 : Int32) <<< ((8 + x) &&& 31))
def kWr (k d : Int32) : Int32 := kOr (k.toInt = 8) (kOr (2 ≤ k.toInt ∧ k.toInt ≤ 5) (kOr (k.toInt ≤ 7) 0 ((1 : Int32) <<< (d &&& 31))) 768) 1024
def kDv (k d : Int32) : Int32 := if 7 < k.toInt then -1 else d
def kYv (k y : Int32) : Int32 := if k.toInt < 2 ∨ k.toInt = 7 then -1 else y
/-- what the later of two acts needs of the earlier one -/
def kTr (k : Int32) : Prop := k.toInt = 7 ∨ k.toInt = 8 ∨ k.toInt = 10
def kNd (ka kb ra wa rb wb : Int32) : Nat := if ¬ (wa &&& (rb ||| wb)).toInt = 0 ∨ ka.toInt = 9 then 2 else if (ka.toInt = 7 ∨ ka.toInt = 8 ∨ ka.toInt = 10) ∧ (¬ wb.toInt = 0 ∨ (kb.toInt = 7 ∨ kb.toInt = 8 ∨ kb.toInt = 10)) then 2 else if ¬ (ra &&& wb).toInt = 0 ∨ kb.toInt = 9 then 1 else 0
theorem kAct_dv {k d x y : Int32} (h : kActOK k d x y = true) : kAct k (kDv k d) x (kYv k y) := by
  refine kAct_of h ?_ ?_
  · unfold kDv
    split
    · exact Or.inr (by assumption)
    · exact Or.inl rfl
  · unfold kYv
    split
    · exact Or.inr (by assumption)
    · exact Or.inl rfl
set_option maxHeartbeats 4000000 in
set_option maxRecDepth 100000 in
theorem c_isInN (l : Launch) (dC : Nat → ClassId) (dI : Nat → Nat → Nat) (sz : Nat) (m9 : Nat) (i9 : Nat) (hm : m9 < 2147483648) (hi : i9 < 31) : Met l yX7_isIn wsX7_isIn ({ frames := 0, cells := 0, slots := 0, locals := 0 } : Room) (va_Pc [.int (nI m9), .int (nI i9)] (KPre (dC, dI) [] [] sz (fun _ => True))) (va_Qi (fun (r : Int32) (u : Unit) => r = if m9.testBit i9 = true then 1 else 0) (KPost (dC, dI) (va_A [] sz) (fun (u : Unit) => [])) (va_A [] sz)) 0 0 (va_A [] sz) := by
  refine kMet (y := yX7_isIn) (wsM := wsX7_isIn) (cc := cX7_isIn) (maxL := 2) (ret := (some .boolean)) (rm := ({ frames := 0, cells := 0, slots := 0, locals := 0 } : Room)) (mc := 0) (ms := 0) (av := [.int (nI m9), .int (nI i9)]) (D := (dC, dI)) (wc := []) (tc := []) (sz := sz) (X := fun _ => True) (Qc := fun A => va_Qi (fun (r : Int32) (u : Unit) => r = if m9.testBit i9 = true then 1 else 0) (KPost (dC, dI) A (fun (u : Unit) => [])) A) (by decide) rfl (Nat.le_of_ble_eq_true rfl) ?_
  intro p e s m below meth c A ls E hr hlocks hnm hsz hAe hX h hl
  have hx := E.1
  have hb := E.2.1
  have hl : lv_has ls 2 [(0, .int (nI m9)), (1, .int (nI i9))] := hl
  refine lv_iload_n hx hb dX7_isIn_0 rfl (lv_at hl 0 rfl) ?_
  refine lv_iload_n hx hb dX7_isIn_1 rfl (lv_at hl 1 rfl) ?_
  refine lv_ishr hx hb dX7_isIn_2 ?_
  refine lv_iconst (v := 1) hx hb dX7_isIn_3 kic_1 ?_
  refine lv_iand hx hb dX7_isIn_4 ?_
  refine lv_if_eq (tgt := 12) hx hb dX7_isIn_5 rfl (fun c_1 => ?_) (fun c_1 => ?_)
  · skip
    have i_1 : (((nI m9) >>> ((nI i9) &&& 31)) &&& (1 : Int32)).toInt = 0 := (fa_eq _ _).mp c_1
    refine lv_iconst (v := 0) hx hb dX7_isIn_12 kic_0 ?_
    have hP9 := h.2.1.sub [] rfl
    have hD9 := h.2.2.1.sub (ws' := []) [] (by decide) rfl
    exact W.zret (v := 0) hx hb hr (by decide) (fun t ht hW => ⟨⟨0, (), rfl, (kisinN hm hi (by (repeat' split) <;> first | rfl | contradiction | (exfalso; exact absurd (by assumption) (by assumption)))), (by rw [ht]; exact hP9), hD9⟩, h.2.2.2.1.F ht⟩) h.2.2.2.1.2.2 dX7_isIn_13 hlocks
  · skip
    have i_1 : ¬ (((nI m9) >>> ((nI i9) &&& 31)) &&& (1 : Int32)).toInt = 0 := fun h9 => c_1 ((fa_eq _ _).mpr h9)
    refine lv_iconst (v := 1) hx hb dX7_isIn_8 kic_1 ?_
    refine lv_goto (tgt := 13) hx hb dX7_isIn_9 rfl ?_
    have hP9 := h.2.1.sub [] rfl
    have hD9 := h.2.2.1.sub (ws' := []) [] (by decide) rfl
    exact W.zret (v := 1) hx hb hr (by decide) (fun t ht hW => ⟨⟨1, (), rfl, (kisinN hm hi (by (repeat' split) <;> first | rfl | contradiction | (exfalso; exact absurd (by assumption) (by assumption)))), (by rw [ht]; exact hP9), hD9⟩, h.2.2.2.1.F ht⟩) h.2.2.2.1.2.2 dX7_isIn_13 hlocks
set_option maxHeartbeats 4000000 in
set_option maxRecDepth 100000 in
theorem c_slotN (l : Launch) (dC : Nat → ClassId) (dI : Nat → Nat → Nat) (sz : Nat) (m9 : Nat) (i9 : Nat)  : Met l yX7_slot wsX7_slot ({ frames := 0, cells := 0, slots := 0, locals := 0 } : Room) (va_Pc [.int (nI m9), .int (nI i9)] (KPre (dC, dI) [] [] sz (fun _ => True))) (va_Qi (fun (r : Int32) (u : Unit) => r = nI (m9 * 10 + i9)) (KPost (dC, dI) (va_A [] sz) (fun (u : Unit) => [])) (va_A [] sz)) 0 0 (va_A [] sz) := by
  refine kMet (y := yX7_slot) (wsM := wsX7_slot) (cc := cX7_slot) (maxL := 2) (ret := (some .int)) (rm := ({ frames := 0, cells := 0, slots := 0, locals := 0 } : Room)) (mc := 0) (ms := 0) (av := [.int (nI m9), .int (nI i9)]) (D := (dC, dI)) (wc := []) (tc := []) (sz := sz) (X := fun _ => True) (Qc := fun A => va_Qi (fun (r : Int32) (u : Unit) => r = nI (m9 * 10 + i9)) (KPost (dC, dI) A (fun (u : Unit) => [])) A) (by decide) rfl (Nat.le_of_ble_eq_true rfl) ?_
  intro p e s m below meth c A ls E hr hlocks hnm hsz hAe hX h hl
  have hx := E.1
  have hb := E.2.1
  have hl : lv_has ls 2 [(0, .int (nI m9)), (1, .int (nI i9))] := hl
  refine lv_iload_n hx hb dX7_slot_0 rfl (lv_at hl 0 rfl) ?_
  refine lv_bipush (v := 10) hx hb dX7_slot_1 kbi_10 ?_
  refine lv_imul hx hb dX7_slot_3 ?_
  refine k_topi (y := nI (m9 * 10)) (pk_mul m9 10) ?_
  refine lv_iload_n hx hb dX7_slot_4 rfl (lv_at hl 1 rfl) ?_
  refine lv_iadd hx hb dX7_slot_5 ?_
  refine k_topi (y := nI ((m9 * 10) + i9)) (nI_add (m9 * 10) i9) ?_
  have hP9 := h.2.1.sub [] rfl
  have hD9 := h.2.2.1.sub (ws' := []) [] (by decide) rfl
  exact W.iret (v := nI ((m9 * 10) + i9)) hx hb hr (fun t ht hW => ⟨⟨nI ((m9 * 10) + i9), (), rfl, rfl, (by rw [ht]; exact hP9), hD9⟩, h.2.2.2.1.F ht⟩) h.2.2.2.1.2.2 dX7_slot_6 hlocks
set_option maxHeartbeats 4000000 in
set_option maxRecDepth 100000 in
theorem c_bitcN (l : Launch) (dC : Nat → ClassId) (dI : Nat → Nat → Nat) (sz : Nat) (m9 : Nat) (hm : m9 < 1024) : Met l yJ6_bitCount_0f7a4 wsJ6_bitCount_0f7a4 ({ frames := 0, cells := 0, slots := 0, locals := 0 } : Room) (va_Pc [.int (nI m9)] (KPre (dC, dI) [] [] sz (fun _ => True))) (va_Qi (fun (r : Int32) (u : Unit) => r = nI (mCnt m9 10)) (KPost (dC, dI) (va_A [] sz) (fun (u : Unit) => [])) (va_A [] sz)) 0 0 (va_A [] sz) := by
  refine kMet (y := yJ6_bitCount_0f7a4) (wsM := wsJ6_bitCount_0f7a4) (cc := cJ6_bitCount_0f7a4) (maxL := 1) (ret := (some .int)) (rm := ({ frames := 0, cells := 0, slots := 0, locals := 0 } : Room)) (mc := 0) (ms := 0) (av := [.int (nI m9)]) (D := (dC, dI)) (wc := []) (tc := []) (sz := sz) (X := fun _ => True) (Qc := fun A => va_Qi (fun (r : Int32) (u : Unit) => r = nI (mCnt m9 10)) (KPost (dC, dI) A (fun (u : Unit) => [])) A) (by decide) rfl (Nat.le_of_ble_eq_true rfl) ?_
  intro p e s m below meth c A ls E hr hlocks hnm hsz hAe hX h hl
  have hx := E.1
  have hb := E.2.1
  have hl : lv_has ls 1 [(0, .int (nI m9))] := hl
  refine lv_iload_n hx hb dJ6_bitCount_0f7a4_0 rfl (lv_at hl 0 rfl) ?_
  refine lv_iload_n hx hb dJ6_bitCount_0f7a4_1 rfl (lv_at hl 0 rfl) ?_
  refine lv_iconst (v := 1) hx hb dJ6_bitCount_0f7a4_2 kic_1 ?_
  refine lv_iushr (v := ((nI m9).toUInt32 >>> ((1 : Int32).toUInt32 &&& Int32.toUInt32 31)).toInt32) hx hb dJ6_bitCount_0f7a4_3 rfl ?_
  refine lv_topi (fun x_1 ex_1 => ?_)
  refine lv_ldcw (v := 1431655765) hx hb E.2.2.2.1 (E.2.2.2.2 _ (List.mem_of_getElem? (i := 1) rfl)) dJ6_bitCount_0f7a4_4 ?_
  refine lv_iand hx hb dJ6_bitCount_0f7a4_7 ?_
  refine lv_isub hx hb dJ6_bitCount_0f7a4_8 ?_
  refine lv_istore_n (lv' := [(0, .int ((nI m9) - (x_1 &&& (1431655765 : Int32))))]) hx hb dJ6_bitCount_0f7a4_9 rfl hl (Nat.le_of_ble_eq_true rfl) rfl (fun ls hl => ?_)
  refine lv_iload_n hx hb dJ6_bitCount_0f7a4_10 rfl (lv_at hl 0 rfl) ?_
  refine lv_ldcw (v := 858993459) hx hb E.2.2.2.1 (E.2.2.2.2 _ (List.mem_of_getElem? (i := 2) rfl)) dJ6_bitCount_0f7a4_11 ?_
  refine lv_iand hx hb dJ6_bitCount_0f7a4_14 ?_
  refine W.eq (g2 := F0 m 15 ls [.int (((nI m9) - (x_1 &&& (1431655765 : Int32))) &&& (858993459 : Int32))]) rfl ?_
  refine lv_iload_n hx hb dJ6_bitCount_0f7a4_15 rfl (lv_at hl 0 rfl) ?_
  refine lv_iconst (v := 2) hx hb dJ6_bitCount_0f7a4_16 kic_2 ?_
  refine lv_iushr (v := (((nI m9) - (x_1 &&& (1431655765 : Int32))).toUInt32 >>> ((2 : Int32).toUInt32 &&& Int32.toUInt32 31)).toInt32) hx hb dJ6_bitCount_0f7a4_17 rfl ?_
  refine lv_topi (fun x_2 ex_2 => ?_)
  refine lv_ldcw (v := 858993459) hx hb E.2.2.2.1 (E.2.2.2.2 _ (List.mem_of_getElem? (i := 2) rfl)) dJ6_bitCount_0f7a4_18 ?_
  refine lv_iand hx hb dJ6_bitCount_0f7a4_21 ?_
  refine lv_iadd hx hb dJ6_bitCount_0f7a4_22 ?_
  refine lv_istore_n (lv' := [(0, .int ((((nI m9) - (x_1 &&& (1431655765 : Int32))) &&& (858993459 : Int32)) + (x_2 &&& (858993459 : Int32))))]) hx hb dJ6_bitCount_0f7a4_23 rfl hl (Nat.le_of_ble_eq_true rfl) rfl (fun ls hl => ?_)
  refine lv_iload_n hx hb dJ6_bitCount_0f7a4_24 rfl (lv_at hl 0 rfl) ?_
  refine lv_iload_n hx hb dJ6_bitCount_0f7a4_25 rfl (lv_at hl 0 rfl) ?_
  refine lv_iconst (v := 4) hx hb dJ6_bitCount_0f7a4_26 kic_4 ?_
  refine lv_iushr (v := (((((nI m9) - (x_1 &&& (1431655765 : Int32))) &&& (858993459 : Int32)) + (x_2 &&& (858993459 : Int32))).toUInt32 >>> ((4 : Int32).toUInt32 &&& Int32.toUInt32 31)).toInt32) hx hb dJ6_bitCount_0f7a4_27 rfl ?_
  refine lv_topi (fun x_3 ex_3 => ?_)
  refine lv_iadd hx hb dJ6_bitCount_0f7a4_28 ?_
  refine W.eq (g2 := F0 m 29 ls [.int (((((nI m9) - (x_1 &&& (1431655765 : Int32))) &&& (858993459 : Int32)) + (x_2 &&& (858993459 : Int32))) + x_3)]) rfl ?_
  refine lv_ldcw (v := 252645135) hx hb E.2.2.2.1 (E.2.2.2.2 _ (List.mem_of_getElem? (i := 3) rfl)) dJ6_bitCount_0f7a4_29 ?_
  refine lv_iand hx hb dJ6_bitCount_0f7a4_32 ?_
  refine lv_istore_n (lv' := [(0, .int ((((((nI m9) - (x_1 &&& (1431655765 : Int32))) &&& (858993459 : Int32)) + (x_2 &&& (858993459 : Int32))) + x_3) &&& (252645135 : Int32)))]) hx hb dJ6_bitCount_0f7a4_33 rfl hl (Nat.le_of_ble_eq_true rfl) rfl (fun ls hl => ?_)
  refine lv_iload_n hx hb dJ6_bitCount_0f7a4_34 rfl (lv_at hl 0 rfl) ?_
  refine lv_iload_n hx hb dJ6_bitCount_0f7a4_35 rfl (lv_at hl 0 rfl) ?_
  refine lv_bipush (v := 8) hx hb dJ6_bitCount_0f7a4_36 kbi_8 ?_
  refine lv_iushr (v := (((((((nI m9) - (x_1 &&& (1431655765 : Int32))) &&& (858993459 : Int32)) + (x_2 &&& (858993459 : Int32))) + x_3) &&& (252645135 : Int32)).toUInt32 >>> ((8 : Int32).toUInt32 &&& Int32.toUInt32 31)).toInt32) hx hb dJ6_bitCount_0f7a4_38 rfl ?_
  refine lv_topi (fun x_4 ex_4 => ?_)
  refine lv_iadd hx hb dJ6_bitCount_0f7a4_39 ?_
  refine lv_istore_n (lv' := [(0, .int (((((((nI m9) - (x_1 &&& (1431655765 : Int32))) &&& (858993459 : Int32)) + (x_2 &&& (858993459 : Int32))) + x_3) &&& (252645135 : Int32)) + x_4))]) hx hb dJ6_bitCount_0f7a4_40 rfl hl (Nat.le_of_ble_eq_true rfl) rfl (fun ls hl => ?_)
  refine lv_iload_n hx hb dJ6_bitCount_0f7a4_41 rfl (lv_at hl 0 rfl) ?_
  refine lv_iload_n hx hb dJ6_bitCount_0f7a4_42 rfl (lv_at hl 0 rfl) ?_
  refine lv_bipush (v := 16) hx hb dJ6_bitCount_0f7a4_43 kbi_16 ?_
  refine W.eq (g2 := F0 m 45 ls [.int 16, .int (((((((nI m9) - (x_1 &&& (1431655765 : Int32))) &&& (858993459 : Int32)) + (x_2 &&& (858993459 : Int32))) + x_3) &&& (252645135 : Int32)) + x_4), .int (((((((nI m9) - (x_1 &&& (1431655765 : Int32))) &&& (858993459 : Int32)) + (x_2 &&& (858993459 : Int32))) + x_3) &&& (252645135 : Int32)) + x_4)]) rfl ?_
  refine lv_iushr (v := ((((((((nI m9) - (x_1 &&& (1431655765 : Int32))) &&& (858993459 : Int32)) + (x_2 &&& (858993459 : Int32))) + x_3) &&& (252645135 : Int32)) + x_4).toUInt32 >>> ((16 : Int32).toUInt32 &&& Int32.toUInt32 31)).toInt32) hx hb dJ6_bitCount_0f7a4_45 rfl ?_
  refine lv_topi (fun x_5 ex_5 => ?_)
  refine lv_iadd hx hb dJ6_bitCount_0f7a4_46 ?_
  refine lv_istore_n (lv' := [(0, .int ((((((((nI m9) - (x_1 &&& (1431655765 : Int32))) &&& (858993459 : Int32)) + (x_2 &&& (858993459 : Int32))) + x_3) &&& (252645135 : Int32)) + x_4) + x_5))]) hx hb dJ6_bitCount_0f7a4_47 rfl hl (Nat.le_of_ble_eq_true rfl) rfl (fun ls hl => ?_)
  refine lv_iload_n hx hb dJ6_bitCount_0f7a4_48 rfl (lv_at hl 0 rfl) ?_
  refine lv_bipush (v := 63) hx hb dJ6_bitCount_0f7a4_49 kbi_63 ?_
  refine lv_iand hx hb dJ6_bitCount_0f7a4_51 ?_
  have hP9 := h.2.1.sub [] rfl
  have hD9 := h.2.2.1.sub (ws' := []) [] (by decide) rfl
  exact W.iret (v := ((((((((nI m9) - (x_1 &&& (1431655765 : Int32))) &&& (858993459 : Int32)) + (x_2 &&& (858993459 : Int32))) + x_3) &&& (252645135 : Int32)) + x_4) + x_5) &&& (63 : Int32)) hx hb hr (fun t ht hW => ⟨⟨((((((((nI m9) - (x_1 &&& (1431655765 : Int32))) &&& (858993459 : Int32)) + (x_2 &&& (858993459 : Int32))) + x_3) &&& (252645135 : Int32)) + x_4) + x_5) &&& (63 : Int32), (), rfl, (kbc hm ex_1 ex_2 ex_3 ex_4 ex_5), (by rw [ht]; exact hP9), hD9⟩, h.2.2.2.1.F ht⟩) h.2.2.2.1.2.2 dJ6_bitCount_0f7a4_52 hlocks
set_option maxHeartbeats 4000000 in
set_option maxRecDepth 100000 in
theorem c_J7_fill_53178 (l : Launch) (dC : Nat → ClassId) (dI : Nat → Nat → Nat) (sz : Nat) (a9_0 : Nat) (c9_0 : ClassId) (n9_0 : Nat) (f9_0 : Nat → Int32) (p1 : Int32) (hn : n9_0 < 2147483648) : Met l yJ7_fill_53178 wsJ7_fill_53178 ({ frames := 0, cells := 0, slots := 0, locals := 0 } : Room) (va_Pc [.ref a9_0, .int p1] (KPre (dC, dI) [(a9_0, .inl (c9_0, n9_0, .inl f9_0))] [(c9_0, .int)] sz (fun _ => True))) (va_Qv (fun (u : Unit) => True) (KPost (dC, dI) (va_A [(a9_0, .inl (c9_0, n9_0, .inl f9_0))] sz) (fun (u : Unit) => [(a9_0, .inl (c9_0, n9_0, .inl (fun _ => p1)))])) (va_A [(a9_0, .inl (c9_0, n9_0, .inl f9_0))] sz)) 0 0 (va_A [(a9_0, .inl (c9_0, n9_0, .inl f9_0))] sz) := by
  refine kMet (y := yJ7_fill_53178) (wsM := wsJ7_fill_53178) (cc := cJ7_fill_53178) (maxL := 4) (ret := none) (rm := ({ frames := 0, cells := 0, slots := 0, locals := 0 } : Room)) (mc := 0) (ms := 0) (av := [.ref a9_0, .int p1]) (D := (dC, dI)) (wc := [(a9_0, .inl (c9_0, n9_0, .inl f9_0))]) (tc := [(c9_0, .int)]) (sz := sz) (X := fun _ => True) (Qc := fun A => va_Qv (fun (u : Unit) => True) (KPost (dC, dI) A (fun (u : Unit) => [(a9_0, .inl (c9_0, n9_0, .inl (fun _ => p1)))])) A) (by decide) rfl (Nat.le_of_ble_eq_true rfl) ?_
  intro p e s m below meth c A ls E hr hlocks hnm hsz hAe hX h hl
  have hx := E.1
  have hb := E.2.1
  have hl : lv_has ls 4 [(0, .ref a9_0), (1, .int p1)] := hl
  refine lv_iconst (v := 0) hx hb dJ7_fill_53178_0 kic_0 ?_
  refine lv_istore_n (lv' := [(2, .int 0), (0, .ref a9_0), (1, .int p1)]) hx hb dJ7_fill_53178_1 rfl hl (Nat.le_of_ble_eq_true rfl) rfl (fun ls hl => ?_)
  refine lv_aload_n hx hb dJ7_fill_53178_2 rfl (lv_at hl 1 rfl) ?_
  refine k_alen (v := nI n9_0) E h 0 0 rfl rfl rfl dJ7_fill_53178_3 ?_
  refine lv_istore_n (lv' := [(3, .int (nI n9_0)), (2, .int 0), (0, .ref a9_0), (1, .int p1)]) hx hb dJ7_fill_53178_4 rfl hl (Nat.le_of_ble_eq_true rfl) rfl (fun ls hl => ?_)
  refine k_loop (σ := Nat × (Nat → Int32)) (fun x9 => [(a9_0, .inl (c9_0, n9_0, .inl x9.2))]) (fun x9 => [(0, .ref a9_0), (1, .int p1), (2, .int (nI x9.1)), (3, .int (nI n9_0))]) (fun n9 x9 => x9.1 ≤ n9_0 ∧ n9 = n9_0 - x9.1 ∧ ∀ j, j < x9.1 → x9.2 j = p1) ?_ (n9_0 - 0) (0, f9_0) ⟨Nat.zero_le _, rfl, fun j h => absurd h (Nat.not_lt_zero j)⟩ h (lv_sub hl [2, 3, 1, 0] rfl)
  intro n9 x9 H locs ls hI h hl ih
  obtain ⟨i, g⟩ := x9
  have hI : i ≤ n9_0 ∧ n9 = n9_0 - i ∧ ∀ j, j < i → g j = p1 := hI
  have h : KS (dC, dI) A [(a9_0, .inl (c9_0, n9_0, .inl g))] [(c9_0, .int)] s H locs := h
  have hl : lv_has ls 4 [(0, .ref a9_0), (1, .int p1), (2, .int (nI i)), (3, .int (nI n9_0))] := hl
  obtain ⟨hi1, hi2, hi3⟩ := hI
  refine lv_iload_n hx hb dJ7_fill_53178_5 rfl (lv_at hl 2 rfl) ?_
  refine lv_iload_n hx hb dJ7_fill_53178_6 rfl (lv_at hl 3 rfl) ?_
  refine lv_icmp_ge (tgt := 20) hx hb dJ7_fill_53178_7 rfl (fun c_1 => ?_) (fun c_1 => ?_)
  · skip
    have i_1 : n9_0 ≤ i := (nI_leI (a := n9_0) (b := i) (by omega) (by omega)).mp c_1
    have h : KS (dC, dI) A [(a9_0, .inl (c9_0, n9_0, .inl (fun _ => p1)))] [(c9_0, .int)] s _ _ := k_cong 0 h rfl (fun j hj => hi3 j (by omega)) rfl
    have hP9 := h.2.1.sub [0] rfl
    have hD9 := h.2.2.1.sub (ws' := [(a9_0, .inl (c9_0, n9_0, .inl (fun _ => p1)))]) [0] (by decide) rfl
    exact W.vret hx hb hr (fun t ht hW => ⟨⟨(), rfl, trivial, (by rw [ht]; exact hP9), hD9⟩, h.2.2.2.1.F ht⟩) h.2.2.2.1.2.2 dJ7_fill_53178_20 hlocks
  · skip
    have i_1 : ¬ n9_0 ≤ i := fun h9 => c_1 ((nI_leI (a := n9_0) (b := i) (by omega) (by omega)).mpr h9)
    refine lv_aload_n hx hb dJ7_fill_53178_10 rfl (lv_at hl 0 rfl) ?_
    refine lv_iload_n hx hb dJ7_fill_53178_11 rfl (lv_at hl 2 rfl) ?_
    refine lv_iload_n hx hb dJ7_fill_53178_12 rfl (lv_at hl 1 rfl) ?_
    refine k_iast (j := i) (ws' := [(a9_0, .inl (c9_0, n9_0, .inl (upd g i p1)))]) E h 0 0 rfl rfl (vp_in_nI (by omega) (by omega)) (nI_clamp (by omega)) rfl dJ7_fill_53178_13 (fun H locs h => ?_)
    refine lv_iinc (v := nI (i + 1)) (lv' := [(2, .int (nI (i + 1))), (0, .ref a9_0), (1, .int p1), (3, .int (nI n9_0))]) hx hb dJ7_fill_53178_14 hl (k := 2) rfl (nI_1 i) (by decide) rfl (fun ls hl => ?_)
    refine lv_goto (tgt := 5) hx hb dJ7_fill_53178_17 rfl ?_
    exact ih (n9_0 - (i + 1)) (i + 1, upd g i p1) _ _ _ (by omega) ⟨by omega, rfl, kfill hi3⟩ h (lv_sub hl [1, 2, 0, 3] rfl)
set_option maxHeartbeats 4000000 in
set_option maxRecDepth 100000 in
theorem c_partN (l : Launch) (dC : Nat → ClassId) (dI : Nat → Nat → Nat) (sz : Nat) (o5 : Nat) (a5_0 : Nat) (a5_1 : Nat) (a5_2 : Nat) (a5_3 : Nat) (a5_4 : Nat) (a5_5 : Nat) (a5_6 : Nat) (c5_1 : ClassId) (f5_1 : Nat → Int32) (m9 : Nat) (hK : IK f5_1) (hp : m9 < 120) : Met l yX5_partOf wsX5_partOf ({ frames := 0, cells := 0, slots := 0, locals := 0 } : Room) (va_Pc [.ref o5, .int (nI m9)] (KPre (dC, dI) [(o5, .inr (5, [.ref a5_0, .ref a5_1, .ref a5_2, .ref a5_3, .ref a5_4, .ref a5_5, .ref a5_6])), (a5_1, .inl (c5_1, 120, .inl f5_1))] [(c5_1, .int)] sz (fun U => KAll (va_A [(o5, .inr (5, [.ref a5_0, .ref a5_1, .ref a5_2, .ref a5_3, .ref a5_4, .ref a5_5, .ref a5_6])), (a5_1, .inl (c5_1, 120, .inl f5_1))] sz) U))) (va_Qi (fun (r : Int32) (u : Unit) => r = nI (pN (f5_1 m9))) (KPost (dC, dI) (va_A [(o5, .inr (5, [.ref a5_0, .ref a5_1, .ref a5_2, .ref a5_3, .ref a5_4, .ref a5_5, .ref a5_6])), (a5_1, .inl (c5_1, 120, .inl f5_1))] sz) (fun (u : Unit) => [(o5, .inr (5, [.ref a5_0, .ref a5_1, .ref a5_2, .ref a5_3, .ref a5_4, .ref a5_5, .ref a5_6])), (a5_1, .inl (c5_1, 120, .inl f5_1))])) (va_A [(o5, .inr (5, [.ref a5_0, .ref a5_1, .ref a5_2, .ref a5_3, .ref a5_4, .ref a5_5, .ref a5_6])), (a5_1, .inl (c5_1, 120, .inl f5_1))] sz)) 0 0 (va_A [(o5, .inr (5, [.ref a5_0, .ref a5_1, .ref a5_2, .ref a5_3, .ref a5_4, .ref a5_5, .ref a5_6])), (a5_1, .inl (c5_1, 120, .inl f5_1))] sz) := by
  refine kMet (y := yX5_partOf) (wsM := wsX5_partOf) (cc := cX5_partOf) (maxL := 2) (ret := (some .int)) (rm := ({ frames := 0, cells := 0, slots := 0, locals := 0 } : Room)) (mc := 0) (ms := 0) (av := [.ref o5, .int (nI m9)]) (D := (dC, dI)) (wc := [(o5, .inr (5, [.ref a5_0, .ref a5_1, .ref a5_2, .ref a5_3, .ref a5_4, .ref a5_5, .ref a5_6])), (a5_1, .inl (c5_1, 120, .inl f5_1))]) (tc := [(c5_1, .int)]) (sz := sz) (X := fun U => KAll (va_A [(o5, .inr (5, [.ref a5_0, .ref a5_1, .ref a5_2, .ref a5_3, .ref a5_4, .ref a5_5, .ref a5_6])), (a5_1, .inl (c5_1, 120, .inl f5_1))] sz) U) (Qc := fun A => va_Qi (fun (r : Int32) (u : Unit) => r = nI (pN (f5_1 m9))) (KPost (dC, dI) A (fun (u : Unit) => [(o5, .inr (5, [.ref a5_0, .ref a5_1, .ref a5_2, .ref a5_3, .ref a5_4, .ref a5_5, .ref a5_6])), (a5_1, .inl (c5_1, 120, .inl f5_1))])) A) (by decide) rfl (Nat.le_of_ble_eq_true rfl) ?_
  intro p e s m below meth c A ls E hr hlocks hnm hsz hAe hX h hl
  have hx := E.1
  have hb := E.2.1
  have hl : lv_has ls 2 [(0, .ref o5), (1, .int (nI m9))] := hl
  have hX : KAll A s := by rw [← hAe]; exact hX
  obtain ⟨⟨tD, hZD, hTD⟩, ⟨tX, hZX, hTX⟩, ⟨tY, hZY, hTY⟩, ⟨tP, hZP, hTP⟩, ⟨tL, hZL, hTL⟩, ⟨tM, hZM, hTM⟩, hN0_134, hN0_60, hN0_96, hN1_83, hN1_87, hN3_49, hN3_52, hN4_44, hN4_69, hN5_33, hN6_102, hN6_67, hF37, hF40, hF50, hF53⟩ := id hX
  have hk9 := hK m9 hp
  refine va_getsN (v := .ref tP) hx hb hZP h.2.2.2.1 E.2.2.2.1 (va_Nw.use rfl hF53) (fun _ h9 => h9) dX5_partOf_0 ?_
  refine lv_aload_n hx hb dX5_partOf_3 rfl (lv_at hl 0 rfl) ?_
  refine k_get (v := .ref a5_1) E h (fun w h => List.mem_cons_of_mem _ (List.mem_append_right _ h)) 0 rfl rfl 1 (Nat.le_of_ble_eq_true rfl) (List.mem_of_getElem? (i := 1) rfl) rfl dX5_partOf_4 ?_
  refine lv_iload_n hx hb dX5_partOf_7 rfl (lv_at hl 1 rfl) ?_
  refine k_iald (v := f5_1 m9) E h 1 0 rfl rfl (vp_in_nI (by omega) (by omega)) (by rw [nI_clamp (by omega)]) dX5_partOf_8 ?_
  refine va_ti (v := .int (kTabP (f5_1 m9).toNatClampNeg)) hx hb hTP h.2.2.2.1 (vp_in_iff.mpr (by omega)) rfl dX5_partOf_9 ?_
  have hP9 := h.2.1.sub [0, 1] rfl
  have hD9 := h.2.2.1.sub (ws' := [(o5, .inr (5, [.ref a5_0, .ref a5_1, .ref a5_2, .ref a5_3, .ref a5_4, .ref a5_5, .ref a5_6])), (a5_1, .inl (c5_1, 120, .inl f5_1))]) [0, 1] (by decide) rfl
  exact W.iret (v := kTabP (f5_1 m9).toNatClampNeg) hx hb hr (fun t ht hW => ⟨⟨kTabP (f5_1 m9).toNatClampNeg, (), rfl, (kTabP_N hk9), (by rw [ht]; exact hP9), hD9⟩, h.2.2.2.1.F ht⟩) h.2.2.2.1.2.2 dX5_partOf_10 hlocks
set_option maxHeartbeats 4000000 in
set_option maxRecDepth 100000 in
theorem c_canTrapN (l : Launch) (dC : Nat → ClassId) (dI : Nat → Nat → Nat) (sz : Nat) (o5 : Nat) (a5_0 : Nat) (a5_1 : Nat) (a5_2 : Nat) (a5_3 : Nat) (a5_4 : Nat) (a5_5 : Nat) (a5_6 : Nat) (c5_1 : ClassId) (f5_1 : Nat → Int32) (m9 : Nat) (hp : m9 < 120) : Met l yX5_canTrap wsX5_canTrap ({ frames := 0, cells := 0, slots := 0, locals := 0 } : Room) (va_Pc [.ref o5, .int (nI m9)] (KPre (dC, dI) [(o5, .inr (5, [.ref a5_0, .ref a5_1, .ref a5_2, .ref a5_3, .ref a5_4, .ref a5_5, .ref a5_6])), (a5_1, .inl (c5_1, 120, .inl f5_1))] [(c5_1, .int)] sz (fun _ => True))) (va_Qi (fun (r : Int32) (u : Unit) => r = if ((f5_1 m9).toInt = 7 ∨ (f5_1 m9).toInt = 8 ∨ (f5_1 m9).toInt = 10) then 1 else 0) (KPost (dC, dI) (va_A [(o5, .inr (5, [.ref a5_0, .ref a5_1, .ref a5_2, .ref a5_3, .ref a5_4, .ref a5_5, .ref a5_6])), (a5_1, .inl (c5_1, 120, .inl f5_1))] sz) (fun (u : Unit) => [(o5, .inr (5, [.ref a5_0, .ref a5_1, .ref a5_2, .ref a5_3, .ref a5_4, .ref a5_5, .ref a5_6])), (a5_1, .inl (c5_1, 120, .inl f5_1))])) (va_A [(o5, .inr (5, [.ref a5_0, .ref a5_1, .ref a5_2, .ref a5_3, .ref a5_4, .ref a5_5, .ref a5_6])), (a5_1, .inl (c5_1, 120, .inl f5_1))] sz)) 0 0 (va_A [(o5, .inr (5, [.ref a5_0, .ref a5_1, .ref a5_2, .ref a5_3, .ref a5_4, .ref a5_5, .ref a5_6])), (a5_1, .inl (c5_1, 120, .inl f5_1))] sz) := by
  refine kMet (y := yX5_canTrap) (wsM := wsX5_canTrap) (cc := cX5_canTrap) (maxL := 3) (ret := (some .boolean)) (rm := ({ frames := 0, cells := 0, slots := 0, locals := 0 } : Room)) (mc := 0) (ms := 0) (av := [.ref o5, .int (nI m9)]) (D := (dC, dI)) (wc := [(o5, .inr (5, [.ref a5_0, .ref a5_1, .ref a5_2, .ref a5_3, .ref a5_4, .ref a5_5, .ref a5_6])), (a5_1, .inl (c5_1, 120, .inl f5_1))]) (tc := [(c5_1, .int)]) (sz := sz) (X := fun _ => True) (Qc := fun A => va_Qi (fun (r : Int32) (u : Unit) => r = if ((f5_1 m9).toInt = 7 ∨ (f5_1 m9).toInt = 8 ∨ (f5_1 m9).toInt = 10) then 1 else 0) (KPost (dC, dI) A (fun (u : Unit) => [(o5, .inr (5, [.ref a5_0, .ref a5_1, .ref a5_2, .ref a5_3, .ref a5_4, .ref a5_5, .ref a5_6])), (a5_1, .inl (c5_1, 120, .inl f5_1))])) A) (by decide) rfl (Nat.le_of_ble_eq_true rfl) ?_
  intro p e s m below meth c A ls E hr hlocks hnm hsz hAe hX h hl
  have hx := E.1
  have hb := E.2.1
  have hl : lv_has ls 3 [(0, .ref o5), (1, .int (nI m9))] := hl
  refine lv_aload_n hx hb dX5_canTrap_0 rfl (lv_at hl 0 rfl) ?_
  refine k_get (v := .ref a5_1) E h (fun w h => List.mem_cons_of_mem _ (List.mem_append_right _ h)) 0 rfl rfl 1 (Nat.le_of_ble_eq_true rfl) (List.mem_of_getElem? (i := 1) rfl) rfl dX5_canTrap_1 ?_
  refine lv_iload_n hx hb dX5_canTrap_4 rfl (lv_at hl 1 rfl) ?_
  refine k_iald (v := f5_1 m9) E h 1 0 rfl rfl (vp_in_nI (by omega) (by omega)) (by rw [nI_clamp (by omega)]) dX5_canTrap_5 ?_
  refine lv_istore_n (lv' := [(2, .int (f5_1 m9)), (0, .ref o5), (1, .int (nI m9))]) hx hb dX5_canTrap_6 rfl hl (Nat.le_of_ble_eq_true rfl) rfl (fun ls hl => ?_)
  refine lv_iload_n hx hb dX5_canTrap_7 rfl (lv_at hl 0 rfl) ?_
  refine lv_bipush (v := 7) hx hb dX5_canTrap_8 kbi_7 ?_
  refine lv_icmp_eq (tgt := 25) hx hb dX5_canTrap_10 rfl (fun c_1 => ?_) (fun c_1 => ?_)
  · skip
    have i_1 : (f5_1 m9).toInt = 7 := (fa_eq _ _).mp c_1
    refine lv_iconst (v := 1) hx hb dX5_canTrap_25 kic_1 ?_
    refine lv_goto (tgt := 30) hx hb dX5_canTrap_26 rfl ?_
    have hP9 := h.2.1.sub [0, 1] rfl
    have hD9 := h.2.2.1.sub (ws' := [(o5, .inr (5, [.ref a5_0, .ref a5_1, .ref a5_2, .ref a5_3, .ref a5_4, .ref a5_5, .ref a5_6])), (a5_1, .inl (c5_1, 120, .inl f5_1))]) [0, 1] (by decide) rfl
    exact W.zret (v := 1) hx hb hr (by decide) (fun t ht hW => ⟨⟨1, (), rfl, (by (first | rw [] | skip); (repeat' split) <;> first | (with_reducible rfl) | (exfalso; omega) | rfl | omega | contradiction), (by rw [ht]; exact hP9), hD9⟩, h.2.2.2.1.F ht⟩) h.2.2.2.1.2.2 dX5_canTrap_30 hlocks
  · skip
    have i_1 : ¬ (f5_1 m9).toInt = 7 := fun h9 => c_1 ((fa_eq _ _).mpr h9)
    refine lv_iload_n hx hb dX5_canTrap_13 rfl (lv_at hl 0 rfl) ?_
    refine lv_bipush (v := 8) hx hb dX5_canTrap_14 kbi_8 ?_
    refine lv_icmp_eq (tgt := 25) hx hb dX5_canTrap_16 rfl (fun c_2 => ?_) (fun c_2 => ?_)
    · skip
      have i_2 : (f5_1 m9).toInt = 8 := (fa_eq _ _).mp c_2
      refine lv_iconst (v := 1) hx hb dX5_canTrap_25 kic_1 ?_
      refine lv_goto (tgt := 30) hx hb dX5_canTrap_26 rfl ?_
      have hP9 := h.2.1.sub [0, 1] rfl
      have hD9 := h.2.2.1.sub (ws' := [(o5, .inr (5, [.ref a5_0, .ref a5_1, .ref a5_2, .ref a5_3, .ref a5_4, .ref a5_5, .ref a5_6])), (a5_1, .inl (c5_1, 120, .inl f5_1))]) [0, 1] (by decide) rfl
      exact W.zret (v := 1) hx hb hr (by decide) (fun t ht hW => ⟨⟨1, (), rfl, (by (first | rw [] | skip); (repeat' split) <;> first | (with_reducible rfl) | (exfalso; omega) | rfl | omega | contradiction), (by rw [ht]; exact hP9), hD9⟩, h.2.2.2.1.F ht⟩) h.2.2.2.1.2.2 dX5_canTrap_30 hlocks
    · skip
      have i_2 : ¬ (f5_1 m9).toInt = 8 := fun h9 => c_2 ((fa_eq _ _).mpr h9)
      refine lv_iload_n hx hb dX5_canTrap_19 rfl (lv_at hl 0 rfl) ?_
      refine lv_bipush (v := 10) hx hb dX5_canTrap_20 kbi_10 ?_
      refine lv_icmp_ne (tgt := 29) hx hb dX5_canTrap_22 rfl (fun c_3 => ?_) (fun c_3 => ?_)
      · skip
        have i_3 : ¬ (f5_1 m9).toInt = 10 := fun h9 => c_3 ((fa_eq _ _).mpr h9)
        refine lv_iconst (v := 0) hx hb dX5_canTrap_29 kic_0 ?_
        have hP9 := h.2.1.sub [0, 1] rfl
        have hD9 := h.2.2.1.sub (ws' := [(o5, .inr (5, [.ref a5_0, .ref a5_1, .ref a5_2, .ref a5_3, .ref a5_4, .ref a5_5, .ref a5_6])), (a5_1, .inl (c5_1, 120, .inl f5_1))]) [0, 1] (by decide) rfl
        exact W.zret (v := 0) hx hb hr (by decide) (fun t ht hW => ⟨⟨0, (), rfl, (by (first | rw [] | skip); (repeat' split) <;> first | (with_reducible rfl) | (exfalso; omega) | rfl | omega | contradiction), (by rw [ht]; exact hP9), hD9⟩, h.2.2.2.1.F ht⟩) h.2.2.2.1.2.2 dX5_canTrap_30 hlocks
      · skip
        have i_3 : (f5_1 m9).toInt = 10 := (fa_eq _ _).mp c_3
        refine lv_iconst (v := 1) hx hb dX5_canTrap_25 kic_1 ?_
        refine lv_goto (tgt := 30) hx hb dX5_canTrap_26 rfl ?_
        have hP9 := h.2.1.sub [0, 1] rfl
        have hD9 := h.2.2.1.sub (ws' := [(o5, .inr (5, [.ref a5_0, .ref a5_1, .ref a5_2, .ref a5_3, .ref a5_4, .ref a5_5, .ref a5_6])), (a5_1, .inl (c5_1, 120, .inl f5_1))]) [0, 1] (by decide) rfl
        exact W.zret (v := 1) hx hb hr (by decide) (fun t ht hW => ⟨⟨1, (), rfl, (by (first | rw [] | skip); (repeat' split) <;> first | (with_reducible rfl) | (exfalso; omega) | rfl | omega | contradiction), (by rw [ht]; exact hP9), hD9⟩, h.2.2.2.1.F ht⟩) h.2.2.2.1.2.2 dX5_canTrap_30 hlocks
set_option maxHeartbeats 4000000 in
set_option maxRecDepth 100000 in
theorem c_needN (l : Launch) (dC : Nat → ClassId) (dI : Nat → Nat → Nat) (sz : Nat) (o5 : Nat) (a5_0 : Nat) (a5_1 : Nat) (a5_2 : Nat) (a5_3 : Nat) (a5_4 : Nat) (a5_5 : Nat) (a5_6 : Nat) (c5_1 : ClassId) (f5_1 : Nat → Int32) (c5_5 : ClassId) (f5_5 : Nat → Int32) (c5_6 : ClassId) (f5_6 : Nat → Int32) (m9 : Nat) (i9 : Nat) (hp : m9 < 120 ∧ i9 < 120) : Met l yX5_need wsX5_need ({ frames := 1, cells := 0, slots := 0, locals := 22 } : Room) (va_Pc [.ref o5, .int (nI m9), .int (nI i9)] (KPre (dC, dI) [(o5, .inr (5, [.ref a5_0, .ref a5_1, .ref a5_2, .ref a5_3, .ref a5_4, .ref a5_5, .ref a5_6])), (a5_1, .inl (c5_1, 120, .inl f5_1)), (a5_5, .inl (c5_5, 120, .inl f5_5)), (a5_6, .inl (c5_6, 120, .inl f5_6))] [(c5_1, .int), (c5_5, .int), (c5_6, .int)] sz (fun _ => True))) (va_Qi (fun (r : Int32) (u : Unit) => r = nI (kNd (f5_1 m9) (f5_1 i9) (f5_5 m9) (f5_6 m9) (f5_5 i9) (f5_6 i9))) (KPost (dC, dI) (va_A [(o5, .inr (5, [.ref a5_0, .ref a5_1, .ref a5_2, .ref a5_3, .ref a5_4, .ref a5_5, .ref a5_6])), (a5_1, .inl (c5_1, 120, .inl f5_1)), (a5_5, .inl (c5_5, 120, .inl f5_5)), (a5_6, .inl (c5_6, 120, .inl f5_6))] sz) (fun (u : Unit) => [(o5, .inr (5, [.ref a5_0, .ref a5_1, .ref a5_2, .ref a5_3, .ref a5_4, .ref a5_5, .ref a5_6])), (a5_1, .inl (c5_1, 120, .inl f5_1)), (a5_5, .inl (c5_5, 120, .inl f5_5)), (a5_6, .inl (c5_6, 120, .inl f5_6))])) (va_A [(o5, .inr (5, [.ref a5_0, .ref a5_1, .ref a5_2, .ref a5_3, .ref a5_4, .ref a5_5, .ref a5_6])), (a5_1, .inl (c5_1, 120, .inl f5_1)), (a5_5, .inl (c5_5, 120, .inl f5_5)), (a5_6, .inl (c5_6, 120, .inl f5_6))] sz)) 0 0 (va_A [(o5, .inr (5, [.ref a5_0, .ref a5_1, .ref a5_2, .ref a5_3, .ref a5_4, .ref a5_5, .ref a5_6])), (a5_1, .inl (c5_1, 120, .inl f5_1)), (a5_5, .inl (c5_5, 120, .inl f5_5)), (a5_6, .inl (c5_6, 120, .inl f5_6))] sz) := by
  refine kMet (y := yX5_need) (wsM := wsX5_need) (cc := cX5_need) (maxL := 3) (ret := (some .int)) (rm := ({ frames := 1, cells := 0, slots := 0, locals := 22 } : Room)) (mc := 0) (ms := 0) (av := [.ref o5, .int (nI m9), .int (nI i9)]) (D := (dC, dI)) (wc := [(o5, .inr (5, [.ref a5_0, .ref a5_1, .ref a5_2, .ref a5_3, .ref a5_4, .ref a5_5, .ref a5_6])), (a5_1, .inl (c5_1, 120, .inl f5_1)), (a5_5, .inl (c5_5, 120, .inl f5_5)), (a5_6, .inl (c5_6, 120, .inl f5_6))]) (tc := [(c5_1, .int), (c5_5, .int), (c5_6, .int)]) (sz := sz) (X := fun _ => True) (Qc := fun A => va_Qi (fun (r : Int32) (u : Unit) => r = nI (kNd (f5_1 m9) (f5_1 i9) (f5_5 m9) (f5_6 m9) (f5_5 i9) (f5_6 i9))) (KPost (dC, dI) A (fun (u : Unit) => [(o5, .inr (5, [.ref a5_0, .ref a5_1, .ref a5_2, .ref a5_3, .ref a5_4, .ref a5_5, .ref a5_6])), (a5_1, .inl (c5_1, 120, .inl f5_1)), (a5_5, .inl (c5_5, 120, .inl f5_5)), (a5_6, .inl (c5_6, 120, .inl f5_6))])) A) (by decide) rfl (Nat.le_of_ble_eq_true rfl) ?_
  intro p e s m below meth c A ls E hr hlocks hnm hsz hAe hX h hl
  have hx := E.1
  have hb := E.2.1
  have hl : lv_has ls 3 [(0, .ref o5), (1, .int (nI m9)), (2, .int (nI i9))] := hl
  refine lv_aload_n hx hb dX5_need_0 rfl (lv_at hl 0 rfl) ?_
  refine k_get (v := .ref a5_6) E h (fun w h => List.mem_cons_of_mem _ (List.mem_append_right _ h)) 0 rfl rfl 6 (Nat.le_of_ble_eq_true rfl) (List.mem_of_getElem? (i := 1) rfl) rfl dX5_need_1 ?_
  refine lv_iload_n hx hb dX5_need_4 rfl (lv_at hl 1 rfl) ?_
  refine k_iald (v := f5_6 m9) E h 3 2 rfl rfl (vp_in_nI (by omega) (by omega)) (by rw [nI_clamp (by omega)]) dX5_need_5 ?_
  refine lv_aload_n hx hb dX5_need_6 rfl (lv_at hl 0 rfl) ?_
  refine k_get (v := .ref a5_5) E h (fun w h => List.mem_cons_of_mem _ (List.mem_append_right _ h)) 0 rfl rfl 5 (Nat.le_of_ble_eq_true rfl) (List.mem_of_getElem? (i := 2) rfl) rfl dX5_need_7 ?_
  refine lv_iload_n hx hb dX5_need_10 rfl (lv_at hl 2 rfl) ?_
  refine k_iald (v := f5_5 i9) E h 2 1 rfl rfl (vp_in_nI (by omega) (by omega)) (by rw [nI_clamp (by omega)]) dX5_need_11 ?_
  refine lv_aload_n hx hb dX5_need_12 rfl (lv_at hl 0 rfl) ?_
  refine k_get (v := .ref a5_6) E h (fun w h => List.mem_cons_of_mem _ (List.mem_append_right _ h)) 0 rfl rfl 6 (Nat.le_of_ble_eq_true rfl) (List.mem_of_getElem? (i := 1) rfl) rfl dX5_need_13 ?_
  refine lv_iload_n hx hb dX5_need_16 rfl (lv_at hl 2 rfl) ?_
  refine W.eq (g2 := F0 m 17 ls [.int (nI i9), .ref a5_6, .int (f5_5 i9), .int (f5_6 m9)]) rfl ?_
  refine k_iald (v := f5_6 i9) E h 3 2 rfl rfl (vp_in_nI (by omega) (by omega)) (by rw [nI_clamp (by omega)]) dX5_need_17 ?_
  refine lv_ior hx hb dX5_need_18 ?_
  refine lv_iand hx hb dX5_need_19 ?_
  refine lv_if_ne (tgt := 34) hx hb dX5_need_20 rfl (fun c_1 => ?_) (fun c_1 => ?_)
  · skip
    have i_1 : ¬ ((f5_6 m9) &&& ((f5_5 i9) ||| (f5_6 i9))).toInt = 0 := fun h9 => c_1 ((fa_eq _ _).mpr h9)
    refine lv_iconst (v := 2) hx hb dX5_need_34 kic_2 ?_
    have hP9 := h.2.1.sub [0, 1, 2, 3] rfl
    have hD9 := h.2.2.1.sub (ws' := [(o5, .inr (5, [.ref a5_0, .ref a5_1, .ref a5_2, .ref a5_3, .ref a5_4, .ref a5_5, .ref a5_6])), (a5_1, .inl (c5_1, 120, .inl f5_1)), (a5_5, .inl (c5_5, 120, .inl f5_5)), (a5_6, .inl (c5_6, 120, .inl f5_6))]) [0, 1, 2, 3] (by decide) rfl
    exact W.iret (v := 2) hx hb hr (fun t ht hW => ⟨⟨2, (), rfl, (by unfold kNd; (repeat' split) <;> first | (with_reducible rfl) | (exfalso; omega) | rfl | omega), (by rw [ht]; exact hP9), hD9⟩, h.2.2.2.1.F ht⟩) h.2.2.2.1.2.2 dX5_need_35 hlocks
  · skip
    have i_1 : ((f5_6 m9) &&& ((f5_5 i9) ||| (f5_6 i9))).toInt = 0 := (fa_eq _ _).mp c_1
    refine lv_aload_n hx hb dX5_need_23 rfl (lv_at hl 0 rfl) ?_
    refine k_get (v := .ref a5_1) E h (fun w h => List.mem_cons_of_mem _ (List.mem_append_right _ h)) 0 rfl rfl 1 (Nat.le_of_ble_eq_true rfl) (List.mem_of_getElem? (i := 3) rfl) rfl dX5_need_24 ?_
    refine lv_iload_n hx hb dX5_need_27 rfl (lv_at hl 1 rfl) ?_
    refine k_iald (v := f5_1 m9) E h 1 0 rfl rfl (vp_in_nI (by omega) (by omega)) (by rw [nI_clamp (by omega)]) dX5_need_28 ?_
    refine lv_bipush (v := 9) hx hb dX5_need_29 kbi_9 ?_
    refine lv_icmp_ne (tgt := 36) hx hb dX5_need_31 rfl (fun c_2 => ?_) (fun c_2 => ?_)
    · skip
      have i_2 : ¬ (f5_1 m9).toInt = 9 := fun h9 => c_2 ((fa_eq _ _).mpr h9)
      refine lv_aload_n hx hb dX5_need_36 rfl (lv_at hl 0 rfl) ?_
      refine lv_iload_n hx hb dX5_need_37 rfl (lv_at hl 1 rfl) ?_
      refine kc_i (wc := [(o5, .inr (5, [.ref a5_0, .ref a5_1, .ref a5_2, .ref a5_3, .ref a5_4, .ref a5_5, .ref a5_6])), (a5_1, .inl (c5_1, 120, .inl f5_1))]) (wr := [(a5_5, .inl (c5_5, 120, .inl f5_5)), (a5_6, .inl (c5_6, 120, .inl f5_6))]) h (va_runV (As := [.int (nI m9)]) (rest := []) E (c_canTrapN l dC dI _ (o5 := o5) (a5_0 := a5_0) (a5_1 := a5_1) (a5_2 := a5_2) (a5_3 := a5_3) (a5_4 := a5_4) (a5_5 := a5_5) (a5_6 := a5_6) (c5_1 := c5_1) (f5_1 := f5_1) (m9 := m9) (hp := (by first | decide | omega))) (cwV 1 E.2.2.2.2 gX5_need_X5_canTrap rfl rfl rfl hdV_X5_canTrap ⟨Nat.le_of_ble_eq_true rfl, Nat.le_of_ble_eq_true rfl⟩) (kPreV (q0 := 0) (ci := 5) (q := (RX5, TX5, 7)) h KX_true (fun _ _ _ => trivial) [0, 1] [0] (by decide) rfl rfl rfl rfl) rfl rfl hl.1 rfl (lv_room (Nat.le_of_ble_eq_true rfl)) dX5_need_38 ⟨Nat.le_of_ble_eq_true rfl, Nat.le_of_ble_eq_true rfl⟩) [0, 1] [2, 3] rfl rfl (by decide) (by decide) (fun r_3 u_3 H locs hw_3 h => ?_)
      have h : KS (dC, dI) A [(a5_5, .inl (c5_5, 120, .inl f5_5)), (a5_6, .inl (c5_6, 120, .inl f5_6)), (o5, .inr (5, [.ref a5_0, .ref a5_1, .ref a5_2, .ref a5_3, .ref a5_4, .ref a5_5, .ref a5_6])), (a5_1, .inl (c5_1, 120, .inl f5_1))] [(c5_1, .int), (c5_5, .int), (c5_6, .int)] s H locs := h
      have hw_3 : r_3 = if ((f5_1 m9).toInt = 7 ∨ (f5_1 m9).toInt = 8 ∨ (f5_1 m9).toInt = 10) then 1 else 0 := by first | exact hw_3 | (simp only [Int32.toInt_toInt64] at hw_3; exact hw_3)
      refine W.eq (g2 := F0 m 41 ls [.int r_3]) rfl ?_
      refine lv_if_eq (tgt := 63) hx hb dX5_need_41 rfl (fun c_4 => ?_) (fun c_4 => ?_)
      · skip
        have b_4 := kb0 hw_3 c_4
        refine lv_aload_n hx hb dX5_need_63 rfl (lv_at hl 0 rfl) ?_
        refine k_get (v := .ref a5_5) E h (fun w h => List.mem_cons_of_mem _ (List.mem_append_right _ h)) 2 rfl rfl 5 (Nat.le_of_ble_eq_true rfl) (List.mem_of_getElem? (i := 2) rfl) rfl dX5_need_64 ?_
        refine lv_iload_n hx hb dX5_need_67 rfl (lv_at hl 1 rfl) ?_
        refine k_iald (v := f5_5 m9) E h 0 1 rfl rfl (vp_in_nI (by omega) (by omega)) (by rw [nI_clamp (by omega)]) dX5_need_68 ?_
        refine lv_aload_n hx hb dX5_need_69 rfl (lv_at hl 0 rfl) ?_
        refine k_get (v := .ref a5_6) E h (fun w h => List.mem_cons_of_mem _ (List.mem_append_right _ h)) 2 rfl rfl 6 (Nat.le_of_ble_eq_true rfl) (List.mem_of_getElem? (i := 1) rfl) rfl dX5_need_70 ?_
        refine lv_iload_n hx hb dX5_need_73 rfl (lv_at hl 2 rfl) ?_
        refine k_iald (v := f5_6 i9) E h 1 2 rfl rfl (vp_in_nI (by omega) (by omega)) (by rw [nI_clamp (by omega)]) dX5_need_74 ?_
        refine lv_iand hx hb dX5_need_75 ?_
        refine lv_if_ne (tgt := 90) hx hb dX5_need_76 rfl (fun c_5 => ?_) (fun c_5 => ?_)
        · skip
          have i_5 : ¬ ((f5_5 m9) &&& (f5_6 i9)).toInt = 0 := fun h9 => c_5 ((fa_eq _ _).mpr h9)
          refine lv_iconst (v := 1) hx hb dX5_need_90 kic_1 ?_
          have hP9 := h.2.1.sub [2, 3, 0, 1] rfl
          have hD9 := h.2.2.1.sub (ws' := [(o5, .inr (5, [.ref a5_0, .ref a5_1, .ref a5_2, .ref a5_3, .ref a5_4, .ref a5_5, .ref a5_6])), (a5_1, .inl (c5_1, 120, .inl f5_1)), (a5_5, .inl (c5_5, 120, .inl f5_5)), (a5_6, .inl (c5_6, 120, .inl f5_6))]) [2, 3, 0, 1] (by decide) rfl
          exact W.iret (v := 1) hx hb hr (fun t ht hW => ⟨⟨1, (), rfl, (by unfold kNd; (repeat' split) <;> first | (with_reducible rfl) | (exfalso; omega) | rfl | omega), (by rw [ht]; exact hP9), hD9⟩, h.2.2.2.1.F ht⟩) h.2.2.2.1.2.2 dX5_need_91 hlocks
        · skip
          have i_5 : ((f5_5 m9) &&& (f5_6 i9)).toInt = 0 := (fa_eq _ _).mp c_5
          refine lv_aload_n hx hb dX5_need_79 rfl (lv_at hl 0 rfl) ?_
          refine k_get (v := .ref a5_1) E h (fun w h => List.mem_cons_of_mem _ (List.mem_append_right _ h)) 2 rfl rfl 1 (Nat.le_of_ble_eq_true rfl) (List.mem_of_getElem? (i := 3) rfl) rfl dX5_need_80 ?_
          refine lv_iload_n hx hb dX5_need_83 rfl (lv_at hl 2 rfl) ?_
          refine k_iald (v := f5_1 i9) E h 3 0 rfl rfl (vp_in_nI (by omega) (by omega)) (by rw [nI_clamp (by omega)]) dX5_need_84 ?_
          refine lv_bipush (v := 9) hx hb dX5_need_85 kbi_9 ?_
          refine lv_icmp_ne (tgt := 92) hx hb dX5_need_87 rfl (fun c_6 => ?_) (fun c_6 => ?_)
          · skip
            have i_6 : ¬ (f5_1 i9).toInt = 9 := fun h9 => c_6 ((fa_eq _ _).mpr h9)
            refine lv_iconst (v := 0) hx hb dX5_need_92 kic_0 ?_
            have hP9 := h.2.1.sub [2, 3, 0, 1] rfl
            have hD9 := h.2.2.1.sub (ws' := [(o5, .inr (5, [.ref a5_0, .ref a5_1, .ref a5_2, .ref a5_3, .ref a5_4, .ref a5_5, .ref a5_6])), (a5_1, .inl (c5_1, 120, .inl f5_1)), (a5_5, .inl (c5_5, 120, .inl f5_5)), (a5_6, .inl (c5_6, 120, .inl f5_6))]) [2, 3, 0, 1] (by decide) rfl
            exact W.iret (v := 0) hx hb hr (fun t ht hW => ⟨⟨0, (), rfl, (by unfold kNd; (repeat' split) <;> first | (with_reducible rfl) | (exfalso; omega) | rfl | omega), (by rw [ht]; exact hP9), hD9⟩, h.2.2.2.1.F ht⟩) h.2.2.2.1.2.2 dX5_need_93 hlocks
          · skip
            have i_6 : (f5_1 i9).toInt = 9 := (fa_eq _ _).mp c_6
            refine lv_iconst (v := 1) hx hb dX5_need_90 kic_1 ?_
            have hP9 := h.2.1.sub [2, 3, 0, 1] rfl
            have hD9 := h.2.2.1.sub (ws' := [(o5, .inr (5, [.ref a5_0, .ref a5_1, .ref a5_2, .ref a5_3, .ref a5_4, .ref a5_5, .ref a5_6])), (a5_1, .inl (c5_1, 120, .inl f5_1)), (a5_5, .inl (c5_5, 120, .inl f5_5)), (a5_6, .inl (c5_6, 120, .inl f5_6))]) [2, 3, 0, 1] (by decide) rfl
            exact W.iret (v := 1) hx hb hr (fun t ht hW => ⟨⟨1, (), rfl, (by unfold kNd; (repeat' split) <;> first | (with_reducible rfl) | (exfalso; omega) | rfl | omega), (by rw [ht]; exact hP9), hD9⟩, h.2.2.2.1.F ht⟩) h.2.2.2.1.2.2 dX5_need_91 hlocks
      · skip
        have b_4 := kb1 hw_3 c_4
        refine lv_aload_n hx hb dX5_need_44 rfl (lv_at hl 0 rfl) ?_
        refine k_get (v := .ref a5_6) E h (fun w h => List.mem_cons_of_mem _ (List.mem_append_right _ h)) 2 rfl rfl 6 (Nat.le_of_ble_eq_true rfl) (List.mem_of_getElem? (i := 1) rfl) rfl dX5_need_45 ?_
        refine lv_iload_n hx hb dX5_need_48 rfl (lv_at hl 2 rfl) ?_
        refine k_iald (v := f5_6 i9) E h 1 2 rfl rfl (vp_in_nI (by omega) (by omega)) (by rw [nI_clamp (by omega)]) dX5_need_49 ?_
        refine lv_if_ne (tgt := 61) hx hb dX5_need_50 rfl (fun c_7 => ?_) (fun c_7 => ?_)
        · skip
          have i_7 : ¬ (f5_6 i9).toInt = 0 := fun h9 => c_7 ((fa_eq _ _).mpr h9)
          refine lv_iconst (v := 2) hx hb dX5_need_61 kic_2 ?_
          have hP9 := h.2.1.sub [2, 3, 0, 1] rfl
          have hD9 := h.2.2.1.sub (ws' := [(o5, .inr (5, [.ref a5_0, .ref a5_1, .ref a5_2, .ref a5_3, .ref a5_4, .ref a5_5, .ref a5_6])), (a5_1, .inl (c5_1, 120, .inl f5_1)), (a5_5, .inl (c5_5, 120, .inl f5_5)), (a5_6, .inl (c5_6, 120, .inl f5_6))]) [2, 3, 0, 1] (by decide) rfl
          exact W.iret (v := 2) hx hb hr (fun t ht hW => ⟨⟨2, (), rfl, (by unfold kNd; (repeat' split) <;> first | (with_reducible rfl) | (exfalso; omega) | rfl | omega), (by rw [ht]; exact hP9), hD9⟩, h.2.2.2.1.F ht⟩) h.2.2.2.1.2.2 dX5_need_62 hlocks
        · skip
          have i_7 : (f5_6 i9).toInt = 0 := (fa_eq _ _).mp c_7
          refine lv_aload_n hx hb dX5_need_53 rfl (lv_at hl 0 rfl) ?_
          refine lv_iload_n hx hb dX5_need_54 rfl (lv_at hl 2 rfl) ?_
          refine kc_i (wc := [(o5, .inr (5, [.ref a5_0, .ref a5_1, .ref a5_2, .ref a5_3, .ref a5_4, .ref a5_5, .ref a5_6])), (a5_1, .inl (c5_1, 120, .inl f5_1))]) (wr := [(a5_5, .inl (c5_5, 120, .inl f5_5)), (a5_6, .inl (c5_6, 120, .inl f5_6))]) h (va_runV (As := [.int (nI i9)]) (rest := []) E (c_canTrapN l dC dI _ (o5 := o5) (a5_0 := a5_0) (a5_1 := a5_1) (a5_2 := a5_2) (a5_3 := a5_3) (a5_4 := a5_4) (a5_5 := a5_5) (a5_6 := a5_6) (c5_1 := c5_1) (f5_1 := f5_1) (m9 := i9) (hp := (by first | decide | omega))) (cwV 1 E.2.2.2.2 gX5_need_X5_canTrap rfl rfl rfl hdV_X5_canTrap ⟨Nat.le_of_ble_eq_true rfl, Nat.le_of_ble_eq_true rfl⟩) (kPreV (q0 := 2) (ci := 5) (q := (RX5, TX5, 7)) h KX_true (fun _ _ _ => trivial) [2, 3] [0] (by decide) rfl rfl rfl rfl) rfl rfl hl.1 rfl (lv_room (Nat.le_of_ble_eq_true rfl)) dX5_need_55 ⟨Nat.le_of_ble_eq_true rfl, Nat.le_of_ble_eq_true rfl⟩) [2, 3] [0, 1] rfl rfl (by decide) (by decide) (fun r_8 u_8 H locs hw_8 h => ?_)
          have h : KS (dC, dI) A [(a5_5, .inl (c5_5, 120, .inl f5_5)), (a5_6, .inl (c5_6, 120, .inl f5_6)), (o5, .inr (5, [.ref a5_0, .ref a5_1, .ref a5_2, .ref a5_3, .ref a5_4, .ref a5_5, .ref a5_6])), (a5_1, .inl (c5_1, 120, .inl f5_1))] [(c5_1, .int), (c5_5, .int), (c5_6, .int)] s H locs := h
          have hw_8 : r_8 = if ((f5_1 i9).toInt = 7 ∨ (f5_1 i9).toInt = 8 ∨ (f5_1 i9).toInt = 10) then 1 else 0 := by first | exact hw_8 | (simp only [Int32.toInt_toInt64] at hw_8; exact hw_8)
          refine W.eq (g2 := F0 m 58 ls [.int r_8]) rfl ?_
          refine lv_if_eq (tgt := 63) hx hb dX5_need_58 rfl (fun c_9 => ?_) (fun c_9 => ?_)
          · skip
            have b_9 := kb0 hw_8 c_9
            refine lv_aload_n hx hb dX5_need_63 rfl (lv_at hl 0 rfl) ?_
            refine k_get (v := .ref a5_5) E h (fun w h => List.mem_cons_of_mem _ (List.mem_append_right _ h)) 2 rfl rfl 5 (Nat.le_of_ble_eq_true rfl) (List.mem_of_getElem? (i := 2) rfl) rfl dX5_need_64 ?_
            refine lv_iload_n hx hb dX5_need_67 rfl (lv_at hl 1 rfl) ?_
            refine k_iald (v := f5_5 m9) E h 0 1 rfl rfl (vp_in_nI (by omega) (by omega)) (by rw [nI_clamp (by omega)]) dX5_need_68 ?_
            refine lv_aload_n hx hb dX5_need_69 rfl (lv_at hl 0 rfl) ?_
            refine k_get (v := .ref a5_6) E h (fun w h => List.mem_cons_of_mem _ (List.mem_append_right _ h)) 2 rfl rfl 6 (Nat.le_of_ble_eq_true rfl) (List.mem_of_getElem? (i := 1) rfl) rfl dX5_need_70 ?_
            refine lv_iload_n hx hb dX5_need_73 rfl (lv_at hl 2 rfl) ?_
            refine k_iald (v := f5_6 i9) E h 1 2 rfl rfl (vp_in_nI (by omega) (by omega)) (by rw [nI_clamp (by omega)]) dX5_need_74 ?_
            refine lv_iand hx hb dX5_need_75 ?_
            refine lv_if_ne (tgt := 90) hx hb dX5_need_76 rfl (fun c_10 => ?_) (fun c_10 => ?_)
            · skip
              have i_10 : ¬ ((f5_5 m9) &&& (f5_6 i9)).toInt = 0 := fun h9 => c_10 ((fa_eq _ _).mpr h9)
              refine lv_iconst (v := 1) hx hb dX5_need_90 kic_1 ?_
              have hP9 := h.2.1.sub [2, 3, 0, 1] rfl
              have hD9 := h.2.2.1.sub (ws' := [(o5, .inr (5, [.ref a5_0, .ref a5_1, .ref a5_2, .ref a5_3, .ref a5_4, .ref a5_5, .ref a5_6])), (a5_1, .inl (c5_1, 120, .inl f5_1)), (a5_5, .inl (c5_5, 120, .inl f5_5)), (a5_6, .inl (c5_6, 120, .inl f5_6))]) [2, 3, 0, 1] (by decide) rfl
              exact W.iret (v := 1) hx hb hr (fun t ht hW => ⟨⟨1, (), rfl, (by unfold kNd; (repeat' split) <;> first | (with_reducible rfl) | (exfalso; omega) | rfl | omega), (by rw [ht]; exact hP9), hD9⟩, h.2.2.2.1.F ht⟩) h.2.2.2.1.2.2 dX5_need_91 hlocks
            · skip
              have i_10 : ((f5_5 m9) &&& (f5_6 i9)).toInt = 0 := (fa_eq _ _).mp c_10
              refine lv_aload_n hx hb dX5_need_79 rfl (lv_at hl 0 rfl) ?_
              refine k_get (v := .ref a5_1) E h (fun w h => List.mem_cons_of_mem _ (List.mem_append_right _ h)) 2 rfl rfl 1 (Nat.le_of_ble_eq_true rfl) (List.mem_of_getElem? (i := 3) rfl) rfl dX5_need_80 ?_
              refine lv_iload_n hx hb dX5_need_83 rfl (lv_at hl 2 rfl) ?_
              refine k_iald (v := f5_1 i9) E h 3 0 rfl rfl (vp_in_nI (by omega) (by omega)) (by rw [nI_clamp (by omega)]) dX5_need_84 ?_
              refine lv_bipush (v := 9) hx hb dX5_need_85 kbi_9 ?_
              refine lv_icmp_ne (tgt := 92) hx hb dX5_need_87 rfl (fun c_11 => ?_) (fun c_11 => ?_)
              · skip
                have i_11 : ¬ (f5_1 i9).toInt = 9 := fun h9 => c_11 ((fa_eq _ _).mpr h9)
                refine lv_iconst (v := 0) hx hb dX5_need_92 kic_0 ?_
                have hP9 := h.2.1.sub [2, 3, 0, 1] rfl
                have hD9 := h.2.2.1.sub (ws' := [(o5, .inr (5, [.ref a5_0, .ref a5_1, .ref a5_2, .ref a5_3, .ref a5_4, .ref a5_5, .ref a5_6])), (a5_1, .inl (c5_1, 120, .inl f5_1)), (a5_5, .inl (c5_5, 120, .inl f5_5)), (a5_6, .inl (c5_6, 120, .inl f5_6))]) [2, 3, 0, 1] (by decide) rfl
                exact W.iret (v := 0) hx hb hr (fun t ht hW => ⟨⟨0, (), rfl, (by unfold kNd; (repeat' split) <;> first | (with_reducible rfl) | (exfalso; omega) | rfl | omega), (by rw [ht]; exact hP9), hD9⟩, h.2.2.2.1.F ht⟩) h.2.2.2.1.2.2 dX5_need_93 hlocks
              · skip
                have i_11 : (f5_1 i9).toInt = 9 := (fa_eq _ _).mp c_11
                refine lv_iconst (v := 1) hx hb dX5_need_90 kic_1 ?_
                have hP9 := h.2.1.sub [2, 3, 0, 1] rfl
                have hD9 := h.2.2.1.sub (ws' := [(o5, .inr (5, [.ref a5_0, .ref a5_1, .ref a5_2, .ref a5_3, .ref a5_4, .ref a5_5, .ref a5_6])), (a5_1, .inl (c5_1, 120, .inl f5_1)), (a5_5, .inl (c5_5, 120, .inl f5_5)), (a5_6, .inl (c5_6, 120, .inl f5_6))]) [2, 3, 0, 1] (by decide) rfl
                exact W.iret (v := 1) hx hb hr (fun t ht hW => ⟨⟨1, (), rfl, (by unfold kNd; (repeat' split) <;> first | (with_reducible rfl) | (exfalso; omega) | rfl | omega), (by rw [ht]; exact hP9), hD9⟩, h.2.2.2.1.F ht⟩) h.2.2.2.1.2.2 dX5_need_91 hlocks
          · skip
            have b_9 := kb1 hw_8 c_9
            refine lv_iconst (v := 2) hx hb dX5_need_61 kic_2 ?_
            have hP9 := h.2.1.sub [2, 3, 0, 1] rfl
            have hD9 := h.2.2.1.sub (ws' := [(o5, .inr (5, [.ref a5_0, .ref a5_1, .ref a5_2, .ref a5_3, .ref a5_4, .ref a5_5, .ref a5_6])), (a5_1, .inl (c5_1, 120, .inl f5_1)), (a5_5, .inl (c5_5, 120, .inl f5_5)), (a5_6, .inl (c5_6, 120, .inl f5_6))]) [2, 3, 0, 1] (by decide) rfl
            exact W.iret (v := 2) hx hb hr (fun t ht hW => ⟨⟨2, (), rfl, (by unfold kNd; (repeat' split) <;> first | (with_reducible rfl) | (exfalso; omega) | rfl | omega), (by rw [ht]; exact hP9), hD9⟩, h.2.2.2.1.F ht⟩) h.2.2.2.1.2.2 dX5_need_62 hlocks
    · skip
      have i_2 : (f5_1 m9).toInt = 9 := (fa_eq _ _).mp c_2
      refine lv_iconst (v := 2) hx hb dX5_need_34 kic_2 ?_
      have hP9 := h.2.1.sub [0, 1, 2, 3] rfl
      have hD9 := h.2.2.1.sub (ws' := [(o5, .inr (5, [.ref a5_0, .ref a5_1, .ref a5_2, .ref a5_3, .ref a5_4, .ref a5_5, .ref a5_6])), (a5_1, .inl (c5_1, 120, .inl f5_1)), (a5_5, .inl (c5_5, 120, .inl f5_5)), (a5_6, .inl (c5_6, 120, .inl f5_6))]) [0, 1, 2, 3] (by decide) rfl
      exact W.iret (v := 2) hx hb hr (fun t ht hW => ⟨⟨2, (), rfl, (by unfold kNd; (repeat' split) <;> first | (with_reducible rfl) | (exfalso; omega) | rfl | omega), (by rw [ht]; exact hP9), hD9⟩, h.2.2.2.1.F ht⟩) h.2.2.2.1.2.2 dX5_need_35 hlocks
set_option maxHeartbeats 4000000 in
set_option maxRecDepth 100000 in
theorem e_X5_readsOf (l : Launch) (dC : Nat → ClassId) (dI : Nat → Nat → Nat) (sz : Nat) (p0 : Int32) (p1 : Int32) (p2 : Int32) (hp : 0 ≤ p0.toInt ∧ p0.toInt < 11) : Met l yX5_readsOf wsX5_readsOf ({ frames := 0, cells := 0, slots := 0, locals := 0 } : Room) (va_Pc [.int p0, .int p1, .int p2] (KPre (dC, dI) [] [] sz (fun U => KAll (va_A [] sz) U))) (va_Qi (fun (r : Int32) (u : Unit) => r = kRd p0 p1 p2) (KPost (dC, dI) (va_A [] sz) (fun (u : Unit) => [])) (va_A [] sz)) 0 0 (va_A [] sz) := by
  refine kMet (y := yX5_readsOf) (wsM := wsX5_readsOf) (cc := cX5_readsOf) (maxL := 4) (ret := (some .int)) (rm := ({ frames := 0, cells := 0, slots := 0, locals := 0 } : Room)) (mc := 0) (ms := 0) (av := [.int p0, .int p1, .int p2]) (D := (dC, dI)) (wc := []) (tc := []) (sz := sz) (X := fun U => KAll (va_A [] sz) U) (Qc := fun A => va_Qi (fun (r : Int32) (u : Unit) => r = kRd p0 p1 p2) (KPost (dC, dI) A (fun (u : Unit) => [])) A) (by decide) rfl (Nat.le_of_ble_eq_true rfl) ?_
  intro p e s m below meth c A ls E hr hlocks hnm hsz hAe hX h hl
  have hx := E.1
  have hb := E.2.1
  have hl : lv_has ls 4 [(0, .int p0), (1, .int p1), (2, .int p2)] := hl
  have hX : KAll A s := by rw [← hAe]; exact hX
  obtain ⟨⟨tD, hZD, hTD⟩, ⟨tX, hZX, hTX⟩, ⟨tY, hZY, hTY⟩, ⟨tP, hZP, hTP⟩, ⟨tL, hZL, hTL⟩, ⟨tM, hZM, hTM⟩, hN0_134, hN0_60, hN0_96, hN1_83, hN1_87, hN3_49, hN3_52, hN4_44, hN4_69, hN5_33, hN6_102, hN6_67, hF37, hF40, hF50, hF53⟩ := id hX
  have hTF := kTab_f hp
  refine lv_iconst (v := 0) hx hb dX5_readsOf_0 kic_0 ?_
  refine lv_istore_n (lv' := [(3, .int 0), (0, .int p0), (1, .int p1), (2, .int p2)]) hx hb dX5_readsOf_1 rfl hl (Nat.le_of_ble_eq_true rfl) rfl (fun ls hl => ?_)
  refine va_getsN (v := .ref tX) hx hb hZX h.2.2.2.1 E.2.2.2.1 (va_Nw.use rfl hF50) (fun _ h9 => h9) dX5_readsOf_2 ?_
  refine lv_iload_n hx hb dX5_readsOf_5 rfl (lv_at hl 1 rfl) ?_
  refine va_ti (v := .int (kTabX p0.toNatClampNeg)) hx hb hTX h.2.2.2.1 (vp_in_iff.mpr (by omega)) rfl dX5_readsOf_6 ?_
  refine lv_iconst (v := 1) hx hb dX5_readsOf_7 kic_1 ?_
  refine lv_icmp_ne (tgt := 17) hx hb dX5_readsOf_8 rfl (fun c_1 => ?_) (fun c_1 => ?_)
  · skip
    have i_1 : ¬ (kTabX p0.toNatClampNeg).toInt = 1 := fun h9 => c_1 ((fa_eq _ _).mpr h9)
    refine va_getsN (v := .ref tY) hx hb hZY h.2.2.2.1 E.2.2.2.1 (va_Nw.use rfl hF40) (fun _ h9 => h9) dX5_readsOf_17 ?_
    refine lv_iload_n hx hb dX5_readsOf_20 rfl (lv_at hl 1 rfl) ?_
    refine va_ti (v := .int (kTabY p0.toNatClampNeg)) hx hb hTY h.2.2.2.1 (vp_in_iff.mpr (by omega)) rfl dX5_readsOf_21 ?_
    refine lv_iconst (v := 1) hx hb dX5_readsOf_22 kic_1 ?_
    refine lv_icmp_ne (tgt := 32) hx hb dX5_readsOf_23 rfl (fun c_2 => ?_) (fun c_2 => ?_)
    · skip
      have i_2 : ¬ (kTabY p0.toNatClampNeg).toInt = 1 := fun h9 => c_2 ((fa_eq _ _).mpr h9)
      refine lv_iload_n hx hb dX5_readsOf_32 rfl (lv_at hl 1 rfl) ?_
      refine lv_bipush (v := 7) hx hb dX5_readsOf_33 kbi_7 ?_
      refine lv_icmp_ne (tgt := 44) hx hb dX5_readsOf_35 rfl (fun c_3 => ?_) (fun c_3 => ?_)
      · skip
        have i_3 : ¬ p0.toInt = 7 := fun h9 => c_3 ((fa_eq _ _).mpr h9)
        refine lv_iload_n hx hb dX5_readsOf_44 rfl (lv_at hl 1 rfl) ?_
        refine lv_bipush (v := 9) hx hb dX5_readsOf_45 kbi_9 ?_
        refine lv_icmp_eq (tgt := 56) hx hb dX5_readsOf_47 rfl (fun c_4 => ?_) (fun c_4 => ?_)
        · skip
          have i_4 : p0.toInt = 9 := (fa_eq _ _).mp c_4
          refine lv_iload_n hx hb dX5_readsOf_56 rfl (lv_at hl 0 rfl) ?_
          refine lv_iconst (v := 1) hx hb dX5_readsOf_57 kic_1 ?_
          refine lv_bipush (v := 8) hx hb dX5_readsOf_58 kbi_8 ?_
          refine lv_iload_n hx hb dX5_readsOf_60 rfl (lv_at hl 2 rfl) ?_
          refine lv_iadd hx hb dX5_readsOf_61 ?_
          refine lv_ishl hx hb dX5_readsOf_62 ?_
          refine lv_ior hx hb dX5_readsOf_63 ?_
          refine lv_istore_n (lv' := [(3, .int ((0 : Int32) ||| ((1 : Int32) <<< ((8 + p1) &&& 31)))), (0, .int p0), (1, .int p1), (2, .int p2)]) hx hb dX5_readsOf_64 rfl hl (Nat.le_of_ble_eq_true rfl) rfl (fun ls hl => ?_)
          refine lv_iload_n hx hb dX5_readsOf_65 rfl (lv_at hl 0 rfl) ?_
          have hP9 := h.2.1.sub [] rfl
          have hD9 := h.2.2.1.sub (ws' := []) [] (by decide) rfl
          exact W.iret (v := (0 : Int32) ||| ((1 : Int32) <<< ((8 + p1) &&& 31))) hx hb hr (fun t ht hW => ⟨⟨(0 : Int32) ||| ((1 : Int32) <<< ((8 + p1) &&& 31)), (), rfl, (by obtain ⟨_, _, t3, t4, _, _⟩ := hTF; unfold kRd kOr; (repeat' split) <;> first | (with_reducible rfl) | (exfalso; omega) | rfl | omega), (by rw [ht]; exact hP9), hD9⟩, h.2.2.2.1.F ht⟩) h.2.2.2.1.2.2 dX5_readsOf_66 hlocks
        · skip
          have i_4 : ¬ p0.toInt = 9 := fun h9 => c_4 ((fa_eq _ _).mpr h9)
          refine lv_iload_n hx hb dX5_readsOf_50 rfl (lv_at hl 1 rfl) ?_
          refine lv_bipush (v := 10) hx hb dX5_readsOf_51 kbi_10 ?_
          refine lv_icmp_ne (tgt := 65) hx hb dX5_readsOf_53 rfl (fun c_5 => ?_) (fun c_5 => ?_)
          · skip
            have i_5 : ¬ p0.toInt = 10 := fun h9 => c_5 ((fa_eq _ _).mpr h9)
            refine lv_iload_n hx hb dX5_readsOf_65 rfl (lv_at hl 0 rfl) ?_
            have hP9 := h.2.1.sub [] rfl
            have hD9 := h.2.2.1.sub (ws' := []) [] (by decide) rfl
            exact W.iret (v := 0) hx hb hr (fun t ht hW => ⟨⟨0, (), rfl, (by obtain ⟨_, _, t3, t4, _, _⟩ := hTF; unfold kRd kOr; (repeat' split) <;> first | (with_reducible rfl) | (exfalso; omega) | rfl | omega), (by rw [ht]; exact hP9), hD9⟩, h.2.2.2.1.F ht⟩) h.2.2.2.1.2.2 dX5_readsOf_66 hlocks
          · skip
            have i_5 : p0.toInt = 10 := (fa_eq _ _).mp c_5
            refine lv_iload_n hx hb dX5_readsOf_56 rfl (lv_at hl 0 rfl) ?_
            refine lv_iconst (v := 1) hx hb dX5_readsOf_57 kic_1 ?_
            refine lv_bipush (v := 8) hx hb dX5_readsOf_58 kbi_8 ?_
            refine lv_iload_n hx hb dX5_readsOf_60 rfl (lv_at hl 2 rfl) ?_
            refine lv_iadd hx hb dX5_readsOf_61 ?_
            refine lv_ishl hx hb dX5_readsOf_62 ?_
            refine lv_ior hx hb dX5_readsOf_63 ?_
            refine lv_istore_n (lv' := [(3, .int ((0 : Int32) ||| ((1 : Int32) <<< ((8 + p1) &&& 31)))), (0, .int p0), (1, .int p1), (2, .int p2)]) hx hb dX5_readsOf_64 rfl hl (Nat.le_of_ble_eq_true rfl) rfl (fun ls hl => ?_)
            refine lv_iload_n hx hb dX5_readsOf_65 rfl (lv_at hl 0 rfl) ?_
            have hP9 := h.2.1.sub [] rfl
            have hD9 := h.2.2.1.sub (ws' := []) [] (by decide) rfl
            exact W.iret (v := (0 : Int32) ||| ((1 : Int32) <<< ((8 + p1) &&& 31))) hx hb hr (fun t ht hW => ⟨⟨(0 : Int32) ||| ((1 : Int32) <<< ((8 + p1) &&& 31)), (), rfl, (by obtain ⟨_, _, t3, t4, _, _⟩ := hTF; unfold kRd kOr; (repeat' split) <;> first | (with_reducible rfl) | (exfalso; omega) | rfl | omega), (by rw [ht]; exact hP9), hD9⟩, h.2.2.2.1.F ht⟩) h.2.2.2.1.2.2 dX5_readsOf_66 hlocks
      · skip
        have i_3 : p0.toInt = 7 := (fa_eq _ _).mp c_3
        refine lv_iload_n hx hb dX5_readsOf_38 rfl (lv_at hl 0 rfl) ?_
        refine lv_sipush (v := 1024) hx hb dX5_readsOf_39 ksi_1024 ?_
        refine lv_ior hx hb dX5_readsOf_42 ?_
        refine k_topi (y := 1024) (by decide) ?_
        refine lv_istore_n (lv' := [(3, .int 1024), (0, .int p0), (1, .int p1), (2, .int p2)]) hx hb dX5_readsOf_43 rfl hl (Nat.le_of_ble_eq_true rfl) rfl (fun ls hl => ?_)
        refine lv_iload_n hx hb dX5_readsOf_44 rfl (lv_at hl 1 rfl) ?_
        refine lv_bipush (v := 9) hx hb dX5_readsOf_45 kbi_9 ?_
        refine lv_icmp_eq (tgt := 56) hx hb dX5_readsOf_47 rfl (fun c_6 => ?_) (fun c_6 => ?_)
        · skip
          have i_6 : p0.toInt = 9 := (fa_eq _ _).mp c_6
          exfalso; omega
        · skip
          have i_6 : ¬ p0.toInt = 9 := fun h9 => c_6 ((fa_eq _ _).mpr h9)
          refine lv_iload_n hx hb dX5_readsOf_50 rfl (lv_at hl 1 rfl) ?_
          refine lv_bipush (v := 10) hx hb dX5_readsOf_51 kbi_10 ?_
          refine lv_icmp_ne (tgt := 65) hx hb dX5_readsOf_53 rfl (fun c_7 => ?_) (fun c_7 => ?_)
          · skip
            have i_7 : ¬ p0.toInt = 10 := fun h9 => c_7 ((fa_eq _ _).mpr h9)
            refine lv_iload_n hx hb dX5_readsOf_65 rfl (lv_at hl 0 rfl) ?_
            have hP9 := h.2.1.sub [] rfl
            have hD9 := h.2.2.1.sub (ws' := []) [] (by decide) rfl
            exact W.iret (v := 1024) hx hb hr (fun t ht hW => ⟨⟨1024, (), rfl, (by obtain ⟨_, _, t3, t4, _, _⟩ := hTF; unfold kRd kOr; (repeat' split) <;> first | (with_reducible rfl) | (exfalso; omega) | rfl | omega), (by rw [ht]; exact hP9), hD9⟩, h.2.2.2.1.F ht⟩) h.2.2.2.1.2.2 dX5_readsOf_66 hlocks
          · skip
            have i_7 : p0.toInt = 10 := (fa_eq _ _).mp c_7
            exfalso; omega
    · skip
      have i_2 : (kTabY p0.toNatClampNeg).toInt = 1 := (fa_eq _ _).mp c_2
      refine lv_iload_n hx hb dX5_readsOf_26 rfl (lv_at hl 0 rfl) ?_
      refine lv_iconst (v := 1) hx hb dX5_readsOf_27 kic_1 ?_
      refine lv_iload_n hx hb dX5_readsOf_28 rfl (lv_at hl 3 rfl) ?_
      refine lv_ishl hx hb dX5_readsOf_29 ?_
      refine lv_ior hx hb dX5_readsOf_30 ?_
      refine lv_istore_n (lv' := [(3, .int ((0 : Int32) ||| ((1 : Int32) <<< (p2 &&& 31)))), (0, .int p0), (1, .int p1), (2, .int p2)]) hx hb dX5_readsOf_31 rfl hl (Nat.le_of_ble_eq_true rfl) rfl (fun ls hl => ?_)
      refine lv_iload_n hx hb dX5_readsOf_32 rfl (lv_at hl 1 rfl) ?_
      refine lv_bipush (v := 7) hx hb dX5_readsOf_33 kbi_7 ?_
      refine lv_icmp_ne (tgt := 44) hx hb dX5_readsOf_35 rfl (fun c_8 => ?_) (fun c_8 => ?_)
      · skip
        have i_8 : ¬ p0.toInt = 7 := fun h9 => c_8 ((fa_eq _ _).mpr h9)
        refine lv_iload_n hx hb dX5_readsOf_44 rfl (lv_at hl 1 rfl) ?_
        refine lv_bipush (v := 9) hx hb dX5_readsOf_45 kbi_9 ?_
        refine lv_icmp_eq (tgt := 56) hx hb dX5_readsOf_47 rfl (fun c_9 => ?_) (fun c_9 => ?_)
        · skip
          have i_9 : p0.toInt = 9 := (fa_eq _ _).mp c_9
          refine lv_iload_n hx hb dX5_readsOf_56 rfl (lv_at hl 0 rfl) ?_
          refine lv_iconst (v := 1) hx hb dX5_readsOf_57 kic_1 ?_
          refine lv_bipush (v := 8) hx hb dX5_readsOf_58 kbi_8 ?_
          refine lv_iload_n hx hb dX5_readsOf_60 rfl (lv_at hl 2 rfl) ?_
          refine lv_iadd hx hb dX5_readsOf_61 ?_
          refine lv_ishl hx hb dX5_readsOf_62 ?_
          refine lv_ior hx hb dX5_readsOf_63 ?_
          refine lv_istore_n (lv' := [(3, .int (((0 : Int32) ||| ((1 : Int32) <<< (p2 &&& 31))) ||| ((1 : Int32) <<< ((8 + p1) &&& 31)))), (0, .int p0), (1, .int p1), (2, .int p2)]) hx hb dX5_readsOf_64 rfl hl (Nat.le_of_ble_eq_true rfl) rfl (fun ls hl => ?_)
          refine lv_iload_n hx hb dX5_readsOf_65 rfl (lv_at hl 0 rfl) ?_
          have hP9 := h.2.1.sub [] rfl
          have hD9 := h.2.2.1.sub (ws' := []) [] (by decide) rfl
          exact W.iret (v := ((0 : Int32) ||| ((1 : Int32) <<< (p2 &&& 31))) ||| ((1 : Int32) <<< ((8 + p1) &&& 31))) hx hb hr (fun t ht hW => ⟨⟨((0 : Int32) ||| ((1 : Int32) <<< (p2 &&& 31))) ||| ((1 : Int32) <<< ((8 + p1) &&& 31)), (), rfl, (by obtain ⟨_, _, t3, t4, _, _⟩ := hTF; unfold kRd kOr; (repeat' split) <;> first | (with_reducible rfl) | (exfalso; omega) | rfl | omega), (by rw [ht]; exact hP9), hD9⟩, h.2.2.2.1.F ht⟩) h.2.2.2.1.2.2 dX5_readsOf_66 hlocks
        · skip
          have i_9 : ¬ p0.toInt = 9 := fun h9 => c_9 ((fa_eq _ _).mpr h9)
          refine lv_iload_n hx hb dX5_readsOf_50 rfl (lv_at hl 1 rfl) ?_
          refine lv_bipush (v := 10) hx hb dX5_readsOf_51 kbi_10 ?_
          refine lv_icmp_ne (tgt := 65) hx hb dX5_readsOf_53 rfl (fun c_10 => ?_) (fun c_10 => ?_)
          · skip
            have i_10 : ¬ p0.toInt = 10 := fun h9 => c_10 ((fa_eq _ _).mpr h9)
            refine lv_iload_n hx hb dX5_readsOf_65 rfl (lv_at hl 0 rfl) ?_
            have hP9 := h.2.1.sub [] rfl
            have hD9 := h.2.2.1.sub (ws' := []) [] (by decide) rfl
            exact W.iret (v := (0 : Int32) ||| ((1 : Int32) <<< (p2 &&& 31))) hx hb hr (fun t ht hW => ⟨⟨(0 : Int32) ||| ((1 : Int32) <<< (p2 &&& 31)), (), rfl, (by obtain ⟨_, _, t3, t4, _, _⟩ := hTF; unfold kRd kOr; (repeat' split) <;> first | (with_reducible rfl) | (exfalso; omega) | rfl | omega), (by rw [ht]; exact hP9), hD9⟩, h.2.2.2.1.F ht⟩) h.2.2.2.1.2.2 dX5_readsOf_66 hlocks
          · skip
            have i_10 : p0.toInt = 10 := (fa_eq _ _).mp c_10
            refine lv_iload_n hx hb dX5_readsOf_56 rfl (lv_at hl 0 rfl) ?_
            refine lv_iconst (v := 1) hx hb dX5_readsOf_57 kic_1 ?_
            refine lv_bipush (v := 8) hx hb dX5_readsOf_58 kbi_8 ?_
            refine lv_iload_n hx hb dX5_readsOf_60 rfl (lv_at hl 2 rfl) ?_
            refine lv_iadd hx hb dX5_readsOf_61 ?_
            refine lv_ishl hx hb dX5_readsOf_62 ?_
            refine lv_ior hx hb dX5_readsOf_63 ?_
            refine lv_istore_n (lv' := [(3, .int (((0 : Int32) ||| ((1 : Int32) <<< (p2 &&& 31))) ||| ((1 : Int32) <<< ((8 + p1) &&& 31)))), (0, .int p0), (1, .int p1), (2, .int p2)]) hx hb dX5_readsOf_64 rfl hl (Nat.le_of_ble_eq_true rfl) rfl (fun ls hl => ?_)
            refine lv_iload_n hx hb dX5_readsOf_65 rfl (lv_at hl 0 rfl) ?_
            have hP9 := h.2.1.sub [] rfl
            have hD9 := h.2.2.1.sub (ws' := []) [] (by decide) rfl
            exact W.iret (v := ((0 : Int32) ||| ((1 : Int32) <<< (p2 &&& 31))) ||| ((1 : Int32) <<< ((8 + p1) &&& 31))) hx hb hr (fun t ht hW => ⟨⟨((0 : Int32) ||| ((1 : Int32) <<< (p2 &&& 31))) ||| ((1 : Int32) <<< ((8 + p1) &&& 31)), (), rfl, (by obtain ⟨_, _, t3, t4, _, _⟩ := hTF; unfold kRd kOr; (repeat' split) <;> first | (with_reducible rfl) | (exfalso; omega) | rfl | omega), (by rw [ht]; exact hP9), hD9⟩, h.2.2.2.1.F ht⟩) h.2.2.2.1.2.2 dX5_readsOf_66 hlocks
      · skip
        have i_8 : p0.toInt = 7 := (fa_eq _ _).mp c_8
        refine lv_iload_n hx hb dX5_readsOf_38 rfl (lv_at hl 0 rfl) ?_
        refine lv_sipush (v := 1024) hx hb dX5_readsOf_39 ksi_1024 ?_
        refine lv_ior hx hb dX5_readsOf_42 ?_
        refine lv_istore_n (lv' := [(3, .int (((0 : Int32) ||| ((1 : Int32) <<< (p2 &&& 31))) ||| (1024 : Int32))), (0, .int p0), (1, .int p1), (2, .int p2)]) hx hb dX5_readsOf_43 rfl hl (Nat.le_of_ble_eq_true rfl) rfl (fun ls hl => ?_)
        refine lv_iload_n hx hb dX5_readsOf_44 rfl (lv_at hl 1 rfl) ?_
        refine lv_bipush (v := 9) hx hb dX5_readsOf_45 kbi_9 ?_
        refine lv_icmp_eq (tgt := 56) hx hb dX5_readsOf_47 rfl (fun c_11 => ?_) (fun c_11 => ?_)
        · skip
          have i_11 : p0.toInt = 9 := (fa_eq _ _).mp c_11
          exfalso; omega
        · skip
          have i_11 : ¬ p0.toInt = 9 := fun h9 => c_11 ((fa_eq _ _).mpr h9)
          refine lv_iload_n hx hb dX5_readsOf_50 rfl (lv_at hl 1 rfl) ?_
          refine lv_bipush (v := 10) hx hb dX5_readsOf_51 kbi_10 ?_
          refine lv_icmp_ne (tgt := 65) hx hb dX5_readsOf_53 rfl (fun c_12 => ?_) (fun c_12 => ?_)
          · skip
            have i_12 : ¬ p0.toInt = 10 := fun h9 => c_12 ((fa_eq _ _).mpr h9)
            refine lv_iload_n hx hb dX5_readsOf_65 rfl (lv_at hl 0 rfl) ?_
            have hP9 := h.2.1.sub [] rfl
            have hD9 := h.2.2.1.sub (ws' := []) [] (by decide) rfl
            exact W.iret (v := ((0 : Int32) ||| ((1 : Int32) <<< (p2 &&& 31))) ||| (1024 : Int32)) hx hb hr (fun t ht hW => ⟨⟨((0 : Int32) ||| ((1 : Int32) <<< (p2 &&& 31))) ||| (1024 : Int32), (), rfl, (by obtain ⟨_, _, t3, t4, _, _⟩ := hTF; unfold kRd kOr; (repeat' split) <;> first | (with_reducible rfl) | (exfalso; omega) | rfl | omega), (by rw [ht]; exact hP9), hD9⟩, h.2.2.2.1.F ht⟩) h.2.2.2.1.2.2 dX5_readsOf_66 hlocks
          · skip
            have i_12 : p0.toInt = 10 := (fa_eq _ _).mp c_12
            exfalso; omega
  · skip
    have i_1 : (kTabX p0.toNatClampNeg).toInt = 1 := (fa_eq _ _).mp c_1
    refine lv_iload_n hx hb dX5_readsOf_11 rfl (lv_at hl 0 rfl) ?_
    refine lv_iconst (v := 1) hx hb dX5_readsOf_12 kic_1 ?_
    refine lv_iload_n hx hb dX5_readsOf_13 rfl (lv_at hl 2 rfl) ?_
    refine lv_ishl hx hb dX5_readsOf_14 ?_
    refine lv_ior hx hb dX5_readsOf_15 ?_
    refine lv_istore_n (lv' := [(3, .int ((0 : Int32) ||| ((1 : Int32) <<< (p1 &&& 31)))), (0, .int p0), (1, .int p1), (2, .int p2)]) hx hb dX5_readsOf_16 rfl hl (Nat.le_of_ble_eq_true rfl) rfl (fun ls hl => ?_)
    refine va_getsN (v := .ref tY) hx hb hZY h.2.2.2.1 E.2.2.2.1 (va_Nw.use rfl hF40) (fun _ h9 => h9) dX5_readsOf_17 ?_
    refine lv_iload_n hx hb dX5_readsOf_20 rfl (lv_at hl 1 rfl) ?_
    refine va_ti (v := .int (kTabY p0.toNatClampNeg)) hx hb hTY h.2.2.2.1 (vp_in_iff.mpr (by omega)) rfl dX5_readsOf_21 ?_
    refine lv_iconst (v := 1) hx hb dX5_readsOf_22 kic_1 ?_
    refine lv_icmp_ne (tgt := 32) hx hb dX5_readsOf_23 rfl (fun c_13 => ?_) (fun c_13 => ?_)
    · skip
      have i_13 : ¬ (kTabY p0.toNatClampNeg).toInt = 1 := fun h9 => c_13 ((fa_eq _ _).mpr h9)
      refine lv_iload_n hx hb dX5_readsOf_32 rfl (lv_at hl 1 rfl) ?_
      refine lv_bipush (v := 7) hx hb dX5_readsOf_33 kbi_7 ?_
      refine lv_icmp_ne (tgt := 44) hx hb dX5_readsOf_35 rfl (fun c_14 => ?_) (fun c_14 => ?_)
      · skip
        have i_14 : ¬ p0.toInt = 7 := fun h9 => c_14 ((fa_eq _ _).mpr h9)
        refine lv_iload_n hx hb dX5_readsOf_44 rfl (lv_at hl 1 rfl) ?_
        refine lv_bipush (v := 9) hx hb dX5_readsOf_45 kbi_9 ?_
        refine lv_icmp_eq (tgt := 56) hx hb dX5_readsOf_47 rfl (fun c_15 => ?_) (fun c_15 => ?_)
        · skip
          have i_15 : p0.toInt = 9 := (fa_eq _ _).mp c_15
          refine lv_iload_n hx hb dX5_readsOf_56 rfl (lv_at hl 0 rfl) ?_
          refine lv_iconst (v := 1) hx hb dX5_readsOf_57 kic_1 ?_
          refine lv_bipush (v := 8) hx hb dX5_readsOf_58 kbi_8 ?_
          refine lv_iload_n hx hb dX5_readsOf_60 rfl (lv_at hl 2 rfl) ?_
          refine lv_iadd hx hb dX5_readsOf_61 ?_
          refine lv_ishl hx hb dX5_readsOf_62 ?_
          refine lv_ior hx hb dX5_readsOf_63 ?_
          refine lv_istore_n (lv' := [(3, .int (((0 : Int32) ||| ((1 : Int32) <<< (p1 &&& 31))) ||| ((1 : Int32) <<< ((8 + p1) &&& 31)))), (0, .int p0), (1, .int p1), (2, .int p2)]) hx hb dX5_readsOf_64 rfl hl (Nat.le_of_ble_eq_true rfl) rfl (fun ls hl => ?_)
          refine lv_iload_n hx hb dX5_readsOf_65 rfl (lv_at hl 0 rfl) ?_
          have hP9 := h.2.1.sub [] rfl
          have hD9 := h.2.2.1.sub (ws' := []) [] (by decide) rfl
          exact W.iret (v := ((0 : Int32) ||| ((1 : Int32) <<< (p1 &&& 31))) ||| ((1 : Int32) <<< ((8 + p1) &&& 31))) hx hb hr (fun t ht hW => ⟨⟨((0 : Int32) ||| ((1 : Int32) <<< (p1 &&& 31))) ||| ((1 : Int32) <<< ((8 + p1) &&& 31)), (), rfl, (by obtain ⟨_, _, t3, t4, _, _⟩ := hTF; unfold kRd kOr; (repeat' split) <;> first | (with_reducible rfl) | (exfalso; omega) | rfl | omega), (by rw [ht]; exact hP9), hD9⟩, h.2.2.2.1.F ht⟩) h.2.2.2.1.2.2 dX5_readsOf_66 hlocks
        · skip
          have i_15 : ¬ p0.toInt = 9 := fun h9 => c_15 ((fa_eq _ _).mpr h9)
          refine lv_iload_n hx hb dX5_readsOf_50 rfl (lv_at hl 1 rfl) ?_
          refine lv_bipush (v := 10) hx hb dX5_readsOf_51 kbi_10 ?_
          refine lv_icmp_ne (tgt := 65) hx hb dX5_readsOf_53 rfl (fun c_16 => ?_) (fun c_16 => ?_)
          · skip
            have i_16 : ¬ p0.toInt = 10 := fun h9 => c_16 ((fa_eq _ _).mpr h9)
            refine lv_iload_n hx hb dX5_readsOf_65 rfl (lv_at hl 0 rfl) ?_
            have hP9 := h.2.1.sub [] rfl
            have hD9 := h.2.2.1.sub (ws' := []) [] (by decide) rfl
            exact W.iret (v := (0 : Int32) ||| ((1 : Int32) <<< (p1 &&& 31))) hx hb hr (fun t ht hW => ⟨⟨(0 : Int32) ||| ((1 : Int32) <<< (p1 &&& 31)), (), rfl, (by obtain ⟨_, _, t3, t4, _, _⟩ := hTF; unfold kRd kOr; (repeat' split) <;> first | (with_reducible rfl) | (exfalso; omega) | rfl | omega), (by rw [ht]; exact hP9), hD9⟩, h.2.2.2.1.F ht⟩) h.2.2.2.1.2.2 dX5_readsOf_66 hlocks
          · skip
            have i_16 : p0.toInt = 10 := (fa_eq _ _).mp c_16
            refine lv_iload_n hx hb dX5_readsOf_56 rfl (lv_at hl 0 rfl) ?_
            refine lv_iconst (v := 1) hx hb dX5_readsOf_57 kic_1 ?_
            refine lv_bipush (v := 8) hx hb dX5_readsOf_58 kbi_8 ?_
            refine lv_iload_n hx hb dX5_readsOf_60 rfl (lv_at hl 2 rfl) ?_
            refine lv_iadd hx hb dX5_readsOf_61 ?_
            refine lv_ishl hx hb dX5_readsOf_62 ?_
            refine lv_ior hx hb dX5_readsOf_63 ?_
            refine lv_istore_n (lv' := [(3, .int (((0 : Int32) ||| ((1 : Int32) <<< (p1 &&& 31))) ||| ((1 : Int32) <<< ((8 + p1) &&& 31)))), (0, .int p0), (1, .int p1), (2, .int p2)]) hx hb dX5_readsOf_64 rfl hl (Nat.le_of_ble_eq_true rfl) rfl (fun ls hl => ?_)
            refine lv_iload_n hx hb dX5_readsOf_65 rfl (lv_at hl 0 rfl) ?_
            have hP9 := h.2.1.sub [] rfl
            have hD9 := h.2.2.1.sub (ws' := []) [] (by decide) rfl
            exact W.iret (v := ((0 : Int32) ||| ((1 : Int32) <<< (p1 &&& 31))) ||| ((1 : Int32) <<< ((8 + p1) &&& 31))) hx hb hr (fun t ht hW => ⟨⟨((0 : Int32) ||| ((1 : Int32) <<< (p1 &&& 31))) ||| ((1 : Int32) <<< ((8 + p1) &&& 31)), (), rfl, (by obtain ⟨_, _, t3, t4, _, _⟩ := hTF; unfold kRd kOr; (repeat' split) <;> first | (with_reducible rfl) | (exfalso; omega) | rfl | omega), (by rw [ht]; exact hP9), hD9⟩, h.2.2.2.1.F ht⟩) h.2.2.2.1.2.2 dX5_readsOf_66 hlocks
      · skip
        have i_14 : p0.toInt = 7 := (fa_eq _ _).mp c_14
        refine lv_iload_n hx hb dX5_readsOf_38 rfl (lv_at hl 0 rfl) ?_
        refine lv_sipush (v := 1024) hx hb dX5_readsOf_39 ksi_1024 ?_
        refine lv_ior hx hb dX5_readsOf_42 ?_
        refine lv_istore_n (lv' := [(3, .int (((0 : Int32) ||| ((1 : Int32) <<< (p1 &&& 31))) ||| (1024 : Int32))), (0, .int p0), (1, .int p1), (2, .int p2)]) hx hb dX5_readsOf_43 rfl hl (Nat.le_of_ble_eq_true rfl) rfl (fun ls hl => ?_)
        refine lv_iload_n hx hb dX5_readsOf_44 rfl (lv_at hl 1 rfl) ?_
        refine lv_bipush (v := 9) hx hb dX5_readsOf_45 kbi_9 ?_
        refine lv_icmp_eq (tgt := 56) hx hb dX5_readsOf_47 rfl (fun c_17 => ?_) (fun c_17 => ?_)
        · skip
          have i_17 : p0.toInt = 9 := (fa_eq _ _).mp c_17
          exfalso; omega
        · skip
          have i_17 : ¬ p0.toInt = 9 := fun h9 => c_17 ((fa_eq _ _).mpr h9)
          refine lv_iload_n hx hb dX5_readsOf_50 rfl (lv_at hl 1 rfl) ?_
          refine lv_bipush (v := 10) hx hb dX5_readsOf_51 kbi_10 ?_
          refine lv_icmp_ne (tgt := 65) hx hb dX5_readsOf_53 rfl (fun c_18 => ?_) (fun c_18 => ?_)
          · skip
            have i_18 : ¬ p0.toInt = 10 := fun h9 => c_18 ((fa_eq _ _).mpr h9)
            refine lv_iload_n hx hb dX5_readsOf_65 rfl (lv_at hl 0 rfl) ?_
            have hP9 := h.2.1.sub [] rfl
            have hD9 := h.2.2.1.sub (ws' := []) [] (by decide) rfl
            exact W.iret (v := ((0 : Int32) ||| ((1 : Int32) <<< (p1 &&& 31))) ||| (1024 : Int32)) hx hb hr (fun t ht hW => ⟨⟨((0 : Int32) ||| ((1 : Int32) <<< (p1 &&& 31))) ||| (1024 : Int32), (), rfl, (by obtain ⟨_, _, t3, t4, _, _⟩ := hTF; unfold kRd kOr; (repeat' split) <;> first | (with_reducible rfl) | (exfalso; omega) | rfl | omega), (by rw [ht]; exact hP9), hD9⟩, h.2.2.2.1.F ht⟩) h.2.2.2.1.2.2 dX5_readsOf_66 hlocks
          · skip
            have i_18 : p0.toInt = 10 := (fa_eq _ _).mp c_18
            exfalso; omega
    · skip
      have i_13 : (kTabY p0.toNatClampNeg).toInt = 1 := (fa_eq _ _).mp c_13
      refine lv_iload_n hx hb dX5_readsOf_26 rfl (lv_at hl 0 rfl) ?_
      refine lv_iconst (v := 1) hx hb dX5_readsOf_27 kic_1 ?_
      refine lv_iload_n hx hb dX5_readsOf_28 rfl (lv_at hl 3 rfl) ?_
      refine lv_ishl hx hb dX5_readsOf_29 ?_
      refine lv_ior hx hb dX5_readsOf_30 ?_
      refine lv_istore_n (lv' := [(3, .int (((0 : Int32) ||| ((1 : Int32) <<< (p1 &&& 31))) ||| ((1 : Int32) <<< (p2 &&& 31)))), (0, .int p0), (1, .int p1), (2, .int p2)]) hx hb dX5_readsOf_31 rfl hl (Nat.le_of_ble_eq_true rfl) rfl (fun ls hl => ?_)
      refine lv_iload_n hx hb dX5_readsOf_32 rfl (lv_at hl 1 rfl) ?_
      refine lv_bipush (v := 7) hx hb dX5_readsOf_33 kbi_7 ?_
      refine lv_icmp_ne (tgt := 44) hx hb dX5_readsOf_35 rfl (fun c_19 => ?_) (fun c_19 => ?_)
      · skip
        have i_19 : ¬ p0.toInt = 7 := fun h9 => c_19 ((fa_eq _ _).mpr h9)
        refine lv_iload_n hx hb dX5_readsOf_44 rfl (lv_at hl 1 rfl) ?_
        refine lv_bipush (v := 9) hx hb dX5_readsOf_45 kbi_9 ?_
        refine lv_icmp_eq (tgt := 56) hx hb dX5_readsOf_47 rfl (fun c_20 => ?_) (fun c_20 => ?_)
        · skip
          have i_20 : p0.toInt = 9 := (fa_eq _ _).mp c_20
          refine lv_iload_n hx hb dX5_readsOf_56 rfl (lv_at hl 0 rfl) ?_
          refine lv_iconst (v := 1) hx hb dX5_readsOf_57 kic_1 ?_
          refine lv_bipush (v := 8) hx hb dX5_readsOf_58 kbi_8 ?_
          refine lv_iload_n hx hb dX5_readsOf_60 rfl (lv_at hl 2 rfl) ?_
          refine lv_iadd hx hb dX5_readsOf_61 ?_
          refine lv_ishl hx hb dX5_readsOf_62 ?_
          refine lv_ior hx hb dX5_readsOf_63 ?_
          refine lv_istore_n (lv' := [(3, .int ((((0 : Int32) ||| ((1 : Int32) <<< (p1 &&& 31))) ||| ((1 : Int32) <<< (p2 &&& 31))) ||| ((1 : Int32) <<< ((8 + p1) &&& 31)))), (0, .int p0), (1, .int p1), (2, .int p2)]) hx hb dX5_readsOf_64 rfl hl (Nat.le_of_ble_eq_true rfl) rfl (fun ls hl => ?_)
          refine lv_iload_n hx hb dX5_readsOf_65 rfl (lv_at hl 0 rfl) ?_
          have hP9 := h.2.1.sub [] rfl
          have hD9 := h.2.2.1.sub (ws' := []) [] (by decide) rfl
          exact W.iret (v := (((0 : Int32) ||| ((1 : Int32) <<< (p1 &&& 31))) ||| ((1 : Int32) <<< (p2 &&& 31))) ||| ((1 : Int32) <<< ((8 + p1) &&& 31))) hx hb hr (fun t ht hW => ⟨⟨(((0 : Int32) ||| ((1 : Int32) <<< (p1 &&& 31))) ||| ((1 : Int32) <<< (p2 &&& 31))) ||| ((1 : Int32) <<< ((8 + p1) &&& 31)), (), rfl, (by obtain ⟨_, _, t3, t4, _, _⟩ := hTF; unfold kRd kOr; (repeat' split) <;> first | (with_reducible rfl) | (exfalso; omega) | rfl | omega), (by rw [ht]; exact hP9), hD9⟩, h.2.2.2.1.F ht⟩) h.2.2.2.1.2.2 dX5_readsOf_66 hlocks
        · skip
          have i_20 : ¬ p0.toInt = 9 := fun h9 => c_20 ((fa_eq _ _).mpr h9)
          refine lv_iload_n hx hb dX5_readsOf_50 rfl (lv_at hl 1 rfl) ?_
          refine lv_bipush (v := 10) hx hb dX5_readsOf_51 kbi_10 ?_
          refine lv_icmp_ne (tgt := 65) hx hb dX5_readsOf_53 rfl (fun c_21 => ?_) (fun c_21 => ?_)
          · skip
            have i_21 : ¬ p0.toInt = 10 := fun h9 => c_21 ((fa_eq _ _).mpr h9)
            refine lv_iload_n hx hb dX5_readsOf_65 rfl (lv_at hl 0 rfl) ?_
            have hP9 := h.2.1.sub [] rfl
            have hD9 := h.2.2.1.sub (ws' := []) [] (by decide) rfl
            exact W.iret (v := ((0 : Int32) ||| ((1 : Int32) <<< (p1 &&& 31))) ||| ((1 : Int32) <<< (p2 &&& 31))) hx hb hr (fun t ht hW => ⟨⟨((0 : Int32) ||| ((1 : Int32) <<< (p1 &&& 31))) ||| ((1 : Int32) <<< (p2 &&& 31)), (), rfl, (by obtain ⟨_, _, t3, t4, _, _⟩ := hTF; unfold kRd kOr; (repeat' split) <;> first | (with_reducible rfl) | (exfalso; omega) | rfl | omega), (by rw [ht]; exact hP9), hD9⟩, h.2.2.2.1.F ht⟩) h.2.2.2.1.2.2 dX5_readsOf_66 hlocks
          · skip
            have i_21 : p0.toInt = 10 := (fa_eq _ _).mp c_21
            refine lv_iload_n hx hb dX5_readsOf_56 rfl (lv_at hl 0 rfl) ?_
            refine lv_iconst (v := 1) hx hb dX5_readsOf_57 kic_1 ?_
            refine lv_bipush (v := 8) hx hb dX5_readsOf_58 kbi_8 ?_
            refine lv_iload_n hx hb dX5_readsOf_60 rfl (lv_at hl 2 rfl) ?_
            refine lv_iadd hx hb dX5_readsOf_61 ?_
            refine lv_ishl hx hb dX5_readsOf_62 ?_
            refine lv_ior hx hb dX5_readsOf_63 ?_
            refine lv_istore_n (lv' := [(3, .int ((((0 : Int32) ||| ((1 : Int32) <<< (p1 &&& 31))) ||| ((1 : Int32) <<< (p2 &&& 31))) ||| ((1 : Int32) <<< ((8 + p1) &&& 31)))), (0, .int p0), (1, .int p1), (2, .int p2)]) hx hb dX5_readsOf_64 rfl hl (Nat.le_of_ble_eq_true rfl) rfl (fun ls hl => ?_)
            refine lv_iload_n hx hb dX5_readsOf_65 rfl (lv_at hl 0 rfl) ?_
            have hP9 := h.2.1.sub [] rfl
            have hD9 := h.2.2.1.sub (ws' := []) [] (by decide) rfl
            exact W.iret (v := (((0 : Int32) ||| ((1 : Int32) <<< (p1 &&& 31))) ||| ((1 : Int32) <<< (p2 &&& 31))) ||| ((1 : Int32) <<< ((8 + p1) &&& 31))) hx hb hr (fun t ht hW => ⟨⟨(((0 : Int32) ||| ((1 : Int32) <<< (p1 &&& 31))) ||| ((1 : Int32) <<< (p2 &&& 31))) ||| ((1 : Int32) <<< ((8 + p1) &&& 31)), (), rfl, (by obtain ⟨_, _, t3, t4, _, _⟩ := hTF; unfold kRd kOr; (repeat' split) <;> first | (with_reducible rfl) | (exfalso; omega) | rfl | omega), (by rw [ht]; exact hP9), hD9⟩, h.2.2.2.1.F ht⟩) h.2.2.2.1.2.2 dX5_readsOf_66 hlocks
      · skip
        have i_19 : p0.toInt = 7 := (fa_eq _ _).mp c_19
        refine lv_iload_n hx hb dX5_readsOf_38 rfl (lv_at hl 0 rfl) ?_
        refine lv_sipush (v := 1024) hx hb dX5_readsOf_39 ksi_1024 ?_
        refine lv_ior hx hb dX5_readsOf_42 ?_
        refine lv_istore_n (lv' := [(3, .int ((((0 : Int32) ||| ((1 : Int32) <<< (p1 &&& 31))) ||| ((1 : Int32) <<< (p2 &&& 31))) ||| (1024 : Int32))), (0, .int p0), (1, .int p1), (2, .int p2)]) hx hb dX5_readsOf_43 rfl hl (Nat.le_of_ble_eq_true rfl) rfl (fun ls hl => ?_)
        refine lv_iload_n hx hb dX5_readsOf_44 rfl (lv_at hl 1 rfl) ?_
        refine lv_bipush (v := 9) hx hb dX5_readsOf_45 kbi_9 ?_
        refine lv_icmp_eq (tgt := 56) hx hb dX5_readsOf_47 rfl (fun c_22 => ?_) (fun c_22 => ?_)
        · skip
          have i_22 : p0.toInt = 9 := (fa_eq _ _).mp c_22
          exfalso; omega
        · skip
          have i_22 : ¬ p0.toInt = 9 := fun h9 => c_22 ((fa_eq _ _).mpr h9)
          refine lv_iload_n hx hb dX5_readsOf_50 rfl (lv_at hl 1 rfl) ?_
          refine lv_bipush (v := 10) hx hb dX5_readsOf_51 kbi_10 ?_
          refine lv_icmp_ne (tgt := 65) hx hb dX5_readsOf_53 rfl (fun c_23 => ?_) (fun c_23 => ?_)
          · skip
            have i_23 : ¬ p0.toInt = 10 := fun h9 => c_23 ((fa_eq _ _).mpr h9)
            refine lv_iload_n hx hb dX5_readsOf_65 rfl (lv_at hl 0 rfl) ?_
            have hP9 := h.2.1.sub [] rfl
            have hD9 := h.2.2.1.sub (ws' := []) [] (by decide) rfl
            exact W.iret (v := (((0 : Int32) ||| ((1 : Int32) <<< (p1 &&& 31))) ||| ((1 : Int32) <<< (p2 &&& 31))) ||| (1024 : Int32)) hx hb hr (fun t ht hW => ⟨⟨(((0 : Int32) ||| ((1 : Int32) <<< (p1 &&& 31))) ||| ((1 : Int32) <<< (p2 &&& 31))) ||| (1024 : Int32), (), rfl, (by obtain ⟨_, _, t3, t4, _, _⟩ := hTF; unfold kRd kOr; (repeat' split) <;> first | (with_reducible rfl) | (exfalso; omega) | rfl | omega), (by rw [ht]; exact hP9), hD9⟩, h.2.2.2.1.F ht⟩) h.2.2.2.1.2.2 dX5_readsOf_66 hlocks
          · skip
            have i_23 : p0.toInt = 10 := (fa_eq _ _).mp c_23
            exfalso; omega
set_option maxHeartbeats 4000000 in
set_option maxRecDepth 100000 in
theorem e_X5_writesOf (l : Launch) (dC : Nat → ClassId) (dI : Nat → Nat → Nat) (sz : Nat) (p0 : Int32) (p1 : Int32) (hp : 0 ≤ p0.toInt ∧ p0.toInt < 11) : Met l yX5_writesOf wsX5_writesOf ({ frames := 0, cells := 0, slots := 0, locals := 0 } : Room) (va_Pc [.int p0, .int p1] (KPre (dC, dI) [] [] sz (fun U => KAll (va_A [] sz) U))) (va_Qi (fun (r : Int32) (u : Unit) => r = kWr p0 p1) (KPost (dC, dI) (va_A [] sz) (fun (u : Unit) => [])) (va_A [] sz)) 0 0 (va_A [] sz) := by
  refine kMet (y := yX5_writesOf) (wsM := wsX5_writesOf) (cc := cX5_writesOf) (maxL := 3) (ret := (some .int)) (rm := ({ frames := 0, cells := 0, slots := 0, locals := 0 } : Room)) (mc := 0) (ms := 0) (av := [.int p0, .int p1]) (D := (dC, dI)) (wc := []) (tc := []) (sz := sz) (X := fun U => KAll (va_A [] sz) U) (Qc := fun A => va_Qi (fun (r : Int32) (u : Unit) => r = kWr p0 p1) (KPost (dC, dI) A (fun (u : Unit) => [])) A) (by decide) rfl (Nat.le_of_ble_eq_true rfl) ?_
  intro p e s m below meth c A ls E hr hlocks hnm hsz hAe hX h hl
  have hx := E.1
  have hb := E.2.1
  have hl : lv_has ls 3 [(0, .int p0), (1, .int p1)] := hl
  have hX : KAll A s := by rw [← hAe]; exact hX
  obtain ⟨⟨tD, hZD, hTD⟩, ⟨tX, hZX, hTX⟩, ⟨tY, hZY, hTY⟩, ⟨tP, hZP, hTP⟩, ⟨tL, hZL, hTL⟩, ⟨tM, hZM, hTM⟩, hN0_134, hN0_60, hN0_96, hN1_83, hN1_87, hN3_49, hN3_52, hN4_44, hN4_69, hN5_33, hN6_102, hN6_67, hF37, hF40, hF50, hF53⟩ := id hX
  have hTF := kTab_f hp
  refine lv_iconst (v := 0) hx hb dX5_writesOf_0 kic_0 ?_
  refine lv_istore_n (lv' := [(2, .int 0), (0, .int p0), (1, .int p1)]) hx hb dX5_writesOf_1 rfl hl (Nat.le_of_ble_eq_true rfl) rfl (fun ls hl => ?_)
  refine va_getsN (v := .ref tD) hx hb hZD h.2.2.2.1 E.2.2.2.1 (va_Nw.use rfl hF37) (fun _ h9 => h9) dX5_writesOf_2 ?_
  refine lv_iload_n hx hb dX5_writesOf_5 rfl (lv_at hl 1 rfl) ?_
  refine va_ti (v := .int (kTabD p0.toNatClampNeg)) hx hb hTD h.2.2.2.1 (vp_in_iff.mpr (by omega)) rfl dX5_writesOf_6 ?_
  refine lv_iconst (v := 1) hx hb dX5_writesOf_7 kic_1 ?_
  refine lv_icmp_ne (tgt := 17) hx hb dX5_writesOf_8 rfl (fun c_1 => ?_) (fun c_1 => ?_)
  · skip
    have i_1 : ¬ (kTabD p0.toNatClampNeg).toInt = 1 := fun h9 => c_1 ((fa_eq _ _).mpr h9)
    refine va_getsN (v := .ref tP) hx hb hZP h.2.2.2.1 E.2.2.2.1 (va_Nw.use rfl hF53) (fun _ h9 => h9) dX5_writesOf_17 ?_
    refine lv_iload_n hx hb dX5_writesOf_20 rfl (lv_at hl 1 rfl) ?_
    refine va_ti (v := .int (kTabP p0.toNatClampNeg)) hx hb hTP h.2.2.2.1 (vp_in_iff.mpr (by omega)) rfl dX5_writesOf_21 ?_
    refine lv_iconst (v := 1) hx hb dX5_writesOf_22 kic_1 ?_
    refine lv_icmp_ne (tgt := 32) hx hb dX5_writesOf_23 rfl (fun c_2 => ?_) (fun c_2 => ?_)
    · skip
      have i_2 : ¬ (kTabP p0.toNatClampNeg).toInt = 1 := fun h9 => c_2 ((fa_eq _ _).mpr h9)
      refine lv_iload_n hx hb dX5_writesOf_32 rfl (lv_at hl 1 rfl) ?_
      refine lv_bipush (v := 8) hx hb dX5_writesOf_33 kbi_8 ?_
      refine lv_icmp_ne (tgt := 44) hx hb dX5_writesOf_35 rfl (fun c_3 => ?_) (fun c_3 => ?_)
      · skip
        have i_3 : ¬ p0.toInt = 8 := fun h9 => c_3 ((fa_eq _ _).mpr h9)
        refine lv_iload_n hx hb dX5_writesOf_44 rfl (lv_at hl 0 rfl) ?_
        have hP9 := h.2.1.sub [] rfl
        have hD9 := h.2.2.1.sub (ws' := []) [] (by decide) rfl
        exact W.iret (v := 0) hx hb hr (fun t ht hW => ⟨⟨0, (), rfl, (by obtain ⟨t1, _, _, _, _, t6⟩ := hTF; unfold kWr kOr; (repeat' split) <;> first | (with_reducible rfl) | (exfalso; omega) | rfl | omega), (by rw [ht]; exact hP9), hD9⟩, h.2.2.2.1.F ht⟩) h.2.2.2.1.2.2 dX5_writesOf_45 hlocks
      · skip
        have i_3 : p0.toInt = 8 := (fa_eq _ _).mp c_3
        refine lv_iload_n hx hb dX5_writesOf_38 rfl (lv_at hl 0 rfl) ?_
        refine lv_sipush (v := 1024) hx hb dX5_writesOf_39 ksi_1024 ?_
        refine lv_ior hx hb dX5_writesOf_42 ?_
        refine k_topi (y := 1024) (by decide) ?_
        refine lv_istore_n (lv' := [(2, .int 1024), (0, .int p0), (1, .int p1)]) hx hb dX5_writesOf_43 rfl hl (Nat.le_of_ble_eq_true rfl) rfl (fun ls hl => ?_)
        refine lv_iload_n hx hb dX5_writesOf_44 rfl (lv_at hl 0 rfl) ?_
        have hP9 := h.2.1.sub [] rfl
        have hD9 := h.2.2.1.sub (ws' := []) [] (by decide) rfl
        exact W.iret (v := 1024) hx hb hr (fun t ht hW => ⟨⟨1024, (), rfl, (by obtain ⟨t1, _, _, _, _, t6⟩ := hTF; unfold kWr kOr; (repeat' split) <;> first | (with_reducible rfl) | (exfalso; omega) | rfl | omega), (by rw [ht]; exact hP9), hD9⟩, h.2.2.2.1.F ht⟩) h.2.2.2.1.2.2 dX5_writesOf_45 hlocks
    · skip
      have i_2 : (kTabP p0.toNatClampNeg).toInt = 1 := (fa_eq _ _).mp c_2
      refine lv_iload_n hx hb dX5_writesOf_26 rfl (lv_at hl 0 rfl) ?_
      refine lv_sipush (v := 768) hx hb dX5_writesOf_27 ksi_768 ?_
      refine lv_ior hx hb dX5_writesOf_30 ?_
      refine k_topi (y := 768) (by decide) ?_
      refine lv_istore_n (lv' := [(2, .int 768), (0, .int p0), (1, .int p1)]) hx hb dX5_writesOf_31 rfl hl (Nat.le_of_ble_eq_true rfl) rfl (fun ls hl => ?_)
      refine lv_iload_n hx hb dX5_writesOf_32 rfl (lv_at hl 1 rfl) ?_
      refine lv_bipush (v := 8) hx hb dX5_writesOf_33 kbi_8 ?_
      refine lv_icmp_ne (tgt := 44) hx hb dX5_writesOf_35 rfl (fun c_4 => ?_) (fun c_4 => ?_)
      · skip
        have i_4 : ¬ p0.toInt = 8 := fun h9 => c_4 ((fa_eq _ _).mpr h9)
        refine lv_iload_n hx hb dX5_writesOf_44 rfl (lv_at hl 0 rfl) ?_
        have hP9 := h.2.1.sub [] rfl
        have hD9 := h.2.2.1.sub (ws' := []) [] (by decide) rfl
        exact W.iret (v := 768) hx hb hr (fun t ht hW => ⟨⟨768, (), rfl, (by obtain ⟨t1, _, _, _, _, t6⟩ := hTF; unfold kWr kOr; (repeat' split) <;> first | (with_reducible rfl) | (exfalso; omega) | rfl | omega), (by rw [ht]; exact hP9), hD9⟩, h.2.2.2.1.F ht⟩) h.2.2.2.1.2.2 dX5_writesOf_45 hlocks
      · skip
        have i_4 : p0.toInt = 8 := (fa_eq _ _).mp c_4
        refine lv_iload_n hx hb dX5_writesOf_38 rfl (lv_at hl 0 rfl) ?_
        refine lv_sipush (v := 1024) hx hb dX5_writesOf_39 ksi_1024 ?_
        refine lv_ior hx hb dX5_writesOf_42 ?_
        refine k_topi (y := 1792) (by decide) ?_
        refine lv_istore_n (lv' := [(2, .int 1792), (0, .int p0), (1, .int p1)]) hx hb dX5_writesOf_43 rfl hl (Nat.le_of_ble_eq_true rfl) rfl (fun ls hl => ?_)
        refine lv_iload_n hx hb dX5_writesOf_44 rfl (lv_at hl 0 rfl) ?_
        have hP9 := h.2.1.sub [] rfl
        have hD9 := h.2.2.1.sub (ws' := []) [] (by decide) rfl
        exact W.iret (v := 1792) hx hb hr (fun t ht hW => ⟨⟨1792, (), rfl, (by obtain ⟨t1, _, _, _, _, t6⟩ := hTF; unfold kWr kOr; (repeat' split) <;> first | (with_reducible rfl) | (exfalso; omega) | rfl | omega), (by rw [ht]; exact hP9), hD9⟩, h.2.2.2.1.F ht⟩) h.2.2.2.1.2.2 dX5_writesOf_45 hlocks
  · skip
    have i_1 : (kTabD p0.toNatClampNeg).toInt = 1 := (fa_eq _ _).mp c_1
    refine lv_iload_n hx hb dX5_writesOf_11 rfl (lv_at hl 0 rfl) ?_
    refine lv_iconst (v := 1) hx hb dX5_writesOf_12 kic_1 ?_
    refine lv_iload_n hx hb dX5_writesOf_13 rfl (lv_at hl 2 rfl) ?_
    refine lv_ishl hx hb dX5_writesOf_14 ?_
    refine lv_ior hx hb dX5_writesOf_15 ?_
    refine lv_istore_n (lv' := [(2, .int ((0 : Int32) ||| ((1 : Int32) <<< (p1 &&& 31)))), (0, .int p0), (1, .int p1)]) hx hb dX5_writesOf_16 rfl hl (Nat.le_of_ble_eq_true rfl) rfl (fun ls hl => ?_)
    refine va_getsN (v := .ref tP) hx hb hZP h.2.2.2.1 E.2.2.2.1 (va_Nw.use rfl hF53) (fun _ h9 => h9) dX5_writesOf_17 ?_
    refine lv_iload_n hx hb dX5_writesOf_20 rfl (lv_at hl 1 rfl) ?_
    refine va_ti (v := .int (kTabP p0.toNatClampNeg)) hx hb hTP h.2.2.2.1 (vp_in_iff.mpr (by omega)) rfl dX5_writesOf_21 ?_
    refine lv_iconst (v := 1) hx hb dX5_writesOf_22 kic_1 ?_
    refine lv_icmp_ne (tgt := 32) hx hb dX5_writesOf_23 rfl (fun c_5 => ?_) (fun c_5 => ?_)
    · skip
      have i_5 : ¬ (kTabP p0.toNatClampNeg).toInt = 1 := fun h9 => c_5 ((fa_eq _ _).mpr h9)
      refine lv_iload_n hx hb dX5_writesOf_32 rfl (lv_at hl 1 rfl) ?_
      refine lv_bipush (v := 8) hx hb dX5_writesOf_33 kbi_8 ?_
      refine lv_icmp_ne (tgt := 44) hx hb dX5_writesOf_35 rfl (fun c_6 => ?_) (fun c_6 => ?_)
      · skip
        have i_6 : ¬ p0.toInt = 8 := fun h9 => c_6 ((fa_eq _ _).mpr h9)
        refine lv_iload_n hx hb dX5_writesOf_44 rfl (lv_at hl 0 rfl) ?_
        have hP9 := h.2.1.sub [] rfl
        have hD9 := h.2.2.1.sub (ws' := []) [] (by decide) rfl
        exact W.iret (v := (0 : Int32) ||| ((1 : Int32) <<< (p1 &&& 31))) hx hb hr (fun t ht hW => ⟨⟨(0 : Int32) ||| ((1 : Int32) <<< (p1 &&& 31)), (), rfl, (by obtain ⟨t1, _, _, _, _, t6⟩ := hTF; unfold kWr kOr; (repeat' split) <;> first | (with_reducible rfl) | (exfalso; omega) | rfl | omega), (by rw [ht]; exact hP9), hD9⟩, h.2.2.2.1.F ht⟩) h.2.2.2.1.2.2 dX5_writesOf_45 hlocks
      · skip
        have i_6 : p0.toInt = 8 := (fa_eq _ _).mp c_6
        refine lv_iload_n hx hb dX5_writesOf_38 rfl (lv_at hl 0 rfl) ?_
        refine lv_sipush (v := 1024) hx hb dX5_writesOf_39 ksi_1024 ?_
        refine lv_ior hx hb dX5_writesOf_42 ?_
        refine lv_istore_n (lv' := [(2, .int (((0 : Int32) ||| ((1 : Int32) <<< (p1 &&& 31))) ||| (1024 : Int32))), (0, .int p0), (1, .int p1)]) hx hb dX5_writesOf_43 rfl hl (Nat.le_of_ble_eq_true rfl) rfl (fun ls hl => ?_)
        refine lv_iload_n hx hb dX5_writesOf_44 rfl (lv_at hl 0 rfl) ?_
        have hP9 := h.2.1.sub [] rfl
        have hD9 := h.2.2.1.sub (ws' := []) [] (by decide) rfl
        exact W.iret (v := ((0 : Int32) ||| ((1 : Int32) <<< (p1 &&& 31))) ||| (1024 : Int32)) hx hb hr (fun t ht hW => ⟨⟨((0 : Int32) ||| ((1 : Int32) <<< (p1 &&& 31))) ||| (1024 : Int32), (), rfl, (by obtain ⟨t1, _, _, _, _, t6⟩ := hTF; unfold kWr kOr; (repeat' split) <;> first | (with_reducible rfl) | (exfalso; omega) | rfl | omega), (by rw [ht]; exact hP9), hD9⟩, h.2.2.2.1.F ht⟩) h.2.2.2.1.2.2 dX5_writesOf_45 hlocks
    · skip
      have i_5 : (kTabP p0.toNatClampNeg).toInt = 1 := (fa_eq _ _).mp c_5
      refine lv_iload_n hx hb dX5_writesOf_26 rfl (lv_at hl 0 rfl) ?_
      refine lv_sipush (v := 768) hx hb dX5_writesOf_27 ksi_768 ?_
      refine lv_ior hx hb dX5_writesOf_30 ?_
      refine lv_istore_n (lv' := [(2, .int (((0 : Int32) ||| ((1 : Int32) <<< (p1 &&& 31))) ||| (768 : Int32))), (0, .int p0), (1, .int p1)]) hx hb dX5_writesOf_31 rfl hl (Nat.le_of_ble_eq_true rfl) rfl (fun ls hl => ?_)
      refine lv_iload_n hx hb dX5_writesOf_32 rfl (lv_at hl 1 rfl) ?_
      refine lv_bipush (v := 8) hx hb dX5_writesOf_33 kbi_8 ?_
      refine lv_icmp_ne (tgt := 44) hx hb dX5_writesOf_35 rfl (fun c_7 => ?_) (fun c_7 => ?_)
      · skip
        have i_7 : ¬ p0.toInt = 8 := fun h9 => c_7 ((fa_eq _ _).mpr h9)
        refine lv_iload_n hx hb dX5_writesOf_44 rfl (lv_at hl 0 rfl) ?_
        have hP9 := h.2.1.sub [] rfl
        have hD9 := h.2.2.1.sub (ws' := []) [] (by decide) rfl
        exact W.iret (v := ((0 : Int32) ||| ((1 : Int32) <<< (p1 &&& 31))) ||| (768 : Int32)) hx hb hr (fun t ht hW => ⟨⟨((0 : Int32) ||| ((1 : Int32) <<< (p1 &&& 31))) ||| (768 : Int32), (), rfl, (by obtain ⟨t1, _, _, _, _, t6⟩ := hTF; unfold kWr kOr; (repeat' split) <;> first | (with_reducible rfl) | (exfalso; omega) | rfl | omega), (by rw [ht]; exact hP9), hD9⟩, h.2.2.2.1.F ht⟩) h.2.2.2.1.2.2 dX5_writesOf_45 hlocks
      · skip
        have i_7 : p0.toInt = 8 := (fa_eq _ _).mp c_7
        refine lv_iload_n hx hb dX5_writesOf_38 rfl (lv_at hl 0 rfl) ?_
        refine lv_sipush (v := 1024) hx hb dX5_writesOf_39 ksi_1024 ?_
        refine lv_ior hx hb dX5_writesOf_42 ?_
        refine lv_istore_n (lv' := [(2, .int ((((0 : Int32) ||| ((1 : Int32) <<< (p1 &&& 31))) ||| (768 : Int32)) ||| (1024 : Int32))), (0, .int p0), (1, .int p1)]) hx hb dX5_writesOf_43 rfl hl (Nat.le_of_ble_eq_true rfl) rfl (fun ls hl => ?_)
        refine lv_iload_n hx hb dX5_writesOf_44 rfl (lv_at hl 0 rfl) ?_
        have hP9 := h.2.1.sub [] rfl
        have hD9 := h.2.2.1.sub (ws' := []) [] (by decide) rfl
        exact W.iret (v := (((0 : Int32) ||| ((1 : Int32) <<< (p1 &&& 31))) ||| (768 : Int32)) ||| (1024 : Int32)) hx hb hr (fun t ht hW => ⟨⟨(((0 : Int32) ||| ((1 : Int32) <<< (p1 &&& 31))) ||| (768 : Int32)) ||| (1024 : Int32), (), rfl, (by obtain ⟨t1, _, _, _, _, t6⟩ := hTF; unfold kWr kOr; (repeat' split) <;> first | (with_reducible rfl) | (exfalso; omega) | rfl | omega), (by rw [ht]; exact hP9), hD9⟩, h.2.2.2.1.F ht⟩) h.2.2.2.1.2.2 dX5_writesOf_45 hlocks
set_option maxHeartbeats 4000000 in
set_option maxRecDepth 100000 in
theorem e_X5_add (l : Launch) (dC : Nat → ClassId) (dI : Nat → Nat → Nat) (sz : Nat) (o5 : Nat) (a5_0 : Nat) (a5_1 : Nat) (a5_2 : Nat) (a5_3 : Nat) (a5_4 : Nat) (a5_5 : Nat) (a5_6 : Nat) (c5_0 : ClassId) (f5_0 : Nat → Int32) (c5_1 : ClassId) (f5_1 : Nat → Int32) (c5_2 : ClassId) (f5_2 : Nat → Int32) (c5_3 : ClassId) (f5_3 : Nat → Int32) (c5_4 : ClassId) (f5_4 : Nat → Int32) (c5_5 : ClassId) (f5_5 : Nat → Int32) (c5_6 : ClassId) (f5_6 : Nat → Int32) (p0 : Int32) (p1 : Int32) (p2 : Int32) (p3 : Int32) (p4 : Int32) (hp : 0 ≤ p0.toInt ∧ p0.toInt < 12) (hk : 0 ≤ p1.toInt ∧ p1.toInt < 11) (hv : 0 ≤ (f5_0 p0.toNatClampNeg).toInt ∧ (f5_0 p0.toNatClampNeg).toInt < 10) : Met l yX5_add wsX5_add ({ frames := 1, cells := 0, slots := 0, locals := 23 } : Room) (va_Pc [.ref o5, .int p0, .int p1, .int p2, .int p3, .int p4] (KPre (dC, dI) [(o5, .inr (5, [.ref a5_0, .ref a5_1, .ref a5_2, .ref a5_3, .ref a5_4, .ref a5_5, .ref a5_6])), (a5_0, .inl (c5_0, 12, .inl f5_0)), (a5_1, .inl (c5_1, 120, .inl f5_1)), (a5_2, .inl (c5_2, 120, .inl f5_2)), (a5_3, .inl (c5_3, 120, .inl f5_3)), (a5_4, .inl (c5_4, 120, .inl f5_4)), (a5_5, .inl (c5_5, 120, .inl f5_5)), (a5_6, .inl (c5_6, 120, .inl f5_6))] [(c5_0, .int), (c5_1, .int), (c5_2, .int), (c5_3, .int), (c5_4, .int), (c5_5, .int), (c5_6, .int)] sz (fun U => KAll (va_A [(o5, .inr (5, [.ref a5_0, .ref a5_1, .ref a5_2, .ref a5_3, .ref a5_4, .ref a5_5, .ref a5_6])), (a5_0, .inl (c5_0, 12, .inl f5_0)), (a5_1, .inl (c5_1, 120, .inl f5_1)), (a5_2, .inl (c5_2, 120, .inl f5_2)), (a5_3, .inl (c5_3, 120, .inl f5_3)), (a5_4, .inl (c5_4, 120, .inl f5_4)), (a5_5, .inl (c5_5, 120, .inl f5_5)), (a5_6, .inl (c5_6, 120, .inl f5_6))] sz) U))) (va_Qv (fun (u : (Nat → Int32) × (Nat → Int32) × (Nat → Int32) × (Nat → Int32) × (Nat → Int32) × (Nat → Int32)) => u.1 = upd f5_1 (p0 * 10 + (f5_0 p0.toNatClampNeg)).toNatClampNeg p1 ∧ u.2.1 = upd f5_2 (p0 * 10 + (f5_0 p0.toNatClampNeg)).toNatClampNeg (kDv p1 p2) ∧ u.2.2.1 = upd f5_3 (p0 * 10 + (f5_0 p0.toNatClampNeg)).toNatClampNeg p3 ∧ u.2.2.2.1 = upd f5_4 (p0 * 10 + (f5_0 p0.toNatClampNeg)).toNatClampNeg (kYv p1 p4) ∧ u.2.2.2.2.1 = upd f5_5 (p0 * 10 + (f5_0 p0.toNatClampNeg)).toNatClampNeg (kRd p1 p3 p4) ∧ u.2.2.2.2.2 = upd f5_6 (p0 * 10 + (f5_0 p0.toNatClampNeg)).toNatClampNeg (kWr p1 p2)) (KPost (dC, dI) (va_A [(o5, .inr (5, [.ref a5_0, .ref a5_1, .ref a5_2, .ref a5_3, .ref a5_4, .ref a5_5, .ref a5_6])), (a5_0, .inl (c5_0, 12, .inl f5_0)), (a5_1, .inl (c5_1, 120, .inl f5_1)), (a5_2, .inl (c5_2, 120, .inl f5_2)), (a5_3, .inl (c5_3, 120, .inl f5_3)), (a5_4, .inl (c5_4, 120, .inl f5_4)), (a5_5, .inl (c5_5, 120, .inl f5_5)), (a5_6, .inl (c5_6, 120, .inl f5_6))] sz) (fun (u : (Nat → Int32) × (Nat → Int32) × (Nat → Int32) × (Nat → Int32) × (Nat → Int32) × (Nat → Int32)) => [(o5, .inr (5, [.ref a5_0, .ref a5_1, .ref a5_2, .ref a5_3, .ref a5_4, .ref a5_5, .ref a5_6])), (a5_0, .inl (c5_0, 12, .inl (upd f5_0 p0.toNatClampNeg (f5_0 p0.toNatClampNeg + 1)))), (a5_1, .inl (c5_1, 120, .inl u.1)), (a5_2, .inl (c5_2, 120, .inl u.2.1)), (a5_3, .inl (c5_3, 120, .inl u.2.2.1)), (a5_4, .inl (c5_4, 120, .inl u.2.2.2.1)), (a5_5, .inl (c5_5, 120, .inl u.2.2.2.2.1)), (a5_6, .inl (c5_6, 120, .inl u.2.2.2.2.2))])) (va_A [(o5, .inr (5, [.ref a5_0, .ref a5_1, .ref a5_2, .ref a5_3, .ref a5_4, .ref a5_5, .ref a5_6])), (a5_0, .inl (c5_0, 12, .inl f5_0)), (a5_1, .inl (c5_1, 120, .inl f5_1)), (a5_2, .inl (c5_2, 120, .inl f5_2)), (a5_3, .inl (c5_3, 120, .inl f5_3)), (a5_4, .inl (c5_4, 120, .inl f5_4)), (a5_5, .inl (c5_5, 120, .inl f5_5)), (a5_6, .inl (c5_6, 120, .inl f5_6))] sz)) 0 0 (va_A [(o5, .inr (5, [.ref a5_0, .ref a5_1, .ref a5_2, .ref a5_3, .ref a5_4, .ref a5_5, .ref a5_6])), (a5_0, .inl (c5_0, 12, .inl f5_0)), (a5_1, .inl (c5_1, 120, .inl f5_1)), (a5_2, .inl (c5_2, 120, .inl f5_2)), (a5_3, .inl (c5_3, 120, .inl f5_3)), (a5_4, .inl (c5_4, 120, .inl f5_4)), (a5_5, .inl (c5_5, 120, .inl f5_5)), (a5_6, .inl (c5_6, 120, .inl f5_6))] sz) := by
  refine kMet (y := yX5_add) (wsM := wsX5_add) (cc := cX5_add) (maxL := 7) (ret := none) (rm := ({ frames := 1, cells := 0, slots := 0, locals := 23 } : Room)) (mc := 0) (ms := 0) (av := [.ref o5, .int p0, .int p1, .int p2, .int p3, .int p4]) (D := (dC, dI)) (wc := [(o5, .inr (5, [.ref a5_0, .ref a5_1, .ref a5_2, .ref a5_3, .ref a5_4, .ref a5_5, .ref a5_6])), (a5_0, .inl (c5_0, 12, .inl f5_0)), (a5_1, .inl (c5_1, 120, .inl f5_1)), (a5_2, .inl (c5_2, 120, .inl f5_2)), (a5_3, .inl (c5_3, 120, .inl f5_3)), (a5_4, .inl (c5_4, 120, .inl f5_4)), (a5_5, .inl (c5_5, 120, .inl f5_5)), (a5_6, .inl (c5_6, 120, .inl f5_6))]) (tc := [(c5_0, .int), (c5_1, .int), (c5_2, .int), (c5_3, .int), (c5_4, .int), (c5_5, .int), (c5_6, .int)]) (sz := sz) (X := fun U => KAll (va_A [(o5, .inr (5, [.ref a5_0, .ref a5_1, .ref a5_2, .ref a5_3, .ref a5_4, .ref a5_5, .ref a5_6])), (a5_0, .inl (c5_0, 12, .inl f5_0)), (a5_1, .inl (c5_1, 120, .inl f5_1)), (a5_2, .inl (c5_2, 120, .inl f5_2)), (a5_3, .inl (c5_3, 120, .inl f5_3)), (a5_4, .inl (c5_4, 120, .inl f5_4)), (a5_5, .inl (c5_5, 120, .inl f5_5)), (a5_6, .inl (c5_6, 120, .inl f5_6))] sz) U) (Qc := fun A => va_Qv (fun (u : (Nat → Int32) × (Nat → Int32) × (Nat → Int32) × (Nat → Int32) × (Nat → Int32) × (Nat → Int32)) => u.1 = upd f5_1 (p0 * 10 + (f5_0 p0.toNatClampNeg)).toNatClampNeg p1 ∧ u.2.1 = upd f5_2 (p0 * 10 + (f5_0 p0.toNatClampNeg)).toNatClampNeg (kDv p1 p2) ∧ u.2.2.1 = upd f5_3 (p0 * 10 + (f5_0 p0.toNatClampNeg)).toNatClampNeg p3 ∧ u.2.2.2.1 = upd f5_4 (p0 * 10 + (f5_0 p0.toNatClampNeg)).toNatClampNeg (kYv p1 p4) ∧ u.2.2.2.2.1 = upd f5_5 (p0 * 10 + (f5_0 p0.toNatClampNeg)).toNatClampNeg (kRd p1 p3 p4) ∧ u.2.2.2.2.2 = upd f5_6 (p0 * 10 + (f5_0 p0.toNatClampNeg)).toNatClampNeg (kWr p1 p2)) (KPost (dC, dI) A (fun (u : (Nat → Int32) × (Nat → Int32) × (Nat → Int32) × (Nat → Int32) × (Nat → Int32) × (Nat → Int32)) => [(o5, .inr (5, [.ref a5_0, .ref a5_1, .ref a5_2, .ref a5_3, .ref a5_4, .ref a5_5, .ref a5_6])), (a5_0, .inl (c5_0, 12, .inl (upd f5_0 p0.toNatClampNeg (f5_0 p0.toNatClampNeg + 1)))), (a5_1, .inl (c5_1, 120, .inl u.1)), (a5_2, .inl (c5_2, 120, .inl u.2.1)), (a5_3, .inl (c5_3, 120, .inl u.2.2.1)), (a5_4, .inl (c5_4, 120, .inl u.2.2.2.1)), (a5_5, .inl (c5_5, 120, .inl u.2.2.2.2.1)), (a5_6, .inl (c5_6, 120, .inl u.2.2.2.2.2))])) A) (by decide) rfl (Nat.le_of_ble_eq_true rfl) ?_
  intro p e s m below meth c A ls E hr hlocks hnm hsz hAe hX h hl
  have hx := E.1
  have hb := E.2.1
  have hl : lv_has ls 7 [(0, .ref o5), (1, .int p0), (2, .int p1), (3, .int p2), (4, .int p3), (5, .int p4)] := hl
  have hX : KAll A s := by rw [← hAe]; exact hX
  obtain ⟨⟨tD, hZD, hTD⟩, ⟨tX, hZX, hTX⟩, ⟨tY, hZY, hTY⟩, ⟨tP, hZP, hTP⟩, ⟨tL, hZL, hTL⟩, ⟨tM, hZM, hTM⟩, hN0_134, hN0_60, hN0_96, hN1_83, hN1_87, hN3_49, hN3_52, hN4_44, hN4_69, hN5_33, hN6_102, hN6_67, hF37, hF40, hF50, hF53⟩ := id hX
  refine lv_iload_n hx hb dX5_add_0 rfl (lv_at hl 1 rfl) ?_
  refine lv_aload_n hx hb dX5_add_1 rfl (lv_at hl 0 rfl) ?_
  refine k_get (v := .ref a5_0) E h (fun w h => List.mem_cons_of_mem _ (List.mem_append_right _ h)) 0 rfl rfl 0 (Nat.le_of_ble_eq_true rfl) (List.mem_of_getElem? (i := 1) rfl) rfl dX5_add_2 ?_
  refine lv_iload_n hx hb dX5_add_5 rfl (lv_at hl 1 rfl) ?_
  refine k_iald (v := f5_0 p0.toNatClampNeg) E h 1 0 rfl rfl (vp_in_iff.mpr (by omega)) rfl dX5_add_6 ?_
  refine kc_i (wc := []) (wr := [(o5, .inr (5, [.ref a5_0, .ref a5_1, .ref a5_2, .ref a5_3, .ref a5_4, .ref a5_5, .ref a5_6])), (a5_0, .inl (c5_0, 12, .inl f5_0)), (a5_1, .inl (c5_1, 120, .inl f5_1)), (a5_2, .inl (c5_2, 120, .inl f5_2)), (a5_3, .inl (c5_3, 120, .inl f5_3)), (a5_4, .inl (c5_4, 120, .inl f5_4)), (a5_5, .inl (c5_5, 120, .inl f5_5)), (a5_6, .inl (c5_6, 120, .inl f5_6))]) h (va_runSN (As := [.int p0, .int (f5_0 p0.toNatClampNeg)]) (rest := []) E (c_X7_slot l dC dI _ (p0 := p0) (p1 := f5_0 p0.toNatClampNeg)  ) ⟨va_cnB 2 E.2.2.2.2 gX5_add_X7_slot_n33 rfl rfl rfl hN5_33 (E.2.2.2.2 _ (List.mem_of_getElem? (i := 9) rfl)) (by decide +kernel) ⟨Nat.le_of_ble_eq_true rfl, Nat.le_of_ble_eq_true rfl⟩, E.2.2.2.2 _ (List.mem_of_getElem? (i := 8) rfl), trivial⟩ (kPreS h KX_true (fun _ _ _ => trivial) [] [] (by decide) rfl rfl) rfl rfl hl.1 rfl (lv_room (Nat.le_of_ble_eq_true rfl)) dX5_add_7 ⟨Nat.le_of_ble_eq_true rfl, Nat.le_of_ble_eq_true rfl⟩) [] [0, 1, 2, 3, 4, 5, 6, 7] rfl rfl (by decide +kernel) (by decide +kernel) (fun r_1 u_1 H locs hw_1 h => ?_)
  have h : KS (dC, dI) A [(o5, .inr (5, [.ref a5_0, .ref a5_1, .ref a5_2, .ref a5_3, .ref a5_4, .ref a5_5, .ref a5_6])), (a5_0, .inl (c5_0, 12, .inl f5_0)), (a5_1, .inl (c5_1, 120, .inl f5_1)), (a5_2, .inl (c5_2, 120, .inl f5_2)), (a5_3, .inl (c5_3, 120, .inl f5_3)), (a5_4, .inl (c5_4, 120, .inl f5_4)), (a5_5, .inl (c5_5, 120, .inl f5_5)), (a5_6, .inl (c5_6, 120, .inl f5_6))] [(c5_0, .int), (c5_1, .int), (c5_2, .int), (c5_3, .int), (c5_4, .int), (c5_5, .int), (c5_6, .int)] s H locs := h
  have hw_1 : r_1 = p0 * 10 + (f5_0 p0.toNatClampNeg) := by first | exact hw_1 | (simp only [Int32.toInt_toInt64] at hw_1; exact hw_1)
  refine k_topi (y := p0 * 10 + (f5_0 p0.toNatClampNeg)) (hw_1) ?_
  have e8 : (p0 * 10 + (f5_0 p0.toNatClampNeg)).toInt = p0.toInt * 10 + (f5_0 p0.toNatClampNeg).toInt := kslot2 hp (by omega) (by omega)
  refine W.eq (g2 := F0 m 10 ls [.int (p0 * 10 + (f5_0 p0.toNatClampNeg))]) rfl ?_
  refine lv_istore (lv' := [(6, .int (p0 * 10 + (f5_0 p0.toNatClampNeg))), (0, .ref o5), (1, .int p0), (2, .int p1), (3, .int p2), (4, .int p3), (5, .int p4)]) hx hb dX5_add_10 hl (Nat.le_of_ble_eq_true rfl) rfl (fun ls hl => ?_)
  refine lv_aload_n hx hb dX5_add_12 rfl (lv_at hl 1 rfl) ?_
  refine k_get (v := .ref a5_1) E h (fun w h => List.mem_cons_of_mem _ (List.mem_append_right _ h)) 0 rfl rfl 1 (Nat.le_of_ble_eq_true rfl) (List.mem_of_getElem? (i := 2) rfl) rfl dX5_add_13 ?_
  refine lv_iload hx hb dX5_add_16 (lv_at hl 0 rfl) ?_
  refine lv_iload_n hx hb dX5_add_18 rfl (lv_at hl 3 rfl) ?_
  refine k_iast (j := (p0 * 10 + (f5_0 p0.toNatClampNeg)).toNatClampNeg) (ws' := [(o5, .inr (5, [.ref a5_0, .ref a5_1, .ref a5_2, .ref a5_3, .ref a5_4, .ref a5_5, .ref a5_6])), (a5_0, .inl (c5_0, 12, .inl f5_0)), (a5_1, .inl (c5_1, 120, .inl (upd f5_1 ((p0 * 10 + (f5_0 p0.toNatClampNeg)).toNatClampNeg) p1))), (a5_2, .inl (c5_2, 120, .inl f5_2)), (a5_3, .inl (c5_3, 120, .inl f5_3)), (a5_4, .inl (c5_4, 120, .inl f5_4)), (a5_5, .inl (c5_5, 120, .inl f5_5)), (a5_6, .inl (c5_6, 120, .inl f5_6))]) E h 2 1 rfl rfl (vp_in_iff.mpr (by omega)) rfl rfl dX5_add_19 (fun H locs h => ?_)
  refine lv_aload_n hx hb dX5_add_20 rfl (lv_at hl 1 rfl) ?_
  refine k_get (v := .ref a5_2) E h (fun w h => List.mem_cons_of_mem _ (List.mem_append_right _ h)) 0 rfl rfl 2 (Nat.le_of_ble_eq_true rfl) (List.mem_of_getElem? (i := 3) rfl) rfl dX5_add_21 ?_
  refine lv_iload hx hb dX5_add_24 (lv_at hl 0 rfl) ?_
  refine va_getsN (v := .ref tD) hx hb hZD h.2.2.2.1 E.2.2.2.1 (va_Nw.use rfl hF37) (fun _ h9 => h9) dX5_add_26 ?_
  refine lv_iload_n hx hb dX5_add_29 rfl (lv_at hl 3 rfl) ?_
  refine W.eq (g2 := F0 m 30 ls [.int p1, .ref tD, .int (p0 * 10 + (f5_0 p0.toNatClampNeg)), .ref a5_2]) rfl ?_
  refine va_ti (v := .int (kTabD p1.toNatClampNeg)) hx hb hTD h.2.2.2.1 (vp_in_iff.mpr (by omega)) rfl dX5_add_30 ?_
  refine lv_if_ne (tgt := 38) hx hb dX5_add_31 rfl (fun c_2 => ?_) (fun c_2 => ?_)
  · skip
    have i_2 : ¬ (kTabD p1.toNatClampNeg).toInt = 0 := fun h9 => c_2 ((fa_eq _ _).mpr h9)
    refine lv_iload_n hx hb dX5_add_38 rfl (lv_at hl 4 rfl) ?_
    refine k_iast (j := (p0 * 10 + (f5_0 p0.toNatClampNeg)).toNatClampNeg) (ws' := [(o5, .inr (5, [.ref a5_0, .ref a5_1, .ref a5_2, .ref a5_3, .ref a5_4, .ref a5_5, .ref a5_6])), (a5_0, .inl (c5_0, 12, .inl f5_0)), (a5_1, .inl (c5_1, 120, .inl (upd f5_1 ((p0 * 10 + (f5_0 p0.toNatClampNeg)).toNatClampNeg) p1))), (a5_2, .inl (c5_2, 120, .inl (upd f5_2 ((p0 * 10 + (f5_0 p0.toNatClampNeg)).toNatClampNeg) p2))), (a5_3, .inl (c5_3, 120, .inl f5_3)), (a5_4, .inl (c5_4, 120, .inl f5_4)), (a5_5, .inl (c5_5, 120, .inl f5_5)), (a5_6, .inl (c5_6, 120, .inl f5_6))]) E h 3 2 rfl rfl (vp_in_iff.mpr (by omega)) rfl rfl dX5_add_39 (fun H locs h => ?_)
    refine lv_aload_n hx hb dX5_add_40 rfl (lv_at hl 1 rfl) ?_
    refine k_get (v := .ref a5_3) E h (fun w h => List.mem_cons_of_mem _ (List.mem_append_right _ h)) 0 rfl rfl 3 (Nat.le_of_ble_eq_true rfl) (List.mem_of_getElem? (i := 4) rfl) rfl dX5_add_41 ?_
    refine lv_iload hx hb dX5_add_44 (lv_at hl 0 rfl) ?_
    refine lv_iload hx hb dX5_add_46 (lv_at hl 5 rfl) ?_
    refine k_iast (j := (p0 * 10 + (f5_0 p0.toNatClampNeg)).toNatClampNeg) (ws' := [(o5, .inr (5, [.ref a5_0, .ref a5_1, .ref a5_2, .ref a5_3, .ref a5_4, .ref a5_5, .ref a5_6])), (a5_0, .inl (c5_0, 12, .inl f5_0)), (a5_1, .inl (c5_1, 120, .inl (upd f5_1 ((p0 * 10 + (f5_0 p0.toNatClampNeg)).toNatClampNeg) p1))), (a5_2, .inl (c5_2, 120, .inl (upd f5_2 ((p0 * 10 + (f5_0 p0.toNatClampNeg)).toNatClampNeg) p2))), (a5_3, .inl (c5_3, 120, .inl (upd f5_3 ((p0 * 10 + (f5_0 p0.toNatClampNeg)).toNatClampNeg) p3))), (a5_4, .inl (c5_4, 120, .inl f5_4)), (a5_5, .inl (c5_5, 120, .inl f5_5)), (a5_6, .inl (c5_6, 120, .inl f5_6))]) E h 4 3 rfl rfl (vp_in_iff.mpr (by omega)) rfl rfl dX5_add_48 (fun H locs h => ?_)
    refine lv_aload_n hx hb dX5_add_49 rfl (lv_at hl 1 rfl) ?_
    refine k_get (v := .ref a5_4) E h (fun w h => List.mem_cons_of_mem _ (List.mem_append_right _ h)) 0 rfl rfl 4 (Nat.le_of_ble_eq_true rfl) (List.mem_of_getElem? (i := 5) rfl) rfl dX5_add_50 ?_
    refine lv_iload hx hb dX5_add_53 (lv_at hl 0 rfl) ?_
    refine va_getsN (v := .ref tY) hx hb hZY h.2.2.2.1 E.2.2.2.1 (va_Nw.use rfl hF40) (fun _ h9 => h9) dX5_add_55 ?_
    refine W.eq (g2 := F0 m 58 ls [.ref tY, .int (p0 * 10 + (f5_0 p0.toNatClampNeg)), .ref a5_4]) rfl ?_
    refine lv_iload_n hx hb dX5_add_58 rfl (lv_at hl 3 rfl) ?_
    refine va_ti (v := .int (kTabY p1.toNatClampNeg)) hx hb hTY h.2.2.2.1 (vp_in_iff.mpr (by omega)) rfl dX5_add_59 ?_
    refine lv_if_ne (tgt := 67) hx hb dX5_add_60 rfl (fun c_3 => ?_) (fun c_3 => ?_)
    · skip
      have i_3 : ¬ (kTabY p1.toNatClampNeg).toInt = 0 := fun h9 => c_3 ((fa_eq _ _).mpr h9)
      refine lv_iload hx hb dX5_add_67 (lv_at hl 6 rfl) ?_
      refine k_iast (j := (p0 * 10 + (f5_0 p0.toNatClampNeg)).toNatClampNeg) (ws' := [(o5, .inr (5, [.ref a5_0, .ref a5_1, .ref a5_2, .ref a5_3, .ref a5_4, .ref a5_5, .ref a5_6])), (a5_0, .inl (c5_0, 12, .inl f5_0)), (a5_1, .inl (c5_1, 120, .inl (upd f5_1 ((p0 * 10 + (f5_0 p0.toNatClampNeg)).toNatClampNeg) p1))), (a5_2, .inl (c5_2, 120, .inl (upd f5_2 ((p0 * 10 + (f5_0 p0.toNatClampNeg)).toNatClampNeg) p2))), (a5_3, .inl (c5_3, 120, .inl (upd f5_3 ((p0 * 10 + (f5_0 p0.toNatClampNeg)).toNatClampNeg) p3))), (a5_4, .inl (c5_4, 120, .inl (upd f5_4 ((p0 * 10 + (f5_0 p0.toNatClampNeg)).toNatClampNeg) p4))), (a5_5, .inl (c5_5, 120, .inl f5_5)), (a5_6, .inl (c5_6, 120, .inl f5_6))]) E h 5 4 rfl rfl (vp_in_iff.mpr (by omega)) rfl rfl dX5_add_69 (fun H locs h => ?_)
      refine lv_aload_n hx hb dX5_add_70 rfl (lv_at hl 1 rfl) ?_
      refine k_get (v := .ref a5_5) E h (fun w h => List.mem_cons_of_mem _ (List.mem_append_right _ h)) 0 rfl rfl 5 (Nat.le_of_ble_eq_true rfl) (List.mem_of_getElem? (i := 6) rfl) rfl dX5_add_71 ?_
      refine lv_iload hx hb dX5_add_74 (lv_at hl 0 rfl) ?_
      refine lv_iload_n hx hb dX5_add_76 rfl (lv_at hl 3 rfl) ?_
      refine lv_iload hx hb dX5_add_77 (lv_at hl 5 rfl) ?_
      refine lv_iload hx hb dX5_add_79 (lv_at hl 6 rfl) ?_
      refine kc_i (wc := []) (wr := [(o5, .inr (5, [.ref a5_0, .ref a5_1, .ref a5_2, .ref a5_3, .ref a5_4, .ref a5_5, .ref a5_6])), (a5_0, .inl (c5_0, 12, .inl f5_0)), (a5_1, .inl (c5_1, 120, .inl (upd f5_1 ((p0 * 10 + (f5_0 p0.toNatClampNeg)).toNatClampNeg) p1))), (a5_2, .inl (c5_2, 120, .inl (upd f5_2 ((p0 * 10 + (f5_0 p0.toNatClampNeg)).toNatClampNeg) p2))), (a5_3, .inl (c5_3, 120, .inl (upd f5_3 ((p0 * 10 + (f5_0 p0.toNatClampNeg)).toNatClampNeg) p3))), (a5_4, .inl (c5_4, 120, .inl (upd f5_4 ((p0 * 10 + (f5_0 p0.toNatClampNeg)).toNatClampNeg) p4))), (a5_5, .inl (c5_5, 120, .inl f5_5)), (a5_6, .inl (c5_6, 120, .inl f5_6))]) h (va_runS (As := [.int p1, .int p3, .int p4]) (rest := [.int (p0 * 10 + (f5_0 p0.toNatClampNeg)), .ref a5_5]) E (e_X5_readsOf l dC dI _ (p0 := p1) (p1 := p3) (p2 := p4)  (hp := hk)) (va_cwS 3 E.2.2.2.2 gX5_add_X5_readsOf rfl rfl rfl hdS_X5_readsOf ⟨Nat.le_of_ble_eq_true rfl, Nat.le_of_ble_eq_true rfl⟩) (kPreS h KAll.blind (KAll.call hX h [] rfl) [] [] (by decide) rfl rfl) rfl rfl hl.1 rfl (lv_room (Nat.le_of_ble_eq_true rfl)) dX5_add_81 ⟨Nat.le_of_ble_eq_true rfl, Nat.le_of_ble_eq_true rfl⟩) [] [0, 1, 2, 3, 4, 5, 6, 7] rfl rfl (by decide +kernel) (by decide +kernel) (fun r_4 u_4 H locs hw_4 h => ?_)
      have h : KS (dC, dI) A [(o5, .inr (5, [.ref a5_0, .ref a5_1, .ref a5_2, .ref a5_3, .ref a5_4, .ref a5_5, .ref a5_6])), (a5_0, .inl (c5_0, 12, .inl f5_0)), (a5_1, .inl (c5_1, 120, .inl (upd f5_1 ((p0 * 10 + (f5_0 p0.toNatClampNeg)).toNatClampNeg) p1))), (a5_2, .inl (c5_2, 120, .inl (upd f5_2 ((p0 * 10 + (f5_0 p0.toNatClampNeg)).toNatClampNeg) p2))), (a5_3, .inl (c5_3, 120, .inl (upd f5_3 ((p0 * 10 + (f5_0 p0.toNatClampNeg)).toNatClampNeg) p3))), (a5_4, .inl (c5_4, 120, .inl (upd f5_4 ((p0 * 10 + (f5_0 p0.toNatClampNeg)).toNatClampNeg) p4))), (a5_5, .inl (c5_5, 120, .inl f5_5)), (a5_6, .inl (c5_6, 120, .inl f5_6))] [(c5_0, .int), (c5_1, .int), (c5_2, .int), (c5_3, .int), (c5_4, .int), (c5_5, .int), (c5_6, .int)] s H locs := h
      have hw_4 : r_4 = kRd p1 p3 p4 := by first | exact hw_4 | (simp only [Int32.toInt_toInt64] at hw_4; exact hw_4)
      refine k_topi (y := kRd p1 p3 p4) (hw_4) ?_
      refine W.eq (g2 := F0 m 84 ls [.int (kRd p1 p3 p4), .int (p0 * 10 + (f5_0 p0.toNatClampNeg)), .ref a5_5]) rfl ?_
      refine k_iast (j := (p0 * 10 + (f5_0 p0.toNatClampNeg)).toNatClampNeg) (ws' := [(o5, .inr (5, [.ref a5_0, .ref a5_1, .ref a5_2, .ref a5_3, .ref a5_4, .ref a5_5, .ref a5_6])), (a5_0, .inl (c5_0, 12, .inl f5_0)), (a5_1, .inl (c5_1, 120, .inl (upd f5_1 ((p0 * 10 + (f5_0 p0.toNatClampNeg)).toNatClampNeg) p1))), (a5_2, .inl (c5_2, 120, .inl (upd f5_2 ((p0 * 10 + (f5_0 p0.toNatClampNeg)).toNatClampNeg) p2))), (a5_3, .inl (c5_3, 120, .inl (upd f5_3 ((p0 * 10 + (f5_0 p0.toNatClampNeg)).toNatClampNeg) p3))), (a5_4, .inl (c5_4, 120, .inl (upd f5_4 ((p0 * 10 + (f5_0 p0.toNatClampNeg)).toNatClampNeg) p4))), (a5_5, .inl (c5_5, 120, .inl (upd f5_5 ((p0 * 10 + (f5_0 p0.toNatClampNeg)).toNatClampNeg) (kRd p1 p3 p4)))), (a5_6, .inl (c5_6, 120, .inl f5_6))]) E h 6 5 rfl rfl (vp_in_iff.mpr (by omega)) rfl rfl dX5_add_84 (fun H locs h => ?_)
      refine lv_aload_n hx hb dX5_add_85 rfl (lv_at hl 1 rfl) ?_
      refine k_get (v := .ref a5_6) E h (fun w h => List.mem_cons_of_mem _ (List.mem_append_right _ h)) 0 rfl rfl 6 (Nat.le_of_ble_eq_true rfl) (List.mem_of_getElem? (i := 7) rfl) rfl dX5_add_86 ?_
      refine lv_iload hx hb dX5_add_89 (lv_at hl 0 rfl) ?_
      refine lv_iload_n hx hb dX5_add_91 rfl (lv_at hl 3 rfl) ?_
      refine lv_iload_n hx hb dX5_add_92 rfl (lv_at hl 4 rfl) ?_
      refine kc_i (wc := []) (wr := [(o5, .inr (5, [.ref a5_0, .ref a5_1, .ref a5_2, .ref a5_3, .ref a5_4, .ref a5_5, .ref a5_6])), (a5_0, .inl (c5_0, 12, .inl f5_0)), (a5_1, .inl (c5_1, 120, .inl (upd f5_1 ((p0 * 10 + (f5_0 p0.toNatClampNeg)).toNatClampNeg) p1))), (a5_2, .inl (c5_2, 120, .inl (upd f5_2 ((p0 * 10 + (f5_0 p0.toNatClampNeg)).toNatClampNeg) p2))), (a5_3, .inl (c5_3, 120, .inl (upd f5_3 ((p0 * 10 + (f5_0 p0.toNatClampNeg)).toNatClampNeg) p3))), (a5_4, .inl (c5_4, 120, .inl (upd f5_4 ((p0 * 10 + (f5_0 p0.toNatClampNeg)).toNatClampNeg) p4))), (a5_5, .inl (c5_5, 120, .inl (upd f5_5 ((p0 * 10 + (f5_0 p0.toNatClampNeg)).toNatClampNeg) (kRd p1 p3 p4)))), (a5_6, .inl (c5_6, 120, .inl f5_6))]) h (va_runS (As := [.int p1, .int p2]) (rest := [.int (p0 * 10 + (f5_0 p0.toNatClampNeg)), .ref a5_6]) E (e_X5_writesOf l dC dI _ (p0 := p1) (p1 := p2)  (hp := hk)) (va_cwS 2 E.2.2.2.2 gX5_add_X5_writesOf rfl rfl rfl hdS_X5_writesOf ⟨Nat.le_of_ble_eq_true rfl, Nat.le_of_ble_eq_true rfl⟩) (kPreS h KAll.blind (KAll.call hX h [] rfl) [] [] (by decide) rfl rfl) rfl rfl hl.1 rfl (lv_room (Nat.le_of_ble_eq_true rfl)) dX5_add_93 ⟨Nat.le_of_ble_eq_true rfl, Nat.le_of_ble_eq_true rfl⟩) [] [0, 1, 2, 3, 4, 5, 6, 7] rfl rfl (by decide +kernel) (by decide +kernel) (fun r_5 u_5 H locs hw_5 h => ?_)
      have h : KS (dC, dI) A [(o5, .inr (5, [.ref a5_0, .ref a5_1, .ref a5_2, .ref a5_3, .ref a5_4, .ref a5_5, .ref a5_6])), (a5_0, .inl (c5_0, 12, .inl f5_0)), (a5_1, .inl (c5_1, 120, .inl (upd f5_1 ((p0 * 10 + (f5_0 p0.toNatClampNeg)).toNatClampNeg) p1))), (a5_2, .inl (c5_2, 120, .inl (upd f5_2 ((p0 * 10 + (f5_0 p0.toNatClampNeg)).toNatClampNeg) p2))), (a5_3, .inl (c5_3, 120, .inl (upd f5_3 ((p0 * 10 + (f5_0 p0.toNatClampNeg)).toNatClampNeg) p3))), (a5_4, .inl (c5_4, 120, .inl (upd f5_4 ((p0 * 10 + (f5_0 p0.toNatClampNeg)).toNatClampNeg) p4))), (a5_5, .inl (c5_5, 120, .inl (upd f5_5 ((p0 * 10 + (f5_0 p0.toNatClampNeg)).toNatClampNeg) (kRd p1 p3 p4)))), (a5_6, .inl (c5_6, 120, .inl f5_6))] [(c5_0, .int), (c5_1, .int), (c5_2, .int), (c5_3, .int), (c5_4, .int), (c5_5, .int), (c5_6, .int)] s H locs := h
      have hw_5 : r_5 = kWr p1 p2 := by first | exact hw_5 | (simp only [Int32.toInt_toInt64] at hw_5; exact hw_5)
      refine k_topi (y := kWr p1 p2) (hw_5) ?_
      refine W.eq (g2 := F0 m 96 ls [.int (kWr p1 p2), .int (p0 * 10 + (f5_0 p0.toNatClampNeg)), .ref a5_6]) rfl ?_
      refine k_iast (j := (p0 * 10 + (f5_0 p0.toNatClampNeg)).toNatClampNeg) (ws' := [(o5, .inr (5, [.ref a5_0, .ref a5_1, .ref a5_2, .ref a5_3, .ref a5_4, .ref a5_5, .ref a5_6])), (a5_0, .inl (c5_0, 12, .inl f5_0)), (a5_1, .inl (c5_1, 120, .inl (upd f5_1 ((p0 * 10 + (f5_0 p0.toNatClampNeg)).toNatClampNeg) p1))), (a5_2, .inl (c5_2, 120, .inl (upd f5_2 ((p0 * 10 + (f5_0 p0.toNatClampNeg)).toNatClampNeg) p2))), (a5_3, .inl (c5_3, 120, .inl (upd f5_3 ((p0 * 10 + (f5_0 p0.toNatClampNeg)).toNatClampNeg) p3))), (a5_4, .inl (c5_4, 120, .inl (upd f5_4 ((p0 * 10 + (f5_0 p0.toNatClampNeg)).toNatClampNeg) p4))), (a5_5, .inl (c5_5, 120, .inl (upd f5_5 ((p0 * 10 + (f5_0 p0.toNatClampNeg)).toNatClampNeg) (kRd p1 p3 p4)))), (a5_6, .inl (c5_6, 120, .inl (upd f5_6 ((p0 * 10 + (f5_0 p0.toNatClampNeg)).toNatClampNeg) (kWr p1 p2))))]) E h 7 6 rfl rfl (vp_in_iff.mpr (by omega)) rfl rfl dX5_add_96 (fun H locs h => ?_)
      refine lv_aload_n hx hb dX5_add_97 rfl (lv_at hl 1 rfl) ?_
      refine k_get (v := .ref a5_0) E h (fun w h => List.mem_cons_of_mem _ (List.mem_append_right _ h)) 0 rfl rfl 0 (Nat.le_of_ble_eq_true rfl) (List.mem_of_getElem? (i := 1) rfl) rfl dX5_add_98 ?_
      refine lv_iload_n hx hb dX5_add_101 rfl (lv_at hl 2 rfl) ?_
      refine lv_dup2_11 hx hb dX5_add_102 rfl rfl ?_
      refine k_iald (v := f5_0 p0.toNatClampNeg) E h 1 0 rfl rfl (vp_in_iff.mpr (by omega)) rfl dX5_add_103 ?_
      refine lv_iconst (v := 1) hx hb dX5_add_104 kic_1 ?_
      refine lv_iadd hx hb dX5_add_105 ?_
      refine k_iast (j := p0.toNatClampNeg) (ws' := [(o5, .inr (5, [.ref a5_0, .ref a5_1, .ref a5_2, .ref a5_3, .ref a5_4, .ref a5_5, .ref a5_6])), (a5_0, .inl (c5_0, 12, .inl (upd f5_0 p0.toNatClampNeg ((f5_0 p0.toNatClampNeg) + 1)))), (a5_1, .inl (c5_1, 120, .inl (upd f5_1 ((p0 * 10 + (f5_0 p0.toNatClampNeg)).toNatClampNeg) p1))), (a5_2, .inl (c5_2, 120, .inl (upd f5_2 ((p0 * 10 + (f5_0 p0.toNatClampNeg)).toNatClampNeg) p2))), (a5_3, .inl (c5_3, 120, .inl (upd f5_3 ((p0 * 10 + (f5_0 p0.toNatClampNeg)).toNatClampNeg) p3))), (a5_4, .inl (c5_4, 120, .inl (upd f5_4 ((p0 * 10 + (f5_0 p0.toNatClampNeg)).toNatClampNeg) p4))), (a5_5, .inl (c5_5, 120, .inl (upd f5_5 ((p0 * 10 + (f5_0 p0.toNatClampNeg)).toNatClampNeg) (kRd p1 p3 p4)))), (a5_6, .inl (c5_6, 120, .inl (upd f5_6 ((p0 * 10 + (f5_0 p0.toNatClampNeg)).toNatClampNeg) (kWr p1 p2))))]) E h 1 0 rfl rfl (vp_in_iff.mpr (by omega)) rfl rfl dX5_add_106 (fun H locs h => ?_)
      have hP9 := h.2.1.sub [0, 1, 2, 3, 4, 5, 6, 7] rfl
      have hD9 := h.2.2.1.sub (ws' := [(o5, .inr (5, [.ref a5_0, .ref a5_1, .ref a5_2, .ref a5_3, .ref a5_4, .ref a5_5, .ref a5_6])), (a5_0, .inl (c5_0, 12, .inl (upd f5_0 p0.toNatClampNeg ((f5_0 p0.toNatClampNeg) + 1)))), (a5_1, .inl (c5_1, 120, .inl (upd f5_1 ((p0 * 10 + (f5_0 p0.toNatClampNeg)).toNatClampNeg) p1))), (a5_2, .inl (c5_2, 120, .inl (upd f5_2 ((p0 * 10 + (f5_0 p0.toNatClampNeg)).toNatClampNeg) p2))), (a5_3, .inl (c5_3, 120, .inl (upd f5_3 ((p0 * 10 + (f5_0 p0.toNatClampNeg)).toNatClampNeg) p3))), (a5_4, .inl (c5_4, 120, .inl (upd f5_4 ((p0 * 10 + (f5_0 p0.toNatClampNeg)).toNatClampNeg) p4))), (a5_5, .inl (c5_5, 120, .inl (upd f5_5 ((p0 * 10 + (f5_0 p0.toNatClampNeg)).toNatClampNeg) (kRd p1 p3 p4)))), (a5_6, .inl (c5_6, 120, .inl (upd f5_6 ((p0 * 10 + (f5_0 p0.toNatClampNeg)).toNatClampNeg) (kWr p1 p2))))]) [0, 1, 2, 3, 4, 5, 6, 7] (by decide +kernel) rfl
      exact W.vret hx hb hr (fun t ht hW => ⟨⟨(upd f5_1 ((p0 * 10 + (f5_0 p0.toNatClampNeg)).toNatClampNeg) p1, upd f5_2 ((p0 * 10 + (f5_0 p0.toNatClampNeg)).toNatClampNeg) p2, upd f5_3 ((p0 * 10 + (f5_0 p0.toNatClampNeg)).toNatClampNeg) p3, upd f5_4 ((p0 * 10 + (f5_0 p0.toNatClampNeg)).toNatClampNeg) p4, upd f5_5 ((p0 * 10 + (f5_0 p0.toNatClampNeg)).toNatClampNeg) (kRd p1 p3 p4), upd f5_6 ((p0 * 10 + (f5_0 p0.toNatClampNeg)).toNatClampNeg) (kWr p1 p2)), rfl, ⟨rfl, (by obtain ⟨_, t2, _, _, t5, _⟩ := kTab_f hk; unfold kDv; first | (rw [if_pos (by omega)]; done) | (rw [if_neg (by omega)]; done)), rfl, (by obtain ⟨_, t2, _, _, t5, _⟩ := kTab_f hk; unfold kYv; first | (rw [if_pos (by omega)]; done) | (rw [if_neg (by omega)]; done)), rfl, rfl⟩, (by rw [ht]; exact hP9), hD9⟩, h.2.2.2.1.F ht⟩) h.2.2.2.1.2.2 dX5_add_107 hlocks
    · skip
      have i_3 : (kTabY p1.toNatClampNeg).toInt = 0 := (fa_eq _ _).mp c_3
      refine lv_iconst (v := -1) hx hb dX5_add_63 kic_m1 ?_
      refine lv_goto (tgt := 69) hx hb dX5_add_64 rfl ?_
      refine k_iast (j := (p0 * 10 + (f5_0 p0.toNatClampNeg)).toNatClampNeg) (ws' := [(o5, .inr (5, [.ref a5_0, .ref a5_1, .ref a5_2, .ref a5_3, .ref a5_4, .ref a5_5, .ref a5_6])), (a5_0, .inl (c5_0, 12, .inl f5_0)), (a5_1, .inl (c5_1, 120, .inl (upd f5_1 ((p0 * 10 + (f5_0 p0.toNatClampNeg)).toNatClampNeg) p1))), (a5_2, .inl (c5_2, 120, .inl (upd f5_2 ((p0 * 10 + (f5_0 p0.toNatClampNeg)).toNatClampNeg) p2))), (a5_3, .inl (c5_3, 120, .inl (upd f5_3 ((p0 * 10 + (f5_0 p0.toNatClampNeg)).toNatClampNeg) p3))), (a5_4, .inl (c5_4, 120, .inl (upd f5_4 ((p0 * 10 + (f5_0 p0.toNatClampNeg)).toNatClampNeg) (-1)))), (a5_5, .inl (c5_5, 120, .inl f5_5)), (a5_6, .inl (c5_6, 120, .inl f5_6))]) E h 5 4 rfl rfl (vp_in_iff.mpr (by omega)) rfl rfl dX5_add_69 (fun H locs h => ?_)
      refine lv_aload_n hx hb dX5_add_70 rfl (lv_at hl 1 rfl) ?_
      refine k_get (v := .ref a5_5) E h (fun w h => List.mem_cons_of_mem _ (List.mem_append_right _ h)) 0 rfl rfl 5 (Nat.le_of_ble_eq_true rfl) (List.mem_of_getElem? (i := 6) rfl) rfl dX5_add_71 ?_
      refine lv_iload hx hb dX5_add_74 (lv_at hl 0 rfl) ?_
      refine lv_iload_n hx hb dX5_add_76 rfl (lv_at hl 3 rfl) ?_
      refine lv_iload hx hb dX5_add_77 (lv_at hl 5 rfl) ?_
      refine lv_iload hx hb dX5_add_79 (lv_at hl 6 rfl) ?_
      refine kc_i (wc := []) (wr := [(o5, .inr (5, [.ref a5_0, .ref a5_1, .ref a5_2, .ref a5_3, .ref a5_4, .ref a5_5, .ref a5_6])), (a5_0, .inl (c5_0, 12, .inl f5_0)), (a5_1, .inl (c5_1, 120, .inl (upd f5_1 ((p0 * 10 + (f5_0 p0.toNatClampNeg)).toNatClampNeg) p1))), (a5_2, .inl (c5_2, 120, .inl (upd f5_2 ((p0 * 10 + (f5_0 p0.toNatClampNeg)).toNatClampNeg) p2))), (a5_3, .inl (c5_3, 120, .inl (upd f5_3 ((p0 * 10 + (f5_0 p0.toNatClampNeg)).toNatClampNeg) p3))), (a5_4, .inl (c5_4, 120, .inl (upd f5_4 ((p0 * 10 + (f5_0 p0.toNatClampNeg)).toNatClampNeg) (-1)))), (a5_5, .inl (c5_5, 120, .inl f5_5)), (a5_6, .inl (c5_6, 120, .inl f5_6))]) h (va_runS (As := [.int p1, .int p3, .int p4]) (rest := [.int (p0 * 10 + (f5_0 p0.toNatClampNeg)), .ref a5_5]) E (e_X5_readsOf l dC dI _ (p0 := p1) (p1 := p3) (p2 := p4)  (hp := hk)) (va_cwS 3 E.2.2.2.2 gX5_add_X5_readsOf rfl rfl rfl hdS_X5_readsOf ⟨Nat.le_of_ble_eq_true rfl, Nat.le_of_ble_eq_true rfl⟩) (kPreS h KAll.blind (KAll.call hX h [] rfl) [] [] (by decide) rfl rfl) rfl rfl hl.1 rfl (lv_room (Nat.le_of_ble_eq_true rfl)) dX5_add_81 ⟨Nat.le_of_ble_eq_true rfl, Nat.le_of_ble_eq_true rfl⟩) [] [0, 1, 2, 3, 4, 5, 6, 7] rfl rfl (by decide +kernel) (by decide +kernel) (fun r_6 u_6 H locs hw_6 h => ?_)
      have h : KS (dC, dI) A [(o5, .inr (5, [.ref a5_0, .ref a5_1, .ref a5_2, .ref a5_3, .ref a5_4, .ref a5_5, .ref a5_6])), (a5_0, .inl (c5_0, 12, .inl f5_0)), (a5_1, .inl (c5_1, 120, .inl (upd f5_1 ((p0 * 10 + (f5_0 p0.toNatClampNeg)).toNatClampNeg) p1))), (a5_2, .inl (c5_2, 120, .inl (upd f5_2 ((p0 * 10 + (f5_0 p0.toNatClampNeg)).toNatClampNeg) p2))), (a5_3, .inl (c5_3, 120, .inl (upd f5_3 ((p0 * 10 + (f5_0 p0.toNatClampNeg)).toNatClampNeg) p3))), (a5_4, .inl (c5_4, 120, .inl (upd f5_4 ((p0 * 10 + (f5_0 p0.toNatClampNeg)).toNatClampNeg) (-1)))), (a5_5, .inl (c5_5, 120, .inl f5_5)), (a5_6, .inl (c5_6, 120, .inl f5_6))] [(c5_0, .int), (c5_1, .int), (c5_2, .int), (c5_3, .int), (c5_4, .int), (c5_5, .int), (c5_6, .int)] s H locs := h
      have hw_6 : r_6 = kRd p1 p3 p4 := by first | exact hw_6 | (simp only [Int32.toInt_toInt64] at hw_6; exact hw_6)
      refine k_topi (y := kRd p1 p3 p4) (hw_6) ?_
      refine W.eq (g2 := F0 m 84 ls [.int (kRd p1 p3 p4), .int (p0 * 10 + (f5_0 p0.toNatClampNeg)), .ref a5_5]) rfl ?_
      refine k_iast (j := (p0 * 10 + (f5_0 p0.toNatClampNeg)).toNatClampNeg) (ws' := [(o5, .inr (5, [.ref a5_0, .ref a5_1, .ref a5_2, .ref a5_3, .ref a5_4, .ref a5_5, .ref a5_6])), (a5_0, .inl (c5_0, 12, .inl f5_0)), (a5_1, .inl (c5_1, 120, .inl (upd f5_1 ((p0 * 10 + (f5_0 p0.toNatClampNeg)).toNatClampNeg) p1))), (a5_2, .inl (c5_2, 120, .inl (upd f5_2 ((p0 * 10 + (f5_0 p0.toNatClampNeg)).toNatClampNeg) p2))), (a5_3, .inl (c5_3, 120, .inl (upd f5_3 ((p0 * 10 + (f5_0 p0.toNatClampNeg)).toNatClampNeg) p3))), (a5_4, .inl (c5_4, 120, .inl (upd f5_4 ((p0 * 10 + (f5_0 p0.toNatClampNeg)).toNatClampNeg) (-1)))), (a5_5, .inl (c5_5, 120, .inl (upd f5_5 ((p0 * 10 + (f5_0 p0.toNatClampNeg)).toNatClampNeg) (kRd p1 p3 p4)))), (a5_6, .inl (c5_6, 120, .inl f5_6))]) E h 6 5 rfl rfl (vp_in_iff.mpr (by omega)) rfl rfl dX5_add_84 (fun H locs h => ?_)
      refine lv_aload_n hx hb dX5_add_85 rfl (lv_at hl 1 rfl) ?_
      refine k_get (v := .ref a5_6) E h (fun w h => List.mem_cons_of_mem _ (List.mem_append_right _ h)) 0 rfl rfl 6 (Nat.le_of_ble_eq_true rfl) (List.mem_of_getElem? (i := 7) rfl) rfl dX5_add_86 ?_
      refine lv_iload hx hb dX5_add_89 (lv_at hl 0 rfl) ?_
      refine lv_iload_n hx hb dX5_add_91 rfl (lv_at hl 3 rfl) ?_
      refine lv_iload_n hx hb dX5_add_92 rfl (lv_at hl 4 rfl) ?_
      refine kc_i (wc := []) (wr := [(o5, .inr (5, [.ref a5_0, .ref a5_1, .ref a5_2, .ref a5_3, .ref a5_4, .ref a5_5, .ref a5_6])), (a5_0, .inl (c5_0, 12, .inl f5_0)), (a5_1, .inl (c5_1, 120, .inl (upd f5_1 ((p0 * 10 + (f5_0 p0.toNatClampNeg)).toNatClampNeg) p1))), (a5_2, .inl (c5_2, 120, .inl (upd f5_2 ((p0 * 10 + (f5_0 p0.toNatClampNeg)).toNatClampNeg) p2))), (a5_3, .inl (c5_3, 120, .inl (upd f5_3 ((p0 * 10 + (f5_0 p0.toNatClampNeg)).toNatClampNeg) p3))), (a5_4, .inl (c5_4, 120, .inl (upd f5_4 ((p0 * 10 + (f5_0 p0.toNatClampNeg)).toNatClampNeg) (-1)))), (a5_5, .inl (c5_5, 120, .inl (upd f5_5 ((p0 * 10 + (f5_0 p0.toNatClampNeg)).toNatClampNeg) (kRd p1 p3 p4)))), (a5_6, .inl (c5_6, 120, .inl f5_6))]) h (va_runS (As := [.int p1, .int p2]) (rest := [.int (p0 * 10 + (f5_0 p0.toNatClampNeg)), .ref a5_6]) E (e_X5_writesOf l dC dI _ (p0 := p1) (p1 := p2)  (hp := hk)) (va_cwS 2 E.2.2.2.2 gX5_add_X5_writesOf rfl rfl rfl hdS_X5_writesOf ⟨Nat.le_of_ble_eq_true rfl, Nat.le_of_ble_eq_true rfl⟩) (kPreS h KAll.blind (KAll.call hX h [] rfl) [] [] (by decide) rfl rfl) rfl rfl hl.1 rfl (lv_room (Nat.le_of_ble_eq_true rfl)) dX5_add_93 ⟨Nat.le_of_ble_eq_true rfl, Nat.le_of_ble_eq_true rfl⟩) [] [0, 1, 2, 3, 4, 5, 6, 7] rfl rfl (by decide +kernel) (by decide +kernel) (fun r_7 u_7 H locs hw_7 h => ?_)
      have h : KS (dC, dI) A [(o5, .inr (5, [.ref a5_0, .ref a5_1, .ref a5_2, .ref a5_3, .ref a5_4, .ref a5_5, .ref a5_6])), (a5_0, .inl (c5_0, 12, .inl f5_0)), (a5_1, .inl (c5_1, 120, .inl (upd f5_1 ((p0 * 10 + (f5_0 p0.toNatClampNeg)).toNatClampNeg) p1))), (a5_2, .inl (c5_2, 120, .inl (upd f5_2 ((p0 * 10 + (f5_0 p0.toNatClampNeg)).toNatClampNeg) p2))), (a5_3, .inl (c5_3, 120, .inl (upd f5_3 ((p0 * 10 + (f5_0 p0.toNatClampNeg)).toNatClampNeg) p3))), (a5_4, .inl (c5_4, 120, .inl (upd f5_4 ((p0 * 10 + (f5_0 p0.toNatClampNeg)).toNatClampNeg) (-1)))), (a5_5, .inl (c5_5, 120, .inl (upd f5_5 ((p0 * 10 + (f5_0 p0.toNatClampNeg)).toNatClampNeg) (kRd p1 p3 p4)))), (a5_6, .inl (c5_6, 120, .inl f5_6))] [(c5_0, .int), (c5_1, .int), (c5_2, .int), (c5_3, .int), (c5_4, .int), (c5_5, .int), (c5_6, .int)] s H locs := h
      have hw_7 : r_7 = kWr p1 p2 := by first | exact hw_7 | (simp only [Int32.toInt_toInt64] at hw_7; exact hw_7)
      refine k_topi (y := kWr p1 p2) (hw_7) ?_
      refine W.eq (g2 := F0 m 96 ls [.int (kWr p1 p2), .int (p0 * 10 + (f5_0 p0.toNatClampNeg)), .ref a5_6]) rfl ?_
      refine k_iast (j := (p0 * 10 + (f5_0 p0.toNatClampNeg)).toNatClampNeg) (ws' := [(o5, .inr (5, [.ref a5_0, .ref a5_1, .ref a5_2, .ref a5_3, .ref a5_4, .ref a5_5, .ref a5_6])), (a5_0, .inl (c5_0, 12, .inl f5_0)), (a5_1, .inl (c5_1, 120, .inl (upd f5_1 ((p0 * 10 + (f5_0 p0.toNatClampNeg)).toNatClampNeg) p1))), (a5_2, .inl (c5_2, 120, .inl (upd f5_2 ((p0 * 10 + (f5_0 p0.toNatClampNeg)).toNatClampNeg) p2))), (a5_3, .inl (c5_3, 120, .inl (upd f5_3 ((p0 * 10 + (f5_0 p0.toNatClampNeg)).toNatClampNeg) p3))), (a5_4, .inl (c5_4, 120, .inl (upd f5_4 ((p0 * 10 + (f5_0 p0.toNatClampNeg)).toNatClampNeg) (-1)))), (a5_5, .inl (c5_5, 120, .inl (upd f5_5 ((p0 * 10 + (f5_0 p0.toNatClampNeg)).toNatClampNeg) (kRd p1 p3 p4)))), (a5_6, .inl (c5_6, 120, .inl (upd f5_6 ((p0 * 10 + (f5_0 p0.toNatClampNeg)).toNatClampNeg) (kWr p1 p2))))]) E h 7 6 rfl rfl (vp_in_iff.mpr (by omega)) rfl rfl dX5_add_96 (fun H locs h => ?_)
      refine lv_aload_n hx hb dX5_add_97 rfl (lv_at hl 1 rfl) ?_
      refine k_get (v := .ref a5_0) E h (fun w h => List.mem_cons_of_mem _ (List.mem_append_right _ h)) 0 rfl rfl 0 (Nat.le_of_ble_eq_true rfl) (List.mem_of_getElem? (i := 1) rfl) rfl dX5_add_98 ?_
      refine lv_iload_n hx hb dX5_add_101 rfl (lv_at hl 2 rfl) ?_
      refine lv_dup2_11 hx hb dX5_add_102 rfl rfl ?_
      refine k_iald (v := f5_0 p0.toNatClampNeg) E h 1 0 rfl rfl (vp_in_iff.mpr (by omega)) rfl dX5_add_103 ?_
      refine lv_iconst (v := 1) hx hb dX5_add_104 kic_1 ?_
      refine lv_iadd hx hb dX5_add_105 ?_
      refine k_iast (j := p0.toNatClampNeg) (ws' := [(o5, .inr (5, [.ref a5_0, .ref a5_1, .ref a5_2, .ref a5_3, .ref a5_4, .ref a5_5, .ref a5_6])), (a5_0, .inl (c5_0, 12, .inl (upd f5_0 p0.toNatClampNeg ((f5_0 p0.toNatClampNeg) + 1)))), (a5_1, .inl (c5_1, 120, .inl (upd f5_1 ((p0 * 10 + (f5_0 p0.toNatClampNeg)).toNatClampNeg) p1))), (a5_2, .inl (c5_2, 120, .inl (upd f5_2 ((p0 * 10 + (f5_0 p0.toNatClampNeg)).toNatClampNeg) p2))), (a5_3, .inl (c5_3, 120, .inl (upd f5_3 ((p0 * 10 + (f5_0 p0.toNatClampNeg)).toNatClampNeg) p3))), (a5_4, .inl (c5_4, 120, .inl (upd f5_4 ((p0 * 10 + (f5_0 p0.toNatClampNeg)).toNatClampNeg) (-1)))), (a5_5, .inl (c5_5, 120, .inl (upd f5_5 ((p0 * 10 + (f5_0 p0.toNatClampNeg)).toNatClampNeg) (kRd p1 p3 p4)))), (a5_6, .inl (c5_6, 120, .inl (upd f5_6 ((p0 * 10 + (f5_0 p0.toNatClampNeg)).toNatClampNeg) (kWr p1 p2))))]) E h 1 0 rfl rfl (vp_in_iff.mpr (by omega)) rfl rfl dX5_add_106 (fun H locs h => ?_)
      have hP9 := h.2.1.sub [0, 1, 2, 3, 4, 5, 6, 7] rfl
      have hD9 := h.2.2.1.sub (ws' := [(o5, .inr (5, [.ref a5_0, .ref a5_1, .ref a5_2, .ref a5_3, .ref a5_4, .ref a5_5, .ref a5_6])), (a5_0, .inl (c5_0, 12, .inl (upd f5_0 p0.toNatClampNeg ((f5_0 p0.toNatClampNeg) + 1)))), (a5_1, .inl (c5_1, 120, .inl (upd f5_1 ((p0 * 10 + (f5_0 p0.toNatClampNeg)).toNatClampNeg) p1))), (a5_2, .inl (c5_2, 120, .inl (upd f5_2 ((p0 * 10 + (f5_0 p0.toNatClampNeg)).toNatClampNeg) p2))), (a5_3, .inl (c5_3, 120, .inl (upd f5_3 ((p0 * 10 + (f5_0 p0.toNatClampNeg)).toNatClampNeg) p3))), (a5_4, .inl (c5_4, 120, .inl (upd f5_4 ((p0 * 10 + (f5_0 p0.toNatClampNeg)).toNatClampNeg) (-1)))), (a5_5, .inl (c5_5, 120, .inl (upd f5_5 ((p0 * 10 + (f5_0 p0.toNatClampNeg)).toNatClampNeg) (kRd p1 p3 p4)))), (a5_6, .inl (c5_6, 120, .inl (upd f5_6 ((p0 * 10 + (f5_0 p0.toNatClampNeg)).toNatClampNeg) (kWr p1 p2))))]) [0, 1, 2, 3, 4, 5, 6, 7] (by decide +kernel) rfl
      exact W.vret hx hb hr (fun t ht hW => ⟨⟨(upd f5_1 ((p0 * 10 + (f5_0 p0.toNatClampNeg)).toNatClampNeg) p1, upd f5_2 ((p0 * 10 + (f5_0 p0.toNatClampNeg)).toNatClampNeg) p2, upd f5_3 ((p0 * 10 + (f5_0 p0.toNatClampNeg)).toNatClampNeg) p3, upd f5_4 ((p0 * 10 + (f5_0 p0.toNatClampNeg)).toNatClampNeg) (-1), upd f5_5 ((p0 * 10 + (f5_0 p0.toNatClampNeg)).toNatClampNeg) (kRd p1 p3 p4), upd f5_6 ((p0 * 10 + (f5_0 p0.toNatClampNeg)).toNatClampNeg) (kWr p1 p2)), rfl, ⟨rfl, (by obtain ⟨_, t2, _, _, t5, _⟩ := kTab_f hk; unfold kDv; first | (rw [if_pos (by omega)]; done) | (rw [if_neg (by omega)]; done)), rfl, (by obtain ⟨_, t2, _, _, t5, _⟩ := kTab_f hk; unfold kYv; first | (rw [if_pos (by omega)]; done) | (rw [if_neg (by omega)]; done)), rfl, rfl⟩, (by rw [ht]; exact hP9), hD9⟩, h.2.2.2.1.F ht⟩) h.2.2.2.1.2.2 dX5_add_107 hlocks
  · skip
    have i_2 : (kTabD p1.toNatClampNeg).toInt = 0 := (fa_eq _ _).mp c_2
    refine lv_iconst (v := -1) hx hb dX5_add_34 kic_m1 ?_
    refine lv_goto (tgt := 39) hx hb dX5_add_35 rfl ?_
    refine k_iast (j := (p0 * 10 + (f5_0 p0.toNatClampNeg)).toNatClampNeg) (ws' := [(o5, .inr (5, [.ref a5_0, .ref a5_1, .ref a5_2, .ref a5_3, .ref a5_4, .ref a5_5, .ref a5_6])), (a5_0, .inl (c5_0, 12, .inl f5_0)), (a5_1, .inl (c5_1, 120, .inl (upd f5_1 ((p0 * 10 + (f5_0 p0.toNatClampNeg)).toNatClampNeg) p1))), (a5_2, .inl (c5_2, 120, .inl (upd f5_2 ((p0 * 10 + (f5_0 p0.toNatClampNeg)).toNatClampNeg) (-1)))), (a5_3, .inl (c5_3, 120, .inl f5_3)), (a5_4, .inl (c5_4, 120, .inl f5_4)), (a5_5, .inl (c5_5, 120, .inl f5_5)), (a5_6, .inl (c5_6, 120, .inl f5_6))]) E h 3 2 rfl rfl (vp_in_iff.mpr (by omega)) rfl rfl dX5_add_39 (fun H locs h => ?_)
    refine lv_aload_n hx hb dX5_add_40 rfl (lv_at hl 1 rfl) ?_
    refine k_get (v := .ref a5_3) E h (fun w h => List.mem_cons_of_mem _ (List.mem_append_right _ h)) 0 rfl rfl 3 (Nat.le_of_ble_eq_true rfl) (List.mem_of_getElem? (i := 4) rfl) rfl dX5_add_41 ?_
    refine lv_iload hx hb dX5_add_44 (lv_at hl 0 rfl) ?_
    refine lv_iload hx hb dX5_add_46 (lv_at hl 5 rfl) ?_
    refine k_iast (j := (p0 * 10 + (f5_0 p0.toNatClampNeg)).toNatClampNeg) (ws' := [(o5, .inr (5, [.ref a5_0, .ref a5_1, .ref a5_2, .ref a5_3, .ref a5_4, .ref a5_5, .ref a5_6])), (a5_0, .inl (c5_0, 12, .inl f5_0)), (a5_1, .inl (c5_1, 120, .inl (upd f5_1 ((p0 * 10 + (f5_0 p0.toNatClampNeg)).toNatClampNeg) p1))), (a5_2, .inl (c5_2, 120, .inl (upd f5_2 ((p0 * 10 + (f5_0 p0.toNatClampNeg)).toNatClampNeg) (-1)))), (a5_3, .inl (c5_3, 120, .inl (upd f5_3 ((p0 * 10 + (f5_0 p0.toNatClampNeg)).toNatClampNeg) p3))), (a5_4, .inl (c5_4, 120, .inl f5_4)), (a5_5, .inl (c5_5, 120, .inl f5_5)), (a5_6, .inl (c5_6, 120, .inl f5_6))]) E h 4 3 rfl rfl (vp_in_iff.mpr (by omega)) rfl rfl dX5_add_48 (fun H locs h => ?_)
    refine lv_aload_n hx hb dX5_add_49 rfl (lv_at hl 1 rfl) ?_
    refine k_get (v := .ref a5_4) E h (fun w h => List.mem_cons_of_mem _ (List.mem_append_right _ h)) 0 rfl rfl 4 (Nat.le_of_ble_eq_true rfl) (List.mem_of_getElem? (i := 5) rfl) rfl dX5_add_50 ?_
    refine lv_iload hx hb dX5_add_53 (lv_at hl 0 rfl) ?_
    refine va_getsN (v := .ref tY) hx hb hZY h.2.2.2.1 E.2.2.2.1 (va_Nw.use rfl hF40) (fun _ h9 => h9) dX5_add_55 ?_
    refine lv_iload_n hx hb dX5_add_58 rfl (lv_at hl 3 rfl) ?_
    refine W.eq (g2 := F0 m 59 ls [.int p1, .ref tY, .int (p0 * 10 + (f5_0 p0.toNatClampNeg)), .ref a5_4]) rfl ?_
    refine va_ti (v := .int (kTabY p1.toNatClampNeg)) hx hb hTY h.2.2.2.1 (vp_in_iff.mpr (by omega)) rfl dX5_add_59 ?_
    refine lv_if_ne (tgt := 67) hx hb dX5_add_60 rfl (fun c_8 => ?_) (fun c_8 => ?_)
    · skip
      have i_8 : ¬ (kTabY p1.toNatClampNeg).toInt = 0 := fun h9 => c_8 ((fa_eq _ _).mpr h9)
      refine lv_iload hx hb dX5_add_67 (lv_at hl 6 rfl) ?_
      refine k_iast (j := (p0 * 10 + (f5_0 p0.toNatClampNeg)).toNatClampNeg) (ws' := [(o5, .inr (5, [.ref a5_0, .ref a5_1, .ref a5_2, .ref a5_3, .ref a5_4, .ref a5_5, .ref a5_6])), (a5_0, .inl (c5_0, 12, .inl f5_0)), (a5_1, .inl (c5_1, 120, .inl (upd f5_1 ((p0 * 10 + (f5_0 p0.toNatClampNeg)).toNatClampNeg) p1))), (a5_2, .inl (c5_2, 120, .inl (upd f5_2 ((p0 * 10 + (f5_0 p0.toNatClampNeg)).toNatClampNeg) (-1)))), (a5_3, .inl (c5_3, 120, .inl (upd f5_3 ((p0 * 10 + (f5_0 p0.toNatClampNeg)).toNatClampNeg) p3))), (a5_4, .inl (c5_4, 120, .inl (upd f5_4 ((p0 * 10 + (f5_0 p0.toNatClampNeg)).toNatClampNeg) p4))), (a5_5, .inl (c5_5, 120, .inl f5_5)), (a5_6, .inl (c5_6, 120, .inl f5_6))]) E h 5 4 rfl rfl (vp_in_iff.mpr (by omega)) rfl rfl dX5_add_69 (fun H locs h => ?_)
      refine lv_aload_n hx hb dX5_add_70 rfl (lv_at hl 1 rfl) ?_
      refine k_get (v := .ref a5_5) E h (fun w h => List.mem_cons_of_mem _ (List.mem_append_right _ h)) 0 rfl rfl 5 (Nat.le_of_ble_eq_true rfl) (List.mem_of_getElem? (i := 6) rfl) rfl dX5_add_71 ?_
      refine lv_iload hx hb dX5_add_74 (lv_at hl 0 rfl) ?_
      refine lv_iload_n hx hb dX5_add_76 rfl (lv_at hl 3 rfl) ?_
      refine lv_iload hx hb dX5_add_77 (lv_at hl 5 rfl) ?_
      refine lv_iload hx hb dX5_add_79 (lv_at hl 6 rfl) ?_
      refine kc_i (wc := []) (wr := [(o5, .inr (5, [.ref a5_0, .ref a5_1, .ref a5_2, .ref a5_3, .ref a5_4, .ref a5_5, .ref a5_6])), (a5_0, .inl (c5_0, 12, .inl f5_0)), (a5_1, .inl (c5_1, 120, .inl (upd f5_1 ((p0 * 10 + (f5_0 p0.toNatClampNeg)).toNatClampNeg) p1))), (a5_2, .inl (c5_2, 120, .inl (upd f5_2 ((p0 * 10 + (f5_0 p0.toNatClampNeg)).toNatClampNeg) (-1)))), (a5_3, .inl (c5_3, 120, .inl (upd f5_3 ((p0 * 10 + (f5_0 p0.toNatClampNeg)).toNatClampNeg) p3))), (a5_4, .inl (c5_4, 120, .inl (upd f5_4 ((p0 * 10 + (f5_0 p0.toNatClampNeg)).toNatClampNeg) p4))), (a5_5, .inl (c5_5, 120, .inl f5_5)), (a5_6, .inl (c5_6, 120, .inl f5_6))]) h (va_runS (As := [.int p1, .int p3, .int p4]) (rest := [.int (p0 * 10 + (f5_0 p0.toNatClampNeg)), .ref a5_5]) E (e_X5_readsOf l dC dI _ (p0 := p1) (p1 := p3) (p2 := p4)  (hp := hk)) (va_cwS 3 E.2.2.2.2 gX5_add_X5_readsOf rfl rfl rfl hdS_X5_readsOf ⟨Nat.le_of_ble_eq_true rfl, Nat.le_of_ble_eq_true rfl⟩) (kPreS h KAll.blind (KAll.call hX h [] rfl) [] [] (by decide) rfl rfl) rfl rfl hl.1 rfl (lv_room (Nat.le_of_ble_eq_true rfl)) dX5_add_81 ⟨Nat.le_of_ble_eq_true rfl, Nat.le_of_ble_eq_true rfl⟩) [] [0, 1, 2, 3, 4, 5, 6, 7] rfl rfl (by decide +kernel) (by decide +kernel) (fun r_9 u_9 H locs hw_9 h => ?_)
      have h : KS (dC, dI) A [(o5, .inr (5, [.ref a5_0, .ref a5_1, .ref a5_2, .ref a5_3, .ref a5_4, .ref a5_5, .ref a5_6])), (a5_0, .inl (c5_0, 12, .inl f5_0)), (a5_1, .inl (c5_1, 120, .inl (upd f5_1 ((p0 * 10 + (f5_0 p0.toNatClampNeg)).toNatClampNeg) p1))), (a5_2, .inl (c5_2, 120, .inl (upd f5_2 ((p0 * 10 + (f5_0 p0.toNatClampNeg)).toNatClampNeg) (-1)))), (a5_3, .inl (c5_3, 120, .inl (upd f5_3 ((p0 * 10 + (f5_0 p0.toNatClampNeg)).toNatClampNeg) p3))), (a5_4, .inl (c5_4, 120, .inl (upd f5_4 ((p0 * 10 + (f5_0 p0.toNatClampNeg)).toNatClampNeg) p4))), (a5_5, .inl (c5_5, 120, .inl f5_5)), (a5_6, .inl (c5_6, 120, .inl f5_6))] [(c5_0, .int), (c5_1, .int), (c5_2, .int), (c5_3, .int), (c5_4, .int), (c5_5, .int), (c5_6, .int)] s H locs := h
      have hw_9 : r_9 = kRd p1 p3 p4 := by first | exact hw_9 | (simp only [Int32.toInt_toInt64] at hw_9; exact hw_9)
      refine k_topi (y := kRd p1 p3 p4) (hw_9) ?_
      refine W.eq (g2 := F0 m 84 ls [.int (kRd p1 p3 p4), .int (p0 * 10 + (f5_0 p0.toNatClampNeg)), .ref a5_5]) rfl ?_
      refine k_iast (j := (p0 * 10 + (f5_0 p0.toNatClampNeg)).toNatClampNeg) (ws' := [(o5, .inr (5, [.ref a5_0, .ref a5_1, .ref a5_2, .ref a5_3, .ref a5_4, .ref a5_5, .ref a5_6])), (a5_0, .inl (c5_0, 12, .inl f5_0)), (a5_1, .inl (c5_1, 120, .inl (upd f5_1 ((p0 * 10 + (f5_0 p0.toNatClampNeg)).toNatClampNeg) p1))), (a5_2, .inl (c5_2, 120, .inl (upd f5_2 ((p0 * 10 + (f5_0 p0.toNatClampNeg)).toNatClampNeg) (-1)))), (a5_3, .inl (c5_3, 120, .inl (upd f5_3 ((p0 * 10 + (f5_0 p0.toNatClampNeg)).toNatClampNeg) p3))), (a5_4, .inl (c5_4, 120, .inl (upd f5_4 ((p0 * 10 + (f5_0 p0.toNatClampNeg)).toNatClampNeg) p4))), (a5_5, .inl (c5_5, 120, .inl (upd f5_5 ((p0 * 10 + (f5_0 p0.toNatClampNeg)).toNatClampNeg) (kRd p1 p3 p4)))), (a5_6, .inl (c5_6, 120, .inl f5_6))]) E h 6 5 rfl rfl (vp_in_iff.mpr (by omega)) rfl rfl dX5_add_84 (fun H locs h => ?_)
      refine lv_aload_n hx hb dX5_add_85 rfl (lv_at hl 1 rfl) ?_
      refine k_get (v := .ref a5_6) E h (fun w h => List.mem_cons_of_mem _ (List.mem_append_right _ h)) 0 rfl rfl 6 (Nat.le_of_ble_eq_true rfl) (List.mem_of_getElem? (i := 7) rfl) rfl dX5_add_86 ?_
      refine lv_iload hx hb dX5_add_89 (lv_at hl 0 rfl) ?_
      refine lv_iload_n hx hb dX5_add_91 rfl (lv_at hl 3 rfl) ?_
      refine lv_iload_n hx hb dX5_add_92 rfl (lv_at hl 4 rfl) ?_
      refine kc_i (wc := []) (wr := [(o5, .inr (5, [.ref a5_0, .ref a5_1, .ref a5_2, .ref a5_3, .ref a5_4, .ref a5_5, .ref a5_6])), (a5_0, .inl (c5_0, 12, .inl f5_0)), (a5_1, .inl (c5_1, 120, .inl (upd f5_1 ((p0 * 10 + (f5_0 p0.toNatClampNeg)).toNatClampNeg) p1))), (a5_2, .inl (c5_2, 120, .inl (upd f5_2 ((p0 * 10 + (f5_0 p0.toNatClampNeg)).toNatClampNeg) (-1)))), (a5_3, .inl (c5_3, 120, .inl (upd f5_3 ((p0 * 10 + (f5_0 p0.toNatClampNeg)).toNatClampNeg) p3))), (a5_4, .inl (c5_4, 120, .inl (upd f5_4 ((p0 * 10 + (f5_0 p0.toNatClampNeg)).toNatClampNeg) p4))), (a5_5, .inl (c5_5, 120, .inl (upd f5_5 ((p0 * 10 + (f5_0 p0.toNatClampNeg)).toNatClampNeg) (kRd p1 p3 p4)))), (a5_6, .inl (c5_6, 120, .inl f5_6))]) h (va_runS (As := [.int p1, .int p2]) (rest := [.int (p0 * 10 + (f5_0 p0.toNatClampNeg)), .ref a5_6]) E (e_X5_writesOf l dC dI _ (p0 := p1) (p1 := p2)  (hp := hk)) (va_cwS 2 E.2.2.2.2 gX5_add_X5_writesOf rfl rfl rfl hdS_X5_writesOf ⟨Nat.le_of_ble_eq_true rfl, Nat.le_of_ble_eq_true rfl⟩) (kPreS h KAll.blind (KAll.call hX h [] rfl) [] [] (by decide) rfl rfl) rfl rfl hl.1 rfl (lv_room (Nat.le_of_ble_eq_true rfl)) dX5_add_93 ⟨Nat.le_of_ble_eq_true rfl, Nat.le_of_ble_eq_true rfl⟩) [] [0, 1, 2, 3, 4, 5, 6, 7] rfl rfl (by decide +kernel) (by decide +kernel) (fun r_10 u_10 H locs hw_10 h => ?_)
      have h : KS (dC, dI) A [(o5, .inr (5, [.ref a5_0, .ref a5_1, .ref a5_2, .ref a5_3, .ref a5_4, .ref a5_5, .ref a5_6])), (a5_0, .inl (c5_0, 12, .inl f5_0)), (a5_1, .inl (c5_1, 120, .inl (upd f5_1 ((p0 * 10 + (f5_0 p0.toNatClampNeg)).toNatClampNeg) p1))), (a5_2, .inl (c5_2, 120, .inl (upd f5_2 ((p0 * 10 + (f5_0 p0.toNatClampNeg)).toNatClampNeg) (-1)))), (a5_3, .inl (c5_3, 120, .inl (upd f5_3 ((p0 * 10 + (f5_0 p0.toNatClampNeg)).toNatClampNeg) p3))), (a5_4, .inl (c5_4, 120, .inl (upd f5_4 ((p0 * 10 + (f5_0 p0.toNatClampNeg)).toNatClampNeg) p4))), (a5_5, .inl (c5_5, 120, .inl (upd f5_5 ((p0 * 10 + (f5_0 p0.toNatClampNeg)).toNatClampNeg) (kRd p1 p3 p4)))), (a5_6, .inl (c5_6, 120, .inl f5_6))] [(c5_0, .int), (c5_1, .int), (c5_2, .int), (c5_3, .int), (c5_4, .int), (c5_5, .int), (c5_6, .int)] s H locs := h
      have hw_10 : r_10 = kWr p1 p2 := by first | exact hw_10 | (simp only [Int32.toInt_toInt64] at hw_10; exact hw_10)
      refine k_topi (y := kWr p1 p2) (hw_10) ?_
      refine W.eq (g2 := F0 m 96 ls [.int (kWr p1 p2), .int (p0 * 10 + (f5_0 p0.toNatClampNeg)), .ref a5_6]) rfl ?_
      refine k_iast (j := (p0 * 10 + (f5_0 p0.toNatClampNeg)).toNatClampNeg) (ws' := [(o5, .inr (5, [.ref a5_0, .ref a5_1, .ref a5_2, .ref a5_3, .ref a5_4, .ref a5_5, .ref a5_6])), (a5_0, .inl (c5_0, 12, .inl f5_0)), (a5_1, .inl (c5_1, 120, .inl (upd f5_1 ((p0 * 10 + (f5_0 p0.toNatClampNeg)).toNatClampNeg) p1))), (a5_2, .inl (c5_2, 120, .inl (upd f5_2 ((p0 * 10 + (f5_0 p0.toNatClampNeg)).toNatClampNeg) (-1)))), (a5_3, .inl (c5_3, 120, .inl (upd f5_3 ((p0 * 10 + (f5_0 p0.toNatClampNeg)).toNatClampNeg) p3))), (a5_4, .inl (c5_4, 120, .inl (upd f5_4 ((p0 * 10 + (f5_0 p0.toNatClampNeg)).toNatClampNeg) p4))), (a5_5, .inl (c5_5, 120, .inl (upd f5_5 ((p0 * 10 + (f5_0 p0.toNatClampNeg)).toNatClampNeg) (kRd p1 p3 p4)))), (a5_6, .inl (c5_6, 120, .inl (upd f5_6 ((p0 * 10 + (f5_0 p0.toNatClampNeg)).toNatClampNeg) (kWr p1 p2))))]) E h 7 6 rfl rfl (vp_in_iff.mpr (by omega)) rfl rfl dX5_add_96 (fun H locs h => ?_)
      refine lv_aload_n hx hb dX5_add_97 rfl (lv_at hl 1 rfl) ?_
      refine k_get (v := .ref a5_0) E h (fun w h => List.mem_cons_of_mem _ (List.mem_append_right _ h)) 0 rfl rfl 0 (Nat.le_of_ble_eq_true rfl) (List.mem_of_getElem? (i := 1) rfl) rfl dX5_add_98 ?_
      refine lv_iload_n hx hb dX5_add_101 rfl (lv_at hl 2 rfl) ?_
      refine lv_dup2_11 hx hb dX5_add_102 rfl rfl ?_
      refine k_iald (v := f5_0 p0.toNatClampNeg) E h 1 0 rfl rfl (vp_in_iff.mpr (by omega)) rfl dX5_add_103 ?_
      refine lv_iconst (v := 1) hx hb dX5_add_104 kic_1 ?_
      refine lv_iadd hx hb dX5_add_105 ?_
      refine k_iast (j := p0.toNatClampNeg) (ws' := [(o5, .inr (5, [.ref a5_0, .ref a5_1, .ref a5_2, .ref a5_3, .ref a5_4, .ref a5_5, .ref a5_6])), (a5_0, .inl (c5_0, 12, .inl (upd f5_0 p0.toNatClampNeg ((f5_0 p0.toNatClampNeg) + 1)))), (a5_1, .inl (c5_1, 120, .inl (upd f5_1 ((p0 * 10 + (f5_0 p0.toNatClampNeg)).toNatClampNeg) p1))), (a5_2, .inl (c5_2, 120, .inl (upd f5_2 ((p0 * 10 + (f5_0 p0.toNatClampNeg)).toNatClampNeg) (-1)))), (a5_3, .inl (c5_3, 120, .inl (upd f5_3 ((p0 * 10 + (f5_0 p0.toNatClampNeg)).toNatClampNeg) p3))), (a5_4, .inl (c5_4, 120, .inl (upd f5_4 ((p0 * 10 + (f5_0 p0.toNatClampNeg)).toNatClampNeg) p4))), (a5_5, .inl (c5_5, 120, .inl (upd f5_5 ((p0 * 10 + (f5_0 p0.toNatClampNeg)).toNatClampNeg) (kRd p1 p3 p4)))), (a5_6, .inl (c5_6, 120, .inl (upd f5_6 ((p0 * 10 + (f5_0 p0.toNatClampNeg)).toNatClampNeg) (kWr p1 p2))))]) E h 1 0 rfl rfl (vp_in_iff.mpr (by omega)) rfl rfl dX5_add_106 (fun H locs h => ?_)
      have hP9 := h.2.1.sub [0, 1, 2, 3, 4, 5, 6, 7] rfl
      have hD9 := h.2.2.1.sub (ws' := [(o5, .inr (5, [.ref a5_0, .ref a5_1, .ref a5_2, .ref a5_3, .ref a5_4, .ref a5_5, .ref a5_6])), (a5_0, .inl (c5_0, 12, .inl (upd f5_0 p0.toNatClampNeg ((f5_0 p0.toNatClampNeg) + 1)))), (a5_1, .inl (c5_1, 120, .inl (upd f5_1 ((p0 * 10 + (f5_0 p0.toNatClampNeg)).toNatClampNeg) p1))), (a5_2, .inl (c5_2, 120, .inl (upd f5_2 ((p0 * 10 + (f5_0 p0.toNatClampNeg)).toNatClampNeg) (-1)))), (a5_3, .inl (c5_3, 120, .inl (upd f5_3 ((p0 * 10 + (f5_0 p0.toNatClampNeg)).toNatClampNeg) p3))), (a5_4, .inl (c5_4, 120, .inl (upd f5_4 ((p0 * 10 + (f5_0 p0.toNatClampNeg)).toNatClampNeg) p4))), (a5_5, .inl (c5_5, 120, .inl (upd f5_5 ((p0 * 10 + (f5_0 p0.toNatClampNeg)).toNatClampNeg) (kRd p1 p3 p4)))), (a5_6, .inl (c5_6, 120, .inl (upd f5_6 ((p0 * 10 + (f5_0 p0.toNatClampNeg)).toNatClampNeg) (kWr p1 p2))))]) [0, 1, 2, 3, 4, 5, 6, 7] (by decide +kernel) rfl
      exact W.vret hx hb hr (fun t ht hW => ⟨⟨(upd f5_1 ((p0 * 10 + (f5_0 p0.toNatClampNeg)).toNatClampNeg) p1, upd f5_2 ((p0 * 10 + (f5_0 p0.toNatClampNeg)).toNatClampNeg) (-1), upd f5_3 ((p0 * 10 + (f5_0 p0.toNatClampNeg)).toNatClampNeg) p3, upd f5_4 ((p0 * 10 + (f5_0 p0.toNatClampNeg)).toNatClampNeg) p4, upd f5_5 ((p0 * 10 + (f5_0 p0.toNatClampNeg)).toNatClampNeg) (kRd p1 p3 p4), upd f5_6 ((p0 * 10 + (f5_0 p0.toNatClampNeg)).toNatClampNeg) (kWr p1 p2)), rfl, ⟨rfl, (by obtain ⟨_, t2, _, _, t5, _⟩ := kTab_f hk; unfold kDv; first | (rw [if_pos (by omega)]; done) | (rw [if_neg (by omega)]; done)), rfl, (by obtain ⟨_, t2, _, _, t5, _⟩ := kTab_f hk; unfold kYv; first | (rw [if_pos (by omega)]; done) | (rw [if_neg (by omega)]; done)), rfl, rfl⟩, (by rw [ht]; exact hP9), hD9⟩, h.2.2.2.1.F ht⟩) h.2.2.2.1.2.2 dX5_add_107 hlocks
    · skip
      have i_8 : (kTabY p1.toNatClampNeg).toInt = 0 := (fa_eq _ _).mp c_8
      refine lv_iconst (v := -1) hx hb dX5_add_63 kic_m1 ?_
      refine lv_goto (tgt := 69) hx hb dX5_add_64 rfl ?_
      refine k_iast (j := (p0 * 10 + (f5_0 p0.toNatClampNeg)).toNatClampNeg) (ws' := [(o5, .inr (5, [.ref a5_0, .ref a5_1, .ref a5_2, .ref a5_3, .ref a5_4, .ref a5_5, .ref a5_6])), (a5_0, .inl (c5_0, 12, .inl f5_0)), (a5_1, .inl (c5_1, 120, .inl (upd f5_1 ((p0 * 10 + (f5_0 p0.toNatClampNeg)).toNatClampNeg) p1))), (a5_2, .inl (c5_2, 120, .inl (upd f5_2 ((p0 * 10 + (f5_0 p0.toNatClampNeg)).toNatClampNeg) (-1)))), (a5_3, .inl (c5_3, 120, .inl (upd f5_3 ((p0 * 10 + (f5_0 p0.toNatClampNeg)).toNatClampNeg) p3))), (a5_4, .inl (c5_4, 120, .inl (upd f5_4 ((p0 * 10 + (f5_0 p0.toNatClampNeg)).toNatClampNeg) (-1)))), (a5_5, .inl (c5_5, 120, .inl f5_5)), (a5_6, .inl (c5_6, 120, .inl f5_6))]) E h 5 4 rfl rfl (vp_in_iff.mpr (by omega)) rfl rfl dX5_add_69 (fun H locs h => ?_)
      refine lv_aload_n hx hb dX5_add_70 rfl (lv_at hl 1 rfl) ?_
      refine k_get (v := .ref a5_5) E h (fun w h => List.mem_cons_of_mem _ (List.mem_append_right _ h)) 0 rfl rfl 5 (Nat.le_of_ble_eq_true rfl) (List.mem_of_getElem? (i := 6) rfl) rfl dX5_add_71 ?_
      refine lv_iload hx hb dX5_add_74 (lv_at hl 0 rfl) ?_
      refine lv_iload_n hx hb dX5_add_76 rfl (lv_at hl 3 rfl) ?_
      refine lv_iload hx hb dX5_add_77 (lv_at hl 5 rfl) ?_
      refine lv_iload hx hb dX5_add_79 (lv_at hl 6 rfl) ?_
      refine kc_i (wc := []) (wr := [(o5, .inr (5, [.ref a5_0, .ref a5_1, .ref a5_2, .ref a5_3, .ref a5_4, .ref a5_5, .ref a5_6])), (a5_0, .inl (c5_0, 12, .inl f5_0)), (a5_1, .inl (c5_1, 120, .inl (upd f5_1 ((p0 * 10 + (f5_0 p0.toNatClampNeg)).toNatClampNeg) p1))), (a5_2, .inl (c5_2, 120, .inl (upd f5_2 ((p0 * 10 + (f5_0 p0.toNatClampNeg)).toNatClampNeg) (-1)))), (a5_3, .inl (c5_3, 120, .inl (upd f5_3 ((p0 * 10 + (f5_0 p0.toNatClampNeg)).toNatClampNeg) p3))), (a5_4, .inl (c5_4, 120, .inl (upd f5_4 ((p0 * 10 + (f5_0 p0.toNatClampNeg)).toNatClampNeg) (-1)))), (a5_5, .inl (c5_5, 120, .inl f5_5)), (a5_6, .inl (c5_6, 120, .inl f5_6))]) h (va_runS (As := [.int p1, .int p3, .int p4]) (rest := [.int (p0 * 10 + (f5_0 p0.toNatClampNeg)), .ref a5_5]) E (e_X5_readsOf l dC dI _ (p0 := p1) (p1 := p3) (p2 := p4)  (hp := hk)) (va_cwS 3 E.2.2.2.2 gX5_add_X5_readsOf rfl rfl rfl hdS_X5_readsOf ⟨Nat.le_of_ble_eq_true rfl, Nat.le_of_ble_eq_true rfl⟩) (kPreS h KAll.blind (KAll.call hX h [] rfl) [] [] (by decide) rfl rfl) rfl rfl hl.1 rfl (lv_room (Nat.le_of_ble_eq_true rfl)) dX5_add_81 ⟨Nat.le_of_ble_eq_true rfl, Nat.le_of_ble_eq_true rfl⟩) [] [0, 1, 2, 3, 4, 5, 6, 7] rfl rfl (by decide +kernel) (by decide +kernel) (fun r_11 u_11 H locs hw_11 h => ?_)
      have h : KS (dC, dI) A [(o5, .inr (5, [.ref a5_0, .ref a5_1, .ref a5_2, .ref a5_3, .ref a5_4, .ref a5_5, .ref a5_6])), (a5_0, .inl (c5_0, 12, .inl f5_0)), (a5_1, .inl (c5_1, 120, .inl (upd f5_1 ((p0 * 10 + (f5_0 p0.toNatClampNeg)).toNatClampNeg) p1))), (a5_2, .inl (c5_2, 120, .inl (upd f5_2 ((p0 * 10 + (f5_0 p0.toNatClampNeg)).toNatClampNeg) (-1)))), (a5_3, .inl (c5_3, 120, .inl (upd f5_3 ((p0 * 10 + (f5_0 p0.toNatClampNeg)).toNatClampNeg) p3))), (a5_4, .inl (c5_4, 120, .inl (upd f5_4 ((p0 * 10 + (f5_0 p0.toNatClampNeg)).toNatClampNeg) (-1)))), (a5_5, .inl (c5_5, 120, .inl f5_5)), (a5_6, .inl (c5_6, 120, .inl f5_6))] [(c5_0, .int), (c5_1, .int), (c5_2, .int), (c5_3, .int), (c5_4, .int), (c5_5, .int), (c5_6, .int)] s H locs := h
      have hw_11 : r_11 = kRd p1 p3 p4 := by first | exact hw_11 | (simp only [Int32.toInt_toInt64] at hw_11; exact hw_11)
      refine k_topi (y := kRd p1 p3 p4) (hw_11) ?_
      refine W.eq (g2 := F0 m 84 ls [.int (kRd p1 p3 p4), .int (p0 * 10 + (f5_0 p0.toNatClampNeg)), .ref a5_5]) rfl ?_
      refine k_iast (j := (p0 * 10 + (f5_0 p0.toNatClampNeg)).toNatClampNeg) (ws' := [(o5, .inr (5, [.ref a5_0, .ref a5_1, .ref a5_2, .ref a5_3, .ref a5_4, .ref a5_5, .ref a5_6])), (a5_0, .inl (c5_0, 12, .inl f5_0)), (a5_1, .inl (c5_1, 120, .inl (upd f5_1 ((p0 * 10 + (f5_0 p0.toNatClampNeg)).toNatClampNeg) p1))), (a5_2, .inl (c5_2, 120, .inl (upd f5_2 ((p0 * 10 + (f5_0 p0.toNatClampNeg)).toNatClampNeg) (-1)))), (a5_3, .inl (c5_3, 120, .inl (upd f5_3 ((p0 * 10 + (f5_0 p0.toNatClampNeg)).toNatClampNeg) p3))), (a5_4, .inl (c5_4, 120, .inl (upd f5_4 ((p0 * 10 + (f5_0 p0.toNatClampNeg)).toNatClampNeg) (-1)))), (a5_5, .inl (c5_5, 120, .inl (upd f5_5 ((p0 * 10 + (f5_0 p0.toNatClampNeg)).toNatClampNeg) (kRd p1 p3 p4)))), (a5_6, .inl (c5_6, 120, .inl f5_6))]) E h 6 5 rfl rfl (vp_in_iff.mpr (by omega)) rfl rfl dX5_add_84 (fun H locs h => ?_)
      refine lv_aload_n hx hb dX5_add_85 rfl (lv_at hl 1 rfl) ?_
      refine k_get (v := .ref a5_6) E h (fun w h => List.mem_cons_of_mem _ (List.mem_append_right _ h)) 0 rfl rfl 6 (Nat.le_of_ble_eq_true rfl) (List.mem_of_getElem? (i := 7) rfl) rfl dX5_add_86 ?_
      refine lv_iload hx hb dX5_add_89 (lv_at hl 0 rfl) ?_
      refine lv_iload_n hx hb dX5_add_91 rfl (lv_at hl 3 rfl) ?_
      refine lv_iload_n hx hb dX5_add_92 rfl (lv_at hl 4 rfl) ?_
      refine kc_i (wc := []) (wr := [(o5, .inr (5, [.ref a5_0, .ref a5_1, .ref a5_2, .ref a5_3, .ref a5_4, .ref a5_5, .ref a5_6])), (a5_0, .inl (c5_0, 12, .inl f5_0)), (a5_1, .inl (c5_1, 120, .inl (upd f5_1 ((p0 * 10 + (f5_0 p0.toNatClampNeg)).toNatClampNeg) p1))), (a5_2, .inl (c5_2, 120, .inl (upd f5_2 ((p0 * 10 + (f5_0 p0.toNatClampNeg)).toNatClampNeg) (-1)))), (a5_3, .inl (c5_3, 120, .inl (upd f5_3 ((p0 * 10 + (f5_0 p0.toNatClampNeg)).toNatClampNeg) p3))), (a5_4, .inl (c5_4, 120, .inl (upd f5_4 ((p0 * 10 + (f5_0 p0.toNatClampNeg)).toNatClampNeg) (-1)))), (a5_5, .inl (c5_5, 120, .inl (upd f5_5 ((p0 * 10 + (f5_0 p0.toNatClampNeg)).toNatClampNeg) (kRd p1 p3 p4)))), (a5_6, .inl (c5_6, 120, .inl f5_6))]) h (va_runS (As := [.int p1, .int p2]) (rest := [.int (p0 * 10 + (f5_0 p0.toNatClampNeg)), .ref a5_6]) E (e_X5_writesOf l dC dI _ (p0 := p1) (p1 := p2)  (hp := hk)) (va_cwS 2 E.2.2.2.2 gX5_add_X5_writesOf rfl rfl rfl hdS_X5_writesOf ⟨Nat.le_of_ble_eq_true rfl, Nat.le_of_ble_eq_true rfl⟩) (kPreS h KAll.blind (KAll.call hX h [] rfl) [] [] (by decide) rfl rfl) rfl rfl hl.1 rfl (lv_room (Nat.le_of_ble_eq_true rfl)) dX5_add_93 ⟨Nat.le_of_ble_eq_true rfl, Nat.le_of_ble_eq_true rfl⟩) [] [0, 1, 2, 3, 4, 5, 6, 7] rfl rfl (by decide +kernel) (by decide +kernel) (fun r_12 u_12 H locs hw_12 h => ?_)
      have h : KS (dC, dI) A [(o5, .inr (5, [.ref a5_0, .ref a5_1, .ref a5_2, .ref a5_3, .ref a5_4, .ref a5_5, .ref a5_6])), (a5_0, .inl (c5_0, 12, .inl f5_0)), (a5_1, .inl (c5_1, 120, .inl (upd f5_1 ((p0 * 10 + (f5_0 p0.toNatClampNeg)).toNatClampNeg) p1))), (a5_2, .inl (c5_2, 120, .inl (upd f5_2 ((p0 * 10 + (f5_0 p0.toNatClampNeg)).toNatClampNeg) (-1)))), (a5_3, .inl (c5_3, 120, .inl (upd f5_3 ((p0 * 10 + (f5_0 p0.toNatClampNeg)).toNatClampNeg) p3))), (a5_4, .inl (c5_4, 120, .inl (upd f5_4 ((p0 * 10 + (f5_0 p0.toNatClampNeg)).toNatClampNeg) (-1)))), (a5_5, .inl (c5_5, 120, .inl (upd f5_5 ((p0 * 10 + (f5_0 p0.toNatClampNeg)).toNatClampNeg) (kRd p1 p3 p4)))), (a5_6, .inl (c5_6, 120, .inl f5_6))] [(c5_0, .int), (c5_1, .int), (c5_2, .int), (c5_3, .int), (c5_4, .int), (c5_5, .int), (c5_6, .int)] s H locs := h
      have hw_12 : r_12 = kWr p1 p2 := by first | exact hw_12 | (simp only [Int32.toInt_toInt64] at hw_12; exact hw_12)
      refine k_topi (y := kWr p1 p2) (hw_12) ?_
      refine W.eq (g2 := F0 m 96 ls [.int (kWr p1 p2), .int (p0 * 10 + (f5_0 p0.toNatClampNeg)), .ref a5_6]) rfl ?_
      refine k_iast (j := (p0 * 10 + (f5_0 p0.toNatClampNeg)).toNatClampNeg) (ws' := [(o5, .inr (5, [.ref a5_0, .ref a5_1, .ref a5_2, .ref a5_3, .ref a5_4, .ref a5_5, .ref a5_6])), (a5_0, .inl (c5_0, 12, .inl f5_0)), (a5_1, .inl (c5_1, 120, .inl (upd f5_1 ((p0 * 10 + (f5_0 p0.toNatClampNeg)).toNatClampNeg) p1))), (a5_2, .inl (c5_2, 120, .inl (upd f5_2 ((p0 * 10 + (f5_0 p0.toNatClampNeg)).toNatClampNeg) (-1)))), (a5_3, .inl (c5_3, 120, .inl (upd f5_3 ((p0 * 10 + (f5_0 p0.toNatClampNeg)).toNatClampNeg) p3))), (a5_4, .inl (c5_4, 120, .inl (upd f5_4 ((p0 * 10 + (f5_0 p0.toNatClampNeg)).toNatClampNeg) (-1)))), (a5_5, .inl (c5_5, 120, .inl (upd f5_5 ((p0 * 10 + (f5_0 p0.toNatClampNeg)).toNatClampNeg) (kRd p1 p3 p4)))), (a5_6, .inl (c5_6, 120, .inl (upd f5_6 ((p0 * 10 + (f5_0 p0.toNatClampNeg)).toNatClampNeg) (kWr p1 p2))))]) E h 7 6 rfl rfl (vp_in_iff.mpr (by omega)) rfl rfl dX5_add_96 (fun H locs h => ?_)
      refine lv_aload_n hx hb dX5_add_97 rfl (lv_at hl 1 rfl) ?_
      refine k_get (v := .ref a5_0) E h (fun w h => List.mem_cons_of_mem _ (List.mem_append_right _ h)) 0 rfl rfl 0 (Nat.le_of_ble_eq_true rfl) (List.mem_of_getElem? (i := 1) rfl) rfl dX5_add_98 ?_
      refine lv_iload_n hx hb dX5_add_101 rfl (lv_at hl 2 rfl) ?_
      refine lv_dup2_11 hx hb dX5_add_102 rfl rfl ?_
      refine k_iald (v := f5_0 p0.toNatClampNeg) E h 1 0 rfl rfl (vp_in_iff.mpr (by omega)) rfl dX5_add_103 ?_
      refine lv_iconst (v := 1) hx hb dX5_add_104 kic_1 ?_
      refine lv_iadd hx hb dX5_add_105 ?_
      refine k_iast (j := p0.toNatClampNeg) (ws' := [(o5, .inr (5, [.ref a5_0, .ref a5_1, .ref a5_2, .ref a5_3, .ref a5_4, .ref a5_5, .ref a5_6])), (a5_0, .inl (c5_0, 12, .inl (upd f5_0 p0.toNatClampNeg ((f5_0 p0.toNatClampNeg) + 1)))), (a5_1, .inl (c5_1, 120, .inl (upd f5_1 ((p0 * 10 + (f5_0 p0.toNatClampNeg)).toNatClampNeg) p1))), (a5_2, .inl (c5_2, 120, .inl (upd f5_2 ((p0 * 10 + (f5_0 p0.toNatClampNeg)).toNatClampNeg) (-1)))), (a5_3, .inl (c5_3, 120, .inl (upd f5_3 ((p0 * 10 + (f5_0 p0.toNatClampNeg)).toNatClampNeg) p3))), (a5_4, .inl (c5_4, 120, .inl (upd f5_4 ((p0 * 10 + (f5_0 p0.toNatClampNeg)).toNatClampNeg) (-1)))), (a5_5, .inl (c5_5, 120, .inl (upd f5_5 ((p0 * 10 + (f5_0 p0.toNatClampNeg)).toNatClampNeg) (kRd p1 p3 p4)))), (a5_6, .inl (c5_6, 120, .inl (upd f5_6 ((p0 * 10 + (f5_0 p0.toNatClampNeg)).toNatClampNeg) (kWr p1 p2))))]) E h 1 0 rfl rfl (vp_in_iff.mpr (by omega)) rfl rfl dX5_add_106 (fun H locs h => ?_)
      have hP9 := h.2.1.sub [0, 1, 2, 3, 4, 5, 6, 7] rfl
      have hD9 := h.2.2.1.sub (ws' := [(o5, .inr (5, [.ref a5_0, .ref a5_1, .ref a5_2, .ref a5_3, .ref a5_4, .ref a5_5, .ref a5_6])), (a5_0, .inl (c5_0, 12, .inl (upd f5_0 p0.toNatClampNeg ((f5_0 p0.toNatClampNeg) + 1)))), (a5_1, .inl (c5_1, 120, .inl (upd f5_1 ((p0 * 10 + (f5_0 p0.toNatClampNeg)).toNatClampNeg) p1))), (a5_2, .inl (c5_2, 120, .inl (upd f5_2 ((p0 * 10 + (f5_0 p0.toNatClampNeg)).toNatClampNeg) (-1)))), (a5_3, .inl (c5_3, 120, .inl (upd f5_3 ((p0 * 10 + (f5_0 p0.toNatClampNeg)).toNatClampNeg) p3))), (a5_4, .inl (c5_4, 120, .inl (upd f5_4 ((p0 * 10 + (f5_0 p0.toNatClampNeg)).toNatClampNeg) (-1)))), (a5_5, .inl (c5_5, 120, .inl (upd f5_5 ((p0 * 10 + (f5_0 p0.toNatClampNeg)).toNatClampNeg) (kRd p1 p3 p4)))), (a5_6, .inl (c5_6, 120, .inl (upd f5_6 ((p0 * 10 + (f5_0 p0.toNatClampNeg)).toNatClampNeg) (kWr p1 p2))))]) [0, 1, 2, 3, 4, 5, 6, 7] (by decide +kernel) rfl
      exact W.vret hx hb hr (fun t ht hW => ⟨⟨(upd f5_1 ((p0 * 10 + (f5_0 p0.toNatClampNeg)).toNatClampNeg) p1, upd f5_2 ((p0 * 10 + (f5_0 p0.toNatClampNeg)).toNatClampNeg) (-1), upd f5_3 ((p0 * 10 + (f5_0 p0.toNatClampNeg)).toNatClampNeg) p3, upd f5_4 ((p0 * 10 + (f5_0 p0.toNatClampNeg)).toNatClampNeg) (-1), upd f5_5 ((p0 * 10 + (f5_0 p0.toNatClampNeg)).toNatClampNeg) (kRd p1 p3 p4), upd f5_6 ((p0 * 10 + (f5_0 p0.toNatClampNeg)).toNatClampNeg) (kWr p1 p2)), rfl, ⟨rfl, (by obtain ⟨_, t2, _, _, t5, _⟩ := kTab_f hk; unfold kDv; first | (rw [if_pos (by omega)]; done) | (rw [if_neg (by omega)]; done)), rfl, (by obtain ⟨_, t2, _, _, t5, _⟩ := kTab_f hk; unfold kYv; first | (rw [if_pos (by omega)]; done) | (rw [if_neg (by omega)]; done)), rfl, rfl⟩, (by rw [ht]; exact hP9), hD9⟩, h.2.2.2.1.F ht⟩) h.2.2.2.1.2.2 dX5_add_107 hlocks
set_option maxHeartbeats 4000000 in
set_option maxRecDepth 100000 in
theorem e_X7_act (l : Launch) (dC : Nat → ClassId) (dI : Nat → Nat → Nat) (sz : Nat) (o7 : Nat) (o2 : Nat) (o5 : Nat) (o3 : Nat) (o4 : Nat) (o1 : Nat) (o0 : Nat) (a7_6 : Nat) (a7_7 : Nat) (v7_8 : Int32) (v7_9 : Int32) (v7_10 : Int32) (a7_11 : Nat) (v7_12 : Int32) (a7_13 : Nat) (v7_14 : Int32) (a7_15 : Nat) (c7_15 : ClassId) (f7_15 : Nat → Int32) (a5_0 : Nat) (a5_1 : Nat) (a5_2 : Nat) (a5_3 : Nat) (a5_4 : Nat) (a5_5 : Nat) (a5_6 : Nat) (c5_0 : ClassId) (f5_0 : Nat → Int32) (c5_1 : ClassId) (f5_1 : Nat → Int32) (c5_2 : ClassId) (f5_2 : Nat → Int32) (c5_3 : ClassId) (f5_3 : Nat → Int32) (c5_4 : ClassId) (f5_4 : Nat → Int32) (c5_5 : ClassId) (f5_5 : Nat → Int32) (c5_6 : ClassId) (f5_6 : Nat → Int32) (a3_0 : Nat) (a3_1 : Nat) (a3_2 : Nat) (a3_3 : Nat) (v3_4 : Int32) (o6 : Nat) (c3_0 : ClassId) (f3_0 : Nat → Int32) (v4_0 : Int32) (v4_1 : Int32) (a4_2 : Nat) (a4_3 : Nat) (a4_4 : Nat) (a4_5 : Nat) (a4_6 : Nat) (p0 : Int32) (p1 : Int32) (p2 : Int32) (p3 : Int32) (p4 : Int32) (hL5 : IL f5_0) : Met l yX7_act wsX7_act ({ frames := 2, cells := 0, slots := 0, locals := 49 } : Room) (va_Pc [.ref o7, .int p0, .int p1, .int p2, .int p3, .int p4] (KPre (dC, dI) [(o7, .inr (7, [.ref o2, .ref o5, .ref o3, .ref o4, .ref o1, .ref o0, .ref a7_6, .ref a7_7, .int v7_8, .int v7_9, .int v7_10, .ref a7_11, .int v7_12, .ref a7_13, .int v7_14, .ref a7_15])), (a7_15, .inl (c7_15, 8, .inl f7_15)), (o5, .inr (5, [.ref a5_0, .ref a5_1, .ref a5_2, .ref a5_3, .ref a5_4, .ref a5_5, .ref a5_6])), (a5_0, .inl (c5_0, 12, .inl f5_0)), (a5_1, .inl (c5_1, 120, .inl f5_1)), (a5_2, .inl (c5_2, 120, .inl f5_2)), (a5_3, .inl (c5_3, 120, .inl f5_3)), (a5_4, .inl (c5_4, 120, .inl f5_4)), (a5_5, .inl (c5_5, 120, .inl f5_5)), (a5_6, .inl (c5_6, 120, .inl f5_6)), (o3, .inr (3, [.ref a3_0, .ref a3_1, .ref a3_2, .ref a3_3, .int v3_4, .ref o5, .ref o6])), (a3_0, .inl (c3_0, 12, .inl f3_0)), (o4, .inr (4, [.int v4_0, .int v4_1, .ref a4_2, .ref a4_3, .ref a4_4, .ref a4_5, .ref a4_6, .ref o5, .ref o3]))] [(c7_15, .int), (c5_0, .int), (c5_1, .int), (c5_2, .int), (c5_3, .int), (c5_4, .int), (c5_5, .int), (c5_6, .int), (c3_0, .boolean)] sz (fun U => KAll (va_A [(o7, .inr (7, [.ref o2, .ref o5, .ref o3, .ref o4, .ref o1, .ref o0, .ref a7_6, .ref a7_7, .int v7_8, .int v7_9, .int v7_10, .ref a7_11, .int v7_12, .ref a7_13, .int v7_14, .ref a7_15])), (a7_15, .inl (c7_15, 8, .inl f7_15)), (o5, .inr (5, [.ref a5_0, .ref a5_1, .ref a5_2, .ref a5_3, .ref a5_4, .ref a5_5, .ref a5_6])), (a5_0, .inl (c5_0, 12, .inl f5_0)), (a5_1, .inl (c5_1, 120, .inl f5_1)), (a5_2, .inl (c5_2, 120, .inl f5_2)), (a5_3, .inl (c5_3, 120, .inl f5_3)), (a5_4, .inl (c5_4, 120, .inl f5_4)), (a5_5, .inl (c5_5, 120, .inl f5_5)), (a5_6, .inl (c5_6, 120, .inl f5_6)), (o3, .inr (3, [.ref a3_0, .ref a3_1, .ref a3_2, .ref a3_3, .int v3_4, .ref o5, .ref o6])), (a3_0, .inl (c3_0, 12, .inl f3_0)), (o4, .inr (4, [.int v4_0, .int v4_1, .ref a4_2, .ref a4_3, .ref a4_4, .ref a4_5, .ref a4_6, .ref o5, .ref o3]))] sz) U))) (va_Qi (fun (r : Int32) (u : (Nat → Int32) × (Nat → Int32) × (Nat → Int32) × (Nat → Int32) × (Nat → Int32) × (Nat → Int32) × (Nat → Int32) × (Nat → Int32) × (Nat → Int32) × Int32) => r = (if (0 ≤ p0.toInt ∧ p0.toInt < 12) then (if kActOK p1 p2 p3 p4 = true then (if (f5_0 p0.toNatClampNeg).toInt < 10 then f5_0 p0.toNatClampNeg + 1 else -7) else -6) else -3) ∧ u.2.1 = (if ((0 ≤ p0.toInt ∧ p0.toInt < 12) ∧ (kActOK p1 p2 p3 p4 = true ∧ (f5_0 p0.toNatClampNeg).toInt < 10)) then upd f5_0 p0.toNatClampNeg (f5_0 p0.toNatClampNeg + 1) else f5_0) ∧ u.2.2.1 = (if ((0 ≤ p0.toInt ∧ p0.toInt < 12) ∧ (kActOK p1 p2 p3 p4 = true ∧ (f5_0 p0.toNatClampNeg).toInt < 10)) then upd f5_1 (p0 * 10 + (f5_0 p0.toNatClampNeg)).toNatClampNeg p1 else f5_1) ∧ u.2.2.2.1 = (if ((0 ≤ p0.toInt ∧ p0.toInt < 12) ∧ (kActOK p1 p2 p3 p4 = true ∧ (f5_0 p0.toNatClampNeg).toInt < 10)) then upd f5_2 (p0 * 10 + (f5_0 p0.toNatClampNeg)).toNatClampNeg (kDv p1 p2) else f5_2) ∧ u.2.2.2.2.1 = (if ((0 ≤ p0.toInt ∧ p0.toInt < 12) ∧ (kActOK p1 p2 p3 p4 = true ∧ (f5_0 p0.toNatClampNeg).toInt < 10)) then upd f5_3 (p0 * 10 + (f5_0 p0.toNatClampNeg)).toNatClampNeg p3 else f5_3) ∧ u.2.2.2.2.2.1 = (if ((0 ≤ p0.toInt ∧ p0.toInt < 12) ∧ (kActOK p1 p2 p3 p4 = true ∧ (f5_0 p0.toNatClampNeg).toInt < 10)) then upd f5_4 (p0 * 10 + (f5_0 p0.toNatClampNeg)).toNatClampNeg (kYv p1 p4) else f5_4) ∧ u.2.2.2.2.2.2.1 = (if ((0 ≤ p0.toInt ∧ p0.toInt < 12) ∧ (kActOK p1 p2 p3 p4 = true ∧ (f5_0 p0.toNatClampNeg).toInt < 10)) then upd f5_5 (p0 * 10 + (f5_0 p0.toNatClampNeg)).toNatClampNeg (kRd p1 p3 p4) else f5_5) ∧ u.2.2.2.2.2.2.2.1 = (if ((0 ≤ p0.toInt ∧ p0.toInt < 12) ∧ (kActOK p1 p2 p3 p4 = true ∧ (f5_0 p0.toNatClampNeg).toInt < 10)) then upd f5_6 (p0 * 10 + (f5_0 p0.toNatClampNeg)).toNatClampNeg (kWr p1 p2) else f5_6) ∧ u.2.2.2.2.2.2.2.2.1 = (if ((0 ≤ p0.toInt ∧ p0.toInt < 12) ∧ (kActOK p1 p2 p3 p4 = true ∧ (f5_0 p0.toNatClampNeg).toInt < 10)) then upd f3_0 p0.toNatClampNeg 0 else f3_0) ∧ u.2.2.2.2.2.2.2.2.2 = (if ((0 ≤ p0.toInt ∧ p0.toInt < 12) ∧ (kActOK p1 p2 p3 p4 = true ∧ (f5_0 p0.toNatClampNeg).toInt < 10)) then 0 else v4_0)) (KPost (dC, dI) (va_A [(o7, .inr (7, [.ref o2, .ref o5, .ref o3, .ref o4, .ref o1, .ref o0, .ref a7_6, .ref a7_7, .int v7_8, .int v7_9, .int v7_10, .ref a7_11, .int v7_12, .ref a7_13, .int v7_14, .ref a7_15])), (a7_15, .inl (c7_15, 8, .inl f7_15)), (o5, .inr (5, [.ref a5_0, .ref a5_1, .ref a5_2, .ref a5_3, .ref a5_4, .ref a5_5, .ref a5_6])), (a5_0, .inl (c5_0, 12, .inl f5_0)), (a5_1, .inl (c5_1, 120, .inl f5_1)), (a5_2, .inl (c5_2, 120, .inl f5_2)), (a5_3, .inl (c5_3, 120, .inl f5_3)), (a5_4, .inl (c5_4, 120, .inl f5_4)), (a5_5, .inl (c5_5, 120, .inl f5_5)), (a5_6, .inl (c5_6, 120, .inl f5_6)), (o3, .inr (3, [.ref a3_0, .ref a3_1, .ref a3_2, .ref a3_3, .int v3_4, .ref o5, .ref o6])), (a3_0, .inl (c3_0, 12, .inl f3_0)), (o4, .inr (4, [.int v4_0, .int v4_1, .ref a4_2, .ref a4_3, .ref a4_4, .ref a4_5, .ref a4_6, .ref o5, .ref o3]))] sz) (fun (u : (Nat → Int32) × (Nat → Int32) × (Nat → Int32) × (Nat → Int32) × (Nat → Int32) × (Nat → Int32) × (Nat → Int32) × (Nat → Int32) × (Nat → Int32) × Int32) => [(o7, .inr (7, [.ref o2, .ref o5, .ref o3, .ref o4, .ref o1, .ref o0, .ref a7_6, .ref a7_7, .int v7_8, .int v7_9, .int v7_10, .ref a7_11, .int v7_12, .ref a7_13, .int v7_14, .ref a7_15])), (a7_15, .inl (c7_15, 8, .inl u.1)), (o5, .inr (5, [.ref a5_0, .ref a5_1, .ref a5_2, .ref a5_3, .ref a5_4, .ref a5_5, .ref a5_6])), (a5_0, .inl (c5_0, 12, .inl u.2.1)), (a5_1, .inl (c5_1, 120, .inl u.2.2.1)), (a5_2, .inl (c5_2, 120, .inl u.2.2.2.1)), (a5_3, .inl (c5_3, 120, .inl u.2.2.2.2.1)), (a5_4, .inl (c5_4, 120, .inl u.2.2.2.2.2.1)), (a5_5, .inl (c5_5, 120, .inl u.2.2.2.2.2.2.1)), (a5_6, .inl (c5_6, 120, .inl u.2.2.2.2.2.2.2.1)), (o3, .inr (3, [.ref a3_0, .ref a3_1, .ref a3_2, .ref a3_3, .int v3_4, .ref o5, .ref o6])), (a3_0, .inl (c3_0, 12, .inl u.2.2.2.2.2.2.2.2.1)), (o4, .inr (4, [.int u.2.2.2.2.2.2.2.2.2, .int v4_1, .ref a4_2, .ref a4_3, .ref a4_4, .ref a4_5, .ref a4_6, .ref o5, .ref o3]))])) (va_A [(o7, .inr (7, [.ref o2, .ref o5, .ref o3, .ref o4, .ref o1, .ref o0, .ref a7_6, .ref a7_7, .int v7_8, .int v7_9, .int v7_10, .ref a7_11, .int v7_12, .ref a7_13, .int v7_14, .ref a7_15])), (a7_15, .inl (c7_15, 8, .inl f7_15)), (o5, .inr (5, [.ref a5_0, .ref a5_1, .ref a5_2, .ref a5_3, .ref a5_4, .ref a5_5, .ref a5_6])), (a5_0, .inl (c5_0, 12, .inl f5_0)), (a5_1, .inl (c5_1, 120, .inl f5_1)), (a5_2, .inl (c5_2, 120, .inl f5_2)), (a5_3, .inl (c5_3, 120, .inl f5_3)), (a5_4, .inl (c5_4, 120, .inl f5_4)), (a5_5, .inl (c5_5, 120, .inl f5_5)), (a5_6, .inl (c5_6, 120, .inl f5_6)), (o3, .inr (3, [.ref a3_0, .ref a3_1, .ref a3_2, .ref a3_3, .int v3_4, .ref o5, .ref o6])), (a3_0, .inl (c3_0, 12, .inl f3_0)), (o4, .inr (4, [.int v4_0, .int v4_1, .ref a4_2, .ref a4_3, .ref a4_4, .ref a4_5, .ref a4_6, .ref o5, .ref o3]))] sz)) 0 0 (va_A [(o7, .inr (7, [.ref o2, .ref o5, .ref o3, .ref o4, .ref o1, .ref o0, .ref a7_6, .ref a7_7, .int v7_8, .int v7_9, .int v7_10, .ref a7_11, .int v7_12, .ref a7_13, .int v7_14, .ref a7_15])), (a7_15, .inl (c7_15, 8, .inl f7_15)), (o5, .inr (5, [.ref a5_0, .ref a5_1, .ref a5_2, .ref a5_3, .ref a5_4, .ref a5_5, .ref a5_6])), (a5_0, .inl (c5_0, 12, .inl f5_0)), (a5_1, .inl (c5_1, 120, .inl f5_1)), (a5_2, .inl (c5_2, 120, .inl f5_2)), (a5_3, .inl (c5_3, 120, .inl f5_3)), (a5_4, .inl (c5_4, 120, .inl f5_4)), (a5_5, .inl (c5_5, 120, .inl f5_5)), (a5_6, .inl (c5_6, 120, .inl f5_6)), (o3, .inr (3, [.ref a3_0, .ref a3_1, .ref a3_2, .ref a3_3, .int v3_4, .ref o5, .ref o6])), (a3_0, .inl (c3_0, 12, .inl f3_0)), (o4, .inr (4, [.int v4_0, .int v4_1, .ref a4_2, .ref a4_3, .ref a4_4, .ref a4_5, .ref a4_6, .ref o5, .ref o3]))] sz) := by
  refine kMet (y := yX7_act) (wsM := wsX7_act) (cc := cX7_act) (maxL := 6) (ret := (some .int)) (rm := ({ frames := 2, cells := 0, slots := 0, locals := 49 } : Room)) (mc := 0) (ms := 0) (av := [.ref o7, .int p0, .int p1, .int p2, .int p3, .int p4]) (D := (dC, dI)) (wc := [(o7, .inr (7, [.ref o2, .ref o5, .ref o3, .ref o4, .ref o1, .ref o0, .ref a7_6, .ref a7_7, .int v7_8, .int v7_9, .int v7_10, .ref a7_11, .int v7_12, .ref a7_13, .int v7_14, .ref a7_15])), (a7_15, .inl (c7_15, 8, .inl f7_15)), (o5, .inr (5, [.ref a5_0, .ref a5_1, .ref a5_2, .ref a5_3, .ref a5_4, .ref a5_5, .ref a5_6])), (a5_0, .inl (c5_0, 12, .inl f5_0)), (a5_1, .inl (c5_1, 120, .inl f5_1)), (a5_2, .inl (c5_2, 120, .inl f5_2)), (a5_3, .inl (c5_3, 120, .inl f5_3)), (a5_4, .inl (c5_4, 120, .inl f5_4)), (a5_5, .inl (c5_5, 120, .inl f5_5)), (a5_6, .inl (c5_6, 120, .inl f5_6)), (o3, .inr (3, [.ref a3_0, .ref a3_1, .ref a3_2, .ref a3_3, .int v3_4, .ref o5, .ref o6])), (a3_0, .inl (c3_0, 12, .inl f3_0)), (o4, .inr (4, [.int v4_0, .int v4_1, .ref a4_2, .ref a4_3, .ref a4_4, .ref a4_5, .ref a4_6, .ref o5, .ref o3]))]) (tc := [(c7_15, .int), (c5_0, .int), (c5_1, .int), (c5_2, .int), (c5_3, .int), (c5_4, .int), (c5_5, .int), (c5_6, .int), (c3_0, .boolean)]) (sz := sz) (X := fun U => KAll (va_A [(o7, .inr (7, [.ref o2, .ref o5, .ref o3, .ref o4, .ref o1, .ref o0, .ref a7_6, .ref a7_7, .int v7_8, .int v7_9, .int v7_10, .ref a7_11, .int v7_12, .ref a7_13, .int v7_14, .ref a7_15])), (a7_15, .inl (c7_15, 8, .inl f7_15)), (o5, .inr (5, [.ref a5_0, .ref a5_1, .ref a5_2, .ref a5_3, .ref a5_4, .ref a5_5, .ref a5_6])), (a5_0, .inl (c5_0, 12, .inl f5_0)), (a5_1, .inl (c5_1, 120, .inl f5_1)), (a5_2, .inl (c5_2, 120, .inl f5_2)), (a5_3, .inl (c5_3, 120, .inl f5_3)), (a5_4, .inl (c5_4, 120, .inl f5_4)), (a5_5, .inl (c5_5, 120, .inl f5_5)), (a5_6, .inl (c5_6, 120, .inl f5_6)), (o3, .inr (3, [.ref a3_0, .ref a3_1, .ref a3_2, .ref a3_3, .int v3_4, .ref o5, .ref o6])), (a3_0, .inl (c3_0, 12, .inl f3_0)), (o4, .inr (4, [.int v4_0, .int v4_1, .ref a4_2, .ref a4_3, .ref a4_4, .ref a4_5, .ref a4_6, .ref o5, .ref o3]))] sz) U) (Qc := fun A => va_Qi (fun (r : Int32) (u : (Nat → Int32) × (Nat → Int32) × (Nat → Int32) × (Nat → Int32) × (Nat → Int32) × (Nat → Int32) × (Nat → Int32) × (Nat → Int32) × (Nat → Int32) × Int32) => r = (if (0 ≤ p0.toInt ∧ p0.toInt < 12) then (if kActOK p1 p2 p3 p4 = true then (if (f5_0 p0.toNatClampNeg).toInt < 10 then f5_0 p0.toNatClampNeg + 1 else -7) else -6) else -3) ∧ u.2.1 = (if ((0 ≤ p0.toInt ∧ p0.toInt < 12) ∧ (kActOK p1 p2 p3 p4 = true ∧ (f5_0 p0.toNatClampNeg).toInt < 10)) then upd f5_0 p0.toNatClampNeg (f5_0 p0.toNatClampNeg + 1) else f5_0) ∧ u.2.2.1 = (if ((0 ≤ p0.toInt ∧ p0.toInt < 12) ∧ (kActOK p1 p2 p3 p4 = true ∧ (f5_0 p0.toNatClampNeg).toInt < 10)) then upd f5_1 (p0 * 10 + (f5_0 p0.toNatClampNeg)).toNatClampNeg p1 else f5_1) ∧ u.2.2.2.1 = (if ((0 ≤ p0.toInt ∧ p0.toInt < 12) ∧ (kActOK p1 p2 p3 p4 = true ∧ (f5_0 p0.toNatClampNeg).toInt < 10)) then upd f5_2 (p0 * 10 + (f5_0 p0.toNatClampNeg)).toNatClampNeg (kDv p1 p2) else f5_2) ∧ u.2.2.2.2.1 = (if ((0 ≤ p0.toInt ∧ p0.toInt < 12) ∧ (kActOK p1 p2 p3 p4 = true ∧ (f5_0 p0.toNatClampNeg).toInt < 10)) then upd f5_3 (p0 * 10 + (f5_0 p0.toNatClampNeg)).toNatClampNeg p3 else f5_3) ∧ u.2.2.2.2.2.1 = (if ((0 ≤ p0.toInt ∧ p0.toInt < 12) ∧ (kActOK p1 p2 p3 p4 = true ∧ (f5_0 p0.toNatClampNeg).toInt < 10)) then upd f5_4 (p0 * 10 + (f5_0 p0.toNatClampNeg)).toNatClampNeg (kYv p1 p4) else f5_4) ∧ u.2.2.2.2.2.2.1 = (if ((0 ≤ p0.toInt ∧ p0.toInt < 12) ∧ (kActOK p1 p2 p3 p4 = true ∧ (f5_0 p0.toNatClampNeg).toInt < 10)) then upd f5_5 (p0 * 10 + (f5_0 p0.toNatClampNeg)).toNatClampNeg (kRd p1 p3 p4) else f5_5) ∧ u.2.2.2.2.2.2.2.1 = (if ((0 ≤ p0.toInt ∧ p0.toInt < 12) ∧ (kActOK p1 p2 p3 p4 = true ∧ (f5_0 p0.toNatClampNeg).toInt < 10)) then upd f5_6 (p0 * 10 + (f5_0 p0.toNatClampNeg)).toNatClampNeg (kWr p1 p2) else f5_6) ∧ u.2.2.2.2.2.2.2.2.1 = (if ((0 ≤ p0.toInt ∧ p0.toInt < 12) ∧ (kActOK p1 p2 p3 p4 = true ∧ (f5_0 p0.toNatClampNeg).toInt < 10)) then upd f3_0 p0.toNatClampNeg 0 else f3_0) ∧ u.2.2.2.2.2.2.2.2.2 = (if ((0 ≤ p0.toInt ∧ p0.toInt < 12) ∧ (kActOK p1 p2 p3 p4 = true ∧ (f5_0 p0.toNatClampNeg).toInt < 10)) then 0 else v4_0)) (KPost (dC, dI) A (fun (u : (Nat → Int32) × (Nat → Int32) × (Nat → Int32) × (Nat → Int32) × (Nat → Int32) × (Nat → Int32) × (Nat → Int32) × (Nat → Int32) × (Nat → Int32) × Int32) => [(o7, .inr (7, [.ref o2, .ref o5, .ref o3, .ref o4, .ref o1, .ref o0, .ref a7_6, .ref a7_7, .int v7_8, .int v7_9, .int v7_10, .ref a7_11, .int v7_12, .ref a7_13, .int v7_14, .ref a7_15])), (a7_15, .inl (c7_15, 8, .inl u.1)), (o5, .inr (5, [.ref a5_0, .ref a5_1, .ref a5_2, .ref a5_3, .ref a5_4, .ref a5_5, .ref a5_6])), (a5_0, .inl (c5_0, 12, .inl u.2.1)), (a5_1, .inl (c5_1, 120, .inl u.2.2.1)), (a5_2, .inl (c5_2, 120, .inl u.2.2.2.1)), (a5_3, .inl (c5_3, 120, .inl u.2.2.2.2.1)), (a5_4, .inl (c5_4, 120, .inl u.2.2.2.2.2.1)), (a5_5, .inl (c5_5, 120, .inl u.2.2.2.2.2.2.1)), (a5_6, .inl (c5_6, 120, .inl u.2.2.2.2.2.2.2.1)), (o3, .inr (3, [.ref a3_0, .ref a3_1, .ref a3_2, .ref a3_3, .int v3_4, .ref o5, .ref o6])), (a3_0, .inl (c3_0, 12, .inl u.2.2.2.2.2.2.2.2.1)), (o4, .inr (4, [.int u.2.2.2.2.2.2.2.2.2, .int v4_1, .ref a4_2, .ref a4_3, .ref a4_4, .ref a4_5, .ref a4_6, .ref o5, .ref o3]))])) A) (by decide) rfl (Nat.le_of_ble_eq_true rfl) ?_
  intro p e s m below meth c A ls E hr hlocks hnm hsz hAe hX h hl
  have hx := E.1
  have hb := E.2.1
  have hl : lv_has ls 6 [(0, .ref o7), (1, .int p0), (2, .int p1), (3, .int p2), (4, .int p3), (5, .int p4)] := hl
  have hX : KAll A s := by rw [← hAe]; exact hX
  obtain ⟨⟨tD, hZD, hTD⟩, ⟨tX, hZX, hTX⟩, ⟨tY, hZY, hTY⟩, ⟨tP, hZP, hTP⟩, ⟨tL, hZL, hTL⟩, ⟨tM, hZM, hTM⟩, hN0_134, hN0_60, hN0_96, hN1_83, hN1_87, hN3_49, hN3_52, hN4_44, hN4_69, hN5_33, hN6_102, hN6_67, hF37, hF40, hF50, hF53⟩ := id hX
  refine lv_iload_n hx hb dX7_act_0 rfl (lv_at hl 1 rfl) ?_
  refine kc_i (wc := []) (wr := [(o7, .inr (7, [.ref o2, .ref o5, .ref o3, .ref o4, .ref o1, .ref o0, .ref a7_6, .ref a7_7, .int v7_8, .int v7_9, .int v7_10, .ref a7_11, .int v7_12, .ref a7_13, .int v7_14, .ref a7_15])), (a7_15, .inl (c7_15, 8, .inl f7_15)), (o5, .inr (5, [.ref a5_0, .ref a5_1, .ref a5_2, .ref a5_3, .ref a5_4, .ref a5_5, .ref a5_6])), (a5_0, .inl (c5_0, 12, .inl f5_0)), (a5_1, .inl (c5_1, 120, .inl f5_1)), (a5_2, .inl (c5_2, 120, .inl f5_2)), (a5_3, .inl (c5_3, 120, .inl f5_3)), (a5_4, .inl (c5_4, 120, .inl f5_4)), (a5_5, .inl (c5_5, 120, .inl f5_5)), (a5_6, .inl (c5_6, 120, .inl f5_6)), (o3, .inr (3, [.ref a3_0, .ref a3_1, .ref a3_2, .ref a3_3, .int v3_4, .ref o5, .ref o6])), (a3_0, .inl (c3_0, 12, .inl f3_0)), (o4, .inr (4, [.int v4_0, .int v4_1, .ref a4_2, .ref a4_3, .ref a4_4, .ref a4_5, .ref a4_6, .ref o5, .ref o3]))]) h (va_runS (As := [.int p0]) (rest := []) E (c_X7_isInstruction l dC dI _ (p0 := p0)  ) (va_cwS 1 E.2.2.2.2 gX7_act_X7_isInstruction rfl rfl rfl hdS_X7_isInstruction ⟨Nat.le_of_ble_eq_true rfl, Nat.le_of_ble_eq_true rfl⟩) (kPreS h KX_true (fun _ _ _ => trivial) [] [] (by decide) rfl rfl) rfl rfl hl.1 rfl (lv_room (Nat.le_of_ble_eq_true rfl)) dX7_act_1 ⟨Nat.le_of_ble_eq_true rfl, Nat.le_of_ble_eq_true rfl⟩) [] [0, 1, 2, 3, 4, 5, 6, 7, 8, 9, 10, 11, 12] rfl rfl (by decide +kernel) (by decide +kernel) (fun r_1 u_1 H locs hw_1 h => ?_)
  have h : KS (dC, dI) A [(o7, .inr (7, [.ref o2, .ref o5, .ref o3, .ref o4, .ref o1, .ref o0, .ref a7_6, .ref a7_7, .int v7_8, .int v7_9, .int v7_10, .ref a7_11, .int v7_12, .ref a7_13, .int v7_14, .ref a7_15])), (a7_15, .inl (c7_15, 8, .inl f7_15)), (o5, .inr (5, [.ref a5_0, .ref a5_1, .ref a5_2, .ref a5_3, .ref a5_4, .ref a5_5, .ref a5_6])), (a5_0, .inl (c5_0, 12, .inl f5_0)), (a5_1, .inl (c5_1, 120, .inl f5_1)), (a5_2, .inl (c5_2, 120, .inl f5_2)), (a5_3, .inl (c5_3, 120, .inl f5_3)), (a5_4, .inl (c5_4, 120, .inl f5_4)), (a5_5, .inl (c5_5, 120, .inl f5_5)), (a5_6, .inl (c5_6, 120, .inl f5_6)), (o3, .inr (3, [.ref a3_0, .ref a3_1, .ref a3_2, .ref a3_3, .int v3_4, .ref o5, .ref o6])), (a3_0, .inl (c3_0, 12, .inl f3_0)), (o4, .inr (4, [.int v4_0, .int v4_1, .ref a4_2, .ref a4_3, .ref a4_4, .ref a4_5, .ref a4_6, .ref o5, .ref o3]))] [(c7_15, .int), (c5_0, .int), (c5_1, .int), (c5_2, .int), (c5_3, .int), (c5_4, .int), (c5_5, .int), (c5_6, .int), (c3_0, .boolean)] s H locs := h
  have hw_1 : r_1 = if 0 ≤ p0.toInt ∧ p0.toInt < 12 then 1 else 0 := by first | exact hw_1 | (simp only [Int32.toInt_toInt64] at hw_1; exact hw_1)
  refine W.eq (g2 := F0 m 4 ls [.int r_1]) rfl ?_
  refine lv_if_ne (tgt := 14) hx hb dX7_act_4 rfl (fun c_2 => ?_) (fun c_2 => ?_)
  · skip
    have b_2 := kb1 hw_1 c_2
    have hl5 := IL_at hL5 b_2
    refine lv_iload_n hx hb dX7_act_14 rfl (lv_at hl 2 rfl) ?_
    refine lv_iload_n hx hb dX7_act_15 rfl (lv_at hl 3 rfl) ?_
    refine lv_iload hx hb dX7_act_16 (lv_at hl 4 rfl) ?_
    refine lv_iload hx hb dX7_act_18 (lv_at hl 5 rfl) ?_
    refine kc_i (wc := []) (wr := [(o7, .inr (7, [.ref o2, .ref o5, .ref o3, .ref o4, .ref o1, .ref o0, .ref a7_6, .ref a7_7, .int v7_8, .int v7_9, .int v7_10, .ref a7_11, .int v7_12, .ref a7_13, .int v7_14, .ref a7_15])), (a7_15, .inl (c7_15, 8, .inl f7_15)), (o5, .inr (5, [.ref a5_0, .ref a5_1, .ref a5_2, .ref a5_3, .ref a5_4, .ref a5_5, .ref a5_6])), (a5_0, .inl (c5_0, 12, .inl f5_0)), (a5_1, .inl (c5_1, 120, .inl f5_1)), (a5_2, .inl (c5_2, 120, .inl f5_2)), (a5_3, .inl (c5_3, 120, .inl f5_3)), (a5_4, .inl (c5_4, 120, .inl f5_4)), (a5_5, .inl (c5_5, 120, .inl f5_5)), (a5_6, .inl (c5_6, 120, .inl f5_6)), (o3, .inr (3, [.ref a3_0, .ref a3_1, .ref a3_2, .ref a3_3, .int v3_4, .ref o5, .ref o6])), (a3_0, .inl (c3_0, 12, .inl f3_0)), (o4, .inr (4, [.int v4_0, .int v4_1, .ref a4_2, .ref a4_3, .ref a4_4, .ref a4_5, .ref a4_6, .ref o5, .ref o3]))]) h (va_runS (As := [.int p1, .int p2, .int p3, .int p4]) (rest := []) E (c_X7_isAct l dC dI _ (p0 := p1) (p1 := p2) (p2 := p3) (p3 := p4)  ) (va_cwS 4 E.2.2.2.2 gX7_act_X7_isAct rfl rfl rfl hdS_X7_isAct ⟨Nat.le_of_ble_eq_true rfl, Nat.le_of_ble_eq_true rfl⟩) (kPreS h KAll.blind (KAll.call hX h [] rfl) [] [] (by decide) rfl rfl) rfl rfl hl.1 rfl (lv_room (Nat.le_of_ble_eq_true rfl)) dX7_act_20 ⟨Nat.le_of_ble_eq_true rfl, Nat.le_of_ble_eq_true rfl⟩) [] [0, 1, 2, 3, 4, 5, 6, 7, 8, 9, 10, 11, 12] rfl rfl (by decide +kernel) (by decide +kernel) (fun r_3 u_3 H locs hw_3 h => ?_)
    have h : KS (dC, dI) A [(o7, .inr (7, [.ref o2, .ref o5, .ref o3, .ref o4, .ref o1, .ref o0, .ref a7_6, .ref a7_7, .int v7_8, .int v7_9, .int v7_10, .ref a7_11, .int v7_12, .ref a7_13, .int v7_14, .ref a7_15])), (a7_15, .inl (c7_15, 8, .inl f7_15)), (o5, .inr (5, [.ref a5_0, .ref a5_1, .ref a5_2, .ref a5_3, .ref a5_4, .ref a5_5, .ref a5_6])), (a5_0, .inl (c5_0, 12, .inl f5_0)), (a5_1, .inl (c5_1, 120, .inl f5_1)), (a5_2, .inl (c5_2, 120, .inl f5_2)), (a5_3, .inl (c5_3, 120, .inl f5_3)), (a5_4, .inl (c5_4, 120, .inl f5_4)), (a5_5, .inl (c5_5, 120, .inl f5_5)), (a5_6, .inl (c5_6, 120, .inl f5_6)), (o3, .inr (3, [.ref a3_0, .ref a3_1, .ref a3_2, .ref a3_3, .int v3_4, .ref o5, .ref o6])), (a3_0, .inl (c3_0, 12, .inl f3_0)), (o4, .inr (4, [.int v4_0, .int v4_1, .ref a4_2, .ref a4_3, .ref a4_4, .ref a4_5, .ref a4_6, .ref o5, .ref o3]))] [(c7_15, .int), (c5_0, .int), (c5_1, .int), (c5_2, .int), (c5_3, .int), (c5_4, .int), (c5_5, .int), (c5_6, .int), (c3_0, .boolean)] s H locs := h
    have hw_3 : r_3 = if kActOK p1 p2 p3 p4 = true then 1 else 0 := by first | exact hw_3 | (simp only [Int32.toInt_toInt64] at hw_3; exact hw_3)
    refine W.eq (g2 := F0 m 23 ls [.int r_3]) rfl ?_
    refine lv_if_ne (tgt := 33) hx hb dX7_act_23 rfl (fun c_4 => ?_) (fun c_4 => ?_)
    · skip
      have b_4 := kb1 hw_3 c_4
      have hka : 0 ≤ p1.toInt ∧ p1.toInt < 11 := by have z := b_4; simp only [kActOK, decide_eq_true_eq] at z; omega
      have hok := b_4
      refine lv_aload_n hx hb dX7_act_33 rfl (lv_at hl 0 rfl) ?_
      refine k_get (v := .ref o5) E h (fun w h => List.mem_cons_of_mem _ (List.mem_append_left _ (List.mem_append_left _ (List.mem_append_left _ (List.mem_append_right _ h))))) 0 rfl rfl 1 (Nat.le_of_ble_eq_true rfl) (List.mem_of_getElem? (i := 1) rfl) rfl dX7_act_34 ?_
      refine k_get (v := .ref a5_0) E h (fun w h => List.mem_cons_of_mem _ (List.mem_append_left _ (List.mem_append_left _ (List.mem_append_right _ h)))) 2 rfl rfl 0 (Nat.le_of_ble_eq_true rfl) (List.mem_of_getElem? (i := 2) rfl) rfl dX7_act_37 ?_
      refine lv_iload_n hx hb dX7_act_40 rfl (lv_at hl 1 rfl) ?_
      refine k_iald (v := f5_0 p0.toNatClampNeg) E h 3 1 rfl rfl (vp_in_iff.mpr (by omega)) rfl dX7_act_41 ?_
      refine lv_bipush (v := 10) hx hb dX7_act_42 kbi_10 ?_
      refine lv_icmp_lt (tgt := 54) hx hb dX7_act_44 rfl (fun c_5 => ?_) (fun c_5 => ?_)
      · skip
        have i_5 : (f5_0 p0.toNatClampNeg).toInt < 10 := (fa_lt _ _).mp c_5
        refine lv_aload_n hx hb dX7_act_54 rfl (lv_at hl 0 rfl) ?_
        refine k_get (v := .ref o5) E h (fun w h => List.mem_cons_of_mem _ (List.mem_append_left _ (List.mem_append_left _ (List.mem_append_left _ (List.mem_append_right _ h))))) 0 rfl rfl 1 (Nat.le_of_ble_eq_true rfl) (List.mem_of_getElem? (i := 1) rfl) rfl dX7_act_55 ?_
        refine lv_iload_n hx hb dX7_act_58 rfl (lv_at hl 1 rfl) ?_
        refine lv_iload_n hx hb dX7_act_59 rfl (lv_at hl 2 rfl) ?_
        refine lv_iload_n hx hb dX7_act_60 rfl (lv_at hl 3 rfl) ?_
        refine lv_iload hx hb dX7_act_61 (lv_at hl 4 rfl) ?_
        refine lv_iload hx hb dX7_act_63 (lv_at hl 5 rfl) ?_
        refine kc_v (wc := [(o5, .inr (5, [.ref a5_0, .ref a5_1, .ref a5_2, .ref a5_3, .ref a5_4, .ref a5_5, .ref a5_6])), (a5_0, .inl (c5_0, 12, .inl f5_0)), (a5_1, .inl (c5_1, 120, .inl f5_1)), (a5_2, .inl (c5_2, 120, .inl f5_2)), (a5_3, .inl (c5_3, 120, .inl f5_3)), (a5_4, .inl (c5_4, 120, .inl f5_4)), (a5_5, .inl (c5_5, 120, .inl f5_5)), (a5_6, .inl (c5_6, 120, .inl f5_6))]) (wr := [(o7, .inr (7, [.ref o2, .ref o5, .ref o3, .ref o4, .ref o1, .ref o0, .ref a7_6, .ref a7_7, .int v7_8, .int v7_9, .int v7_10, .ref a7_11, .int v7_12, .ref a7_13, .int v7_14, .ref a7_15])), (a7_15, .inl (c7_15, 8, .inl f7_15)), (o3, .inr (3, [.ref a3_0, .ref a3_1, .ref a3_2, .ref a3_3, .int v3_4, .ref o5, .ref o6])), (a3_0, .inl (c3_0, 12, .inl f3_0)), (o4, .inr (4, [.int v4_0, .int v4_1, .ref a4_2, .ref a4_3, .ref a4_4, .ref a4_5, .ref a4_6, .ref o5, .ref o3]))]) h (va_runV (As := [.int p0, .int p1, .int p2, .int p3, .int p4]) (rest := []) E (e_X5_add l dC dI _ (o5 := o5) (a5_0 := a5_0) (a5_1 := a5_1) (a5_2 := a5_2) (a5_3 := a5_3) (a5_4 := a5_4) (a5_5 := a5_5) (a5_6 := a5_6) (c5_0 := c5_0) (f5_0 := f5_0) (c5_1 := c5_1) (f5_1 := f5_1) (c5_2 := c5_2) (f5_2 := f5_2) (c5_3 := c5_3) (f5_3 := f5_3) (c5_4 := c5_4) (f5_4 := f5_4) (c5_5 := c5_5) (f5_5 := f5_5) (c5_6 := c5_6) (f5_6 := f5_6) (p0 := p0) (p1 := p1) (p2 := p2) (p3 := p3) (p4 := p4)  (hp := (by omega)) (hk := hka) (hv := (by omega))) (cwV 5 E.2.2.2.2 gX7_act_X5_add rfl rfl rfl hdV_X5_add ⟨Nat.le_of_ble_eq_true rfl, Nat.le_of_ble_eq_true rfl⟩) (kPreV (q0 := 2) (ci := 5) (q := (RX5, TX5, 7)) h KAll.blind (KAll.call hX h [2, 3, 4, 5, 6, 7, 8, 9] rfl) [2, 3, 4, 5, 6, 7, 8, 9] [1, 2, 3, 4, 5, 6, 7] (by decide) rfl rfl rfl rfl) rfl rfl hl.1 rfl (lv_room (Nat.le_of_ble_eq_true rfl)) dX7_act_65 ⟨Nat.le_of_ble_eq_true rfl, Nat.le_of_ble_eq_true rfl⟩) [2, 3, 4, 5, 6, 7, 8, 9] [0, 1, 10, 11, 12] rfl rfl (by decide) (by decide) (fun u_6 H locs hw_6 h => ?_)
        obtain ⟨z_7, z_8, z_9, z_10, z_11, z_12⟩ := u_6
        have h : KS (dC, dI) A [(o7, .inr (7, [.ref o2, .ref o5, .ref o3, .ref o4, .ref o1, .ref o0, .ref a7_6, .ref a7_7, .int v7_8, .int v7_9, .int v7_10, .ref a7_11, .int v7_12, .ref a7_13, .int v7_14, .ref a7_15])), (a7_15, .inl (c7_15, 8, .inl f7_15)), (o3, .inr (3, [.ref a3_0, .ref a3_1, .ref a3_2, .ref a3_3, .int v3_4, .ref o5, .ref o6])), (a3_0, .inl (c3_0, 12, .inl f3_0)), (o4, .inr (4, [.int v4_0, .int v4_1, .ref a4_2, .ref a4_3, .ref a4_4, .ref a4_5, .ref a4_6, .ref o5, .ref o3])), (o5, .inr (5, [.ref a5_0, .ref a5_1, .ref a5_2, .ref a5_3, .ref a5_4, .ref a5_5, .ref a5_6])), (a5_0, .inl (c5_0, 12, .inl (upd f5_0 p0.toNatClampNeg (f5_0 p0.toNatClampNeg + 1)))), (a5_1, .inl (c5_1, 120, .inl z_7)), (a5_2, .inl (c5_2, 120, .inl z_8)), (a5_3, .inl (c5_3, 120, .inl z_9)), (a5_4, .inl (c5_4, 120, .inl z_10)), (a5_5, .inl (c5_5, 120, .inl z_11)), (a5_6, .inl (c5_6, 120, .inl z_12))] [(c7_15, .int), (c5_0, .int), (c5_1, .int), (c5_2, .int), (c5_3, .int), (c5_4, .int), (c5_5, .int), (c5_6, .int), (c3_0, .boolean)] s H locs := h
        have hw_6 : z_7 = upd f5_1 (p0 * 10 + (f5_0 p0.toNatClampNeg)).toNatClampNeg p1 ∧ z_8 = upd f5_2 (p0 * 10 + (f5_0 p0.toNatClampNeg)).toNatClampNeg (kDv p1 p2) ∧ z_9 = upd f5_3 (p0 * 10 + (f5_0 p0.toNatClampNeg)).toNatClampNeg p3 ∧ z_10 = upd f5_4 (p0 * 10 + (f5_0 p0.toNatClampNeg)).toNatClampNeg (kYv p1 p4) ∧ z_11 = upd f5_5 (p0 * 10 + (f5_0 p0.toNatClampNeg)).toNatClampNeg (kRd p1 p3 p4) ∧ z_12 = upd f5_6 (p0 * 10 + (f5_0 p0.toNatClampNeg)).toNatClampNeg (kWr p1 p2) := by first | exact hw_6 | (simp only [Int32.toInt_toInt64] at hw_6; exact hw_6)
        have hAA := hw_6
        refine W.eq (g2 := F0 m 68 ls []) rfl ?_
        refine lv_aload_n hx hb dX7_act_68 rfl (lv_at hl 0 rfl) ?_
        refine lv_iload_n hx hb dX7_act_69 rfl (lv_at hl 1 rfl) ?_
        refine kc_v (wc := [(o7, .inr (7, [.ref o2, .ref o5, .ref o3, .ref o4, .ref o1, .ref o0, .ref a7_6, .ref a7_7, .int v7_8, .int v7_9, .int v7_10, .ref a7_11, .int v7_12, .ref a7_13, .int v7_14, .ref a7_15])), (o3, .inr (3, [.ref a3_0, .ref a3_1, .ref a3_2, .ref a3_3, .int v3_4, .ref o5, .ref o6])), (a3_0, .inl (c3_0, 12, .inl f3_0)), (o4, .inr (4, [.int v4_0, .int v4_1, .ref a4_2, .ref a4_3, .ref a4_4, .ref a4_5, .ref a4_6, .ref o5, .ref o3]))]) (wr := [(a7_15, .inl (c7_15, 8, .inl f7_15)), (o5, .inr (5, [.ref a5_0, .ref a5_1, .ref a5_2, .ref a5_3, .ref a5_4, .ref a5_5, .ref a5_6])), (a5_0, .inl (c5_0, 12, .inl (upd f5_0 p0.toNatClampNeg (f5_0 p0.toNatClampNeg + 1)))), (a5_1, .inl (c5_1, 120, .inl z_7)), (a5_2, .inl (c5_2, 120, .inl z_8)), (a5_3, .inl (c5_3, 120, .inl z_9)), (a5_4, .inl (c5_4, 120, .inl z_10)), (a5_5, .inl (c5_5, 120, .inl z_11)), (a5_6, .inl (c5_6, 120, .inl z_12))]) h (va_runV (As := [.int p0]) (rest := []) E (c_X7_takeAwayPackedOf l dC dI _ (o7 := o7) (o2 := o2) (o5 := o5) (o3 := o3) (o4 := o4) (o1 := o1) (o0 := o0) (a7_6 := a7_6) (a7_7 := a7_7) (v7_8 := v7_8) (v7_9 := v7_9) (v7_10 := v7_10) (a7_11 := a7_11) (v7_12 := v7_12) (a7_13 := a7_13) (v7_14 := v7_14) (a7_15 := a7_15) (a3_0 := a3_0) (a3_1 := a3_1) (a3_2 := a3_2) (a3_3 := a3_3) (v3_4 := v3_4) (o6 := o6) (c3_0 := c3_0) (f3_0 := f3_0) (v4_0 := v4_0) (v4_1 := v4_1) (a4_2 := a4_2) (a4_3 := a4_3) (a4_4 := a4_4) (a4_5 := a4_5) (a4_6 := a4_6) (p0 := p0)  (hp := (by first | decide | omega))) (cwV 1 E.2.2.2.2 gX7_act_X7_takeAwayPackedOf rfl rfl rfl hdV_X7_takeAwayPackedOf ⟨Nat.le_of_ble_eq_true rfl, Nat.le_of_ble_eq_true rfl⟩) (kPreV (q0 := 0) (ci := 7) (q := (RX7, TX7, 16)) h KX_true (fun _ _ _ => trivial) [0, 2, 3, 4] [8] (by decide) rfl rfl rfl rfl) rfl rfl hl.1 rfl (lv_room (Nat.le_of_ble_eq_true rfl)) dX7_act_70 ⟨Nat.le_of_ble_eq_true rfl, Nat.le_of_ble_eq_true rfl⟩) [0, 2, 3, 4] [1, 5, 6, 7, 8, 9, 10, 11, 12] rfl rfl (by decide +kernel) (by decide +kernel) (fun u_13 H locs hw_13 h => ?_)
        have h : KS (dC, dI) A [(a7_15, .inl (c7_15, 8, .inl f7_15)), (o5, .inr (5, [.ref a5_0, .ref a5_1, .ref a5_2, .ref a5_3, .ref a5_4, .ref a5_5, .ref a5_6])), (a5_0, .inl (c5_0, 12, .inl (upd f5_0 p0.toNatClampNeg (f5_0 p0.toNatClampNeg + 1)))), (a5_1, .inl (c5_1, 120, .inl z_7)), (a5_2, .inl (c5_2, 120, .inl z_8)), (a5_3, .inl (c5_3, 120, .inl z_9)), (a5_4, .inl (c5_4, 120, .inl z_10)), (a5_5, .inl (c5_5, 120, .inl z_11)), (a5_6, .inl (c5_6, 120, .inl z_12)), (o7, .inr (7, [.ref o2, .ref o5, .ref o3, .ref o4, .ref o1, .ref o0, .ref a7_6, .ref a7_7, .int v7_8, .int v7_9, .int v7_10, .ref a7_11, .int v7_12, .ref a7_13, .int v7_14, .ref a7_15])), (o3, .inr (3, [.ref a3_0, .ref a3_1, .ref a3_2, .ref a3_3, .int v3_4, .ref o5, .ref o6])), (a3_0, .inl (c3_0, 12, .inl (upd f3_0 p0.toNatClampNeg 0))), (o4, .inr (4, [.int 0, .int v4_1, .ref a4_2, .ref a4_3, .ref a4_4, .ref a4_5, .ref a4_6, .ref o5, .ref o3]))] [(c7_15, .int), (c5_0, .int), (c5_1, .int), (c5_2, .int), (c5_3, .int), (c5_4, .int), (c5_5, .int), (c5_6, .int), (c3_0, .boolean)] s H locs := h
        refine W.eq (g2 := F0 m 73 ls []) rfl ?_
        refine lv_aload_n hx hb dX7_act_73 rfl (lv_at hl 0 rfl) ?_
        refine k_get (v := .ref o5) E h (fun w h => List.mem_cons_of_mem _ (List.mem_append_left _ (List.mem_append_left _ (List.mem_append_left _ (List.mem_append_right _ h))))) 9 rfl rfl 1 (Nat.le_of_ble_eq_true rfl) (List.mem_of_getElem? (i := 1) rfl) rfl dX7_act_74 ?_
        refine k_get (v := .ref a5_0) E h (fun w h => List.mem_cons_of_mem _ (List.mem_append_left _ (List.mem_append_left _ (List.mem_append_right _ h)))) 1 rfl rfl 0 (Nat.le_of_ble_eq_true rfl) (List.mem_of_getElem? (i := 2) rfl) rfl dX7_act_77 ?_
        refine lv_iload_n hx hb dX7_act_80 rfl (lv_at hl 1 rfl) ?_
        refine k_iald (v := f5_0 p0.toNatClampNeg + 1) E h 2 1 rfl rfl (vp_in_iff.mpr (by omega)) pk_us dX7_act_81 ?_
        have hP9 := h.2.1.sub [9, 0, 1, 2, 3, 4, 5, 6, 7, 8, 10, 11, 12] rfl
        have hD9 := h.2.2.1.sub (ws' := [(o7, .inr (7, [.ref o2, .ref o5, .ref o3, .ref o4, .ref o1, .ref o0, .ref a7_6, .ref a7_7, .int v7_8, .int v7_9, .int v7_10, .ref a7_11, .int v7_12, .ref a7_13, .int v7_14, .ref a7_15])), (a7_15, .inl (c7_15, 8, .inl f7_15)), (o5, .inr (5, [.ref a5_0, .ref a5_1, .ref a5_2, .ref a5_3, .ref a5_4, .ref a5_5, .ref a5_6])), (a5_0, .inl (c5_0, 12, .inl (upd f5_0 p0.toNatClampNeg (f5_0 p0.toNatClampNeg + 1)))), (a5_1, .inl (c5_1, 120, .inl z_7)), (a5_2, .inl (c5_2, 120, .inl z_8)), (a5_3, .inl (c5_3, 120, .inl z_9)), (a5_4, .inl (c5_4, 120, .inl z_10)), (a5_5, .inl (c5_5, 120, .inl z_11)), (a5_6, .inl (c5_6, 120, .inl z_12)), (o3, .inr (3, [.ref a3_0, .ref a3_1, .ref a3_2, .ref a3_3, .int v3_4, .ref o5, .ref o6])), (a3_0, .inl (c3_0, 12, .inl (upd f3_0 p0.toNatClampNeg 0))), (o4, .inr (4, [.int 0, .int v4_1, .ref a4_2, .ref a4_3, .ref a4_4, .ref a4_5, .ref a4_6, .ref o5, .ref o3]))]) [9, 0, 1, 2, 3, 4, 5, 6, 7, 8, 10, 11, 12] (by decide +kernel) rfl
        exact W.iret (v := f5_0 p0.toNatClampNeg + 1) hx hb hr (fun t ht hW => ⟨⟨f5_0 p0.toNatClampNeg + 1, (f7_15, upd f5_0 p0.toNatClampNeg (f5_0 p0.toNatClampNeg + 1), z_7, z_8, z_9, z_10, z_11, z_12, upd f3_0 p0.toNatClampNeg 0, 0), rfl, ⟨(by (repeat' split) <;> first | (with_reducible rfl) | (exfalso; omega) | rfl | omega | contradiction), (by first | (refine Eq.trans ?_ (if_pos ⟨by omega, hok, by omega⟩).symm; first | rfl | exact hAA.1 | exact hAA.2.1 | exact hAA.2.2.1 | exact hAA.2.2.2.1 | exact hAA.2.2.2.2.1 | exact hAA.2.2.2.2.2) | exact (if_neg (fun z => by first | omega | exact absurd z.2.1 (by assumption))).symm), (by first | (refine Eq.trans ?_ (if_pos ⟨by omega, hok, by omega⟩).symm; first | rfl | exact hAA.1 | exact hAA.2.1 | exact hAA.2.2.1 | exact hAA.2.2.2.1 | exact hAA.2.2.2.2.1 | exact hAA.2.2.2.2.2) | exact (if_neg (fun z => by first | omega | exact absurd z.2.1 (by assumption))).symm), (by first | (refine Eq.trans ?_ (if_pos ⟨by omega, hok, by omega⟩).symm; first | rfl | exact hAA.1 | exact hAA.2.1 | exact hAA.2.2.1 | exact hAA.2.2.2.1 | exact hAA.2.2.2.2.1 | exact hAA.2.2.2.2.2) | exact (if_neg (fun z => by first | omega | exact absurd z.2.1 (by assumption))).symm), (by first | (refine Eq.trans ?_ (if_pos ⟨by omega, hok, by omega⟩).symm; first | rfl | exact hAA.1 | exact hAA.2.1 | exact hAA.2.2.1 | exact hAA.2.2.2.1 | exact hAA.2.2.2.2.1 | exact hAA.2.2.2.2.2) | exact (if_neg (fun z => by first | omega | exact absurd z.2.1 (by assumption))).symm), (by first | (refine Eq.trans ?_ (if_pos ⟨by omega, hok, by omega⟩).symm; first | rfl | exact hAA.1 | exact hAA.2.1 | exact hAA.2.2.1 | exact hAA.2.2.2.1 | exact hAA.2.2.2.2.1 | exact hAA.2.2.2.2.2) | exact (if_neg (fun z => by first | omega | exact absurd z.2.1 (by assumption))).symm), (by first | (refine Eq.trans ?_ (if_pos ⟨by omega, hok, by omega⟩).symm; first | rfl | exact hAA.1 | exact hAA.2.1 | exact hAA.2.2.1 | exact hAA.2.2.2.1 | exact hAA.2.2.2.2.1 | exact hAA.2.2.2.2.2) | exact (if_neg (fun z => by first | omega | exact absurd z.2.1 (by assumption))).symm), (by first | (refine Eq.trans ?_ (if_pos ⟨by omega, hok, by omega⟩).symm; first | rfl | exact hAA.1 | exact hAA.2.1 | exact hAA.2.2.1 | exact hAA.2.2.2.1 | exact hAA.2.2.2.2.1 | exact hAA.2.2.2.2.2) | exact (if_neg (fun z => by first | omega | exact absurd z.2.1 (by assumption))).symm), (by first | (refine Eq.trans ?_ (if_pos ⟨by omega, hok, by omega⟩).symm; first | rfl | exact hAA.1 | exact hAA.2.1 | exact hAA.2.2.1 | exact hAA.2.2.2.1 | exact hAA.2.2.2.2.1 | exact hAA.2.2.2.2.2) | exact (if_neg (fun z => by first | omega | exact absurd z.2.1 (by assumption))).symm), (by first | (refine Eq.trans ?_ (if_pos ⟨by omega, hok, by omega⟩).symm; first | rfl | exact hAA.1 | exact hAA.2.1 | exact hAA.2.2.1 | exact hAA.2.2.2.1 | exact hAA.2.2.2.2.1 | exact hAA.2.2.2.2.2) | exact (if_neg (fun z => by first | omega | exact absurd z.2.1 (by assumption))).symm)⟩, (by rw [ht]; exact hP9), hD9⟩, h.2.2.2.1.F ht⟩) h.2.2.2.1.2.2 dX7_act_82 hlocks
      · skip
        have i_5 : ¬ (f5_0 p0.toNatClampNeg).toInt < 10 := fun h9 => c_5 ((fa_lt _ _).mpr h9)
        refine lv_aload_n hx hb dX7_act_47 rfl (lv_at hl 0 rfl) ?_
        refine lv_bipush (v := -7) hx hb dX7_act_48 kbi_m7 ?_
        refine kc_i (wc := [(o7, .inr (7, [.ref o2, .ref o5, .ref o3, .ref o4, .ref o1, .ref o0, .ref a7_6, .ref a7_7, .int v7_8, .int v7_9, .int v7_10, .ref a7_11, .int v7_12, .ref a7_13, .int v7_14, .ref a7_15])), (a7_15, .inl (c7_15, 8, .inl f7_15))]) (wr := [(o5, .inr (5, [.ref a5_0, .ref a5_1, .ref a5_2, .ref a5_3, .ref a5_4, .ref a5_5, .ref a5_6])), (a5_0, .inl (c5_0, 12, .inl f5_0)), (a5_1, .inl (c5_1, 120, .inl f5_1)), (a5_2, .inl (c5_2, 120, .inl f5_2)), (a5_3, .inl (c5_3, 120, .inl f5_3)), (a5_4, .inl (c5_4, 120, .inl f5_4)), (a5_5, .inl (c5_5, 120, .inl f5_5)), (a5_6, .inl (c5_6, 120, .inl f5_6)), (o3, .inr (3, [.ref a3_0, .ref a3_1, .ref a3_2, .ref a3_3, .int v3_4, .ref o5, .ref o6])), (a3_0, .inl (c3_0, 12, .inl f3_0)), (o4, .inr (4, [.int v4_0, .int v4_1, .ref a4_2, .ref a4_3, .ref a4_4, .ref a4_5, .ref a4_6, .ref o5, .ref o3]))]) h (va_runV (As := [.int (-7)]) (rest := []) E (c_X7_refuse l dC dI _ (o7 := o7) (o2 := o2) (o5 := o5) (o3 := o3) (o4 := o4) (o1 := o1) (o0 := o0) (a7_6 := a7_6) (a7_7 := a7_7) (v7_8 := v7_8) (v7_9 := v7_9) (v7_10 := v7_10) (a7_11 := a7_11) (v7_12 := v7_12) (a7_13 := a7_13) (v7_14 := v7_14) (a7_15 := a7_15) (c7_15 := c7_15) (f7_15 := f7_15) (p0 := (-7))  (hp := (by first | decide | omega))) (cwV 1 E.2.2.2.2 gX7_act_X7_refuse rfl rfl rfl hdV_X7_refuse ⟨Nat.le_of_ble_eq_true rfl, Nat.le_of_ble_eq_true rfl⟩) (kPreV (q0 := 0) (ci := 7) (q := (RX7, TX7, 16)) h KX_true (fun _ _ _ => trivial) [0, 1] [0] (by decide) rfl rfl rfl rfl) rfl rfl hl.1 rfl (lv_room (Nat.le_of_ble_eq_true rfl)) dX7_act_50 ⟨Nat.le_of_ble_eq_true rfl, Nat.le_of_ble_eq_true rfl⟩) [0, 1] [2, 3, 4, 5, 6, 7, 8, 9, 10, 11, 12] rfl rfl (by decide +kernel) (by decide +kernel) (fun r_14 u_14 H locs hw_14 h => ?_)
        have h : KS (dC, dI) A [(o5, .inr (5, [.ref a5_0, .ref a5_1, .ref a5_2, .ref a5_3, .ref a5_4, .ref a5_5, .ref a5_6])), (a5_0, .inl (c5_0, 12, .inl f5_0)), (a5_1, .inl (c5_1, 120, .inl f5_1)), (a5_2, .inl (c5_2, 120, .inl f5_2)), (a5_3, .inl (c5_3, 120, .inl f5_3)), (a5_4, .inl (c5_4, 120, .inl f5_4)), (a5_5, .inl (c5_5, 120, .inl f5_5)), (a5_6, .inl (c5_6, 120, .inl f5_6)), (o3, .inr (3, [.ref a3_0, .ref a3_1, .ref a3_2, .ref a3_3, .int v3_4, .ref o5, .ref o6])), (a3_0, .inl (c3_0, 12, .inl f3_0)), (o4, .inr (4, [.int v4_0, .int v4_1, .ref a4_2, .ref a4_3, .ref a4_4, .ref a4_5, .ref a4_6, .ref o5, .ref o3])), (o7, .inr (7, [.ref o2, .ref o5, .ref o3, .ref o4, .ref o1, .ref o0, .ref a7_6, .ref a7_7, .int v7_8, .int v7_9, .int v7_10, .ref a7_11, .int v7_12, .ref a7_13, .int v7_14, .ref a7_15])), (a7_15, .inl (c7_15, 8, .inl (upd f7_15 (-(-7 : Int32)).toNatClampNeg (f7_15 (-(-7 : Int32)).toNatClampNeg + 1))))] [(c7_15, .int), (c5_0, .int), (c5_1, .int), (c5_2, .int), (c5_3, .int), (c5_4, .int), (c5_5, .int), (c5_6, .int), (c3_0, .boolean)] s H locs := h
        have hw_14 : r_14 = (-7 : Int32) := by first | exact hw_14 | (simp only [Int32.toInt_toInt64] at hw_14; exact hw_14)
        refine k_topi (y := (-7)) (hw_14) ?_
        refine W.eq (g2 := F0 m 53 ls [.int (-7)]) rfl ?_
        have hP9 := h.2.1.sub [11, 12, 0, 1, 2, 3, 4, 5, 6, 7, 8, 9, 10] rfl
        have hD9 := h.2.2.1.sub (ws' := [(o7, .inr (7, [.ref o2, .ref o5, .ref o3, .ref o4, .ref o1, .ref o0, .ref a7_6, .ref a7_7, .int v7_8, .int v7_9, .int v7_10, .ref a7_11, .int v7_12, .ref a7_13, .int v7_14, .ref a7_15])), (a7_15, .inl (c7_15, 8, .inl (upd f7_15 (-(-7 : Int32)).toNatClampNeg (f7_15 (-(-7 : Int32)).toNatClampNeg + 1)))), (o5, .inr (5, [.ref a5_0, .ref a5_1, .ref a5_2, .ref a5_3, .ref a5_4, .ref a5_5, .ref a5_6])), (a5_0, .inl (c5_0, 12, .inl f5_0)), (a5_1, .inl (c5_1, 120, .inl f5_1)), (a5_2, .inl (c5_2, 120, .inl f5_2)), (a5_3, .inl (c5_3, 120, .inl f5_3)), (a5_4, .inl (c5_4, 120, .inl f5_4)), (a5_5, .inl (c5_5, 120, .inl f5_5)), (a5_6, .inl (c5_6, 120, .inl f5_6)), (o3, .inr (3, [.ref a3_0, .ref a3_1, .ref a3_2, .ref a3_3, .int v3_4, .ref o5, .ref o6])), (a3_0, .inl (c3_0, 12, .inl f3_0)), (o4, .inr (4, [.int v4_0, .int v4_1, .ref a4_2, .ref a4_3, .ref a4_4, .ref a4_5, .ref a4_6, .ref o5, .ref o3]))]) [11, 12, 0, 1, 2, 3, 4, 5, 6, 7, 8, 9, 10] (by decide +kernel) rfl
        exact W.iret (v := (-7)) hx hb hr (fun t ht hW => ⟨⟨(-7), (upd f7_15 (-(-7 : Int32)).toNatClampNeg (f7_15 (-(-7 : Int32)).toNatClampNeg + 1), f5_0, f5_1, f5_2, f5_3, f5_4, f5_5, f5_6, f3_0, v4_0), rfl, ⟨(by (repeat' split) <;> first | (with_reducible rfl) | (exfalso; omega) | rfl | omega | contradiction), (by first | (refine Eq.trans ?_ (if_pos ⟨by omega, hok, by omega⟩).symm; first | rfl | exact hAA.1 | exact hAA.2.1 | exact hAA.2.2.1 | exact hAA.2.2.2.1 | exact hAA.2.2.2.2.1 | exact hAA.2.2.2.2.2) | exact (if_neg (fun z => by first | omega | exact absurd z.2.1 (by assumption))).symm), (by first | (refine Eq.trans ?_ (if_pos ⟨by omega, hok, by omega⟩).symm; first | rfl | exact hAA.1 | exact hAA.2.1 | exact hAA.2.2.1 | exact hAA.2.2.2.1 | exact hAA.2.2.2.2.1 | exact hAA.2.2.2.2.2) | exact (if_neg (fun z => by first | omega | exact absurd z.2.1 (by assumption))).symm), (by first | (refine Eq.trans ?_ (if_pos ⟨by omega, hok, by omega⟩).symm; first | rfl | exact hAA.1 | exact hAA.2.1 | exact hAA.2.2.1 | exact hAA.2.2.2.1 | exact hAA.2.2.2.2.1 | exact hAA.2.2.2.2.2) | exact (if_neg (fun z => by first | omega | exact absurd z.2.1 (by assumption))).symm), (by first | (refine Eq.trans ?_ (if_pos ⟨by omega, hok, by omega⟩).symm; first | rfl | exact hAA.1 | exact hAA.2.1 | exact hAA.2.2.1 | exact hAA.2.2.2.1 | exact hAA.2.2.2.2.1 | exact hAA.2.2.2.2.2) | exact (if_neg (fun z => by first | omega | exact absurd z.2.1 (by assumption))).symm), (by first | (refine Eq.trans ?_ (if_pos ⟨by omega, hok, by omega⟩).symm; first | rfl | exact hAA.1 | exact hAA.2.1 | exact hAA.2.2.1 | exact hAA.2.2.2.1 | exact hAA.2.2.2.2.1 | exact hAA.2.2.2.2.2) | exact (if_neg (fun z => by first | omega | exact absurd z.2.1 (by assumption))).symm), (by first | (refine Eq.trans ?_ (if_pos ⟨by omega, hok, by omega⟩).symm; first | rfl | exact hAA.1 | exact hAA.2.1 | exact hAA.2.2.1 | exact hAA.2.2.2.1 | exact hAA.2.2.2.2.1 | exact hAA.2.2.2.2.2) | exact (if_neg (fun z => by first | omega | exact absurd z.2.1 (by assumption))).symm), (by first | (refine Eq.trans ?_ (if_pos ⟨by omega, hok, by omega⟩).symm; first | rfl | exact hAA.1 | exact hAA.2.1 | exact hAA.2.2.1 | exact hAA.2.2.2.1 | exact hAA.2.2.2.2.1 | exact hAA.2.2.2.2.2) | exact (if_neg (fun z => by first | omega | exact absurd z.2.1 (by assumption))).symm), (by first | (refine Eq.trans ?_ (if_pos ⟨by omega, hok, by omega⟩).symm; first | rfl | exact hAA.1 | exact hAA.2.1 | exact hAA.2.2.1 | exact hAA.2.2.2.1 | exact hAA.2.2.2.2.1 | exact hAA.2.2.2.2.2) | exact (if_neg (fun z => by first | omega | exact absurd z.2.1 (by assumption))).symm), (by first | (refine Eq.trans ?_ (if_pos ⟨by omega, hok, by omega⟩).symm; first | rfl | exact hAA.1 | exact hAA.2.1 | exact hAA.2.2.1 | exact hAA.2.2.2.1 | exact hAA.2.2.2.2.1 | exact hAA.2.2.2.2.2) | exact (if_neg (fun z => by first | omega | exact absurd z.2.1 (by assumption))).symm)⟩, (by rw [ht]; exact hP9), hD9⟩, h.2.2.2.1.F ht⟩) h.2.2.2.1.2.2 dX7_act_53 hlocks
    · skip
      have b_4 := kb0 hw_3 c_4
      refine lv_aload_n hx hb dX7_act_26 rfl (lv_at hl 0 rfl) ?_
      refine lv_bipush (v := -6) hx hb dX7_act_27 kbi_m6 ?_
      refine kc_i (wc := [(o7, .inr (7, [.ref o2, .ref o5, .ref o3, .ref o4, .ref o1, .ref o0, .ref a7_6, .ref a7_7, .int v7_8, .int v7_9, .int v7_10, .ref a7_11, .int v7_12, .ref a7_13, .int v7_14, .ref a7_15])), (a7_15, .inl (c7_15, 8, .inl f7_15))]) (wr := [(o5, .inr (5, [.ref a5_0, .ref a5_1, .ref a5_2, .ref a5_3, .ref a5_4, .ref a5_5, .ref a5_6])), (a5_0, .inl (c5_0, 12, .inl f5_0)), (a5_1, .inl (c5_1, 120, .inl f5_1)), (a5_2, .inl (c5_2, 120, .inl f5_2)), (a5_3, .inl (c5_3, 120, .inl f5_3)), (a5_4, .inl (c5_4, 120, .inl f5_4)), (a5_5, .inl (c5_5, 120, .inl f5_5)), (a5_6, .inl (c5_6, 120, .inl f5_6)), (o3, .inr (3, [.ref a3_0, .ref a3_1, .ref a3_2, .ref a3_3, .int v3_4, .ref o5, .ref o6])), (a3_0, .inl (c3_0, 12, .inl f3_0)), (o4, .inr (4, [.int v4_0, .int v4_1, .ref a4_2, .ref a4_3, .ref a4_4, .ref a4_5, .ref a4_6, .ref o5, .ref o3]))]) h (va_runV (As := [.int (-6)]) (rest := []) E (c_X7_refuse l dC dI _ (o7 := o7) (o2 := o2) (o5 := o5) (o3 := o3) (o4 := o4) (o1 := o1) (o0 := o0) (a7_6 := a7_6) (a7_7 := a7_7) (v7_8 := v7_8) (v7_9 := v7_9) (v7_10 := v7_10) (a7_11 := a7_11) (v7_12 := v7_12) (a7_13 := a7_13) (v7_14 := v7_14) (a7_15 := a7_15) (c7_15 := c7_15) (f7_15 := f7_15) (p0 := (-6))  (hp := (by first | decide | omega))) (cwV 1 E.2.2.2.2 gX7_act_X7_refuse rfl rfl rfl hdV_X7_refuse ⟨Nat.le_of_ble_eq_true rfl, Nat.le_of_ble_eq_true rfl⟩) (kPreV (q0 := 0) (ci := 7) (q := (RX7, TX7, 16)) h KX_true (fun _ _ _ => trivial) [0, 1] [0] (by decide) rfl rfl rfl rfl) rfl rfl hl.1 rfl (lv_room (Nat.le_of_ble_eq_true rfl)) dX7_act_29 ⟨Nat.le_of_ble_eq_true rfl, Nat.le_of_ble_eq_true rfl⟩) [0, 1] [2, 3, 4, 5, 6, 7, 8, 9, 10, 11, 12] rfl rfl (by decide +kernel) (by decide +kernel) (fun r_15 u_15 H locs hw_15 h => ?_)
      have h : KS (dC, dI) A [(o5, .inr (5, [.ref a5_0, .ref a5_1, .ref a5_2, .ref a5_3, .ref a5_4, .ref a5_5, .ref a5_6])), (a5_0, .inl (c5_0, 12, .inl f5_0)), (a5_1, .inl (c5_1, 120, .inl f5_1)), (a5_2, .inl (c5_2, 120, .inl f5_2)), (a5_3, .inl (c5_3, 120, .inl f5_3)), (a5_4, .inl (c5_4, 120, .inl f5_4)), (a5_5, .inl (c5_5, 120, .inl f5_5)), (a5_6, .inl (c5_6, 120, .inl f5_6)), (o3, .inr (3, [.ref a3_0, .ref a3_1, .ref a3_2, .ref a3_3, .int v3_4, .ref o5, .ref o6])), (a3_0, .inl (c3_0, 12, .inl f3_0)), (o4, .inr (4, [.int v4_0, .int v4_1, .ref a4_2, .ref a4_3, .ref a4_4, .ref a4_5, .ref a4_6, .ref o5, .ref o3])), (o7, .inr (7, [.ref o2, .ref o5, .ref o3, .ref o4, .ref o1, .ref o0, .ref a7_6, .ref a7_7, .int v7_8, .int v7_9, .int v7_10, .ref a7_11, .int v7_12, .ref a7_13, .int v7_14, .ref a7_15])), (a7_15, .inl (c7_15, 8, .inl (upd f7_15 (-(-6 : Int32)).toNatClampNeg (f7_15 (-(-6 : Int32)).toNatClampNeg + 1))))] [(c7_15, .int), (c5_0, .int), (c5_1, .int), (c5_2, .int), (c5_3, .int), (c5_4, .int), (c5_5, .int), (c5_6, .int), (c3_0, .boolean)] s H locs := h
      have hw_15 : r_15 = (-6 : Int32) := by first | exact hw_15 | (simp only [Int32.toInt_toInt64] at hw_15; exact hw_15)
      refine k_topi (y := (-6)) (hw_15) ?_
      refine W.eq (g2 := F0 m 32 ls [.int (-6)]) rfl ?_
      have hP9 := h.2.1.sub [11, 12, 0, 1, 2, 3, 4, 5, 6, 7, 8, 9, 10] rfl
      have hD9 := h.2.2.1.sub (ws' := [(o7, .inr (7, [.ref o2, .ref o5, .ref o3, .ref o4, .ref o1, .ref o0, .ref a7_6, .ref a7_7, .int v7_8, .int v7_9, .int v7_10, .ref a7_11, .int v7_12, .ref a7_13, .int v7_14, .ref a7_15])), (a7_15, .inl (c7_15, 8, .inl (upd f7_15 (-(-6 : Int32)).toNatClampNeg (f7_15 (-(-6 : Int32)).toNatClampNeg + 1)))), (o5, .inr (5, [.ref a5_0, .ref a5_1, .ref a5_2, .ref a5_3, .ref a5_4, .ref a5_5, .ref a5_6])), (a5_0, .inl (c5_0, 12, .inl f5_0)), (a5_1, .inl (c5_1, 120, .inl f5_1)), (a5_2, .inl (c5_2, 120, .inl f5_2)), (a5_3, .inl (c5_3, 120, .inl f5_3)), (a5_4, .inl (c5_4, 120, .inl f5_4)), (a5_5, .inl (c5_5, 120, .inl f5_5)), (a5_6, .inl (c5_6, 120, .inl f5_6)), (o3, .inr (3, [.ref a3_0, .ref a3_1, .ref a3_2, .ref a3_3, .int v3_4, .ref o5, .ref o6])), (a3_0, .inl (c3_0, 12, .inl f3_0)), (o4, .inr (4, [.int v4_0, .int v4_1, .ref a4_2, .ref a4_3, .ref a4_4, .ref a4_5, .ref a4_6, .ref o5, .ref o3]))]) [11, 12, 0, 1, 2, 3, 4, 5, 6, 7, 8, 9, 10] (by decide +kernel) rfl
      exact W.iret (v := (-6)) hx hb hr (fun t ht hW => ⟨⟨(-6), (upd f7_15 (-(-6 : Int32)).toNatClampNeg (f7_15 (-(-6 : Int32)).toNatClampNeg + 1), f5_0, f5_1, f5_2, f5_3, f5_4, f5_5, f5_6, f3_0, v4_0), rfl, ⟨(by (repeat' split) <;> first | (with_reducible rfl) | (exfalso; omega) | rfl | omega | contradiction), (by first | (refine Eq.trans ?_ (if_pos ⟨by omega, hok, by omega⟩).symm; first | rfl | exact hAA.1 | exact hAA.2.1 | exact hAA.2.2.1 | exact hAA.2.2.2.1 | exact hAA.2.2.2.2.1 | exact hAA.2.2.2.2.2) | exact (if_neg (fun z => by first | omega | exact absurd z.2.1 (by assumption))).symm), (by first | (refine Eq.trans ?_ (if_pos ⟨by omega, hok, by omega⟩).symm; first | rfl | exact hAA.1 | exact hAA.2.1 | exact hAA.2.2.1 | exact hAA.2.2.2.1 | exact hAA.2.2.2.2.1 | exact hAA.2.2.2.2.2) | exact (if_neg (fun z => by first | omega | exact absurd z.2.1 (by assumption))).symm), (by first | (refine Eq.trans ?_ (if_pos ⟨by omega, hok, by omega⟩).symm; first | rfl | exact hAA.1 | exact hAA.2.1 | exact hAA.2.2.1 | exact hAA.2.2.2.1 | exact hAA.2.2.2.2.1 | exact hAA.2.2.2.2.2) | exact (if_neg (fun z => by first | omega | exact absurd z.2.1 (by assumption))).symm), (by first | (refine Eq.trans ?_ (if_pos ⟨by omega, hok, by omega⟩).symm; first | rfl | exact hAA.1 | exact hAA.2.1 | exact hAA.2.2.1 | exact hAA.2.2.2.1 | exact hAA.2.2.2.2.1 | exact hAA.2.2.2.2.2) | exact (if_neg (fun z => by first | omega | exact absurd z.2.1 (by assumption))).symm), (by first | (refine Eq.trans ?_ (if_pos ⟨by omega, hok, by omega⟩).symm; first | rfl | exact hAA.1 | exact hAA.2.1 | exact hAA.2.2.1 | exact hAA.2.2.2.1 | exact hAA.2.2.2.2.1 | exact hAA.2.2.2.2.2) | exact (if_neg (fun z => by first | omega | exact absurd z.2.1 (by assumption))).symm), (by first | (refine Eq.trans ?_ (if_pos ⟨by omega, hok, by omega⟩).symm; first | rfl | exact hAA.1 | exact hAA.2.1 | exact hAA.2.2.1 | exact hAA.2.2.2.1 | exact hAA.2.2.2.2.1 | exact hAA.2.2.2.2.2) | exact (if_neg (fun z => by first | omega | exact absurd z.2.1 (by assumption))).symm), (by first | (refine Eq.trans ?_ (if_pos ⟨by omega, hok, by omega⟩).symm; first | rfl | exact hAA.1 | exact hAA.2.1 | exact hAA.2.2.1 | exact hAA.2.2.2.1 | exact hAA.2.2.2.2.1 | exact hAA.2.2.2.2.2) | exact (if_neg (fun z => by first | omega | exact absurd z.2.1 (by assumption))).symm), (by first | (refine Eq.trans ?_ (if_pos ⟨by omega, hok, by omega⟩).symm; first | rfl | exact hAA.1 | exact hAA.2.1 | exact hAA.2.2.1 | exact hAA.2.2.2.1 | exact hAA.2.2.2.2.1 | exact hAA.2.2.2.2.2) | exact (if_neg (fun z => by first | omega | exact absurd z.2.1 (by assumption))).symm), (by first | (refine Eq.trans ?_ (if_pos ⟨by omega, hok, by omega⟩).symm; first | rfl | exact hAA.1 | exact hAA.2.1 | exact hAA.2.2.1 | exact hAA.2.2.2.1 | exact hAA.2.2.2.2.1 | exact hAA.2.2.2.2.2) | exact (if_neg (fun z => by first | omega | exact absurd z.2.1 (by assumption))).symm)⟩, (by rw [ht]; exact hP9), hD9⟩, h.2.2.2.1.F ht⟩) h.2.2.2.1.2.2 dX7_act_32 hlocks
  · skip
    have b_2 := kb0 hw_1 c_2
    refine lv_aload_n hx hb dX7_act_7 rfl (lv_at hl 0 rfl) ?_
    refine lv_bipush (v := -3) hx hb dX7_act_8 kbi_m3 ?_
    refine kc_i (wc := [(o7, .inr (7, [.ref o2, .ref o5, .ref o3, .ref o4, .ref o1, .ref o0, .ref a7_6, .ref a7_7, .int v7_8, .int v7_9, .int v7_10, .ref a7_11, .int v7_12, .ref a7_13, .int v7_14, .ref a7_15])), (a7_15, .inl (c7_15, 8, .inl f7_15))]) (wr := [(o5, .inr (5, [.ref a5_0, .ref a5_1, .ref a5_2, .ref a5_3, .ref a5_4, .ref a5_5, .ref a5_6])), (a5_0, .inl (c5_0, 12, .inl f5_0)), (a5_1, .inl (c5_1, 120, .inl f5_1)), (a5_2, .inl (c5_2, 120, .inl f5_2)), (a5_3, .inl (c5_3, 120, .inl f5_3)), (a5_4, .inl (c5_4, 120, .inl f5_4)), (a5_5, .inl (c5_5, 120, .inl f5_5)), (a5_6, .inl (c5_6, 120, .inl f5_6)), (o3, .inr (3, [.ref a3_0, .ref a3_1, .ref a3_2, .ref a3_3, .int v3_4, .ref o5, .ref o6])), (a3_0, .inl (c3_0, 12, .inl f3_0)), (o4, .inr (4, [.int v4_0, .int v4_1, .ref a4_2, .ref a4_3, .ref a4_4, .ref a4_5, .ref a4_6, .ref o5, .ref o3]))]) h (va_runV (As := [.int (-3)]) (rest := []) E (c_X7_refuse l dC dI _ (o7 := o7) (o2 := o2) (o5 := o5) (o3 := o3) (o4 := o4) (o1 := o1) (o0 := o0) (a7_6 := a7_6) (a7_7 := a7_7) (v7_8 := v7_8) (v7_9 := v7_9) (v7_10 := v7_10) (a7_11 := a7_11) (v7_12 := v7_12) (a7_13 := a7_13) (v7_14 := v7_14) (a7_15 := a7_15) (c7_15 := c7_15) (f7_15 := f7_15) (p0 := (-3))  (hp := (by first | decide | omega))) (cwV 1 E.2.2.2.2 gX7_act_X7_refuse rfl rfl rfl hdV_X7_refuse ⟨Nat.le_of_ble_eq_true rfl, Nat.le_of_ble_eq_true rfl⟩) (kPreV (q0 := 0) (ci := 7) (q := (RX7, TX7, 16)) h KX_true (fun _ _ _ => trivial) [0, 1] [0] (by decide) rfl rfl rfl rfl) rfl rfl hl.1 rfl (lv_room (Nat.le_of_ble_eq_true rfl)) dX7_act_10 ⟨Nat.le_of_ble_eq_true rfl, Nat.le_of_ble_eq_true rfl⟩) [0, 1] [2, 3, 4, 5, 6, 7, 8, 9, 10, 11, 12] rfl rfl (by decide +kernel) (by decide +kernel) (fun r_16 u_16 H locs hw_16 h => ?_)
    have h : KS (dC, dI) A [(o5, .inr (5, [.ref a5_0, .ref a5_1, .ref a5_2, .ref a5_3, .ref a5_4, .ref a5_5, .ref a5_6])), (a5_0, .inl (c5_0, 12, .inl f5_0)), (a5_1, .inl (c5_1, 120, .inl f5_1)), (a5_2, .inl (c5_2, 120, .inl f5_2)), (a5_3, .inl (c5_3, 120, .inl f5_3)), (a5_4, .inl (c5_4, 120, .inl f5_4)), (a5_5, .inl (c5_5, 120, .inl f5_5)), (a5_6, .inl (c5_6, 120, .inl f5_6)), (o3, .inr (3, [.ref a3_0, .ref a3_1, .ref a3_2, .ref a3_3, .int v3_4, .ref o5, .ref o6])), (a3_0, .inl (c3_0, 12, .inl f3_0)), (o4, .inr (4, [.int v4_0, .int v4_1, .ref a4_2, .ref a4_3, .ref a4_4, .ref a4_5, .ref a4_6, .ref o5, .ref o3])), (o7, .inr (7, [.ref o2, .ref o5, .ref o3, .ref o4, .ref o1, .ref o0, .ref a7_6, .ref a7_7, .int v7_8, .int v7_9, .int v7_10, .ref a7_11, .int v7_12, .ref a7_13, .int v7_14, .ref a7_15])), (a7_15, .inl (c7_15, 8, .inl (upd f7_15 (-(-3 : Int32)).toNatClampNeg (f7_15 (-(-3 : Int32)).toNatClampNeg + 1))))] [(c7_15, .int), (c5_0, .int), (c5_1, .int), (c5_2, .int), (c5_3, .int), (c5_4, .int), (c5_5, .int), (c5_6, .int), (c3_0, .boolean)] s H locs := h
    have hw_16 : r_16 = (-3 : Int32) := by first | exact hw_16 | (simp only [Int32.toInt_toInt64] at hw_16; exact hw_16)
    refine k_topi (y := (-3)) (hw_16) ?_
    refine W.eq (g2 := F0 m 13 ls [.int (-3)]) rfl ?_
    have hP9 := h.2.1.sub [11, 12, 0, 1, 2, 3, 4, 5, 6, 7, 8, 9, 10] rfl
    have hD9 := h.2.2.1.sub (ws' := [(o7, .inr (7, [.ref o2, .ref o5, .ref o3, .ref o4, .ref o1, .ref o0, .ref a7_6, .ref a7_7, .int v7_8, .int v7_9, .int v7_10, .ref a7_11, .int v7_12, .ref a7_13, .int v7_14, .ref a7_15])), (a7_15, .inl (c7_15, 8, .inl (upd f7_15 (-(-3 : Int32)).toNatClampNeg (f7_15 (-(-3 : Int32)).toNatClampNeg + 1)))), (o5, .inr (5, [.ref a5_0, .ref a5_1, .ref a5_2, .ref a5_3, .ref a5_4, .ref a5_5, .ref a5_6])), (a5_0, .inl (c5_0, 12, .inl f5_0)), (a5_1, .inl (c5_1, 120, .inl f5_1)), (a5_2, .inl (c5_2, 120, .inl f5_2)), (a5_3, .inl (c5_3, 120, .inl f5_3)), (a5_4, .inl (c5_4, 120, .inl f5_4)), (a5_5, .inl (c5_5, 120, .inl f5_5)), (a5_6, .inl (c5_6, 120, .inl f5_6)), (o3, .inr (3, [.ref a3_0, .ref a3_1, .ref a3_2, .ref a3_3, .int v3_4, .ref o5, .ref o6])), (a3_0, .inl (c3_0, 12, .inl f3_0)), (o4, .inr (4, [.int v4_0, .int v4_1, .ref a4_2, .ref a4_3, .ref a4_4, .ref a4_5, .ref a4_6, .ref o5, .ref o3]))]) [11, 12, 0, 1, 2, 3, 4, 5, 6, 7, 8, 9, 10] (by decide +kernel) rfl
    exact W.iret (v := (-3)) hx hb hr (fun t ht hW => ⟨⟨(-3), (upd f7_15 (-(-3 : Int32)).toNatClampNeg (f7_15 (-(-3 : Int32)).toNatClampNeg + 1), f5_0, f5_1, f5_2, f5_3, f5_4, f5_5, f5_6, f3_0, v4_0), rfl, ⟨(by (repeat' split) <;> first | (with_reducible rfl) | (exfalso; omega) | rfl | omega | contradiction), (by first | (refine Eq.trans ?_ (if_pos ⟨by omega, hok, by omega⟩).symm; first | rfl | exact hAA.1 | exact hAA.2.1 | exact hAA.2.2.1 | exact hAA.2.2.2.1 | exact hAA.2.2.2.2.1 | exact hAA.2.2.2.2.2) | exact (if_neg (fun z => by first | omega | exact absurd z.2.1 (by assumption))).symm), (by first | (refine Eq.trans ?_ (if_pos ⟨by omega, hok, by omega⟩).symm; first | rfl | exact hAA.1 | exact hAA.2.1 | exact hAA.2.2.1 | exact hAA.2.2.2.1 | exact hAA.2.2.2.2.1 | exact hAA.2.2.2.2.2) | exact (if_neg (fun z => by first | omega | exact absurd z.2.1 (by assumption))).symm), (by first | (refine Eq.trans ?_ (if_pos ⟨by omega, hok, by omega⟩).symm; first | rfl | exact hAA.1 | exact hAA.2.1 | exact hAA.2.2.1 | exact hAA.2.2.2.1 | exact hAA.2.2.2.2.1 | exact hAA.2.2.2.2.2) | exact (if_neg (fun z => by first | omega | exact absurd z.2.1 (by assumption))).symm), (by first | (refine Eq.trans ?_ (if_pos ⟨by omega, hok, by omega⟩).symm; first | rfl | exact hAA.1 | exact hAA.2.1 | exact hAA.2.2.1 | exact hAA.2.2.2.1 | exact hAA.2.2.2.2.1 | exact hAA.2.2.2.2.2) | exact (if_neg (fun z => by first | omega | exact absurd z.2.1 (by assumption))).symm), (by first | (refine Eq.trans ?_ (if_pos ⟨by omega, hok, by omega⟩).symm; first | rfl | exact hAA.1 | exact hAA.2.1 | exact hAA.2.2.1 | exact hAA.2.2.2.1 | exact hAA.2.2.2.2.1 | exact hAA.2.2.2.2.2) | exact (if_neg (fun z => by first | omega | exact absurd z.2.1 (by assumption))).symm), (by first | (refine Eq.trans ?_ (if_pos ⟨by omega, hok, by omega⟩).symm; first | rfl | exact hAA.1 | exact hAA.2.1 | exact hAA.2.2.1 | exact hAA.2.2.2.1 | exact hAA.2.2.2.2.1 | exact hAA.2.2.2.2.2) | exact (if_neg (fun z => by first | omega | exact absurd z.2.1 (by assumption))).symm), (by first | (refine Eq.trans ?_ (if_pos ⟨by omega, hok, by omega⟩).symm; first | rfl | exact hAA.1 | exact hAA.2.1 | exact hAA.2.2.1 | exact hAA.2.2.2.1 | exact hAA.2.2.2.2.1 | exact hAA.2.2.2.2.2) | exact (if_neg (fun z => by first | omega | exact absurd z.2.1 (by assumption))).symm), (by first | (refine Eq.trans ?_ (if_pos ⟨by omega, hok, by omega⟩).symm; first | rfl | exact hAA.1 | exact hAA.2.1 | exact hAA.2.2.1 | exact hAA.2.2.2.1 | exact hAA.2.2.2.2.1 | exact hAA.2.2.2.2.2) | exact (if_neg (fun z => by first | omega | exact absurd z.2.1 (by assumption))).symm), (by first | (refine Eq.trans ?_ (if_pos ⟨by omega, hok, by omega⟩).symm; first | rfl | exact hAA.1 | exact hAA.2.1 | exact hAA.2.2.1 | exact hAA.2.2.2.1 | exact hAA.2.2.2.2.1 | exact hAA.2.2.2.2.2) | exact (if_neg (fun z => by first | omega | exact absurd z.2.1 (by assumption))).symm)⟩, (by rw [ht]; exact hP9), hD9⟩, h.2.2.2.1.F ht⟩) h.2.2.2.1.2.2 dX7_act_13 hlocks
