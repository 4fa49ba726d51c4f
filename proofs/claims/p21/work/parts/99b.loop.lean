set_option maxHeartbeats 8000000 in
set_option maxRecDepth 100000 in
theorem LInv_elim {dC : Nat → ClassId} {dI : Nat → Nat → Nat} {A : Nat → Prop} {s : State} {o7 : Nat} {o8 : Nat} {al7 : Nat → Nat} {ka7 : Nat → ClassId} {o2 : Nat} {al2 : Nat → Nat} {ka2 : Nat → ClassId} {o5 : Nat} {al5 : Nat → Nat} {ka5 : Nat → ClassId} {o3 : Nat} {al3 : Nat → Nat} {ka3 : Nat → ClassId} {o6 : Nat} {al6 : Nat → Nat} {ka6 : Nat → ClassId} {o4 : Nat} {al4 : Nat → Nat} {ka4 : Nat → ClassId} {o1 : Nat} {al1 : Nat → Nat} {ka1 : Nat → ClassId} {o0 : Nat} {al0 : Nat → Nat} {ka0 : Nat → ClassId} {al8 : Nat → Nat} {ka8 : Nat → ClassId} {H : Heap} {locs : List Loc} {C : Prop} (hI : LInv dC dI A s o7 o8 al7 ka7 o2 al2 ka2 o5 al5 ka5 o3 al3 ka3 o6 al6 ka6 o4 al4 ka4 o1 al1 ka1 o0 al0 ka0 al8 ka8 H locs) (f : ∀ (v7_8 : Int32) (v7_9 : Int32) (v7_10 : Int32) (v7_12 : Int32) (v7_14 : Int32) (f7_6 : Nat → Int32) (f7_7 : Nat → Int32) (f7_11 : Nat → Int64) (f7_13 : Nat → Int32) (f7_15 : Nat → Int32) (v2_4 : Int32) (f2_0 : Nat → Int32) (f2_1 : Nat → Int64) (f2_2 : Nat → Int32) (f2_3 : Nat → Int64) (f5_0 : Nat → Int32) (f5_1 : Nat → Int32) (f5_2 : Nat → Int32) (f5_3 : Nat → Int32) (f5_4 : Nat → Int32) (f5_5 : Nat → Int32) (f5_6 : Nat → Int32) (bsC : Nat) (f3_0 : Nat → Int32) (f3_1 : Nat → Int32) (f3_2 : Nat → Int32) (aO : Nat → Nat) (v6_8 : Int32) (v6_9 : Int32) (cH : Nat → Nat) (f6_2 : Nat → Int32) (f6_3 : Nat → Int32) (f6_4 : Nat → Int32) (f6_5 : Nat → Int32) (f6_6 : Nat → Int32) (tF : Nat → Nat) (v4_0 : Int32) (v4_1 : Int32) (ow : Nat → Nat) (sA : Nat → Nat) (f4_4 : Nat → Int32) (f4_5 : Nat → Int32) (f4_6 : Nat → Int32) (v1_1 : Int32) (v1_2 : Int32) (v1_3 : Int32) (f1_0 : Nat → Int32) (sS : Nat → Nat) (f1_5 : Nat → Int32) (dF : Nat → Nat) (f1_7 : Nat → Int32) (f1_8 : Nat → Int32) (f1_9 : Nat → Int32) (v0_0 : Int32) (v0_1 : Int32) (v0_2 : Int32) (v0_8 : Int32) (f0_6 : Nat → Int32) (f0_7 : Nat → Int64) (f0_9 : Nat → Int64) (v8_6 : Int32) (bsR : Nat) (lenR : Nat) (v8_26 : Int32) (gR : Nat) (v8_33 : Int32) (v8_34 : Int32) (v8_35 : Int32) (v8_38 : Int32) (v8_39 : Int32) (v8_40 : Int32) (v8_43 : Int32) (f8_0 : Nat → Int64) (f8_1 : Nat → Int64) (f8_2 : Nat → Int64) (f8_3 : Nat → Int64) (f8_4 : Nat → Int64) (f8_5 : Nat → Int32) (f8_7 : Nat → Int32) (f8_8 : Nat → Int32) (f8_9 : Nat → Int32) (f8_10 : Nat → Int32) (f8_11 : Nat → Int32) (f8_13 : Nat → Int32) (fW : Nat → Nat) (wD : Nat → Nat) (f8_16 : Nat → Int32) (eE : Nat → Nat) (eB : Nat → Nat) (f8_19 : Nat → Int32) (pR : Nat → Nat) (f8_21 : Nat → Int32) (f8_22 : Nat → Int32) (f8_23 : Nat → Int32) (f8_24 : Nat → Int32) (f8_27 : Nat → Int32) (dR : Nat → Nat) (f8_29 : Nat → Int32) (f8_30 : Nat → Int32) (gA : Nat → Nat) (f8_36 : Nat → Int64) (f8_37 : Nat → Int32) (f8_41 : Nat → Int32) (f8_42 : Nat → Int32), KS (dC, dI) A [(o7, .inr (7, [.ref o2, .ref o5, .ref o3, .ref o4, .ref o1, .ref o0, .ref (al7 0), .ref (al7 1), .int v7_8, .int v7_9, .int v7_10, .ref (al7 2), .int v7_12, .ref (al7 3), .int v7_14, .ref (al7 4)])), ((al7 0), .inl ((ka7 0), 3, .inl f7_6)), ((al7 1), .inl ((ka7 1), 16, .inl f7_7)), ((al7 2), .inl ((ka7 2), 74, .inr (.inl f7_11))), ((al7 3), .inl ((ka7 3), 64, .inl f7_13)), ((al7 4), .inl ((ka7 4), 8, .inl f7_15)), (o2, .inr (2, [.ref (al2 0), .ref (al2 1), .ref (al2 2), .ref (al2 3), .int v2_4])), ((al2 0), .inl ((ka2 0), 8, .inl f2_0)), ((al2 1), .inl ((ka2 1), 74, .inr (.inl f2_1))), ((al2 2), .inl ((ka2 2), 30, .inl f2_2)), ((al2 3), .inl ((ka2 3), 30, .inr (.inl f2_3))), (o5, .inr (5, [.ref (al5 0), .ref (al5 1), .ref (al5 2), .ref (al5 3), .ref (al5 4), .ref (al5 5), .ref (al5 6)])), ((al5 0), .inl ((ka5 0), 12, .inl f5_0)), ((al5 1), .inl ((ka5 1), 120, .inl f5_1)), ((al5 2), .inl ((ka5 2), 120, .inl f5_2)), ((al5 3), .inl ((ka5 3), 120, .inl f5_3)), ((al5 4), .inl ((ka5 4), 120, .inl f5_4)), ((al5 5), .inl ((ka5 5), 120, .inl f5_5)), ((al5 6), .inl ((ka5 6), 120, .inl f5_6)), (o3, .inr (3, [.ref (al3 0), .ref (al3 1), .ref (al3 2), .ref (al3 3), .int (nI bsC), .ref o5, .ref o6])), ((al3 0), .inl ((ka3 0), 12, .inl f3_0)), ((al3 1), .inl ((ka3 1), 12, .inl f3_1)), ((al3 2), .inl ((ka3 2), 120, .inl f3_2)), ((al3 3), .inl ((ka3 3), 120, .inl (fun j => nI (aO j)))), (o6, .inr (6, [.ref (al6 0), .ref o5, .ref (al6 1), .ref (al6 2), .ref (al6 3), .ref (al6 4), .ref (al6 5), .ref (al6 6), .int v6_8, .int v6_9])), ((al6 0), .inl ((ka6 0), 10, .inl (fun j => nI (cH j)))), ((al6 1), .inl ((ka6 1), 10, .inl f6_2)), ((al6 2), .inl ((ka6 2), 10, .inl f6_3)), ((al6 3), .inl ((ka6 3), 10, .inl f6_4)), ((al6 4), .inl ((ka6 4), 5, .inl f6_5)), ((al6 5), .inl ((ka6 5), 5, .inl f6_6)), ((al6 6), .inl ((ka6 6), 1024, .inl (fun j => nI (tF j)))), (o4, .inr (4, [.int v4_0, .int v4_1, .ref (al4 0), .ref (al4 1), .ref (al4 2), .ref (al4 3), .ref (al4 4), .ref o5, .ref o3])), ((al4 0), .inl ((ka4 0), 120, .inl (fun j => nI (ow j)))), ((al4 1), .inl ((ka4 1), 120, .inl (fun j => nI (sA j)))), ((al4 2), .inl ((ka4 2), 120, .inl f4_4)), ((al4 3), .inl ((ka4 3), 120, .inl f4_5)), ((al4 4), .inl ((ka4 4), 120, .inl f4_6)), (o1, .inr (1, [.ref (al1 0), .int v1_1, .int v1_2, .int v1_3, .ref (al1 1), .ref (al1 2), .ref (al1 3), .ref (al1 4), .ref (al1 5), .ref (al1 6), .ref o5, .ref o4])), ((al1 0), .inl ((ka1 0), 7, .inl f1_0)), ((al1 1), .inl ((ka1 1), 120, .inl (fun j => nI (sS j)))), ((al1 2), .inl ((ka1 2), 120, .inl f1_5)), ((al1 3), .inl ((ka1 3), 7, .inl (fun j => nI (dF j)))), ((al1 4), .inl ((ka1 4), 7, .inl f1_7)), ((al1 5), .inl ((ka1 5), 7, .inl f1_8)), ((al1 6), .inl ((ka1 6), 7, .inl f1_9)), (o0, .inr (0, [.int v0_0, .int v0_1, .int v0_2, .ref o2, .ref o5, .ref o3, .ref (al0 0), .ref (al0 1), .int v0_8, .ref (al0 2)])), ((al0 0), .inl ((ka0 0), 30, .inl f0_6)), ((al0 1), .inl ((ka0 1), 30, .inr (.inl f0_7))), ((al0 2), .inl ((ka0 2), 74, .inr (.inl f0_9))), (o8, .inr (8, [.ref (al8 0), .ref (al8 1), .ref (al8 2), .ref (al8 3), .ref (al8 4), .ref (al8 5), .int v8_6, .ref (al8 6), .ref (al8 7), .ref (al8 8), .ref (al8 9), .ref (al8 10), .int (nI bsR), .ref (al8 11), .ref (al8 12), .ref (al8 13), .ref (al8 14), .ref (al8 15), .ref (al8 16), .ref (al8 17), .ref (al8 18), .ref (al8 19), .ref (al8 20), .ref (al8 21), .ref (al8 22), .int (nI lenR), .int v8_26, .ref (al8 23), .ref (al8 24), .ref (al8 25), .ref (al8 26), .ref (al8 27), .int (nI gR), .int v8_33, .int v8_34, .int v8_35, .ref (al8 28), .ref (al8 29), .int v8_38, .int v8_39, .int v8_40, .ref (al8 30), .ref (al8 31), .int v8_43])), ((al8 0), .inl ((ka8 0), 74, .inr (.inl f8_0))), ((al8 1), .inl ((ka8 1), 74, .inr (.inl f8_1))), ((al8 2), .inl ((ka8 2), 74, .inr (.inl f8_2))), ((al8 3), .inl ((ka8 3), 74, .inr (.inl f8_3))), ((al8 4), .inl ((ka8 4), 74, .inr (.inl f8_4))), ((al8 5), .inl ((ka8 5), 8, .inl f8_5)), ((al8 6), .inl ((ka8 6), 120, .inl f8_7)), ((al8 7), .inl ((ka8 7), 120, .inl f8_8)), ((al8 8), .inl ((ka8 8), 120, .inl f8_9)), ((al8 9), .inl ((ka8 9), 120, .inl f8_10)), ((al8 10), .inl ((ka8 10), 12, .inl f8_11)), ((al8 11), .inl ((ka8 11), 8, .inl f8_13)), ((al8 12), .inl ((ka8 12), 1024, .inl (fun j => nI (fW j)))), ((al8 13), .inl ((ka8 13), 120, .inl (fun j => nI (wD j)))), ((al8 14), .inl ((ka8 14), 12, .inl f8_16)), ((al8 15), .inl ((ka8 15), 10, .inl (fun j => nI (eE j)))), ((al8 16), .inl ((ka8 16), 10, .inl (fun j => nI (eB j)))), ((al8 17), .inl ((ka8 17), 12, .inl f8_19)), ((al8 18), .inl ((ka8 18), 120, .inl (fun j => nI (pR j)))), ((al8 19), .inl ((ka8 19), 120, .inl f8_21)), ((al8 20), .inl ((ka8 20), 120, .inl f8_22)), ((al8 21), .inl ((ka8 21), 120, .inl f8_23)), ((al8 22), .inl ((ka8 22), 120, .inl f8_24)), ((al8 23), .inl ((ka8 23), 840, .inl f8_27)), ((al8 24), .inl ((ka8 24), 7, .inl (fun j => nI (dR j)))), ((al8 25), .inl ((ka8 25), 7, .inl f8_29)), ((al8 26), .inl ((ka8 26), 7, .inl f8_30)), ((al8 27), .inl ((ka8 27), 7, .inl (fun j => nI (gA j)))), ((al8 28), .inl ((ka8 28), 74, .inr (.inl f8_36))), ((al8 29), .inl ((ka8 29), 16, .inl f8_37)), ((al8 30), .inl ((ka8 30), 64, .inl f8_41)), ((al8 31), .inl ((ka8 31), 64, .inl f8_42))] [((ka7 0), .int), ((ka7 1), .int), ((ka7 2), .long), ((ka7 3), .short), ((ka7 4), .int), ((ka2 0), .int), ((ka2 1), .long), ((ka2 2), .int), ((ka2 3), .long), ((ka5 0), .int), ((ka5 1), .int), ((ka5 2), .int), ((ka5 3), .int), ((ka5 4), .int), ((ka5 5), .int), ((ka5 6), .int), ((ka3 0), .boolean), ((ka3 1), .int), ((ka3 2), .int), ((ka3 3), .int), ((ka6 0), .int), ((ka6 1), .int), ((ka6 2), .int), ((ka6 3), .int), ((ka6 4), .int), ((ka6 5), .int), ((ka6 6), .byte), ((ka4 0), .int), ((ka4 1), .int), ((ka4 2), .int), ((ka4 3), .int), ((ka4 4), .int), ((ka1 0), .int), ((ka1 1), .int), ((ka1 2), .int), ((ka1 3), .int), ((ka1 4), .int), ((ka1 5), .int), ((ka1 6), .int), ((ka0 0), .int), ((ka0 1), .long), ((ka0 2), .long), ((ka8 0), .long), ((ka8 1), .long), ((ka8 2), .long), ((ka8 3), .long), ((ka8 4), .long), ((ka8 5), .int), ((ka8 6), .int), ((ka8 7), .int), ((ka8 8), .int), ((ka8 9), .int), ((ka8 10), .int), ((ka8 11), .int), ((ka8 12), .int), ((ka8 13), .int), ((ka8 14), .int), ((ka8 15), .int), ((ka8 16), .int), ((ka8 17), .boolean), ((ka8 18), .int), ((ka8 19), .int), ((ka8 20), .int), ((ka8 21), .int), ((ka8 22), .int), ((ka8 23), .int), ((ka8 24), .int), ((ka8 25), .int), ((ka8 26), .int), ((ka8 27), .int), ((ka8 28), .long), ((ka8 29), .int), ((ka8 30), .int), ((ka8 31), .int)] s H locs → (IW f2_0) → (IN f2_1) → (IP f2_2) → (IO f2_3) → (0 ≤ v2_4.toInt ∧ v2_4.toInt ≤ 30) → (IR f5_1 f5_2 f5_3 f5_4) → (IL f5_0) → (IL f3_1) → (1 ≤ bsC ∧ bsC ≤ 3) → (PKa f5_1 f5_5 f5_6 f5_0 f3_0 f3_1 aO bsC) → (IB f3_0) → (IP f0_6) → (0 ≤ v0_8.toInt ∧ v0_8.toInt ≤ 30) → (IT f7_7) → (-1 ≤ v7_14.toInt ∧ v7_14.toInt ≤ 64) → (IS f7_13) → (0 ≤ v4_1.toInt ∧ v4_1.toInt ≤ 120) → (IW f8_5) → (IN f8_0) → (IN f8_1) → (IR f8_7 f8_8 f8_9 f8_10) → (IL f8_11) → (1 ≤ bsR ∧ bsR ≤ 3) → (IL f8_16) → (IB f8_19) → (PK8a f8_7 f8_8 f8_9 f8_10 f8_11 f8_19 f8_16 wD bsR) → (IT f8_37) → (-1 ≤ v8_43.toInt ∧ v8_43.toInt ≤ 64) → (pRok pR) → (lenR ≤ 120) → (gR ≤ 7) → (∀ g, g < 7 → gA g ≤ 840) → (∀ k, k < 8 → f2_0 k = f8_5 k) → (v7_14 = v8_43) → (bsC = bsR) → (∀ k, k < 16 → f7_7 k = f8_37 k) → (∀ k, k < 12 → f5_0 k = f8_11 k) → (∀ j, j < 120 → f5_1 j = f8_7 j) → (∀ j, j < 120 → f5_2 j = f8_8 j) → (∀ j, j < 120 → f5_3 j = f8_9 j) → (∀ j, j < 120 → f5_4 j = f8_10 j) → (J7 f5_0 f5_5 f5_6 f8_7 f8_8 f8_9 f8_10) → (¬ v4_0 = 0 → STC f5_1 f5_2 f5_3 f5_4 f5_5 f5_6 f5_0 bsC v4_1 ow sA f4_4 f4_5 f4_6 ∧ ∀ k, k < 12 → ¬ f3_0 k = 0) → (¬ v8_26 = 0 → STR f8_7 f8_8 f8_9 f8_10 f8_11 bsR lenR pR f8_21 f8_22 f8_23 f8_24 ∧ ∀ k, k < 12 → ¬ f8_19 k = 0) → (v4_0 = 0 ↔ v8_26 = 0) → (¬ v4_0 = 0 → FEv f5_1 f5_2 f5_3 f5_4 ow sA v4_1 v1_1 v1_2 v1_3 f1_0) → (¬ v8_26 = 0 → FERv f8_7 f8_8 f8_9 f8_10 f8_11 bsR lenR pR f8_21 gR f8_30 gA dR) → C) : C := by
  unfold LInv at hI
  obtain ⟨v7_8, hI⟩ := hI
  obtain ⟨v7_9, hI⟩ := hI
  obtain ⟨v7_10, hI⟩ := hI
  obtain ⟨v7_12, hI⟩ := hI
  obtain ⟨v7_14, hI⟩ := hI
  obtain ⟨f7_6, hI⟩ := hI
  obtain ⟨f7_7, hI⟩ := hI
  obtain ⟨f7_11, hI⟩ := hI
  obtain ⟨f7_13, hI⟩ := hI
  obtain ⟨f7_15, hI⟩ := hI
  obtain ⟨v2_4, hI⟩ := hI
  obtain ⟨f2_0, hI⟩ := hI
  obtain ⟨f2_1, hI⟩ := hI
  obtain ⟨f2_2, hI⟩ := hI
  obtain ⟨f2_3, hI⟩ := hI
  obtain ⟨f5_0, hI⟩ := hI
  obtain ⟨f5_1, hI⟩ := hI
  obtain ⟨f5_2, hI⟩ := hI
  obtain ⟨f5_3, hI⟩ := hI
  obtain ⟨f5_4, hI⟩ := hI
  obtain ⟨f5_5, hI⟩ := hI
  obtain ⟨f5_6, hI⟩ := hI
  obtain ⟨bsC, hI⟩ := hI
  obtain ⟨f3_0, hI⟩ := hI
  obtain ⟨f3_1, hI⟩ := hI
  obtain ⟨f3_2, hI⟩ := hI
  obtain ⟨aO, hI⟩ := hI
  obtain ⟨v6_8, hI⟩ := hI
  obtain ⟨v6_9, hI⟩ := hI
  obtain ⟨cH, hI⟩ := hI
  obtain ⟨f6_2, hI⟩ := hI
  obtain ⟨f6_3, hI⟩ := hI
  obtain ⟨f6_4, hI⟩ := hI
  obtain ⟨f6_5, hI⟩ := hI
  obtain ⟨f6_6, hI⟩ := hI
  obtain ⟨tF, hI⟩ := hI
  obtain ⟨v4_0, hI⟩ := hI
  obtain ⟨v4_1, hI⟩ := hI
  obtain ⟨ow, hI⟩ := hI
  obtain ⟨sA, hI⟩ := hI
  obtain ⟨f4_4, hI⟩ := hI
  obtain ⟨f4_5, hI⟩ := hI
  obtain ⟨f4_6, hI⟩ := hI
  obtain ⟨v1_1, hI⟩ := hI
  obtain ⟨v1_2, hI⟩ := hI
  obtain ⟨v1_3, hI⟩ := hI
  obtain ⟨f1_0, hI⟩ := hI
  obtain ⟨sS, hI⟩ := hI
  obtain ⟨f1_5, hI⟩ := hI
  obtain ⟨dF, hI⟩ := hI
  obtain ⟨f1_7, hI⟩ := hI
  obtain ⟨f1_8, hI⟩ := hI
  obtain ⟨f1_9, hI⟩ := hI
  obtain ⟨v0_0, hI⟩ := hI
  obtain ⟨v0_1, hI⟩ := hI
  obtain ⟨v0_2, hI⟩ := hI
  obtain ⟨v0_8, hI⟩ := hI
  obtain ⟨f0_6, hI⟩ := hI
  obtain ⟨f0_7, hI⟩ := hI
  obtain ⟨f0_9, hI⟩ := hI
  obtain ⟨v8_6, hI⟩ := hI
  obtain ⟨bsR, hI⟩ := hI
  obtain ⟨lenR, hI⟩ := hI
  obtain ⟨v8_26, hI⟩ := hI
  obtain ⟨gR, hI⟩ := hI
  obtain ⟨v8_33, hI⟩ := hI
  obtain ⟨v8_34, hI⟩ := hI
  obtain ⟨v8_35, hI⟩ := hI
  obtain ⟨v8_38, hI⟩ := hI
  obtain ⟨v8_39, hI⟩ := hI
  obtain ⟨v8_40, hI⟩ := hI
  obtain ⟨v8_43, hI⟩ := hI
  obtain ⟨f8_0, hI⟩ := hI
  obtain ⟨f8_1, hI⟩ := hI
  obtain ⟨f8_2, hI⟩ := hI
  obtain ⟨f8_3, hI⟩ := hI
  obtain ⟨f8_4, hI⟩ := hI
  obtain ⟨f8_5, hI⟩ := hI
  obtain ⟨f8_7, hI⟩ := hI
  obtain ⟨f8_8, hI⟩ := hI
  obtain ⟨f8_9, hI⟩ := hI
  obtain ⟨f8_10, hI⟩ := hI
  obtain ⟨f8_11, hI⟩ := hI
  obtain ⟨f8_13, hI⟩ := hI
  obtain ⟨fW, hI⟩ := hI
  obtain ⟨wD, hI⟩ := hI
  obtain ⟨f8_16, hI⟩ := hI
  obtain ⟨eE, hI⟩ := hI
  obtain ⟨eB, hI⟩ := hI
  obtain ⟨f8_19, hI⟩ := hI
  obtain ⟨pR, hI⟩ := hI
  obtain ⟨f8_21, hI⟩ := hI
  obtain ⟨f8_22, hI⟩ := hI
  obtain ⟨f8_23, hI⟩ := hI
  obtain ⟨f8_24, hI⟩ := hI
  obtain ⟨f8_27, hI⟩ := hI
  obtain ⟨dR, hI⟩ := hI
  obtain ⟨f8_29, hI⟩ := hI
  obtain ⟨f8_30, hI⟩ := hI
  obtain ⟨gA, hI⟩ := hI
  obtain ⟨f8_36, hI⟩ := hI
  obtain ⟨f8_37, hI⟩ := hI
  obtain ⟨f8_41, hI⟩ := hI
  obtain ⟨f8_42, hI⟩ := hI
  obtain ⟨h, hI⟩ := hI
  obtain ⟨cIw, hI⟩ := hI
  obtain ⟨cN, hI⟩ := hI
  obtain ⟨cO, hI⟩ := hI
  obtain ⟨cM, hI⟩ := hI
  obtain ⟨col, hI⟩ := hI
  obtain ⟨cR, hI⟩ := hI
  obtain ⟨cL5, hI⟩ := hI
  obtain ⟨cL3, hI⟩ := hI
  obtain ⟨cbs, hI⟩ := hI
  obtain ⟨cPK, hI⟩ := hI
  obtain ⟨cB, hI⟩ := hI
  obtain ⟨cQ, hI⟩ := hI
  obtain ⟨cw, hI⟩ := hI
  obtain ⟨cT, hI⟩ := hI
  obtain ⟨cv, hI⟩ := hI
  obtain ⟨cS, hI⟩ := hI
  obtain ⟨cv4, hI⟩ := hI
  obtain ⟨rIw, hI⟩ := hI
  obtain ⟨rN, hI⟩ := hI
  obtain ⟨rKe, hI⟩ := hI
  obtain ⟨rR_, hI⟩ := hI
  obtain ⟨rL8, hI⟩ := hI
  obtain ⟨rbs, hI⟩ := hI
  obtain ⟨rL6, hI⟩ := hI
  obtain ⟨rB, hI⟩ := hI
  obtain ⟨rPK, hI⟩ := hI
  obtain ⟨rT, hI⟩ := hI
  obtain ⟨rv, hI⟩ := hI
  obtain ⟨rpR, hI⟩ := hI
  obtain ⟨rlen, hI⟩ := hI
  obtain ⟨rgr, hI⟩ := hI
  obtain ⟨rg, hI⟩ := hI
  obtain ⟨j1, hI⟩ := hI
  obtain ⟨j2, hI⟩ := hI
  obtain ⟨j3, hI⟩ := hI
  obtain ⟨j4, hI⟩ := hI
  obtain ⟨j5, hI⟩ := hI
  obtain ⟨j6, hI⟩ := hI
  obtain ⟨j6b, hI⟩ := hI
  obtain ⟨j6c, hI⟩ := hI
  obtain ⟨j6d, hI⟩ := hI
  obtain ⟨j7, hI⟩ := hI
  obtain ⟨cST, hI⟩ := hI
  obtain ⟨rST, hI⟩ := hI
  obtain ⟨js, hI⟩ := hI
  obtain ⟨cFE, hI⟩ := hI
  exact f v7_8 v7_9 v7_10 v7_12 v7_14 f7_6 f7_7 f7_11 f7_13 f7_15 v2_4 f2_0 f2_1 f2_2 f2_3 f5_0 f5_1 f5_2 f5_3 f5_4 f5_5 f5_6 bsC f3_0 f3_1 f3_2 aO v6_8 v6_9 cH f6_2 f6_3 f6_4 f6_5 f6_6 tF v4_0 v4_1 ow sA f4_4 f4_5 f4_6 v1_1 v1_2 v1_3 f1_0 sS f1_5 dF f1_7 f1_8 f1_9 v0_0 v0_1 v0_2 v0_8 f0_6 f0_7 f0_9 v8_6 bsR lenR v8_26 gR v8_33 v8_34 v8_35 v8_38 v8_39 v8_40 v8_43 f8_0 f8_1 f8_2 f8_3 f8_4 f8_5 f8_7 f8_8 f8_9 f8_10 f8_11 f8_13 fW wD f8_16 eE eB f8_19 pR f8_21 f8_22 f8_23 f8_24 f8_27 dR f8_29 f8_30 gA f8_36 f8_37 f8_41 f8_42 h cIw cN cO cM col cR cL5 cL3 cbs cPK cB cQ cw cT cv cS cv4 rIw rN rKe rR_ rL8 rbs rL6 rB rPK rT rv rpR rlen rgr rg j1 j2 j3 j4 j5 j6 j6b j6c j6d j7 cST rST js cFE hI
set_option maxHeartbeats 8000000 in
theorem LInv_S {dC : Nat → ClassId} {dI : Nat → Nat → Nat} {A : Nat → Prop} {s : State} {o7 : Nat} {o8 : Nat} {al7 : Nat → Nat} {ka7 : Nat → ClassId} {o2 : Nat} {al2 : Nat → Nat} {ka2 : Nat → ClassId} {o5 : Nat} {al5 : Nat → Nat} {ka5 : Nat → ClassId} {o3 : Nat} {al3 : Nat → Nat} {ka3 : Nat → ClassId} {o6 : Nat} {al6 : Nat → Nat} {ka6 : Nat → ClassId} {o4 : Nat} {al4 : Nat → Nat} {ka4 : Nat → ClassId} {o1 : Nat} {al1 : Nat → Nat} {ka1 : Nat → ClassId} {o0 : Nat} {al0 : Nat → Nat} {ka0 : Nat → ClassId} {al8 : Nat → Nat} {ka8 : Nat → ClassId} {H : Heap} {locs : List Loc} (hI : LInv dC dI A s o7 o8 al7 ka7 o2 al2 ka2 o5 al5 ka5 o3 al3 ka3 o6 al6 ka6 o4 al4 ka4 o1 al1 ka1 o0 al0 ka0 al8 ka8 H locs) : va_S A s.heap H locs := LInv_elim hI (fun _ _ _ _ _ _ _ _ _ _ _ _ _ _ _ _ _ _ _ _ _ _ _ _ _ _ _ _ _ _ _ _ _ _ _ _ _ _ _ _ _ _ _ _ _ _ _ _ _ _ _ _ _ _ _ _ _ _ _ _ _ _ _ _ _ _ _ _ _ _ _ _ _ _ _ _ _ _ _ _ _ _ _ _ _ _ _ _ _ _ _ _ _ _ _ _ _ _ _ _ _ _ _ _ h _ _ _ _ _ _ _ _ _ _ _ _ _ _ _ _ _ _ _ _ _ _ _ _ _ _ _ _ _ _ _ _ _ _ _ _ _ _ _ _ _ _ _ _ _ _ _ => h.2.2.2.1)
set_option maxHeartbeats 8000000 in
set_option maxRecDepth 100000 in
/-- the law, call by call -/
theorem law_loop {p : Program} {e : Env} {s : State} {m : MethodId} {below : List Frame} {meth : Method} {c : Code} (l : Launch) {b L : Nat} {xs : Nat → Int32} (C0 : lw_At p s m meth c b L xs) (hL : L ≤ 3072) {dC : Nat → ClassId} {dI : Nat → Nat → Nat} {o7 : Nat} {o8 : Nat} {al7 : Nat → Nat} {ka7 : Nat → ClassId} {o2 : Nat} {al2 : Nat → Nat} {ka2 : Nat → ClassId} {o5 : Nat} {al5 : Nat → Nat} {ka5 : Nat → ClassId} {o3 : Nat} {al3 : Nat → Nat} {ka3 : Nat → ClassId} {o6 : Nat} {al6 : Nat → Nat} {ka6 : Nat → ClassId} {o4 : Nat} {al4 : Nat → Nat} {ka4 : Nat → ClassId} {o1 : Nat} {al1 : Nat → Nat} {ka1 : Nat → ClassId} {o0 : Nat} {al0 : Nat → Nat} {ka0 : Nat → ClassId} {al8 : Nat → Nat} {ka8 : Nat → ClassId} (hX : KAll (lawA s) s) : ∀ (k i : Nat) (H : Heap) (locs : List Loc) (ls : Array Slot), L + 6 - i < k → i ≤ L → LInv dC dI (lawA s) s o7 o8 al7 ka7 o2 al2 ka2 o5 al5 ka5 o3 al3 ka3 o6 al6 ka6 o4 al4 ka4 o1 al1 ka1 o0 al0 ka0 al8 ka8 H locs → lv_has ls 4 [(0, .ref b), (1, .ref o7), (2, .ref o8), (3, .int (nI i))] → W p l e room_1 s m #[Value.ref b] below meth c H locs 83 7258 (lw_Z below #[Value.ref b] s) (F0 m 18 ls []) := by
  intro k
  induction k with
  | zero => intro i H locs ls hk; exact absurd hk (Nat.not_lt_zero _)
  | succ k ih =>
    intro i H locs ls hk hi hI hl
    obtain ⟨hx, hb, hr, hml, hown, hts, hXs, hbl, hlocks, hgv⟩ := id C0
    have hbA : ¬ lawA s b := Nat.not_le.mpr hbl
    have hS := LInv_S hI
    refine lv_iload_n hx hb dL_law_18 rfl (lv_at hl 3 rfl) ?_
    refine lv_aload_n hx hb dL_law_19 rfl (lv_at hl 0 rfl) ?_
    refine va_slen hx hb hXs hbl hbA hS dL_law_20 ?_
    refine k_topi (y := nI L) rfl ?_
    refine lv_bipush (v := 6) hx hb dL_law_21 kbi_6 ?_
    refine lv_isub hx hb dL_law_23 ?_
    have e6 : (nI L - 6).toInt = (L : Int) - 6 := pk_sub_toInt (a := L) (b := 6) (by omega) (by decide)
    have ei : (nI i).toInt = (i : Int) := nI_toInt (by omega)
    refine lv_icmp_gt (tgt := 1197) hx hb dL_law_24 rfl (fun c1 => ?_) (fun c1 => ?_)
    · refine lv_iconst (v := 1) hx hb dL_law_1197 kic_1 ?_
      refine va_forget (fun q hq => hS.2.2 q hq) ?_
      refine W.widen (k := 600000) (n := 7302250) (Nat.le_of_ble_eq_true rfl) (Nat.le_of_ble_eq_true rfl) ?_
      exact lw_ret hx hb hr hlocks dL_law_1198
    · have i1 : ¬ (nI L - 6).toInt < (nI i).toInt := fun h9 => c1 ((fa_lt _ _).mpr h9)
      have hi6 : i + 6 ≤ L := by omega
      refine lv_aload_n hx hb dL_law_27 rfl (lv_at hl 0 rfl) ?_
      refine lv_iload_n hx hb dL_law_28 rfl (lv_at hl 3 rfl) ?_
      refine va_sld hx hb hXs hbl hbA hS (vp_in_nI (by omega) (by omega)) dL_law_29 ?_
      refine k_topi (y := xs i) (by rw [nI_clamp (by omega)]) ?_
      refine lv_bipush (v := 63) hx hb dL_law_30 kbi_63 ?_
      refine lv_iand hx hb dL_law_32 ?_
      refine k_topi (y := xs i &&& 63) rfl ?_
      have kk : ∀ (H : Heap) (locs : List Loc) (ls : Array Slot), LInv dC dI (lawA s) s o7 o8 al7 ka7 o2 al2 ka2 o5 al5 ka5 o3 al3 ka3 o6 al6 ka6 o4 al4 ka4 o1 al1 ka1 o0 al0 ka0 al8 ka8 H locs → lv_has ls 4 [(0, .ref b), (1, .ref o7), (2, .ref o8), (3, .int (nI i))] → W p l e room_1 s m #[Value.ref b] below meth c H locs 83 7258 (lw_Z below #[Value.ref b] s) (F0 m 1191 ls []) := by
        intro H locs ls hI hl
        refine lv_iinc (v := nI (i + 6)) (lv' := [(3, .int (nI (i + 6))), (0, .ref b), (1, .ref o7), (2, .ref o8)]) hx hb dL_law_1191 hl (k := 3) rfl (nI_add i 6) (by decide) rfl (fun ls hl => ?_)
        refine lv_goto (tgt := 18) hx hb dL_law_1194 rfl ?_
        exact ih (i + 6) H locs ls (by omega) (by omega) hI (lv_sub hl [1, 2, 3, 0] rfl)
      by_cases s_0 : xs i &&& 63 = 0
      · refine k_topi (y := 0) s_0 ?_
        refine lv_tableIn (off := 147) (tgt := 180) hx hb dL_law_33 (by decide) (by decide) rfl (by decide) ?_
        exact LInv_elim hI (fun v7_8 v7_9 v7_10 v7_12 v7_14 f7_6 f7_7 f7_11 f7_13 f7_15 v2_4 f2_0 f2_1 f2_2 f2_3 f5_0 f5_1 f5_2 f5_3 f5_4 f5_5 f5_6 bsC f3_0 f3_1 f3_2 aO v6_8 v6_9 cH f6_2 f6_3 f6_4 f6_5 f6_6 tF v4_0 v4_1 ow sA f4_4 f4_5 f4_6 v1_1 v1_2 v1_3 f1_0 sS f1_5 dF f1_7 f1_8 f1_9 v0_0 v0_1 v0_2 v0_8 f0_6 f0_7 f0_9 v8_6 bsR lenR v8_26 gR v8_33 v8_34 v8_35 v8_38 v8_39 v8_40 v8_43 f8_0 f8_1 f8_2 f8_3 f8_4 f8_5 f8_7 f8_8 f8_9 f8_10 f8_11 f8_13 fW wD f8_16 eE eB f8_19 pR f8_21 f8_22 f8_23 f8_24 f8_27 dR f8_29 f8_30 gA f8_36 f8_37 f8_41 f8_42 h cIw cN cO cM col cR cL5 cL3 cbs cPK cB cQ cw cT cv cS cv4 rIw rN rKe rR_ rL8 rbs rL6 rB rPK rT rv rpR rlen rgr rg j1 j2 j3 j4 j5 j6 j6b j6c j6d j7 cST rST js cFE rFE => law_0 l C0 hL hi6 hX h cIw cN cO cM col cR cL5 cL3 cbs cPK cB cQ cw cT cv cS cv4 rIw rN rKe rR_ rL8 rbs rL6 rB rPK rT rv rpR rlen rgr rg j1 j2 j3 j4 j5 j6 j6b j6c j6d j7 cST rST js cFE rFE kk hl)
      have i_0 : ¬ (xs i &&& 63).toInt = 0 := fun h9 => s_0 ((fa_eq _ _).mpr h9)
      by_cases s_1 : xs i &&& 63 = 1
      · refine k_topi (y := 1) s_1 ?_
        refine lv_tableIn (off := 180) (tgt := 213) hx hb dL_law_33 (by decide) (by decide) rfl (by decide) ?_
        exact LInv_elim hI (fun v7_8 v7_9 v7_10 v7_12 v7_14 f7_6 f7_7 f7_11 f7_13 f7_15 v2_4 f2_0 f2_1 f2_2 f2_3 f5_0 f5_1 f5_2 f5_3 f5_4 f5_5 f5_6 bsC f3_0 f3_1 f3_2 aO v6_8 v6_9 cH f6_2 f6_3 f6_4 f6_5 f6_6 tF v4_0 v4_1 ow sA f4_4 f4_5 f4_6 v1_1 v1_2 v1_3 f1_0 sS f1_5 dF f1_7 f1_8 f1_9 v0_0 v0_1 v0_2 v0_8 f0_6 f0_7 f0_9 v8_6 bsR lenR v8_26 gR v8_33 v8_34 v8_35 v8_38 v8_39 v8_40 v8_43 f8_0 f8_1 f8_2 f8_3 f8_4 f8_5 f8_7 f8_8 f8_9 f8_10 f8_11 f8_13 fW wD f8_16 eE eB f8_19 pR f8_21 f8_22 f8_23 f8_24 f8_27 dR f8_29 f8_30 gA f8_36 f8_37 f8_41 f8_42 h cIw cN cO cM col cR cL5 cL3 cbs cPK cB cQ cw cT cv cS cv4 rIw rN rKe rR_ rL8 rbs rL6 rB rPK rT rv rpR rlen rgr rg j1 j2 j3 j4 j5 j6 j6b j6c j6d j7 cST rST js cFE rFE => law_1 l C0 hL hi6 hX h cIw cN cO cM col cR cL5 cL3 cbs cPK cB cQ cw cT cv cS cv4 rIw rN rKe rR_ rL8 rbs rL6 rB rPK rT rv rpR rlen rgr rg j1 j2 j3 j4 j5 j6 j6b j6c j6d j7 cST rST js cFE rFE kk hl)
      have i_1 : ¬ (xs i &&& 63).toInt = 1 := fun h9 => s_1 ((fa_eq _ _).mpr h9)
      by_cases s_2 : xs i &&& 63 = 2
      · refine k_topi (y := 2) s_2 ?_
        refine lv_tableIn (off := 243) (tgt := 276) hx hb dL_law_33 (by decide) (by decide) rfl (by decide) ?_
        exact LInv_elim hI (fun v7_8 v7_9 v7_10 v7_12 v7_14 f7_6 f7_7 f7_11 f7_13 f7_15 v2_4 f2_0 f2_1 f2_2 f2_3 f5_0 f5_1 f5_2 f5_3 f5_4 f5_5 f5_6 bsC f3_0 f3_1 f3_2 aO v6_8 v6_9 cH f6_2 f6_3 f6_4 f6_5 f6_6 tF v4_0 v4_1 ow sA f4_4 f4_5 f4_6 v1_1 v1_2 v1_3 f1_0 sS f1_5 dF f1_7 f1_8 f1_9 v0_0 v0_1 v0_2 v0_8 f0_6 f0_7 f0_9 v8_6 bsR lenR v8_26 gR v8_33 v8_34 v8_35 v8_38 v8_39 v8_40 v8_43 f8_0 f8_1 f8_2 f8_3 f8_4 f8_5 f8_7 f8_8 f8_9 f8_10 f8_11 f8_13 fW wD f8_16 eE eB f8_19 pR f8_21 f8_22 f8_23 f8_24 f8_27 dR f8_29 f8_30 gA f8_36 f8_37 f8_41 f8_42 h cIw cN cO cM col cR cL5 cL3 cbs cPK cB cQ cw cT cv cS cv4 rIw rN rKe rR_ rL8 rbs rL6 rB rPK rT rv rpR rlen rgr rg j1 j2 j3 j4 j5 j6 j6b j6c j6d j7 cST rST js cFE rFE => law_2 l C0 hL hi6 hX h cIw cN cO cM col cR cL5 cL3 cbs cPK cB cQ cw cT cv cS cv4 rIw rN rKe rR_ rL8 rbs rL6 rB rPK rT rv rpR rlen rgr rg j1 j2 j3 j4 j5 j6 j6b j6c j6d j7 cST rST js cFE rFE kk hl)
      have i_2 : ¬ (xs i &&& 63).toInt = 2 := fun h9 => s_2 ((fa_eq _ _).mpr h9)
      by_cases s_3 : xs i &&& 63 = 3
      · refine k_topi (y := 3) s_3 ?_
        refine lv_tableIn (off := 266) (tgt := 299) hx hb dL_law_33 (by decide) (by decide) rfl (by decide) ?_
        exact LInv_elim hI (fun v7_8 v7_9 v7_10 v7_12 v7_14 f7_6 f7_7 f7_11 f7_13 f7_15 v2_4 f2_0 f2_1 f2_2 f2_3 f5_0 f5_1 f5_2 f5_3 f5_4 f5_5 f5_6 bsC f3_0 f3_1 f3_2 aO v6_8 v6_9 cH f6_2 f6_3 f6_4 f6_5 f6_6 tF v4_0 v4_1 ow sA f4_4 f4_5 f4_6 v1_1 v1_2 v1_3 f1_0 sS f1_5 dF f1_7 f1_8 f1_9 v0_0 v0_1 v0_2 v0_8 f0_6 f0_7 f0_9 v8_6 bsR lenR v8_26 gR v8_33 v8_34 v8_35 v8_38 v8_39 v8_40 v8_43 f8_0 f8_1 f8_2 f8_3 f8_4 f8_5 f8_7 f8_8 f8_9 f8_10 f8_11 f8_13 fW wD f8_16 eE eB f8_19 pR f8_21 f8_22 f8_23 f8_24 f8_27 dR f8_29 f8_30 gA f8_36 f8_37 f8_41 f8_42 h cIw cN cO cM col cR cL5 cL3 cbs cPK cB cQ cw cT cv cS cv4 rIw rN rKe rR_ rL8 rbs rL6 rB rPK rT rv rpR rlen rgr rg j1 j2 j3 j4 j5 j6 j6b j6c j6d j7 cST rST js cFE rFE => law_3 l C0 hL hi6 hX h cIw cN cO cM col cR cL5 cL3 cbs cPK cB cQ cw cT cv cS cv4 rIw rN rKe rR_ rL8 rbs rL6 rB rPK rT rv rpR rlen rgr rg j1 j2 j3 j4 j5 j6 j6b j6c j6d j7 cST rST js cFE rFE kk hl)
      have i_3 : ¬ (xs i &&& 63).toInt = 3 := fun h9 => s_3 ((fa_eq _ _).mpr h9)
      by_cases s_4 : xs i &&& 63 = 4
      · refine k_topi (y := 4) s_4 ?_
        refine lv_tableIn (off := 329) (tgt := 362) hx hb dL_law_33 (by decide) (by decide) rfl (by decide) ?_
        exact LInv_elim hI (fun v7_8 v7_9 v7_10 v7_12 v7_14 f7_6 f7_7 f7_11 f7_13 f7_15 v2_4 f2_0 f2_1 f2_2 f2_3 f5_0 f5_1 f5_2 f5_3 f5_4 f5_5 f5_6 bsC f3_0 f3_1 f3_2 aO v6_8 v6_9 cH f6_2 f6_3 f6_4 f6_5 f6_6 tF v4_0 v4_1 ow sA f4_4 f4_5 f4_6 v1_1 v1_2 v1_3 f1_0 sS f1_5 dF f1_7 f1_8 f1_9 v0_0 v0_1 v0_2 v0_8 f0_6 f0_7 f0_9 v8_6 bsR lenR v8_26 gR v8_33 v8_34 v8_35 v8_38 v8_39 v8_40 v8_43 f8_0 f8_1 f8_2 f8_3 f8_4 f8_5 f8_7 f8_8 f8_9 f8_10 f8_11 f8_13 fW wD f8_16 eE eB f8_19 pR f8_21 f8_22 f8_23 f8_24 f8_27 dR f8_29 f8_30 gA f8_36 f8_37 f8_41 f8_42 h cIw cN cO cM col cR cL5 cL3 cbs cPK cB cQ cw cT cv cS cv4 rIw rN rKe rR_ rL8 rbs rL6 rB rPK rT rv rpR rlen rgr rg j1 j2 j3 j4 j5 j6 j6b j6c j6d j7 cST rST js cFE rFE => law_4 l C0 hL hi6 hX h cIw cN cO cM col cR cL5 cL3 cbs cPK cB cQ cw cT cv cS cv4 rIw rN rKe rR_ rL8 rbs rL6 rB rPK rT rv rpR rlen rgr rg j1 j2 j3 j4 j5 j6 j6b j6c j6d j7 cST rST js cFE rFE kk hl)
      have i_4 : ¬ (xs i &&& 63).toInt = 4 := fun h9 => s_4 ((fa_eq _ _).mpr h9)
      by_cases s_5 : xs i &&& 63 = 5
      · refine k_topi (y := 5) s_5 ?_
        refine lv_tableIn (off := 352) (tgt := 385) hx hb dL_law_33 (by decide) (by decide) rfl (by decide) ?_
        exact LInv_elim hI (fun v7_8 v7_9 v7_10 v7_12 v7_14 f7_6 f7_7 f7_11 f7_13 f7_15 v2_4 f2_0 f2_1 f2_2 f2_3 f5_0 f5_1 f5_2 f5_3 f5_4 f5_5 f5_6 bsC f3_0 f3_1 f3_2 aO v6_8 v6_9 cH f6_2 f6_3 f6_4 f6_5 f6_6 tF v4_0 v4_1 ow sA f4_4 f4_5 f4_6 v1_1 v1_2 v1_3 f1_0 sS f1_5 dF f1_7 f1_8 f1_9 v0_0 v0_1 v0_2 v0_8 f0_6 f0_7 f0_9 v8_6 bsR lenR v8_26 gR v8_33 v8_34 v8_35 v8_38 v8_39 v8_40 v8_43 f8_0 f8_1 f8_2 f8_3 f8_4 f8_5 f8_7 f8_8 f8_9 f8_10 f8_11 f8_13 fW wD f8_16 eE eB f8_19 pR f8_21 f8_22 f8_23 f8_24 f8_27 dR f8_29 f8_30 gA f8_36 f8_37 f8_41 f8_42 h cIw cN cO cM col cR cL5 cL3 cbs cPK cB cQ cw cT cv cS cv4 rIw rN rKe rR_ rL8 rbs rL6 rB rPK rT rv rpR rlen rgr rg j1 j2 j3 j4 j5 j6 j6b j6c j6d j7 cST rST js cFE rFE => law_5 l C0 hL hi6 hX h cIw cN cO cM col cR cL5 cL3 cbs cPK cB cQ cw cT cv cS cv4 rIw rN rKe rR_ rL8 rbs rL6 rB rPK rT rv rpR rlen rgr rg j1 j2 j3 j4 j5 j6 j6b j6c j6d j7 cST rST js cFE rFE kk hl)
      have i_5 : ¬ (xs i &&& 63).toInt = 5 := fun h9 => s_5 ((fa_eq _ _).mpr h9)
      by_cases s_6 : xs i &&& 63 = 6
      · refine k_topi (y := 6) s_6 ?_
        refine lv_tableIn (off := 401) (tgt := 434) hx hb dL_law_33 (by decide) (by decide) rfl (by decide) ?_
        exact LInv_elim hI (fun v7_8 v7_9 v7_10 v7_12 v7_14 f7_6 f7_7 f7_11 f7_13 f7_15 v2_4 f2_0 f2_1 f2_2 f2_3 f5_0 f5_1 f5_2 f5_3 f5_4 f5_5 f5_6 bsC f3_0 f3_1 f3_2 aO v6_8 v6_9 cH f6_2 f6_3 f6_4 f6_5 f6_6 tF v4_0 v4_1 ow sA f4_4 f4_5 f4_6 v1_1 v1_2 v1_3 f1_0 sS f1_5 dF f1_7 f1_8 f1_9 v0_0 v0_1 v0_2 v0_8 f0_6 f0_7 f0_9 v8_6 bsR lenR v8_26 gR v8_33 v8_34 v8_35 v8_38 v8_39 v8_40 v8_43 f8_0 f8_1 f8_2 f8_3 f8_4 f8_5 f8_7 f8_8 f8_9 f8_10 f8_11 f8_13 fW wD f8_16 eE eB f8_19 pR f8_21 f8_22 f8_23 f8_24 f8_27 dR f8_29 f8_30 gA f8_36 f8_37 f8_41 f8_42 h cIw cN cO cM col cR cL5 cL3 cbs cPK cB cQ cw cT cv cS cv4 rIw rN rKe rR_ rL8 rbs rL6 rB rPK rT rv rpR rlen rgr rg j1 j2 j3 j4 j5 j6 j6b j6c j6d j7 cST rST js cFE rFE => law_6 l C0 hL hi6 hX h cIw cN cO cM col cR cL5 cL3 cbs cPK cB cQ cw cT cv cS cv4 rIw rN rKe rR_ rL8 rbs rL6 rB rPK rT rv rpR rlen rgr rg j1 j2 j3 j4 j5 j6 j6b j6c j6d j7 cST rST js cFE rFE kk hl)
      have i_6 : ¬ (xs i &&& 63).toInt = 6 := fun h9 => s_6 ((fa_eq _ _).mpr h9)
      by_cases s_7 : xs i &&& 63 = 7
      · refine k_topi (y := 7) s_7 ?_
        refine lv_tableIn (off := 414) (tgt := 447) hx hb dL_law_33 (by decide) (by decide) rfl (by decide) ?_
        exact LInv_elim hI (fun v7_8 v7_9 v7_10 v7_12 v7_14 f7_6 f7_7 f7_11 f7_13 f7_15 v2_4 f2_0 f2_1 f2_2 f2_3 f5_0 f5_1 f5_2 f5_3 f5_4 f5_5 f5_6 bsC f3_0 f3_1 f3_2 aO v6_8 v6_9 cH f6_2 f6_3 f6_4 f6_5 f6_6 tF v4_0 v4_1 ow sA f4_4 f4_5 f4_6 v1_1 v1_2 v1_3 f1_0 sS f1_5 dF f1_7 f1_8 f1_9 v0_0 v0_1 v0_2 v0_8 f0_6 f0_7 f0_9 v8_6 bsR lenR v8_26 gR v8_33 v8_34 v8_35 v8_38 v8_39 v8_40 v8_43 f8_0 f8_1 f8_2 f8_3 f8_4 f8_5 f8_7 f8_8 f8_9 f8_10 f8_11 f8_13 fW wD f8_16 eE eB f8_19 pR f8_21 f8_22 f8_23 f8_24 f8_27 dR f8_29 f8_30 gA f8_36 f8_37 f8_41 f8_42 h cIw cN cO cM col cR cL5 cL3 cbs cPK cB cQ cw cT cv cS cv4 rIw rN rKe rR_ rL8 rbs rL6 rB rPK rT rv rpR rlen rgr rg j1 j2 j3 j4 j5 j6 j6b j6c j6d j7 cST rST js cFE rFE => law_7 l C0 hL hi6 hX h cIw cN cO cM col cR cL5 cL3 cbs cPK cB cQ cw cT cv cS cv4 rIw rN rKe rR_ rL8 rbs rL6 rB rPK rT rv rpR rlen rgr rg j1 j2 j3 j4 j5 j6 j6b j6c j6d j7 cST rST js cFE rFE kk hl)
      have i_7 : ¬ (xs i &&& 63).toInt = 7 := fun h9 => s_7 ((fa_eq _ _).mpr h9)
      by_cases s_8 : xs i &&& 63 = 8
      · refine k_topi (y := 8) s_8 ?_
        refine lv_tableIn (off := 477) (tgt := 510) hx hb dL_law_33 (by decide) (by decide) rfl (by decide) ?_
        exact LInv_elim hI (fun v7_8 v7_9 v7_10 v7_12 v7_14 f7_6 f7_7 f7_11 f7_13 f7_15 v2_4 f2_0 f2_1 f2_2 f2_3 f5_0 f5_1 f5_2 f5_3 f5_4 f5_5 f5_6 bsC f3_0 f3_1 f3_2 aO v6_8 v6_9 cH f6_2 f6_3 f6_4 f6_5 f6_6 tF v4_0 v4_1 ow sA f4_4 f4_5 f4_6 v1_1 v1_2 v1_3 f1_0 sS f1_5 dF f1_7 f1_8 f1_9 v0_0 v0_1 v0_2 v0_8 f0_6 f0_7 f0_9 v8_6 bsR lenR v8_26 gR v8_33 v8_34 v8_35 v8_38 v8_39 v8_40 v8_43 f8_0 f8_1 f8_2 f8_3 f8_4 f8_5 f8_7 f8_8 f8_9 f8_10 f8_11 f8_13 fW wD f8_16 eE eB f8_19 pR f8_21 f8_22 f8_23 f8_24 f8_27 dR f8_29 f8_30 gA f8_36 f8_37 f8_41 f8_42 h cIw cN cO cM col cR cL5 cL3 cbs cPK cB cQ cw cT cv cS cv4 rIw rN rKe rR_ rL8 rbs rL6 rB rPK rT rv rpR rlen rgr rg j1 j2 j3 j4 j5 j6 j6b j6c j6d j7 cST rST js cFE rFE => law_8 l C0 hL hi6 hX h cIw cN cO cM col cR cL5 cL3 cbs cPK cB cQ cw cT cv cS cv4 rIw rN rKe rR_ rL8 rbs rL6 rB rPK rT rv rpR rlen rgr rg j1 j2 j3 j4 j5 j6 j6b j6c j6d j7 cST rST js cFE rFE kk hl)
      have i_8 : ¬ (xs i &&& 63).toInt = 8 := fun h9 => s_8 ((fa_eq _ _).mpr h9)
      by_cases s_9 : xs i &&& 63 = 9
      · refine k_topi (y := 9) s_9 ?_
        refine lv_tableIn (off := 500) (tgt := 533) hx hb dL_law_33 (by decide) (by decide) rfl (by decide) ?_
        exact LInv_elim hI (fun v7_8 v7_9 v7_10 v7_12 v7_14 f7_6 f7_7 f7_11 f7_13 f7_15 v2_4 f2_0 f2_1 f2_2 f2_3 f5_0 f5_1 f5_2 f5_3 f5_4 f5_5 f5_6 bsC f3_0 f3_1 f3_2 aO v6_8 v6_9 cH f6_2 f6_3 f6_4 f6_5 f6_6 tF v4_0 v4_1 ow sA f4_4 f4_5 f4_6 v1_1 v1_2 v1_3 f1_0 sS f1_5 dF f1_7 f1_8 f1_9 v0_0 v0_1 v0_2 v0_8 f0_6 f0_7 f0_9 v8_6 bsR lenR v8_26 gR v8_33 v8_34 v8_35 v8_38 v8_39 v8_40 v8_43 f8_0 f8_1 f8_2 f8_3 f8_4 f8_5 f8_7 f8_8 f8_9 f8_10 f8_11 f8_13 fW wD f8_16 eE eB f8_19 pR f8_21 f8_22 f8_23 f8_24 f8_27 dR f8_29 f8_30 gA f8_36 f8_37 f8_41 f8_42 h cIw cN cO cM col cR cL5 cL3 cbs cPK cB cQ cw cT cv cS cv4 rIw rN rKe rR_ rL8 rbs rL6 rB rPK rT rv rpR rlen rgr rg j1 j2 j3 j4 j5 j6 j6b j6c j6d j7 cST rST js cFE rFE => law_9 l C0 hL hi6 hX h cIw cN cO cM col cR cL5 cL3 cbs cPK cB cQ cw cT cv cS cv4 rIw rN rKe rR_ rL8 rbs rL6 rB rPK rT rv rpR rlen rgr rg j1 j2 j3 j4 j5 j6 j6b j6c j6d j7 cST rST js cFE rFE kk hl)
      have i_9 : ¬ (xs i &&& 63).toInt = 9 := fun h9 => s_9 ((fa_eq _ _).mpr h9)
      by_cases s_10 : xs i &&& 63 = 10
      · refine k_topi (y := 10) s_10 ?_
        refine lv_tableIn (off := 543) (tgt := 576) hx hb dL_law_33 (by decide) (by decide) rfl (by decide) ?_
        exact LInv_elim hI (fun v7_8 v7_9 v7_10 v7_12 v7_14 f7_6 f7_7 f7_11 f7_13 f7_15 v2_4 f2_0 f2_1 f2_2 f2_3 f5_0 f5_1 f5_2 f5_3 f5_4 f5_5 f5_6 bsC f3_0 f3_1 f3_2 aO v6_8 v6_9 cH f6_2 f6_3 f6_4 f6_5 f6_6 tF v4_0 v4_1 ow sA f4_4 f4_5 f4_6 v1_1 v1_2 v1_3 f1_0 sS f1_5 dF f1_7 f1_8 f1_9 v0_0 v0_1 v0_2 v0_8 f0_6 f0_7 f0_9 v8_6 bsR lenR v8_26 gR v8_33 v8_34 v8_35 v8_38 v8_39 v8_40 v8_43 f8_0 f8_1 f8_2 f8_3 f8_4 f8_5 f8_7 f8_8 f8_9 f8_10 f8_11 f8_13 fW wD f8_16 eE eB f8_19 pR f8_21 f8_22 f8_23 f8_24 f8_27 dR f8_29 f8_30 gA f8_36 f8_37 f8_41 f8_42 h cIw cN cO cM col cR cL5 cL3 cbs cPK cB cQ cw cT cv cS cv4 rIw rN rKe rR_ rL8 rbs rL6 rB rPK rT rv rpR rlen rgr rg j1 j2 j3 j4 j5 j6 j6b j6c j6d j7 cST rST js cFE rFE => law_10 l C0 hL hi6 hX h cIw cN cO cM col cR cL5 cL3 cbs cPK cB cQ cw cT cv cS cv4 rIw rN rKe rR_ rL8 rbs rL6 rB rPK rT rv rpR rlen rgr rg j1 j2 j3 j4 j5 j6 j6b j6c j6d j7 cST rST js cFE rFE kk hl)
      have i_10 : ¬ (xs i &&& 63).toInt = 10 := fun h9 => s_10 ((fa_eq _ _).mpr h9)
      by_cases s_11 : xs i &&& 63 = 11
      · refine k_topi (y := 11) s_11 ?_
        refine lv_tableIn (off := 566) (tgt := 599) hx hb dL_law_33 (by decide) (by decide) rfl (by decide) ?_
        exact LInv_elim hI (fun v7_8 v7_9 v7_10 v7_12 v7_14 f7_6 f7_7 f7_11 f7_13 f7_15 v2_4 f2_0 f2_1 f2_2 f2_3 f5_0 f5_1 f5_2 f5_3 f5_4 f5_5 f5_6 bsC f3_0 f3_1 f3_2 aO v6_8 v6_9 cH f6_2 f6_3 f6_4 f6_5 f6_6 tF v4_0 v4_1 ow sA f4_4 f4_5 f4_6 v1_1 v1_2 v1_3 f1_0 sS f1_5 dF f1_7 f1_8 f1_9 v0_0 v0_1 v0_2 v0_8 f0_6 f0_7 f0_9 v8_6 bsR lenR v8_26 gR v8_33 v8_34 v8_35 v8_38 v8_39 v8_40 v8_43 f8_0 f8_1 f8_2 f8_3 f8_4 f8_5 f8_7 f8_8 f8_9 f8_10 f8_11 f8_13 fW wD f8_16 eE eB f8_19 pR f8_21 f8_22 f8_23 f8_24 f8_27 dR f8_29 f8_30 gA f8_36 f8_37 f8_41 f8_42 h cIw cN cO cM col cR cL5 cL3 cbs cPK cB cQ cw cT cv cS cv4 rIw rN rKe rR_ rL8 rbs rL6 rB rPK rT rv rpR rlen rgr rg j1 j2 j3 j4 j5 j6 j6b j6c j6d j7 cST rST js cFE rFE => law_11 l C0 hL hi6 hX h cIw cN cO cM col cR cL5 cL3 cbs cPK cB cQ cw cT cv cS cv4 rIw rN rKe rR_ rL8 rbs rL6 rB rPK rT rv rpR rlen rgr rg j1 j2 j3 j4 j5 j6 j6b j6c j6d j7 cST rST js cFE rFE kk hl)
      have i_11 : ¬ (xs i &&& 63).toInt = 11 := fun h9 => s_11 ((fa_eq _ _).mpr h9)
      by_cases s_12 : xs i &&& 63 = 12
      · refine k_topi (y := 12) s_12 ?_
        refine lv_tableIn (off := 609) (tgt := 642) hx hb dL_law_33 (by decide) (by decide) rfl (by decide) ?_
        exact LInv_elim hI (fun v7_8 v7_9 v7_10 v7_12 v7_14 f7_6 f7_7 f7_11 f7_13 f7_15 v2_4 f2_0 f2_1 f2_2 f2_3 f5_0 f5_1 f5_2 f5_3 f5_4 f5_5 f5_6 bsC f3_0 f3_1 f3_2 aO v6_8 v6_9 cH f6_2 f6_3 f6_4 f6_5 f6_6 tF v4_0 v4_1 ow sA f4_4 f4_5 f4_6 v1_1 v1_2 v1_3 f1_0 sS f1_5 dF f1_7 f1_8 f1_9 v0_0 v0_1 v0_2 v0_8 f0_6 f0_7 f0_9 v8_6 bsR lenR v8_26 gR v8_33 v8_34 v8_35 v8_38 v8_39 v8_40 v8_43 f8_0 f8_1 f8_2 f8_3 f8_4 f8_5 f8_7 f8_8 f8_9 f8_10 f8_11 f8_13 fW wD f8_16 eE eB f8_19 pR f8_21 f8_22 f8_23 f8_24 f8_27 dR f8_29 f8_30 gA f8_36 f8_37 f8_41 f8_42 h cIw cN cO cM col cR cL5 cL3 cbs cPK cB cQ cw cT cv cS cv4 rIw rN rKe rR_ rL8 rbs rL6 rB rPK rT rv rpR rlen rgr rg j1 j2 j3 j4 j5 j6 j6b j6c j6d j7 cST rST js cFE rFE => law_12 l C0 hL hi6 hX h cIw cN cO cM col cR cL5 cL3 cbs cPK cB cQ cw cT cv cS cv4 rIw rN rKe rR_ rL8 rbs rL6 rB rPK rT rv rpR rlen rgr rg j1 j2 j3 j4 j5 j6 j6b j6c j6d j7 cST rST js cFE rFE kk hl)
      have i_12 : ¬ (xs i &&& 63).toInt = 12 := fun h9 => s_12 ((fa_eq _ _).mpr h9)
      by_cases s_13 : xs i &&& 63 = 13
      · refine k_topi (y := 13) s_13 ?_
        refine lv_tableIn (off := 632) (tgt := 665) hx hb dL_law_33 (by decide) (by decide) rfl (by decide) ?_
        exact LInv_elim hI (fun v7_8 v7_9 v7_10 v7_12 v7_14 f7_6 f7_7 f7_11 f7_13 f7_15 v2_4 f2_0 f2_1 f2_2 f2_3 f5_0 f5_1 f5_2 f5_3 f5_4 f5_5 f5_6 bsC f3_0 f3_1 f3_2 aO v6_8 v6_9 cH f6_2 f6_3 f6_4 f6_5 f6_6 tF v4_0 v4_1 ow sA f4_4 f4_5 f4_6 v1_1 v1_2 v1_3 f1_0 sS f1_5 dF f1_7 f1_8 f1_9 v0_0 v0_1 v0_2 v0_8 f0_6 f0_7 f0_9 v8_6 bsR lenR v8_26 gR v8_33 v8_34 v8_35 v8_38 v8_39 v8_40 v8_43 f8_0 f8_1 f8_2 f8_3 f8_4 f8_5 f8_7 f8_8 f8_9 f8_10 f8_11 f8_13 fW wD f8_16 eE eB f8_19 pR f8_21 f8_22 f8_23 f8_24 f8_27 dR f8_29 f8_30 gA f8_36 f8_37 f8_41 f8_42 h cIw cN cO cM col cR cL5 cL3 cbs cPK cB cQ cw cT cv cS cv4 rIw rN rKe rR_ rL8 rbs rL6 rB rPK rT rv rpR rlen rgr rg j1 j2 j3 j4 j5 j6 j6b j6c j6d j7 cST rST js cFE rFE => law_13 l C0 hL hi6 hX h cIw cN cO cM col cR cL5 cL3 cbs cPK cB cQ cw cT cv cS cv4 rIw rN rKe rR_ rL8 rbs rL6 rB rPK rT rv rpR rlen rgr rg j1 j2 j3 j4 j5 j6 j6b j6c j6d j7 cST rST js cFE rFE kk hl)
      have i_13 : ¬ (xs i &&& 63).toInt = 13 := fun h9 => s_13 ((fa_eq _ _).mpr h9)
      by_cases s_14 : xs i &&& 63 = 14
      · refine k_topi (y := 14) s_14 ?_
        refine lv_tableIn (off := 665) (tgt := 698) hx hb dL_law_33 (by decide) (by decide) rfl (by decide) ?_
        exact LInv_elim hI (fun v7_8 v7_9 v7_10 v7_12 v7_14 f7_6 f7_7 f7_11 f7_13 f7_15 v2_4 f2_0 f2_1 f2_2 f2_3 f5_0 f5_1 f5_2 f5_3 f5_4 f5_5 f5_6 bsC f3_0 f3_1 f3_2 aO v6_8 v6_9 cH f6_2 f6_3 f6_4 f6_5 f6_6 tF v4_0 v4_1 ow sA f4_4 f4_5 f4_6 v1_1 v1_2 v1_3 f1_0 sS f1_5 dF f1_7 f1_8 f1_9 v0_0 v0_1 v0_2 v0_8 f0_6 f0_7 f0_9 v8_6 bsR lenR v8_26 gR v8_33 v8_34 v8_35 v8_38 v8_39 v8_40 v8_43 f8_0 f8_1 f8_2 f8_3 f8_4 f8_5 f8_7 f8_8 f8_9 f8_10 f8_11 f8_13 fW wD f8_16 eE eB f8_19 pR f8_21 f8_22 f8_23 f8_24 f8_27 dR f8_29 f8_30 gA f8_36 f8_37 f8_41 f8_42 h cIw cN cO cM col cR cL5 cL3 cbs cPK cB cQ cw cT cv cS cv4 rIw rN rKe rR_ rL8 rbs rL6 rB rPK rT rv rpR rlen rgr rg j1 j2 j3 j4 j5 j6 j6b j6c j6d j7 cST rST js cFE rFE => law_14 l C0 hL hi6 hX h cIw cN cO cM col cR cL5 cL3 cbs cPK cB cQ cw cT cv cS cv4 rIw rN rKe rR_ rL8 rbs rL6 rB rPK rT rv rpR rlen rgr rg j1 j2 j3 j4 j5 j6 j6b j6c j6d j7 cST rST js cFE rFE kk hl)
      have i_14 : ¬ (xs i &&& 63).toInt = 14 := fun h9 => s_14 ((fa_eq _ _).mpr h9)
      by_cases s_15 : xs i &&& 63 = 15
      · refine k_topi (y := 15) s_15 ?_
        refine lv_tableIn (off := 698) (tgt := 731) hx hb dL_law_33 (by decide) (by decide) rfl (by decide) ?_
        exact LInv_elim hI (fun v7_8 v7_9 v7_10 v7_12 v7_14 f7_6 f7_7 f7_11 f7_13 f7_15 v2_4 f2_0 f2_1 f2_2 f2_3 f5_0 f5_1 f5_2 f5_3 f5_4 f5_5 f5_6 bsC f3_0 f3_1 f3_2 aO v6_8 v6_9 cH f6_2 f6_3 f6_4 f6_5 f6_6 tF v4_0 v4_1 ow sA f4_4 f4_5 f4_6 v1_1 v1_2 v1_3 f1_0 sS f1_5 dF f1_7 f1_8 f1_9 v0_0 v0_1 v0_2 v0_8 f0_6 f0_7 f0_9 v8_6 bsR lenR v8_26 gR v8_33 v8_34 v8_35 v8_38 v8_39 v8_40 v8_43 f8_0 f8_1 f8_2 f8_3 f8_4 f8_5 f8_7 f8_8 f8_9 f8_10 f8_11 f8_13 fW wD f8_16 eE eB f8_19 pR f8_21 f8_22 f8_23 f8_24 f8_27 dR f8_29 f8_30 gA f8_36 f8_37 f8_41 f8_42 h cIw cN cO cM col cR cL5 cL3 cbs cPK cB cQ cw cT cv cS cv4 rIw rN rKe rR_ rL8 rbs rL6 rB rPK rT rv rpR rlen rgr rg j1 j2 j3 j4 j5 j6 j6b j6c j6d j7 cST rST js cFE rFE => law_15 l C0 hL hi6 hX h cIw cN cO cM col cR cL5 cL3 cbs cPK cB cQ cw cT cv cS cv4 rIw rN rKe rR_ rL8 rbs rL6 rB rPK rT rv rpR rlen rgr rg j1 j2 j3 j4 j5 j6 j6b j6c j6d j7 cST rST js cFE rFE kk hl)
      have i_15 : ¬ (xs i &&& 63).toInt = 15 := fun h9 => s_15 ((fa_eq _ _).mpr h9)
      by_cases s_16 : xs i &&& 63 = 16
      · refine k_topi (y := 16) s_16 ?_
        refine lv_tableIn (off := 711) (tgt := 744) hx hb dL_law_33 (by decide) (by decide) rfl (by decide) ?_
        exact LInv_elim hI (fun v7_8 v7_9 v7_10 v7_12 v7_14 f7_6 f7_7 f7_11 f7_13 f7_15 v2_4 f2_0 f2_1 f2_2 f2_3 f5_0 f5_1 f5_2 f5_3 f5_4 f5_5 f5_6 bsC f3_0 f3_1 f3_2 aO v6_8 v6_9 cH f6_2 f6_3 f6_4 f6_5 f6_6 tF v4_0 v4_1 ow sA f4_4 f4_5 f4_6 v1_1 v1_2 v1_3 f1_0 sS f1_5 dF f1_7 f1_8 f1_9 v0_0 v0_1 v0_2 v0_8 f0_6 f0_7 f0_9 v8_6 bsR lenR v8_26 gR v8_33 v8_34 v8_35 v8_38 v8_39 v8_40 v8_43 f8_0 f8_1 f8_2 f8_3 f8_4 f8_5 f8_7 f8_8 f8_9 f8_10 f8_11 f8_13 fW wD f8_16 eE eB f8_19 pR f8_21 f8_22 f8_23 f8_24 f8_27 dR f8_29 f8_30 gA f8_36 f8_37 f8_41 f8_42 h cIw cN cO cM col cR cL5 cL3 cbs cPK cB cQ cw cT cv cS cv4 rIw rN rKe rR_ rL8 rbs rL6 rB rPK rT rv rpR rlen rgr rg j1 j2 j3 j4 j5 j6 j6b j6c j6d j7 cST rST js cFE rFE => law_16 l C0 hL hi6 hX h cIw cN cO cM col cR cL5 cL3 cbs cPK cB cQ cw cT cv cS cv4 rIw rN rKe rR_ rL8 rbs rL6 rB rPK rT rv rpR rlen rgr rg j1 j2 j3 j4 j5 j6 j6b j6c j6d j7 cST rST js cFE rFE kk hl)
      have i_16 : ¬ (xs i &&& 63).toInt = 16 := fun h9 => s_16 ((fa_eq _ _).mpr h9)
      by_cases s_17 : xs i &&& 63 = 17
      · refine k_topi (y := 17) s_17 ?_
        refine lv_tableIn (off := 744) (tgt := 777) hx hb dL_law_33 (by decide) (by decide) rfl (by decide) ?_
        exact LInv_elim hI (fun v7_8 v7_9 v7_10 v7_12 v7_14 f7_6 f7_7 f7_11 f7_13 f7_15 v2_4 f2_0 f2_1 f2_2 f2_3 f5_0 f5_1 f5_2 f5_3 f5_4 f5_5 f5_6 bsC f3_0 f3_1 f3_2 aO v6_8 v6_9 cH f6_2 f6_3 f6_4 f6_5 f6_6 tF v4_0 v4_1 ow sA f4_4 f4_5 f4_6 v1_1 v1_2 v1_3 f1_0 sS f1_5 dF f1_7 f1_8 f1_9 v0_0 v0_1 v0_2 v0_8 f0_6 f0_7 f0_9 v8_6 bsR lenR v8_26 gR v8_33 v8_34 v8_35 v8_38 v8_39 v8_40 v8_43 f8_0 f8_1 f8_2 f8_3 f8_4 f8_5 f8_7 f8_8 f8_9 f8_10 f8_11 f8_13 fW wD f8_16 eE eB f8_19 pR f8_21 f8_22 f8_23 f8_24 f8_27 dR f8_29 f8_30 gA f8_36 f8_37 f8_41 f8_42 h cIw cN cO cM col cR cL5 cL3 cbs cPK cB cQ cw cT cv cS cv4 rIw rN rKe rR_ rL8 rbs rL6 rB rPK rT rv rpR rlen rgr rg j1 j2 j3 j4 j5 j6 j6b j6c j6d j7 cST rST js cFE rFE => law_17 l C0 hL hi6 hX h cIw cN cO cM col cR cL5 cL3 cbs cPK cB cQ cw cT cv cS cv4 rIw rN rKe rR_ rL8 rbs rL6 rB rPK rT rv rpR rlen rgr rg j1 j2 j3 j4 j5 j6 j6b j6c j6d j7 cST rST js cFE rFE kk hl)
      have i_17 : ¬ (xs i &&& 63).toInt = 17 := fun h9 => s_17 ((fa_eq _ _).mpr h9)
      by_cases s_18 : xs i &&& 63 = 18
      · refine k_topi (y := 18) s_18 ?_
        refine lv_tableIn (off := 777) (tgt := 810) hx hb dL_law_33 (by decide) (by decide) rfl (by decide) ?_
        exact LInv_elim hI (fun v7_8 v7_9 v7_10 v7_12 v7_14 f7_6 f7_7 f7_11 f7_13 f7_15 v2_4 f2_0 f2_1 f2_2 f2_3 f5_0 f5_1 f5_2 f5_3 f5_4 f5_5 f5_6 bsC f3_0 f3_1 f3_2 aO v6_8 v6_9 cH f6_2 f6_3 f6_4 f6_5 f6_6 tF v4_0 v4_1 ow sA f4_4 f4_5 f4_6 v1_1 v1_2 v1_3 f1_0 sS f1_5 dF f1_7 f1_8 f1_9 v0_0 v0_1 v0_2 v0_8 f0_6 f0_7 f0_9 v8_6 bsR lenR v8_26 gR v8_33 v8_34 v8_35 v8_38 v8_39 v8_40 v8_43 f8_0 f8_1 f8_2 f8_3 f8_4 f8_5 f8_7 f8_8 f8_9 f8_10 f8_11 f8_13 fW wD f8_16 eE eB f8_19 pR f8_21 f8_22 f8_23 f8_24 f8_27 dR f8_29 f8_30 gA f8_36 f8_37 f8_41 f8_42 h cIw cN cO cM col cR cL5 cL3 cbs cPK cB cQ cw cT cv cS cv4 rIw rN rKe rR_ rL8 rbs rL6 rB rPK rT rv rpR rlen rgr rg j1 j2 j3 j4 j5 j6 j6b j6c j6d j7 cST rST js cFE rFE => law_18 l C0 hL hi6 hX h cIw cN cO cM col cR cL5 cL3 cbs cPK cB cQ cw cT cv cS cv4 rIw rN rKe rR_ rL8 rbs rL6 rB rPK rT rv rpR rlen rgr rg j1 j2 j3 j4 j5 j6 j6b j6c j6d j7 cST rST js cFE rFE kk hl)
      have i_18 : ¬ (xs i &&& 63).toInt = 18 := fun h9 => s_18 ((fa_eq _ _).mpr h9)
      by_cases s_19 : xs i &&& 63 = 19
      · refine k_topi (y := 19) s_19 ?_
        refine lv_tableIn (off := 800) (tgt := 833) hx hb dL_law_33 (by decide) (by decide) rfl (by decide) ?_
        exact LInv_elim hI (fun v7_8 v7_9 v7_10 v7_12 v7_14 f7_6 f7_7 f7_11 f7_13 f7_15 v2_4 f2_0 f2_1 f2_2 f2_3 f5_0 f5_1 f5_2 f5_3 f5_4 f5_5 f5_6 bsC f3_0 f3_1 f3_2 aO v6_8 v6_9 cH f6_2 f6_3 f6_4 f6_5 f6_6 tF v4_0 v4_1 ow sA f4_4 f4_5 f4_6 v1_1 v1_2 v1_3 f1_0 sS f1_5 dF f1_7 f1_8 f1_9 v0_0 v0_1 v0_2 v0_8 f0_6 f0_7 f0_9 v8_6 bsR lenR v8_26 gR v8_33 v8_34 v8_35 v8_38 v8_39 v8_40 v8_43 f8_0 f8_1 f8_2 f8_3 f8_4 f8_5 f8_7 f8_8 f8_9 f8_10 f8_11 f8_13 fW wD f8_16 eE eB f8_19 pR f8_21 f8_22 f8_23 f8_24 f8_27 dR f8_29 f8_30 gA f8_36 f8_37 f8_41 f8_42 h cIw cN cO cM col cR cL5 cL3 cbs cPK cB cQ cw cT cv cS cv4 rIw rN rKe rR_ rL8 rbs rL6 rB rPK rT rv rpR rlen rgr rg j1 j2 j3 j4 j5 j6 j6b j6c j6d j7 cST rST js cFE rFE => law_19 l C0 hL hi6 hX h cIw cN cO cM col cR cL5 cL3 cbs cPK cB cQ cw cT cv cS cv4 rIw rN rKe rR_ rL8 rbs rL6 rB rPK rT rv rpR rlen rgr rg j1 j2 j3 j4 j5 j6 j6b j6c j6d j7 cST rST js cFE rFE kk hl)
      have i_19 : ¬ (xs i &&& 63).toInt = 19 := fun h9 => s_19 ((fa_eq _ _).mpr h9)
      by_cases s_20 : xs i &&& 63 = 20
      · refine k_topi (y := 20) s_20 ?_
        refine lv_tableIn (off := 823) (tgt := 856) hx hb dL_law_33 (by decide) (by decide) rfl (by decide) ?_
        exact LInv_elim hI (fun v7_8 v7_9 v7_10 v7_12 v7_14 f7_6 f7_7 f7_11 f7_13 f7_15 v2_4 f2_0 f2_1 f2_2 f2_3 f5_0 f5_1 f5_2 f5_3 f5_4 f5_5 f5_6 bsC f3_0 f3_1 f3_2 aO v6_8 v6_9 cH f6_2 f6_3 f6_4 f6_5 f6_6 tF v4_0 v4_1 ow sA f4_4 f4_5 f4_6 v1_1 v1_2 v1_3 f1_0 sS f1_5 dF f1_7 f1_8 f1_9 v0_0 v0_1 v0_2 v0_8 f0_6 f0_7 f0_9 v8_6 bsR lenR v8_26 gR v8_33 v8_34 v8_35 v8_38 v8_39 v8_40 v8_43 f8_0 f8_1 f8_2 f8_3 f8_4 f8_5 f8_7 f8_8 f8_9 f8_10 f8_11 f8_13 fW wD f8_16 eE eB f8_19 pR f8_21 f8_22 f8_23 f8_24 f8_27 dR f8_29 f8_30 gA f8_36 f8_37 f8_41 f8_42 h cIw cN cO cM col cR cL5 cL3 cbs cPK cB cQ cw cT cv cS cv4 rIw rN rKe rR_ rL8 rbs rL6 rB rPK rT rv rpR rlen rgr rg j1 j2 j3 j4 j5 j6 j6b j6c j6d j7 cST rST js cFE rFE => law_20 l C0 hL hi6 hX h cIw cN cO cM col cR cL5 cL3 cbs cPK cB cQ cw cT cv cS cv4 rIw rN rKe rR_ rL8 rbs rL6 rB rPK rT rv rpR rlen rgr rg j1 j2 j3 j4 j5 j6 j6b j6c j6d j7 cST rST js cFE rFE kk hl)
      have i_20 : ¬ (xs i &&& 63).toInt = 20 := fun h9 => s_20 ((fa_eq _ _).mpr h9)
      by_cases s_21 : xs i &&& 63 = 21
      · refine k_topi (y := 21) s_21 ?_
        refine lv_tableIn (off := 872) (tgt := 905) hx hb dL_law_33 (by decide) (by decide) rfl (by decide) ?_
        exact LInv_elim hI (fun v7_8 v7_9 v7_10 v7_12 v7_14 f7_6 f7_7 f7_11 f7_13 f7_15 v2_4 f2_0 f2_1 f2_2 f2_3 f5_0 f5_1 f5_2 f5_3 f5_4 f5_5 f5_6 bsC f3_0 f3_1 f3_2 aO v6_8 v6_9 cH f6_2 f6_3 f6_4 f6_5 f6_6 tF v4_0 v4_1 ow sA f4_4 f4_5 f4_6 v1_1 v1_2 v1_3 f1_0 sS f1_5 dF f1_7 f1_8 f1_9 v0_0 v0_1 v0_2 v0_8 f0_6 f0_7 f0_9 v8_6 bsR lenR v8_26 gR v8_33 v8_34 v8_35 v8_38 v8_39 v8_40 v8_43 f8_0 f8_1 f8_2 f8_3 f8_4 f8_5 f8_7 f8_8 f8_9 f8_10 f8_11 f8_13 fW wD f8_16 eE eB f8_19 pR f8_21 f8_22 f8_23 f8_24 f8_27 dR f8_29 f8_30 gA f8_36 f8_37 f8_41 f8_42 h cIw cN cO cM col cR cL5 cL3 cbs cPK cB cQ cw cT cv cS cv4 rIw rN rKe rR_ rL8 rbs rL6 rB rPK rT rv rpR rlen rgr rg j1 j2 j3 j4 j5 j6 j6b j6c j6d j7 cST rST js cFE rFE => law_21 l C0 hL hi6 hX h cIw cN cO cM col cR cL5 cL3 cbs cPK cB cQ cw cT cv cS cv4 rIw rN rKe rR_ rL8 rbs rL6 rB rPK rT rv rpR rlen rgr rg j1 j2 j3 j4 j5 j6 j6b j6c j6d j7 cST rST js cFE rFE kk hl)
      have i_21 : ¬ (xs i &&& 63).toInt = 21 := fun h9 => s_21 ((fa_eq _ _).mpr h9)
      by_cases s_22 : xs i &&& 63 = 22
      · refine k_topi (y := 22) s_22 ?_
        refine lv_tableIn (off := 895) (tgt := 928) hx hb dL_law_33 (by decide) (by decide) rfl (by decide) ?_
        exact LInv_elim hI (fun v7_8 v7_9 v7_10 v7_12 v7_14 f7_6 f7_7 f7_11 f7_13 f7_15 v2_4 f2_0 f2_1 f2_2 f2_3 f5_0 f5_1 f5_2 f5_3 f5_4 f5_5 f5_6 bsC f3_0 f3_1 f3_2 aO v6_8 v6_9 cH f6_2 f6_3 f6_4 f6_5 f6_6 tF v4_0 v4_1 ow sA f4_4 f4_5 f4_6 v1_1 v1_2 v1_3 f1_0 sS f1_5 dF f1_7 f1_8 f1_9 v0_0 v0_1 v0_2 v0_8 f0_6 f0_7 f0_9 v8_6 bsR lenR v8_26 gR v8_33 v8_34 v8_35 v8_38 v8_39 v8_40 v8_43 f8_0 f8_1 f8_2 f8_3 f8_4 f8_5 f8_7 f8_8 f8_9 f8_10 f8_11 f8_13 fW wD f8_16 eE eB f8_19 pR f8_21 f8_22 f8_23 f8_24 f8_27 dR f8_29 f8_30 gA f8_36 f8_37 f8_41 f8_42 h cIw cN cO cM col cR cL5 cL3 cbs cPK cB cQ cw cT cv cS cv4 rIw rN rKe rR_ rL8 rbs rL6 rB rPK rT rv rpR rlen rgr rg j1 j2 j3 j4 j5 j6 j6b j6c j6d j7 cST rST js cFE rFE => law_22 l C0 hL hi6 hX h cIw cN cO cM col cR cL5 cL3 cbs cPK cB cQ cw cT cv cS cv4 rIw rN rKe rR_ rL8 rbs rL6 rB rPK rT rv rpR rlen rgr rg j1 j2 j3 j4 j5 j6 j6b j6c j6d j7 cST rST js cFE rFE kk hl)
      have i_22 : ¬ (xs i &&& 63).toInt = 22 := fun h9 => s_22 ((fa_eq _ _).mpr h9)
      by_cases s_23 : xs i &&& 63 = 23
      · refine k_topi (y := 23) s_23 ?_
        refine lv_tableIn (off := 918) (tgt := 951) hx hb dL_law_33 (by decide) (by decide) rfl (by decide) ?_
        exact LInv_elim hI (fun v7_8 v7_9 v7_10 v7_12 v7_14 f7_6 f7_7 f7_11 f7_13 f7_15 v2_4 f2_0 f2_1 f2_2 f2_3 f5_0 f5_1 f5_2 f5_3 f5_4 f5_5 f5_6 bsC f3_0 f3_1 f3_2 aO v6_8 v6_9 cH f6_2 f6_3 f6_4 f6_5 f6_6 tF v4_0 v4_1 ow sA f4_4 f4_5 f4_6 v1_1 v1_2 v1_3 f1_0 sS f1_5 dF f1_7 f1_8 f1_9 v0_0 v0_1 v0_2 v0_8 f0_6 f0_7 f0_9 v8_6 bsR lenR v8_26 gR v8_33 v8_34 v8_35 v8_38 v8_39 v8_40 v8_43 f8_0 f8_1 f8_2 f8_3 f8_4 f8_5 f8_7 f8_8 f8_9 f8_10 f8_11 f8_13 fW wD f8_16 eE eB f8_19 pR f8_21 f8_22 f8_23 f8_24 f8_27 dR f8_29 f8_30 gA f8_36 f8_37 f8_41 f8_42 h cIw cN cO cM col cR cL5 cL3 cbs cPK cB cQ cw cT cv cS cv4 rIw rN rKe rR_ rL8 rbs rL6 rB rPK rT rv rpR rlen rgr rg j1 j2 j3 j4 j5 j6 j6b j6c j6d j7 cST rST js cFE rFE => law_23 l C0 hL hi6 hX h cIw cN cO cM col cR cL5 cL3 cbs cPK cB cQ cw cT cv cS cv4 rIw rN rKe rR_ rL8 rbs rL6 rB rPK rT rv rpR rlen rgr rg j1 j2 j3 j4 j5 j6 j6b j6c j6d j7 cST rST js cFE rFE kk hl)
      have i_23 : ¬ (xs i &&& 63).toInt = 23 := fun h9 => s_23 ((fa_eq _ _).mpr h9)
      by_cases s_24 : xs i &&& 63 = 24
      · refine k_topi (y := 24) s_24 ?_
        refine lv_tableIn (off := 951) (tgt := 984) hx hb dL_law_33 (by decide) (by decide) rfl (by decide) ?_
        exact LInv_elim hI (fun v7_8 v7_9 v7_10 v7_12 v7_14 f7_6 f7_7 f7_11 f7_13 f7_15 v2_4 f2_0 f2_1 f2_2 f2_3 f5_0 f5_1 f5_2 f5_3 f5_4 f5_5 f5_6 bsC f3_0 f3_1 f3_2 aO v6_8 v6_9 cH f6_2 f6_3 f6_4 f6_5 f6_6 tF v4_0 v4_1 ow sA f4_4 f4_5 f4_6 v1_1 v1_2 v1_3 f1_0 sS f1_5 dF f1_7 f1_8 f1_9 v0_0 v0_1 v0_2 v0_8 f0_6 f0_7 f0_9 v8_6 bsR lenR v8_26 gR v8_33 v8_34 v8_35 v8_38 v8_39 v8_40 v8_43 f8_0 f8_1 f8_2 f8_3 f8_4 f8_5 f8_7 f8_8 f8_9 f8_10 f8_11 f8_13 fW wD f8_16 eE eB f8_19 pR f8_21 f8_22 f8_23 f8_24 f8_27 dR f8_29 f8_30 gA f8_36 f8_37 f8_41 f8_42 h cIw cN cO cM col cR cL5 cL3 cbs cPK cB cQ cw cT cv cS cv4 rIw rN rKe rR_ rL8 rbs rL6 rB rPK rT rv rpR rlen rgr rg j1 j2 j3 j4 j5 j6 j6b j6c j6d j7 cST rST js cFE rFE => law_24 l C0 hL hi6 hX h cIw cN cO cM col cR cL5 cL3 cbs cPK cB cQ cw cT cv cS cv4 rIw rN rKe rR_ rL8 rbs rL6 rB rPK rT rv rpR rlen rgr rg j1 j2 j3 j4 j5 j6 j6b j6c j6d j7 cST rST js cFE rFE kk hl)
      have i_24 : ¬ (xs i &&& 63).toInt = 24 := fun h9 => s_24 ((fa_eq _ _).mpr h9)
      by_cases s_25 : xs i &&& 63 = 25
      · refine k_topi (y := 25) s_25 ?_
        refine lv_tableIn (off := 974) (tgt := 1007) hx hb dL_law_33 (by decide) (by decide) rfl (by decide) ?_
        exact LInv_elim hI (fun v7_8 v7_9 v7_10 v7_12 v7_14 f7_6 f7_7 f7_11 f7_13 f7_15 v2_4 f2_0 f2_1 f2_2 f2_3 f5_0 f5_1 f5_2 f5_3 f5_4 f5_5 f5_6 bsC f3_0 f3_1 f3_2 aO v6_8 v6_9 cH f6_2 f6_3 f6_4 f6_5 f6_6 tF v4_0 v4_1 ow sA f4_4 f4_5 f4_6 v1_1 v1_2 v1_3 f1_0 sS f1_5 dF f1_7 f1_8 f1_9 v0_0 v0_1 v0_2 v0_8 f0_6 f0_7 f0_9 v8_6 bsR lenR v8_26 gR v8_33 v8_34 v8_35 v8_38 v8_39 v8_40 v8_43 f8_0 f8_1 f8_2 f8_3 f8_4 f8_5 f8_7 f8_8 f8_9 f8_10 f8_11 f8_13 fW wD f8_16 eE eB f8_19 pR f8_21 f8_22 f8_23 f8_24 f8_27 dR f8_29 f8_30 gA f8_36 f8_37 f8_41 f8_42 h cIw cN cO cM col cR cL5 cL3 cbs cPK cB cQ cw cT cv cS cv4 rIw rN rKe rR_ rL8 rbs rL6 rB rPK rT rv rpR rlen rgr rg j1 j2 j3 j4 j5 j6 j6b j6c j6d j7 cST rST js cFE rFE => law_25 l C0 hL hi6 hX h cIw cN cO cM col cR cL5 cL3 cbs cPK cB cQ cw cT cv cS cv4 rIw rN rKe rR_ rL8 rbs rL6 rB rPK rT rv rpR rlen rgr rg j1 j2 j3 j4 j5 j6 j6b j6c j6d j7 cST rST js cFE rFE kk hl)
      have i_25 : ¬ (xs i &&& 63).toInt = 25 := fun h9 => s_25 ((fa_eq _ _).mpr h9)
      by_cases s_26 : xs i &&& 63 = 26
      · refine k_topi (y := 26) s_26 ?_
        refine lv_tableIn (off := 997) (tgt := 1030) hx hb dL_law_33 (by decide) (by decide) rfl (by decide) ?_
        exact LInv_elim hI (fun v7_8 v7_9 v7_10 v7_12 v7_14 f7_6 f7_7 f7_11 f7_13 f7_15 v2_4 f2_0 f2_1 f2_2 f2_3 f5_0 f5_1 f5_2 f5_3 f5_4 f5_5 f5_6 bsC f3_0 f3_1 f3_2 aO v6_8 v6_9 cH f6_2 f6_3 f6_4 f6_5 f6_6 tF v4_0 v4_1 ow sA f4_4 f4_5 f4_6 v1_1 v1_2 v1_3 f1_0 sS f1_5 dF f1_7 f1_8 f1_9 v0_0 v0_1 v0_2 v0_8 f0_6 f0_7 f0_9 v8_6 bsR lenR v8_26 gR v8_33 v8_34 v8_35 v8_38 v8_39 v8_40 v8_43 f8_0 f8_1 f8_2 f8_3 f8_4 f8_5 f8_7 f8_8 f8_9 f8_10 f8_11 f8_13 fW wD f8_16 eE eB f8_19 pR f8_21 f8_22 f8_23 f8_24 f8_27 dR f8_29 f8_30 gA f8_36 f8_37 f8_41 f8_42 h cIw cN cO cM col cR cL5 cL3 cbs cPK cB cQ cw cT cv cS cv4 rIw rN rKe rR_ rL8 rbs rL6 rB rPK rT rv rpR rlen rgr rg j1 j2 j3 j4 j5 j6 j6b j6c j6d j7 cST rST js cFE rFE => law_26 l C0 hL hi6 hX h cIw cN cO cM col cR cL5 cL3 cbs cPK cB cQ cw cT cv cS cv4 rIw rN rKe rR_ rL8 rbs rL6 rB rPK rT rv rpR rlen rgr rg j1 j2 j3 j4 j5 j6 j6b j6c j6d j7 cST rST js cFE rFE kk hl)
      have i_26 : ¬ (xs i &&& 63).toInt = 26 := fun h9 => s_26 ((fa_eq _ _).mpr h9)
      by_cases s_27 : xs i &&& 63 = 27
      · refine k_topi (y := 27) s_27 ?_
        refine lv_tableIn (off := 1010) (tgt := 1043) hx hb dL_law_33 (by decide) (by decide) rfl (by decide) ?_
        exact LInv_elim hI (fun v7_8 v7_9 v7_10 v7_12 v7_14 f7_6 f7_7 f7_11 f7_13 f7_15 v2_4 f2_0 f2_1 f2_2 f2_3 f5_0 f5_1 f5_2 f5_3 f5_4 f5_5 f5_6 bsC f3_0 f3_1 f3_2 aO v6_8 v6_9 cH f6_2 f6_3 f6_4 f6_5 f6_6 tF v4_0 v4_1 ow sA f4_4 f4_5 f4_6 v1_1 v1_2 v1_3 f1_0 sS f1_5 dF f1_7 f1_8 f1_9 v0_0 v0_1 v0_2 v0_8 f0_6 f0_7 f0_9 v8_6 bsR lenR v8_26 gR v8_33 v8_34 v8_35 v8_38 v8_39 v8_40 v8_43 f8_0 f8_1 f8_2 f8_3 f8_4 f8_5 f8_7 f8_8 f8_9 f8_10 f8_11 f8_13 fW wD f8_16 eE eB f8_19 pR f8_21 f8_22 f8_23 f8_24 f8_27 dR f8_29 f8_30 gA f8_36 f8_37 f8_41 f8_42 h cIw cN cO cM col cR cL5 cL3 cbs cPK cB cQ cw cT cv cS cv4 rIw rN rKe rR_ rL8 rbs rL6 rB rPK rT rv rpR rlen rgr rg j1 j2 j3 j4 j5 j6 j6b j6c j6d j7 cST rST js cFE rFE => law_27 l C0 hL hi6 hX h cIw cN cO cM col cR cL5 cL3 cbs cPK cB cQ cw cT cv cS cv4 rIw rN rKe rR_ rL8 rbs rL6 rB rPK rT rv rpR rlen rgr rg j1 j2 j3 j4 j5 j6 j6b j6c j6d j7 cST rST js cFE rFE kk hl)
      have i_27 : ¬ (xs i &&& 63).toInt = 27 := fun h9 => s_27 ((fa_eq _ _).mpr h9)
      by_cases s_28 : xs i &&& 63 = 28
      · refine k_topi (y := 28) s_28 ?_
        refine lv_tableIn (off := 1023) (tgt := 1056) hx hb dL_law_33 (by decide) (by decide) rfl (by decide) ?_
        exact LInv_elim hI (fun v7_8 v7_9 v7_10 v7_12 v7_14 f7_6 f7_7 f7_11 f7_13 f7_15 v2_4 f2_0 f2_1 f2_2 f2_3 f5_0 f5_1 f5_2 f5_3 f5_4 f5_5 f5_6 bsC f3_0 f3_1 f3_2 aO v6_8 v6_9 cH f6_2 f6_3 f6_4 f6_5 f6_6 tF v4_0 v4_1 ow sA f4_4 f4_5 f4_6 v1_1 v1_2 v1_3 f1_0 sS f1_5 dF f1_7 f1_8 f1_9 v0_0 v0_1 v0_2 v0_8 f0_6 f0_7 f0_9 v8_6 bsR lenR v8_26 gR v8_33 v8_34 v8_35 v8_38 v8_39 v8_40 v8_43 f8_0 f8_1 f8_2 f8_3 f8_4 f8_5 f8_7 f8_8 f8_9 f8_10 f8_11 f8_13 fW wD f8_16 eE eB f8_19 pR f8_21 f8_22 f8_23 f8_24 f8_27 dR f8_29 f8_30 gA f8_36 f8_37 f8_41 f8_42 h cIw cN cO cM col cR cL5 cL3 cbs cPK cB cQ cw cT cv cS cv4 rIw rN rKe rR_ rL8 rbs rL6 rB rPK rT rv rpR rlen rgr rg j1 j2 j3 j4 j5 j6 j6b j6c j6d j7 cST rST js cFE rFE => law_28 l C0 hL hi6 hX h cIw cN cO cM col cR cL5 cL3 cbs cPK cB cQ cw cT cv cS cv4 rIw rN rKe rR_ rL8 rbs rL6 rB rPK rT rv rpR rlen rgr rg j1 j2 j3 j4 j5 j6 j6b j6c j6d j7 cST rST js cFE rFE kk hl)
      have i_28 : ¬ (xs i &&& 63).toInt = 28 := fun h9 => s_28 ((fa_eq _ _).mpr h9)
      by_cases s_29 : xs i &&& 63 = 29
      · refine k_topi (y := 29) s_29 ?_
        refine lv_tableIn (off := 1056) (tgt := 1089) hx hb dL_law_33 (by decide) (by decide) rfl (by decide) ?_
        exact LInv_elim hI (fun v7_8 v7_9 v7_10 v7_12 v7_14 f7_6 f7_7 f7_11 f7_13 f7_15 v2_4 f2_0 f2_1 f2_2 f2_3 f5_0 f5_1 f5_2 f5_3 f5_4 f5_5 f5_6 bsC f3_0 f3_1 f3_2 aO v6_8 v6_9 cH f6_2 f6_3 f6_4 f6_5 f6_6 tF v4_0 v4_1 ow sA f4_4 f4_5 f4_6 v1_1 v1_2 v1_3 f1_0 sS f1_5 dF f1_7 f1_8 f1_9 v0_0 v0_1 v0_2 v0_8 f0_6 f0_7 f0_9 v8_6 bsR lenR v8_26 gR v8_33 v8_34 v8_35 v8_38 v8_39 v8_40 v8_43 f8_0 f8_1 f8_2 f8_3 f8_4 f8_5 f8_7 f8_8 f8_9 f8_10 f8_11 f8_13 fW wD f8_16 eE eB f8_19 pR f8_21 f8_22 f8_23 f8_24 f8_27 dR f8_29 f8_30 gA f8_36 f8_37 f8_41 f8_42 h cIw cN cO cM col cR cL5 cL3 cbs cPK cB cQ cw cT cv cS cv4 rIw rN rKe rR_ rL8 rbs rL6 rB rPK rT rv rpR rlen rgr rg j1 j2 j3 j4 j5 j6 j6b j6c j6d j7 cST rST js cFE rFE => law_29 l C0 hL hi6 hX h cIw cN cO cM col cR cL5 cL3 cbs cPK cB cQ cw cT cv cS cv4 rIw rN rKe rR_ rL8 rbs rL6 rB rPK rT rv rpR rlen rgr rg j1 j2 j3 j4 j5 j6 j6b j6c j6d j7 cST rST js cFE rFE kk hl)
      have i_29 : ¬ (xs i &&& 63).toInt = 29 := fun h9 => s_29 ((fa_eq _ _).mpr h9)
      by_cases s_30 : xs i &&& 63 = 30
      · refine k_topi (y := 30) s_30 ?_
        refine lv_tableIn (off := 1069) (tgt := 1102) hx hb dL_law_33 (by decide) (by decide) rfl (by decide) ?_
        exact LInv_elim hI (fun v7_8 v7_9 v7_10 v7_12 v7_14 f7_6 f7_7 f7_11 f7_13 f7_15 v2_4 f2_0 f2_1 f2_2 f2_3 f5_0 f5_1 f5_2 f5_3 f5_4 f5_5 f5_6 bsC f3_0 f3_1 f3_2 aO v6_8 v6_9 cH f6_2 f6_3 f6_4 f6_5 f6_6 tF v4_0 v4_1 ow sA f4_4 f4_5 f4_6 v1_1 v1_2 v1_3 f1_0 sS f1_5 dF f1_7 f1_8 f1_9 v0_0 v0_1 v0_2 v0_8 f0_6 f0_7 f0_9 v8_6 bsR lenR v8_26 gR v8_33 v8_34 v8_35 v8_38 v8_39 v8_40 v8_43 f8_0 f8_1 f8_2 f8_3 f8_4 f8_5 f8_7 f8_8 f8_9 f8_10 f8_11 f8_13 fW wD f8_16 eE eB f8_19 pR f8_21 f8_22 f8_23 f8_24 f8_27 dR f8_29 f8_30 gA f8_36 f8_37 f8_41 f8_42 h cIw cN cO cM col cR cL5 cL3 cbs cPK cB cQ cw cT cv cS cv4 rIw rN rKe rR_ rL8 rbs rL6 rB rPK rT rv rpR rlen rgr rg j1 j2 j3 j4 j5 j6 j6b j6c j6d j7 cST rST js cFE rFE => law_30 l C0 hL hi6 hX h cIw cN cO cM col cR cL5 cL3 cbs cPK cB cQ cw cT cv cS cv4 rIw rN rKe rR_ rL8 rbs rL6 rB rPK rT rv rpR rlen rgr rg j1 j2 j3 j4 j5 j6 j6b j6c j6d j7 cST rST js cFE rFE kk hl)
      have i_30 : ¬ (xs i &&& 63).toInt = 30 := fun h9 => s_30 ((fa_eq _ _).mpr h9)
      by_cases s_31 : xs i &&& 63 = 31
      · refine k_topi (y := 31) s_31 ?_
        refine lv_tableIn (off := 1092) (tgt := 1125) hx hb dL_law_33 (by decide) (by decide) rfl (by decide) ?_
        exact LInv_elim hI (fun v7_8 v7_9 v7_10 v7_12 v7_14 f7_6 f7_7 f7_11 f7_13 f7_15 v2_4 f2_0 f2_1 f2_2 f2_3 f5_0 f5_1 f5_2 f5_3 f5_4 f5_5 f5_6 bsC f3_0 f3_1 f3_2 aO v6_8 v6_9 cH f6_2 f6_3 f6_4 f6_5 f6_6 tF v4_0 v4_1 ow sA f4_4 f4_5 f4_6 v1_1 v1_2 v1_3 f1_0 sS f1_5 dF f1_7 f1_8 f1_9 v0_0 v0_1 v0_2 v0_8 f0_6 f0_7 f0_9 v8_6 bsR lenR v8_26 gR v8_33 v8_34 v8_35 v8_38 v8_39 v8_40 v8_43 f8_0 f8_1 f8_2 f8_3 f8_4 f8_5 f8_7 f8_8 f8_9 f8_10 f8_11 f8_13 fW wD f8_16 eE eB f8_19 pR f8_21 f8_22 f8_23 f8_24 f8_27 dR f8_29 f8_30 gA f8_36 f8_37 f8_41 f8_42 h cIw cN cO cM col cR cL5 cL3 cbs cPK cB cQ cw cT cv cS cv4 rIw rN rKe rR_ rL8 rbs rL6 rB rPK rT rv rpR rlen rgr rg j1 j2 j3 j4 j5 j6 j6b j6c j6d j7 cST rST js cFE rFE => law_31 l C0 hL hi6 hX h cIw cN cO cM col cR cL5 cL3 cbs cPK cB cQ cw cT cv cS cv4 rIw rN rKe rR_ rL8 rbs rL6 rB rPK rT rv rpR rlen rgr rg j1 j2 j3 j4 j5 j6 j6b j6c j6d j7 cST rST js cFE rFE kk hl)
      have i_31 : ¬ (xs i &&& 63).toInt = 31 := fun h9 => s_31 ((fa_eq _ _).mpr h9)
      by_cases s_32 : xs i &&& 63 = 32
      · refine k_topi (y := 32) s_32 ?_
        refine lv_tableIn (off := 1135) (tgt := 1168) hx hb dL_law_33 (by decide) (by decide) rfl (by decide) ?_
        exact LInv_elim hI (fun v7_8 v7_9 v7_10 v7_12 v7_14 f7_6 f7_7 f7_11 f7_13 f7_15 v2_4 f2_0 f2_1 f2_2 f2_3 f5_0 f5_1 f5_2 f5_3 f5_4 f5_5 f5_6 bsC f3_0 f3_1 f3_2 aO v6_8 v6_9 cH f6_2 f6_3 f6_4 f6_5 f6_6 tF v4_0 v4_1 ow sA f4_4 f4_5 f4_6 v1_1 v1_2 v1_3 f1_0 sS f1_5 dF f1_7 f1_8 f1_9 v0_0 v0_1 v0_2 v0_8 f0_6 f0_7 f0_9 v8_6 bsR lenR v8_26 gR v8_33 v8_34 v8_35 v8_38 v8_39 v8_40 v8_43 f8_0 f8_1 f8_2 f8_3 f8_4 f8_5 f8_7 f8_8 f8_9 f8_10 f8_11 f8_13 fW wD f8_16 eE eB f8_19 pR f8_21 f8_22 f8_23 f8_24 f8_27 dR f8_29 f8_30 gA f8_36 f8_37 f8_41 f8_42 h cIw cN cO cM col cR cL5 cL3 cbs cPK cB cQ cw cT cv cS cv4 rIw rN rKe rR_ rL8 rbs rL6 rB rPK rT rv rpR rlen rgr rg j1 j2 j3 j4 j5 j6 j6b j6c j6d j7 cST rST js cFE rFE => law_32 l C0 hL hi6 hX h cIw cN cO cM col cR cL5 cL3 cbs cPK cB cQ cw cT cv cS cv4 rIw rN rKe rR_ rL8 rbs rL6 rB rPK rT rv rpR rlen rgr rg j1 j2 j3 j4 j5 j6 j6b j6c j6d j7 cST rST js cFE rFE kk hl)
      have i_32 : ¬ (xs i &&& 63).toInt = 32 := fun h9 => s_32 ((fa_eq _ _).mpr h9)
      refine lv_tableOut (tgt := 1191) hx hb dL_law_33 (by omega) (by decide) ?_
      exact kk _ _ _ hI hl
