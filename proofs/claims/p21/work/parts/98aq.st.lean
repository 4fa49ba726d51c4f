-- both sides do alike
theorem pkq_eq {q q' : mPI} (h : Qeq q q') : pkL q = pkL q' ∧ ∀ j, j < pkL q → pkA q j = pkA q' j := by
  have eL : pkL q = pkL q' := by
    by_cases c : ∃ L, mMW q 0 L
    · obtain ⟨L, hL⟩ := c
      rw [pk_L hL, pk_L (mMW_of h hL)]
    · have c' : ¬ ∃ L, mMW q' 0 L := fun ⟨L, z⟩ => c ⟨L, mMW_of (Qeq_symm h) z⟩
      unfold pkL
      rw [dif_neg c, dif_neg c']
  refine ⟨eL, fun j hj => ?_⟩
  by_cases c : ∃ A, mPW q A (pkL q) 0 0
  · have c' : ∃ A, mPW q' A (pkL q') 0 0 := by
      obtain ⟨A, hA⟩ := c
      exact ⟨A, by rw [← eL]; exact mPW_of h _ _ _ hA⟩
    have e1 : mPW q (pkA q) (pkL q) 0 0 := by
      unfold pkA
      rw [dif_pos c]
      exact Classical.choose_spec c
    have e2 : mPW q' (pkA q') (pkL q') 0 0 := by
      unfold pkA
      rw [dif_pos c']
      exact Classical.choose_spec c'
    rw [← eL] at e2
    exact mPW_unique q' _ _ _ (mPW_of h _ _ _ e1) e2 j (Nat.zero_le _) (by omega)
  · have c' : ¬ ∃ A, mPW q' A (pkL q') 0 0 := fun ⟨A, z⟩ => c ⟨A, by rw [eL]; exact mPW_of (Qeq_symm h) _ _ _ z⟩
    unfold pkA
    rw [dif_neg c, dif_neg c']
/-- the stored places of the class are those that the rows ask for -/
def STC (K D X Y R W L : Nat → Int32) (bs : Nat) (v : Int32) (ow sA : Nat → Nat) (n4 us po : Nat → Int32) : Prop := ∃ (len : Nat) (pw : Nat → Nat), v = nI len ∧ len ≤ 120 ∧ RLp (plI K D X Y (cnA K R W L bs) (cnL K R W L bs) 12) len ow pw n4 us ∧ RLo (plI K D X Y (cnA K R W L bs) (cnL K R W L bs) 12) (cnL K R W L bs) po 12 10 ∧ ∀ p, p < len → (sA p = cnA K R W L bs (ow p) (pw p) ∧ sA p < 1024) ∧ ow p < 12 ∧ pw p < cnL K R W L bs (ow p)
/-- and those of the reference -/
def STR (K D X Y L : Nat → Int32) (bs len : Nat) (pR : Nat → Nat) (g21 n4 us po : Nat → Int32) : Prop := ∃ pw : Nat → Nat, RLp (plI K D X Y (cnA K (rR K X Y) (rW K D) L bs) (cnL K (rR K X Y) (rW K D) L bs) 12) len pR pw n4 us ∧ RLo (plI K D X Y (cnA K (rR K X Y) (rW K D) L bs) (cnL K (rR K X Y) (rW K D) L bs) 12) (cnL K (rR K X Y) (rW K D) L bs) po 12 10 ∧ ∀ p, p < len → g21 p = nI (pw p) ∧ pR p < 12 ∧ pw p < cnL K (rR K X Y) (rW K D) L bs (pR p)
theorem cn_L {K R W L5 L3 : Nat → Int32} {aO : Nat → Nat} {bs i : Nat} (h : PK1 K R W L5 L3 aO bs i) : lenN L3 i = cnL K R W L5 bs i := by
  obtain ⟨c1, c2, c3, c4⟩ := PK1_can h
  unfold lenN
  rw [c1]
  exact nI_clamp (by omega)
theorem STC_of {K D X Y R W L5 L3 : Nat → Int32} {aO : Nat → Nat} {bs len : Nat} {ow sA pw : Nat → Nat} {n4 us po : Nat → Int32} (hL : IL L5) (hall : ∀ i, i < 12 → PK1 K R W L5 L3 aO bs i) (hlen : len ≤ 120) (hA : ∀ i w, i < 12 → w < lenN L3 i → aO (i * 10 + w) < 1024) (hPL : PLI ow sA pw len aO L3 12 0) (hR : RLp (plI K D X Y (aAt aO) (lenN L3) 12) len ow pw n4 us) (hO : RLo (plI K D X Y (aAt aO) (lenN L3) 12) (lenN L3) po 12 10) : STC K D X Y R W L5 bs (nI len) ow sA n4 us po := by
  have jL : ∀ i, i < 12 → lenN L3 i = cnL K R W L5 bs i := fun i hi => cn_L (hall i hi)
  have jA : ∀ i, i < 12 → ∀ w, w < lenN L3 i → aAt aO i w = cnA K R W L5 bs i w := fun i hi w hw => by
    rw [jL i hi] at hw
    exact (PK1_can (hall i hi)).2.2.2 w hw
  have e : plI K D X Y (aAt aO) (lenN L3) 12 = plI K D X Y (cnA K R W L5 bs) (cnL K R W L5 bs) 12 := plI_c (fun _ _ => rfl) (fun _ _ => rfl) (fun _ _ => rfl) (fun _ _ => rfl) jL jA 12 (Nat.le_refl _)
  rw [e] at hR hO
  refine ⟨len, pw, rfl, hlen, hR, ?_, fun p hp => ?_⟩
  · intro j w h1 h2 h3
    refine hO j w ?_ h2 h3
    rcases h3 with q | ⟨q1, q2⟩
    · rw [jL j q]
      exact h1
    · omega
  · obtain ⟨a1, a2, a3, a4⟩ := hPL.1 p hp
    refine ⟨⟨?_, by rw [a3]; exact hA _ _ a1 a2⟩, a1, by rw [← jL _ a1]; exact a2⟩
    rw [a3]
    exact jA _ a1 _ a2
theorem cn_L8 {K D X Y L8 WC : Nat → Int32} {wd : Nat → Nat} {bs i : Nat} (h : PK8 K D X Y L8 WC wd bs i) : lenN WC i = cnL K (rR K X Y) (rW K D) L8 bs i ∧ lenN WC i ≤ 10 := by
  obtain ⟨c1, c2, c3, c4⟩ := PK8_can h
  have e : lenN WC i = cnL K (rR K X Y) (rW K D) L8 bs i := by
    unfold lenN
    rw [c1]
    exact nI_clamp (by omega)
  exact ⟨e, by rw [e]; exact c2⟩
/-- both sides' places are the same -/
theorem cn_eq {K D X Y R W L K' D' X' Y' L' : Nat → Int32} {bs bs' : Nat} (hL : IL L) (j5 : ∀ k, k < 12 → L k = L' k) (jK : ∀ j, j < 120 → K j = K' j) (jD : ∀ j, j < 120 → D j = D' j) (jX : ∀ j, j < 120 → X j = X' j) (jY : ∀ j, j < 120 → Y j = Y' j) (j7 : J7 L R W K' D' X' Y') (hb : bs = bs') : plI K D X Y (cnA K R W L bs) (cnL K R W L bs) 12 = plI K' D' X' Y' (cnA K' (rR K' X' Y') (rW K' D') L' bs') (cnL K' (rR K' X' Y') (rW K' D') L' bs') 12 ∧ ∀ i, i < 12 → cnL K R W L bs i = cnL K' (rR K' X' Y') (rW K' D') L' bs' i ∧ ∀ w, w < cnL K R W L bs i → cnA K R W L bs i w = cnA K' (rR K' X' Y') (rW K' D') L' bs' i w := by
  have hq : ∀ i, i < 12 → cnL K R W L bs i = cnL K' (rR K' X' Y') (rW K' D') L' bs' i ∧ ∀ w, w < cnL K R W L bs i → cnA K R W L bs i w = cnA K' (rR K' X' Y') (rW K' D') L' bs' i w := fun i hi => pkq_eq (Q_agree hi hL j5 jK j7 hb)
  exact ⟨plI_c jK jD jX jY (fun i hi => (hq i hi).1) (fun i hi => (hq i hi).2) 12 (Nat.le_refl _), hq⟩
