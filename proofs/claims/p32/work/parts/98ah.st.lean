-- instructions by words and plainly, steps
theorem rnS_cA {w : Nat → Int32} {K D X Y : Nat → Int32} {base : Nat} {A B : Nat → Nat} {N0 : Nat → Int64} : ∀ n, (∀ j, j < n → A j = B j) → rnS w K D X Y base A N0 n = rnS w K D X Y base B N0 n
  | 0, _ => by rw [rnS_0, rnS_0]
  | n + 1, h => by
    have ih := rnS_cA (w := w) (K := K) (D := D) (X := X) (Y := Y) (base := base) (N0 := N0) n (fun j hj => h j (by omega))
    rw [rnS_s, rnS_s, ih, h n (by omega)]
theorem mk_W {K R W L5 L3 : Nat → Int32} {aO : Nat → Nat} {bs i : Nat} {p : Int32} (hL : IL L5) (hi : i < 12) (h : PK1 K R W L5 L3 aO bs i) (hp : ¬ p.toInt = 0) : mkL p L5 L3 i = pkL (iQ K R W (lenN L5 i) i bs) ∧ (∀ j, j < mkL p L5 L3 i → mkA p aO i j < 1024) ∧ sumN (fun j => mCnt (mkA p aO i j) 10) (mkL p L5 L3 i) ≤ 10 ∧ ∀ (w K' D X Y : Nat → Int32) (N : Nat → Int64), rnS w K' D X Y (i * 10) (mkA p aO i) N (mkL p L5 L3 i) = rnS w K' D X Y (i * 10) (pkA (iQ K R W (lenN L5 i) i bs)) N (pkL (iQ K R W (lenN L5 i) i bs)) := by
  obtain ⟨c1, c2, c3, c4⟩ := PK1_can h
  have hn := (IL_n hL hi).2
  have e0 : mkL p L5 L3 i = pkL (iQ K R W (lenN L5 i) i bs) := by
    unfold mkL
    rw [if_neg hp]
    unfold lenN
    rw [c1]
    exact nI_clamp (by omega)
  have eA : ∀ j, j < pkL (iQ K R W (lenN L5 i) i bs) → mkA p aO i j = pkA (iQ K R W (lenN L5 i) i bs) j := by
    intro j hj
    unfold mkA
    rw [if_neg hp]
    exact c4 j hj
  have ht := mm_two (i := lenN L5 i) hn
  have es : ∀ n, n ≤ pkL (iQ K R W (lenN L5 i) i bs) → sumN (fun j => mCnt (mkA p aO i j) 10) n = sumN (fun j => mCnt (pkA (iQ K R W (lenN L5 i) i bs) j) 10) n := by
    intro n
    induction n with
    | zero => intro _; rfl
    | succ n ih =>
      intro hn2
      show sumN (fun j => mCnt (mkA p aO i j) 10) n + mCnt (mkA p aO i n) 10 = sumN (fun j => mCnt (pkA (iQ K R W (lenN L5 i) i bs) j) 10) n + mCnt (pkA (iQ K R W (lenN L5 i) i bs) n) 10
      rw [ih (by omega), eA n (by omega)]
  refine ⟨e0, ?_, ?_, ?_⟩
  · intro j hj
    rw [e0] at hj
    rw [eA j hj]
    have : pkA (iQ K R W (lenN L5 i) i bs) j < 2 ^ lenN L5 i := mPW_lt _ 0 0 c3 j (Nat.zero_le _) (by omega)
    omega
  · rw [e0, es _ (Nat.le_refl _)]
    exact mPW_ten c3
  · intro w K' D X Y N
    rw [e0]
    exact rnS_cA _ eA
theorem mk_P {L5 L3 : Nat → Int32} {aO : Nat → Nat} {i : Nat} {p : Int32} (hL : IL L5) (hi : i < 12) (hp : p.toInt = 0) : mkL p L5 L3 i = lenN L5 i ∧ (∀ j, j < mkL p L5 L3 i → mkA p aO i j < 1024) ∧ sumN (fun j => mCnt (mkA p aO i j) 10) (mkL p L5 L3 i) ≤ 10 ∧ ∀ (w K' D X Y : Nat → Int32) (N : Nat → Int64), rnS w K' D X Y (i * 10) (mkA p aO i) N (mkL p L5 L3 i) = rnS w K' D X Y (i * 10) (fun j => 2 ^ j) N (lenN L5 i) := by
  have hn := (IL_n hL hi).2
  have e0 : mkL p L5 L3 i = lenN L5 i := if_pos hp
  have eA : mkA p aO i = fun j => 2 ^ j := by
    funext j
    unfold mkA
    rw [if_pos hp]
  rw [e0, eA]
  refine ⟨rfl, ?_, ?_, fun _ _ _ _ _ _ => rfl⟩
  · intro j hj
    have := mm_two (i := j + 1) (by omega)
    rw [Nat.pow_succ] at this
    have h0 := mm_pos j
    show 2 ^ j < 1024
    omega
  · show sumN (fun j => mCnt (2 ^ j) 10) (lenN L5 i) ≤ 10
    rw [sum_one (n := 10) _ hn (by decide)]
    exact hn
/-- an instruction done: plainly or by words -/
noncomputable def doR (w K D X Y L : Nat → Int32) (q : mPI) (p : Int32) (i : Nat) (N : Nat → Int64) : Nat × (Nat → Int64) × Nat × Nat × Int32 := if p.toInt = 0 then rnS w K D X Y (i * 10) (fun j => 2 ^ j) N (lenN L i) else rnS w K D X Y (i * 10) (pkA q) N (pkL q)
theorem mk_R {K R W L5 L3 : Nat → Int32} {aO : Nat → Nat} {bs i : Nat} {p : Int32} (hL : IL L5) (hi : i < 12) (h : ¬ p.toInt = 0 → PK1 K R W L5 L3 aO bs i) : (∀ j, j < mkL p L5 L3 i → mkA p aO i j < 1024) ∧ sumN (fun j => mCnt (mkA p aO i j) 10) (mkL p L5 L3 i) ≤ 10 ∧ ∀ (w K' D X Y : Nat → Int32) (N : Nat → Int64), rnS w K' D X Y (i * 10) (mkA p aO i) N (mkL p L5 L3 i) = doR w K' D X Y L5 (iQ K R W (lenN L5 i) i bs) p i N := by
  by_cases hp : p.toInt = 0
  · obtain ⟨_, h1, h2, h3⟩ := mk_P (L5 := L5) (L3 := L3) (aO := aO) hL hi hp
    refine ⟨h1, h2, fun w K' D X Y N => ?_⟩
    unfold doR
    rw [if_pos hp]
    exact h3 w K' D X Y N
  · obtain ⟨_, h1, h2, h3⟩ := mk_W hL hi (h hp) hp
    refine ⟨h1, h2, fun w K' D X Y N => ?_⟩
    unfold doR
    rw [if_neg hp]
    exact h3 w K' D X Y N
/-- both ends are alike -/
def endA (R S : Nat × (Nat → Int64) × Nat × Nat × Int32) : Prop := R.1 = S.1 ∧ ∀ j, j < 74 → R.2.1 j = S.2.1 j
theorem endA_symm {R S : Nat × (Nat → Int64) × Nat × Nat × Int32} : endA R S ↔ endA S R := ⟨fun h => ⟨h.1.symm, fun j hj => (h.2 j hj).symm⟩, fun h => ⟨h.1.symm, fun j hj => (h.2 j hj).symm⟩⟩
/-- one step: how it ends (0 done, 1 the counter is beyond, 2 no code), numbers, told, traps -/
def cdX (N : Nat → Int64) : Nat := ((N (10 + (N 7).toInt32).toNatClampNeg) - (N (10 + (N 7).toInt32).toNatClampNeg) / 16 * 16).toInt32.toNatClampNeg
noncomputable def st1 (w T K D X Y : Nat → Int32) (Q : Nat → mPI) (N : Nat → Int64) (a o t p : Int32) : Nat × (Nat → Int64) × Int32 × Int32 × Int32 × Int32 :=
  if 63 < (N 7).toInt then (1, N, a, o, t, p)
  else if (T (cdX N)).toInt < 0 then (2, N, a, o, t, p)
  else (0, (rnS w K D X Y ((T (cdX N)).toNatClampNeg * 10) (pkA (Q (T (cdX N)).toNatClampNeg)) (gput w N 7 (N 7 + 1)) (pkL (Q (T (cdX N)).toNatClampNeg))).2.1, nI (rnS w K D X Y ((T (cdX N)).toNatClampNeg * 10) (pkA (Q (T (cdX N)).toNatClampNeg)) (gput w N 7 (N 7 + 1)) (pkL (Q (T (cdX N)).toNatClampNeg))).2.2.1, nI (rnS w K D X Y ((T (cdX N)).toNatClampNeg * 10) (pkA (Q (T (cdX N)).toNatClampNeg)) (gput w N 7 (N 7 + 1)) (pkL (Q (T (cdX N)).toNatClampNeg))).2.2.2.1, (rnS w K D X Y ((T (cdX N)).toNatClampNeg * 10) (pkA (Q (T (cdX N)).toNatClampNeg)) (gput w N 7 (N 7 + 1)) (pkL (Q (T (cdX N)).toNatClampNeg))).2.2.2.2, if (rnS w K D X Y ((T (cdX N)).toNatClampNeg * 10) (pkA (Q (T (cdX N)).toNatClampNeg)) (gput w N 7 (N 7 + 1)) (pkL (Q (T (cdX N)).toNatClampNeg))).1 = 2 then p + 1 else p)
theorem st1_1 {w T K D X Y : Nat → Int32} {Q : Nat → mPI} {N : Nat → Int64} {a o t p : Int32} (h : 63 < (N 7).toInt) : st1 w T K D X Y Q N a o t p = (1, N, a, o, t, p) := if_pos h
theorem st1_2 {w T K D X Y : Nat → Int32} {Q : Nat → mPI} {N : Nat → Int64} {a o t p : Int32} (h : ¬ 63 < (N 7).toInt) (h2 : (T (cdX N)).toInt < 0) : st1 w T K D X Y Q N a o t p = (2, N, a, o, t, p) := by
  unfold st1
  rw [if_neg h, if_pos h2]
theorem st1_0 {w T K D X Y : Nat → Int32} {Q : Nat → mPI} {N : Nat → Int64} {a o t p : Int32} {c : Nat} (h : ¬ 63 < (N 7).toInt) (hc : T (cdX N) = nI c) (hc2 : c < 12) {R : Nat × (Nat → Int64) × Nat × Nat × Int32} (hR : R = rnS w K D X Y (c * 10) (pkA (Q c)) (gput w N 7 (N 7 + 1)) (pkL (Q c))) : st1 w T K D X Y Q N a o t p = (0, R.2.1, nI R.2.2.1, nI R.2.2.2.1, R.2.2.2.2, if R.1 = 2 then p + 1 else p) := by
  have e1 : (T (cdX N)).toNatClampNeg = c := by rw [hc]; exact nI_clamp (by omega)
  have e2 : ¬ (T (cdX N)).toInt < 0 := by
    rw [hc, nI_toInt (by omega)]
    omega
  unfold st1
  rw [if_neg h, if_neg e2, e1, ← hR]
/-- one step more, and the steps done -/
noncomputable def st2 (w T K D X Y : Nat → Int32) (Q : Nat → mPI) (S : (Nat × (Nat → Int64) × Int32 × Int32 × Int32 × Int32) × Nat) : (Nat × (Nat → Int64) × Int32 × Int32 × Int32 × Int32) × Nat :=
  if S.1.1 = 0 then (st1 w T K D X Y Q S.1.2.1 S.1.2.2.1 S.1.2.2.2.1 S.1.2.2.2.2.1 S.1.2.2.2.2.2, if (st1 w T K D X Y Q S.1.2.1 S.1.2.2.1 S.1.2.2.2.1 S.1.2.2.2.2.1 S.1.2.2.2.2.2).1 = 0 then S.2 + 1 else S.2) else S
theorem st2_go {w T K D X Y : Nat → Int32} {Q : Nat → mPI} {S : (Nat × (Nat → Int64) × Int32 × Int32 × Int32 × Int32) × Nat} (h : S.1.1 = 0) : st2 w T K D X Y Q S = (st1 w T K D X Y Q S.1.2.1 S.1.2.2.1 S.1.2.2.2.1 S.1.2.2.2.2.1 S.1.2.2.2.2.2, if (st1 w T K D X Y Q S.1.2.1 S.1.2.2.1 S.1.2.2.2.1 S.1.2.2.2.2.1 S.1.2.2.2.2.2).1 = 0 then S.2 + 1 else S.2) := if_pos h
theorem st2_st {w T K D X Y : Nat → Int32} {Q : Nat → mPI} {S : (Nat × (Nat → Int64) × Int32 × Int32 × Int32 × Int32) × Nat} (h : ¬ S.1.1 = 0) : st2 w T K D X Y Q S = S := if_neg h
/-- n steps -/
noncomputable def stS (w T K D X Y : Nat → Int32) (Q : Nat → mPI) (N0 : Nat → Int64) (a0 o0 t0 p0 : Int32) (n : Nat) : (Nat × (Nat → Int64) × Int32 × Int32 × Int32 × Int32) × Nat :=
  match n with
  | 0 => ((0, N0, a0, o0, t0, p0), 0)
  | n + 1 => st2 w T K D X Y Q (stS w T K D X Y Q N0 a0 o0 t0 p0 n)
termination_by n
theorem stS_0 {w T K D X Y : Nat → Int32} {Q : Nat → mPI} {N0 : Nat → Int64} {a0 o0 t0 p0 : Int32} : stS w T K D X Y Q N0 a0 o0 t0 p0 0 = ((0, N0, a0, o0, t0, p0), 0) := by rw [stS]
theorem stS_s {w T K D X Y : Nat → Int32} {Q : Nat → mPI} {N0 : Nat → Int64} {a0 o0 t0 p0 : Int32} {n : Nat} : stS w T K D X Y Q N0 a0 o0 t0 p0 (n + 1) = st2 w T K D X Y Q (stS w T K D X Y Q N0 a0 o0 t0 p0 n) := by rw [stS]
theorem stS_go {w T K D X Y : Nat → Int32} {Q : Nat → mPI} {N0 N : Nat → Int64} {a0 o0 t0 p0 a o t p : Int32} {n d : Nat} {S : Nat × (Nat → Int64) × Int32 × Int32 × Int32 × Int32} (h : stS w T K D X Y Q N0 a0 o0 t0 p0 n = ((0, N, a, o, t, p), d)) (hS : S = st1 w T K D X Y Q N a o t p) : stS w T K D X Y Q N0 a0 o0 t0 p0 (n + 1) = (S, if S.1 = 0 then d + 1 else d) := by
  rw [stS_s, h, st2_go rfl, hS]
theorem stS_nx {w T K D X Y : Nat → Int32} {Q : Nat → mPI} {N0 N N' : Nat → Int64} {a0 o0 t0 p0 a o t p a' o' t' p' : Int32} {n d d' : Nat} (h : stS w T K D X Y Q N0 a0 o0 t0 p0 n = ((0, N, a, o, t, p), d)) (h1 : N' = (st1 w T K D X Y Q N a o t p).2.1) (ha : a' = (st1 w T K D X Y Q N a o t p).2.2.1) (ho : o' = (st1 w T K D X Y Q N a o t p).2.2.2.1) (ht : t' = (st1 w T K D X Y Q N a o t p).2.2.2.2.1) (hp : p' = (st1 w T K D X Y Q N a o t p).2.2.2.2.2) (hd : d' = if (st1 w T K D X Y Q N a o t p).1 = 0 then d + 1 else d) : stS w T K D X Y Q N0 a0 o0 t0 p0 (n + 1) = (((st1 w T K D X Y Q N a o t p).1, N', a', o', t', p'), d') := by
  rw [stS_go h rfl, h1, ha, ho, ht, hp, hd]
theorem stS_ny {w T K D X Y : Nat → Int32} {Q : Nat → mPI} {N0 N N' M : Nat → Int64} {a0 o0 t0 p0 a o t p a' o' t' p' x1 x2 x3 x4 : Int32} {n d e : Nat} (h : stS w T K D X Y Q N0 a0 o0 t0 p0 n = ((0, N, a, o, t, p), d)) (he : e = 0) (hS : st1 w T K D X Y Q N a o t p = (0, M, x1, x2, x3, x4)) (h1 : N' = M) (ha : a' = x1) (ho : o' = x2) (ht : t' = x3) (hp : p' = x4) : stS w T K D X Y Q N0 a0 o0 t0 p0 (n + 1) = ((e, N', a', o', t', p'), d + 1) := by
  rw [stS_go h hS.symm, h1, ha, ho, ht, hp, he]
  rfl
theorem stS_nz {w T K D X Y : Nat → Int32} {Q : Nat → mPI} {N0 N : Nat → Int64} {a0 o0 t0 p0 a o t p : Int32} {n d e : Nat} (h : stS w T K D X Y Q N0 a0 o0 t0 p0 n = ((0, N, a, o, t, p), d)) (he : ¬ e = 0) (hS : st1 w T K D X Y Q N a o t p = (e, N, a, o, t, p)) : stS w T K D X Y Q N0 a0 o0 t0 p0 (n + 1) = ((e, N, a, o, t, p), d) := by
  rw [stS_go h hS.symm, if_neg he]
theorem stS_st {w T K D X Y : Nat → Int32} {Q : Nat → mPI} {N0 : Nat → Int64} {a0 o0 t0 p0 : Int32} {n : Nat} (h : ¬ (stS w T K D X Y Q N0 a0 o0 t0 p0 n).1.1 = 0) : ∀ k, stS w T K D X Y Q N0 a0 o0 t0 p0 (n + k) = stS w T K D X Y Q N0 a0 o0 t0 p0 n
  | 0 => rfl
  | k + 1 => by
    have ih := stS_st h k
    rw [← Nat.add_assoc, stS_s, ih, st2_st h]
theorem stS_end {w T K D X Y : Nat → Int32} {Q : Nat → mPI} {N0 N : Nat → Int64} {a0 o0 t0 p0 a o t p : Int32} {n m e d : Nat} (h : stS w T K D X Y Q N0 a0 o0 t0 p0 n = ((e, N, a, o, t, p), d)) (hn : n ≤ m) (he : n = m ∨ ¬ e = 0) : stS w T K D X Y Q N0 a0 o0 t0 p0 m = ((e, N, a, o, t, p), d) := by
  rcases he with q | q
  · rw [← q]
    exact h
  · obtain ⟨k, rfl⟩ : ∃ k, m = n + k := ⟨m - n, by omega⟩
    rw [stS_st (by rw [h]; exact q) k]
    exact h
theorem nI_cl {x : Int32} {i : Nat} (h : x = nI i) (hi : i < 2147483648) : x.toNatClampNeg = i := by
  rw [h]
  exact nI_clamp hi
theorem IN_rnS {w : Nat → Int32} {K D X Y : Nat → Int32} {base : Nat} {A : Nat → Nat} {N0 : Nat → Int64} (hw : IW w) (hN : IN N0) (hr : ∀ b, b < 10 → kAct (K (base + b)) (D (base + b)) (X (base + b)) (Y (base + b))) : ∀ n, IN (rnS w K D X Y base A N0 n).2.1
  | 0 => by
    rw [rnS_0]
    exact hN
  | n + 1 => by
    have ih := IN_rnS (A := A) hw hN hr n
    have hF : ∀ (N : Nat → Int64) m k, IN N → k ≤ 10 → IN (tkF w N K D X Y base m k N) := by
      intro N m k hN2
      induction k with
      | zero => intro _; rw [tkF_z]; exact hN2
      | succ k ihk =>
        intro hk
        rw [tkF_s]
        split
        · exact IN_aPut hw hN2 (ihk (by omega)) (hr k (by omega))
        · exact ihk (by omega)
    rw [rnS_s]
    by_cases c : (rnS w K D X Y base A N0 n).1 = 0
    · rw [rn1_go c]
      show IN (wdN w N0 (rnS w K D X Y base A N0 n).2.1 K D X Y base (A n))
      unfold wdN
      split
      · exact hF _ _ 10 ih (Nat.le_refl _)
      · exact hN
    · rw [rn1_st c]
      exact ih
theorem cdX_lt {N : Nat → Int64} (hN : IN N) (h : ¬ 63 < (N 7).toInt) : cdX N < 16 := by
  have h7 := hN 7 (by decide)
  have e1 : (N 7).toInt32.toInt = (N 7).toInt := kl2i h7.1 (by omega)
  have e2 : (10 + (N 7).toInt32).toInt = 10 + (N 7).toInt := by
    rw [Int32.toInt_add, e1, show (10 : Int32).toInt = 10 by decide]
    exact fb_bmod (by omega) (by omega)
  have hc := IN_at hN (x := 10 + (N 7).toInt32) (by omega) (by omega)
  have hr := krem16 hc.1 hc.2
  unfold cdX
  refine cl_lt (n := 16) ?_ ?_
  · rw [hr]
    omega
  · rw [hr]
    omega
/-- acts are done alike where widths and rows are alike -/
theorem kput_c {w w' : Nat → Int32} {x : Int32} {v : Int64} (h : ∀ k, k < 8 → w k = w' k) (h0 : 0 ≤ x.toInt) : kput w x v = kput w' x v := by
  unfold kput
  by_cases c : x.toInt < 8
  · rw [if_pos c, if_pos c, h _ (by unfold Int32.toNatClampNeg; omega)]
  · rw [if_neg c, if_neg c]
theorem gput_c {w w' : Nat → Int32} {M : Nat → Int64} {x : Int32} {v : Int64} (h : ∀ k, k < 8 → w k = w' k) (h0 : 0 ≤ x.toInt) : gput w M x v = gput w' M x v := by
  unfold gput
  rw [kput_c h h0]
theorem aPut_c {w w' : Nat → Int32} (h : ∀ k, k < 8 → w k = w' k) {N M : Nat → Int64} {k d x y : Int32} (hN : IN N) (hA : kAct k d x y) : aPut w N M k d x y = aPut w' N M k d x y := by
  have hk := kA_k hA
  by_cases c9 : 9 ≤ k.toInt
  · rw [aPut_f c9, aPut_f c9]
  · by_cases c8 : k.toInt = 8
    · rw [aPut_8 c8, aPut_8 c8]
      by_cases c : 63 < (N x.toNatClampNeg).toInt
      · rw [if_pos c, if_pos c]
      · rw [if_neg c, if_neg c]
        have hx := kA_x hA (by omega) (by omega)
        have hc := IN_at hN hx.1 (by omega)
        have e1 : (N x.toNatClampNeg).toInt32.toInt = (N x.toNatClampNeg).toInt := kl2i hc.1 (by omega)
        refine gput_c h ?_
        rw [Int32.toInt_add, e1, show (10 : Int32).toInt = 10 by decide, fb_bmod (by omega) (by omega)]
        omega
    · have hd := kA_d hA (by omega)
      by_cases c7 : k.toInt = 7
      · rw [aPut_7 c7, aPut_7 c7, gput_c h hd.1]
      · by_cases c6 : k.toInt = 6
        · rw [aPut_6 c6, aPut_6 c6, gput_c h hd.1]
        · by_cases c2 : 2 ≤ k.toInt ∧ k.toInt ≤ 5
          · rw [aPut_w c2, aPut_w c2]
            unfold wPut wTop
            rw [gput_c h (M := M) hd.1, kput_c h hd.1, gput_c h (x := 8) (by decide), gput_c h (x := 9) (by decide)]
          · by_cases c1 : k.toInt = 1
            · rw [aPut_1 c1, aPut_1 c1, gput_c h hd.1]
            · rw [aPut_0 (by omega), aPut_0 (by omega), gput_c h hd.1]
theorem rnS_congr {w w' : Nat → Int32} {K D X Y K' D' X' Y' : Nat → Int32} {base : Nat} {A B : Nat → Nat} {N0 : Nat → Int64} (hw : ∀ k, k < 8 → w k = w' k) (hIw : IW w) (hN : IN N0) (hr : ∀ b, b < 10 → kAct (K (base + b)) (D (base + b)) (X (base + b)) (Y (base + b)) ∧ K (base + b) = K' (base + b) ∧ D (base + b) = D' (base + b) ∧ X (base + b) = X' (base + b) ∧ Y (base + b) = Y' (base + b)) : ∀ n, (∀ j, j < n → A j = B j) → rnS w K D X Y base A N0 n = rnS w' K' D' X' Y' base B N0 n
  | 0, _ => by rw [rnS_0, rnS_0]
  | n + 1, h => by
    have ih := rnS_congr (A := A) (B := B) hw hIw hN hr n (fun j hj => h j (by omega))
    have hNn := IN_rnS (A := A) hIw hN (fun b hb => (hr b hb).1) n
    have eS : ∀ (N : Nat → Int64) m k, k ≤ 10 → tkS N K X Y base m k = tkS N K' X' Y' base m k := by
      intro N m k
      induction k with
      | zero => intro _; rw [tkS_z, tkS_z]
      | succ k ihk =>
        intro hk
        obtain ⟨_, r1, r2, r3, r4⟩ := hr k (by omega)
        rw [tkS_s, tkS_s, ihk (by omega), r1, r3, r4]
    have eT : ∀ (N : Nat → Int64) m k, k ≤ 10 → tkT N K X Y base m k = tkT N K' X' Y' base m k := by
      intro N m k
      induction k with
      | zero => intro _; rw [tkT_z, tkT_z]
      | succ k ihk =>
        intro hk
        obtain ⟨_, r1, r2, r3, r4⟩ := hr k (by omega)
        rw [tkT_s, tkT_s, ihk (by omega), r1, r3, r4]
    have eF : ∀ (N M : Nat → Int64) m k, IN N → k ≤ 10 → tkF w N K D X Y base m k M = tkF w' N K' D' X' Y' base m k M := by
      intro N M m k hN2
      induction k with
      | zero => intro _; rw [tkF_z, tkF_z]
      | succ k ihk =>
        intro hk
        obtain ⟨r0, r1, r2, r3, r4⟩ := hr k (by omega)
        rw [tkF_s, tkF_s, ihk (by omega), aPut_c hw hN2 r0, r1, r2, r3, r4]
    have eH : wdH (rnS w K D X Y base A N0 n).2.1 K X Y base (A n) = wdH (rnS w K D X Y base A N0 n).2.1 K' X' Y' base (A n) := by
      unfold wdH
      rw [eS _ _ 10 (Nat.le_refl _), eT _ _ 10 (Nat.le_refl _)]
    have eN : wdN w N0 (rnS w K D X Y base A N0 n).2.1 K D X Y base (A n) = wdN w' N0 (rnS w K D X Y base A N0 n).2.1 K' D' X' Y' base (A n) := by
      unfold wdN
      rw [eT _ _ 10 (Nat.le_refl _), eF _ _ _ 10 hNn (Nat.le_refl _)]
    rw [rnS_s, rnS_s, ← ih, ← h n (by omega)]
    by_cases c : (rnS w K D X Y base A N0 n).1 = 0
    · rw [rn1_go c, rn1_go c, eH, eN, eT _ _ 10 (Nat.le_refl _)]
    · rw [rn1_st c, rn1_st c]
theorem doR_p {w K D X Y L : Nat → Int32} {q : mPI} {p : Int32} {i : Nat} {N : Nat → Int64} (h : p.toInt = 0) : doR w K D X Y L q p i N = rnS w K D X Y (i * 10) (fun j => 2 ^ j) N (lenN L i) := if_pos h
theorem doR_w {w K D X Y L : Nat → Int32} {q : mPI} {p : Int32} {i : Nat} {N : Nat → Int64} (h : ¬ p.toInt = 0) : doR w K D X Y L q p i N = rnS w K D X Y (i * 10) (pkA q) N (pkL q) := if_neg h
theorem all_up {f g : Nat → Int64} {i : Nat} (h : ∀ j, j < i → f j = g j) (e : f i = g i) : ∀ j, j < i + 1 → f j = g j := by
  intro j hj
  by_cases c : j = i
  · rw [c]
    exact e
  · exact h j (by omega)
