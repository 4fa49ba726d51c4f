-- plain facts of the walk
theorem vin_dec {i : Int32} {n : Nat} (h : decide (0 ≤ i.toInt ∧ i.toInt < n) = true) : vp_in i n := vp_in_iff.mpr (of_decide_eq_true h)
theorem kb0 {r : Int32} {C : Prop} [Decidable C] (h : r = if C then 1 else 0) (c : r = 0) : ¬ C := by
  intro hc
  rw [if_pos hc] at h
  rw [h] at c
  exact absurd c (by decide)
theorem kb1 {r : Int32} {C : Prop} [Decidable C] (h : r = if C then 1 else 0) (c : ¬ r = 0) : C := by
  by_cases hc : C
  · exact hc
  · rw [if_neg hc] at h
    exact absurd h c
theorem fa_lt (a b : Int32) : a < b ↔ a.toInt < b.toInt := Int32.lt_iff_toInt_lt
theorem fa_le (a b : Int32) : a ≤ b ↔ a.toInt ≤ b.toInt := Int32.le_iff_toInt_le
theorem fa_eq (a b : Int32) : a = b ↔ a.toInt = b.toInt := ⟨fun h => by rw [h], fun h => Int32.toInt_inj.mp h⟩
theorem ksw3 {x : Int32} (h0 : ¬ x = 0) (h1 : ¬ x = 1) (h2 : ¬ x = 2) : x.toInt < 0 ∨ 2 < x.toInt := by
  rw [fa_eq] at h0 h1 h2
  have e0 : (0 : Int32).toInt = 0 := by decide
  have e1 : (1 : Int32).toInt = 1 := by decide
  have e2 : (2 : Int32).toInt = 2 := by decide
  omega
theorem vin_of {x N : Int32} {n : Nat} (hN : N.toInt = n) (h0 : 0 ≤ x) (h1 : x < N) : vp_in x n := by
  rw [fa_le] at h0
  rw [fa_lt] at h1
  have e0 : (0 : Int32).toInt = 0 := by decide
  exact vp_in_iff.mpr ⟨by omega, by omega⟩
theorem kn_lt {i N : Nat} {x : Int32} (hx : x = nI N) (hN : N < 2 ^ 31) (hi : i < 2 ^ 31) (h : ¬ x ≤ nI i) : i < N := by
  rw [hx, nI_leI hN hi] at h
  omega
theorem kn_ge {i N : Nat} {x : Int32} (hx : x = nI N) (hN : N < 2 ^ 31) (hi : i < 2 ^ 31) (h : x ≤ nI i) : N ≤ i := by
  rw [hx, nI_leI hN hi] at h
  exact h
section KB2
variable {p : Program} {l : Launch} {e : Env} {R : Room} {s : State} {m : MethodId} {args : Array Value} {below : List Frame} {meth : Method} {c : Code} {H : Heap} {locs : List Loc} {cells slots : Nat} {Q : State → Prop} {cc : ByteArray} {nL : Nat} {Ts : List Cond} {own : String} {A : Nat → Prop} {D : va_G} {ws : va_W} {tys : List (ClassId × FieldType)} {pc a : Nat} {ls : Array Slot} {rest : List Value}
theorem k_topi {x y : Int32} (h : x = y) (k : W p l e R s m args below meth c H locs cells slots Q (F0 m pc ls (.int y :: rest))) : W p l e R s m args below meth c H locs cells slots Q (F0 m pc ls (.int x :: rest)) := h ▸ k
theorem k_topl {x y : Int64} (h : x = y) (k : W p l e R s m args below meth c H locs cells slots Q (F0 m pc ls (.long y :: rest))) : W p l e R s m args below meth c H locs cells slots Q (F0 m pc ls (.long x :: rest)) := h ▸ k
/-- a loop at Hd: a state x of type σ, its cells and locals, an invariant, a measure that falls -/
theorem k_loop {σ : Type} {Hd : Nat} (wf : σ → va_W) (lf : σ → List (Nat × Value)) (I : Nat → σ → Prop)
    (step : ∀ (n : Nat) (x : σ) (H : Heap) (locs : List Loc) (ls : Array Slot), I n x → KS D A (wf x) tys s H locs → lv_has ls nL (lf x) → (∀ (n' : Nat) (x' : σ) (H' : Heap) (locs' : List Loc) (ls' : Array Slot), n' < n → I n' x' → KS D A (wf x') tys s H' locs' → lv_has ls' nL (lf x') → W p l e R s m args below meth c H' locs' cells slots Q (F0 m Hd ls' [])) → W p l e R s m args below meth c H locs cells slots Q (F0 m Hd ls []))
    (n0 : Nat) (x0 : σ) (h0 : I n0 x0) (h : KS D A (wf x0) tys s H locs) (hl : lv_has ls nL (lf x0)) : W p l e R s m args below meth c H locs cells slots Q (F0 m Hd ls []) := by
  have main : ∀ (k n : Nat), n < k → ∀ (x : σ) (H : Heap) (locs : List Loc) (ls : Array Slot), I n x → KS D A (wf x) tys s H locs → lv_has ls nL (lf x) → W p l e R s m args below meth c H locs cells slots Q (F0 m Hd ls []) := by
    intro k
    induction k with
    | zero => intro n hn; exact absurd hn (Nat.not_lt_zero n)
    | succ k ih =>
      intro n hn x H locs ls hI h hl
      exact step n x H locs ls hI h hl (fun n' x' H' locs' ls' hlt hI' h' hl' => ih n' (Nat.lt_of_lt_of_le hlt (Nat.le_of_lt_succ hn)) x' H' locs' ls' hI' h' hl')
  exact main (n0 + 1) n0 (Nat.lt_succ_self n0) x0 H locs ls h0 h hl
theorem k_perm {ws' : va_W} (h : KS D A ws tys s H locs) (is : List Nat) (hn : va_nd is = true) (h1 : is.filterMap (fun i => ws[i]?) = ws') (h2 : is.map (fun i => ws[i]?) = ws'.map some) : KS D A ws' tys s H locs :=
  ⟨h.1, h.2.1.sub is h1, h.2.2.1.sub is hn h2, h.2.2.2⟩
theorem k_cellI {cA : ClassId} {n : Nat} {f g : Nat → Int32} (h : ∀ j, j < n → f j = g j) : vp_cell cA (n, .inl f) = vp_cell cA (n, .inl g) := by
  show arrV cA n (fun j => .int (f j)) = arrV cA n (fun j => .int (g j))
  unfold arrV
  congr 1
  apply congrArg
  funext j
  exact congrArg Value.int (h j.val j.isLt)
theorem k_cellL {cA : ClassId} {n : Nat} {f g : Nat → Int64} (h : ∀ j, j < n → f j = g j) : vp_cell cA (n, .inr (.inl f)) = vp_cell cA (n, .inr (.inl g)) := by
  show arrV cA n (fun j => .long (f j)) = arrV cA n (fun j => .long (g j))
  unfold arrV
  congr 1
  apply congrArg
  funext j
  exact congrArg Value.long (h j.val j.isLt)
theorem k_set {q0 : Nat} {x y : va_E} {ws' : va_W} (h : KS D A ws tys s H locs) (hx : ws[q0]? = some (a, x)) (hxy : ∀ H : Heap, va_at D vwCl (a, x) H → va_at D vwCl (a, y) H) (hs : ws.set q0 (a, y) = ws') : KS D A ws' tys s H locs := by
  subst hs
  obtain ⟨hK, hP, hD, hS⟩ := h
  refine ⟨hK, ?_, ?_, hS⟩
  · intro k q hq
    rw [List.getElem?_set] at hq
    by_cases hk : q0 = k
    · subst hk
      have hlt : q0 < ws.length := (List.getElem?_eq_some_iff.mp hx).1
      simp only [hlt, if_true] at hq
      cases hq
      exact hxy H (hP q0 _ hx)
    · rw [if_neg hk] at hq
      exact hP k q hq
  · have hget : ∀ (k : Nat) (q : Nat × va_E), (ws.set q0 (a, y))[k]? = some q → ∃ q' : Nat × va_E, ws[k]? = some q' ∧ q'.1 = q.1 := by
      intro k q hq
      rw [List.getElem?_set] at hq
      by_cases hk : q0 = k
      · subst hk
        have hlt : q0 < ws.length := (List.getElem?_eq_some_iff.mp hx).1
        simp only [hlt, if_true] at hq
        cases hq
        exact ⟨_, hx, rfl⟩
      · rw [if_neg hk] at hq
        exact ⟨q, hq, rfl⟩
    refine ⟨fun i j u v hu hv huv => ?_, fun k q hq => ?_⟩
    · obtain ⟨u', hu', eu⟩ := hget i u hu
      obtain ⟨v', hv', ev⟩ := hget j v hv
      exact hD.1 i j u' v' hu' hv' (by rw [eu, ev]; exact huv)
    · obtain ⟨q', hq', eq⟩ := hget k q hq
      rw [← eq]
      exact hD.2 k q' hq'
theorem k_cong {cA : ClassId} {n : Nat} {f g : Nat → Int32} {ws' : va_W} (q0 : Nat) (h : KS D A ws tys s H locs) (hx : ws[q0]? = some (a, .inl (cA, n, .inl f))) (hfg : ∀ j, j < n → f j = g j) (hs : ws.set q0 (a, .inl (cA, n, .inl g)) = ws') : KS D A ws' tys s H locs :=
  k_set h hx (fun H h => by
    show H[a]? = some (vp_cell cA (n, .inl g))
    rw [← k_cellI hfg]
    exact h) hs
theorem k_congL {cA : ClassId} {n : Nat} {f g : Nat → Int64} {ws' : va_W} (q0 : Nat) (h : KS D A ws tys s H locs) (hx : ws[q0]? = some (a, .inl (cA, n, .inr (.inl f)))) (hfg : ∀ j, j < n → f j = g j) (hs : ws.set q0 (a, .inl (cA, n, .inr (.inl g))) = ws') : KS D A ws' tys s H locs :=
  k_set h hx (fun H h => by
    show H[a]? = some (vp_cell cA (n, .inr (.inl g)))
    rw [← k_cellL hfg]
    exact h) hs
/-- System.arraycopy of a whole long row into another of the same length -/
theorem k_copyl (E : CallFix p m c cc nL s args Ts own) (hml : c.maxLocals = ls.size) (h : KS D A ws tys s H locs) {index : Nat} (hlink : Cond.methodLink own index arraycopyName ∈ Ts) (hnat : Cond.native arraycopyName ∈ Ts) (hstat : Cond.static arraycopyName ∈ Ts) (hini : Cond.initialized "java/lang/System" ∈ Ts) (q0 q1 t0 t1 : Nat) {a0 : Nat} {c0 c1 : ClassId} {n : Nat} {N : Int32} {f g : Nat → Int64} (ha0 : ws[q0]? = some (a0, .inl (c0, n, .inr (.inl f)))) (ha1 : ws[q1]? = some (a, .inl (c1, n, .inr (.inl g)))) (ht0 : tys[t0]? = some (c0, .long)) (ht1 : tys[t1]? = some (c1, .long)) (hN : N.toNatClampNeg = n) (h3 : ¬ N < 0) (_h4 : True) {ws' : va_W} (hs : ws.set q1 (a, .inl (c1, n, .inr (.inl f))) = ws')
    (hframes : 1 ≤ R.frames) (hlocals : (rest.map fun v => v.category).sum + (nativeFrameWords "java/lang/System" "arraycopy" 5 + 11) ≤ R.locals) (hdg : decode cc pc = .ok (.invokestatic index, 3))
    (kk : ∀ (H1 : Heap) (locs1 : List Loc), KS D A ws' tys s H1 locs1 → W p l e R s m args below meth c H1 locs1 cells slots Q (F0 m (pc + 3) ls rest)) : W p l e R s m args below meth c H locs cells slots Q (F0 m pc ls (.int N :: .int 0 :: .ref a :: .int 0 :: .ref a0 :: rest)) := by
  have z0 : (0 : Int32).toNatClampNeg = 0 := rfl
  refine va_copyl E.1 E.2.1 hml E.2.2.2.1 (E.2.2.2.2 _ hlink) (E.2.2.2.2 _ hnat) (E.2.2.2.2 _ hstat) (E.2.2.2.2 _ hini) h.1 h.2.1 h.2.2.1 h.2.2.2.1 q0 q1 t0 t1 ha0 ha1 ht0 ht1 rfl (by decide) (by decide) h3 (by rw [z0, hN]; omega) (by rw [z0, hN]; omega) (fun i _ => rfl) hframes hlocals hdg (fun H1 locs1 hP hD hS => kk H1 locs1 ?_)
  have hlt : q1 < ws.length := (List.getElem?_eq_some_iff.mp ha1).1
  have hK1 : KS D A (ws.set q1 (a, .inl (c1, n, .inr (.inl (va_cpy f g (0 : Int32).toNatClampNeg (0 : Int32).toNatClampNeg N.toNatClampNeg))))) tys s H1 locs1 := ⟨h.1, hP, hD, hS, h.2.2.2.2⟩
  have hget : (ws.set q1 (a, .inl (c1, n, .inr (.inl (va_cpy f g (0 : Int32).toNatClampNeg (0 : Int32).toNatClampNeg N.toNatClampNeg)))))[q1]? = some (a, .inl (c1, n, .inr (.inl (va_cpy f g (0 : Int32).toNatClampNeg (0 : Int32).toNatClampNeg N.toNatClampNeg)))) := by
    rw [List.getElem?_set]
    simp only [hlt, if_true]
  refine k_congL (g := f) q1 hK1 hget (fun j hj => ?_) (by rw [List.set_set]; exact hs)
  rw [z0, hN, pk_cpy_in (by omega) (by omega)]
  congr 1
  omega
end KB2
theorem fb_bmod {z : Int} (h1 : -2147483648 ≤ z) (h2 : z < 2147483648) : z.bmod (2 ^ 32) = z := by
  rw [Int.bmod_eq_of_le (by omega) (by omega)]
theorem fb_rng (x : Int32) : -2147483648 ≤ x.toInt ∧ x.toInt < 2147483648 := by
  have h1 := Int32.le_toInt x
  have h2 := Int32.toInt_lt x
  omega
theorem fa_lt64 (a b : Int64) : a < b ↔ a.toInt < b.toInt := Int64.lt_iff_toInt_lt
theorem fa_le64 (a b : Int64) : a ≤ b ↔ a.toInt ≤ b.toInt := Int64.le_iff_toInt_le
theorem fa_eq64 (a b : Int64) : a = b ↔ a.toInt = b.toInt := Int64.toInt_inj.symm
/-- the three answers of lcmp -/
theorem klc (x y : Int64) : (lg_cmp x y = 1 ∧ y.toInt < x.toInt) ∨ (lg_cmp x y = 0 ∧ x.toInt = y.toInt) ∨ (lg_cmp x y = -1 ∧ x.toInt < y.toInt) := by
  unfold lg_cmp
  by_cases h : x > y
  · rw [if_pos h]
    exact Or.inl ⟨rfl, (fa_lt64 _ _).mp h⟩
  · rw [if_neg h]
    by_cases h2 : x = y
    · rw [if_pos h2]
      exact Or.inr (Or.inl ⟨rfl, by rw [h2]⟩)
    · rw [if_neg h2]
      have h3 : ¬ y.toInt < x.toInt := fun z => h ((fa_lt64 _ _).mpr z)
      have h4 : ¬ x.toInt = y.toInt := fun z => h2 ((fa_eq64 _ _).mpr z)
      exact Or.inr (Or.inr ⟨rfl, by omega⟩)
theorem klt_p {x y : Int64} (h : lg_cmp x y < 0) : x.toInt < y.toInt := by
  rcases klc x y with ⟨e, k⟩ | ⟨e, k⟩ | ⟨e, k⟩ <;> rw [e] at h <;> first | exact k | exact absurd h (by decide)
theorem klt_n {x y : Int64} (h : ¬ lg_cmp x y < 0) : ¬ x.toInt < y.toInt := by
  rcases klc x y with ⟨e, k⟩ | ⟨e, k⟩ | ⟨e, k⟩ <;> rw [e] at h <;> first | omega | exact absurd (by decide) h
theorem kge_p {x y : Int64} (h : 0 ≤ lg_cmp x y) : y.toInt ≤ x.toInt := by
  rcases klc x y with ⟨e, k⟩ | ⟨e, k⟩ | ⟨e, k⟩ <;> rw [e] at h <;> first | omega | exact absurd h (by decide)
theorem kge_n {x y : Int64} (h : ¬ 0 ≤ lg_cmp x y) : ¬ y.toInt ≤ x.toInt := by
  rcases klc x y with ⟨e, k⟩ | ⟨e, k⟩ | ⟨e, k⟩ <;> rw [e] at h <;> first | omega | exact absurd (by decide) h
theorem kgt_p {x y : Int64} (h : 0 < lg_cmp x y) : y.toInt < x.toInt := by
  rcases klc x y with ⟨e, k⟩ | ⟨e, k⟩ | ⟨e, k⟩ <;> rw [e] at h <;> first | omega | exact absurd h (by decide)
theorem kgt_n {x y : Int64} (h : ¬ 0 < lg_cmp x y) : ¬ y.toInt < x.toInt := by
  rcases klc x y with ⟨e, k⟩ | ⟨e, k⟩ | ⟨e, k⟩ <;> rw [e] at h <;> first | omega | exact absurd (by decide) h
theorem kle_p {x y : Int64} (h : lg_cmp x y ≤ 0) : x.toInt ≤ y.toInt := by
  rcases klc x y with ⟨e, k⟩ | ⟨e, k⟩ | ⟨e, k⟩ <;> rw [e] at h <;> first | omega | exact absurd h (by decide)
theorem kle_n {x y : Int64} (h : ¬ lg_cmp x y ≤ 0) : ¬ x.toInt ≤ y.toInt := by
  rcases klc x y with ⟨e, k⟩ | ⟨e, k⟩ | ⟨e, k⟩ <;> rw [e] at h <;> first | omega | exact absurd (by decide) h
theorem keq_p {x y : Int64} (h : lg_cmp x y = 0) : x.toInt = y.toInt := by
  rcases klc x y with ⟨e, k⟩ | ⟨e, k⟩ | ⟨e, k⟩ <;> rw [e] at h <;> first | omega | exact absurd h (by decide)
theorem keq_n {x y : Int64} (h : ¬ lg_cmp x y = 0) : ¬ x.toInt = y.toInt := by
  rcases klc x y with ⟨e, k⟩ | ⟨e, k⟩ | ⟨e, k⟩ <;> rw [e] at h <;> first | omega | exact absurd rfl h
theorem keq64_p {x y : Int64} (h : lg_cmp x y = 0) : x = y := (fa_eq64 _ _).mpr (keq_p h)
theorem keq64_n {x y : Int64} (h : ¬ lg_cmp x y = 0) : ¬ x = y := fun e => keq_n h (by rw [e])
/-- a number cut to w bits -/
def kcut (w : Int32) (v : Int64) : Int64 := v &&& ((1 <<< (w.toInt64 &&& 63)) - 1)
/-- what place x of the inside gets when v is put there -/
def kput (w : Nat → Int32) (x : Int32) (v : Int64) : Int64 := if x.toInt < 8 then kcut (w x.toNatClampNeg) v else v &&& 4294967295
theorem fb_bmodL {z : Int} (h1 : -9223372036854775808 ≤ z) (h2 : z < 9223372036854775808) : z.bmod (2 ^ 64) = z := by
  rw [Int.bmod_eq_of_le (by omega) (by omega)]
theorem kaddL (x y : Int32) : (x.toInt64 + y.toInt64).toInt = x.toInt + y.toInt := by
  have h1 := fb_rng x
  have h2 := fb_rng y
  rw [Int64.toInt_add, Int32.toInt_toInt64, Int32.toInt_toInt64, fb_bmodL (by omega) (by omega)]
theorem kcopyL {g f : Nat → Int64} {i : Nat} (h : ∀ j, j < i → g j = f j) : ∀ j, j < i + 1 → vp_updL g i (f i) j = f j := by
  intro j hj
  unfold vp_updL
  by_cases e : j = i
  · rw [if_pos e, e]
  · rw [if_neg e]
    exact h j (by omega)
