-- classes whose objects the worlds hold (printed row, set early), and the bundled rows of the walk
abbrev vwCl : List vw_C := [(RX0, TX0, 10), (RX1, TX1, 12), (RX2, TX2, 5), (RX3, TX3, 7), (RX4, TX4, 9), (RX5, TX5, 7), (RX6, TX6, 10), (RX7, TX7, 16), (RX8, TX8, 44)]
/-- a state of the walk: tables, cells, apart, what changed since the method's start, new cells are ours -/
def KS (D : va_G) (A : Nat → Prop) (ws : va_W) (tys : List (ClassId × FieldType)) (s : State) (H : Heap) (locs : List Loc) : Prop := va_K D vwCl tys s ∧ va_P D vwCl ws H ∧ va_D A ws ∧ va_S A s.heap H locs ∧ ∀ q : Nat, s.heap.size ≤ q → A q
/-- a method's start: its cells, and whatever else (X) it wants of the state -/
def KPre (D : va_G) (wc : va_W) (tc : List (ClassId × FieldType)) (sz : Nat) (X : State → Prop) : State → Prop := fun U => U.heap.size = sz ∧ va_P D vwCl wc U.heap ∧ va_K D vwCl tc U ∧ va_D (fun _ => True) wc ∧ X U
/-- a method's end: its cells -/
def KPost {S : Type} (D : va_G) (A : Nat → Prop) (w1 : S → va_W) : S → State → Prop := fun u t => va_P D vwCl (w1 u) t.heap ∧ va_D A (w1 u)
/-- a constructor's end: its cells, and the array classes that it met -/
def KPostK {S : Type} (D : va_G) (A : Nat → Prop) (w1 : S → va_W) (t1 : S → List (ClassId × FieldType)) : S → State → Prop := fun u t => va_P D vwCl (w1 u) t.heap ∧ va_D A (w1 u) ∧ va_K D vwCl (t1 u) t
/-- what a precondition may say beside the cells: it doesn't see frames, and a warmer machine keeps it -/
def KX (X : State → Prop) : Prop := (∀ (a : Array Value) (U : State) (g : JFrame) (mk : MethodId), X U → X (U.calling g mk a))
theorem KX_true : KX (fun _ => True) := fun _ _ _ _ h => h
theorem KPre.blind {D : va_G} {wc : va_W} {tc : List (ClassId × FieldType)} {sz : Nat} {X : State → Prop} {av : List Value} (hX : KX X) : FrameBlind (va_Pc av (KPre D wc tc sz X)) := by
  intro a U g mk q
  obtain ⟨q0, q1, qP, qK, qD, qX⟩ := q
  exact ⟨q0, q1, qP, va_K.moved (u := U) (U := U.calling g mk a) (Vm.Alike.refl U.vm) qK, qD, hX a U g mk qX⟩
section KB
variable {p : Program} {l : Launch} {e : Env} {R : Room} {s : State} {m : MethodId} {args : Array Value} {below : List Frame} {meth : Method} {c : Code} {H : Heap} {locs : List Loc} {cells slots : Nat} {Q : State → Prop} {cc : ByteArray} {nL : Nat} {Ts : List Cond} {own : String} {A : Nat → Prop} {D : va_G} {ws : va_W} {tys : List (ClassId × FieldType)} {pc a : Nat} {ls : Array Slot} {rest : List Value}
theorem kPreS {wc : va_W} {tc : List (ClassId × FieldType)} {av : List Value} {X : State → Prop} (h : KS D A ws tys s H locs) (hXb : KX X) (hX : ∀ U : State, U.heap = H → s.WarmedH U.vm → X U) (isC isK : List Nat) (hn : va_nd isC = true) (hC : isC.map (fun i => ws[i]?) = wc.map some) (hT : isK.filterMap (fun i => tys[i]?) = tc) : PreS s H (va_Pc av (KPre D wc tc H.size X)) av := by
  refine ⟨KPre.blind hXb, fun U hU hW => ?_⟩
  have hPc : va_P D vwCl wc H := h.2.1.sub isC (by
    have h1 : isC.filterMap (fun i => ws[i]?) = (isC.map (fun i => ws[i]?)).filterMap id := by rw [List.filterMap_map]; rfl
    rw [h1, hC]
    simp [List.filterMap_map])
  have hDc : va_D A wc := h.2.2.1.sub isC hn hC
  exact ⟨rfl, by rw [hU], by rw [hU]; exact hPc, va_K.moved hW.alike (h.1.sub isK hT), hDc.weaken (fun _ _ _ _ => trivial), hX U hU hW⟩
theorem kPreV {wc : va_W} {tc : List (ClassId × FieldType)} {As : List Value} {X : State → Prop} {b q0 ci : Nat} {q : vw_C} {fs : List Value} (h : KS D A ws tys s H locs) (hXb : KX X) (hX : ∀ U : State, U.heap = H → s.WarmedH U.vm → X U) (isC isK : List Nat) (hn : va_nd isC = true) (hC : isC.map (fun i => ws[i]?) = wc.map some) (hT : isK.filterMap (fun i => tys[i]?) = tc) (hc : vwCl[ci]? = some q) (he : ws[q0]? = some (b, .inr (ci, fs))) : PreV s H q.1 b (va_Pc (.ref b :: As) (KPre D wc tc H.size X)) As :=
  ⟨KPre.blind hXb, va_recv h.1 h.2.1 hc he, (kPreS h hXb hX isC isK hn hC hT).2⟩
theorem k_get (E : CallFix p m c cc nL s args Ts own) (h : KS D A ws tys s H locs) {C : String} {T : u_T} {N ci index : Nat} (hin : ∀ w ∈ u_ws C T N, w ∈ Ts) (q0 : Nat) {fs : List Value} (he : ws[q0]? = some (a, .inr (ci, fs))) (hc : vwCl[ci]? = some (C, T, N)) (k : Nat) (hk : k < N) (hw : Cond.fieldLink own index (T k).1 (T k).2.1 (T k).2.2.1 ∈ Ts) {v : Value} (hv : fs[k]? = some v) (hdg : decode cc pc = .ok (.getfield index, 3))
    (kk : W p l e R s m args below meth c H locs cells slots Q (F0 m (pc + 3) ls (v :: rest))) : W p l e R s m args below meth c H locs cells slots Q (F0 m pc ls (.ref a :: rest)) :=
  va_get E.1 E.2.1 E.2.2.2.2 hin E.2.2.2.1 h.1 h.2.1 q0 he hc k hk (E.2.2.2.2 _ hw) (fun _ h9 => h9) hv hdg kk
theorem k_put (E : CallFix p m c cc nL s args Ts own) (h : KS D A ws tys s H locs) {C : String} {T : u_T} {N ci index : Nat} (hin : ∀ w ∈ u_ws C T N, w ∈ Ts) {ty0 : Nat → FieldType} (hty : ∀ k, k < N → parseFieldDescriptor (T k).2.2.1 = some (ty0 k)) (hnm : ∀ a, a < N → ∀ b, b < N → a ≠ b → (T a).2.1 ≠ (T b).2.1) (q0 : Nat) {fs : List Value} (he : ws[q0]? = some (a, .inr (ci, fs))) (hc : vwCl[ci]? = some (C, T, N)) (k : Nat) (hk : k < N) (hw : Cond.fieldLink own index (T k).1 (T k).2.1 (T k).2.2.1 ∈ Ts) (hfin : (T k).2.2.2 = false) {ty : FieldType} {v : Value} (hd : parseFieldDescriptor (T k).2.2.1 = some ty) (hn : narrow ty v = v) (hfit : fits ty v = true) (hl : k < fs.length) {ws' : va_W} (hs : ws.set q0 (a, .inr (ci, fs.set k v)) = ws')
    (hdg : decode cc pc = .ok (.putfield index, 3)) (kk : ∀ (H1 : Heap) (locs1 : List Loc), KS D A ws' tys s H1 locs1 → W p l e R s m args below meth c H1 locs1 cells slots Q (F0 m (pc + 3) ls rest)) : W p l e R s m args below meth c H locs cells slots Q (F0 m pc ls (v :: .ref a :: rest)) := by
  subst hs
  exact va_put E.1 E.2.1 E.2.2.2.2 hin ty0 hty hnm E.2.2.2.1 h.1 h.2.1 h.2.2.1 h.2.2.2.1 q0 he hc k hk (E.2.2.2.2 _ hw) (fun _ h9 => h9) hfin hd hn hfit hl hdg (fun H1 locs1 hP hD hS => kk H1 locs1 ⟨h.1, hP, hD, hS, h.2.2.2.2⟩)
theorem k_putF (E : CallFix p m c cc nL s args Ts own) (h : KS D A ws tys s H locs) {C : String} {T : u_T} {N ci index : Nat} (hin : ∀ w ∈ u_ws C T N, w ∈ Ts) {ty0 : Nat → FieldType} (hty : ∀ k, k < N → parseFieldDescriptor (T k).2.2.1 = some (ty0 k)) (hnm : ∀ a, a < N → ∀ b, b < N → a ≠ b → (T a).2.1 ≠ (T b).2.1) (q0 : Nat) {fs : List Value} (he : ws[q0]? = some (a, .inr (ci, fs))) (hc : vwCl[ci]? = some (C, T, N)) (k : Nat) (hk : k < N) (hw : Cond.fieldLink own index (T k).1 (T k).2.1 (T k).2.2.1 ∈ Ts) (hfin : (T k).2.2.2 = true) (hin2 : meth.name = "<init>") (hdecl : (T k).1 = own) {ty : FieldType} {v : Value} (hd : parseFieldDescriptor (T k).2.2.1 = some ty) (hn : narrow ty v = v) (hfit : fits ty v = true) (hl : k < fs.length) {ws' : va_W} (hs : ws.set q0 (a, .inr (ci, fs.set k v)) = ws')
    (hdg : decode cc pc = .ok (.putfield index, 3)) (kk : ∀ (H1 : Heap) (locs1 : List Loc), KS D A ws' tys s H1 locs1 → W p l e R s m args below meth c H1 locs1 cells slots Q (F0 m (pc + 3) ls rest)) : W p l e R s m args below meth c H locs cells slots Q (F0 m pc ls (v :: .ref a :: rest)) := by
  subst hs
  exact va_putF E.1 E.2.1 E.2.2.2.2 hin ty0 hty hnm E.2.2.2.1 h.1 h.2.1 h.2.2.1 h.2.2.2.1 q0 he hc k hk (E.2.2.2.2 _ hw) (fun _ h9 => h9) hfin hin2 hdecl hd hn hfit hl hdg (fun H1 locs1 hP hD hS => kk H1 locs1 ⟨h.1, hP, hD, hS, h.2.2.2.2⟩)
theorem k_iald (E : CallFix p m c cc nL s args Ts own) (h : KS D A ws tys s H locs) (q0 t0 : Nat) {cA : ClassId} {n : Nat} {f : Nat → Int32} (ha : ws[q0]? = some (a, .inl (cA, n, .inl f))) (ht : tys[t0]? = some (cA, .int)) {i : Int32} (hin : vp_in i n) {v : Int32} (hv : f i.toNatClampNeg = v) (hdg : decode cc pc = .ok (.iaload, 1))
    (kk : W p l e R s m args below meth c H locs cells slots Q (F0 m (pc + 1) ls (.int v :: rest))) : W p l e R s m args below meth c H locs cells slots Q (F0 m pc ls (.int i :: .ref a :: rest)) := by
  subst hv
  exact va_iald E.1 E.2.1 h.1 h.2.1 q0 t0 ha ht hin hdg kk
theorem k_zald (E : CallFix p m c cc nL s args Ts own) (h : KS D A ws tys s H locs) (q0 t0 : Nat) {cA : ClassId} {n : Nat} {f : Nat → Int32} (ha : ws[q0]? = some (a, .inl (cA, n, .inl f))) (ht : tys[t0]? = some (cA, .boolean)) {i : Int32} (hin : vp_in i n) {v : Int32} (hv : f i.toNatClampNeg = v) (hdg : decode cc pc = .ok (.baload, 1))
    (kk : W p l e R s m args below meth c H locs cells slots Q (F0 m (pc + 1) ls (.int v :: rest))) : W p l e R s m args below meth c H locs cells slots Q (F0 m pc ls (.int i :: .ref a :: rest)) := by
  subst hv
  exact va_zald E.1 E.2.1 h.1 h.2.1 q0 t0 ha ht hin hdg kk
theorem k_bald (E : CallFix p m c cc nL s args Ts own) (h : KS D A ws tys s H locs) (q0 t0 : Nat) {cA : ClassId} {n : Nat} {f : Nat → Int32} (ha : ws[q0]? = some (a, .inl (cA, n, .inl f))) (ht : tys[t0]? = some (cA, .byte)) {i : Int32} (hin : vp_in i n) {v : Int32} (hv : f i.toNatClampNeg = v) (hdg : decode cc pc = .ok (.baload, 1))
    (kk : W p l e R s m args below meth c H locs cells slots Q (F0 m (pc + 1) ls (.int v :: rest))) : W p l e R s m args below meth c H locs cells slots Q (F0 m pc ls (.int i :: .ref a :: rest)) := by
  subst hv
  exact va_bald E.1 E.2.1 h.1 h.2.1 q0 t0 ha ht hin hdg kk
theorem k_sald (E : CallFix p m c cc nL s args Ts own) (h : KS D A ws tys s H locs) (q0 t0 : Nat) {cA : ClassId} {n : Nat} {f : Nat → Int32} (ha : ws[q0]? = some (a, .inl (cA, n, .inl f))) (ht : tys[t0]? = some (cA, .short)) {i : Int32} (hin : vp_in i n) {v : Int32} (hv : f i.toNatClampNeg = v) (hdg : decode cc pc = .ok (.saload, 1))
    (kk : W p l e R s m args below meth c H locs cells slots Q (F0 m (pc + 1) ls (.int v :: rest))) : W p l e R s m args below meth c H locs cells slots Q (F0 m pc ls (.int i :: .ref a :: rest)) := by
  subst hv
  exact va_sald E.1 E.2.1 h.1 h.2.1 q0 t0 ha ht hin hdg kk
theorem k_lald (E : CallFix p m c cc nL s args Ts own) (h : KS D A ws tys s H locs) (q0 t0 : Nat) {cA : ClassId} {n : Nat} {f : Nat → Int64} (ha : ws[q0]? = some (a, .inl (cA, n, .inr (.inl f)))) (ht : tys[t0]? = some (cA, .long)) {i : Int32} (hin : vp_in i n) {v : Int64} (hv : f i.toNatClampNeg = v) (hdg : decode cc pc = .ok (.laload, 1))
    (kk : W p l e R s m args below meth c H locs cells slots Q (F0 m (pc + 1) ls (.long v :: rest))) : W p l e R s m args below meth c H locs cells slots Q (F0 m pc ls (.int i :: .ref a :: rest)) := by
  subst hv
  exact va_lald E.1 E.2.1 h.1 h.2.1 q0 t0 ha ht hin hdg kk
theorem k_iast (E : CallFix p m c cc nL s args Ts own) (h : KS D A ws tys s H locs) (q0 t0 : Nat) {cA : ClassId} {n : Nat} {f : Nat → Int32} (ha : ws[q0]? = some (a, .inl (cA, n, .inl f))) (ht : tys[t0]? = some (cA, .int)) {i x : Int32} (hin : vp_in i n) {j : Nat} (hj : i.toNatClampNeg = j) {ws' : va_W} (hs : ws.set q0 (a, .inl (cA, n, .inl (upd f j x))) = ws') (hdg : decode cc pc = .ok (.iastore, 1))
    (kk : ∀ (H1 : Heap) (locs1 : List Loc), KS D A ws' tys s H1 locs1 → W p l e R s m args below meth c H1 locs1 cells slots Q (F0 m (pc + 1) ls rest)) : W p l e R s m args below meth c H locs cells slots Q (F0 m pc ls (.int x :: .int i :: .ref a :: rest)) := by
  subst hj
  subst hs
  exact va_iast E.1 E.2.1 h.1 h.2.1 h.2.2.1 h.2.2.2.1 q0 t0 ha ht hin hdg (fun H1 locs1 hP hD hS => kk H1 locs1 ⟨h.1, hP, hD, hS, h.2.2.2.2⟩)
theorem k_zast (E : CallFix p m c cc nL s args Ts own) (h : KS D A ws tys s H locs) (q0 t0 : Nat) {cA : ClassId} {n : Nat} {f : Nat → Int32} (ha : ws[q0]? = some (a, .inl (cA, n, .inl f))) (ht : tys[t0]? = some (cA, .boolean)) {i x : Int32} (hin : vp_in i n) {j : Nat} (hj : i.toNatClampNeg = j) {y : Int32} (hy : vp_nar .boolean x = y) {ws' : va_W} (hs : ws.set q0 (a, .inl (cA, n, .inl (upd f j y))) = ws') (hdg : decode cc pc = .ok (.bastore, 1))
    (kk : ∀ (H1 : Heap) (locs1 : List Loc), KS D A ws' tys s H1 locs1 → W p l e R s m args below meth c H1 locs1 cells slots Q (F0 m (pc + 1) ls rest)) : W p l e R s m args below meth c H locs cells slots Q (F0 m pc ls (.int x :: .int i :: .ref a :: rest)) := by
  subst hj
  subst hy
  subst hs
  exact va_zast E.1 E.2.1 h.1 h.2.1 h.2.2.1 h.2.2.2.1 q0 t0 ha ht hin hdg (fun H1 locs1 hP hD hS => kk H1 locs1 ⟨h.1, hP, hD, hS, h.2.2.2.2⟩)
theorem k_bast (E : CallFix p m c cc nL s args Ts own) (h : KS D A ws tys s H locs) (q0 t0 : Nat) {cA : ClassId} {n : Nat} {f : Nat → Int32} (ha : ws[q0]? = some (a, .inl (cA, n, .inl f))) (ht : tys[t0]? = some (cA, .byte)) {i x : Int32} (hin : vp_in i n) {j : Nat} (hj : i.toNatClampNeg = j) {y : Int32} (hy : vp_nar .byte x = y) {ws' : va_W} (hs : ws.set q0 (a, .inl (cA, n, .inl (upd f j y))) = ws') (hdg : decode cc pc = .ok (.bastore, 1))
    (kk : ∀ (H1 : Heap) (locs1 : List Loc), KS D A ws' tys s H1 locs1 → W p l e R s m args below meth c H1 locs1 cells slots Q (F0 m (pc + 1) ls rest)) : W p l e R s m args below meth c H locs cells slots Q (F0 m pc ls (.int x :: .int i :: .ref a :: rest)) := by
  subst hj
  subst hy
  subst hs
  exact va_bast E.1 E.2.1 h.1 h.2.1 h.2.2.1 h.2.2.2.1 q0 t0 ha ht hin hdg (fun H1 locs1 hP hD hS => kk H1 locs1 ⟨h.1, hP, hD, hS, h.2.2.2.2⟩)
theorem k_sast (E : CallFix p m c cc nL s args Ts own) (h : KS D A ws tys s H locs) (q0 t0 : Nat) {cA : ClassId} {n : Nat} {f : Nat → Int32} (ha : ws[q0]? = some (a, .inl (cA, n, .inl f))) (ht : tys[t0]? = some (cA, .short)) {i x : Int32} (hin : vp_in i n) {j : Nat} (hj : i.toNatClampNeg = j) {y : Int32} (hy : vp_nar .short x = y) {ws' : va_W} (hs : ws.set q0 (a, .inl (cA, n, .inl (upd f j y))) = ws') (hdg : decode cc pc = .ok (.sastore, 1))
    (kk : ∀ (H1 : Heap) (locs1 : List Loc), KS D A ws' tys s H1 locs1 → W p l e R s m args below meth c H1 locs1 cells slots Q (F0 m (pc + 1) ls rest)) : W p l e R s m args below meth c H locs cells slots Q (F0 m pc ls (.int x :: .int i :: .ref a :: rest)) := by
  subst hj
  subst hy
  subst hs
  exact va_sast E.1 E.2.1 h.1 h.2.1 h.2.2.1 h.2.2.2.1 q0 t0 ha ht hin hdg (fun H1 locs1 hP hD hS => kk H1 locs1 ⟨h.1, hP, hD, hS, h.2.2.2.2⟩)
theorem k_last (E : CallFix p m c cc nL s args Ts own) (h : KS D A ws tys s H locs) (q0 t0 : Nat) {cA : ClassId} {n : Nat} {f : Nat → Int64} (ha : ws[q0]? = some (a, .inl (cA, n, .inr (.inl f)))) (ht : tys[t0]? = some (cA, .long)) {i : Int32} {x : Int64} (hin : vp_in i n) {j : Nat} (hj : i.toNatClampNeg = j) {ws' : va_W} (hs : ws.set q0 (a, .inl (cA, n, .inr (.inl (vp_updL f j x)))) = ws') (hdg : decode cc pc = .ok (.lastore, 1))
    (kk : ∀ (H1 : Heap) (locs1 : List Loc), KS D A ws' tys s H1 locs1 → W p l e R s m args below meth c H1 locs1 cells slots Q (F0 m (pc + 1) ls rest)) : W p l e R s m args below meth c H locs cells slots Q (F0 m pc ls (.long x :: .int i :: .ref a :: rest)) := by
  subst hj
  subst hs
  exact va_last E.1 E.2.1 h.1 h.2.1 h.2.2.1 h.2.2.2.1 q0 t0 ha ht hin hdg (fun H1 locs1 hP hD hS => kk H1 locs1 ⟨h.1, hP, hD, hS, h.2.2.2.2⟩)
theorem k_alen (E : CallFix p m c cc nL s args Ts own) (h : KS D A ws tys s H locs) (q0 t0 : Nat) {cA : ClassId} {x : vp_A} (ha : ws[q0]? = some (a, .inl (cA, x))) {ty : FieldType} (ht : tys[t0]? = some (cA, ty)) {v : Int32} (hv : Int32.ofNat x.1 = v) (hdg : decode cc pc = .ok (.arraylength, 1))
    (kk : W p l e R s m args below meth c H locs cells slots Q (F0 m (pc + 1) ls (.int v :: rest))) : W p l e R s m args below meth c H locs cells slots Q (F0 m pc ls (.ref a :: rest)) :=
  va_alen E.1 E.2.1 h.1 h.2.1 q0 t0 ha ht hv hdg kk
theorem k_new (E : CallFix p m c cc nL s args Ts own) (h : KS D A ws tys s H locs) {C : String} {T : u_T} {N ci index : Nat} (hin : ∀ w ∈ u_ws C T N, w ∈ Ts) {ty : Nat → FieldType} (hty : ∀ k, k < N → parseFieldDescriptor (T k).2.2.1 = some (ty k)) (hcl : Cond.classLink own index C ∈ Ts) (hinst : Cond.instantiable C N ∈ Ts) (hini : Cond.initialized C ∈ Ts) (hc : vwCl[ci]? = some (C, T, N)) {fs : List Value} (hfs : ∀ j, j < N → defaultValue (ty j) = vp_V fs j) (hcells : cells + 1 ≤ R.cells) (hslots : slots + N ≤ R.slots) (hdg : decode cc pc = .ok (.new index, 3)) {k n : Nat} (hk : cells + 1 ≤ k) (hn : slots + N ≤ n)
    (kk : ∀ (q : Nat) (H1 : Heap), KS D A (ws ++ [(q, .inr (ci, fs))]) tys s H1 locs → W p l e R s m args below meth c H1 locs k n Q (F0 m (pc + 3) ls (.ref q :: rest))) : W p l e R s m args below meth c H locs cells slots Q (F0 m pc ls rest) :=
  va_new E.1 E.2.1 E.2.2.2.2 hin ty hty E.2.2.2.1 (E.2.2.2.2 _ hcl) (E.2.2.2.2 _ hinst) (E.2.2.2.2 _ hini) h.1 h.2.1 h.2.2.1 h.2.2.2.1 h.2.2.2.2 hc hfs hcells hslots hdg (fun q H1 hP hD hS => W.widen hk hn (kk q H1 ⟨h.1, hP, hD, hS, h.2.2.2.2⟩))
theorem k_newa (E : CallFix p m c cc nL s args Ts own) (h : KS D A ws tys s H locs) {atype : ArrayType} {ty : FieldType} (harr : Cond.arrayClass ty ∈ Ts) (hty : newarray.typeOf atype = ty) {n : Int32} {N' : Nat} {a0 : vp_A} (ha : ∀ cA : ClassId, vp_cell cA a0 = arrV cA N' (fun _ => defaultValue ty)) (hn : ¬ n < 0) (hN : n.toNatClampNeg = N') (hbytes : N' * componentBytes ty ≤ 536870912) (hcells : cells + 1 ≤ R.cells) (hslots : slots + N' ≤ R.slots) (hdg : decode cc pc = .ok (.newarray atype, 2)) {k z : Nat} (hk : cells + 1 ≤ k) (hz : slots + N' ≤ z)
    (kk : ∀ (q : Nat) (cA : ClassId) (H1 : Heap), KS D A (ws ++ [(q, .inl (cA, a0))]) (tys ++ [(cA, ty)]) s H1 locs → W p l e R s m args below meth c H1 locs k z Q (F0 m (pc + 2) ls (.ref q :: rest))) : W p l e R s m args below meth c H locs cells slots Q (F0 m pc ls (.int n :: rest)) := by
  subst hty
  exact va_newa E.1 E.2.1 (E.2.2.2.2 _ harr) rfl h.1 h.2.1 h.2.2.1 h.2.2.2.1 h.2.2.2.2 ha hn hN hbytes hcells hslots hdg (fun q cA H1 hK hP hD hS => W.widen hk hz (kk q cA H1 ⟨hK, hP, hD, hS, h.2.2.2.2⟩))
/-- a call whose callee makes no array: an int comes back, its cells are put back beside the rest -/
theorem kc_i {S : Type} {post : Int32 → S → Prop} {w1 : S → va_W} {wc wr : va_W} {mc ms : Nat} {st0 : List Value} {av : Array Value} (h : KS D A ws tys s H locs)
    (hr : va_Run p l e R s m args below meth c H locs cells slots mc ms (F0 m pc ls st0) rest (va_Qi post (KPost D (va_A wc H.size) w1) (va_A wc H.size) av) (va_A wc H.size))
    (isC isR : List Nat) (hC : isC.map (fun i => ws[i]?) = wc.map some) (hR : isR.map (fun i => ws[i]?) = wr.map some) (hn : va_nd isR = true) (hdis : ∀ i ∈ isR, i ∉ isC)
    (kk : ∀ (r : Int32) (u : S) (H1 : Heap) (locs1 : List Loc), post r u → KS D A (wr ++ w1 u) tys s H1 locs1 → W p l e R s m args below meth c H1 locs1 (cells + mc) (slots + ms) Q (F0 m (pc + 3) ls (.int r :: rest))) : W p l e R s m args below meth c H locs cells slots Q (F0 m pc ls st0) := by
  have hFc := va_free (wc := wc) h.2.2.1 h.2.2.2.1 h.2.2.2.2 isC hC
  refine va_calli hr h.2.2.2.1 (fun q _ hq => hFc q hq) hFc (fun r u t H1 locs1 ht hvm hw hB hz1 hk1 hS => ?_)
  obtain ⟨hP1, hD1⟩ := hB
  rw [ht] at hP1
  obtain ⟨hP, hD⟩ := va_join h.2.1 h.2.2.1 isC isR hC hR hn hdis hk1 hFc hP1 hD1
  exact kk r u H1 locs1 hw ⟨h.1, hP, hD, hS, h.2.2.2.2⟩
theorem kc_l {S : Type} {post : Int64 → S → Prop} {w1 : S → va_W} {wc wr : va_W} {mc ms : Nat} {st0 : List Value} {av : Array Value} (h : KS D A ws tys s H locs)
    (hr : va_Run p l e R s m args below meth c H locs cells slots mc ms (F0 m pc ls st0) rest (va_Ql post (KPost D (va_A wc H.size) w1) (va_A wc H.size) av) (va_A wc H.size))
    (isC isR : List Nat) (hC : isC.map (fun i => ws[i]?) = wc.map some) (hR : isR.map (fun i => ws[i]?) = wr.map some) (hn : va_nd isR = true) (hdis : ∀ i ∈ isR, i ∉ isC)
    (kk : ∀ (r : Int64) (u : S) (H1 : Heap) (locs1 : List Loc), post r u → KS D A (wr ++ w1 u) tys s H1 locs1 → W p l e R s m args below meth c H1 locs1 (cells + mc) (slots + ms) Q (F0 m (pc + 3) ls (.long r :: rest))) : W p l e R s m args below meth c H locs cells slots Q (F0 m pc ls st0) := by
  have hFc := va_free (wc := wc) h.2.2.1 h.2.2.2.1 h.2.2.2.2 isC hC
  refine va_calll hr h.2.2.2.1 (fun q _ hq => hFc q hq) hFc (fun r u t H1 locs1 ht hvm hw hB hz1 hk1 hS => ?_)
  obtain ⟨hP1, hD1⟩ := hB
  rw [ht] at hP1
  obtain ⟨hP, hD⟩ := va_join h.2.1 h.2.2.1 isC isR hC hR hn hdis hk1 hFc hP1 hD1
  exact kk r u H1 locs1 hw ⟨h.1, hP, hD, hS, h.2.2.2.2⟩
theorem kc_v {S : Type} {post : S → Prop} {w1 : S → va_W} {wc wr : va_W} {mc ms : Nat} {st0 : List Value} {av : Array Value} (h : KS D A ws tys s H locs)
    (hr : va_Run p l e R s m args below meth c H locs cells slots mc ms (F0 m pc ls st0) rest (va_Qv post (KPost D (va_A wc H.size) w1) (va_A wc H.size) av) (va_A wc H.size))
    (isC isR : List Nat) (hC : isC.map (fun i => ws[i]?) = wc.map some) (hR : isR.map (fun i => ws[i]?) = wr.map some) (hn : va_nd isR = true) (hdis : ∀ i ∈ isR, i ∉ isC)
    (kk : ∀ (u : S) (H1 : Heap) (locs1 : List Loc), post u → KS D A (wr ++ w1 u) tys s H1 locs1 → W p l e R s m args below meth c H1 locs1 (cells + mc) (slots + ms) Q (F0 m (pc + 3) ls rest)) : W p l e R s m args below meth c H locs cells slots Q (F0 m pc ls st0) := by
  have hFc := va_free (wc := wc) h.2.2.1 h.2.2.2.1 h.2.2.2.2 isC hC
  refine va_callv hr h.2.2.2.1 (fun q _ hq => hFc q hq) hFc (fun u t H1 locs1 ht hvm hw hB hz1 hk1 hS => ?_)
  obtain ⟨hP1, hD1⟩ := hB
  rw [ht] at hP1
  obtain ⟨hP, hD⟩ := va_join h.2.1 h.2.2.1 isC isR hC hR hn hdis hk1 hFc hP1 hD1
  exact kk u H1 locs1 hw ⟨h.1, hP, hD, hS, h.2.2.2.2⟩
/-- a constructor's call: its cells and its array classes come -/
theorem kc_vK {S : Type} {post : S → Prop} {w1 : S → va_W} {t1 : S → List (ClassId × FieldType)} {wc wr : va_W} {mc ms : Nat} {st0 : List Value} {av : Array Value} (h : KS D A ws tys s H locs)
    (hr : va_Run p l e R s m args below meth c H locs cells slots mc ms (F0 m pc ls st0) rest (va_Qv post (KPostK D (va_A wc H.size) w1 t1) (va_A wc H.size) av) (va_A wc H.size))
    (isC isR : List Nat) (hC : isC.map (fun i => ws[i]?) = wc.map some) (hR : isR.map (fun i => ws[i]?) = wr.map some) (hn : va_nd isR = true) (hdis : ∀ i ∈ isR, i ∉ isC) {k n : Nat} (hk : cells + mc ≤ k) (hn2 : slots + ms ≤ n)
    (kk : ∀ (u : S) (H1 : Heap) (locs1 : List Loc), post u → KS D A (wr ++ w1 u) (tys ++ t1 u) s H1 locs1 → W p l e R s m args below meth c H1 locs1 k n Q (F0 m (pc + 3) ls rest)) : W p l e R s m args below meth c H locs cells slots Q (F0 m pc ls st0) := by
  have hFc := va_free (wc := wc) h.2.2.1 h.2.2.2.1 h.2.2.2.2 isC hC
  refine va_callv hr h.2.2.2.1 (fun q _ hq => hFc q hq) hFc (fun u t H1 locs1 ht hvm hw hB hz1 hk1 hS => ?_)
  obtain ⟨hP1, hD1, hK1⟩ := hB
  rw [ht] at hP1
  obtain ⟨hP, hD⟩ := va_join h.2.1 h.2.2.1 isC isR hC hR hn hdis hk1 hFc hP1 hD1
  exact W.widen hk hn2 (kk u H1 locs1 hw ⟨h.1.app (va_K.moved hvm.symm hK1), hP, hD, hS, h.2.2.2.2⟩)
end KB
/-- a contract out of a walk -/
theorem kMet {l : Launch} {y : MethodName} {wsM ws' : List Cond} {rm : Room} {cc : ByteArray} {maxL : Nat} {ret : Option FieldType} {av : List Value} {D : va_G} {wc : va_W} {tc : List (ClassId × FieldType)} {sz : Nat} {X : State → Prop} {mc ms : Nat} {Qc : (Nat → Prop) → Array Value → State → Outcome → State → Prop}
    (hy : plainName y.cls = true) (hw : wsM = Cond.code y cc maxL ret :: ws') (hlen : (lg_sl av).length ≤ maxL)
    (body : ∀ (p : Program) (e : Env) (s : State) (m : MethodId) (below : List Frame) (meth : Method) (c : Code) (A : Nat → Prop) (ls : Array Slot), CallFix p m c cc maxL s av.toArray wsM y.cls → meth.sig.returnType = ret → meth.locks = false → meth.name = y.name → s.heap.size = sz → va_A wc sz = A → X s → KS D A wc tc s s.heap [] → lv_has ls maxL (lv_args 0 av) → W p l e rm s m av.toArray below meth c s.heap [] 0 0 (MQ below (Qc A) av.toArray s mc ms A) (F0 m 0 ls [])) :
    Met l y wsM rm (va_Pc av (KPre D wc tc sz X)) (Qc (va_A wc sz)) mc ms (va_A wc sz) := by
  refine Met.ofW (cc := cc) (maxL := maxL) (ret := ret) hy hw ?_
  intro p e s m args below meth c s₁ B hml hv
  obtain ⟨rfl, hsz, hP, hK, hD0, hX⟩ := hv
  have hts := atoms_spec (ws := wsM) B.pre
  have hown : s.vm.findClass y.cls = some m.cls := findClass_of_methodNamed B.named
  rw [lg_entry_eq]
  refine body p e s m below meth c _ _ ⟨B.exec, B.bytes, hml, hown, hts⟩ B.returns B.notSynchronized (name_of_methodNamed B.named B.method).1 hsz rfl hX ⟨hK, hP, hD0.self, va_S.rf, fun q h => Or.inr (by rw [hsz] at h; exact h)⟩ (lv_entry av hlen)
