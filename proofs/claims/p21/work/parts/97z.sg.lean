def sgI (segs : List (Nat × Nat)) : List Nat := segs.flatMap (fun q => List.range' q.1 q.2)
def sgW {α : Type} (ws : List α) (segs : List (Nat × Nat)) : List α := segs.flatMap (fun q => (ws.drop q.1).take q.2)
theorem sg_one {α : Type} : ∀ (k s : Nat) (ws : List α), s + k ≤ ws.length → (List.range' s k).map (fun i => ws[i]?) = ((ws.drop s).take k).map some
  | 0, s, ws, _ => by simp
  | k + 1, s, ws, h => by
    have ih := sg_one k (s + 1) ws (by omega)
    rw [List.range'_succ, List.map_cons, ih, List.drop_eq_getElem_cons (by omega : s < ws.length), List.take_succ_cons, List.map_cons, List.getElem?_eq_getElem (by omega)]
theorem sg_ok {α : Type} {ws wc : List α} {n : Nat} : ∀ (segs : List (Nat × Nat)), ws.length = n → segs.all (fun q => decide (q.1 + q.2 ≤ n)) = true → sgW ws segs = wc → (sgI segs).map (fun i => ws[i]?) = wc.map some := by
  intro segs hl hb h
  subst h
  induction segs with
  | nil => rfl
  | cons q segs ih =>
    rw [List.all_cons, Bool.and_eq_true] at hb
    show ((List.range' q.1 q.2) ++ sgI segs).map _ = ((ws.drop q.1).take q.2 ++ sgW ws segs).map some
    rw [List.map_append, List.map_append, ih hb.2, sg_one q.2 q.1 ws (by rw [hl]; exact of_decide_eq_true hb.1)]
theorem sg_fm {α : Type} {is : List Nat} {ws ws' : List α} (h : is.map (fun i => ws[i]?) = ws'.map some) : is.filterMap (fun i => ws[i]?) = ws' := by
  have e : is.filterMap (fun i => ws[i]?) = (is.map (fun i => ws[i]?)).filterMap id := by
    rw [List.filterMap_map]
    rfl
  rw [e, h, List.filterMap_map]
  show ws'.filterMap some = ws'
  exact List.filterMap_some
theorem k_permS {D : va_G} {A : Nat → Prop} {ws : va_W} {tys : List (ClassId × FieldType)} {s : State} {H : Heap} {locs : List Loc} {ws' : va_W} (n : Nat) (segs : List (Nat × Nat)) (h : KS D A ws tys s H locs) (hn : va_nd (sgI segs) = true) (hl : ws.length = n) (hb : segs.all (fun q => decide (q.1 + q.2 ≤ n)) = true) (hW : sgW ws segs = ws') : KS D A ws' tys s H locs :=
  k_perm h (sgI segs) hn (sg_fm (sg_ok segs hl hb hW)) (sg_ok segs hl hb hW)
