/-! ===== a method is checked against what is agreed of it: from its entry and from each of its heads to heads or its end ===== -/
/-- a value: a kind (0 int, 1 long, 2 a reference, 3 null, 4 and 5 an int or a long that is there already), a number, a box -/
abbrev zL : Type := Nat × (Nat × (Int × Int))
/-- a head: place, locals, cells, what was spent, measure -/
abbrev zT : Type := Nat × (List (Nat × zL) × (List (Nat × zL) × (Nat × List (Nat × (Nat × Int)))))
/-- before a place: cells to read, cells to cut, locals to split -/
abbrev zH : Type := List Nat × (List (Nat × Int) × List Nat)
noncomputable def zFrC (B : zB) (l h : Int) (k : zB → sI → Bool) : Bool := bif sIEq l h then k B (0, l) else zFr B l h k
noncomputable def zV1 (s : zL) (B : zB) (k : zB → sV → Bool) : Bool := match s.1 with
  | 0 => zFrC B s.2.2.1 s.2.2.2 fun B1 x => k B1 (.inl x)
  | 1 => zFrC B s.2.2.1 s.2.2.2 fun B1 x => k B1 (.inr (.inl x))
  | 2 => k B (.inr (.inr (some s.2.1)))
  | 3 => k B (.inr (.inr none))
  | 4 => k B (.inl (s.2.1, s.2.2.1))
  | _ => k B (.inr (.inl (s.2.1, s.2.2.1)))
noncomputable def zTl (ls : List (Nat × zL)) : zB → List (Nat × sV) → (zB → List (Nat × sV) → Bool) → Bool :=
  List.rec (motive := fun _ => zB → List (Nat × sV) → (zB → List (Nat × sV) → Bool) → Bool) (fun B acc k => k B acc) (fun q _ ih B acc k => zV1 q.2 B fun B1 v => ih B1 ((q.1, v) :: acc) k) ls
noncomputable def zTc (ls : List (Nat × zL)) : zB → zO → (zB → zO → Bool) → Bool :=
  List.rec (motive := fun _ => zB → zO → (zB → zO → Bool) → Bool) (fun B acc k => k B acc) (fun q _ ih B acc k => Nat.blt q.1 2097152 && zV1 q.2 B fun B1 v => match v with
    | .inl x => ih B1 ((q.1, (.inl x, false)) :: acc) k
    | _ => false) ls
noncomputable def zAs (as : List zA) : zB → (zB → List sV → Bool) → Bool :=
  List.rec (motive := fun _ => zB → (zB → List sV → Bool) → Bool) (fun B k => k B []) (fun a _ ih B k => Nat.blt a.1 4 && zV1 a B fun B1 v => ih B1 fun B2 vs => k B2 (v :: vs)) as
noncomputable def zLok (B : zB) (s : zL) (v : sV) : Bool := match s.1, v with
  | 0, .inl x => zFits B x s.2.2.1 s.2.2.2
  | 1, .inr (.inl x) => zFits B x s.2.2.1 s.2.2.2
  | 2, .inr (.inr (some o)) => Nat.beq s.2.1 o
  | 3, .inr (.inr none) => true
  | 4, .inl x => sEqI x (s.2.1, s.2.2.1)
  | 5, .inr (.inl x) => sEqI x (s.2.1, s.2.2.1)
  | _, _ => false
noncomputable def zMsC (ms : List (Nat × (Nat × Int))) (L : List (Nat × sV)) : (List (Nat × sI) → Bool) → Bool :=
  List.rec (motive := fun _ => (List (Nat × sI) → Bool) → Bool) (fun k => k []) (fun m _ ih k => bif Nat.ble 1000 m.2.1 then sR32 m.2.2 m.2.2 && ih fun r => k ((m.1, (0, m.2.2)) :: r) else match sLk L m.2.1 with
    | some (.inl x) => ih fun r => k ((m.1, x) :: r)
    | _ => false) ms
noncomputable def zEs (B : zB) (x y : sI) : Bool := sEqI x y || zRg B x fun l1 h1 => zRg B y fun l2 h2 => sIEq l1 h1 && (sIEq l2 h2 && sIEq l1 l2)
noncomputable def zDec (B : zB) : List (Nat × sI) → List (Nat × sI) → Bool
  | a :: r, b :: s => Nat.beq a.1 b.1 && (((bif Nat.beq a.1 2 then zLs B a.2 b.2 else zLs B b.2 a.2) && Nat.beq r.length s.length) || (zEs B a.2 b.2 && zDec B r s))
  | _, _ => false
noncomputable def zTm (B : zB) (y : zCfg) (old : Option (List (Nat × sI))) (t : zT) : Bool :=
  Nat.beq t.1 y.1 && ((t.2.1.all fun q => match sLk y.2.1 q.1 with
    | some v => zLok B q.2 v
    | none => false) && ((t.2.2.1.all fun q => match zLk y.2.2.2.1 q.1 with
    | some v => zLok B q.2 v.1
    | none => false) && (Nat.ble y.2.2.2.2.1 t.2.2.2.1 && match old with
    | none => true
    | some o => zMsC t.2.2.2.2 y.2.1 fun n => zDec B o n)))
noncomputable def zPr1 (W : zW) (R : zR) (ks : List Nat) : zM → zB → (zB → zM → Bool) → Bool :=
  List.rec (motive := fun _ => zM → zB → (zB → zM → Bool) → Bool) (fun M B k => k B M) (fun key _ ih M B k => Nat.blt key 2097152 && zRead W R M B key fun B1 M1 _ => ih M1 B1 k) ks
noncomputable def zPr2 (ks : List (Nat × Int)) (M : zM) : zB → (zB → Bool) → Bool :=
  List.rec (motive := fun _ => zB → (zB → Bool) → Bool) (fun B k => k B) (fun q _ ih B k => match zLk M.1 q.1 with
    | some (.inl x, _) => zLt B x (0, q.2) fun B1 _ => ih B1 k
    | _ => false) ks
noncomputable def zPr3 (is : List Nat) (L : List (Nat × sV)) : zB → (zB → Bool) → Bool :=
  List.rec (motive := fun _ => zB → (zB → Bool) → Bool) (fun B k => k B) (fun i _ ih B k => match sLk L i with
    | some (.inl x) => zCst B x fun B1 _ => ih B1 k
    | _ => false) is
noncomputable def zPre (W : zW) (R : zR) (hd : zH) (L : List (Nat × sV)) (M : zM) (B : zB) (k : zB → zM → Bool) : Bool :=
  zPr1 W R hd.1 M B fun B1 M1 => zPr2 hd.2.1 M1 B1 fun B2 => zPr3 hd.2.2 L B2 fun B3 => k B3 M1
noncomputable def zRt (B : zB) (r : Option (Bool × (Int × Int))) (v : Option sV) : Bool := match r, v with
  | none, none => true
  | some (false, q), some (.inl x) => zFits B x q.1 q.2
  | some (true, q), some (.inr (.inl x)) => zFits B x q.1 q.2
  | _, _ => false
/-- a cell has grown by so much -/
noncomputable def zExk (ov0 ov : zO) (e : Nat × Int) : Bool := match zLk ov0 e.1, zLk ov e.1 with
  | some (.inl x, _), some (.inl y, _) => sEqI y (x.1, x.2 + e.2)
  | _, _ => false
/-- what is known to be one number -/
noncomputable def zVc (B : zB) (v : Option sV) : Option Int := match v with
  | some (.inl x) => bif Nat.beq x.1 0 then some x.2 else (match zBx B x.1 with
    | some q => bif sIEq q.1 q.2 then some (q.1 + x.2) else none
    | none => none)
  | _ => none
/-- a quick look at a template's first local -/
noncomputable def zQk (B : zB) (L : List (Nat × sV)) (t : zT) : Bool := match t.2.1 with
  | (j, (0, (_, (l, h)))) :: _ => (match zVc B (sLk L j) with
    | some c => sILe l c && sILe c h
    | none => true)
  | _ => true
theorem any_and_r {α : Type} {p q : α → Bool} {l : List α} (h : l.any (fun t => p t && q t) = true) : l.any q = true := by
  obtain ⟨t, ht, hq⟩ := List.any_eq_true.mp h
  exact List.any_eq_true.mpr ⟨t, ht, (Bool.and_eq_true _ _ ▸ hq).2⟩
/-- where to look first among templates whose first local goes down by one -/
noncomputable def zGs (B : zB) (L : List (Nat × sV)) (tms : List zT) : Nat := match tms with
  | (_, ((j, (0, (_, (l, _)))) :: _, _)) :: _ => (match zVc B (sLk L j) with
    | some c => Int.toNat (l - c)
    | none => 0)
  | _ => 0
noncomputable def zGsT (n : Nat) (tms : List zT) (q p : zT → Bool) : Bool := (match tms.drop n with
  | t :: _ => p t
  | [] => false) || tms.any (fun t => q t && p t)
theorem zGsT_inv {n : Nat} {tms : List zT} {q p : zT → Bool} (h : zGsT n tms q p = true) : ∃ t ∈ tms, p t = true := by
  rcases (Bool.or_eq_true _ _).mp h with h | h
  · cases e : tms.drop n with
    | nil => rw [e] at h; cases h
    | cons t r => rw [e] at h; exact ⟨t, List.mem_of_mem_drop (e ▸ List.mem_cons_self), h⟩
  · exact List.any_eq_true.mp (any_and_r h)
noncomputable def zEnd (W : zW) (R : zR) (ov0 : zO) (i : zS) (tms : List zT) (hd : Nat → zH) (old : Option (List (Nat × sI))) : zK := fun B r => match r with
  | .inr w => Nat.ble w.2.2.1 (zSk i) && (zFl W B w.2.1 && (zRt B (zSr i) w.1 && (zSe i).all (zExk ov0 w.2.1)))
  | .inl (pc, L, S, M) => match S with
    | [] => zPre W R (hd pc) L M B fun B1 M1 => zFl W B1 M1.1 && zGsT (zGs B1 L tms) tms (fun t => zQk B1 L t) (zTm B1 (pc, L, [], M1) old)
    | _ => false
/-- a template's own numbers are those of the arguments and cells -/
noncomputable def zLw (n : Nat) (s : zL) : Bool := Nat.blt s.1 4 || Nat.ble s.2.1 n
noncomputable def zTw (n : Nat) (t : zT) : Bool := (t.2.1.all fun q => zLw n q.2) && (t.2.2.1.all fun q => zLw n q.2)
noncomputable def zChk (T : Nat → List mE) (I : Nat → mI) (W : zW) (ns : Bool) (sX : Nat → Nat → sI) (mi fuel : Nat) (i : zS) (tms : List zT) (stop : Nat → Bool) (hd0 : zH) (hd : Nat → zH) : Bool :=
  zAs (zSa i) (0, ([], [])) fun B vs => zTc ((zSc i).map fun c => (c.1, (0, (0, c.2)))) B [] fun B1 ov =>
    (zPre W (zSq i, (zSk i, ns)) hd0 (sArgs 0 vs) (ov, (0, none)) B1 fun B2 M2 => zGo T I W (zSq i, (zSk i, ns)) false sX stop fuel (zSf i) (zSo i) mi (0, sArgs 0 vs, [], M2) B2 (zEnd W (zSq i, (zSk i, ns)) ov i tms hd none)) &&
    tms.all fun t => zTw B1.1 t && zTl t.2.1 B1 [] fun B2 L => zTc t.2.2.1 B2 [] fun B3 ov3 => zMsC t.2.2.2.2 L fun old =>
      zGo T I W (zSq i, (zSk i, ns)) false sX stop fuel (zSf i) (zSo i) mi (t.1, L, [], (ov3, (t.2.2.2.1, none))) B3 (zEnd W (zSq i, (zSk i, ns)) ov i tms hd (some old))
