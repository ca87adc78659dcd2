/-! ===== the box machine: an int or a long is a variable and a constant added; boxes bound the variables, facts compare two of them; of memory it knows a box a cell, and the cells that were read or written since the last cut ===== -/
/-- how many variables, their boxes (the latest first), facts -/
abbrev zB : Type := Nat × (List (Int × Int) × List (sI × sI))
/-- cells by their keys (object times 2048 and slot), what they hold, whether it was written -/
abbrev zO : Type := List (Nat × (sV × Bool))
/-- cells, what was spent, an answer kept with its method, frames and locals -/
abbrev zM : Type := zO × (Nat × Option (sI × (Nat × (Nat × Nat))))
abbrev zCfg : Type := Nat × (List (Nat × sV) × (List sV × zM))
abbrev zRes : Type := zCfg ⊕ (Option sV × zM)
/-- is the first cell in the first box, then the second one is in the second box; where the first box is empty: the second cell and the fifth number are less than the first cell and the sixth -/
abbrev zC : Type := Nat × (Int × (Int × (Nat × (Int × Int))))
/-- a kind (0 int, 1 long, 2 a reference, 3 null), an object, a box -/
abbrev zA : Type := Nat × (Nat × (Int × Int))
/-- arguments, cells, the answer's box (long?), cost, frames, locals, the kind of cells that are kept, is the answer kept, cells by how much they grow -/
abbrev zS : Type := List zA × (List (Nat × (Int × Int)) × (Option (Bool × (Int × Int)) × (Nat × (Nat × (Nat × (Nat × (Bool × List (Nat × Int))))))))
/-- objects (kind, size, weak), boxes or references of cells, clauses of a cell, cells that are kept, counters, what is agreed of methods, kinds within kinds -/
abbrev zW : Type := (Nat → Nat × (Nat × Bool)) × ((Nat → Option ((Int × Int) ⊕ Nat)) × ((Nat → List zC) × ((Nat → Nat → Bool) × ((Nat → Bool) × ((Nat → List zS) × ((Nat → Nat → Bool) × (Nat → Bool)))))))
noncomputable def zWo (W : zW) (o : Nat) : Nat × (Nat × Bool) := W.1 o
noncomputable def zWs (W : zW) (key : Nat) : Option ((Int × Int) ⊕ Nat) := W.2.1 key
noncomputable def zWc (W : zW) (key : Nat) : List zC := W.2.2.1 key
noncomputable def zWk (W : zW) (c key : Nat) : Bool := W.2.2.2.1 c key
noncomputable def zWt (W : zW) (key : Nat) : Bool := W.2.2.2.2.1 key
noncomputable def zWi (W : zW) (mi : Nat) : List zS := W.2.2.2.2.2.1 mi
noncomputable def zWu (W : zW) (c d : Nat) : Bool := W.2.2.2.2.2.2.1 c d
/-- cells that a root's own rows don't write -/
noncomputable def zWx (W : zW) (key : Nat) : Bool := W.2.2.2.2.2.2.2 key
/-- a run's root: the kind of cells that it keeps, its cost, whether indexes go unsplit -/
abbrev zR : Type := Nat × (Nat × Bool)
noncomputable def zGl (l : List (Int × Int)) : Nat → Option (Int × Int) := List.rec (motive := fun _ => Nat → Option (Int × Int)) (fun _ => none) (fun q _ ih i => bif Nat.beq i 0 then some q else ih (Nat.sub i 1)) l
noncomputable def zSl (v : Int × Int) (l : List (Int × Int)) : Nat → List (Int × Int) := List.rec (motive := fun _ => Nat → List (Int × Int)) (fun _ => []) (fun q r ih i => bif Nat.beq i 0 then v :: r else q :: ih (Nat.sub i 1)) l
noncomputable def zBx (B : zB) (i : Nat) : Option (Int × Int) := bif Nat.beq i 0 then some (0, 0) else bif Nat.ble i B.1 then zGl B.2.1 (Nat.sub B.1 i) else none
noncomputable def zNar (B : zB) (i : Nat) (l h : Int) : zB := bif Nat.beq i 0 then B else (B.1, (zSl (l, h) B.2.1 (Nat.sub B.1 i), B.2.2))
noncomputable def zRg (B : zB) (v : sI) (k : Int → Int → Bool) : Bool := bif Nat.beq v.1 0 then k v.2 v.2 else match zBx B v.1 with
  | some q => k (q.1 + v.2) (q.2 + v.2)
  | none => false
/-- v at most m: the first; else the second; a part that is empty is left out -/
noncomputable def zCut (B : zB) (v : sI) (m : Int) (k1 k2 : zB → Bool) : Bool := match zBx B v.1 with
  | some q => (sILt (m - v.2) (q.1) || k1 (zNar B v.1 q.1 (m - v.2))) && (sILt (q.2) (m - v.2 + 1) || k2 (zNar B v.1 (m - v.2 + 1) q.2))
  | none => false
noncomputable def zCsu (f : Nat) : zB → sI → (zB → Int → Bool) → Bool :=
  Nat.rec (motive := fun _ => zB → sI → (zB → Int → Bool) → Bool) (fun _ _ _ => false)
    (fun _ ih B v k => zRg B v fun l h => bif sIEq l h then k B l else bif sILt 2000 (h - l) then false else zCut B v ((l + h) / 2) (fun B1 => ih B1 v k) (fun B1 => ih B1 v k)) f
noncomputable def zCst (B : zB) (v : sI) (k : zB → Int → Bool) : Bool := zRg B v fun l h => bif sIEq l h then k B l else zCsu 12 B v k
/-- x is less than y by a fact -/
noncomputable def zKn (B : zB) (x y : sI) : Bool := B.2.2.any fun q => Nat.beq q.1.1 x.1 && (Nat.beq q.2.1 y.1 && sILe (x.2 - q.1.2) (y.2 - q.2.2))
noncomputable def zFa1 (B : zB) (x : sI) (l h l1 h1 : Int) : zB := bif sILt l l1 || sILt h1 h then zNar B x.1 (l1 - x.2) (h1 - x.2) else B
/-- x is taken as less than y -/
noncomputable def zFa (B : zB) (x y : sI) (k : zB → Bool) : Bool := zRg B x fun l1 h1 => zRg B y fun l2 h2 =>
  (fun B2 : zB => k (B2.1, (B2.2.1, (x, y) :: B2.2.2))) (zFa1 (zFa1 B x l1 h1 l1 (bif sILt (h2 - 1) h1 then h2 - 1 else h1)) y l2 h2 (bif sILt l2 (l1 + 1) then l1 + 1 else l2) h2)
noncomputable def zLt (B : zB) (x y : sI) (k : zB → Bool → Bool) : Bool :=
  bif Nat.beq x.1 y.1 then k B (sILt (x.2) (y.2)) else zRg B x fun l1 h1 => zRg B y fun l2 h2 =>
    bif sILt (h1) (l2) then k B true else bif sILe (h2) (l1) then k B false else
    bif zKn B x y then k B true else bif zKn B y (x.1, x.2 + 1) then k B false else
    bif sIEq (l2) (h2) then zCut B x (l2 - 1) (fun B1 => k B1 true) (fun B1 => k B1 false) else
    bif sIEq (l1) (h1) then zCut B y l1 (fun B1 => k B1 false) (fun B1 => k B1 true) else
    zFa B x y (fun B1 => k B1 true) && zFa B y (x.1, x.2 + 1) (fun B1 => k B1 false)
noncomputable def zMx (a b : Int) : Int := bif sILt a b then b else a
noncomputable def zMn (a b : Int) : Int := bif sILt b a then b else a
noncomputable def zEq (B : zB) (x y : sI) (k : zB → Bool → Bool) : Bool :=
  bif Nat.beq x.1 y.1 then k B (sIEq (x.2) (y.2)) else zRg B x fun l1 h1 => zRg B y fun l2 h2 =>
    bif sILt (h1) (l2) || sILt (h2) (l1) then k B false else
    bif zKn B x y || zKn B y x then k B false else
    bif sIEq (l2) (h2) then zCut B x (l2 - 1) (fun B1 => k B1 false) (fun B1 => zCut B1 x l2 (fun B2 => k B2 true) (fun B2 => k B2 false)) else
    bif sIEq (l1) (h1) then zCut B y (l1 - 1) (fun B1 => k B1 false) (fun B1 => zCut B1 y l1 (fun B2 => k B2 true) (fun B2 => k B2 false)) else
    zFa B x y (fun B1 => k B1 false) && (zFa B y x (fun B1 => k B1 false) && k (zFa1 (zFa1 B x l1 h1 (zMx l1 l2) (zMn h1 h2)) y l2 h2 (zMx l1 l2) (zMn h1 h2)) true)
noncomputable def zCond (c : ClassFile.Cond) (B : zB) (x y : sI) (k : zB → Bool → Bool) : Bool := match c with
  | .eq => zEq B x y k
  | .ne => zEq B x y fun B1 b => k B1 (!b)
  | .lt => zLt B x y k
  | .ge => zLt B x y fun B1 b => k B1 (!b)
  | .gt => zLt B y x k
  | .le => zLt B y x fun B1 b => k B1 (!b)
/-- a new variable -/
noncomputable def zFr (B : zB) (l h : Int) (k : zB → sI → Bool) : Bool := k (Nat.succ B.1, ((l, h) :: B.2.1, B.2.2)) (Nat.succ B.1, 0)
noncomputable def zF32 (B : zB) (k : zB → sI → Bool) : Bool := zFr B (-2147483648) 2147483647 k
noncomputable def zF64 (B : zB) (k : zB → sI → Bool) : Bool := zFr B (-9223372036854775808) 9223372036854775807 k
noncomputable def zAdd (B : zB) (x y : sI) (k : zB → sI → Bool) : Bool :=
  zRg B x fun l1 h1 => zRg B y fun l2 h2 =>
    bif sIEq (l2) (h2) && sR32 (l1 + l2) (h1 + l2) then k B (x.1, x.2 + l2) else
    bif sIEq (l1) (h1) && sR32 (l1 + l2) (l1 + h2) then k B (y.1, y.2 + l1) else
    bif sR32 (l1 + l2) (h1 + h2) then zFr B (l1 + l2) (h1 + h2) k else zF32 B k
noncomputable def zSub (B : zB) (x y : sI) (k : zB → sI → Bool) : Bool :=
  zRg B x fun l1 h1 => zRg B y fun l2 h2 =>
    bif sIEq (l2) (h2) && sR32 (l1 - l2) (h1 - l2) then k B (x.1, x.2 - l2) else
    bif Nat.beq x.1 y.1 && sR32 (x.2 - y.2) (x.2 - y.2) then k B (0, x.2 - y.2) else
    bif zKn B (y.1, y.2 - 1) x && sILe (h2 - l2) 128 then zCst B y (fun B1 c => zRg B1 x fun l h => sR32 (l - c) (h - c) && k B1 (x.1, x.2 - c)) else
    bif sR32 (l1 - h2) (h1 - l2) then zFr B (l1 - h2) (h1 - l2) k else zF32 B k
noncomputable def zSpl (B : zB) (v : sI) (k : zB → Bool) : Bool := zRg B v fun l h => bif sIEq l h || sILt 128 (h - l) then k B else zCst B v fun B1 _ => k B1
noncomputable def zMul (ns : Bool) (B : zB) (x y : sI) (k : zB → sI → Bool) : Bool :=
  (bif ns then fun kk : zB → Bool => kk B else fun kk : zB → Bool => zSpl B x fun B1 => zSpl B1 y kk) fun B2 =>
  zRg B2 x fun l1 h1 => zRg B2 y fun l2 h2 =>
    bif sIEq (l1) (h1) && sIEq (l2) (h2) then k B2 (0, (Int32.ofInt l1 * Int32.ofInt l2).toInt) else
    bif (sILe 0 l1 && sILe 0 l2) && sR32 0 (h1 * h2) then zFr B2 0 (h1 * h2) k else zF32 B2 k
/-- y is not 0 -/
noncomputable def zNz (B : zB) (y : sI) (k : zB → Bool) : Bool := zRg B y fun l h => bif sILt 0 l || sILt h 0 then k B else zEq B y (0, 0) fun B1 b => bif b then false else k B1
noncomputable def zDiv (B : zB) (x y : sI) (k : zB → sI → Bool) : Bool := zNz B y fun B1 => zRg B1 x fun l1 h1 => zRg B1 y fun l2 h2 =>
  bif sIEq (l1) (h1) && sIEq (l2) (h2) then k B1 (0, (Int32.ofInt l1 / Int32.ofInt l2).toInt) else
  bif sILe 0 l1 && sILt 0 l2 then zFr B1 0 h1 k else zF32 B1 k
noncomputable def zAnd (B : zB) (x y : sI) (k : zB → sI → Bool) : Bool := zRg B x fun l1 h1 => zRg B y fun l2 h2 =>
  bif sILe 0 l2 then zFr B 0 h2 k else bif sILe 0 l1 then zFr B 0 h1 k else zF32 B k
noncomputable def zUsh (B : zB) (y : sI) (k : zB → sI → Bool) : Bool := zRg B y fun l h => bif sIEq l 8 && sIEq h 8 then zFr B 0 16777215 k else zF32 B k
/-- within a box, by its own box or by a fact -/
noncomputable def zLo (B : zB) (x : sI) (l : Int) : Bool := (zRg B x fun a _ => sILe l a) || B.2.2.any fun q => Nat.beq q.2.1 x.1 && zRg B q.1 fun a _ => sILe l (a + 1 - q.2.2 + x.2)
noncomputable def zHi (B : zB) (x : sI) (h : Int) : Bool := (zRg B x fun _ a => sILe a h) || B.2.2.any fun q => Nat.beq q.1.1 x.1 && zRg B q.2 fun _ a => sILe (a - 1 - q.1.2 + x.2) h
noncomputable def zRem (B : zB) (x y : sI) (k : zB → sI → Bool) : Bool := zNz B y fun B1 => zRg B1 x fun l1 h1 => zRg B1 y fun l2 h2 =>
  bif sIEq (l1) (h1) && sIEq (l2) (h2) then k B1 (0, (Int32.ofInt l1 - Int32.ofInt l1 / Int32.ofInt l2 * Int32.ofInt l2).toInt) else
  bif zLo B1 x 0 && sILt 0 l2 then (bif sILt h1 l2 then k B1 x else zFr B1 0 (h2 - 1) fun B2 r => bif sIEq l2 h2 then k B2 r else zFa B2 r y fun B3 => k B3 r) else zF32 B1 k
noncomputable def zFits (B : zB) (x : sI) (l h : Int) : Bool := zLo B x l && zHi B x h
noncomputable def zFit (B : zB) (ty : FieldType) (v : sV) : Bool := match ty, v with
  | .int, .inl _ => true
  | .boolean, .inl x => zRg B x fun l h => sILe (0) (l) && sILe (h) (1)
  | .object _, .inr (.inr (some _)) => true
  | .array _, .inr (.inr (some _)) => true
  | _, _ => false
/-! ===== locals ===== -/
noncomputable def zDl (i : Nat) (L : List (Nat × sV)) : List (Nat × sV) := List.rec (motive := fun _ => List (Nat × sV)) [] (fun q _ ih => bif Nat.beq q.1 i then ih else q :: ih) L
/-- a long that begins one before goes -/
noncomputable def zDb (i : Nat) (L : List (Nat × sV)) : List (Nat × sV) := bif Nat.beq i 0 then L else match sLk L (i - 1) with
  | some (.inr (.inl _)) => zDl (i - 1) L
  | _ => L
noncomputable def zSt1 (L : List (Nat × sV)) (i : Nat) (v : sV) : List (Nat × sV) := (i, v) :: zDl i (zDb i L)
noncomputable def zSt2 (L : List (Nat × sV)) (i : Nat) (v : sV) : List (Nat × sV) := (i, v) :: zDl (i + 1) (zDl i (zDb i L))
/-! ===== cells ===== -/
noncomputable def zLk (ov : zO) (key : Nat) : Option (sV × Bool) := List.rec (motive := fun _ => Option (sV × Bool)) none (fun q _ ih => bif Nat.beq q.1 key then some q.2 else ih) ov
noncomputable def zRm (key : Nat) (ov : zO) : zO := List.rec (motive := fun _ => zO) [] (fun q r ih => bif Nat.beq q.1 key then r else q :: ih) ov
noncomputable def zPt (ov : zO) (key : Nat) (v : sV) (d : Bool) : zO := (key, (v, d)) :: zRm key ov
/-- an object's cells go -/
noncomputable def zRo (o : Nat) (ov : zO) : zO := List.rec (motive := fun _ => zO) [] (fun q _ ih => bif Nat.beq (Nat.div q.1 2048) o then ih else q :: ih) ov
noncomputable def zKp (W : zW) (c : Nat) (ov : zO) : zO := List.rec (motive := fun _ => zO) [] (fun q _ ih => bif zWk W c q.1 then (q.1, (q.2.1, false)) :: ih else ih) ov
noncomputable def zClz (ov : zO) (key : Nat) (cs : List zC) : zB → Int → Int → (zB → Int → Int → Bool) → Bool :=
  List.rec (motive := fun _ => zB → Int → Int → (zB → Int → Int → Bool) → Bool) (fun B l h k => k B l h)
    (fun c _ ih B l h k => bif Nat.beq c.2.2.2.1 key then (match zLk ov c.1 with
      | some (.inl v, false) => zLt B v (0, c.2.1) fun B1 b => bif b then ih B1 l h k else zLt B1 (0, c.2.2.1) v fun B2 b2 => bif b2 then ih B2 l h k else ih B2 (zMx l c.2.2.2.2.1) (zMn h c.2.2.2.2.2) k
      | _ => ih B l h k) else ih B l h k) cs
/-- facts of a cell that is read just now -/
noncomputable def zClr (ov : zO) (key : Nat) (x : sI) (cs : List zC) : zB → (zB → Bool) → Bool :=
  List.rec (motive := fun _ => zB → (zB → Bool) → Bool) (fun B k => k B)
    (fun c _ ih B k => bif Nat.beq c.2.2.2.1 key && sILt c.2.2.1 c.2.1 then (match zLk ov c.1 with
      | some (.inl v, false) => zFa B (x.1, x.2 + c.2.2.2.2.1) (v.1, v.2 + c.2.2.2.2.2) fun B1 => ih B1 k
      | _ => ih B k) else ih B k) cs
noncomputable def zRead (W : zW) (R : zR) (M : zM) (B : zB) (key : Nat) (k : zB → zM → sV → Bool) : Bool := match zLk M.1 key with
  | some q => k B M q.1
  | none => match zWs W key with
    | none => false
    | some (.inr r) => k B M (.inr (.inr (some r)))
    | some (.inl q) => zClz M.1 key (zWc W key) B q.1 q.2 fun B1 l h => bif sIEq l h then k B1 ((key, (.inl (0, l), false)) :: M.1, M.2) (.inl (0, l)) else
        zFr B1 l (bif zWt W key && (Nat.blt M.2.1 R.2.1 && sILe 2147483647 h) then 2147483646 else h) fun B2 x => zClr M.1 key x (zWc W key) B2 fun B3 => k B3 ((key, (.inl x, false)) :: M.1, M.2) (.inl x)
noncomputable def zWrite (W : zW) (R : zR) (M : zM) (key : Nat) (v : sV) (k : zM → Bool) : Bool := match zWs W key, v with
  | some (.inl _), .inl y => (!zWk W R.1 key && !zWx W key) && (bif zWt W key then (match zLk M.1 key with
      | some (.inl x, _) => sEqI y (x.1, x.2 + 1) && k (zPt M.1 key v true, (Nat.succ M.2.1, none))
      | _ => false) else k (zPt M.1 key v true, (M.2.1, none)))
  | _, _ => false
/-- x is less than y, as far as is known -/
noncomputable def zLs (B : zB) (x y : sI) : Bool := (Nat.beq x.1 y.1 && sILt x.2 y.2) || (zKn B x y || zRg B x fun _ h1 => zRg B y fun l2 _ => sILt h1 l2)
noncomputable def zClOk (B : zB) (ov : zO) (c : zC) : Bool := bif sILt c.2.2.1 c.2.1 then (match zLk ov c.1, zLk ov c.2.2.2.1 with
    | some (.inl x, _), some (.inl y, _) => zLs B (y.1, y.2 + c.2.2.2.2.1) (x.1, x.2 + c.2.2.2.2.2)
    | _, _ => false) else
  (match zLk ov c.1 with
    | some (.inl x, _) => zRg B x fun l h => sILt h c.2.1 || sILt c.2.2.1 l
    | _ => false) || (match zLk ov c.2.2.2.1 with
    | some (.inl x, _) => zFits B x c.2.2.2.2.1 c.2.2.2.2.2
    | _ => false)
/-- what was written lies in its box, clauses hold -/
noncomputable def zFl (W : zW) (B : zB) (ov : zO) : Bool := List.rec (motive := fun _ => Bool) true (fun q _ ih => (!q.2.2 || ((match q.2.1, zWs W q.1 with
  | .inl x, some (.inl b) => zFits B x b.1 b.2
  | _, _ => false) && (zWc W q.1).all (zClOk B ov))) && ih) ov
/-! ===== what is agreed of methods ===== -/
noncomputable def zAr (B : zB) (a : zA) (v : sV) : Bool := match v with
  | .inl x => Nat.beq a.1 0 && zFits B x a.2.2.1 a.2.2.2
  | .inr (.inl x) => Nat.beq a.1 1 && zFits B x a.2.2.1 a.2.2.2
  | .inr (.inr (some o)) => Nat.beq a.1 2 && Nat.beq a.2.1 o
  | .inr (.inr none) => Nat.beq a.1 3
noncomputable def zArs (B : zB) (as : List zA) : List sV → Bool := List.rec (motive := fun _ => List sV → Bool) (fun vs => match vs with
  | [] => true
  | _ => false) (fun a _ ih vs => match vs with
  | [] => false
  | v :: r => zAr B a v && ih r) as
noncomputable def zCe (B : zB) (ov : zO) (c : Nat × (Int × Int)) : Bool := match zLk ov c.1 with
  | some (.inl x, _) => zFits B x c.2.1 c.2.2
  | _ => false
noncomputable def zSa (i : zS) : List zA := i.1
noncomputable def zSc (i : zS) : List (Nat × (Int × Int)) := i.2.1
noncomputable def zSr (i : zS) : Option (Bool × (Int × Int)) := i.2.2.1
noncomputable def zSk (i : zS) : Nat := i.2.2.2.1
noncomputable def zSf (i : zS) : Nat := i.2.2.2.2.1
noncomputable def zSo (i : zS) : Nat := i.2.2.2.2.2.1
noncomputable def zSq (i : zS) : Nat := i.2.2.2.2.2.2.1
noncomputable def zSd (i : zS) : Bool := i.2.2.2.2.2.2.2.1
noncomputable def zSe (i : zS) : List (Nat × Int) := i.2.2.2.2.2.2.2.2
noncomputable def zMat (W : zW) (R : zR) (B : zB) (M : zM) (i : zS) (fr lo : Nat) (as : List sV) : Bool :=
  zArs B (zSa i) as && ((zSc i).all (zCe B M.1) && (Nat.ble (zSf i) fr && (Nat.ble (zSo i) lo && (Nat.ble (M.2.1 + zSk i) R.2.1 && zWu W (zSq i) R.1))))
noncomputable def zS1 (i : zS) : Bool := match zSa i with
  | [a] => Nat.beq a.1 2 && Nat.beq a.2.1 525
  | _ => false
/-- cells that grow by so much -/
noncomputable def zEx (ov : zO) (es : List (Nat × Int)) : zO → (zO → Bool) → Bool := List.rec (motive := fun _ => zO → (zO → Bool) → Bool) (fun o k => k o) (fun e _ ih o k => match zLk ov e.1 with
  | some (.inl x, _) => ih ((e.1, (.inl (x.1, x.2 + e.2), false)) :: o) k
  | _ => false) es
abbrev zRet : Type := zB → Option sV × zM → Bool
noncomputable def zAns (B : zB) (mi : Nat) (i : zS) (M : zM) (ov : zO) (k : zRet) : Bool := match zSr i with
  | none => k B (none, (ov, (M.2.1 + zSk i, bif Nat.beq (zSq i) 1 then M.2.2 else none)))
  | some (true, q) => zFr B q.1 q.2 fun B1 x => k B1 (some (.inr (.inl x)), (ov, (M.2.1 + zSk i, bif Nat.beq (zSq i) 1 then M.2.2 else none)))
  | some (false, q) => bif zSd i && (Nat.beq (zSq i) 1 && zS1 i) then (match M.2.2 with
      | some (x, (m, (f, l))) => bif Nat.beq m mi && (Nat.beq f (zSf i) && Nat.beq l (zSo i)) then k B (some (.inl x), (ov, (M.2.1 + zSk i, M.2.2))) else zFr B q.1 q.2 fun B1 x => k B1 (some (.inl x), (ov, (M.2.1 + zSk i, some (x, (mi, (zSf i, zSo i))))))
      | none => zFr B q.1 q.2 fun B1 x => k B1 (some (.inl x), (ov, (M.2.1 + zSk i, some (x, (mi, (zSf i, zSo i))))))) else
      zFr B q.1 q.2 fun B1 x => k B1 (some (.inl x), (ov, (M.2.1 + zSk i, bif Nat.beq (zSq i) 1 then M.2.2 else none)))
noncomputable def zAgr (W : zW) (R : zR) (B : zB) (M : zM) (mi fr lo : Nat) (as : List sV) (k : zRet) (is : List zS) : Bool := List.rec (motive := fun _ => Bool) false (fun i _ ih => bif zMat W R B M i fr lo as then zEx M.1 (zSe i) (zKp W (zSq i) M.1) (fun ov => zAns B mi i M ov k) else ih) is
