/-! ===== an abstract machine: objects by number, memory as a tree; it runs the same bytecode; part 04 ties it to the machine ===== -/
/-- a full tree of depth d, by the bits of the place -/
noncomputable def mTr (α : Type) : Nat → Type
  | 0 => α
  | d + 1 => mTr α d × mTr α d
noncomputable def mF {α : Type} {d : Nat} (t : mTr α (d + 1)) : mTr α d := Prod.fst (α := mTr α d) (β := mTr α d) t
noncomputable def mS {α : Type} {d : Nat} (t : mTr α (d + 1)) : mTr α d := Prod.snd (α := mTr α d) (β := mTr α d) t
noncomputable def mP {α : Type} {d : Nat} (a b : mTr α d) : mTr α (d + 1) := ((a, b) : mTr α d × mTr α d)
theorem mF_P {α : Type} {d : Nat} (a b : mTr α d) : mF (mP a b) = a := rfl
theorem mS_P {α : Type} {d : Nat} (a b : mTr α d) : mS (mP a b) = b := rfl
noncomputable def mGet {α : Type} : (d : Nat) → mTr α d → Nat → α
  | 0, t, _ => t
  | d + 1, t, i => bif Nat.beq (i % 2) 0 then mGet d (mF t) (i / 2) else mGet d (mS t) (i / 2)
noncomputable def mSet {α : Type} : (d : Nat) → mTr α d → Nat → α → mTr α d
  | 0, _, _, v => v
  | d + 1, t, i, v => bif Nat.beq (i % 2) 0 then mP (mSet d (mF t) (i / 2) v) (mS t) else mP (mF t) (mSet d (mS t) (i / 2) v)
noncomputable def mTwo {α : Type} {d : Nat} (t : mTr α d) : mTr α (d + 1) := mP t t
noncomputable def mFill {α : Type} : (d : Nat) → α → mTr α d
  | 0, v => v
  | d + 1, v => mTwo (mFill d v)
theorem mGet_e {α : Type} {d : Nat} {t : mTr α (d + 1)} {i : Nat} (h : i % 2 = 0) : mGet (d + 1) t i = mGet d (mF t) (i / 2) := by
  show (bif Nat.beq (i % 2) 0 then mGet d (mF t) (i / 2) else mGet d (mS t) (i / 2)) = _
  rw [h]; rfl
theorem mGet_o {α : Type} {d : Nat} {t : mTr α (d + 1)} {i : Nat} (h : i % 2 = 1) : mGet (d + 1) t i = mGet d (mS t) (i / 2) := by
  show (bif Nat.beq (i % 2) 0 then mGet d (mF t) (i / 2) else mGet d (mS t) (i / 2)) = _
  rw [h]; rfl
theorem mSet_e {α : Type} {d : Nat} {t : mTr α (d + 1)} {i : Nat} {v : α} (h : i % 2 = 0) : mSet (d + 1) t i v = mP (mSet d (mF t) (i / 2) v) (mS t) := by
  show (bif Nat.beq (i % 2) 0 then mP (mSet d (mF t) (i / 2) v) (mS t) else mP (mF t) (mSet d (mS t) (i / 2) v)) = _
  rw [h]; rfl
theorem mSet_o {α : Type} {d : Nat} {t : mTr α (d + 1)} {i : Nat} {v : α} (h : i % 2 = 1) : mSet (d + 1) t i v = mP (mF t) (mSet d (mS t) (i / 2) v) := by
  show (bif Nat.beq (i % 2) 0 then mP (mSet d (mF t) (i / 2) v) (mS t) else mP (mF t) (mSet d (mS t) (i / 2) v)) = _
  rw [h]; rfl
theorem mGet_set {α : Type} : ∀ (d : Nat) (t : mTr α d) (i j : Nat) (v : α), i < 2 ^ d → j < 2 ^ d → mGet d (mSet d t i v) j = if i = j then v else mGet d t j
  | 0, t, i, j, v, hi, hj => by
    have h1 : i = j := by omega
    simp [mGet, mSet, h1]
  | d + 1, t, i, j, v, hi, hj => by
    have hi2 : i / 2 < 2 ^ d := by rw [Nat.pow_succ] at hi; omega
    have hj2 : j / 2 < 2 ^ d := by rw [Nat.pow_succ] at hj; omega
    have ih := fun t => mGet_set d t (i / 2) (j / 2) v hi2 hj2
    have ci : i % 2 = 0 ∨ i % 2 = 1 := by omega
    have cj : j % 2 = 0 ∨ j % 2 = 1 := by omega
    rcases ci with hi0 | hi0 <;> rcases cj with hj0 | hj0
    · have e : (i / 2 = j / 2) = (i = j) := propext ⟨fun h => by omega, fun h => by omega⟩
      rw [mSet_e hi0, mGet_e hj0, mGet_e hj0, mF_P, ih]
      simp only [e]
    · rw [mSet_e hi0, mGet_o hj0, mGet_o hj0, mS_P, if_neg (by omega)]
    · rw [mSet_o hi0, mGet_e hj0, mGet_e hj0, mF_P, if_neg (by omega)]
    · have e : (i / 2 = j / 2) = (i = j) := propext ⟨fun h => by omega, fun h => by omega⟩
      rw [mSet_o hi0, mGet_o hj0, mGet_o hj0, mS_P, ih]
      simp only [e]
theorem mGet_fill {α : Type} : ∀ (d : Nat) (v : α) (i : Nat), mGet d (mFill d v) i = v
  | 0, _, _ => rfl
  | d + 1, v, i => by
    have ih := mGet_fill d v (i / 2)
    have ci : i % 2 = 0 ∨ i % 2 = 1 := by omega
    rcases ci with h | h
    · rw [mGet_e h]; exact ih
    · rw [mGet_o h]; exact ih
/-- a list laid from place i on -/
noncomputable def mLay {α : Type} (d : Nat) : List α → Nat → mTr α d → mTr α d
  | [], _, t => t
  | v :: vs, i, t => mLay d vs (i + 1) (mSet d t i v)
/-- a cell: its kind (below 100: an object of that class of vwCl; 100 int[], 101 int[][], 102 Station[]), how many slots, the slots; references are numbers of objects -/
abbrev mCell : Type := Nat × Nat × mTr Value 11
/-- a memory: how many objects, how many slots in all, the objects -/
abbrev mMem : Type := Nat × Nat × mTr mCell 10
noncomputable def mObj (M : mMem) (o : Nat) : mCell := mGet 10 M.2.2 o
noncomputable def mSlot (c : mCell) (k : Nat) : Value := mGet 11 c.2.2 k
noncomputable def mPut (M : mMem) (o : Nat) (c : mCell) : mMem := (M.1, M.2.1, mSet 10 M.2.2 o c)
noncomputable def mCset (c : mCell) (k : Nat) (v : Value) : mCell := (c.1, c.2.1, mSet 11 c.2.2 k v)
noncomputable def mNew (M : mMem) (c : mCell) : mMem := (M.1 + 1, M.2.1 + c.2.1, mSet 10 M.2.2 M.1 c)
/-- an entry of a method's table: pc, length, the instruction, its normal form, a number, three numbers more, the place of the word that it needs in lw_tbl -/
abbrev mE : Type := Nat × Nat × ClassFile.Instr × ClassFile.Instr × Int × Nat × Nat × Nat
/-- of a method: name, bytes, locals, what it returns, the class of its pool, how many arguments (this too), static, places of its words: code, initialized, instanceMethod or static, selects -/
abbrev mI : Type := MethodName × ByteArray × Nat × Option FieldType × String × Nat × Bool × Nat × Nat × Nat × Nat
abbrev mCfg : Type := Nat × List (Nat × Value) × List Value × mMem
abbrev mRes : Type := mCfg ⊕ (Option Value × mMem)
noncomputable def mLk (L : List (Nat × Value)) (i : Nat) : Option Value := (L.find? (fun q => Nat.beq q.1 i)).map (·.2)
noncomputable def mSt1 (L : List (Nat × Value)) (i : Nat) (v : Value) : List (Nat × Value) := (i, v) :: L.filter (fun q => !(q.1 == i) && !(q.1 + 1 == i && q.2.category == 2))
noncomputable def mSt2 (L : List (Nat × Value)) (i : Nat) (v : Value) : List (Nat × Value) := (i, v) :: L.filter (fun q => !(q.1 == i) && (!(q.1 == i + 1) && !(q.1 + 1 == i && q.2.category == 2)))
noncomputable def mIf (c : ClassFile.Cond) (x y : Int32) : Bool := match c with
  | .eq => decide (x = y)
  | .ne => !decide (x = y)
  | .lt => decide (x < y)
  | .ge => decide (y ≤ x)
  | .gt => decide (y < x)
  | .le => decide (x ≤ y)
noncomputable def mCats (st : List Value) : Nat := (st.map fun v => v.category).sum
noncomputable def mI1 {β : Type} (st : List Value) (k : Int32 → List Value → Option β) : Option β := match st with
  | .int x :: r => k x r
  | _ => none
noncomputable def mI2 {β : Type} (st : List Value) (k : Int32 → Int32 → List Value → Option β) : Option β := match st with
  | .int y :: .int x :: r => k x y r
  | _ => none
noncomputable def mL1 {β : Type} (st : List Value) (k : Int64 → List Value → Option β) : Option β := match st with
  | .long x :: r => k x r
  | _ => none
noncomputable def mL2 {β : Type} (st : List Value) (k : Int64 → Int64 → List Value → Option β) : Option β := match st with
  | .long y :: .long x :: r => k x y r
  | _ => none
noncomputable def mLI {β : Type} (st : List Value) (k : Int64 → Int32 → List Value → Option β) : Option β := match st with
  | .int y :: .long x :: r => k x y r
  | _ => none
noncomputable def mR1 {β : Type} (st : List Value) (k : Nat → List Value → Option β) : Option β := match st with
  | .ref x :: r => k x r
  | _ => none
noncomputable def mRI {β : Type} (st : List Value) (k : Nat → Int32 → List Value → Option β) : Option β := match st with
  | .int i :: .ref x :: r => k x i r
  | _ => none
noncomputable def mRIV {β : Type} (st : List Value) (k : Nat → Int32 → Value → List Value → Option β) : Option β := match st with
  | v :: .int i :: .ref x :: r => k x i v r
  | _ => none
noncomputable def mVR {β : Type} (st : List Value) (k : Value → Nat → List Value → Option β) : Option β := match st with
  | v :: .ref x :: r => k v x r
  | _ => none
noncomputable def mV1 {β : Type} (st : List Value) (k : Value → List Value → Option β) : Option β := match st with
  | v :: r => k v r
  | _ => none
noncomputable def mV2 {β : Type} (st : List Value) (k : Value → Value → List Value → Option β) : Option β := match st with
  | v :: w :: r => k v w r
  | _ => none
noncomputable def mWhen {β : Type} (b : Bool) (x : Option β) : Option β := bif b then x else none
noncomputable def mInB (i : Int32) (n : Nat) : Bool := !decide (i < 0) && Nat.blt i.toNatClampNeg n
/-- of a row of our own -/
noncomputable def mInO (i : Int32) (n : Nat) : Bool := !decide (i < 0) && (Nat.blt i.toNatClampNeg n && Nat.ble n 2048)
/-- a value of a field's type -/
noncomputable def mFit (ty : FieldType) (v : Value) : Bool := match ty, v with
  | .int, .int _ => true
  | .boolean, .int x => decide (x = 0) || decide (x = 1)
  | .object _, .ref _ => true
  | .array _, .ref _ => true
  | _, _ => false
