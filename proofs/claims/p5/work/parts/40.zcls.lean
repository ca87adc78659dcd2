/-! ===== the class's world: its objects as the constructors made them, a box a field ===== -/
theorem zSx_x (xs : Nat → Int32) (L : Nat) : zSx (sXNl L) (sXF xs) sXX := by
  refine ⟨fun a h1 h2 => ?_, fun a j h1 h2 h3 ρ => ?_⟩
  · cases a with
    | zero => omega
    | succ a => rfl
  · cases a with
    | zero => omega
    | succ a =>
      obtain ⟨c1, c2, c3⟩ := sXX_c a j
      have e : sXX (a + 1) j = (0, (sXX (a + 1) j).2) := Prod.ext c1 rfl
      rw [e]
      show some _ = some (Int32.ofInt (sXX (a + 1) j).2).toInt
      rw [i32_val rfl c2 c3]
/-- a method's agreements with their heads, what goes before its entry, before its heads -/
abbrev zP : Type := zS × (List zT × (zH × List (Nat × zH)))
noncomputable def zHds (l : List (Nat × zH)) (pc : Nat) : zH := List.rec (motive := fun _ => zH) ([], ([], [])) (fun q _ ih => bif Nat.beq q.1 pc then q.2 else ih) l
noncomputable def zChq (W : zW) (ns : Bool) (mi : Nat) (p : zP) : Bool := zChk mTab mInf W ns sXX mi 100000 p.1 p.2.1 (fun pc => p.2.1.any fun t => Nat.beq t.1 pc) p.2.2.1 (zHds p.2.2.2)
noncomputable def zOb1 : List (Nat × (Nat × Bool)) := [(3, (13, false)), (100, (6, true)), (100, (8, true)), (102, (8, false)), (4, (4, false)), (101, (6, false)), (100, (100, true)), (100, (100, true)), (100, (100, true)), (100, (100, true)), (100, (100, true)), (100, (100, true)), (2, (4, false)), (101, (4, false)), (100, (60, true)), (100, (60, true)), (100, (60, true)), (100, (60, true)), (2, (4, false)), (101, (5, false)), (100, (40, true)), (100, (40, true)), (100, (40, true)), (100, (40, true)), (100, (40, true)), (100, (8, true)), (0, (3, false))]
noncomputable def zOb2 : List (Nat × (Nat × Bool)) := [(5, (19, false)), (0, (3, false)), (0, (3, false)), (6, (3, false)), (1, (12, false)), (4, (4, false)), (101, (5, false)), (100, (8, true)), (100, (8, true)), (100, (8, true)), (100, (8, true)), (100, (8, true)), (100, (9, true))]
noncomputable def zObj (o : Nat) : Nat × (Nat × Bool) :=
  bif Nat.beq o 0 then (7, (5, false)) else bif Nat.blt o 525 then (bif Nat.blt ((o - 1) % 131) 27 then zOb1.getD ((o - 1) % 131) (200, (0, false)) else zOb2.getD (((o - 1) % 131 - 27) % 13) (200, (0, false))) else
  bif Nat.beq o 525 then (8, (7, false)) else (100, (1850, false))
noncomputable def zBi : (Int × Int) ⊕ Nat := .inl (-2147483648, 2147483647)
noncomputable def zBb : (Int × Int) ⊕ Nat := .inl (0, 1)
noncomputable def zBc (n : Nat) : (Int × Int) ⊕ Nat := .inl ((n : Int), (n : Int))
noncomputable def zSc1 (o k : Nat) : Option ((Int × Int) ⊕ Nat) := bif Nat.blt o 525 && Nat.blt k (zObj o).2.1 then (match (zObj o).1 with
    | 7 => some (bif Nat.blt k 4 then .inr (1 + 131 * k) else zBb)
    | 3 => some (match k with | 0 => .inl (2, 8) | 4 => .inr (o + 1) | 5 => .inr (o + 2) | 6 => .inr (o + 3) | 7 => .inr (o + 4) | 8 => .inr (o + 12) | 9 => .inr (o + 18) | 10 => .inr (o + 25) | 11 => .inr (o + 26) | _ => zBi)
    | 102 => some (.inr (o + 24 + 13 * k))
    | 101 => some (.inr (o + 1 + k))
    | 4 => some (bif Nat.beq ((o - 1) % 131) 4 then (match k with | 0 => zBc 100 | 1 => zBc 6 | 2 => .inr (o + 1) | _ => .inl (0, 100)) else (match k with | 0 => zBc 8 | 1 => zBc 5 | 2 => .inr (o + 1) | _ => .inl (0, 8)))
    | 2 => some (bif Nat.beq ((o - 1) % 131) 12 then (match k with | 0 => zBc 60 | 1 => zBc 4 | 2 => .inr (o + 1) | _ => zBi) else (match k with | 0 => zBc 40 | 1 => zBc 5 | 2 => .inr (o + 1) | _ => zBi))
    | 5 => some (match k with | 0 => zBc (((o - 1) % 131 - 27) / 13) | 3 => zBb | 6 => .inr (o + 1) | 7 => .inr (o + 2) | 15 => .inr (o + 3) | 16 => .inr (o + 4) | 17 => .inr (o + 5) | 18 => .inr (o + 12) | _ => zBi)
    | 1 => some (match k with | 0 => zBb | 7 => zBb | _ => zBi)
    | 0 => some zBi
    | 6 => some zBi
    | _ => none) else none
noncomputable def zSc0 (key : Nat) : Option ((Int × Int) ⊕ Nat) := zSc1 (key / 2048) (key % 2048)
/-- cells that are followed: n, now, drawn, cuts of the ring, of the first one and of the kept one; whether one is kept -/
noncomputable def zTrk (key : Nat) : Bool := Nat.beq key 4 || (Nat.blt (key % 2048) 4 && (Nat.beq (key / 2048) 1 || (Nat.beq (key / 2048) 132 || Nat.beq (key / 2048) 394)))
noncomputable def zTrw (c key : Nat) : Bool := match c with
  | 2 => !(Nat.beq (key / 2048) 132)
  | 3 => Nat.beq key 2050
  | 4 => Nat.beq key 2051
  | 5 => Nat.beq key 2049
  | 6 => Nat.beq (key / 2048) 1
  | 7 => Nat.beq (key / 2048) 394
  | _ => false
/-- 0: the check's cells are kept, and those that are followed; 1: all are; 2 to 7: all of 0's but some that are followed -/
noncomputable def zKc (c key : Nat) : Bool := Nat.beq c 1 || (Nat.ble 1075200 key || (zTrk key && !(zTrw c key)))
noncomputable def zUc (c d : Nat) : Bool := Nat.beq c d || (Nat.beq c 1 || ((Nat.beq c 0 && !(Nat.beq d 1)) || ((Nat.beq c 6 || Nat.beq c 7) && Nat.beq d 2)))
noncomputable def zCw (con : Nat → List zS) : zW := (zObj, (zSc0, (fun _ => [], (zKc, (fun _ => false, (con, (zUc, fun _ => false)))))))
theorem zOb_w : (∀ p ∈ zOb1, p.2.2 = true → p.1 = 100) ∧ ∀ p ∈ zOb2, p.2.2 = true → p.1 = 100 := by decide +kernel
theorem zGetD {α : Type} {P : α → Prop} {l : List α} {d : α} (h : ∀ p ∈ l, P p) (hd : P d) (i : Nat) : P (l.getD i d) := by
  rw [List.getD_eq_getElem?_getD]
  cases e : l[i]? with
  | none => exact hd
  | some x => exact h x (List.mem_of_getElem? e)
theorem zObj_w (o : Nat) (h : (zObj o).2.2 = true) : (zObj o).1 = 100 ∧ o < 525 := by
  unfold zObj at h ⊢
  cases c1 : Nat.beq o 0 with
  | true => rw [c1] at h; cases h
  | false =>
    rw [c1, cond_false] at h
    rw [cond_false]
    cases c2 : Nat.blt o 525 with
    | true =>
      rw [c2, cond_true] at h
      rw [cond_true]
      refine ⟨?_, blt_lt c2⟩
      cases c3 : Nat.blt ((o - 1) % 131) 27 with
      | true =>
        rw [c3, cond_true] at h
        rw [cond_true]
        exact zGetD (P := fun p : Nat × (Nat × Bool) => p.2.2 = true → p.1 = 100) zOb_w.1 (fun h => by cases h) _ h
      | false =>
        rw [c3, cond_false] at h
        rw [cond_false]
        exact zGetD (P := fun p : Nat × (Nat × Bool) => p.2.2 = true → p.1 = 100) zOb_w.2 (fun h => by cases h) _ h
    | false =>
      rw [c2, cond_false] at h
      cases c4 : Nat.beq o 525 with
      | true => rw [c4] at h; cases h
      | false => rw [c4] at h; cases h
theorem zSc1_w {o k : Nat} {s : (Int × Int) ⊕ Nat} (h : zSc1 o k = some s) : (zObj o).2.2 = false := by
  cases c : (zObj o).2.2 with
  | false => rfl
  | true =>
    have e := (zObj_w o c).1
    unfold zSc1 at h
    rw [e] at h
    cases d : (Nat.blt o 525 && Nat.blt k (zObj o).2.1) with
    | false => rw [d] at h; cases h
    | true => rw [d] at h; cases h
theorem zKc_1 (key : Nat) : zKc 1 key = true := rfl
theorem zTrk_o {key : Nat} (h : zTrk key = true) : key / 2048 = 0 ∨ key / 2048 = 1 ∨ key / 2048 = 132 ∨ key / 2048 = 394 := by
  unfold zTrk at h
  simp only [Bool.or_eq_true, Bool.and_eq_true, Nat.beq_eq, Nat.blt_eq] at h
  omega
theorem zUc_ok (c d : Nat) (h : zUc c d = true) : (d = 1 → c = 1) ∧ ∀ key, key < 2097152 → zKc d key = true → zKc c key = true := by
  rcases Bool.or_eq_true_iff.mp h with h | h
  · have h := Nat.eq_of_beq_eq_true h
    subst h
    exact ⟨fun h => h, fun _ _ h => h⟩
  rcases Bool.or_eq_true_iff.mp h with h | h
  · have h := Nat.eq_of_beq_eq_true h
    subst h
    exact ⟨fun _ => rfl, fun _ _ _ => rfl⟩
  rcases Bool.or_eq_true_iff.mp h with h | h
  · obtain ⟨h1, h2⟩ := and_inv h
    have h1 := Nat.eq_of_beq_eq_true h1
    subst h1
    refine ⟨fun e => (by rw [e] at h2; cases h2), fun key _ hk => ?_⟩
    rcases Bool.or_eq_true_iff.mp hk with hk | hk
    · rw [hk] at h2; cases h2
    · rcases Bool.or_eq_true_iff.mp hk with hk | hk
      · unfold zKc; rw [hk]; rfl
      · obtain ⟨k1, -⟩ := and_inv hk
        unfold zKc
        rw [k1]
        show (Nat.beq 0 1 || (Nat.ble 1075200 key || true)) = true
        cases Nat.ble 1075200 key <;> rfl
  · obtain ⟨h1, h2⟩ := and_inv h
    have h2 := Nat.eq_of_beq_eq_true h2
    subst h2
    refine ⟨fun e => (by cases e), fun key _ hk => ?_⟩
    rcases Bool.or_eq_true_iff.mp hk with hk | hk
    · cases hk
    · rcases Bool.or_eq_true_iff.mp hk with hk | hk
      · unfold zKc; rw [hk]; cases Nat.beq c 1 <;> rfl
      · obtain ⟨k1, k2⟩ := and_inv hk
        have k2 : (!(!(Nat.beq (key / 2048) 132))) = true := k2
        rw [Bool.not_not] at k2
        have k2 := Nat.eq_of_beq_eq_true k2
        have q : zTrw c key = false := by
          rcases Bool.or_eq_true_iff.mp h1 with h1 | h1
          · have h1 := Nat.eq_of_beq_eq_true h1
            subst h1
            show Nat.beq (key / 2048) 1 = false
            rw [k2]; rfl
          · have h1 := Nat.eq_of_beq_eq_true h1
            subst h1
            show Nat.beq (key / 2048) 394 = false
            rw [k2]; rfl
        unfold zKc
        rw [k1, q]
        cases Nat.beq c 1 <;> cases Nat.ble 1075200 key <;> rfl
theorem zCw_ok (con : Nat → List zS) : zWok (zCw con) := by
  refine ⟨fun key s h => zSc1_w h, fun key c h => (by cases h), fun c key hc h => ?_, fun key h => (by cases h), fun o h => (zObj_w o h).1, fun c d h => zUc_ok c d h, fun key => rfl, fun key h => (by cases h)⟩
  rcases Bool.or_eq_true_iff.mp h with h | h
  · exact absurd (Nat.eq_of_beq_eq_true h) hc
  rcases Bool.or_eq_true_iff.mp h with h | h
  · have h := Nat.le_of_ble_eq_true h
    cases e : (zObj (key / 2048)).2.2 with
    | false => exact e
    | true =>
      have := (zObj_w _ e).2
      omega
  · show (zObj (key / 2048)).2.2 = false
    rcases zTrk_o (and_inv h).1 with e | e | e | e
    · rw [e]; decide +kernel
    · rw [e]; decide +kernel
    · rw [e]; decide +kernel
    · rw [e]; decide +kernel
noncomputable def zXt : mMem → mMem → Prop := fun _ _ => True
theorem zXt_ok (W : zW) (c : Nat) : zXok W zXt c := ⟨fun _ _ _ _ _ => trivial, fun _ _ _ _ => trivial, fun _ _ _ => trivial⟩
