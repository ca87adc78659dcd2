/-! ===== the check's world: a box a place of its row of numbers ===== -/
noncomputable def zObR (o : Nat) : Nat × (Nat × Bool) := ((zObj o).1, ((zObj o).2.1, false))
noncomputable def zR32 : Int × Int := (-2147483648, 2147483647)
noncomputable def zRsn (k : Nat) : Int × Int := bif Nat.blt k 38 then (match k with
    | 0 => (-9, 40) | 6 => (-1, 5) | 7 => (0, 33000) | 9 => (0, 100) | 10 => (0, 2147483647) | 11 => (0, 2147483647)
    | _ => bif Nat.ble 22 k && Nat.blt k 30 then (-1, 18) else zR32) else
  bif Nat.blt k 710 then (match (k - 38) % 84 with
    | 0 => (0, 4) | 1 => (-50, 440) | 8 => (0, 500) | 9 => (0, 7) | 12 => (0, 500) | 13 => (0, 7) | 24 => (0, 10) | 38 => (0, 1) | 39 => (0, 8)
    | _ => bif Nat.ble 44 ((k - 38) % 84) && Nat.beq (((k - 38) % 84 - 44) % 5) 0 then (0, 7) else zR32) else
  bif Nat.blt k 1410 then (match (k - 710) % 7 with
    | 0 => (0, 2) | 1 => (0, 7) | 3 => (0, 7) | 4 => (0, 500) | _ => zR32) else zR32
noncomputable def zRs1 (o k : Nat) : Option ((Int × Int) ⊕ Nat) := bif Nat.beq o 526 then (bif Nat.blt k 1850 then some (.inl (zRsn k)) else none) else
  bif Nat.beq o 525 then (match k with | 0 => some zBi | 1 => some (.inr 526) | 2 => some (.inr 527) | 3 => some zBi | 4 => some zBi | 5 => some zBb | 6 => some (.inr 528) | _ => none) else none
noncomputable def zRs (key : Nat) : Option ((Int × Int) ⊕ Nat) := zRs1 (key / 2048) (key % 2048)
/-- the key of a place -/
noncomputable def zRy (k : Nat) : Nat := 1077248 + k
noncomputable def zRcF (p : Nat) : zC := (1077254, (2147483648, (0, (zRy p, (0, 3)))))
noncomputable def zRc1 (k : Nat) : List zC := bif Nat.beq k 6 then (List.range 64).map (fun j => zRcF (38 + 84 * (j / 8) + 44 + 5 * (j % 8))) else
  bif Nat.ble 38 k && Nat.blt k 710 then (match (k - 38) % 84 with
    | 0 => [(zRy k, (1, (1, (zRy (k + 12), (10, 500))))), (zRy k, (2, (2, (zRy (k + 8), (10, 500)))))]
    | 8 => [(zRy (k - 8), (2, (2, (zRy k, (10, 500)))))]
    | 12 => [(zRy (k - 12), (1, (1, (zRy k, (10, 500))))), (zRy (k + 6), (1, (1, (zRy k, (10, 500)))))]
    | 18 => [(zRy k, (1, (1, (zRy (k - 6), (10, 500)))))]
    | 24 => [(zRy k, (3, (10, (zRy (k + 15), (1, 8)))))]
    | 39 => [(zRy (k - 15), (3, (10, (zRy k, (1, 8)))))]
    | _ => bif Nat.ble 44 ((k - 38) % 84) && Nat.beq (((k - 38) % 84 - 44) % 5) 0 then [zRcF k] else []) else []
noncomputable def zRc (key : Nat) : List zC := bif Nat.beq (key / 2048) 526 then zRc1 (key % 2048) else []
/-- whether a STATION is OUT -/
noncomputable def zRo2 (k : Nat) : Bool := Nat.ble 38 k && (Nat.blt k 710 && Nat.beq ((k - 38) % 84) 38)
noncomputable def zRk2 (c k : Nat) : Bool := bif Nat.blt c 10 then Nat.beq k 6 || ((Nat.beq k 7 && !Nat.beq c 5) || ((Nat.beq k 8 && !Nat.beq c 3) || ((Nat.ble 30 k && (Nat.blt k 38 && !Nat.beq c 2)) || (zRo2 k && !Nat.beq c 4)))) else
  bif Nat.beq c 10 then !(Nat.beq k 11 || Nat.ble 1610 k) else bif Nat.beq c 11 then !(Nat.beq k 10 || (Nat.ble 1410 k && Nat.blt k 1610)) else
  bif Nat.beq c 12 then !(Nat.beq k 9 || (Nat.beq k 12 || ((Nat.ble 14 k && Nat.blt k 22) || (Nat.ble 710 k && Nat.blt k 1410)))) else
  bif Nat.beq c 13 then !(Nat.beq k 9 || (Nat.ble 710 k && Nat.blt k 1410)) else
  bif Nat.ble 20 c && Nat.blt c 28 then !(Nat.beq k (77 + 84 * (c - 20)) || (Nat.ble (82 + 84 * (c - 20)) k && Nat.blt k (122 + 84 * (c - 20)))) else
  bif Nat.ble 30 c && Nat.blt c 38 then !((Nat.ble (68 + 84 * (c - 30)) k && Nat.blt k (72 + 84 * (c - 30))) || (Nat.beq k (77 + 84 * (c - 30)) || (Nat.ble (82 + 84 * (c - 30)) k && Nat.blt k (122 + 84 * (c - 30))))) else true
noncomputable def zRk1 (c o k : Nat) : Bool := bif Nat.beq c 1 then true else bif Nat.beq o 525 then (bif Nat.blt c 10 then Nat.beq k 5 else bif Nat.blt c 30 then true else !Nat.beq k 4) else bif Nat.beq o 526 then zRk2 c k else true
noncomputable def zRkp (c key : Nat) : Bool := zRk1 c (key / 2048) (key % 2048)
noncomputable def zRct (key : Nat) : Bool := Nat.beq key 1077258 || Nat.beq key 1077259
noncomputable def zRu (c d : Nat) : Bool := Nat.beq c d || (Nat.beq c 1 || (((Nat.beq c 0 || Nat.ble 10 c) && (Nat.blt d 10 && !Nat.beq d 1)) || (Nat.ble 20 c && (Nat.blt c 28 && Nat.beq d (c + 10)))))
noncomputable def zRx (key : Nat) : Bool := Nat.beq key 1077257 || (Nat.ble 1077958 key && Nat.blt key 1078658)
noncomputable def zRw (zx : Nat → Bool) (con : Nat → List zS) : zW := (zObR, (zRs, (zRc, (zRkp, (zRct, (con, (zRu, zx)))))))
theorem zRc_chk : ∀ k, k < 2048 → (zRc1 k).all (fun c => decide (c.1 < 2097152) && (decide (c.2.2.2.1 < 2097152) && (decide (c ∈ zRc c.1) && (decide (c ∈ zRc c.2.2.2.1) && (Nat.beq (c.1 / 2048) 526 && (Nat.blt (c.1 % 2048) 1850 && (Nat.beq (c.2.2.2.1 / 2048) 526 && Nat.blt (c.2.2.2.1 % 2048) 1850))))))) = true := by decide +kernel
theorem zRs_now {key : Nat} (h1 : key / 2048 = 526) (h2 : key % 2048 < 1850) : zRs key = some (.inl (zRsn (key % 2048))) := by
  unfold zRs zRs1
  rw [h1, show Nat.blt (key % 2048) 1850 = true from by rw [Nat.blt_eq]; exact h2]
  rfl
theorem cond_i {b x y : Bool} (h1 : b = true → x = true) (h2 : b = false → y = true) : (bif b then x else y) = true := by
  cases b with
  | true => exact h1 rfl
  | false => exact h2 rfl
theorem cond_e {b x y : Bool} (h : (bif b then x else y) = true) : (b = true → x = true) ∧ (b = false → y = true) := by
  cases b with
  | true => exact ⟨fun _ => h, fun e => by cases e⟩
  | false => exact ⟨fun e => (by cases e), fun _ => h⟩
theorem not_i {b : Bool} (h : b = true → False) : (!b) = true := by
  cases b with
  | false => rfl
  | true => exact (h rfl).elim
theorem not_e {b : Bool} (h : (!b) = true) : b = true → False := fun e => by rw [e] at h; cases h
theorem blt_f {a b : Nat} (h : Nat.blt a b = false) : b ≤ a := by
  refine Nat.le_of_not_lt (fun c => ?_)
  rw [show Nat.blt a b = true from by rw [Nat.blt_eq]; exact c] at h
  cases h
theorem ble_f {a b : Nat} (h : Nat.ble a b = false) : b < a := by
  refine Nat.lt_of_not_le (fun c => ?_)
  rw [show Nat.ble a b = true from Nat.ble_eq.mpr c] at h
  cases h
theorem beq_f {a b : Nat} (h : Nat.beq a b = false) : a ≠ b := fun c => by rw [c, Nat.beq_refl] at h; cases h
theorem zRk2_a {c k : Nat} (hc : 10 ≤ c) (h : k = 6 ∨ k = 7 ∨ k = 8 ∨ (30 ≤ k ∧ k < 38) ∨ (38 ≤ k ∧ k < 710 ∧ (k - 38) % 84 = 38)) : zRk2 c k = true := by
  unfold zRk2
  refine cond_i (fun e => by have := blt_lt e; omega) (fun _ => ?_)
  refine cond_i (fun _ => not_i (fun e => ?_)) (fun _ => ?_)
  · simp only [Bool.or_eq_true, Nat.beq_eq, Nat.ble_eq] at e
    omega
  refine cond_i (fun _ => not_i (fun e => ?_)) (fun _ => ?_)
  · simp only [Bool.or_eq_true, Bool.and_eq_true, Nat.beq_eq, Nat.ble_eq, Nat.blt_eq] at e
    omega
  refine cond_i (fun _ => not_i (fun e => ?_)) (fun _ => ?_)
  · simp only [Bool.or_eq_true, Bool.and_eq_true, Nat.beq_eq, Nat.ble_eq, Nat.blt_eq] at e
    omega
  refine cond_i (fun _ => not_i (fun e => ?_)) (fun _ => ?_)
  · simp only [Bool.or_eq_true, Bool.and_eq_true, Nat.beq_eq, Nat.ble_eq, Nat.blt_eq] at e
    omega
  refine cond_i (fun c1 => not_i (fun e => ?_)) (fun _ => ?_)
  · simp only [Bool.or_eq_true, Bool.and_eq_true, Nat.beq_eq, Nat.ble_eq, Nat.blt_eq] at e c1
    omega
  refine cond_i (fun c1 => not_i (fun e => ?_)) (fun _ => rfl)
  simp only [Bool.or_eq_true, Bool.and_eq_true, Nat.beq_eq, Nat.ble_eq, Nat.blt_eq] at e c1
  omega
theorem zRk2_d {d k : Nat} (hd : d < 10) (h : zRk2 d k = true) : k = 6 ∨ k = 7 ∨ k = 8 ∨ (30 ≤ k ∧ k < 38) ∨ (38 ≤ k ∧ k < 710 ∧ (k - 38) % 84 = 38) := by
  unfold zRk2 at h
  have h := (cond_e h).1 (by rw [Nat.blt_eq]; exact hd)
  unfold zRo2 at h
  simp only [Bool.or_eq_true, Bool.and_eq_true, Nat.beq_eq, Nat.ble_eq, Nat.blt_eq] at h
  omega
theorem zRk2_0 {k : Nat} (h : k = 6 ∨ k = 7 ∨ k = 8 ∨ (30 ≤ k ∧ k < 38) ∨ (38 ≤ k ∧ k < 710 ∧ (k - 38) % 84 = 38)) : zRk2 0 k = true := by
  rcases h with rfl | rfl | rfl | h | h
  · rfl
  · rfl
  · rfl
  · obtain rfl | rfl | rfl | rfl | rfl | rfl | rfl | rfl := (by omega : k = 30 ∨ k = 31 ∨ k = 32 ∨ k = 33 ∨ k = 34 ∨ k = 35 ∨ k = 36 ∨ k = 37)
    · rfl
    · rfl
    · rfl
    · rfl
    · rfl
    · rfl
    · rfl
    · rfl
  · obtain rfl | rfl | rfl | rfl | rfl | rfl | rfl | rfl := (by omega : k = 76 ∨ k = 160 ∨ k = 244 ∨ k = 328 ∨ k = 412 ∨ k = 496 ∨ k = 580 ∨ k = 664)
    · rfl
    · rfl
    · rfl
    · rfl
    · rfl
    · rfl
    · rfl
    · rfl
theorem zRu_ok (c d : Nat) (h : zRu c d = true) : (d = 1 → c = 1) ∧ ∀ key, key < 2097152 → zRkp d key = true → zRkp c key = true := by
  rcases Bool.or_eq_true_iff.mp h with h | h
  · have h := Nat.eq_of_beq_eq_true h
    subst h
    exact ⟨fun h => h, fun _ _ h => h⟩
  rcases Bool.or_eq_true_iff.mp h with h | h
  · have h := Nat.eq_of_beq_eq_true h
    subst h
    exact ⟨fun _ => rfl, fun _ _ _ => rfl⟩
  rcases Bool.or_eq_true_iff.mp h with h | h
  · obtain ⟨h1, h⟩ := and_inv h
    obtain ⟨h2, h3⟩ := and_inv h
    have h2 := blt_lt h2
    have h3 : d ≠ 1 := fun e => by rw [e] at h3; cases h3
    rcases Bool.or_eq_true_iff.mp h1 with h1 | h1
    · have h1 := Nat.eq_of_beq_eq_true h1
      subst h1
      refine ⟨fun e => (h3 e).elim, fun key _ hk => ?_⟩
      unfold zRkp zRk1 at hk ⊢
      have hk := (cond_e hk).2 (nbeq_f h3)
      refine cond_i (fun _ => rfl) (fun _ => ?_)
      refine cond_i (fun e => ?_) (fun e => ?_)
      · have hk := (cond_e hk).1 e
        exact (cond_e hk).1 (by rw [Nat.blt_eq]; exact h2)
      · have hk := (cond_e hk).2 e
        refine cond_i (fun e => ?_) (fun _ => rfl)
        exact zRk2_0 (zRk2_d h2 ((cond_e hk).1 e))
    have h1 := Nat.le_of_ble_eq_true h1
    refine ⟨fun e => (h3 e).elim, fun key _ hk => ?_⟩
    unfold zRkp zRk1 at hk ⊢
    have hk := (cond_e hk).2 (nbeq_f h3)
    refine cond_i (fun _ => rfl) (fun _ => ?_)
    refine cond_i (fun e => ?_) (fun e => ?_)
    · have hk := (cond_e hk).1 e
      have hk := Nat.eq_of_beq_eq_true ((cond_e hk).1 (by rw [Nat.blt_eq]; exact h2))
      refine cond_i (fun e => by have := blt_lt e; omega) (fun _ => ?_)
      refine cond_i (fun _ => rfl) (fun _ => ?_)
      rw [hk]
      rfl
    · have hk := (cond_e hk).2 e
      refine cond_i (fun e => ?_) (fun _ => rfl)
      exact zRk2_a h1 (zRk2_d h2 ((cond_e hk).1 e))
  · obtain ⟨h1, h⟩ := and_inv h
    obtain ⟨h2, h3⟩ := and_inv h
    have h1 := Nat.le_of_ble_eq_true h1
    have h2 := blt_lt h2
    have h3 := Nat.eq_of_beq_eq_true h3
    subst h3
    refine ⟨fun e => by omega, fun key _ hk => ?_⟩
    unfold zRkp zRk1 at hk ⊢
    have hk := (cond_e hk).2 (nbeq_f (by omega))
    refine cond_i (fun _ => rfl) (fun _ => ?_)
    refine cond_i (fun e => ?_) (fun e => ?_)
    · refine cond_i (fun e => by have := blt_lt e; omega) (fun _ => ?_)
      exact cond_i (fun _ => rfl) (fun e => by have := blt_f e; omega)
    · have hk := (cond_e hk).2 e
      refine cond_i (fun e => ?_) (fun _ => rfl)
      have hk := (cond_e hk).1 e
      unfold zRk2 at hk ⊢
      have hk := (cond_e hk).2 (by cases q : Nat.blt (c + 10) 10 with | false => rfl | true => (have := blt_lt q; omega))
      have hk := (cond_e hk).2 (nbeq_f (by omega))
      have hk := (cond_e hk).2 (nbeq_f (by omega))
      have hk := (cond_e hk).2 (nbeq_f (by omega))
      have hk := (cond_e hk).2 (nbeq_f (by omega))
      have hk := (cond_e hk).2 (by
        cases q : (Nat.ble 20 (c + 10) && Nat.blt (c + 10) 28) with
        | false => rfl
        | true =>
          have := blt_lt (and_inv q).2
          omega)
      have hk := not_e ((cond_e hk).1 (by rw [Nat.ble_eq.mpr (by omega), show Nat.blt (c + 10) 38 = true from by rw [Nat.blt_eq]; omega]; rfl))
      refine cond_i (fun e => by have := blt_lt e; omega) (fun _ => ?_)
      refine cond_i (fun e => by have := Nat.eq_of_beq_eq_true e; omega) (fun _ => ?_)
      refine cond_i (fun e => by have := Nat.eq_of_beq_eq_true e; omega) (fun _ => ?_)
      refine cond_i (fun e => by have := Nat.eq_of_beq_eq_true e; omega) (fun _ => ?_)
      refine cond_i (fun e => by have := Nat.eq_of_beq_eq_true e; omega) (fun _ => ?_)
      refine cond_i (fun _ => not_i (fun e => hk ?_)) (fun e => ?_)
      · simp only [Bool.or_eq_true, Bool.and_eq_true, Nat.beq_eq, Nat.ble_eq, Nat.blt_eq] at e ⊢
        omega
      · exfalso
        rw [Nat.ble_eq.mpr h1, show Nat.blt c 28 = true from by rw [Nat.blt_eq]; exact h2] at e
        cases e
theorem zRw_ok (zx : Nat → Bool) (con : Nat → List zS) : zWok (zRw zx con) := by
  refine ⟨fun key s h => rfl, fun key c h => ?_, fun c key hc h => rfl, fun key h => ?_, fun o h => (by cases h), fun c d h => zRu_ok c d h, fun key => rfl, fun key h => rfl⟩
  · have h : c ∈ zRc key := h
    unfold zRc at h
    cases e : Nat.beq (key / 2048) 526 with
    | false => rw [e] at h; cases h
    | true =>
      rw [e, cond_true] at h
      have q := List.all_eq_true.mp (zRc_chk (key % 2048) (by omega)) c h
      simp only [Bool.and_eq_true, decide_eq_true_eq, Nat.beq_eq, Nat.blt_eq] at q
      obtain ⟨q1, q2, q3, q4, q5, q6, q7, q8⟩ := q
      exact ⟨q1, q2, q3, q4, ⟨_, zRs_now q5 q6⟩, ⟨_, zRs_now q7 q8⟩⟩
  · have h : zRct key = true := h
    rcases Bool.or_eq_true_iff.mp h with h | h
    · have h := Nat.eq_of_beq_eq_true h
      subst h
      exact ⟨_, zRs_now (key := 1077258) (by decide) (by decide)⟩
    · have h := Nat.eq_of_beq_eq_true h
      subst h
      exact ⟨_, zRs_now (key := 1077259) (by decide) (by decide)⟩
