/-! ===== out; written by wip/box/gen77.py ===== -/
noncomputable def zJc (j : Nat) : List (Nat × zL) := [(1077324 + 84 * j, (0, (0, (0, 0)))), (1077254, (0, (0, (zMx1 j, 5))))]
set_option maxRecDepth 100000 in
theorem y205_A : (List.range 64).all (fun q => zSeg (zRw zRx zT1) (4, (0, false)) 205 10 300 0 [(0, z525), (1, (0, (0, (((q / 8 : Nat) : Int), ((q / 8 : Nat) : Int))))), (2, (0, (0, (0, 0))))] [] (zJc (q % 8)) [] (some (some (false, (0, 1)), [(1077324 + 84 * (q % 8), (0, 0))]))) = true := by decide +kernel
set_option maxRecDepth 100000 in
theorem y205_B : (List.range 64).all (fun q => Nat.beq (q / 8) (q % 8) || zSeg (zRw zRx zT1) (4, (0, false)) 205 10 300 0 [(0, z525), (1, (0, (0, (((q / 8 : Nat) : Int), ((q / 8 : Nat) : Int))))), (2, (0, (0, (1, 1))))] [] (zJc (q % 8)) [] (some (some (false, (0, 1)), [(1077324 + 84 * (q % 8), (0, 0))]))) = true := by decide +kernel
/-- all others of n STATIONS are OUT -/
noncomputable def zOc (s n : Nat) : List (Nat × zL) := (1077254, (0, (0, ((n : Int) - 3, (n : Int) - 3)))) :: ((List.range 8).filter fun k => Nat.blt k n && !(Nat.beq k s)).map fun k => (1077324 + 84 * k, (0, (0, (1, 1))))
set_option maxRecDepth 100000 in
theorem y205_C : (List.range 56).all (fun q => zSeg (zTw0 fun _ => []) (14, (0, false)) 205 10 300 0 [(0, z525), (1, (0, (0, (((q / 7 : Nat) : Int), ((q / 7 : Nat) : Int))))), (2, (0, (0, (1, 1))))] [] (zOc (q / 7) (q % 7 + 2)) [] (some (some (false, (0, 0)), []))) = true := by decide +kernel
set_option maxRecDepth 100000 in
theorem y205_D : ([(-2147483648, -1), (8, 2147483647)] : List (Int × Int)).all (fun q => zSeg (zTw0 fun _ => []) (14, (0, false)) 205 10 300 0 [(0, z525), (1, (0, (0, q))), (2, (0, (0, (0, 1))))] [] [] [] (some (some (false, (0, 0)), []))) = true := by decide +kernel
theorem zInv_mk {b c : Nat} {N N1 : mMem} (h : zInv b N) (hg : zGood zR9 N1) (hp : zPm N1) (k1 : mAtk N1 1075205 = mAtk N 1075205) (one : zOne (zRow N1 526)) (k3 : zN N1 7 ≤ 30000) (k5 : ∀ k, k < 1850 → mAtk N1 (1081344 + k) = mAtk N (1081344 + k)) (hc : zUpto c N N1) : zInv (b + c) N1 := by
  obtain ⟨g, ⟨b1, p1, -, t1, c1, c2⟩, im⟩ := h
  have cnt : ∀ k, k = 10 ∨ k = 11 → zRow N1 526 k ≤ zRow N 526 k + (c : Int) := fun k hk => by
    obtain ⟨x, y, a, d, e⟩ := hc (1077248 + k) (by omega)
    rw [y_at _ (by omega)] at a d
    rw [zRow_int a, zRow_int d]
    exact e
  have d1 := cnt 10 (.inl rfl)
  have d2 := cnt 11 (.inr rfl)
  refine ⟨hg, ⟨zGood_row hg, zPv_N.mpr hp, one, ?_, by omega, by omega⟩, ?_⟩
  · rw [zRow_N N1 (by omega)]; exact k3
  · rcases im with im | im
    · exact .inl (k1.trans im)
    · exact .inr (zRok_ext (fun k hk => zRow_eq (by rw [← y_at8 N1 (by omega), ← y_at8 N (by omega)]; exact k5 k hk)) (zRok_le im (Nat.le_add_right b c)))
theorem zMx1_le {j : Nat} {x : Int} (h1 : -1 ≤ x) (h2 : (j : Int) < x + 3) : zMx1 j ≤ x := by
  unfold zMx1
  cases c : Nat.blt j 2 with
  | true => exact h1
  | false => show (j : Int) - 2 ≤ x; omega
section YOU
variable {xs : Nat → Int32} {L : Nat}
theorem zN_cell {b : Nat} {N : mMem} (h : zInv b N) {k : Nat} (hk : k < 1850) : ∃ x : Int32, mAtk N (1077248 + k) = .int x ∧ zN N k = x.toInt ∧ (zRsn k).1 ≤ x.toInt ∧ x.toInt ≤ (zRsn k).2 := by
  obtain ⟨x, a, c⟩ := zGood_int h.1 hk
  exact ⟨x, by rw [y_at N (by omega)]; exact a, by rw [← zRow_N N (by omega), zRow_int a], c⟩
theorem y205 (H : ∀ mi, ∀ i ∈ zQt mi, zVal zR9 zXp mTab mInf (sXNl L) (sXF xs) mi i) {b : Nat} {N : mMem} (hI : zInv b N) (hb : b ≤ 2147483647) (s is : Int32) (his : is.toInt = 0 ∨ is.toInt = 1) :
    ∃ v N1, mRuns mTab mInf (sXNl L) (sXF xs) 10 300 205 (0, lv_args 0 [.ref 525, .int s, .int is], [], N) (some (.int v), N1) ∧ zInv b N1 ∧ zMv N N1 ∧ zF True True True N N1 := by
  have hp := zInv_pm hI
  have hg := hI.1
  obtain ⟨t, t0, t1, t2, t3⟩ := zInv_t hI
  have hroom : zRoom zR9 0 N := zInv_room hI (by omega)
  obtain ⟨n, n0, n1, n2, n3⟩ := zN_cell hI (k := 6) (by omega)
  have n2 : -1 ≤ n.toInt := n2
  have n3 : n.toInt ≤ 5 := n3
  have bad : ∀ rt : zQe, rt.1 = some (false, (0, 0)) → (∃ z, mRuns mTab mInf (sXNl L) (sXF xs) 10 300 205 (0, lv_args 0 [.ref 525, .int s, .int is], [], N) z ∧ zGood (zTw0 fun _ => []) z.2 ∧ zRl (zTw0 fun _ => []) zXp 14 0 N z.2 ∧ zAnV rt.1 z.1 ∧ zCs z.2 rt.2) →
      ∃ v N1, mRuns mTab mInf (sXNl L) (sXF xs) 10 300 205 (0, lv_args 0 [.ref 525, .int s, .int is], [], N) (some (.int v), N1) ∧ zInv b N1 ∧ zMv N N1 ∧ zF True True True N N1 := fun rt hrt hz => by
    obtain ⟨⟨zv, zm⟩, z1, z2, z3, z4, -⟩ := hz
    rw [hrt] at z4
    obtain ⟨x, hx, q1, q2⟩ := z4
    have hx : zv = some (.int x) := hx
    subst hx
    obtain ⟨-, k2, k3, k4, k5⟩ := zRk_14 z3
    exact ⟨x, zm, z1, zInv_from hI k2 k3 z2 z3.2.2.2.2.2.2 (by rw [zN_eq (N := N) (k := 7) (k2.2.2.1 trivial)]; omega) k4, k5, k2⟩
  have good : ∀ (rt : zQe) (j : Nat), j < 8 → (j : Int) < zN N 6 + 3 → rt = (some (false, (0, 1)), [(1077324 + 84 * j, (0, 0))]) → (∃ z, mRuns mTab mInf (sXNl L) (sXF xs) 10 300 205 (0, lv_args 0 [.ref 525, .int s, .int is], [], N) z ∧ zGood (zRw zRx zT1) z.2 ∧ zRl (zRw zRx zT1) zXp 4 0 N z.2 ∧ zAnV rt.1 z.1 ∧ zCs z.2 rt.2) →
      ∃ v N1, mRuns mTab mInf (sXNl L) (sXF xs) 10 300 205 (0, lv_args 0 [.ref 525, .int s, .int is], [], N) (some (.int v), N1) ∧ zInv b N1 ∧ zMv N N1 ∧ zF True True True N N1 := fun rt j hj hjn hrt hz => by
    subst hrt
    obtain ⟨⟨zv, zm⟩, z1, z2, z3, z4, z5⟩ := hz
    obtain ⟨x, hx, q1, q2⟩ := z4
    have hx : zv = some (.int x) := hx
    subst hx
    obtain ⟨k2, -, k4⟩ := zRk_k (.inr (.inr (.inr (.inl rfl)))) z3
    obtain ⟨o, o1, o2, o3⟩ := z5 (1077324 + 84 * j, (0, 0)) List.mem_cons_self
    have o1 : mAtk zm (1077324 + 84 * j) = .int o := o1
    have o2 : 0 ≤ o.toInt := o2
    have o3 : o.toInt ≤ 0 := o3
    have e7 : zN zm 7 = zN N 7 := zN_eq (k2.2.2.1 (by omega))
    refine ⟨x, zm, z1, zInv_mk (c := 0) hI z2 z3.2.2.2.2.2.2 k2.1 ⟨j, hj, ?_, ?_⟩ (by omega) k2.2.2.2.2.2 k4, zMv_rl z3, zF_w k2 (fun _ => by omega) (fun _ => by omega) (fun _ => by omega)⟩
    · rw [zRow_N zm (by omega), zN_eq (N := N) (k := 6) k2.2.1]; exact hjn
    · rw [zRow_N zm (by omega), zN_int (k := 76 + 84 * j) (x := o) (by rw [show 1077248 + (76 + 84 * j) = 1077324 + 84 * j by omega]; exact o1)]
      omega
  have ls : ∀ q r : Int × Int, q.1 ≤ s.toInt → s.toInt ≤ q.2 → r.1 ≤ is.toInt → is.toInt ≤ r.2 → ∀ p ∈ ([(0, z525), (1, (0, (0, q))), (2, (0, (0, r)))] : List (Nat × zL)), ∃ v, mLk (lv_args 0 [.ref 525, .int s, .int is]) p.1 = some v ∧ zLv [] p.2 v := fun q r q1 q2 r1 r2 p hp => by
    simp only [List.mem_cons, List.not_mem_nil, or_false] at hp
    rcases hp with rfl | rfl | rfl
    · exact ⟨.ref 525, rfl, rfl⟩
    · exact ⟨.int s, rfl, s, rfl, q1, q2⟩
    · exact ⟨.int is, rfl, is, rfl, r1, r2⟩
  have jc : ∀ j : Nat, j < 8 → (j : Int) < zN N 6 + 3 → zN N (76 + 84 * j) = 0 → ∀ q ∈ zJc j, zLv [] q.2 (mAtk N q.1) := fun j hj j2 j3 q hq => by
    unfold zJc at hq
    simp only [List.mem_cons, List.not_mem_nil, or_false] at hq
    rcases hq with rfl | rfl
    · obtain ⟨x, x0, x1, -⟩ := zN_cell hI (k := 76 + 84 * j) (by omega)
      rw [show 1077248 + (76 + 84 * j) = 1077324 + 84 * j by omega] at x0
      exact ⟨x, x0, by show (0 : Int) ≤ _; omega, by show _ ≤ (0 : Int); omega⟩
    · exact ⟨n, n0, zMx1_le n2 (by omega), n3⟩
  by_cases c : 0 ≤ s.toInt ∧ s.toInt ≤ 7
  · obtain ⟨k, hk⟩ : ∃ k : Nat, s.toInt = (k : Int) := ⟨s.toInt.toNat, by omega⟩
    have hk8 : k < 8 := by omega
    obtain ⟨j, j1, j2, j3⟩ := hI.2.1.2.2.1
    rw [zRow_N N (by omega)] at j2
    rw [zRow_N N (by omega)] at j3
    rcases his with his | his
    · have w := List.all_eq_true.mp y205_A (8 * k + j) (List.mem_range.mpr (by omega))
      rw [show (8 * k + j) / 8 = k by omega, show (8 * k + j) % 8 = j by omega] at w
      rcases zSeg_snd (R := (4, (0, false))) (X := zXp) (N := N) (V := []) (Nl := lv_args 0 [.ref 525, .int s, .int is]) (XN := sXNl L) (XF := sXF xs) w (zRw_ok _ _) zXp_ok (fun mi i hi => H mi i (List.mem_filter.mp hi).1) (zSx_x xs L) ⟨hp, hp⟩ hg hroom (ls ((k : Int), (k : Int)) (0, 0) (by show (k : Int) ≤ _; omega) (by show _ ≤ (k : Int); omega) (by show (0 : Int) ≤ _; omega) (by show _ ≤ (0 : Int); omega)) trivial (jc j j1 j2 j3) with ⟨p, hpm, -⟩ | ⟨rt, hrt, hz⟩
      · cases hpm
      · cases hrt
        exact good _ j j1 j2 rfl hz
    · by_cases d : ∃ i : Nat, i < 8 ∧ i ≠ k ∧ (i : Int) < zN N 6 + 3 ∧ zN N (76 + 84 * i) = 0
      · obtain ⟨i, i1, i2, i3, i4⟩ := d
        have w := List.all_eq_true.mp y205_B (8 * k + i) (List.mem_range.mpr (by omega))
        rw [show (8 * k + i) / 8 = k by omega, show (8 * k + i) % 8 = i by omega, nbeq_f (Ne.symm i2), Bool.false_or] at w
        rcases zSeg_snd (R := (4, (0, false))) (X := zXp) (N := N) (V := []) (Nl := lv_args 0 [.ref 525, .int s, .int is]) (XN := sXNl L) (XF := sXF xs) w (zRw_ok _ _) zXp_ok (fun mi i hi => H mi i (List.mem_filter.mp hi).1) (zSx_x xs L) ⟨hp, hp⟩ hg hroom (ls ((k : Int), (k : Int)) (1, 1) (by show (k : Int) ≤ _; omega) (by show _ ≤ (k : Int); omega) (by show (1 : Int) ≤ _; omega) (by show _ ≤ (1 : Int); omega)) trivial (jc i i1 i3 i4) with ⟨p, hpm, -⟩ | ⟨rt, hrt, hz⟩
        · cases hpm
        · cases hrt
          exact good _ i i1 i3 rfl hz
      · obtain ⟨m, hm⟩ : ∃ m : Nat, n.toInt = (m : Int) - 1 := ⟨(n.toInt + 1).toNat, by omega⟩
        have w := List.all_eq_true.mp y205_C (7 * k + m) (List.mem_range.mpr (by omega))
        rw [show (7 * k + m) / 7 = k by omega, show (7 * k + m) % 7 = m by omega] at w
        rcases zSeg_snd (R := (14, (0, false))) (X := zXp) (N := N) (V := []) (Nl := lv_args 0 [.ref 525, .int s, .int is]) (XN := sXNl L) (XF := sXF xs) w (zTw0_ok _) zTp_ok (fun _ _ h => by cases h) (zSx_x xs L) ⟨hp, hp⟩ hg hroom (ls ((k : Int), (k : Int)) (1, 1) (by show (k : Int) ≤ _; omega) (by show _ ≤ (k : Int); omega) (by show (1 : Int) ≤ _; omega) (by show _ ≤ (1 : Int); omega)) trivial (fun q hq => by
          unfold zOc at hq
          rcases List.mem_cons.mp hq with rfl | hq
          · exact ⟨n, n0, by show ((m + 2 : Nat) : Int) - 3 ≤ _; omega, by show _ ≤ ((m + 2 : Nat) : Int) - 3; omega⟩
          · obtain ⟨i, hi, rfl⟩ := List.mem_map.mp hq
            obtain ⟨i1, i2⟩ := List.mem_filter.mp hi
            have i1 := List.mem_range.mp i1
            obtain ⟨i3, i4⟩ := and_inv i2
            have i3 := blt_lt i3
            have i5 : i ≠ k := fun e => by rw [e, Nat.beq_refl] at i4; cases i4
            obtain ⟨x, x0, x1, x2, x3⟩ := zN_cell hI (k := 76 + 84 * i) (by omega)
            have bx : zRsn (76 + 84 * i) = (0, 1) := by
              obtain rfl | rfl | rfl | rfl | rfl | rfl | rfl | rfl := (by omega : i = 0 ∨ i = 1 ∨ i = 2 ∨ i = 3 ∨ i = 4 ∨ i = 5 ∨ i = 6 ∨ i = 7) <;> rfl
            rw [bx] at x2 x3
            have x2 : 0 ≤ x.toInt := x2
            have x3 : x.toInt ≤ 1 := x3
            have ne : zN N (76 + 84 * i) ≠ 0 := fun e => d ⟨i, i1, i5, by omega, e⟩
            rw [show 1077248 + (76 + 84 * i) = 1077324 + 84 * i by omega] at x0
            exact ⟨x, x0, by show (1 : Int) ≤ _; omega, by show _ ≤ (1 : Int); omega⟩) with ⟨p, hpm, -⟩ | ⟨rt, hrt, hz⟩
        · cases hpm
        · cases hrt
          exact bad _ rfl hz
  · obtain ⟨q, hq, q1, q2⟩ : ∃ q : Int × Int, q ∈ ([(-2147483648, -1), (8, 2147483647)] : List (Int × Int)) ∧ q.1 ≤ s.toInt ∧ s.toInt ≤ q.2 := by
      have g := i32_rg s
      by_cases d : s.toInt ≤ -1
      · exact ⟨_, List.mem_cons_self, g.1, d⟩
      · exact ⟨_, List.mem_cons_of_mem _ List.mem_cons_self, by show (8 : Int) ≤ _; omega, g.2⟩
    rcases zSeg_snd (R := (14, (0, false))) (X := zXp) (N := N) (V := []) (Nl := lv_args 0 [.ref 525, .int s, .int is]) (XN := sXNl L) (XF := sXF xs) (List.all_eq_true.mp y205_D q hq) (zTw0_ok _) zTp_ok (fun _ _ h => by cases h) (zSx_x xs L) ⟨hp, hp⟩ hg hroom (ls q (0, 1) q1 q2 (by show (0 : Int) ≤ _; omega) (by show _ ≤ (1 : Int); omega)) trivial (fun q hq => by cases hq) with ⟨p, hpm, -⟩ | ⟨rt, hrt, hz⟩
    · cases hpm
    · cases hrt
      exact bad _ rfl hz
end YOU
