/-! ===== stream: the answer on both sides; written by wip/box/gen84d.py ===== -/
noncomputable def w8OK (n s p l : Int) : Int := if 0 ≤ s ∧ s < n ∧ (p = 0 ∨ (20 ≤ p ∧ p ≤ 999 ∧ 1 ≤ l ∧ l ≤ 99)) then 1 else 0
noncomputable def w8Cmb : List ((Int × Int) × ((Int × Int) × Int)) := [((0, 0), (zR32, 1)), ((20, 999), ((1, 99), 1)), ((-2147483648, -1), (zR32, 0)), ((1, 19), (zR32, 0)), ((1000, 2147483647), (zR32, 0)), ((20, 999), ((-2147483648, 0), 0)), ((20, 999), ((100, 2147483647), 0))]
theorem w8Cmb_ok (p l : Int32) : ∃ c ∈ w8Cmb, (c.1.1 ≤ p.toInt ∧ p.toInt ≤ c.1.2) ∧ (c.2.1.1 ≤ l.toInt ∧ l.toInt ≤ c.2.1.2) ∧ ∀ n s : Int, 0 ≤ s → s < n → w8OK n s p.toInt l.toInt = c.2.2 := by
  have gp := i32_rg p
  have gl := i32_rg l
  by_cases c0 : p.toInt = 0
  · exact ⟨((0, 0), (zR32, 1)), by unfold w8Cmb; simp only [List.mem_cons, true_or, or_true], ⟨by show (0 : Int) ≤ _; omega, by show _ ≤ (0 : Int); omega⟩, z32 l, fun n s a b => if_pos ⟨a, b, .inl c0⟩⟩
  by_cases c1 : p.toInt < 0
  · exact ⟨((-2147483648, -1), (zR32, 0)), by unfold w8Cmb; simp only [List.mem_cons, true_or, or_true], ⟨gp.1, by show _ ≤ (-1 : Int); omega⟩, z32 l, fun n s a b => if_neg (by omega)⟩
  by_cases c2 : p.toInt < 20
  · exact ⟨((1, 19), (zR32, 0)), by unfold w8Cmb; simp only [List.mem_cons, true_or, or_true], ⟨by show (1 : Int) ≤ _; omega, by show _ ≤ (19 : Int); omega⟩, z32 l, fun n s a b => if_neg (by omega)⟩
  by_cases c3 : 999 < p.toInt
  · exact ⟨((1000, 2147483647), (zR32, 0)), by unfold w8Cmb; simp only [List.mem_cons, true_or, or_true], ⟨by show (1000 : Int) ≤ _; omega, gp.2⟩, z32 l, fun n s a b => if_neg (by omega)⟩
  have cp : (20 : Int) ≤ p.toInt ∧ p.toInt ≤ 999 := by omega
  by_cases c4 : l.toInt < 1
  · exact ⟨((20, 999), ((-2147483648, 0), 0)), by unfold w8Cmb; simp only [List.mem_cons, true_or, or_true], cp, ⟨gl.1, by show _ ≤ (0 : Int); omega⟩, fun n s a b => if_neg (by omega)⟩
  by_cases c5 : 99 < l.toInt
  · exact ⟨((20, 999), ((100, 2147483647), 0)), by unfold w8Cmb; simp only [List.mem_cons, true_or, or_true], cp, ⟨by show (100 : Int) ≤ _; omega, gl.2⟩, fun n s a b => if_neg (by omega)⟩
  exact ⟨((20, 999), ((1, 99), 1)), by unfold w8Cmb; simp only [List.mem_cons, true_or, or_true], cp, ⟨by show (1 : Int) ≤ _; omega, by show _ ≤ (99 : Int); omega⟩, fun n s a b => if_pos ⟨a, b, .inr (by omega)⟩⟩
theorem w8Bad_ok {n s p l : Int} (h : ¬ (0 ≤ s ∧ s < n)) : w8OK n s p l = 0 := if_neg (fun q => h ⟨q.1, q.2.1⟩)
noncomputable def w8Ls (v : zL) (s p l : Int × Int) : List (Nat × zL) := [(0, v), (1, (0, (0, s))), (2, (0, (0, p))), (3, (0, (0, l)))]
theorem w8Ls_ok {v : zL} {o : Nat} (hv : zLv [] v (.ref o)) {s p l : Int32} {a b c : Int × Int} (ha : a.1 ≤ s.toInt ∧ s.toInt ≤ a.2) (hb : b.1 ≤ p.toInt ∧ p.toInt ≤ b.2) (hc : c.1 ≤ l.toInt ∧ l.toInt ≤ c.2) : ∀ q ∈ w8Ls v a b c, ∃ w, mLk (lv_args 0 [.ref o, .int s, .int p, .int l]) q.1 = some w ∧ zLv [] q.2 w := fun q hq => by
  unfold w8Ls at hq
  simp only [List.mem_cons, List.not_mem_nil, or_false] at hq
  rcases hq with rfl | rfl | rfl | rfl
  · exact ⟨.ref o, rfl, hv⟩
  · exact ⟨.int s, rfl, s, rfl, ha⟩
  · exact ⟨.int p, rfl, p, rfl, hb⟩
  · exact ⟨.int l, rfl, l, rfl, hc⟩
noncomputable def w8K (k : Nat) : Int × Int := ((k : Int), (k : Int))
noncomputable def w8E (a : Int) : zQe := (some (false, (a, a)), [])
set_option maxRecDepth 100000 in
theorem y96_A : (List.range 56).all (fun q => !(Nat.blt (q % 8) (q / 8 + 2)) || w8Cmb.all fun c => zSeg zC0 (0, (0, false)) 96 10 300 0 (w8Ls (2, (0, (0, 0))) (w8K (q % 8)) c.1 c.2.1) [] [(2048, (0, (0, w8K (q / 8 + 2))))] [] (some (w8E c.2.2))) = true := by decide +kernel
set_option maxRecDepth 100000 in
theorem y96_B : (List.range 7).all (fun q => ([(-2147483648, -1), (((q + 2 : Nat) : Int), 2147483647)] : List (Int × Int)).all fun r => zSeg zC0 (0, (0, false)) 96 10 300 0 (w8Ls (2, (0, (0, 0))) r zR32 zR32) [] [(2048, (0, (0, w8K (q + 2))))] [] (some (w8E 0))) = true := by decide +kernel
noncomputable def w8W : zW := zRw zRx fun _ => []
set_option maxRecDepth 100000 in
theorem y156_A : (List.range 56).all (fun q => !(Nat.blt (q % 8) (q / 8 + 2)) || w8Cmb.all fun c => zSeg w8W (0, (0, false)) 156 10 300 0 (w8Ls z525 (w8K (q % 8)) c.1 c.2.1) [] [(1077254, (0, (0, (((q / 8 : Nat) : Int) - 1, ((q / 8 : Nat) : Int) - 1))))] [] (some (w8E c.2.2))) = true := by decide +kernel
set_option maxRecDepth 100000 in
theorem y156_B : (List.range 7).all (fun q => ([(-2147483648, -1), (((q + 2 : Nat) : Int), 2147483647)] : List (Int × Int)).all fun r => zSeg w8W (0, (0, false)) 156 10 300 0 (w8Ls z525 r zR32 zR32) [] [(1077254, (0, (0, (((q : Nat) : Int) - 1, ((q : Nat) : Int) - 1))))] [] (some (w8E 0))) = true := by decide +kernel
section YST9
variable {xs : Nat → Int32} {L : Nat}
theorem y96 {b : Nat} {N : mMem} (hI : zAll b N) {n : Int32} (hn : mAtk N 2048 = .int n) (s p l : Int32) :
    ∃ v N1, mRuns mTab mInf (sXNl L) (sXF xs) 10 300 96 (0, lv_args 0 [.ref 0, .int s, .int p, .int l], [], N) (some (.int v), N1) ∧ zAll b N1 ∧ zRl zC0 zXt 0 0 N N1 ∧ v.toInt = w8OK n.toInt s.toInt p.toInt l.toInt := by
  have hg := hI.1
  obtain ⟨n', e1, e2⟩ := cCell hg (o := 1) (k := 0) (.inl rfl) (by omega)
  have en : n' = n := Value.int.inj (e1.symm.trans hn)
  subst en
  obtain ⟨n2, n3⟩ := e2 rfl
  obtain ⟨m, hm⟩ : ∃ m : Nat, n'.toInt = ((m + 2 : Nat) : Int) := ⟨(n'.toInt - 2).toNat, by omega⟩
  have fin : ∀ {A : Int × Int} {B : Int × Int} {C : Int × Int} {a : Int}, zSeg zC0 (0, (0, false)) 96 10 300 0 (w8Ls (2, (0, (0, 0))) A B C) [] [(2048, (0, (0, w8K (m + 2))))] [] (some (w8E a)) = true → (A.1 ≤ s.toInt ∧ s.toInt ≤ A.2) → (B.1 ≤ p.toInt ∧ p.toInt ≤ B.2) → (C.1 ≤ l.toInt ∧ l.toInt ≤ C.2) → w8OK n'.toInt s.toInt p.toInt l.toInt = a →
      ∃ v N1, mRuns mTab mInf (sXNl L) (sXF xs) 10 300 96 (0, lv_args 0 [.ref 0, .int s, .int p, .int l], [], N) (some (.int v), N1) ∧ zAll b N1 ∧ zRl zC0 zXt 0 0 N N1 ∧ v.toInt = w8OK n'.toInt s.toInt p.toInt l.toInt := fun {A B C a} w ha hb hc hk => by
    rcases zSeg_snd (R := (0, (0, false))) (X := zXt) (N := N) (V := []) (Nl := lv_args 0 [.ref 0, .int s, .int p, .int l]) (XN := sXNl L) (XF := sXF xs) w (zCw_ok _) (zXt_ok _ _) (fun _ _ h => by cases h) (zSx_x xs L) trivial hg (fun key _ h => by cases h) (w8Ls_ok (v := (2, (0, (0, 0)))) (o := 0) rfl ha hb hc) trivial (fun q hq => by
        simp only [List.mem_cons, List.not_mem_nil, or_false] at hq
        subst hq
        exact ⟨n', e1, by show ((m + 2 : Nat) : Int) ≤ _; omega, by show _ ≤ ((m + 2 : Nat) : Int); omega⟩) with ⟨p, hpm, -⟩ | ⟨rt, hrt, ⟨zv, zm⟩, z1, z2, z3, z4, -⟩
    · cases hpm
    · cases hrt
      obtain ⟨x, hx, q1, q2⟩ := z4
      have hx : zv = some (.int x) := hx
      subst hx
      have q1 : a ≤ x.toInt := q1
      have q2 : x.toInt ≤ a := q2
      exact ⟨x, zm, z1, ⟨z2, zInv_c hI.2 z2 (cK_rl (o := 9999) (q := 0) (fun key a b => rfl) z3).2.1⟩, z3, by omega⟩
  by_cases c : 0 ≤ s.toInt ∧ s.toInt < n'.toInt
  · obtain ⟨k, hk⟩ : ∃ k : Nat, s.toInt = (k : Int) := ⟨s.toInt.toNat, by omega⟩
    obtain ⟨cb, hcb, u1, u2, u3⟩ := w8Cmb_ok p l
    have w := List.all_eq_true.mp y96_A (8 * m + k) (List.mem_range.mpr (by omega))
    rw [show (8 * m + k) / 8 = m by omega, show (8 * m + k) % 8 = k by omega, show Nat.blt k (m + 2) = true from by rw [Nat.blt_eq]; omega, Bool.not_true, Bool.false_or] at w
    exact fin (List.all_eq_true.mp w cb hcb) ⟨by show (k : Int) ≤ _; omega, by show _ ≤ (k : Int); omega⟩ u1 u2 (u3 _ _ c.1 c.2)
  · obtain ⟨r, hr, q1, q2⟩ : ∃ r : Int × Int, r ∈ ([(-2147483648, -1), (((m + 2 : Nat) : Int), 2147483647)] : List (Int × Int)) ∧ r.1 ≤ s.toInt ∧ s.toInt ≤ r.2 := by
      have g := i32_rg s
      by_cases d : s.toInt ≤ -1
      · exact ⟨_, List.mem_cons_self, g.1, d⟩
      · exact ⟨_, List.mem_cons_of_mem _ List.mem_cons_self, by show ((m + 2 : Nat) : Int) ≤ _; omega, g.2⟩
    exact fin (List.all_eq_true.mp (List.all_eq_true.mp y96_B m (List.mem_range.mpr (by omega))) r hr) ⟨q1, q2⟩ (z32 p) (z32 l) (w8Bad_ok c)
theorem y156 {b : Nat} {N : mMem} (hI : zInv b N) (hb : b ≤ 2147483647) {x : Int32} (hx : mAtk N 1077254 = .int x) (s p l : Int32) :
    ∃ v N1, mRuns mTab mInf (sXNl L) (sXF xs) 10 300 156 (0, lv_args 0 [.ref 525, .int s, .int p, .int l], [], N) (some (.int v), N1) ∧ zInv b N1 ∧ zMv N N1 ∧ zF True True True N N1 ∧ v.toInt = w8OK (x.toInt + 3) s.toInt p.toInt l.toInt := by
  have hp := zInv_pm hI
  have hg := hI.1
  obtain ⟨t, t0, t1, t2, t3⟩ := zInv_t hI
  have hroom : zRoom zR9 0 N := zInv_room hI (by omega)
  obtain ⟨n, n0, n1, n2, n3⟩ := zN_cell hI (k := 6) (by omega)
  have n2 : -1 ≤ n.toInt := n2
  have n3 : n.toInt ≤ 5 := n3
  have en : n = x := Value.int.inj (n0.symm.trans hx)
  subst en
  obtain ⟨m, hm⟩ : ∃ m : Nat, n.toInt = (m : Int) - 1 := ⟨(n.toInt + 1).toNat, by omega⟩
  have fin : ∀ {A : Int × Int} {B : Int × Int} {C : Int × Int} {a : Int}, zSeg w8W (0, (0, false)) 156 10 300 0 (w8Ls z525 A B C) [] [(1077254, (0, (0, ((m : Int) - 1, (m : Int) - 1))))] [] (some (w8E a)) = true → (A.1 ≤ s.toInt ∧ s.toInt ≤ A.2) → (B.1 ≤ p.toInt ∧ p.toInt ≤ B.2) → (C.1 ≤ l.toInt ∧ l.toInt ≤ C.2) → w8OK (n.toInt + 3) s.toInt p.toInt l.toInt = a →
      ∃ v N1, mRuns mTab mInf (sXNl L) (sXF xs) 10 300 156 (0, lv_args 0 [.ref 525, .int s, .int p, .int l], [], N) (some (.int v), N1) ∧ zInv b N1 ∧ zMv N N1 ∧ zF True True True N N1 ∧ v.toInt = w8OK (n.toInt + 3) s.toInt p.toInt l.toInt := fun {A B C a} w ha hb hc hk => by
    rcases zSeg_snd (R := (0, (0, false))) (X := zXp) (N := N) (V := []) (Nl := lv_args 0 [.ref 525, .int s, .int p, .int l]) (XN := sXNl L) (XF := sXF xs) w (zRw_ok _ _) zXp_ok (fun _ _ h => by cases h) (zSx_x xs L) ⟨hp, hp⟩ hg hroom (w8Ls_ok (v := z525) (o := 525) rfl ha hb hc) trivial (fun q hq => by
        simp only [List.mem_cons, List.not_mem_nil, or_false] at hq
        subst hq
        exact ⟨n, n0, by show (m : Int) - 1 ≤ _; omega, by show _ ≤ (m : Int) - 1; omega⟩) with ⟨p, hpm, -⟩ | ⟨rt, hrt, ⟨zv, zm⟩, z1, z2, z3, z4, -⟩
    · cases hpm
    · cases hrt
      obtain ⟨y, hy, q1, q2⟩ := z4
      have hy : zv = some (.int y) := hy
      subst hy
      have q1 : a ≤ y.toInt := q1
      have q2 : y.toInt ≤ a := q2
      obtain ⟨k2, ko, k4⟩ := zRk_k (.inl rfl) z3
      have e7 : zN zm 7 = zN N 7 := zN_eq (k2.2.2.1 (by omega))
      exact ⟨y, zm, z1, zInv_from hI k2 (ko (by omega)) z2 z3.2.2.2.2.2.2 (show zN zm 7 ≤ 30000 by omega) k4, zMv_rl z3, zF_w k2 (fun _ => by omega) (fun _ => by omega) (fun _ => by omega), by omega⟩
  by_cases c : 0 ≤ s.toInt ∧ s.toInt < n.toInt + 3
  · obtain ⟨k, hk⟩ : ∃ k : Nat, s.toInt = (k : Int) := ⟨s.toInt.toNat, by omega⟩
    obtain ⟨cb, hcb, u1, u2, u3⟩ := w8Cmb_ok p l
    have w := List.all_eq_true.mp y156_A (8 * m + k) (List.mem_range.mpr (by omega))
    rw [show (8 * m + k) / 8 = m by omega, show (8 * m + k) % 8 = k by omega, show Nat.blt k (m + 2) = true from by rw [Nat.blt_eq]; omega, Bool.not_true, Bool.false_or] at w
    exact fin (List.all_eq_true.mp w cb hcb) ⟨by show (k : Int) ≤ _; omega, by show _ ≤ (k : Int); omega⟩ u1 u2 (u3 _ _ c.1 c.2)
  · obtain ⟨r, hr, q1, q2⟩ : ∃ r : Int × Int, r ∈ ([(-2147483648, -1), (((m + 2 : Nat) : Int), 2147483647)] : List (Int × Int)) ∧ r.1 ≤ s.toInt ∧ s.toInt ≤ r.2 := by
      have g := i32_rg s
      by_cases d : s.toInt ≤ -1
      · exact ⟨_, List.mem_cons_self, g.1, d⟩
      · exact ⟨_, List.mem_cons_of_mem _ List.mem_cons_self, by show ((m + 2 : Nat) : Int) ≤ _; omega, g.2⟩
    exact fin (List.all_eq_true.mp (List.all_eq_true.mp y156_B m (List.mem_range.mpr (by omega))) r hr) ⟨q1, q2⟩ (z32 p) (z32 l) (w8Bad_ok c)
end YST9
