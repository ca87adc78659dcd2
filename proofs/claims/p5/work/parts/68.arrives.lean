/-! ===== arrives: what is agreed of it holds, and one that is due leaves ===== -/
noncomputable def zKa (c : Nat) (_ : List (Nat × sV)) (_ : List sV) (_ : zO) : zK := fun B r => match r with
  | .inr _ => false
  | .inl (pc, L, S, M) => Nat.beq pc 64 && (zR0 L && (zStk2 (c : Int) S && (zFi B L 4 0 7 && (zFi B L 5 0 7 && (zFi B L 7 (-2147483648) 2147483647 && (zFi B L 3 0 2 && (zFi B L 6 0 500 && (zIsL M.1 (1077958 + 7 * c) L 3 && zIsL M.1 (1077962 + 7 * c) L 6))))))))
set_option maxRecDepth 100000 in
theorem y185_1 : (List.range 100).all (fun c => zRunS mTab mInf (zQr zRx 4) (1, (0, false)) sXX (fun pc => Nat.beq pc 64) 3000 6 140 185 0 [(0, (2, (525, (0, 0)))), (1, (0, (0, ((c : Int), (c : Int)))))] [] [] (zKa c)) = true := by decide +kernel
noncomputable def zLa (k : Int) (b : Int × Int) : List (Nat × zL) := [(0, (2, (525, (0, 0)))), (3, (0, (0, (k, k)))), (4, (0, (0, (0, 7)))), (5, (0, (0, (0, 7)))), (6, (0, (0, b))), (7, (0, (0, zR32)))]
set_option maxRecDepth 100000 in
theorem y185_20 : zRunS mTab mInf (zQr zRx 4) (0, (1, false)) sXX (fun _ => false) 3000 6 140 185 67 (zLa 0 (10, 500)) [] [] (fun _ _ _ => zFin (zQr zRx 4) 1 none) = true := by decide +kernel
set_option maxRecDepth 100000 in
theorem y185_22 : zRunS mTab mInf (zQr zRx 4) (0, (1, false)) sXX (fun _ => false) 3000 6 140 185 67 (zLa 2 (10, 500)) [] [] (fun _ _ _ => zFin (zQr zRx 4) 1 none) = true := by decide +kernel
set_option maxRecDepth 100000 in
theorem y185_21 : zRunS mTab mInf (zQr zRx 4) (0, (1, false)) sXX (fun _ => false) 3000 6 140 185 67 (zLa 1 (0, 500)) [] [] (fun _ _ _ => zFin (zQr zRx 4) 1 none) = true := by decide +kernel
theorem h_185_64 : mFind (mTab 185) 64 = some (64, 3, .invokevirtual 119, .invokevirtual 119, 0, 165, 8, 1133) := mFb_eq (by decide +kernel)
section YAR
variable {xs : Nat → Int32} {L : Nat} {N : mMem}
theorem zLa_ok {Nl : List (Nat × Value)} {k : Int} {b : Int × Int} {x4 x5 x7 : Int32} (h0 : mLk Nl 0 = some (.ref 525)) (h3 : ∃ y : Int32, mLk Nl 3 = some (.int y) ∧ k ≤ y.toInt ∧ y.toInt ≤ k) (h4 : mLk Nl 4 = some (.int x4) ∧ 0 ≤ x4.toInt ∧ x4.toInt ≤ 7) (h5 : mLk Nl 5 = some (.int x5) ∧ 0 ≤ x5.toInt ∧ x5.toInt ≤ 7)
    (h6 : ∃ y : Int32, mLk Nl 6 = some (.int y) ∧ b.1 ≤ y.toInt ∧ y.toInt ≤ b.2) (h7 : mLk Nl 7 = some (.int x7)) : ∀ q ∈ zLa k b, ∃ v, mLk Nl q.1 = some v ∧ zLv [] q.2 v := fun q hq => by
  unfold zLa at hq
  simp only [List.mem_cons, List.not_mem_nil, or_false] at hq
  rcases hq with rfl | rfl | rfl | rfl | rfl | rfl
  · exact ⟨_, h0, rfl⟩
  · obtain ⟨y, a, c⟩ := h3
    exact ⟨_, a, y, rfl, c⟩
  · exact ⟨_, h4.1, x4, rfl, h4.2⟩
  · exact ⟨_, h5.1, x5, rfl, h5.2⟩
  · obtain ⟨y, a, c⟩ := h6
    exact ⟨_, a, y, rfl, c⟩
  · exact ⟨_, h7, x7, rfl, z32 x7⟩
theorem y185_run (IH : ∀ mj, zQrk mj < 4 → ∀ j ∈ zQt mj, zVal (zRw zRx fun _ => []) zXd mTab mInf (sXNl L) (sXF xs) mj j) (hpm : zPm N) (hg : zGood (zRw zRx fun _ => []) N) {r : Nat} (hr : r ≤ 99) {x : Int32} (h9 : mAtk N 1077257 = .int x) (h91 : (r : Int) < x.toInt) (h92 : x.toInt ≤ 100) (hroom : zRoom (zRw zRx fun _ => []) 1 N) :
    ∃ M, mRuns mTab mInf (sXNl L) (sXF xs) 6 140 185 (0, lv_args 0 [.ref 525, .int (yI r)], [], N) (none, M) ∧ zGood (zRw zRx fun _ => []) M ∧ zRl (zRw zRx fun _ => []) zXd 0 1 N M ∧ (zDu N r = true → zDc M < zDc N) := by
  have hv : ∀ mi, ∀ i ∈ zWi (zQr zRx 4) mi, zVal (zQr zRx 4) zXd mTab mInf (sXNl L) (sXF xs) mi i := fun mi i hi => IH mi (zQr_con hi).1 i (zQr_con hi).2
  have hX1 : zXok (zQr zRx 4) zXd 1 := zXd_ok (by omega)
  have hX0 : zXok (zQr zRx 4) zXd 0 := zXd_ok (by omega)
  have hri : (yI r).toInt = (r : Int) := yI_int (by omega)
  obtain ⟨ρ, B, L0, S0, ov, rr, s, hi, hK, hL0, -, -, hrr, hs⟩ := zRunS_snd (X := zXd) (N := N) (V := []) (Nl := lv_args 0 [.ref 525, .int (yI r)]) (XN := sXNl L) (XF := sXF xs) (List.all_eq_true.mp y185_1 r (List.mem_range.mpr (by omega))) (zRw_ok _ _) hX1 hv (zSx_x xs L) (zXd_0 hpm) hg (zRoom_le hroom (by show 0 ≤ 1; omega)) (fun q hq => by
    simp only [List.mem_cons, List.not_mem_nil, or_false] at hq
    rcases hq with rfl | rfl
    · exact ⟨.ref 525, rfl, rfl⟩
    · exact ⟨.int (yI r), rfl, yI r, rfl, by rw [hri]; exact Int.le_refl _, by rw [hri]; exact Int.le_refl _⟩) trivial (fun q hq => by cases hq)
  cases s with
  | inr z => cases rr with
    | inl y => exact hrr.elim
    | inr w => cases hK
  | inl v => cases rr with
    | inr w => exact hrr.elim
    | inl y =>
      obtain ⟨pc, L1, S, M⟩ := y
      obtain ⟨pc2, Nl2, V, N2⟩ := v
      obtain ⟨hp, hL1, hS, hM⟩ := hrr
      have hp : pc = pc2 := hp
      subst hp
      obtain ⟨k1, hK⟩ := and_inv (show (Nat.beq pc 64 && (zR0 L1 && (zStk2 (r : Int) S && (zFi B L1 4 0 7 && (zFi B L1 5 0 7 && (zFi B L1 7 (-2147483648) 2147483647 && (zFi B L1 3 0 2 && (zFi B L1 6 0 500 && (zIsL M.1 (1077958 + 7 * r) L1 3 && zIsL M.1 (1077962 + 7 * r) L1 6))))))))) = true from hK)
      obtain ⟨k2, hK⟩ := and_inv hK
      obtain ⟨k4, hK⟩ := and_inv hK
      obtain ⟨k5, hK⟩ := and_inv hK
      obtain ⟨k6, hK⟩ := and_inv hK
      obtain ⟨k7, hK⟩ := and_inv hK
      obtain ⟨k8, hK⟩ := and_inv hK
      obtain ⟨k9, hK⟩ := and_inv hK
      obtain ⟨k10, k11⟩ := and_inv hK
      have k1 := Nat.eq_of_beq_eq_true k1
      subst k1
      obtain ⟨x4, c4⟩ := zFi_inv k5 hi hL1
      obtain ⟨x5, c5⟩ := zFi_inv k6 hi hL1
      obtain ⟨x7, c7⟩ := zFi_inv k7 hi hL1
      obtain ⟨x3, c3⟩ := zFi_inv k8 hi hL1
      obtain ⟨x6, c6⟩ := zFi_inv k9 hi hL1
      have g3 := zIsL_inv k10 hM hL1 c3.1
      have g6 := zIsL_inv k11 hM hL1 c6.1
      obtain ⟨N0, -, -, -, rl, -⟩ := hM
      have hN : N = N2 := (rl.1 rfl).symm
      subst hN
      have l0 := zR0_inv k2 hL1
      have hbid : x3.toInt ≠ 1 → 10 ≤ x6.toInt ∧ x6.toInt ≤ 500 := fun ne => by
        have q := hpm r (by omega) (by rw [zN_int (k := 9) h9]; exact h91) (by rw [zN_int (k := 710 + 7 * r) (x := x3) (by rw [show 1077248 + (710 + 7 * r) = 1077958 + 7 * r by omega]; exact g3)]; exact ne)
        rw [zN_int (k := 714 + 7 * r) (x := x6) (by rw [show 1077248 + (714 + 7 * r) = 1077962 + 7 * r by omega]; exact g6)] at q
        exact q
      · obtain ⟨vv, rfl, r3⟩ := zStk2_inv k4 hS
        have e : vv = yI r := yI_of r3
        subst e
        obtain ⟨M1, g1, g2, g3, -, g5⟩ := y165_val (XN := sXNl L) (XF := sXF xs) (fr := 5) (lo := 118) hpm hg hr h9 (by omega) h92 rfl rfl
        have hroom1 : zRoom (zRw zRx fun _ => []) 1 M1 := zRoom_rl g3 hroom
        have hpm1 : zPm M1 := g3.2.2.2.2.2.1.2
        have hN := yMod_good hg
        have fin : ∀ z : Option Value × mMem, mRuns mTab mInf (sXNl L) (sXF xs) 6 140 185 (67, Nl2, [], M1) z → zGood (zQr zRx 4) z.2 → zRl (zQr zRx 4) zXd 0 1 M1 z.2 → zAnV none z.1 →
            ∃ M, mRuns mTab mInf (sXNl L) (sXF xs) 6 140 185 (0, lv_args 0 [.ref 525, .int (yI r)], [], N) (none, M) ∧ zGood (zRw zRx fun _ => []) M ∧ zRl (zRw zRx fun _ => []) zXd 0 1 N M ∧ (zDu N r = true → zDc M < zDc N) := fun z z1 z2 z3 z4 => by
          obtain ⟨zv, zm⟩ := z
          have z4 : zv = none := z4
          subst z4
          refine ⟨zm, hs.2 _ ?_, z2, ?_, fun hd => Nat.lt_of_le_of_lt z3.2.2.2.2.2.2.2 (g5 hd)⟩
          · exact st_call (o := 525) (as := [.int (yI r)]) (S := []) (w := none) (M1 := M1) h_185_64 rfl rfl rfl (yM_b hN) (yM_c hN) rfl rfl rfl rfl g1 rfl z1
          · have t1 : zRl (zQr zRx 4) zXd 0 (0 + 0) N M1 := zRl_trans (zRw_ok _ _) hX0 rfl (zRl_0 (zXd_0 hpm) hroom) g3
            have t2 : zRl (zQr zRx 4) zXd 0 (0 + 0 + 1) N zm := zRl_trans (zRw_ok _ _) hX0 rfl t1 z3
            exact t2
        by_cases e1 : x3.toInt = 1
        · obtain ⟨z, z1, z2, z3, z4⟩ := zRunE (X := zXd) (N := M1) (V := []) (Nl := Nl2) (XN := sXNl L) (XF := sXF xs) y185_21 (zRw_ok _ _) hX0 hv (zSx_x xs L) (zXd_0 hpm1) g2 hroom1 (zLa_ok l0 ⟨x3, c3.1, by omega, by omega⟩ c4 c5 ⟨x6, c6⟩ c7.1) trivial (fun q hq => by cases hq)
          exact fin z z1 z2 z3 z4
        · by_cases e0 : x3.toInt = 0
          · obtain ⟨z, z1, z2, z3, z4⟩ := zRunE (X := zXd) (N := M1) (V := []) (Nl := Nl2) (XN := sXNl L) (XF := sXF xs) y185_20 (zRw_ok _ _) hX0 hv (zSx_x xs L) (zXd_0 hpm1) g2 hroom1 (zLa_ok l0 ⟨x3, c3.1, by omega, by omega⟩ c4 c5 ⟨x6, c6.1, hbid e1⟩ c7.1) trivial (fun q hq => by cases hq)
            exact fin z z1 z2 z3 z4
          · obtain ⟨z, z1, z2, z3, z4⟩ := zRunE (X := zXd) (N := M1) (V := []) (Nl := Nl2) (XN := sXNl L) (XF := sXF xs) y185_22 (zRw_ok _ _) hX0 hv (zSx_x xs L) (zXd_0 hpm1) g2 hroom1 (zLa_ok l0 ⟨x3, c3.1, by omega, by omega⟩ c4 c5 ⟨x6, c6.1, hbid e1⟩ c7.1) trivial (fun q hq => by cases hq)
            exact fin z z1 z2 z3 z4
end YAR
