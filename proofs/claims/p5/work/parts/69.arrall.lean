/-! ===== arriveAll: it ends, for what is due gets less ===== -/
noncomputable def zI167 (m : Nat) : zP :=
  (([(2, (525, (0, 0))), (0, (0, (0, 0)))], ([(1077257, ((m : Int), (m : Int)))], (some (false, ((-1), (m : Int) - 1)), (0, (1, (21, (1, (false, [])))))))),
    ((2, ([(0, (2, (525, (0, 0)))), (1, (0, (0, (0, 0)))), (2, (0, (0, (0, (m : Int)))))], ([(1077257, (0, (0, ((m : Int), (m : Int)))))], (0, [(0, (1000, 1)), (2, (2, 0)), (2, (1000, (-2147483648)))])))) ::
      (bif Nat.beq m 0 then [] else [(18, ([(0, (2, (525, (0, 0)))), (1, (0, (0, (0, 0)))), (2, (0, (0, (0, (m : Int) - 1)))), (3, (0, (0, zR32))), (4, (0, (0, (0, (m : Int)))))], ([(1077257, (0, (0, ((m : Int), (m : Int)))))], (0, [(0, (1000, 1)), (2, (2, 0)), (2, (4, 0))]))))]), (([], ([], [])), [])))
set_option maxRecDepth 100000 in
theorem zI167_ok : (List.range 101).all (fun m => zChq (zRw zRx fun _ => []) true 167 (zI167 m)) = true := by decide +kernel
noncomputable def zDue1 (B : zB) (ov : zO) (c : Nat) : Bool := match zLk ov (1077960 + 7 * c), zLk ov 1077255 with
  | some (.inl d, _), some (.inl t, _) => zLs B d (t.1, t.2 + 1)
  | _, _ => false
/-- from the loop's head: it ends, or what is due at place c arrives -/
noncomputable def zKb (c : Int) (_ : List (Nat × sV)) (_ : List sV) (_ : zO) : zK := fun B r => match r with
  | .inr w => zRt B none w.1
  | .inl (pc, L, S, M) => Nat.beq pc 32 && (zR0 L && (zStk2 c S && zDue1 B M.1 c.toNat))
set_option maxRecDepth 100000 in
theorem y186_1 : (List.range 100).all (fun c => zRunS mTab mInf (zRw zRx fun _ => []) (1, (0, false)) sXX (fun pc => Nat.beq pc 32) 3000 7 167 186 6 [(0, (2, (525, (0, 0)))), (1, (0, (0, ((c : Int), (c : Int)))))] [] [] (zKb (c : Int))) = true := by decide +kernel
theorem h_186_0 : mFind (mTab 186) 0 = some (0, 1, .aload_n 0, .aload 0, 0, 0, 0, 0) := mFb_eq (by decide +kernel)
theorem h_186_1 : mFind (mTab 186) 1 = some (1, 1, .iconst 0, .iconst 0, 0, 0, 0, 0) := mFb_eq (by decide +kernel)
theorem h_186_2 : mFind (mTab 186) 2 = some (2, 3, .invokevirtual 178, .invokevirtual 178, 0, 167, 8, 1185) := mFb_eq (by decide +kernel)
theorem h_186_5 : mFind (mTab 186) 5 = some (5, 1, .istore_n 1, .istore 1, 0, 0, 0, 0) := mFb_eq (by decide +kernel)
theorem h_186_6 : mFind (mTab 186) 6 = some (6, 1, .iload_n 1, .iload 1, 0, 0, 0, 0) := mFb_eq (by decide +kernel)
theorem h_186_7 : mFind (mTab 186) 7 = some (7, 1, .iconst (-1), .iconst 0, (-1), 0, 0, 0) := mFb_eq (by decide +kernel)
theorem h_186_8 : mFind (mTab 186) 8 = some (8, 3, .if_icmp .eq 36, .if_icmp .eq 36, 0, 44, 0, 0) := mFb_eq (by decide +kernel)
theorem h_186_32 : mFind (mTab 186) 32 = some (32, 3, .invokevirtual 181, .invokevirtual 181, 0, 185, 8, 1189) := mFb_eq (by decide +kernel)
theorem h_186_35 : mFind (mTab 186) 35 = some (35, 1, .aload_n 0, .aload 0, 0, 0, 0, 0) := mFb_eq (by decide +kernel)
theorem h_186_36 : mFind (mTab 186) 36 = some (36, 1, .iconst 0, .iconst 0, 0, 0, 0, 0) := mFb_eq (by decide +kernel)
theorem h_186_37 : mFind (mTab 186) 37 = some (37, 3, .invokevirtual 178, .invokevirtual 178, 0, 167, 8, 1185) := mFb_eq (by decide +kernel)
theorem h_186_40 : mFind (mTab 186) 40 = some (40, 1, .istore_n 1, .istore 1, 0, 0, 0, 0) := mFb_eq (by decide +kernel)
theorem h_186_41 : mFind (mTab 186) 41 = some (41, 3, .goto (-35), .goto (-35), 0, 6, 0, 0) := mFb_eq (by decide +kernel)
theorem h_186_44 : mFind (mTab 186) 44 = some (44, 1, .return_, .return_, 0, 0, 0, 0) := mFb_eq (by decide +kernel)
theorem zCn_pos {p : Nat → Bool} {i : Nat} (hp : p i = true) : ∀ n, i < n → 0 < zCn p n
  | 0, h => by omega
  | n + 1, h => by
    show 0 < zCn p n + (bif p n then 1 else 0)
    by_cases e : i = n
    · subst e
      rw [hp]
      exact Nat.succ_pos _
    · have := zCn_pos hp n (by omega)
      omega
theorem zCn_top (p : Nat → Bool) : ∀ n, zCn p n ≤ n
  | 0 => Nat.le_refl 0
  | n + 1 => by
    have := zCn_top p n
    show zCn p n + (bif p n then 1 else 0) ≤ n + 1
    cases p n
    · show zCn p n + 0 ≤ n + 1; omega
    · show zCn p n + 1 ≤ n + 1; omega
section YAA
variable {xs : Nat → Int32} {L : Nat}
/-- the first that comes, by how many there are -/
theorem y167_m {N : mMem} (hpm : zPm N) (hg : zGood (zRw zRx fun _ => []) N) (hroom : zRoom (zRw zRx fun _ => []) 0 N) {x9 : Int32} (h9 : mAtk N 1077257 = .int x9) :
    ∃ x : Int32, mRuns mTab mInf (sXNl L) (sXF xs) 1 21 167 (0, lv_args 0 [.ref 525, .int (Int32.ofInt 0)], [], N) (some (.int x), N) ∧ -1 ≤ x.toInt ∧ x.toInt < x9.toInt ∧ x.toInt ≤ 99 := by
  obtain ⟨y9, hy9, x9a, x9b⟩ := hg.2.1 1077257 (by decide) (.inl (0, 100)) rfl
  rw [h9] at hy9
  cases hy9
  have x9a : 0 ≤ x9.toInt := x9a
  have x9b : x9.toInt ≤ 100 := x9b
  obtain ⟨m, hm⟩ : ∃ m : Nat, x9.toInt = (m : Int) := ⟨x9.toInt.toNat, by omega⟩
  have v := zChk_snd (W := zRw zRx fun _ => []) (X := zXd) (XN := sXNl L) (XF := sXF xs) (zRw_ok _ _) (zXd_ok (by show (1 : Nat) ≠ 5; omega)) (fun _ _ h => by cases h) (zSx_x xs L) (List.all_eq_true.mp zI167_ok m (List.mem_range.mpr (by omega)))
  obtain ⟨w, N1, r1, -, r3, r4, -⟩ := v N [.ref 525, .int (Int32.ofInt 0)] (zXd_0 hpm) hg ⟨rfl, ⟨_, rfl, by decide, by decide⟩, trivial⟩ (fun c hc => by
    have hc : c ∈ [((1077257 : Nat), ((m : Int), (m : Int)))] := hc
    obtain rfl := List.mem_singleton.mp hc
    exact ⟨x9, h9, by show (m : Int) ≤ _; omega, by show _ ≤ (m : Int); omega⟩) hroom
  have hN : N1 = N := r3.1 rfl
  subst hN
  obtain ⟨x, rfl, q1, q2⟩ := r4
  have q1 : -1 ≤ x.toInt := q1
  have q2 : x.toInt ≤ (m : Int) - 1 := q2
  exact ⟨x, r1, q1, by omega, by omega⟩
theorem y186_loop (IH : ∀ mj, zQrk mj < 4 → ∀ j ∈ zQt mj, zVal (zRw zRx fun _ => []) zXd mTab mInf (sXNl L) (sXF xs) mj j) : ∀ (d : Nat) (N : mMem) (Nl : List (Nat × Value)) (x x9 : Int32), mLk Nl 0 = some (.ref 525) → mLk Nl 1 = some (.int x) → zDc N ≤ d → zPm N → zGood (zRw zRx fun _ => []) N → zRoom (zRw zRx fun _ => []) d N → mAtk N 1077257 = .int x9 → -1 ≤ x.toInt → x.toInt < x9.toInt → x.toInt ≤ 99 →
    ∃ M, mRuns mTab mInf (sXNl L) (sXF xs) 7 167 186 (6, Nl, [], N) (none, M) ∧ zGood (zRw zRx fun _ => []) M ∧ zRl (zRw zRx fun _ => []) zXd 0 d N M := fun d => by
  have hX0 : zXok (zRw zRx fun _ => []) zXd 0 := zXd_ok (by omega)
  have hX1 : zXok (zRw zRx fun _ => []) zXd 1 := zXd_ok (by omega)
  induction d using Nat.strongRecOn with
  | ind d ih =>
    intro N Nl x x9 n0 n1 hd hpm hg hroom h9 hx1 hx2 hx3
    by_cases e : x.toInt = -1
    · refine ⟨N, ?_, hg, zRl_le (zRl_0 (zXd_0 hpm) (zRoom_le hroom (Nat.zero_le d))) (Nat.zero_le d)⟩
      refine st_iload h_186_6 n1 ?_
      refine st_iconst h_186_7 ?_
      refine st_icmp h_186_8 ?_
      have e2 : x = Int32.ofInt (-1) := Int32.toInt_inj.mp (by rw [e]; decide)
      rw [show mIf .eq x (Int32.ofInt (-1)) = true from by rw [e2]; decide, cond_true]
      exact st_return (i := (0, 0, .nop, .nop, 0, 0, 0, 0)) h_186_44 rfl
    · obtain ⟨c, hc⟩ : ∃ c : Nat, x.toInt = (c : Int) := ⟨x.toInt.toNat, by omega⟩
      obtain rfl := yI_of hc
      have hc99 : c ≤ 99 := by omega
      obtain ⟨ρ, B, L0, S0, ov, rr, s, hi, hK, hL0, -, -, hrr, hs⟩ := zRunS_snd (X := zXd) (N := N) (V := []) (Nl := Nl) (XN := sXNl L) (XF := sXF xs) (List.all_eq_true.mp y186_1 c (List.mem_range.mpr (by omega))) (zRw_ok _ _) hX1 (fun _ _ h => by cases h) (zSx_x xs L) (zXd_0 hpm) hg (zRoom_le hroom (Nat.zero_le d)) (fun q hq => by
        simp only [List.mem_cons, List.not_mem_nil, or_false] at hq
        rcases hq with rfl | rfl
        · exact ⟨.ref 525, n0, rfl⟩
        · exact ⟨.int (yI c), n1, yI c, rfl, by rw [hc]; exact Int.le_refl _, by rw [hc]; exact Int.le_refl _⟩) trivial (fun q hq => by cases hq)
      cases s with
      | inr z => cases rr with
        | inl y => exact hrr.elim
        | inr w =>
          have ho := zRt_inv hi (show zRt B none w.1 = true from hK) hrr.1
          obtain ⟨N0, -, -, -, rl, -⟩ := hrr.2
          have hN : z.2 = N := rl.1 rfl
          obtain ⟨zv, zm⟩ := z
          have hN : zm = N := hN
          subst hN
          have ho : zv = none := ho
          subst ho
          exact ⟨zm, hs, hg, zRl_le (zRl_0 (zXd_0 hpm) (zRoom_le hroom (Nat.zero_le d))) (Nat.zero_le d)⟩
      | inl v => cases rr with
        | inr w => exact hrr.elim
        | inl y =>
          obtain ⟨pc, L1, S, M⟩ := y
          obtain ⟨pc2, Nl2, V, N2⟩ := v
          obtain ⟨hp, hL1, hS, hM⟩ := hrr
          have hp : pc = pc2 := hp
          subst hp
          obtain ⟨k1, hK⟩ := and_inv (show (Nat.beq pc 32 && (zR0 L1 && (zStk2 (c : Int) S && zDue1 B M.1 (c : Int).toNat))) = true from hK)
          obtain ⟨k2, hK⟩ := and_inv hK
          obtain ⟨k3, k4⟩ := and_inv hK
          have k1 := Nat.eq_of_beq_eq_true k1
          subst k1
          obtain ⟨N0, g0, sh, hov, rl, dt⟩ := id hM
          have hN : N = N2 := (rl.1 rfl).symm
          subst hN
          have l0 := zR0_inv k2 hL1
          have hdu : zDu N c = true := by
            unfold zDue1 at k4
            split at k4
            · next dd d1 tt d2 hdd htt =>
              obtain ⟨-, u1, -⟩ := hov.2 _ _ _ hdd
              obtain ⟨-, u2, -⟩ := hov.2 _ _ _ htt
              obtain ⟨dv, w1, w2⟩ := zRel_i u1
              obtain ⟨tv, w3, w4⟩ := zRel_i u2
              have w5 := zLs_inv k4 hi w2 (zAt_x tt 1 w4)
              have w6 : (c : Int).toNat = c := by omega
              rw [w6] at w1
              unfold zDu
              rw [zN_int (k := 9) h9, zN_int (k := 712 + 7 * c) (x := dv) (by rw [show 1077248 + (712 + 7 * c) = 1077960 + 7 * c by omega]; exact w1), zN_int (k := 7) w3, decide_eq_true (p := (c : Int) < x9.toInt) (by omega), decide_eq_true (by omega)]
              rfl
            · cases k4
          · obtain ⟨vv, rfl, r3⟩ := zStk2_inv k3 hS
            have e2 : vv = yI c := yI_of r3
            subst e2
            have hd0 : 0 < zDc N := zCn_pos hdu 100 (by omega)
            obtain ⟨M1, g1, g2, g3, g4⟩ := y185_run (L := L) (xs := xs) IH hpm hg hc99 h9 (by omega) (by
              obtain ⟨y9, hy9, a, b⟩ := hg.2.1 1077257 (by decide) (.inl (0, 100)) rfl
              rw [h9] at hy9
              cases hy9
              exact b) (zRoom_le hroom (by omega))
            have g4 := g4 hdu
            obtain ⟨d1, rfl⟩ : ∃ d1, d = 1 + d1 := ⟨d - 1, by omega⟩
            have hpm1 : zPm M1 := g3.2.2.2.2.2.1.2
            have hroom1 : zRoom (zRw zRx fun _ => []) d1 M1 := zRoom_rl g3 hroom
            obtain ⟨y9, hy9, -, -⟩ := g2.2.1 1077257 (by decide) (.inl (0, 100)) rfl
            obtain ⟨x1, i1, i2, i3, i4⟩ := y167_m (xs := xs) (L := L) hpm1 g2 (zRoom_le hroom1 (Nat.zero_le _)) hy9
            obtain ⟨M2, j1, j2, j3⟩ := ih d1 (by omega) M1 (mSt1 Nl2 1 (.int x1)) x1 y9 (mLk_ne l0 (by omega) rfl) mLk_same (by omega) hpm1 g2 hroom1 hy9 i2 i3 i4
            have hN := yMod_good hg
            have hN1 := yMod_good g2
            refine ⟨M2, hs.2 _ ?_, j2, ?_⟩
            · refine st_call (o := 525) (as := [.int (yI c)]) (S := []) (w := none) (M1 := M1) h_186_32 rfl rfl rfl (yM_b hN) (yM_c hN) rfl rfl rfl rfl g1 rfl ?_
              refine st_aload h_186_35 l0 ?_
              refine st_iconst h_186_36 ?_
              refine st_call (o := 525) (as := [.int (Int32.ofInt 0)]) (S := []) (w := some (.int x1)) (M1 := M1) h_186_37 rfl rfl rfl (yM_b hN1) (yM_c hN1) rfl rfl rfl rfl (mRuns_more i1 (by omega) (by show 21 ≤ 167 - _; decide)) rfl ?_
              refine st_istore h_186_40 (by rfl) ?_
              refine st_goto h_186_41 ?_
              exact j1
            · have t1 : zRl (zRw zRx fun _ => []) zXd 0 (0 + 1) N M1 := zRl_trans (zRw_ok _ _) hX0 rfl (zRl_0 (zXd_0 hpm) hroom) g3
              have t2 : zRl (zRw zRx fun _ => []) zXd 0 (0 + 1 + d1) N M2 := zRl_trans (zRw_ok _ _) hX0 rfl t1 j3
              rw [show 0 + 1 + d1 = 1 + d1 by omega] at t2
              exact t2
theorem zV_186 (IH : ∀ mj, zQrk mj < 4 → ∀ j ∈ zQt mj, zVal (zRw zRx fun _ => []) zXd mTab mInf (sXNl L) (sXF xs) mj j) : ∀ i ∈ zQt 186, zVal (zRw zRx fun _ => []) zXd mTab mInf (sXNl L) (sXF xs) 186 i := fun i hi => by
  have hi : i ∈ zQ_186.map (fun p => p.1) := hi
  unfold zQ_186 at hi
  simp only [List.map_cons, List.map_nil, List.mem_cons, List.not_mem_nil, or_false] at hi
  subst hi
  intro N bs hx0 hg ha hcell hroom
  have ha : sAll zArV [(2, (525, (0, 0)))] bs := ha
  obtain ⟨v1, m1, rfl, a1, ha⟩ := sAll_cons ha
  obtain rfl := sAll_nil ha
  have a1 : v1 = .ref 525 := a1
  subst a1
  have hroom : zRoom (zRw zRx fun _ => []) 100 N := hroom
  have hd : zDc N ≤ 100 := zCn_top _ 100
  obtain ⟨x9, h9, -, -⟩ := hg.2.1 1077257 (by decide) (.inl (0, 100)) rfl
  obtain ⟨x, i1, i2, i3, i4⟩ := y167_m (xs := xs) (L := L) hx0.1.1 hg (zRoom_le hroom (Nat.zero_le _)) h9
  obtain ⟨M, j1, j2, j3⟩ := y186_loop (xs := xs) (L := L) IH 100 N (mSt1 (lv_args 0 [.ref 525]) 1 (.int x)) x x9 (mLk_ne (by rfl) (by omega) rfl) mLk_same hd hx0.1.1 hg hroom h9 i2 i3 i4
  have hN := yMod_good hg
  refine ⟨none, M, ?_, j2, j3, rfl, fun e he => by cases he⟩
  show mRuns mTab mInf (sXNl L) (sXF xs) 7 167 186 (0, lv_args 0 [.ref 525], [], N) (none, M)
  refine st_aload h_186_0 (by rfl) ?_
  refine st_iconst h_186_1 ?_
  refine st_call (o := 525) (as := [.int (Int32.ofInt 0)]) (S := []) (w := some (.int x)) (M1 := N) h_186_2 rfl rfl rfl (yM_b hN) (yM_c hN) rfl rfl rfl rfl (mRuns_more i1 (by omega) (by show 21 ≤ 167 - _; decide)) rfl ?_
  refine st_istore h_186_5 (by rfl) ?_
  exact j1
end YAA
