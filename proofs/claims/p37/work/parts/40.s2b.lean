/-! ===== one message more ===== -/
theorem sp_opnP {N : mMem} (h0 : 0 ≤ dG N 10243) (h1 : dG N 10243 < 100) : fX4_opn_P N = some (dP N 10243 (dG N 10243 + 1), dG N 10243) := by
  unfold fX4_opn_P
  have w : dW (dG N 10243 + 1) = dG N 10243 + 1 := dW_id ⟨by omega, by omega⟩
  rw [if_pos h1, w]
  show some (dP N 10243 (dG N 10243 + 1), dW (dG ((dP N 10243 (dG N 10243 + 1))) 10243 - 1)) = _
  rw [dG_e (by decide), w, show dG N 10243 + 1 - 1 = dG N 10243 by omega, dW_id ⟨by omega, by omega⟩]
theorem sp_putP0 {N : mMem} {i v : Int} (h0 : 0 ≤ i) (h1 : i < dG N 10243) (h2 : i < 100) : fX4_put_Pc0 N i v = some (dP N (14336 + i.toNat) v, 0) := by
  unfold fX4_put_Pc0
  rw [if_neg (by omega), if_pos h1, dgd_t ⟨h0, h2⟩]
theorem sp_atP0 {N : mMem} {i : Int} (h0 : 0 ≤ i) (h1 : i < dG N 10243) (h2 : i < 100) : fX4_at_Pc0 N i = some (N, dG N (14336 + i.toNat)) := by
  unfold fX4_at_Pc0
  rw [if_neg (by omega), if_pos h1, dgd_t ⟨h0, h2⟩]
theorem sp_putP1 {N : mMem} {i v : Int} (h0 : 0 ≤ i) (h1 : i < dG N 10243) (h2 : i < 100) : fX4_put_Pc1 N i v = some (dP N (16384 + i.toNat) v, 0) := by
  unfold fX4_put_Pc1
  rw [if_neg (by omega), if_pos h1, dgd_t ⟨h0, h2⟩]
theorem sp_atP1 {N : mMem} {i : Int} (h0 : 0 ≤ i) (h1 : i < dG N 10243) (h2 : i < 100) : fX4_at_Pc1 N i = some (N, dG N (16384 + i.toNat)) := by
  unfold fX4_at_Pc1
  rw [if_neg (by omega), if_pos h1, dgd_t ⟨h0, h2⟩]
theorem sp_putP2 {N : mMem} {i v : Int} (h0 : 0 ≤ i) (h1 : i < dG N 10243) (h2 : i < 100) : fX4_put_Pc2 N i v = some (dP N (18432 + i.toNat) v, 0) := by
  unfold fX4_put_Pc2
  rw [if_neg (by omega), if_pos h1, dgd_t ⟨h0, h2⟩]
theorem sp_atP2 {N : mMem} {i : Int} (h0 : 0 ≤ i) (h1 : i < dG N 10243) (h2 : i < 100) : fX4_at_Pc2 N i = some (N, dG N (18432 + i.toNat)) := by
  unfold fX4_at_Pc2
  rw [if_neg (by omega), if_pos h1, dgd_t ⟨h0, h2⟩]
theorem sp_putP3 {N : mMem} {i v : Int} (h0 : 0 ≤ i) (h1 : i < dG N 10243) (h2 : i < 100) : fX4_put_Pc3 N i v = some (dP N (20480 + i.toNat) v, 0) := by
  unfold fX4_put_Pc3
  rw [if_neg (by omega), if_pos h1, dgd_t ⟨h0, h2⟩]
theorem sp_atP3 {N : mMem} {i : Int} (h0 : 0 ≤ i) (h1 : i < dG N 10243) (h2 : i < 100) : fX4_at_Pc3 N i = some (N, dG N (20480 + i.toNat)) := by
  unfold fX4_at_Pc3
  rw [if_neg (by omega), if_pos h1, dgd_t ⟨h0, h2⟩]
theorem sp_putP4 {N : mMem} {i v : Int} (h0 : 0 ≤ i) (h1 : i < dG N 10243) (h2 : i < 100) : fX4_put_Pc4 N i v = some (dP N (22528 + i.toNat) v, 0) := by
  unfold fX4_put_Pc4
  rw [if_neg (by omega), if_pos h1, dgd_t ⟨h0, h2⟩]
theorem sp_atP4 {N : mMem} {i : Int} (h0 : 0 ≤ i) (h1 : i < dG N 10243) (h2 : i < 100) : fX4_at_Pc4 N i = some (N, dG N (22528 + i.toNat)) := by
  unfold fX4_at_Pc4
  rw [if_neg (by omega), if_pos h1, dgd_t ⟨h0, h2⟩]
theorem sp_putP5 {N : mMem} {i v : Int} (h0 : 0 ≤ i) (h1 : i < dG N 10243) (h2 : i < 100) : fX4_put_Pc5 N i v = some (dP N (24576 + i.toNat) v, 0) := by
  unfold fX4_put_Pc5
  rw [if_neg (by omega), if_pos h1, dgd_t ⟨h0, h2⟩]
theorem sp_atP5 {N : mMem} {i : Int} (h0 : 0 ≤ i) (h1 : i < dG N 10243) (h2 : i < 100) : fX4_at_Pc5 N i = some (N, dG N (24576 + i.toNat)) := by
  unfold fX4_at_Pc5
  rw [if_neg (by omega), if_pos h1, dgd_t ⟨h0, h2⟩]
theorem sp_last_RC {N : mMem} {u : Nat} {kd d : Int} (hu : u < 8) (h0 : 0 ≤ dG N 10243) (h1 : dG N 10243 < 100) (hk : dR kd) (hd : dR d) : ∃ N1, (dbd (fX4_opn_P N) fun N56 v57 => dbd (fX4_put_Pc0 N56 v57 kd) fun N70 v71 => dbd (fX4_put_Pc1 N70 v57 (u : Int)) fun N75 v76 => dbd (fX4_put_Pc2 N75 v57 d) fun N80 v81 => dbd (fX4_put_Pc3 N80 v57 (dG N80 55297)) fun N85 v86 => dbd (fX4_put_Pc4 N85 v57 (dG N85 55296)) fun N90 v91 => dbd (fX4_put_Pc5 N90 v57 (dG N90 55298)) fun N95 v96 => some (N95, 0)) = some (N1, 0) ∧ dPost N1 = dPost N ++ [(kd, ((u : Int), (d, (dG N 55297, (dG N 55296, dG N 55298)))))] ∧ dG N1 10243 = dG N 10243 + 1 ∧ dOut 10240 26624 N N1 := by
  obtain ⟨p, hp⟩ : ∃ p : Nat, dG N 10243 = (p : Int) := ⟨(dG N 10243).toNat, by omega⟩
  rw [dbd_s (sp_opnP h0 h1), hp]
  have w : dW ((p : Int) + 1) = (p : Int) + 1 := dW_id ⟨by omega, by omega⟩
  have z1 : dG ((dP N 10243 ((p : Int) + 1))) 10243 = (p : Int) + 1 := (dG_e (by decide)).trans w
  have r1 : ∀ k, k < 2097152 → k ≠ 10243 → dG (dP N 10243 ((p : Int) + 1)) k = dG N k := fun k hk h => dG_n h (by decide) hk
  generalize dP N 10243 ((p : Int) + 1) = N1 at z1 r1 ⊢
  rw [dbd_s (sp_putP0 (by omega) (by omega) (by omega)), Int.toNat_natCast]
  have r2 : ∀ k, k < 2097152 → dG (dP N1 (14336 + p) kd) k = if k = 14336 + p then kd else dG N1 k := fun k h => by rw [dG_P (by omega) h, dW_id hk]
  generalize dP N1 (14336 + p) kd = N2 at r2 ⊢
  have z2 : dG N2 10243 = (p : Int) + 1 := by rw [r2 _ (by decide), if_neg (by omega), z1]
  rw [dbd_s (sp_putP1 (by omega) (by omega) (by omega)), Int.toNat_natCast]
  have r3 : ∀ k, k < 2097152 → dG (dP N2 (16384 + p) (u : Int)) k = if k = 16384 + p then (u : Int) else dG N2 k := fun k h => by rw [dG_P (by omega) h, dW_id ⟨by omega, by omega⟩]
  generalize dP N2 (16384 + p) (u : Int) = N3 at r3 ⊢
  have z3 : dG N3 10243 = (p : Int) + 1 := by rw [r3 _ (by decide), if_neg (by omega), z2]
  rw [dbd_s (sp_putP2 (by omega) (by omega) (by omega)), Int.toNat_natCast]
  have r4 : ∀ k, k < 2097152 → dG (dP N3 (18432 + p) d) k = if k = 18432 + p then d else dG N3 k := fun k h => by rw [dG_P (by omega) h, dW_id hd]
  generalize dP N3 (18432 + p) d = N4 at r4 ⊢
  have z4 : dG N4 10243 = (p : Int) + 1 := by rw [r4 _ (by decide), if_neg (by omega), z3]
  have v4 : dG N4 55297 = dG N 55297 := by rw [r4 _ (by omega), if_neg (by omega), r3 _ (by omega), if_neg (by omega), r2 _ (by omega), if_neg (by omega), r1 _ (by omega) (by omega)]
  rw [dbd_s (sp_putP3 (by omega) (by omega) (by omega)), Int.toNat_natCast, v4]
  have r5 : ∀ k, k < 2097152 → dG (dP N4 (20480 + p) (dG N 55297)) k = if k = 20480 + p then dG N 55297 else dG N4 k := fun k h => by rw [dG_P (by omega) h, dW_id (dG_R _ _)]
  generalize dP N4 (20480 + p) (dG N 55297) = N5 at r5 ⊢
  have z5 : dG N5 10243 = (p : Int) + 1 := by rw [r5 _ (by decide), if_neg (by omega), z4]
  have v5 : dG N5 55296 = dG N 55296 := by rw [r5 _ (by omega), if_neg (by omega), r4 _ (by omega), if_neg (by omega), r3 _ (by omega), if_neg (by omega), r2 _ (by omega), if_neg (by omega), r1 _ (by omega) (by omega)]
  rw [dbd_s (sp_putP4 (by omega) (by omega) (by omega)), Int.toNat_natCast, v5]
  have r6 : ∀ k, k < 2097152 → dG (dP N5 (22528 + p) (dG N 55296)) k = if k = 22528 + p then dG N 55296 else dG N5 k := fun k h => by rw [dG_P (by omega) h, dW_id (dG_R _ _)]
  generalize dP N5 (22528 + p) (dG N 55296) = N6 at r6 ⊢
  have z6 : dG N6 10243 = (p : Int) + 1 := by rw [r6 _ (by decide), if_neg (by omega), z5]
  have v6 : dG N6 55298 = dG N 55298 := by rw [r6 _ (by omega), if_neg (by omega), r5 _ (by omega), if_neg (by omega), r4 _ (by omega), if_neg (by omega), r3 _ (by omega), if_neg (by omega), r2 _ (by omega), if_neg (by omega), r1 _ (by omega) (by omega)]
  rw [dbd_s (sp_putP5 (by omega) (by omega) (by omega)), Int.toNat_natCast, v6]
  have r7 : ∀ k, k < 2097152 → dG (dP N6 (24576 + p) (dG N 55298)) k = if k = 24576 + p then dG N 55298 else dG N6 k := fun k h => by rw [dG_P (by omega) h, dW_id (dG_R _ _)]
  generalize dP N6 (24576 + p) (dG N 55298) = N7 at r7 ⊢
  have z7 : dG N7 10243 = (p : Int) + 1 := by rw [r7 _ (by decide), if_neg (by omega), z6]
  refine ⟨N7, rfl, ?_, z7, fun k hk h => by rw [r7 k hk, if_neg (by omega), r6 k hk, if_neg (by omega), r5 k hk, if_neg (by omega), r4 k hk, if_neg (by omega), r3 k hk, if_neg (by omega), r2 k hk, if_neg (by omega), r1 k hk (by omega)]⟩
  refine dPost_ext (by rw [List.length_append, dPost_len, z7, hp]; simp) (fun j hj => ?_)
  rw [List.length_append, dPost_len, hp, Int.toNat_natCast] at hj
  have hj : j < p + 1 := hj
  by_cases c : j < p
  · rw [List.getElem?_append_left (by rw [dPost_len, hp, Int.toNat_natCast]; exact c), dPost_get (by rw [hp, Int.toNat_natCast]; exact c)]
    have old : ∀ q, q < 6 → dG N7 (14336 + 2048 * q + j) = dG N (14336 + 2048 * q + j) := fun q hq => by
      rw [r7 _ (by omega), if_neg (by omega), r6 _ (by omega), if_neg (by omega), r5 _ (by omega), if_neg (by omega), r4 _ (by omega), if_neg (by omega), r3 _ (by omega), if_neg (by omega), r2 _ (by omega), if_neg (by omega), r1 _ (by omega) (by omega)]
    have c0 := old 0 (by decide)
    have c1 := old 1 (by decide)
    have c2 := old 2 (by decide)
    have c3 := old 3 (by decide)
    have c4 := old 4 (by decide)
    have c5 := old 5 (by decide)
    simp only [Nat.reduceMul, Nat.reduceAdd] at c0 c1 c2 c3 c4 c5
    unfold dRow
    rw [c0, c1, c2, c3, c4, c5]
  · have e : j = p := by omega
    subst e
    rw [List.getElem?_append_right (by rw [dPost_len, hp, Int.toNat_natCast]; omega), dPost_len, hp, Int.toNat_natCast, Nat.sub_self]
    have c0 : dG N7 (14336 + j) = kd := by rw [r7 _ (by omega), if_neg (by omega), r6 _ (by omega), if_neg (by omega), r5 _ (by omega), if_neg (by omega), r4 _ (by omega), if_neg (by omega), r3 _ (by omega), if_neg (by omega), r2 _ (by omega), if_pos rfl]
    have c1 : dG N7 (16384 + j) = (u : Int) := by rw [r7 _ (by omega), if_neg (by omega), r6 _ (by omega), if_neg (by omega), r5 _ (by omega), if_neg (by omega), r4 _ (by omega), if_neg (by omega), r3 _ (by omega), if_pos rfl]
    have c2 : dG N7 (18432 + j) = d := by rw [r7 _ (by omega), if_neg (by omega), r6 _ (by omega), if_neg (by omega), r5 _ (by omega), if_neg (by omega), r4 _ (by omega), if_pos rfl]
    have c3 : dG N7 (20480 + j) = dG N 55297 := by rw [r7 _ (by omega), if_neg (by omega), r6 _ (by omega), if_neg (by omega), r5 _ (by omega), if_pos rfl]
    have c4 : dG N7 (22528 + j) = dG N 55296 := by rw [r7 _ (by omega), if_neg (by omega), r6 _ (by omega), if_pos rfl]
    have c5 : dG N7 (24576 + j) = dG N 55298 := by rw [r7 _ (by omega), if_pos rfl]
    unfold dRow
    rw [c0, c1, c2, c3, c4, c5]
    rfl
theorem sp_sendl_RC {N : mMem} {u : Nat} {kd d : Int} (h0 : 0 ≤ dG N 10243) (h1 : dG N 10243 < 100) (hr : ∀ i : Nat, (i : Int) < dG N 10243 → dG N (16384 + i) = (u : Int) → dG N (18432 + i) ≤ d) : ∀ (m fuel i : Nat), (dG N 10243).toNat = i + m → m < fuel → fX3_send_RC_b55 fuel N (u : Int) kd d (i : Int) = (dbd (fX4_opn_P N) fun N56 v57 => dbd (fX4_put_Pc0 N56 v57 kd) fun N70 v71 => dbd (fX4_put_Pc1 N70 v57 (u : Int)) fun N75 v76 => dbd (fX4_put_Pc2 N75 v57 d) fun N80 v81 => dbd (fX4_put_Pc3 N80 v57 (dG N80 55297)) fun N85 v86 => dbd (fX4_put_Pc4 N85 v57 (dG N85 55296)) fun N90 v91 => dbd (fX4_put_Pc5 N90 v57 (dG N90 55298)) fun N95 v96 => some (N95, 0)) := fun m => by
  induction m with
  | zero =>
    intro fuel i hi hf
    obtain ⟨f, rfl⟩ : ∃ f, fuel = f + 1 := ⟨fuel - 1, by omega⟩
    rw [fX3_send_RC_b55, if_neg (by omega)]
  | succ m ih =>
    intro fuel i hi hf
    obtain ⟨f, rfl⟩ : ∃ f, fuel = f + 1 := ⟨fuel - 1, by omega⟩
    have g : 0 ≤ (i : Int) ∧ (i : Int) < 100 := by omega
    have nx : fX3_send_RC_b114 (fX3_send_RC_b55 f) N (u : Int) kd d (i : Int) = (dbd (fX4_opn_P N) fun N56 v57 => dbd (fX4_put_Pc0 N56 v57 kd) fun N70 v71 => dbd (fX4_put_Pc1 N70 v57 (u : Int)) fun N75 v76 => dbd (fX4_put_Pc2 N75 v57 d) fun N80 v81 => dbd (fX4_put_Pc3 N80 v57 (dG N80 55297)) fun N85 v86 => dbd (fX4_put_Pc4 N85 v57 (dG N85 55296)) fun N90 v91 => dbd (fX4_put_Pc5 N90 v57 (dG N90 55298)) fun N95 v96 => some (N95, 0)) := by
      unfold fX3_send_RC_b114
      rw [dW_id (x := (i : Int) + 1) ⟨by omega, by omega⟩]
      exact ih f (i + 1) (by omega) (by omega)
    rw [fX3_send_RC_b55, if_pos (by omega), dgd_t g, Int.toNat_natCast]
    by_cases c : dG N (16384 + i) = (u : Int)
    · have hd := hr i (by omega) c
      rw [if_pos c, dgd_t g, if_neg (by omega), nx]
    · rw [if_neg c, nx]
theorem sp_send_RC {N : mMem} {u : Nat} {kd : Int} (hu : u < 8) (hc : dG N 2051 = 0) (h0 : 0 ≤ dG N 10243) (h1 : dG N 10243 < 100) (hk : dR kd) (t0 : 0 ≤ dG N 2049) (t1 : dG N 2049 ≤ 100000) (d0 : 0 ≤ dG N (6144 + u)) (d1 : dG N (6144 + u) ≤ 100) (hr : ∀ i : Nat, (i : Int) < dG N 10243 → dG N (16384 + i) = (u : Int) → dG N (18432 + i) ≤ dG N 2049 + dG N (6144 + u)) :
    ∃ N1, fX3_send_RC N (u : Int) kd = some (N1, 0) ∧ dPost N1 = dPost N ++ [(kd, ((u : Int), (dG N 2049 + dG N (6144 + u), (dG N 55297, (dG N 55296, dG N 55298)))))] ∧ dG N1 10243 = dG N 10243 + 1 ∧ ∀ k, k < 2097152 → (k < 10240 ∨ 26624 ≤ k) → k ≠ 53248 → dG N1 k = dG N k := by
  unfold fX3_send_RC dlt
  have rr : ∀ k, k < 2097152 → k ≠ 53248 → dG (dP N 53248 (dW (dG N 53248 + 1))) k = dG N k := fun k hk h => dG_n h (by decide) hk
  generalize dP N 53248 (dW (dG N 53248 + 1)) = M at rr ⊢
  have q1 : dG M 2051 = 0 := (rr _ (by decide) (by decide)).trans hc
  have q2 : dG M 10243 = dG N 10243 := rr _ (by decide) (by decide)
  have q3 : dG M 2049 = dG N 2049 := rr _ (by decide) (by decide)
  have q4 : dG M (6144 + u) = dG N (6144 + u) := rr _ (by omega) (by omega)
  dsimp only
  rw [dbd_s (sp_isCut q1 _), if_pos rfl]
  have fu : fX4_isFull_P M = some (M, 0) := by
    unfold fX4_isFull_P
    rw [if_pos (by omega)]
  rw [dbd_s fu, if_pos rfl, dgd_t ⟨by omega, by omega⟩, Int.toNat_natCast, q3, q4, dW_id (x := dG N 2049 + dG N (6144 + u)) ⟨by omega, by omega⟩]
  have lo := sp_sendl_RC (N := M) (u := u) (kd := kd) (d := dG N 2049 + dG N (6144 + u)) (by omega) (by omega) (fun i hi hl => by
    rw [rr _ (by omega) (by omega)] at hl ⊢
    exact hr i (by omega) hl) (dG M 10243).toNat 1000 0 (by omega) (by omega)
  rw [show ((0 : Nat) : Int) = 0 from rfl] at lo
  rw [lo]
  obtain ⟨N1, e1, e2, e3, e4⟩ := sp_last_RC (N := M) (u := u) (kd := kd) (d := dG N 2049 + dG N (6144 + u)) hu (by omega) (by omega) hk ⟨by omega, by omega⟩
  refine ⟨N1, e1, ?_, by omega, fun k hk h h2 => (e4 k hk h).trans (rr k hk h2)⟩
  rw [e2, dPost_same (N := N) (N1 := M) (fun k a b => rr k (by omega) (by omega)) (by omega), rr _ (by omega) (by omega), rr _ (by omega) (by omega), rr _ (by omega) (by omega)]
theorem sp_last_RE {N : mMem} {s : Nat} (hs : s < 8) {u : Nat} {kd d : Int} (hu : u < 8) (h0 : 0 ≤ dG N 10243) (h1 : dG N 10243 < 100) (hk : dR kd) (hd : dR d) : ∃ N1, (dbd (fX4_opn_P N) fun N56 v57 => dbd (fX4_put_Pc0 N56 v57 kd) fun N70 v71 => dbd (fX4_put_Pc1 N70 v57 (u : Int)) fun N75 v76 => dbd (fX4_put_Pc2 N75 v57 d) fun N80 v81 => dbd (fX4_put_Pc3 N80 v57 (dG N80 (61441 + 26624 * s))) fun N85 v86 => dbd (fX4_put_Pc4 N85 v57 (dG N85 (61440 + 26624 * s))) fun N90 v91 => dbd (fX4_put_Pc5 N90 v57 (dG N90 (61442 + 26624 * s))) fun N95 v96 => some (N95, 0)) = some (N1, 0) ∧ dPost N1 = dPost N ++ [(kd, ((u : Int), (d, (dG N (61441 + 26624 * s), (dG N (61440 + 26624 * s), dG N (61442 + 26624 * s))))))] ∧ dG N1 10243 = dG N 10243 + 1 ∧ dOut 10240 26624 N N1 := by
  obtain ⟨p, hp⟩ : ∃ p : Nat, dG N 10243 = (p : Int) := ⟨(dG N 10243).toNat, by omega⟩
  rw [dbd_s (sp_opnP h0 h1), hp]
  have w : dW ((p : Int) + 1) = (p : Int) + 1 := dW_id ⟨by omega, by omega⟩
  have z1 : dG ((dP N 10243 ((p : Int) + 1))) 10243 = (p : Int) + 1 := (dG_e (by decide)).trans w
  have r1 : ∀ k, k < 2097152 → k ≠ 10243 → dG (dP N 10243 ((p : Int) + 1)) k = dG N k := fun k hk h => dG_n h (by decide) hk
  generalize dP N 10243 ((p : Int) + 1) = N1 at z1 r1 ⊢
  rw [dbd_s (sp_putP0 (by omega) (by omega) (by omega)), Int.toNat_natCast]
  have r2 : ∀ k, k < 2097152 → dG (dP N1 (14336 + p) kd) k = if k = 14336 + p then kd else dG N1 k := fun k h => by rw [dG_P (by omega) h, dW_id hk]
  generalize dP N1 (14336 + p) kd = N2 at r2 ⊢
  have z2 : dG N2 10243 = (p : Int) + 1 := by rw [r2 _ (by decide), if_neg (by omega), z1]
  rw [dbd_s (sp_putP1 (by omega) (by omega) (by omega)), Int.toNat_natCast]
  have r3 : ∀ k, k < 2097152 → dG (dP N2 (16384 + p) (u : Int)) k = if k = 16384 + p then (u : Int) else dG N2 k := fun k h => by rw [dG_P (by omega) h, dW_id ⟨by omega, by omega⟩]
  generalize dP N2 (16384 + p) (u : Int) = N3 at r3 ⊢
  have z3 : dG N3 10243 = (p : Int) + 1 := by rw [r3 _ (by decide), if_neg (by omega), z2]
  rw [dbd_s (sp_putP2 (by omega) (by omega) (by omega)), Int.toNat_natCast]
  have r4 : ∀ k, k < 2097152 → dG (dP N3 (18432 + p) d) k = if k = 18432 + p then d else dG N3 k := fun k h => by rw [dG_P (by omega) h, dW_id hd]
  generalize dP N3 (18432 + p) d = N4 at r4 ⊢
  have z4 : dG N4 10243 = (p : Int) + 1 := by rw [r4 _ (by decide), if_neg (by omega), z3]
  have v4 : dG N4 (61441 + 26624 * s) = dG N (61441 + 26624 * s) := by rw [r4 _ (by omega), if_neg (by omega), r3 _ (by omega), if_neg (by omega), r2 _ (by omega), if_neg (by omega), r1 _ (by omega) (by omega)]
  rw [dbd_s (sp_putP3 (by omega) (by omega) (by omega)), Int.toNat_natCast, v4]
  have r5 : ∀ k, k < 2097152 → dG (dP N4 (20480 + p) (dG N (61441 + 26624 * s))) k = if k = 20480 + p then dG N (61441 + 26624 * s) else dG N4 k := fun k h => by rw [dG_P (by omega) h, dW_id (dG_R _ _)]
  generalize dP N4 (20480 + p) (dG N (61441 + 26624 * s)) = N5 at r5 ⊢
  have z5 : dG N5 10243 = (p : Int) + 1 := by rw [r5 _ (by decide), if_neg (by omega), z4]
  have v5 : dG N5 (61440 + 26624 * s) = dG N (61440 + 26624 * s) := by rw [r5 _ (by omega), if_neg (by omega), r4 _ (by omega), if_neg (by omega), r3 _ (by omega), if_neg (by omega), r2 _ (by omega), if_neg (by omega), r1 _ (by omega) (by omega)]
  rw [dbd_s (sp_putP4 (by omega) (by omega) (by omega)), Int.toNat_natCast, v5]
  have r6 : ∀ k, k < 2097152 → dG (dP N5 (22528 + p) (dG N (61440 + 26624 * s))) k = if k = 22528 + p then dG N (61440 + 26624 * s) else dG N5 k := fun k h => by rw [dG_P (by omega) h, dW_id (dG_R _ _)]
  generalize dP N5 (22528 + p) (dG N (61440 + 26624 * s)) = N6 at r6 ⊢
  have z6 : dG N6 10243 = (p : Int) + 1 := by rw [r6 _ (by decide), if_neg (by omega), z5]
  have v6 : dG N6 (61442 + 26624 * s) = dG N (61442 + 26624 * s) := by rw [r6 _ (by omega), if_neg (by omega), r5 _ (by omega), if_neg (by omega), r4 _ (by omega), if_neg (by omega), r3 _ (by omega), if_neg (by omega), r2 _ (by omega), if_neg (by omega), r1 _ (by omega) (by omega)]
  rw [dbd_s (sp_putP5 (by omega) (by omega) (by omega)), Int.toNat_natCast, v6]
  have r7 : ∀ k, k < 2097152 → dG (dP N6 (24576 + p) (dG N (61442 + 26624 * s))) k = if k = 24576 + p then dG N (61442 + 26624 * s) else dG N6 k := fun k h => by rw [dG_P (by omega) h, dW_id (dG_R _ _)]
  generalize dP N6 (24576 + p) (dG N (61442 + 26624 * s)) = N7 at r7 ⊢
  have z7 : dG N7 10243 = (p : Int) + 1 := by rw [r7 _ (by decide), if_neg (by omega), z6]
  refine ⟨N7, rfl, ?_, z7, fun k hk h => by rw [r7 k hk, if_neg (by omega), r6 k hk, if_neg (by omega), r5 k hk, if_neg (by omega), r4 k hk, if_neg (by omega), r3 k hk, if_neg (by omega), r2 k hk, if_neg (by omega), r1 k hk (by omega)]⟩
  refine dPost_ext (by rw [List.length_append, dPost_len, z7, hp]; simp) (fun j hj => ?_)
  rw [List.length_append, dPost_len, hp, Int.toNat_natCast] at hj
  have hj : j < p + 1 := hj
  by_cases c : j < p
  · rw [List.getElem?_append_left (by rw [dPost_len, hp, Int.toNat_natCast]; exact c), dPost_get (by rw [hp, Int.toNat_natCast]; exact c)]
    have old : ∀ q, q < 6 → dG N7 (14336 + 2048 * q + j) = dG N (14336 + 2048 * q + j) := fun q hq => by
      rw [r7 _ (by omega), if_neg (by omega), r6 _ (by omega), if_neg (by omega), r5 _ (by omega), if_neg (by omega), r4 _ (by omega), if_neg (by omega), r3 _ (by omega), if_neg (by omega), r2 _ (by omega), if_neg (by omega), r1 _ (by omega) (by omega)]
    have c0 := old 0 (by decide)
    have c1 := old 1 (by decide)
    have c2 := old 2 (by decide)
    have c3 := old 3 (by decide)
    have c4 := old 4 (by decide)
    have c5 := old 5 (by decide)
    simp only [Nat.reduceMul, Nat.reduceAdd] at c0 c1 c2 c3 c4 c5
    unfold dRow
    rw [c0, c1, c2, c3, c4, c5]
  · have e : j = p := by omega
    subst e
    rw [List.getElem?_append_right (by rw [dPost_len, hp, Int.toNat_natCast]; omega), dPost_len, hp, Int.toNat_natCast, Nat.sub_self]
    have c0 : dG N7 (14336 + j) = kd := by rw [r7 _ (by omega), if_neg (by omega), r6 _ (by omega), if_neg (by omega), r5 _ (by omega), if_neg (by omega), r4 _ (by omega), if_neg (by omega), r3 _ (by omega), if_neg (by omega), r2 _ (by omega), if_pos rfl]
    have c1 : dG N7 (16384 + j) = (u : Int) := by rw [r7 _ (by omega), if_neg (by omega), r6 _ (by omega), if_neg (by omega), r5 _ (by omega), if_neg (by omega), r4 _ (by omega), if_neg (by omega), r3 _ (by omega), if_pos rfl]
    have c2 : dG N7 (18432 + j) = d := by rw [r7 _ (by omega), if_neg (by omega), r6 _ (by omega), if_neg (by omega), r5 _ (by omega), if_neg (by omega), r4 _ (by omega), if_pos rfl]
    have c3 : dG N7 (20480 + j) = dG N (61441 + 26624 * s) := by rw [r7 _ (by omega), if_neg (by omega), r6 _ (by omega), if_neg (by omega), r5 _ (by omega), if_pos rfl]
    have c4 : dG N7 (22528 + j) = dG N (61440 + 26624 * s) := by rw [r7 _ (by omega), if_neg (by omega), r6 _ (by omega), if_pos rfl]
    have c5 : dG N7 (24576 + j) = dG N (61442 + 26624 * s) := by rw [r7 _ (by omega), if_pos rfl]
    unfold dRow
    rw [c0, c1, c2, c3, c4, c5]
    rfl
theorem sp_sendl_RE {N : mMem} {s : Nat} {u : Nat} {kd d : Int} (h0 : 0 ≤ dG N 10243) (h1 : dG N 10243 < 100) (hr : ∀ i : Nat, (i : Int) < dG N 10243 → dG N (16384 + i) = (u : Int) → dG N (18432 + i) ≤ d) : ∀ (m fuel i : Nat), (dG N 10243).toNat = i + m → m < fuel → fX3_send_RE_b55 fuel N s (u : Int) kd d (i : Int) = (dbd (fX4_opn_P N) fun N56 v57 => dbd (fX4_put_Pc0 N56 v57 kd) fun N70 v71 => dbd (fX4_put_Pc1 N70 v57 (u : Int)) fun N75 v76 => dbd (fX4_put_Pc2 N75 v57 d) fun N80 v81 => dbd (fX4_put_Pc3 N80 v57 (dG N80 (61441 + 26624 * s))) fun N85 v86 => dbd (fX4_put_Pc4 N85 v57 (dG N85 (61440 + 26624 * s))) fun N90 v91 => dbd (fX4_put_Pc5 N90 v57 (dG N90 (61442 + 26624 * s))) fun N95 v96 => some (N95, 0)) := fun m => by
  induction m with
  | zero =>
    intro fuel i hi hf
    obtain ⟨f, rfl⟩ : ∃ f, fuel = f + 1 := ⟨fuel - 1, by omega⟩
    rw [fX3_send_RE_b55, if_neg (by omega)]
  | succ m ih =>
    intro fuel i hi hf
    obtain ⟨f, rfl⟩ : ∃ f, fuel = f + 1 := ⟨fuel - 1, by omega⟩
    have g : 0 ≤ (i : Int) ∧ (i : Int) < 100 := by omega
    have nx : fX3_send_RE_b114 (fX3_send_RE_b55 f) N s (u : Int) kd d (i : Int) = (dbd (fX4_opn_P N) fun N56 v57 => dbd (fX4_put_Pc0 N56 v57 kd) fun N70 v71 => dbd (fX4_put_Pc1 N70 v57 (u : Int)) fun N75 v76 => dbd (fX4_put_Pc2 N75 v57 d) fun N80 v81 => dbd (fX4_put_Pc3 N80 v57 (dG N80 (61441 + 26624 * s))) fun N85 v86 => dbd (fX4_put_Pc4 N85 v57 (dG N85 (61440 + 26624 * s))) fun N90 v91 => dbd (fX4_put_Pc5 N90 v57 (dG N90 (61442 + 26624 * s))) fun N95 v96 => some (N95, 0)) := by
      unfold fX3_send_RE_b114
      rw [dW_id (x := (i : Int) + 1) ⟨by omega, by omega⟩]
      exact ih f (i + 1) (by omega) (by omega)
    rw [fX3_send_RE_b55, if_pos (by omega), dgd_t g, Int.toNat_natCast]
    by_cases c : dG N (16384 + i) = (u : Int)
    · have hd := hr i (by omega) c
      rw [if_pos c, dgd_t g, if_neg (by omega), nx]
    · rw [if_neg c, nx]
theorem sp_send_RE {N : mMem} {s : Nat} (hs : s < 8) {u : Nat} {kd : Int} (hu : u < 8) (hc : dG N 2051 = 0) (h0 : 0 ≤ dG N 10243) (h1 : dG N 10243 < 100) (hk : dR kd) (t0 : 0 ≤ dG N 2049) (t1 : dG N 2049 ≤ 100000) (d0 : 0 ≤ dG N (6144 + u)) (d1 : dG N (6144 + u) ≤ 100) (hr : ∀ i : Nat, (i : Int) < dG N 10243 → dG N (16384 + i) = (u : Int) → dG N (18432 + i) ≤ dG N 2049 + dG N (6144 + u)) :
    ∃ N1, fX3_send_RE N s (u : Int) kd = some (N1, 0) ∧ dPost N1 = dPost N ++ [(kd, ((u : Int), (dG N 2049 + dG N (6144 + u), (dG N (61441 + 26624 * s), (dG N (61440 + 26624 * s), dG N (61442 + 26624 * s))))))] ∧ dG N1 10243 = dG N 10243 + 1 ∧ ∀ k, k < 2097152 → (k < 10240 ∨ 26624 ≤ k) → k ≠ 53248 → dG N1 k = dG N k := by
  unfold fX3_send_RE dlt
  have rr : ∀ k, k < 2097152 → k ≠ 53248 → dG (dP N 53248 (dW (dG N 53248 + 1))) k = dG N k := fun k hk h => dG_n h (by decide) hk
  generalize dP N 53248 (dW (dG N 53248 + 1)) = M at rr ⊢
  have q1 : dG M 2051 = 0 := (rr _ (by decide) (by decide)).trans hc
  have q2 : dG M 10243 = dG N 10243 := rr _ (by decide) (by decide)
  have q3 : dG M 2049 = dG N 2049 := rr _ (by decide) (by decide)
  have q4 : dG M (6144 + u) = dG N (6144 + u) := rr _ (by omega) (by omega)
  dsimp only
  rw [dbd_s (sp_isCut q1 _), if_pos rfl]
  have fu : fX4_isFull_P M = some (M, 0) := by
    unfold fX4_isFull_P
    rw [if_pos (by omega)]
  rw [dbd_s fu, if_pos rfl, dgd_t ⟨by omega, by omega⟩, Int.toNat_natCast, q3, q4, dW_id (x := dG N 2049 + dG N (6144 + u)) ⟨by omega, by omega⟩]
  have lo := sp_sendl_RE (N := M) (s := s) (u := u) (kd := kd) (d := dG N 2049 + dG N (6144 + u)) (by omega) (by omega) (fun i hi hl => by
    rw [rr _ (by omega) (by omega)] at hl ⊢
    exact hr i (by omega) hl) (dG M 10243).toNat 1000 0 (by omega) (by omega)
  rw [show ((0 : Nat) : Int) = 0 from rfl] at lo
  rw [lo]
  obtain ⟨N1, e1, e2, e3, e4⟩ := sp_last_RE (N := M) hs (u := u) (kd := kd) (d := dG N 2049 + dG N (6144 + u)) hu (by omega) (by omega) hk ⟨by omega, by omega⟩
  refine ⟨N1, e1, ?_, by omega, fun k hk h h2 => (e4 k hk h).trans (rr k hk h2)⟩
  rw [e2, dPost_same (N := N) (N1 := M) (fun k a b => rr k (by omega) (by omega)) (by omega), rr _ (by omega) (by omega), rr _ (by omega) (by omega), rr _ (by omega) (by omega)]
theorem sp_last_RU {N : mMem} {s : Nat} (hs : s < 8) {u : Nat} {kd d : Int} (hu : u < 8) (h0 : 0 ≤ dG N 10243) (h1 : dG N 10243 < 100) (hk : dR kd) (hd : dR d) : ∃ N1, (dbd (fX4_opn_P N) fun N56 v57 => dbd (fX4_put_Pc0 N56 v57 kd) fun N70 v71 => dbd (fX4_put_Pc1 N70 v57 (u : Int)) fun N75 v76 => dbd (fX4_put_Pc2 N75 v57 d) fun N80 v81 => dbd (fX4_put_Pc3 N80 v57 (dG N80 (59393 + 26624 * s))) fun N85 v86 => dbd (fX4_put_Pc4 N85 v57 (dG N85 (59392 + 26624 * s))) fun N90 v91 => dbd (fX4_put_Pc5 N90 v57 (dG N90 (59394 + 26624 * s))) fun N95 v96 => some (N95, 0)) = some (N1, 0) ∧ dPost N1 = dPost N ++ [(kd, ((u : Int), (d, (dG N (59393 + 26624 * s), (dG N (59392 + 26624 * s), dG N (59394 + 26624 * s))))))] ∧ dG N1 10243 = dG N 10243 + 1 ∧ dOut 10240 26624 N N1 := by
  obtain ⟨p, hp⟩ : ∃ p : Nat, dG N 10243 = (p : Int) := ⟨(dG N 10243).toNat, by omega⟩
  rw [dbd_s (sp_opnP h0 h1), hp]
  have w : dW ((p : Int) + 1) = (p : Int) + 1 := dW_id ⟨by omega, by omega⟩
  have z1 : dG ((dP N 10243 ((p : Int) + 1))) 10243 = (p : Int) + 1 := (dG_e (by decide)).trans w
  have r1 : ∀ k, k < 2097152 → k ≠ 10243 → dG (dP N 10243 ((p : Int) + 1)) k = dG N k := fun k hk h => dG_n h (by decide) hk
  generalize dP N 10243 ((p : Int) + 1) = N1 at z1 r1 ⊢
  rw [dbd_s (sp_putP0 (by omega) (by omega) (by omega)), Int.toNat_natCast]
  have r2 : ∀ k, k < 2097152 → dG (dP N1 (14336 + p) kd) k = if k = 14336 + p then kd else dG N1 k := fun k h => by rw [dG_P (by omega) h, dW_id hk]
  generalize dP N1 (14336 + p) kd = N2 at r2 ⊢
  have z2 : dG N2 10243 = (p : Int) + 1 := by rw [r2 _ (by decide), if_neg (by omega), z1]
  rw [dbd_s (sp_putP1 (by omega) (by omega) (by omega)), Int.toNat_natCast]
  have r3 : ∀ k, k < 2097152 → dG (dP N2 (16384 + p) (u : Int)) k = if k = 16384 + p then (u : Int) else dG N2 k := fun k h => by rw [dG_P (by omega) h, dW_id ⟨by omega, by omega⟩]
  generalize dP N2 (16384 + p) (u : Int) = N3 at r3 ⊢
  have z3 : dG N3 10243 = (p : Int) + 1 := by rw [r3 _ (by decide), if_neg (by omega), z2]
  rw [dbd_s (sp_putP2 (by omega) (by omega) (by omega)), Int.toNat_natCast]
  have r4 : ∀ k, k < 2097152 → dG (dP N3 (18432 + p) d) k = if k = 18432 + p then d else dG N3 k := fun k h => by rw [dG_P (by omega) h, dW_id hd]
  generalize dP N3 (18432 + p) d = N4 at r4 ⊢
  have z4 : dG N4 10243 = (p : Int) + 1 := by rw [r4 _ (by decide), if_neg (by omega), z3]
  have v4 : dG N4 (59393 + 26624 * s) = dG N (59393 + 26624 * s) := by rw [r4 _ (by omega), if_neg (by omega), r3 _ (by omega), if_neg (by omega), r2 _ (by omega), if_neg (by omega), r1 _ (by omega) (by omega)]
  rw [dbd_s (sp_putP3 (by omega) (by omega) (by omega)), Int.toNat_natCast, v4]
  have r5 : ∀ k, k < 2097152 → dG (dP N4 (20480 + p) (dG N (59393 + 26624 * s))) k = if k = 20480 + p then dG N (59393 + 26624 * s) else dG N4 k := fun k h => by rw [dG_P (by omega) h, dW_id (dG_R _ _)]
  generalize dP N4 (20480 + p) (dG N (59393 + 26624 * s)) = N5 at r5 ⊢
  have z5 : dG N5 10243 = (p : Int) + 1 := by rw [r5 _ (by decide), if_neg (by omega), z4]
  have v5 : dG N5 (59392 + 26624 * s) = dG N (59392 + 26624 * s) := by rw [r5 _ (by omega), if_neg (by omega), r4 _ (by omega), if_neg (by omega), r3 _ (by omega), if_neg (by omega), r2 _ (by omega), if_neg (by omega), r1 _ (by omega) (by omega)]
  rw [dbd_s (sp_putP4 (by omega) (by omega) (by omega)), Int.toNat_natCast, v5]
  have r6 : ∀ k, k < 2097152 → dG (dP N5 (22528 + p) (dG N (59392 + 26624 * s))) k = if k = 22528 + p then dG N (59392 + 26624 * s) else dG N5 k := fun k h => by rw [dG_P (by omega) h, dW_id (dG_R _ _)]
  generalize dP N5 (22528 + p) (dG N (59392 + 26624 * s)) = N6 at r6 ⊢
  have z6 : dG N6 10243 = (p : Int) + 1 := by rw [r6 _ (by decide), if_neg (by omega), z5]
  have v6 : dG N6 (59394 + 26624 * s) = dG N (59394 + 26624 * s) := by rw [r6 _ (by omega), if_neg (by omega), r5 _ (by omega), if_neg (by omega), r4 _ (by omega), if_neg (by omega), r3 _ (by omega), if_neg (by omega), r2 _ (by omega), if_neg (by omega), r1 _ (by omega) (by omega)]
  rw [dbd_s (sp_putP5 (by omega) (by omega) (by omega)), Int.toNat_natCast, v6]
  have r7 : ∀ k, k < 2097152 → dG (dP N6 (24576 + p) (dG N (59394 + 26624 * s))) k = if k = 24576 + p then dG N (59394 + 26624 * s) else dG N6 k := fun k h => by rw [dG_P (by omega) h, dW_id (dG_R _ _)]
  generalize dP N6 (24576 + p) (dG N (59394 + 26624 * s)) = N7 at r7 ⊢
  have z7 : dG N7 10243 = (p : Int) + 1 := by rw [r7 _ (by decide), if_neg (by omega), z6]
  refine ⟨N7, rfl, ?_, z7, fun k hk h => by rw [r7 k hk, if_neg (by omega), r6 k hk, if_neg (by omega), r5 k hk, if_neg (by omega), r4 k hk, if_neg (by omega), r3 k hk, if_neg (by omega), r2 k hk, if_neg (by omega), r1 k hk (by omega)]⟩
  refine dPost_ext (by rw [List.length_append, dPost_len, z7, hp]; simp) (fun j hj => ?_)
  rw [List.length_append, dPost_len, hp, Int.toNat_natCast] at hj
  have hj : j < p + 1 := hj
  by_cases c : j < p
  · rw [List.getElem?_append_left (by rw [dPost_len, hp, Int.toNat_natCast]; exact c), dPost_get (by rw [hp, Int.toNat_natCast]; exact c)]
    have old : ∀ q, q < 6 → dG N7 (14336 + 2048 * q + j) = dG N (14336 + 2048 * q + j) := fun q hq => by
      rw [r7 _ (by omega), if_neg (by omega), r6 _ (by omega), if_neg (by omega), r5 _ (by omega), if_neg (by omega), r4 _ (by omega), if_neg (by omega), r3 _ (by omega), if_neg (by omega), r2 _ (by omega), if_neg (by omega), r1 _ (by omega) (by omega)]
    have c0 := old 0 (by decide)
    have c1 := old 1 (by decide)
    have c2 := old 2 (by decide)
    have c3 := old 3 (by decide)
    have c4 := old 4 (by decide)
    have c5 := old 5 (by decide)
    simp only [Nat.reduceMul, Nat.reduceAdd] at c0 c1 c2 c3 c4 c5
    unfold dRow
    rw [c0, c1, c2, c3, c4, c5]
  · have e : j = p := by omega
    subst e
    rw [List.getElem?_append_right (by rw [dPost_len, hp, Int.toNat_natCast]; omega), dPost_len, hp, Int.toNat_natCast, Nat.sub_self]
    have c0 : dG N7 (14336 + j) = kd := by rw [r7 _ (by omega), if_neg (by omega), r6 _ (by omega), if_neg (by omega), r5 _ (by omega), if_neg (by omega), r4 _ (by omega), if_neg (by omega), r3 _ (by omega), if_neg (by omega), r2 _ (by omega), if_pos rfl]
    have c1 : dG N7 (16384 + j) = (u : Int) := by rw [r7 _ (by omega), if_neg (by omega), r6 _ (by omega), if_neg (by omega), r5 _ (by omega), if_neg (by omega), r4 _ (by omega), if_neg (by omega), r3 _ (by omega), if_pos rfl]
    have c2 : dG N7 (18432 + j) = d := by rw [r7 _ (by omega), if_neg (by omega), r6 _ (by omega), if_neg (by omega), r5 _ (by omega), if_neg (by omega), r4 _ (by omega), if_pos rfl]
    have c3 : dG N7 (20480 + j) = dG N (59393 + 26624 * s) := by rw [r7 _ (by omega), if_neg (by omega), r6 _ (by omega), if_neg (by omega), r5 _ (by omega), if_pos rfl]
    have c4 : dG N7 (22528 + j) = dG N (59392 + 26624 * s) := by rw [r7 _ (by omega), if_neg (by omega), r6 _ (by omega), if_pos rfl]
    have c5 : dG N7 (24576 + j) = dG N (59394 + 26624 * s) := by rw [r7 _ (by omega), if_pos rfl]
    unfold dRow
    rw [c0, c1, c2, c3, c4, c5]
    rfl
theorem sp_sendl_RU {N : mMem} {s : Nat} {u : Nat} {kd d : Int} (h0 : 0 ≤ dG N 10243) (h1 : dG N 10243 < 100) (hr : ∀ i : Nat, (i : Int) < dG N 10243 → dG N (16384 + i) = (u : Int) → dG N (18432 + i) ≤ d) : ∀ (m fuel i : Nat), (dG N 10243).toNat = i + m → m < fuel → fX3_send_RU_b55 fuel N s (u : Int) kd d (i : Int) = (dbd (fX4_opn_P N) fun N56 v57 => dbd (fX4_put_Pc0 N56 v57 kd) fun N70 v71 => dbd (fX4_put_Pc1 N70 v57 (u : Int)) fun N75 v76 => dbd (fX4_put_Pc2 N75 v57 d) fun N80 v81 => dbd (fX4_put_Pc3 N80 v57 (dG N80 (59393 + 26624 * s))) fun N85 v86 => dbd (fX4_put_Pc4 N85 v57 (dG N85 (59392 + 26624 * s))) fun N90 v91 => dbd (fX4_put_Pc5 N90 v57 (dG N90 (59394 + 26624 * s))) fun N95 v96 => some (N95, 0)) := fun m => by
  induction m with
  | zero =>
    intro fuel i hi hf
    obtain ⟨f, rfl⟩ : ∃ f, fuel = f + 1 := ⟨fuel - 1, by omega⟩
    rw [fX3_send_RU_b55, if_neg (by omega)]
  | succ m ih =>
    intro fuel i hi hf
    obtain ⟨f, rfl⟩ : ∃ f, fuel = f + 1 := ⟨fuel - 1, by omega⟩
    have g : 0 ≤ (i : Int) ∧ (i : Int) < 100 := by omega
    have nx : fX3_send_RU_b114 (fX3_send_RU_b55 f) N s (u : Int) kd d (i : Int) = (dbd (fX4_opn_P N) fun N56 v57 => dbd (fX4_put_Pc0 N56 v57 kd) fun N70 v71 => dbd (fX4_put_Pc1 N70 v57 (u : Int)) fun N75 v76 => dbd (fX4_put_Pc2 N75 v57 d) fun N80 v81 => dbd (fX4_put_Pc3 N80 v57 (dG N80 (59393 + 26624 * s))) fun N85 v86 => dbd (fX4_put_Pc4 N85 v57 (dG N85 (59392 + 26624 * s))) fun N90 v91 => dbd (fX4_put_Pc5 N90 v57 (dG N90 (59394 + 26624 * s))) fun N95 v96 => some (N95, 0)) := by
      unfold fX3_send_RU_b114
      rw [dW_id (x := (i : Int) + 1) ⟨by omega, by omega⟩]
      exact ih f (i + 1) (by omega) (by omega)
    rw [fX3_send_RU_b55, if_pos (by omega), dgd_t g, Int.toNat_natCast]
    by_cases c : dG N (16384 + i) = (u : Int)
    · have hd := hr i (by omega) c
      rw [if_pos c, dgd_t g, if_neg (by omega), nx]
    · rw [if_neg c, nx]
theorem sp_send_RU {N : mMem} {s : Nat} (hs : s < 8) {u : Nat} {kd : Int} (hu : u < 8) (hc : dG N 2051 = 0) (h0 : 0 ≤ dG N 10243) (h1 : dG N 10243 < 100) (hk : dR kd) (t0 : 0 ≤ dG N 2049) (t1 : dG N 2049 ≤ 100000) (d0 : 0 ≤ dG N (6144 + u)) (d1 : dG N (6144 + u) ≤ 100) (hr : ∀ i : Nat, (i : Int) < dG N 10243 → dG N (16384 + i) = (u : Int) → dG N (18432 + i) ≤ dG N 2049 + dG N (6144 + u)) :
    ∃ N1, fX3_send_RU N s (u : Int) kd = some (N1, 0) ∧ dPost N1 = dPost N ++ [(kd, ((u : Int), (dG N 2049 + dG N (6144 + u), (dG N (59393 + 26624 * s), (dG N (59392 + 26624 * s), dG N (59394 + 26624 * s))))))] ∧ dG N1 10243 = dG N 10243 + 1 ∧ ∀ k, k < 2097152 → (k < 10240 ∨ 26624 ≤ k) → k ≠ 53248 → dG N1 k = dG N k := by
  unfold fX3_send_RU dlt
  have rr : ∀ k, k < 2097152 → k ≠ 53248 → dG (dP N 53248 (dW (dG N 53248 + 1))) k = dG N k := fun k hk h => dG_n h (by decide) hk
  generalize dP N 53248 (dW (dG N 53248 + 1)) = M at rr ⊢
  have q1 : dG M 2051 = 0 := (rr _ (by decide) (by decide)).trans hc
  have q2 : dG M 10243 = dG N 10243 := rr _ (by decide) (by decide)
  have q3 : dG M 2049 = dG N 2049 := rr _ (by decide) (by decide)
  have q4 : dG M (6144 + u) = dG N (6144 + u) := rr _ (by omega) (by omega)
  dsimp only
  rw [dbd_s (sp_isCut q1 _), if_pos rfl]
  have fu : fX4_isFull_P M = some (M, 0) := by
    unfold fX4_isFull_P
    rw [if_pos (by omega)]
  rw [dbd_s fu, if_pos rfl, dgd_t ⟨by omega, by omega⟩, Int.toNat_natCast, q3, q4, dW_id (x := dG N 2049 + dG N (6144 + u)) ⟨by omega, by omega⟩]
  have lo := sp_sendl_RU (N := M) (s := s) (u := u) (kd := kd) (d := dG N 2049 + dG N (6144 + u)) (by omega) (by omega) (fun i hi hl => by
    rw [rr _ (by omega) (by omega)] at hl ⊢
    exact hr i (by omega) hl) (dG M 10243).toNat 1000 0 (by omega) (by omega)
  rw [show ((0 : Nat) : Int) = 0 from rfl] at lo
  rw [lo]
  obtain ⟨N1, e1, e2, e3, e4⟩ := sp_last_RU (N := M) hs (u := u) (kd := kd) (d := dG N 2049 + dG N (6144 + u)) hu (by omega) (by omega) hk ⟨by omega, by omega⟩
  refine ⟨N1, e1, ?_, by omega, fun k hk h h2 => (e4 k hk h).trans (rr k hk h2)⟩
  rw [e2, dPost_same (N := N) (N1 := M) (fun k a b => rr k (by omega) (by omega)) (by omega), rr _ (by omega) (by omega), rr _ (by omega) (by omega), rr _ (by omega) (by omega)]
