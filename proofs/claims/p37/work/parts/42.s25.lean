/-! ===== storm ===== -/
noncomputable def dLns (n : Nat) (m : Int) (N : mMem) : Prop := dG N 2048 = (n : Int) ∧ dG N 4096 = m ∧ ∀ s, s < n → dLine n m N s
theorem dLns_draw {n : Nat} {m : Int} {N M : mMem} (h8 : n ≤ 8) (h : dLns n m N) (fr : ∀ k, k < 2097152 → k ≠ 2050 → dG M k = dG N k) : dLns n m M ∧ dOnl N M := ⟨⟨(fr _ (by decide) (by decide)).trans h.1, (fr _ (by decide) (by decide)).trans h.2.1, fun s hs => dLine_same (by omega) (h.2.2 s hs) (fun k h1 h2 => fr k (by omega) (by omega))⟩, fun k a b _ => fr k a b⟩
theorem sp_storm72 {n : Nat} {m : Int} (h2 : 2 ≤ n) (h8 : n ≤ 8) (hm : 1 ≤ m ∧ m ≤ 20) {N : mMem} (h : dLns n m N) {a y x1 x2 x3 : Int} (hx2 : 0 ≤ x2 ∧ x2 ≤ 1000) (k : mMem → Int → Int → Int → Option dZ) :
    ∃ M x, fX7_storm_O_b72 k N x1 x2 x3 a y = fX7_storm_O_b143 k M x1 x x3 ∧ dLns n m M ∧ dOnl N M ∧ (x = x2 ∨ x = x2 + 1) := by
  unfold fX7_storm_O_b72
  obtain ⟨M1, v1, e1, r1, f1⟩ := sp_draw (N := N) (x := 3) ⟨by decide, by decide⟩
  obtain ⟨g1, o1⟩ := dLns_draw h8 h f1
  obtain ⟨M2, v2, e2, r2, f2⟩ := sp_draw (N := M1) (x := dG M1 4096) (by rw [g1.2.1]; omega)
  obtain ⟨g2, o2⟩ := dLns_draw h8 g1 f2
  rw [g1.2.1] at r2
  rw [dbd_s e1, dbd_s e2, dW_id (x := v1 + 1) ⟨by omega, by omega⟩, dW_id (x := v2 + 1) ⟨by omega, by omega⟩]
  rcases sp_canFrame M2 a y (v1 + 1) (v2 + 1) (by rw [g2.1]; omega) with e | ⟨e, ha, hy, hc, hd, hf⟩
  · rw [dbd_s e, if_pos rfl]
    exact ⟨M2, x2, rfl, g2, dOnl_trans o1 o2, .inl rfl⟩
  · rw [dbd_s e, if_neg (by decide)]
    rw [g2.1] at ha hy
    rw [g2.2.1] at hd
    obtain ⟨u, hu⟩ : ∃ u : Nat, a = (u : Int) := ⟨a.toNat, by omega⟩
    subst hu
    obtain ⟨M3, v3, q1, q2, q3, q4⟩ := sp_queue (N := M2) (u := u) (n := n) (m := m) (by omega) (g2.2.2 u (by omega)) (hf u rfl) hy hc hd (by omega) h8
    rw [dbd_s q1, dW_id (x := x2 + 1) ⟨by omega, by omega⟩]
    have o3 : dOnl M2 M3 := fun k a b c => q4 k a (c u (by omega)).1 (c u (by omega)).2
    refine ⟨M3, x2 + 1, rfl, ⟨(dOnl_low o3 (by decide) (by decide)).trans g2.1, (dOnl_low o3 (by decide) (by decide)).trans g2.2.1, fun s hs => ?_⟩, dOnl_trans o1 (dOnl_trans o2 o3), .inr rfl⟩
    by_cases c : s = u
    · rw [c]; exact q2
    · exact dLine_same (by omega) (g2.2.2 s hs) (fun k h1 h2 => q4 k (by omega) (by omega) (by omega))
theorem sp_stormLoop {n : Nat} {m : Int} (h2 : 2 ≤ n) (h8 : n ≤ 8) (hm : 1 ≤ m ∧ m ≤ 20) : ∀ (d fuel : Nat) (N : mMem) (x1 x2 x3 : Int), dLns n m N → x1 - x3 = (d : Int) → d < fuel → 0 ≤ x3 → x1 ≤ 30 → (0 ≤ x2 ∧ x2 ≤ x3) → ∃ N1 v, fX7_storm_O_b17 fuel N x1 x2 x3 = some (N1, v) ∧ dLns n m N1 ∧ dOnl N N1 := fun d => by
  induction d with
  | zero =>
    intro fuel N x1 x2 x3 h hd hf h0 h1 hx
    obtain ⟨f, rfl⟩ : ∃ f, fuel = f + 1 := ⟨fuel - 1, by omega⟩
    rw [fX7_storm_O_b17, if_neg (by omega)]
    exact ⟨N, x2, rfl, h, dOnl_refl N⟩
  | succ d ih =>
    intro fuel N x1 x2 x3 h hd hf h0 h1 hx
    obtain ⟨f, rfl⟩ : ∃ f, fuel = f + 1 := ⟨fuel - 1, by omega⟩
    obtain ⟨M1, v1, e1, r1, f1⟩ := sp_draw (N := N) (x := dG N 2048) (by rw [h.1]; omega)
    obtain ⟨g1, o1⟩ := dLns_draw h8 h f1
    rw [h.1] at r1
    have w : dW (dG M1 2048 - 1) = (n : Int) - 1 := by rw [g1.1]; exact dW_id ⟨by omega, by omega⟩
    obtain ⟨M2, v2, e2, r2, f2⟩ := sp_draw (N := M1) (x := (n : Int) - 1) ⟨by omega, by omega⟩
    obtain ⟨g2, o2⟩ := dLns_draw h8 g1 f2
    have turn : ∀ y, ∃ N1 v, fX7_storm_O_b72 (fX7_storm_O_b17 f) M2 x1 x2 x3 v1 y = some (N1, v) ∧ dLns n m N1 ∧ dOnl N N1 := fun y => by
      obtain ⟨M3, x, t1, t2, t3, t4⟩ := sp_storm72 h2 h8 hm g2 (a := v1) (y := y) (x1 := x1) (x2 := x2) (x3 := x3) ⟨by omega, by omega⟩ (fX7_storm_O_b17 f)
      obtain ⟨N1, v, s1, s2, s3⟩ := ih f M3 x1 x (x3 + 1) t2 (by omega) (by omega) (by omega) h1 (by omega)
      refine ⟨N1, v, ?_, s2, dOnl_trans o1 (dOnl_trans o2 (dOnl_trans t3 s3))⟩
      rw [t1]
      unfold fX7_storm_O_b143
      rw [dW_id (x := x3 + 1) ⟨by omega, by omega⟩]
      exact s1
    rw [fX7_storm_O_b17, if_pos (by omega), dbd_s e1, w, dbd_s e2]
    by_cases c : v2 < v1
    · rw [if_pos c]; exact turn _
    · rw [if_neg c]; exact turn _
theorem sp_storm {n : Nat} {m : Int} (h2 : 2 ≤ n) (h8 : n ≤ 8) (hm : 1 ≤ m ∧ m ≤ 20) {N : mMem} (h : dLns n m N) {x : Int} (hx : 1 ≤ x ∧ x ≤ 30) : ∃ N1 v, fX7_storm_O N x = some (N1, v) ∧ dLns n m N1 ∧ dOnl N N1 := by
  unfold fX7_storm_O
  rw [if_neg (by omega), if_neg (by omega)]
  exact sp_stormLoop h2 h8 hm x.toNat 1000 N x 0 0 h (by omega) (by omega) (by omega) (by omega) ⟨by omega, by omega⟩
theorem sp_frame {n : Nat} {m : Int} (h8 : n ≤ 8) (hm : 1 ≤ m ∧ m ≤ 20) {N : mMem} (h : dLns n m N) (a b c d : Int) : ∃ N1 v, fX7_frame_O N a b c d = some (N1, v) ∧ dLns n m N1 ∧ dOnl N N1 := by
  unfold fX7_frame_O
  rcases sp_canFrame N a b c d (by rw [h.1]; omega) with e | ⟨e, ha, hy, hc, hd, hf⟩
  · rw [dbd_s e, if_pos rfl]
    exact ⟨N, _, rfl, h, dOnl_refl N⟩
  · rw [dbd_s e, if_neg (by decide)]
    rw [h.1] at ha hy
    rw [h.2.1] at hd
    obtain ⟨u, hu⟩ : ∃ u : Nat, a = (u : Int) := ⟨a.toNat, by omega⟩
    subst hu
    obtain ⟨M3, v3, q1, q2, q3, q4⟩ := sp_queue (N := N) (u := u) (n := n) (m := m) (by omega) (h.2.2 u (by omega)) (hf u rfl) hy hc hd (by omega) h8
    have o3 : dOnl N M3 := fun k a b c => q4 k a (c u (by omega)).1 (c u (by omega)).2
    rw [dbd_s q1, dgd_t ⟨by omega, by omega⟩]
    unfold dln
    refine ⟨M3, _, rfl, ⟨(dOnl_low o3 (by decide) (by decide)).trans h.1, (dOnl_low o3 (by decide) (by decide)).trans h.2.1, fun s hs => ?_⟩, o3⟩
    by_cases c : s = u
    · rw [c]; exact q2
    · exact dLine_same (by omega) (h.2.2 s hs) (fun k h1 h2 => q4 k (by omega) (by omega) (by omega))

