/-! ===== the front moves ===== -/
/-- from (ph, f) to (ph2, v) -/
noncomputable def dStep (n w k ph f ph2 : Nat) : Prop :=
  (ph = 0 ∧ dNx n f ≠ k ∧ ph2 = 0) ∨ (ph = 0 ∧ dNx n f = k ∧ k ≠ w ∧ ph2 = 1) ∨ (ph = 0 ∧ dNx n f = k ∧ k = w ∧ ph2 = 2) ∨ (ph = 1 ∧ dPs n k f < dPs n k w ∧ dNx n f ≠ w ∧ ph2 = 1) ∨ (ph = 1 ∧ dPs n k f < dPs n k w ∧ dNx n f = w ∧ ph2 = 2) ∨ (ph = 2 ∧ dNx n f ≠ w ∧ ph2 = 2)
theorem dPs_ne {n k s t : Nat} (hk : k < n) (hs : s < n) (ht : t < n) (h : s ≠ t) : dPs n k s ≠ dPs n k t := fun e => h (dPs_inj hk hs ht e)
/-- the one behind the last of a lap is no other than the first -/
theorem dNx_k {n w k f : Nat} (hk : k < n) (hf : f < n) (hw : w < n) (h : dPs n k f < dPs n k w) : dNx n f ≠ k := fun e => by
  have a := dPs_end hk hf e
  have b := dPs_lt hk hw
  omega
theorem dMs_move {n w k ph f ph2 : Nat} {ds bs : Nat → Int} {t : Int} {a : Prop} {r : dMsg} (hk : k < n) (hw : w < n) (hf : f < n) (hst : dStep n w k ph f ph2) (h : dMs n w k ds bs ph f t a r) (ha : a → r.2.1 ≠ (f : Int)) : dMs n w k ds bs ph2 (dNx n f) t True r := by
  obtain ⟨c, l, j, ⟨l1, l2, l3⟩, hj, g1, g2⟩ := h
  have hv : dNx n f < n := dNx_lt (by omega)
  have lf : a → l ≠ f := fun z e => ha z (by rw [l2, e])
  refine ⟨c, l, j, ⟨l1, l2, l3⟩, hj, ?_, ?_⟩
  · intro e
    obtain ⟨p0, p1⟩ := g1 e
    rcases hst with ⟨q1, q2, q3⟩ | ⟨q1, q2, q3, q4⟩ | ⟨q1, q2, q3, q4⟩ | ⟨q1, q0, q2, q3⟩ | ⟨q1, q0, q2, q3⟩ | ⟨q1, q2, q3⟩
    · have iv := dPs_nx hk hf q2
      obtain ⟨x1, x2, -⟩ := p0 q1
      refine ⟨fun _ => ⟨x1, by omega, fun _ z => ?_⟩, fun z => by omega⟩
      rw [z] at x2
      omega
    · obtain ⟨x1, x2, -⟩ := p0 q1
      refine ⟨fun z => by omega, fun _ => ⟨.inl x1, fun _ z => ?_⟩⟩
      rw [z, q2, dPs_0] at x1
      exact dPs_ne hk hw hk (fun y => q3 y.symm) (by rw [dPs_0]; omega)
    · exact ⟨fun z => by omega, fun z => by omega⟩
    · have iv := dPs_nx hk hf (dNx_k hk hf hw q0)
      have iw := dPs_ne hk hv hw q2
      obtain ⟨x1, -⟩ := p1 q1
      refine ⟨fun z => by omega, fun _ => ⟨by omega, fun _ z => ?_⟩⟩
      rw [z] at x1
      omega
    · exact ⟨fun z => by omega, fun z => by omega⟩
    · exact ⟨fun z => by omega, fun z => by omega⟩
  · intro e
    obtain ⟨p, x1, x2, p0, p1⟩ := g2 e
    rcases hst with ⟨q1, q2, q3⟩ | ⟨q1, q2, q3, q4⟩ | ⟨q1, q2, q3, q4⟩ | ⟨q1, q0, q2, q3⟩ | ⟨q1, q0, q2, q3⟩ | ⟨q1, q2, q3⟩
    · have iv := dPs_nx hk hf q2
      obtain ⟨x3, -⟩ := p0 q1
      refine ⟨by omega, x1, x2, fun _ => ⟨by omega, fun _ z => ?_⟩, fun z => by omega⟩
      rw [z] at x3
      omega
    · refine ⟨by omega, x1, x2, fun z => by omega, fun _ => ⟨?_, fun z => (z trivial).elim⟩⟩
      rw [q2, dPs_0]
      omega
    · rw [← q3, dPs_0] at x2
      omega
    · have iv := dPs_nx hk hf (dNx_k hk hf hw q0)
      obtain ⟨x3, x4⟩ := p1 q1
      have ne : l ≠ f := by
        by_cases z : a
        · exact lf z
        · exact x4 z
      have il := dPs_ne hk l1 hf ne
      exact ⟨by omega, x1, x2, fun z => by omega, fun _ => ⟨by omega, fun z => (z trivial).elim⟩⟩
    · have iv := dPs_nx hk hf (dNx_k hk hf hw q0)
      rw [q2] at iv
      obtain ⟨x3, x4⟩ := p1 q1
      have ne : l ≠ f := by
        by_cases z : a
        · exact lf z
        · exact x4 z
      have il := dPs_ne hk l1 hf ne
      omega
    · omega
/-- for the other STATIONS nothing changes -/
theorem dStep_st {n w k ph f ph2 s : Nat} {bs : Nat → Int} (hk : k < n) (hw : w < n) (hf : f < n) (hs : s < n) (hst : dStep n w k ph f ph2) (hwl : ∀ t, t < n → dLe bs w t) (hsv : s ≠ dNx n f) :
    (dVis n k ph2 (dNx n f) s → dVis n k ph f s) ∧ (dVis n k ph f s → dVis n k ph2 (dNx n f) s) ∧ (dUpt n w ph2 (dNx n f) s → dUpt n w ph f s) ∧ (dUpt n w ph f s → dUpt n w ph2 (dNx n f) s) ∧ ∀ j, dVis n k ph f s → ¬ dUpt n w ph f s → dBst n w k bs ph f s j → dBst n w k bs ph2 (dNx n f) s j := by
  have hv : dNx n f < n := dNx_lt (by omega)
  have ik := dPs_ne hk hs hv hsv
  have iw := dPs_ne hw hs hv hsv
  have sl := dPs_lt hk hs
  unfold dVis dUpt dBst dLap
  rcases hst with ⟨rfl, q2, rfl⟩ | ⟨rfl, q2, q3, rfl⟩ | ⟨rfl, q2, q3, rfl⟩ | ⟨rfl, q0, q2, rfl⟩ | ⟨rfl, q0, q2, rfl⟩ | ⟨rfl, q2, rfl⟩
  · have iv := dPs_nx hk hf q2
    refine ⟨fun z => by omega, fun z => by omega, fun z => by omega, fun z => by omega, fun j _ _ z => ⟨z.1, fun y => by omega, fun _ => z.2.2 (by omega)⟩⟩
  · have ie := dPs_end hk hf q2
    rw [q2, dPs_0] at ik ⊢
    refine ⟨fun z => by omega, fun z => by omega, fun z => by omega, fun z => by omega, fun j _ _ z => ⟨z.1, fun y => by omega, fun _ => z.2.2 (by omega)⟩⟩
  · have ie := dPs_end hk hf q2
    subst q3
    rw [q2, dPs_0] at ik iw ⊢
    refine ⟨fun z => by omega, fun z => by omega, fun z => by omega, fun z => by omega, fun j _ _ z => ⟨z.1, fun _ => dBe_w hw hwl (z.2.2 (by omega)) (by rw [dPs_0]; omega), fun y => (y (.inl rfl)).elim⟩⟩
  · have iv := dPs_nx hk hf (dNx_k hk hf hw q0)
    refine ⟨fun z => by omega, fun z => by omega, fun z => by omega, fun z => by omega, fun j _ _ z => ⟨z.1, fun y => z.2.1 (by omega), fun y => z.2.2 (by omega)⟩⟩
  · have iv := dPs_nx hk hf (dNx_k hk hf hw q0)
    rw [q2] at iv ik iw
    rw [dPs_0] at iw
    refine ⟨fun z => by omega, fun z => by omega, fun z => ?_, fun z => by omega, fun j _ _ z => ⟨z.1, fun _ => ?_, fun y => (y (.inl rfl)).elim⟩⟩
    · rw [q2, dPs_0] at z
      omega
    · by_cases c : dPs n k s ≤ dPs n k f
      · exact z.2.1 (.inr ⟨rfl, c⟩)
      · exact dBe_w hw hwl (z.2.2 (by omega)) (by omega)
  · have iv := dPs_nx hw hf q2
    refine ⟨fun z => by omega, fun z => by omega, fun z => by omega, fun z => by omega, fun j _ _ z => ⟨z.1, fun _ => z.2.1 (.inl rfl), fun y => (y (.inl rfl)).elim⟩⟩
theorem dC1_move {n w k ph f ph2 s : Nat} {ds bs : Nat → Int} {N N1 : mMem} (hk : k < n) (hw : w < n) (hf : f < n) (hs : s < n) (h8 : n ≤ 8) (hst : dStep n w k ph f ph2) (hwl : ∀ t, t < n → dLe bs w t) (hsv : s ≠ dNx n f) (h : dC1 n w k ds bs ph f N s) (ht : dG N 2049 ≤ dG N1 2049) (hm : ∀ j, dCj j → dG N1 (57344 + 26624 * s + j) = dG N (57344 + 26624 * s + j)) : dC1 n w k ds bs ph2 (dNx n f) N1 s := by
  obtain ⟨a, b, c, d⟩ := dC1_same (N1 := N1) (by omega) h ht hm
  obtain ⟨v1, v2, u1, u2, e⟩ := dStep_st hk hw hf hs hst hwl hsv
  refine ⟨a, fun z => b (fun y => z (v2 y)), fun z y => ?_, fun z => d (u1 z)⟩
  obtain ⟨c1, j, c2, c3⟩ := c (v1 z) (fun x => y (u2 x))
  exact ⟨c1, j, e j (v1 z) (fun x => y (u2 x)) c2, c3⟩
/-- the front left the next one when it came -/
theorem dAtf_move {n w k ph f ph2 : Nat} {ds : Nat → Int} (hk : k < n) (hw : w < n) (hf : f < n) (hst : dStep n w k ph f ph2) : dAtf n w k ds ph2 (dNx n f) = dAtf n w k ds ph f + ds f := by
  unfold dAtf dTs
  rcases hst with ⟨rfl, q2, rfl⟩ | ⟨rfl, q2, q3, rfl⟩ | ⟨rfl, q2, q3, rfl⟩ | ⟨rfl, q0, q2, rfl⟩ | ⟨rfl, q0, q2, rfl⟩ | ⟨rfl, q2, rfl⟩
  · rw [if_pos rfl, if_pos rfl]
    exact dTd_nx hk hf q2
  · rw [if_neg (by decide), if_pos rfl, if_pos rfl, dTd_end hk hf q2, q2, dTd_0]
    omega
  · rw [if_neg (by decide), if_neg (by decide), if_pos rfl, dTd_end hk hf q2, q2, ← q3, dTd_0]
    omega
  · rw [if_neg (by decide), if_pos rfl, if_neg (by decide), if_pos rfl, dTd_nx hk hf (dNx_k hk hf hw q0)]
    omega
  · rw [if_neg (by decide), if_neg (by decide), if_neg (by decide), if_pos rfl, ← q2]
    have e := dTd_nx (f := ds) hk hf (dNx_k hk hf hw q0)
    rw [e, dTd_0]
    omega
  · rw [if_neg (by decide), if_neg (by decide), if_neg (by decide), if_neg (by decide), dTd_nx hw hf q2]
    omega
theorem dPfx_u {f : Nat → Int} {c : Int} {m : Nat} (h : ∀ i, i < m → f i ≤ c) : dPfx f m ≤ c * m := by
  induction m with
  | zero => rw [dPfx_0]; omega
  | succ m ih =>
    have a := ih (fun i hi => h i (by omega))
    have b := h m (by omega)
    rw [dPfx_s, Int.natCast_succ, Int.mul_add]
    omega
/-- all comes before three times LATENCY -/
theorem dAtf_le {n w k ph f : Nat} {ds : Nat → Int} (hk : k < n) (hw : w < n) (hf : f < n) (hd : ∀ i, i < n → 0 ≤ ds i) : 0 ≤ dAtf n w k ds ph f ∧ dAtf n w k ds ph f + ds f ≤ 3 * dPfx ds n := by
  have st : ∀ q, q < n → dTd ds n q f + ds f ≤ dPfx ds n := fun q hq => by
    by_cases c : dNx n f = q
    · have := dTd_end (f := ds) hq hf c
      omega
    · have := dTd_nx (f := ds) hq hf c
      have := (dTd_b hd hq (dNx_lt (n := n) (q := f) (by omega))).2
      omega
  have a := st k hk
  have b := st w hw
  have c := dTd_b hd hk hw
  have d := dTd_b hd hk hf
  have e := dTd_b hd hw hf
  have g := hd f hf
  unfold dAtf dTs
  by_cases p : ph = 0
  · rw [if_pos p]; omega
  · rw [if_neg p]
    by_cases q : ph = 1
    · rw [if_pos q]; omega
    · rw [if_neg q]; omega

