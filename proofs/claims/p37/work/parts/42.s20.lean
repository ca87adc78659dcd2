/-! ===== CLAIMS go: a tick to its end ===== -/
/-- at a tick's end, while some are not UP -/
noncomputable def dI1 (n w k : Nat) (m : Int) (ds ss bs : Nat → Int) (N : mMem) : Prop := (∀ r ∈ dPost N, dG N 2049 < r.2.2.1) ∧ ∃ ph f j A B, dG1 n w k m ds ss bs ph f j N ∧ dMq n w k ds bs ph f j (dG N 2049) A B (dPost N) ∧ (0 ≤ dG N 10243 ∧ dG N 10243 ≤ 1 + dSq n N) ∧ dG N 2049 < dAtf n w k ds ph f + ds f ∧ (ph = 2 → dNx n f ≠ w)
theorem dTd_mn {n q s t : Nat} {f : Nat → Int} (hf : ∀ i, i < n → 0 ≤ f i) (hq : q < n) (hs : s < n) (ht : t < n) (h : dPs n q s ≤ dPs n q t) : dTd f n q s ≤ dTd f n q t := by
  unfold dPs at h
  unfold dTd
  have a := dPfx_mn (f := f) (m := n) hf (k := q) (by omega)
  have b := dPfx_mn (f := f) (m := n) hf (k := s) (by omega)
  have c := dPfx_mn (f := f) (m := n) hf (k := t) (by omega)
  have d := dPfx_mn (f := f) (m := s) (fun i hi => hf i (by omega)) (k := 0) (by omega)
  have e := dPfx_mn (f := f) (m := t) (fun i hi => hf i (by omega)) (k := 0) (by omega)
  rw [dPfx_0] at d e
  by_cases x : s < q
  · rw [if_pos x] at h ⊢
    by_cases y : t < q
    · rw [if_pos y] at h ⊢
      have := dPfx_mn (f := f) (m := t) (fun i hi => hf i (by omega)) (k := s) (by omega)
      omega
    · rw [if_neg y] at h
      omega
  · rw [if_neg x] at h ⊢
    by_cases y : t < q
    · rw [if_pos y] at h ⊢
      omega
    · rw [if_neg y] at h ⊢
      have := dPfx_mn (f := f) (m := t) (fun i hi => hf i (by omega)) (k := s) (by omega)
      omega
/-- all are UP: the TOKEN is on its way to the one that sent it first -/
theorem p1_all {n w k f j : Nat} {m : Int} {ds ss bs : Nat → Int} {A B : List dMsg} {N : mMem} (hpar : dPar n m ds ss bs) (hk : k < n) (hw : w < n) (hr : ∀ r ∈ dPost N, dG N 2049 < r.2.2.1) (hg : dG1 n w k m ds ss bs 2 f j N) (hq : dMq n w k ds bs 2 f j (dG N 2049) A B (dPost N)) (hz : 0 ≤ dG N 10243 ∧ dG N 10243 ≤ 1 + dSq n N) (ht : dG N 2049 < dAtf n w k ds 2 f + ds f) (hx : dNx n f = w) : dI2 n w m (bs w) (dG N 53253) ds ss bs N := by
  obtain ⟨⟨h2, h8⟩, hm, hs⟩ := id hpar
  have bnd := p1_bnd hpar hk hw hg (by omega)
  obtain ⟨⟨f1, f2, ⟨-, -, f3⟩, f4, f5⟩, gr, gs, gc, gw⟩ := id hg
  have ej : j = w := f3 (by decide)
  subst ej
  have hd0 : ∀ i, i < n → 0 ≤ ds i := fun i hi => by have := (hs i hi).1.1; omega
  have hc0 : ∀ i, i < n → 0 ≤ ss i + ds i := fun i hi => by have := hs i hi; omega
  have eA : dAtf n j k ds 2 f = dTs n j k ds f := rfl
  have te := dTd_end (f := ds) hw f1 hx
  have pe := dPs_end hw f1 hx
  have tk := dTd_b (f := ds) hd0 hk hw
  have bw := (hs j hw).2.2
  have LA : dPfx ds n ≤ dPfx (fun i => ss i + ds i) n := dPfx_le (fun i hi => by have := hs i hi; show ds i ≤ ss i + ds i; omega)
  have eD : dAtf n j k ds 2 f + ds f = dPfx ds n + dTd ds n j f + ds f + dTd ds n k j := by rw [eA]; unfold dTs; omega
  have all : ∀ s, s < n → dUpt n j 2 f s := fun s hsn => ⟨rfl, by have := dPs_lt hw hsn; omega⟩
  have vd : ∀ s, s < n → dVd (bs j) N s = dTs n j k ds s + bs j := fun s hsn => by
    obtain ⟨-, ⟨d1, d2, d3, d4⟩, -⟩ := (gc s hsn).2.2.2 (all s hsn)
    unfold dVd
    rw [if_pos d2]
    exact d1
  have ts : ∀ s, s < n → dTs n j k ds s = dPfx ds n + dTd ds n k j + dTd ds n j s := fun s _ => rfl
  have tl : ∀ s, s < n → 0 ≤ dTd ds n j s ∧ dTd ds n j s ≤ dPfx ds n ∧ dTd ds n j s ≤ dTd ds n j f := fun s hsn => by
    have a := dTd_b (f := ds) hd0 hw hsn
    exact ⟨a.1, a.2, dTd_mn hd0 hw hsn f1 (by have := dPs_lt hw hsn; omega)⟩
  have now0 : dTs n j k ds f ≤ dG N 2049 := by rw [eA] at f5; exact f5
  have tf := ts f f1
  have dlt : (0 : Int) ≤ dPfx ds n := by omega
  have due : ∀ s, s < n → dG N (57356 + 26624 * s) = dTs n j k ds s + bs j := fun s hsn => ((gc s hsn).2.2.2 (all s hsn)).2.1.1
  refine ⟨fun s hsn => ?_, hr, .inl ⟨f, dAtf n j k ds 2 f + ds f, ⟨f1, by omega, fun r hr => ?_, ?_, fun s hsn => (gc s hsn).1.2.1⟩, ⟨gr, gs, fun s hsn => ?_, ?_, ?_, ⟨hz.1, by omega⟩, gw, rfl⟩, by omega⟩⟩
  · rw [due s hsn, ts s hsn]
    have := tl s hsn
    omega
  · obtain ⟨e, qa, qb, -⟩ := hq
    have cl : ∀ {a : Prop} {r : dMsg}, dMs n j k ds bs 2 f (dG N 2049) a r → dClm n j ds (dG N 2049) r := fun h => by
      obtain ⟨⟨x1, x2⟩, l, i, x3, ⟨-, x5, -⟩, -, x6⟩ := h
      have ei : i = j := Decidable.byContradiction fun z => (x6 z).1 rfl
      rw [ei] at x5
      exact ⟨x1, ⟨l, x3⟩, x5, x2⟩
    rw [e] at hr
    rcases List.mem_append.mp hr with x | x
    · exact .inl (cl (qa r x))
    · rcases List.mem_cons.mp x with y | y
      · exact .inr y
      · exact .inl (cl (qb r y))
  · obtain ⟨e, qa, qb, -⟩ := hq
    rw [e, dCnt, if_pos (show dIsT (dFr bs 2 f j (dAtf n j k ds 2 f + ds f)) = true from rfl), List.countP_eq_zero.mpr (fun r hr => ?_)]
    have z : r.1 = 0 := by
      rcases List.mem_append.mp hr with x | x
      · exact (qa r x).1.1
      · exact (qb r x).1.1
    unfold dIsT
    rw [z]
    decide
  · obtain ⟨⟨⟨a1, a2⟩, a3, a4, a5, a6⟩, -, -, b3⟩ := gc s hsn
    obtain ⟨c, ⟨d1, d2, d3, d4⟩, e1, e2, e3⟩ := b3 (all s hsn)
    have t1 := ts s hsn
    have t2 := tl s hsn
    refine ⟨c, .inl d2, ⟨by omega, by omega⟩, ⟨by omega, by omega⟩, by omega, ⟨by omega, by omega⟩, by rw [e2, e1]; omega, a6, fun z => by omega, fun _ => e2, ⟨by omega, by omega⟩, .inl a3, fun _ => a4, fun z => by omega, a5⟩
  · rw [hx]
    refine ⟨fun s t hsn htn hp => ?_, fun s hsn => ?_⟩
    · rw [vd s hsn, vd t htn, ts s hsn, ts t htn]
      have := dTd_mn (f := ds) hd0 hw hsn htn hp
      omega
    · rw [vd s hsn, vd j hw, ts s hsn, ts j hw, dTd_0]
      have t2 := tl s hsn
      have cb := dTd_b (f := fun i => ss i + ds i) hc0 hw hsn
      refine ⟨by omega, by omega, by omega⟩
  · rw [hx]
    intro s hsn
    have d4 := ((gc s hsn).2.2.2 (all s hsn)).2.1.2.2.2
    have d4 : dG N (65547 + 26624 * s) = dTs n j k ds s := d4
    show dG N (65547 + 26624 * s) + dPfx ds n ≤ dAtf n j k ds 2 f + ds f + dTd ds n j s
    rw [d4, ts s hsn]
    omega
/-- a tick while CLAIMS go -/
theorem p1_tick {n w k : Nat} {m : Int} {ds ss bs : Nat → Int} (hpar : dPar n m ds ss bs) (hk : k < n) (hw : w < n) (hwl : ∀ t, t < n → dLe bs w t) {N : mMem} (h : dI1 n w k m ds ss bs N) : ∃ N1, fX3_advance_R N = some (N1, 0) ∧ dG N1 2049 = dG N 2049 + 1 ∧ (dI1 n w k m ds ss bs N1 ∨ ∃ k5, dI2 n w m (bs w) k5 ds ss bs N1) := by
  obtain ⟨⟨h2, h8⟩, -, hs⟩ := id hpar
  obtain ⟨rows, ph, f, j, A, B, hg, hq, ⟨z0, z1⟩, htD, hne⟩ := h
  have bnd := p1_bnd hpar hk hw hg (by omega)
  obtain ⟨⟨f1, f2, f3, f4, f5⟩, gr, gs, gc, gw⟩ := id hg
  obtain ⟨s1, s2, s3, s4, ⟨s5, s6⟩, s7⟩ := id gr
  unfold fX3_advance_R dlt
  rw [dW_id (x := dG N 2049 + 1) ⟨by omega, by omega⟩]
  have fr : ∀ k, k < 2097152 → k ≠ 2049 → dG (dP N 2049 (dG N 2049 + 1)) k = dG N k := fun k hk h => dG_n h (by decide) hk
  have nw : dG ((dP N 2049 (dG N 2049 + 1))) 2049 = dG N 2049 + 1 := (dG_e (by decide)).trans (dW_id ⟨by omega, by omega⟩)
  generalize dP N 2049 (dG N 2049 + 1) = M at fr nw ⊢
  dsimp only
  have pM : dPost M = dPost N := dPost_same (fun k x y => fr k (by omega) (by omega)) (by omega)
  have fj : ∀ s j, s < n → j < 26624 → dG M (57344 + 26624 * s + j) = dG N (57344 + 26624 * s + j) := fun s j h1 h2 => fr _ (by omega) (by omega)
  have sM : dSr n m M := ⟨(fr _ (by decide) (by decide)).trans s1, (fr _ (by decide) (by decide)).trans s2, (fr _ (by decide) (by decide)).trans s3, ⟨(fr _ (by decide) (by decide)).trans s4.1, (fr _ (by decide) (by decide)).trans s4.2⟩, ⟨by omega, by omega⟩, (fr _ (by decide) (by decide)).trans s7.1, (fr _ (by decide) (by decide)).trans s7.2.1, (fr _ (by decide) (by decide)).trans s7.2.2⟩
  have ssM : ∀ s, s < n → dSs n m ds ss bs M s := fun s hsn => dSs_same (by omega) (gs s hsn) (fr _ (by omega) (by omega)) (by rw [fr _ (by omega) (by omega)]; exact (gs s hsn).2.2.2.1) (dLine_same (by omega) (gs s hsn).2.2.2.2.1 (fun k h1 h2 => fr k (by omega) (by omega))) (fun j hj => fj s j hsn (by omega))
  have psM := fr 10243 (by decide) (by decide)
  have sq := dSq_le (n := n) (v := n) (N := N) (N1 := M) (fun s hs _ => fr _ (by omega) (by omega)) (fun z => absurd z (by omega))
  have hq2 : dMq n w k ds bs ph f j (dG N 2049 + 1) A B (dPost M) := by
    obtain ⟨q1, q2, q3, q4⟩ := hq
    rw [pM]
    exact ⟨q1, fun r hr => dMs_le (q2 r hr) (by omega), fun r hr => dMs_le (q3 r hr) (by omega), q4⟩
  have ja : dJ1 n w k m ds ss bs (dG N 2049 + 1) M [] (dPost M) [] := by
    refine ⟨by rw [List.nil_append, List.append_nil], fun r hr => (by cases hr), fun r hr => (by cases hr), nw, ph, f, j, A, B, ⟨⟨f1, f2, f3, f4, by omega⟩, sM, ssM, fun s hsn => dC1_same (by omega) (gc s hsn) (by omega) (fun i hi => fj s i hsn (by unfold dCj at hi; omega)), (fr _ (by decide) (by decide)).trans gw⟩, ?_, ⟨by omega, by omega⟩, by omega, fun a b => (hne a b).elim⟩
    rw [List.nil_append, List.append_nil]
    exact hq2
  have len : (((dPost M).length : Nat) : Int) = dG M 10243 := by rw [dPost_len]; omega
  obtain ⟨N1, K1, W1, j1, r1⟩ := sp_loopA (J := dJ1 n w k m ds ss bs (dG N 2049 + 1)) (t := dG N 2049 + 1) (fun N K U W j => by
    obtain ⟨y1, -, -, y2, ph, f, j, A, B, g, -, ⟨x0, x1⟩, x2, -⟩ := j
    have b := p1_bnd hpar hk hw g (by omega)
    exact ⟨y1, ⟨x0, by omega⟩, y2⟩) (fun N K u U W j hu => by
    obtain ⟨y1, y2, y3, y4, ph, f, j, A, B, g, q, x⟩ := j
    have e : K ++ (u :: U ++ W) = K ++ [u] ++ (U ++ W) := by rw [List.append_assoc]; rfl
    refine ⟨y1.trans e, fun r hr => ?_, y3, y4, ph, f, j, A, B, g, by rw [← e]; exact q, x⟩
    rcases List.mem_append.mp hr with q | q
    · exact y2 r q
    · rw [List.mem_singleton.mp q]; exact hu) (fun N K u U W j hu => p1_A hpar hk hw hwl N K u U W j hu) (dPost M) 1000 M [] [] (dG M 10243) 0 ja (by omega) (by omega) (by omega) (by omega)
  have r1 : fX3_advance_R_b22 1000 M (dG M 10243) 0 0 = fX3_advance_R_b62 1000 N1 0 := r1
  rw [r1]
  obtain ⟨N2, j2, r2⟩ := sp_loopB (J := dJd n w k m ds ss bs (dG N 2049 + 1)) (n := n) h8 (fun N j => by
    obtain ⟨-, -, ph, f, j, A, B, g, -⟩ := j
    exact g.2.1.1) (fun N u hu j => p1_B hpar hk hw N u hu j) n 1000 0 N1 (by omega) (by omega) (p1_ac j1)
  have r2 : fX3_advance_R_b62 1000 N1 0 = fX3_advance_R_b88 1000 N2 0 := r2
  rw [r2]
  obtain ⟨N3, j3, r3⟩ := sp_loopC (J := fun _ => dJd n w k m ds ss bs (dG N 2049 + 1)) (n := n) h8 (fun N u j => by
    obtain ⟨-, -, ph, f, j, A, B, g, -⟩ := j
    exact g.2.1.1) (fun N u hu j => p1_C hpar hk hw hwl N u hu j) n 1000 0 N2 (by omega) (by omega) j2
  obtain ⟨t1, t2, ph', f', j', A', B', t3, t4, t5, t6⟩ := j3
  refine ⟨N3, r3, t1, ?_⟩
  rw [← t1] at t2 t4 t6
  by_cases c : ph' = 2 ∧ dNx n f' = w
  · obtain ⟨c1, c2⟩ := c
    subst c1
    exact .inr ⟨_, p1_all hpar hk hw t2 t3 t4 t5 t6 c2⟩
  · exact .inl ⟨t2, ph', f', j', A', B', t3, t4, t5, t6, fun a b => c ⟨a, b⟩⟩
/-- they are all UP before three times LATENCY -/
theorem p1_time {n w k : Nat} {m : Int} {ds ss bs : Nat → Int} (hpar : dPar n m ds ss bs) (hk : k < n) (hw : w < n) {N : mMem} (h : dI1 n w k m ds ss bs N) : dG N 2049 < 3 * dPfx ds n := by
  obtain ⟨⟨h2, h8⟩, -, hs⟩ := id hpar
  obtain ⟨-, ph, f, j, A, B, hg, -, -, htD, -⟩ := h
  have hA := dAtf_le (ph := ph) (ds := ds) hk hw hg.1.1 (fun i hi => by have := (hs i hi).1.1; omega)
  omega

