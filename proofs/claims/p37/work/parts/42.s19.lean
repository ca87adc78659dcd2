/-! ===== CLAIMS go: streams, turns, a tick ===== -/
noncomputable def dJd (n w k : Nat) (m : Int) (ds ss bs : Nat → Int) (t : Int) (N : mMem) : Prop := dG N 2049 = t ∧ (∀ r ∈ dPost N, t < r.2.2.1) ∧ ∃ ph f j A B, dG1 n w k m ds ss bs ph f j N ∧ dMq n w k ds bs ph f j t A B (dPost N) ∧ (0 ≤ dG N 10243 ∧ dG N 10243 ≤ 1 + dSq n N) ∧ t < dAtf n w k ds ph f + ds f
theorem p1_ac {n w k : Nat} {m t : Int} {ds ss bs : Nat → Int} {N : mMem} {K W : List dMsg} (h : dJ1 n w k m ds ss bs t N K [] W) : dJd n w k m ds ss bs t N := by
  obtain ⟨hp, hK, hW, hnow, ph, f, j, A, B, hg, hq, hz, htD, htE⟩ := h
  have rows : ∀ r ∈ K ++ ([] ++ W), t < r.2.2.1 := fun r hr => by
    rcases List.mem_append.mp hr with x | x
    · exact hK r x
    · exact hW r x
  refine ⟨hnow, by rw [hp]; exact rows, ph, f, j, A, B, hg, by rw [hp]; exact hq, hz, ?_⟩
  have fm : dFr bs ph f j (dAtf n w k ds ph f + ds f) ∈ K ++ ([] ++ W) := by
    rw [hq.1]
    exact List.mem_append_right _ List.mem_cons_self
  exact rows _ fm
theorem dTd_le {n f q : Nat} {ds : Nat → Int} (hd : ∀ i, i < n → 0 ≤ ds i) (hq : q < n) (hf : f < n) : dTd ds n q f + ds f ≤ dPfx ds n := by
  by_cases c : dNx n f = q
  · have := dTd_end (f := ds) hq hf c
    omega
  · have := dTd_nx (f := ds) hq hf c
    have := (dTd_b hd hq (dNx_lt (n := n) (q := f) (by omega))).2
    omega
theorem p1_bnd {n w k ph f j : Nat} {m : Int} {ds ss bs : Nat → Int} {N : mMem} (hpar : dPar n m ds ss bs) (hk : k < n) (hw : w < n) (hg : dG1 n w k m ds ss bs ph f j N) (ht : dG N 2049 ≤ dAtf n w k ds ph f + ds f) : dSq n N ≤ 48 ∧ dG N 2049 ≤ 120 ∧ dPfx ds n ≤ 40 := by
  obtain ⟨⟨h2, h8⟩, -, hs⟩ := hpar
  obtain ⟨⟨f1, -⟩, -, -, gc, -⟩ := hg
  have hL : dPfx ds n ≤ 5 * n := dPfx_u (fun i hi => (hs i hi).1.2)
  have hA := dAtf_le (ph := ph) (ds := ds) hk hw f1 (fun i hi => by have := (hs i hi).1.1; omega)
  exact ⟨dSq_b h8 (fun s hs => by have := (gc s hs).1.1.2; omega), by omega, by omega⟩
theorem p1_B {n w k : Nat} {m t : Int} {ds ss bs : Nat → Int} (hpar : dPar n m ds ss bs) (hk : k < n) (hw : w < n) (N : mMem) (u : Nat) (hu : u < n) (h : dJd n w k m ds ss bs t N) : ∃ N1, fX3_goOnStreaming_RS N u = some (N1, 0) ∧ dJd n w k m ds ss bs t N1 := by
  obtain ⟨⟨h2, h8⟩, -, hs⟩ := id hpar
  obtain ⟨hnow, rows, ph, f, j, A, B, hg, hq, ⟨z0, z1⟩, htD⟩ := h
  have bnd := p1_bnd hpar hk hw hg (by omega)
  obtain ⟨⟨f1, f2, f3, f4, f5⟩, gr, gs, gc, gw⟩ := hg
  obtain ⟨s1, s2, s3, s4, ⟨s5, s6⟩, s7⟩ := id gr
  obtain ⟨u1, u2, u3, u4, u5, u6⟩ := gs u hu
  obtain ⟨M, e1, e2, e3⟩ := sp_streaming (N := N) (s := u) (by omega) u2 s5 u3 u4
  have low : ∀ k, k < 26624 → dG M k = dG N k := fun k hk => e3 k (by omega) (.inl hk) (by omega) (by omega) (by omega)
  have fj : ∀ s j, s < n → j < 26624 → j ≠ 6146 → j ≠ 8199 → j ≠ 24576 → dG M (57344 + 26624 * s + j) = dG N (57344 + 26624 * s + j) := fun s j h1 h2 h3 h4 h5 => e3 _ (by omega) (.inr (by omega)) (by omega) (by omega) (by omega)
  have nw : dG M 2049 = dG N 2049 := low 2049 (by decide)
  have pM : dPost M = dPost N := dPost_same (fun k x y => low k y) (by omega)
  have psM := low 10243 (by decide)
  have sq := dSq_le (n := n) (v := n) (N := N) (N1 := M) (fun s hs _ => e3 _ (by omega) (.inr (by omega)) (by omega) (by omega) (by omega)) (fun z => absurd z (by omega))
  refine ⟨M, e1, nw.trans hnow, by rw [pM]; exact rows, ph, f, j, A, B, ⟨⟨f1, f2, f3, f4, by rw [nw]; exact f5⟩, dSr_same gr (fun k h1 _ => low k (by omega)) (fun k h1 h2 => e3 k (by omega) (.inr (by omega)) (by omega) (by omega) (by omega)), fun s hsn => ?_, fun s hsn => dC1_same (by omega) (gc s hsn) (by omega) (fun i hi => fj s i hsn (by unfold dCj at hi; omega) (by unfold dCj at hi; omega) (by unfold dCj at hi; omega) (by unfold dCj at hi; omega)), (e3 53252 (by decide) (.inr (by decide)) (by omega) (by omega) (by omega)).trans gw⟩, by rw [pM]; exact hq, ⟨by omega, by omega⟩, htD⟩
  have r1 : 0 ≤ dG M (63490 + 26624 * s) ∧ dG M (63490 + 26624 * s) ≤ 99 := by
    by_cases e : s = u
    · rw [e]; exact e2
    · rw [e3 _ (by omega) (.inr (by omega)) (by omega) (by omega) (by omega)]
      exact (gs s hsn).2.2.2.1
  exact dSs_same (by omega) (gs s hsn) (low _ (by omega)) r1 (dLine_same (by omega) (gs s hsn).2.2.2.2.1 (fun k h1 h2 => e3 k (by omega) (.inr (by omega)) (by omega) (by omega) (by omega))) (fun j hj => fj s j hsn (by omega) (by omega) (by omega) (by omega))
/-- a CLAIMING one sends its own again -/
theorem p1_again {n w k ph f u : Nat} {bs : Nat → Int} (hk : k < n) (hw : w < n) (hu : u < n) (hwl : ∀ t, t < n → dLe bs w t) (hph : ph < 3) (hv : dVis n k ph f u) (hup : ¬ dUpt n w ph f u) (hb : dBst n w k bs ph f u u) :
    (u = w → (ph = 0 → dPs n k w ≤ dPs n k u ∧ dPs n k u ≤ dPs n k f ∧ (False → u ≠ f)) ∧ (ph = 1 → (dPs n k w ≤ dPs n k u ∨ dPs n k u ≤ dPs n k f) ∧ (False → u ≠ f))) ∧
    (u ≠ w → ph ≠ 2 ∧ dPs n k u ≤ dPs n k u ∧ dPs n k u < dPs n k w ∧ (ph = 0 → dPs n k u ≤ dPs n k f ∧ (False → u ≠ f)) ∧ (ph = 1 → dPs n k f ≤ dPs n k u ∧ (¬ False → u ≠ f))) := by
  unfold dVis at hv
  refine ⟨fun e => ⟨fun z => ⟨by rw [e]; exact Nat.le_refl _, by omega, fun y => y.elim⟩, fun _ => ⟨.inl (by rw [e]; exact Nat.le_refl _), fun y => y.elim⟩⟩, fun e => ?_⟩
  have nl : ¬ dLap n k ph f u := fun z => e (hb.2.1 z)
  have be := hb.2.2 nl
  have lt : dPs n k u < dPs n k w := by
    by_cases c : dPs n k w ≤ dPs n k u
    · exact (e (dBe_w hw hwl be c)).elim
    · omega
  unfold dLap at nl
  refine ⟨fun z => nl (.inl z), Nat.le_refl _, lt, fun z => ⟨by omega, fun y => y.elim⟩, fun z => ?_⟩
  have g : ¬ dPs n k u ≤ dPs n k f := fun y => nl (.inr ⟨z, y⟩)
  refine ⟨by omega, fun _ y => ?_⟩
  rw [y] at g
  exact g (Nat.le_refl _)
theorem p1_C {n w k : Nat} {m t : Int} {ds ss bs : Nat → Int} (hpar : dPar n m ds ss bs) (hk : k < n) (hw : w < n) (hwl : ∀ t, t < n → dLe bs w t) (N : mMem) (u : Nat) (hu : u < n) (h : dJd n w k m ds ss bs t N) : ∃ N1, fX3_takeTurn_RS N u = some (N1, 0) ∧ dJd n w k m ds ss bs t N1 := by
  obtain ⟨⟨h2, h8⟩, -, hs⟩ := id hpar
  have h0 := h
  obtain ⟨hnow, rows, ph, f, j, A, B, hg, hq, ⟨z0, z1⟩, htD⟩ := h
  have bnd := p1_bnd hpar hk hw hg (by omega)
  obtain ⟨⟨f1, f2, f3, f4, f5⟩, gr, gs, gc, gw⟩ := id hg
  obtain ⟨s1, s2, s3, ⟨s4, s4'⟩, ⟨s5, s6⟩, s7⟩ := id gr
  obtain ⟨u1, u2, -⟩ := id (gs u hu)
  obtain ⟨⟨⟨a1, a2⟩, a3, a4, a5, a6⟩, b1, b2, b3⟩ := gc u hu
  have hd0 : ∀ i, i < n → 0 ≤ ds i := fun i hi => by have := (hs i hi).1.1; omega
  by_cases vis : dVis n k ph f u
  · by_cases up : dUpt n w ph f u
    · obtain ⟨⟨c1, c2, c3, c4, c5⟩, ⟨d1, d2, d3, d4⟩, -⟩ := b3 up
      have p2 := up.1
      have eA : dAtf n w k ds ph f = dTs n w k ds f := by
        unfold dAtf
        rw [if_neg (by omega), if_neg (by omega)]
      rw [eA] at htD
      have td := dTd_le (ds := ds) hd0 hw f1
      have tb := dTd_b (f := ds) hd0 hw hu
      have bw := (hs w hw).2.2.1
      unfold dTs at htD d1
      obtain ⟨M, e1, e2⟩ := sp_watchDue (N := N) (s := u) (by omega) ⟨by omega, by omega⟩ (by rw [c2]; omega) (fun _ => d2)
      refine ⟨N, ?_, h0⟩
      rcases e2 with ⟨-, rfl⟩ | ⟨z, -⟩
      · unfold fX3_takeTurn_RS fX3_takeTurn_RS_b23
        rw [if_pos u2, if_pos a3, if_pos c1, dbd_s e1]
      · omega
    · obtain ⟨⟨c1, c2, c3⟩, b, hb, d1, d2, d3⟩ := b2 vis up
      have tb := dTd_b (f := ds) hd0 hk hu
      have can := p1_can hu gr (gs u hu) (hs u hu).1 ⟨z0, by omega⟩ (fun r hr e => by
        obtain ⟨i, -, i2, i3⟩ := dMq_mem f1 (by omega) hq r hr
        have ei : i = u := by omega
        rw [ei] at i3
        omega)
      rcases sp_turnClaiming (N := N) (s := u) (by omega) u2 a3 c1 s4 s4' (by omega) a1 (by omega) can with e | ⟨g1, ⟨g2, g3⟩, N1, q1, q2, q3, q4, q5⟩
      · exact ⟨N, e, h0⟩
      · have eb : b = u := by omega
        rw [eb] at hb d1
        obtain ⟨x1, x2⟩ := p1_again hk hw hu hwl f2 vis up hb
        have ho := dOvr_fwd (by omega) (fun k a b c d _ => q5 k a b c d)
        have nw : dG N1 2049 = dG N 2049 := ho.1 2049 (by decide) (by decide)
        have x0 : (0, ((u : Int), (dG N 2049 + dG N (6144 + u), (dG N (61441 + 26624 * u), (dG N (61440 + 26624 * u), dG N (61442 + 26624 * u)))))) = ((0, ((u : Int), (t + ds u, ((u : Int), (bs u, 1))))) : dMsg) := by rw [hnow, u1.1, g2, d1, d3]
        rw [x0] at q3
        refine ⟨N1, q1, nw.trans hnow, fun r hr => ?_, ph, f, j, A, B ++ [(0, ((u : Int), (t + ds u, ((u : Int), (bs u, 1)))))], ⟨⟨f1, f2, f3, f4, by rw [nw]; exact f5⟩, dOvr_sr gr ho, fun s hs => dOvr_ss (by omega) (gs s hs) ho, fun s hsn => ?_, (q5 53252 (by decide) (by decide) (by decide) (by omega)).trans gw⟩, ?_, ⟨by omega, ?_⟩, htD⟩
        · rw [q3] at hr
          rcases List.mem_append.mp hr with x | x
          · exact rows r x
          · rw [List.mem_singleton.mp x]
            have := (hs u hu).1.1
            show t < t + ds u
            omega
        · by_cases c : s = u
          · rw [c]
            exact dC1_fwd (M := N) (by omega) (gc u hu) vis up up vis nw (by omega) hb ⟨by rw [q5 _ (by omega) (by omega) (by omega) (by omega)]; exact d1, by rw [q5 _ (by omega) (by omega) (by omega) (by omega)]; exact g2, by rw [q5 _ (by omega) (by omega) (by omega) (by omega)]; exact d3⟩ q2 (fun i hi a b => q5 _ (by unfold dCj at hi; omega) (by omega) (by omega) (by omega))
          · exact dC1_same (by omega) (gc s hsn) (by omega) (fun i hi => ho.2.2 s i (by omega) (by unfold dCj at hi; omega) (.inl c))
        · rw [q3]
          refine dMq_put hq ⟨⟨rfl, rfl⟩, u, u, ⟨hu, rfl, Int.le_refl _⟩, ⟨hu, rfl, rfl⟩, x1, x2⟩ (fun r hr e => ?_)
          obtain ⟨i, -, i2, i3⟩ := dMq_mem f1 (by omega) hq r hr
          have e : r.2.1 = (u : Int) := e
          have ei : i = u := by omega
          rw [ei] at i3
          exact i3
        · have q := dSq_lt (n := n) (v := u) (N := N) (N1 := N1) (fun s hs c => q5 _ (by omega) (by omega) (by omega) (by omega)) hu (by omega)
          omega
  · exact ⟨N, sp_turnQuiet (by omega) u2 a3 (b1 vis).1, h0⟩

