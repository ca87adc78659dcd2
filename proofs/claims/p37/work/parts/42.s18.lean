/-! ===== one message ===== -/
theorem dOvr_of {v : Nat} {M N1 : mMem} (fr : ∀ k, k < 2097152 → (k < 10240 ∨ 38912 ≤ k) → k ≠ 53248 → k ≠ 53252 → k ≠ 53253 → (∀ i, (dCj i ∨ i = 8193 ∨ i = 8194 ∨ i = 8196) → k ≠ 57344 + 26624 * v + i) → dG N1 k = dG M k) (hv : v < 8) (hsh : dG N1 (65538 + 26624 * v) = dG M (65538 + 26624 * v) ∨ dG N1 (65538 + 26624 * v) = 0) : dOvr v M N1 := by
  have b : ∀ i, (dCj i ∨ i = 8193 ∨ i = 8194 ∨ i = 8196) → i < 26624 := fun i h => by unfold dCj at h; omega
  refine ⟨fun k h _ => fr k (by omega) (.inl h) (by omega) (by omega) (by omega) (fun i hi => by omega), ⟨fun k h1 h2 => fr k (by omega) (by omega) (by omega) (by omega) (by omega) (fun i hi => by omega), fun _ => hsh⟩, fun s i h1 h2 c => fr _ (by omega) (by omega) (by omega) (by omega) (by omega) (fun i' hi' e => ?_)⟩
  have z := b i' hi'
  obtain ⟨e1, e2⟩ : s = v ∧ i = i' := by omega
  rcases c with c | c
  · exact c e1
  · rw [← e2] at hi'
    rcases hi' with x | x
    · exact c.1 x
    · omega
theorem dOvr_fwd {v : Nat} {M N1 : mMem} (hv : v < 8) (fr : ∀ k, k < 2097152 → (k < 10240 ∨ 26624 ≤ k) → k ≠ 53248 → k ≠ (57353 + 26624 * v) → (k < (61440 + 26624 * v) ∨ (61442 + 26624 * v) < k) → dG N1 k = dG M k) : dOvr v M N1 := dOvr_of (fun k a b c _ _ g => by
  have g9 := g 9 (.inl (.inl (by decide)))
  have q0 := g 4096 (.inl (.inr (.inr (.inl (by decide)))))
  have q1 := g 4097 (.inl (.inr (.inr (.inl (by decide)))))
  have q2 := g 4098 (.inl (.inr (.inr (.inl (by decide)))))
  exact fr k a (by omega) c (by omega) (by omega)) hv (.inl (fr _ (by omega) (by omega) (by omega) (by omega) (by omega)))
theorem dOvr_gone {v : Nat} {M N1 : mMem} (hv : v < 8) (fr : ∀ k, k < 2097152 → (k < 10240 ∨ 38912 ≤ k) → k ≠ 53248 → k ≠ 53252 → dUpF v k → dG N1 k = dG M k) : dOvr v M N1 := dOvr_of (fun k a b c d _ g => by
  have g4 := g 4 (.inl (.inl (by decide)))
  have g5 := g 5 (.inl (.inl (by decide)))
  have g12 := g 12 (.inl (.inl (by decide)))
  have g13 := g 13 (.inl (.inl (by decide)))
  have g14 := g 14 (.inl (.inl (by decide)))
  have q0 := g 2048 (.inl (.inr (.inl (by decide))))
  have q1 := g 2049 (.inl (.inr (.inl (by decide))))
  have q2 := g 2050 (.inl (.inr (.inl (by decide))))
  have w0 := g 8203 (.inl (.inr (.inr (.inr (.inl (by decide))))))
  have t0 := g 24582 (.inl (.inr (.inr (.inr (.inr (by decide))))))
  have t1 := g 24583 (.inl (.inr (.inr (.inr (.inr (by decide))))))
  have t2 := g 24584 (.inl (.inr (.inr (.inr (.inr (by decide))))))
  exact fr k a b c d ⟨by omega, by omega, by omega, by omega, by omega, by omega, by omega, by omega, by omega, by omega⟩) hv (.inl (fr _ (by omega) (by omega) (by omega) (by omega) (by unfold dUpF; omega)))
theorem dOvr_beg {v : Nat} {M N1 : mMem} (hv : v < 8) (fr : ∀ k, k < 2097152 → (k < 10240 ∨ 38912 ≤ k) → k ≠ 53248 → k ≠ 53253 → dBgF v k → dG N1 k = dG M k) (h0 : dG N1 (65538 + 26624 * v) = 0) : dOvr v M N1 := dOvr_of (fun k a b c _ d g => by
  have g4 := g 4 (.inl (.inl (by decide)))
  have g5 := g 5 (.inl (.inl (by decide)))
  have g8 := g 8 (.inl (.inl (by decide)))
  have g9 := g 9 (.inl (.inl (by decide)))
  have q0 := g 4096 (.inl (.inr (.inr (.inl (by decide)))))
  have q1 := g 4097 (.inl (.inr (.inr (.inl (by decide)))))
  have q2 := g 4098 (.inl (.inr (.inr (.inl (by decide)))))
  have w0 := g 8192 (.inl (.inr (.inr (.inr (.inl (by decide))))))
  have w1 := g 8193 (.inr (.inl rfl))
  have w2 := g 8194 (.inr (.inr (.inl rfl)))
  have w3 := g 8195 (.inl (.inr (.inr (.inr (.inl (by decide))))))
  have w4 := g 8196 (.inr (.inr (.inr rfl)))
  exact fr k a b c d ⟨by omega, by omega, by omega, by omega, by omega, by omega⟩) hv (.inr h0)
theorem p1_A {n w k : Nat} {m t : Int} {ds ss bs : Nat → Int} (hpar : dPar n m ds ss bs) (hk : k < n) (hw : w < n) (hwl : ∀ t, t < n → dLe bs w t) (N : mMem) (K : List dMsg) (u : dMsg) (U W : List dMsg) (h : dJ1 n w k m ds ss bs t N K (u :: U) W) (hdue : u.2.2.1 ≤ t) : ∃ N1 W1, fX3_comes_R N ((K.length : Nat) : Int) = some (N1, 0) ∧ dJ1 n w k m ds ss bs t N1 K U W1 := by
  obtain ⟨⟨h2, h8⟩, ⟨hm1, hm2⟩, hs⟩ := id hpar
  obtain ⟨hp, hK, hW, hnow, ph, f, j, A, B, hg, hq, ⟨z0, z1⟩, htD, htE⟩ := h
  obtain ⟨⟨f1, f2, f3, f4, f5⟩, gr, gs, gc, gw⟩ := id hg
  rw [List.cons_append] at hp hq
  have hL : dPfx ds n ≤ 5 * n := dPfx_u (fun i hi => (hs i hi).1.2)
  have hA := dAtf_le (ph := ph) (ds := ds) hk hw f1 (fun i hi => by have := (hs i hi).1.1; omega)
  have sq1 := dSq_b (N := N) h8 (fun s hs => by have := (gc s hs).1.1.2; omega)
  have um := dMq_mem f1 (by omega) hq
  obtain ⟨l, l1, l2, l3⟩ := um u (List.mem_append_right _ List.mem_cons_self)
  have len : (dPost N).length = K.length + ((U ++ W).length + 1) := by rw [hp, List.length_append, List.length_cons]
  rw [dPost_len] at len
  have row : dRow N K.length = u := by
    have g := dPost_get (N := N) (i := K.length) (by omega)
    rw [hp, List.getElem?_append_right (Nat.le_refl _), Nat.sub_self] at g
    exact (Option.some.inj g).symm
  have hv : dNx n l < n := dNx_lt (by omega)
  -- it is taken up
  have come : (u.1 = 0 ∨ u.1 = 2) → ∃ M, dPost M = K ++ (U ++ W) ∧ dLow N M ∧ dG M 10243 = dG N 10243 - 1 ∧ 1 ≤ dG N 10243 ∧ (dG M 55296 = u.2.2.2.2.1 ∧ dG M 55297 = u.2.2.2.1 ∧ dG M 55298 = u.2.2.2.2.2) ∧ (u.1 = 0 → ∀ M1, fX3_claimComes_RSC M (dNx n l) = some (M1, 0) → fX3_comes_R N ((K.length : Nat) : Int) = some (M1, 0)) ∧ (u.1 = 2 → ∀ M1, fX3_tokenComes_RSC M (dNx n l) = some (M1, 0) → fX3_comes_R N ((K.length : Nat) : Int) = some (M1, 0)) := fun hkd => by
    have r1 : dG N (14336 + K.length) = u.1 := by rw [← row]; rfl
    have r2 : dG N (16384 + K.length) = (l : Int) := by rw [← l2, ← row]; rfl
    have r4 : dG N (20480 + K.length) = u.2.2.2.1 := by rw [← row]; rfl
    have r5 : dG N (22528 + K.length) = u.2.2.2.2.1 := by rw [← row]; rfl
    have r6 : dG N (24576 + K.length) = u.2.2.2.2.2 := by rw [← row]; rfl
    obtain ⟨M, m1, m2, m3, m4, m5, m6, m7, m8⟩ := sp_comes (N := N) (i := K.length) (l := l) (n := n) gr.1 h2 h8 (by omega) (by omega) r2 l1 (fun s hs => (gs s hs).2.1) (by rw [r1]; exact hkd)
    exact ⟨M, by rw [m1, hp, dErase], fun k a b c => m6 k a (by omega) c, m2, by omega, ⟨m3.trans r5, m4.trans r4, m5.trans r6⟩, fun e M1 x => m7 M1 0 (r1.trans e) x, fun e M1 x => m8 M1 0 (r1.trans e) x⟩
  -- what holds then
  have after : ∀ M, dPost M = K ++ (U ++ W) → dLow N M → dG M 10243 = dG N 10243 - 1 → 1 ≤ dG N 10243 → dG1 n w k m ds ss bs ph f j M ∧ dG M 2049 = t ∧ dCan M (dNx n l) ∧ (dG M 10243 ≤ dSq n M) ∧ dG M (6144 + ((dNx n l))) = ds (dNx n l) := fun M pM low e1 e2 => by
    have gM := dG1_low h8 hg low
    have nw := low 2049 (by decide) (by decide) (by decide)
    have sq := dSq_le (n := n) (v := n) (N := N) (N1 := M) (fun s hs _ => low _ (by omega) (by omega) (by omega)) (fun z => absurd z (by omega))
    exact ⟨gM, nw.trans hnow, p1_can hv gM.2.1 (gM.2.2.1 _ hv) (hs _ hv).1 ⟨by omega, by omega⟩ (fun r hr e => by
      rw [pM] at hr
      obtain ⟨i, -, i2, i3⟩ := um r (dMem hr)
      have ei : i = dNx n l := by omega
      rw [ei] at i3
      rw [nw, hnow]
      exact i3), by omega, (gM.2.2.1 _ hv).1.1⟩
  have nonfront : ∀ (a : Prop) (A' B' : List dMsg), dMq n w k ds bs ph f j t A' B' (K ++ (U ++ W)) → dMs n w k ds bs ph f t a u → (¬ a → u.2.1 ≠ (f : Int)) → ∃ N1 W1, fX3_comes_R N ((K.length : Nat) : Int) = some (N1, 0) ∧ dJ1 n w k m ds ss bs t N1 K U W1 := fun a A' B' hq' hu hlf => by
    obtain ⟨⟨u0, u6⟩, l', jj, ⟨x1, x2, x3⟩, ⟨j1, j2, j3⟩, g1, g2⟩ := hu
    have el : l' = l := by omega
    subst el
    obtain ⟨M, pM, low, e1, e2, ⟨c1, c2, c3⟩, cc, -⟩ := come (.inl u0)
    obtain ⟨gM, nM, can, hz, dl⟩ := after M pM low e1 e2
    obtain ⟨⟨-, -, -, -, y5⟩, mr, ms, mc, mw⟩ := id gM
    have c1 := c1.trans j3
    have c2 := c2.trans j2
    have c3 := c3.trans u6
    obtain ⟨kv, kb⟩ := p1_key hk hw f1 x1 j1 f2 hwl f4 g1 g2 (fun z e => hlf z (by rw [x2, e]))
    -- it goes no further
    have stay : fX3_claimComes_RSC M (dNx n l') = some (M, 0) → ∃ N1 W1, fX3_comes_R N ((K.length : Nat) : Int) = some (N1, 0) ∧ dJ1 n w k m ds ss bs t N1 K U W1 := fun e => ⟨M, W, cc u0 M e, pM, hK, hW, nM, ph, f, j, A', B', gM, hq', ⟨by omega, by omega⟩, htD, htE⟩
    obtain ⟨-, -, q3, q4⟩ := mc _ hv
    by_cases up : dUpt n w ph f (dNx n l')
    · obtain ⟨⟨d1, d2, d3, d4, d5⟩, -⟩ := q4 up
      have ej : jj = w := Decidable.byContradiction fun z => (g2 z).1 up.1
      exact stay (sp_claimUp d1 (fun _ => by omega) (by rw [c2, d3, ej]) (by omega))
    · obtain ⟨⟨d1, d2, d3⟩, b, hb, b1, b2, b3⟩ := q3 kv up
      obtain ⟨y1, y2⟩ := kb up b hb
      by_cases ej : b = jj
      · obtain ⟨n1, n2, n3⟩ := y1 ej
        obtain ⟨N1, s1, ⟨s2, s3, s4⟩, s5, s6, s7, s8⟩ := sp_fwd (M := M) (s := dNx n l') (by omega) can (.inl ⟨⟨by rw [c1, b1, ej], by rw [c2, b2, ej], by rw [c3, b3]⟩, fun z => n1 (by rw [← ej]; omega)⟩)
        have ho := dOvr_fwd (by omega) s8
        have nw : dG N1 2049 = dG M 2049 := ho.1 2049 (by decide) (by decide)
        refine ⟨N1, W ++ [(0, (((dNx n l' : Nat) : Int), (dG M 2049 + dG M (6144 + dNx n l'), (dG M 55297, (dG M 55296, dG M 55298)))))], cc u0 N1 (sp_claimClaiming d1 (fun _ => by omega) s1), ?_, hK, ?_, nw.trans nM, ph, f, j, A', B' ++ [(0, (((dNx n l' : Nat) : Int), (dG M 2049 + dG M (6144 + dNx n l'), (dG M 55297, (dG M 55296, dG M 55298)))))], ⟨⟨f1, f2, f3, f4, by rw [nw]; exact y5⟩, dOvr_sr mr ho, fun s hs => dOvr_ss (by omega) (ms s hs) ho, fun s hs => ?_, (s8 53252 (by decide) (by decide) (by decide) (by omega) (by omega)).trans mw⟩, ?_, ⟨by omega, ?_⟩, htD, htE⟩
        · rw [s6, pM, List.append_assoc, List.append_assoc]
        · intro r hr
          rcases List.mem_append.mp hr with x | x
          · exact hW r x
          · rw [List.mem_singleton.mp x]
            show t < dG M 2049 + dG M (6144 + dNx n l')
            have := (hs _ hv).1.1
            omega
        · by_cases c : s = dNx n l'
          · rw [c]
            exact dC1_fwd (M := M) (by omega) (mc _ hv) kv up up kv nw (by omega) hb ⟨by rw [s2, c1, ej], by rw [s3, c2, ej], by rw [s4, c3]⟩ s5 (fun i hi a b => s8 _ (by unfold dCj at hi; omega) (by omega) (by omega) (by omega) (by omega))
          · exact dC1_same (by omega) (mc s hs) (by omega) (fun i hi => ho.2.2 s i (by omega) (by unfold dCj at hi; omega) (.inl c))
        · rw [← List.append_assoc U W, ← List.append_assoc K]
          refine dMq_put hq' ⟨⟨rfl, c3⟩, dNx n l', jj, ⟨hv, rfl, by show dG M 2049 + dG M (6144 + dNx n l') ≤ t + ds (dNx n l'); omega⟩, ⟨j1, c2, c1⟩, n2, n3⟩ (fun r hr e => ?_)
          obtain ⟨i, -, i2, i3⟩ := um r (dMem hr)
          have e : r.2.1 = ((dNx n l' : Nat) : Int) := e
          have ei : i = dNx n l' := by omega
          rw [ei] at i3
          show r.2.2.1 ≤ dG M 2049 + dG M (6144 + dNx n l')
          omega
        · have q := dSq_le (n := n) (v := dNx n l') (N := M) (N1 := N1) (fun s hs c => s8 _ (by omega) (by omega) (by omega) (by omega) (by omega)) (fun _ => by have := (mc _ hv).1.1.2; omega)
          omega
      · have ne : dG M 55297 ≠ dG M (61441 + 26624 * ((dNx n l'))) := by rw [c2, b2]; omega
        have q := y2 ej
        unfold dLe at q
        exact stay (sp_claimClaiming d1 (fun _ => by omega) (sp_cmpNo (fun z => ne z.2.1) (fun z => by rw [c1, c2, b1, b2] at z; omega) ne))
  rcases dSplit hq.1.symm with ⟨e1, e2, e3⟩ | ⟨c, e1, e2⟩ | ⟨a, e1, e2⟩
  · -- the front
    have ul : l = f := by
      rw [e1] at l2
      have l2 : ((f : Nat) : Int) = (l : Int) := l2
      omega
    subst ul
    have eD : dAtf n w k ds ph l + ds l = t := by
      rw [e1] at hdue
      have hdue : dAtf n w k ds ph l + ds l ≤ t := hdue
      omega
    have u1 : u.1 = if ph = 2 then 2 else 0 := by rw [e1]; rfl
    have kd : u.1 = 0 ∨ u.1 = 2 := by
      rw [u1]
      by_cases c : ph = 2
      · rw [if_pos c]; exact .inr rfl
      · rw [if_neg c]; exact .inl rfl
    obtain ⟨M, pM, low, y1, y2, ⟨c1, c2, c3⟩, cc, ct⟩ := come kd
    obtain ⟨gM, nM, can, hz, dl⟩ := after M pM low y1 y2
    rw [e1] at c1 c2 c3
    change dG M 55296 = bs j at c1
    change dG M 55297 = (j : Int) at c2
    change dG M 55298 = 1 at c3
    obtain ⟨-, mr, ms, mc, mw⟩ := id gM
    rw [← e2, ← e3] at hq
    rw [e1] at hq
    obtain ⟨j1, j2, j3⟩ := f3
    obtain ⟨v1, vQ, vC, -⟩ := mc _ hv
    have hb : 0 ≤ bs j ∧ bs j ≤ 1000 := by have := (hs j j1).2.2.1; omega
    -- the next one sends the best of all on
    have won : ∀ N1, dStep n w k ph l 2 → j = w → dVis n k ph l (dNx n l) → ¬ dUpt n w ph l (dNx n l) → dGone M N1 (dNx n l) → dG N1 53252 = 1 → dPost N1 = dPost M ++ [(2, (((dNx n l : Nat) : Int), (dG M 2049 + dG M (6144 + dNx n l), (dG M 55297, (dG M 55296, dG M 55298)))))] → dG N1 10243 = dG M 10243 + 1 → (∀ k, k < 2097152 → (k < 10240 ∨ 38912 ≤ k) → k ≠ 53248 → k ≠ 53252 → dUpF (dNx n l) k → dG N1 k = dG M k) → ∃ W1, dJ1 n w k m ds ss bs t N1 K U W1 := fun N1 hst ej kv up gone wins post pz fr => by
      have ho := dOvr_gone (by omega) fr
      have am := (dAtf_move (ds := ds) hk hw l1 hst).trans eD
      have uv : dUpt n w 2 (dNx n l) (dNx n l) := ⟨rfl, Nat.le_refl _⟩
      refine p1_asm (j2 := w) hpar hk hw hwl gM hst hq hK hW nM eD pM ⟨by omega, hz⟩ ho ?_ pz ?_ wins ⟨hw, fun z => by omega, fun _ => rfl⟩ (fun z => by omega) ?_
      · rw [post, nM, dl, c1, c2, c3, ej]
        rfl
      · exact dC1_gone (by omega) (mc _ hv) kv up uv (ho.1 2049 (by decide) (by decide)) ⟨by rw [c1, ej], by rw [c2, ej], c3⟩ gone (by rw [nM, ← am]; rfl) (fun i hi => fr _ (by omega) (by omega) (by omega) (by omega) (by unfold dUpF; omega))
      · rw [fr _ (by omega) (by omega) (by omega) (by omega) (by unfold dUpF; omega)]
        exact Int.le_refl _
    -- the next one finds it better than its own
    have fwd : dStep n w k ph l 1 → ph ≠ 2 → j = w → dVis n k ph l (dNx n l) → (∀ b, dBst n w k bs ph l (dNx n l) b → b ≠ w) → dPs n k (dNx n l) < dPs n k w → ∃ N1 W1, fX3_comes_R N ((K.length : Nat) : Int) = some (N1, 0) ∧ dJ1 n w k m ds ss bs t N1 K U W1 := fun hst p2 ej kv hne hi => by
      have u0 : u.1 = 0 := by rw [u1, if_neg p2]
      have up : ¬ dUpt n w ph l (dNx n l) := fun z => p2 z.1
      obtain ⟨⟨d1, d2, d3⟩, b, hb', b1, b2, b3⟩ := vC kv up
      have nb := hne b hb'
      have le := hwl b hb'.1
      unfold dLe at le
      obtain ⟨N1, s1, ⟨s2, s3, s4⟩, s5, s6, s7, s8⟩ := sp_fwd (M := M) (s := dNx n l) (by omega) can (.inr ⟨fun z => by rw [c2, b2] at z; omega, by rw [c1, c2, b1, b2, ej]; omega⟩)
      have ho := dOvr_fwd (by omega) s8
      have nw : dG N1 2049 = dG M 2049 := ho.1 2049 (by decide) (by decide)
      obtain ⟨W1, hJ⟩ := p1_asm (N1 := N1) (j2 := w) hpar hk hw hwl gM hst hq hK hW nM eD pM ⟨by omega, hz⟩ ho (by rw [s6, nM, dl, c1, c2, c3, ej]; rfl) s7 (dC1_fwd (M := M) (j := w) (by omega) (mc _ hv) kv up (fun z => by have := z.1; omega) (.inl (by decide)) nw (by omega) ⟨hw, fun _ => rfl, fun z => (z (.inr ⟨rfl, Nat.le_refl _⟩)).elim⟩ ⟨by rw [s2, c1, ej], by rw [s3, c2, ej], by rw [s4, c3]⟩ s5 (fun i hi a b => s8 _ (by unfold dCj at hi; omega) (by omega) (by omega) (by omega) (by omega))) ((s8 53252 (by decide) (by decide) (by decide) (by omega) (by omega)).trans (mw.trans (by rw [if_neg p2]; rfl))) ⟨hw, fun z => by omega, fun _ => rfl⟩ (fun _ => hi) (by have := (mc _ hv).1.1.2; omega)
      exact ⟨N1, W1, cc u0 N1 (sp_claimClaiming d1 (fun _ => by omega) s1), hJ⟩
    -- its own came back
    have wins : dStep n w k ph l 2 → ph ≠ 2 → j = w → dNx n l = w → dVis n k ph l (dNx n l) → (∀ b, dBst n w k bs ph l (dNx n l) b → b = w) → ∃ N1 W1, fX3_comes_R N ((K.length : Nat) : Int) = some (N1, 0) ∧ dJ1 n w k m ds ss bs t N1 K U W1 := fun hst p2 ej ew kv hbw => by
      have u0 : u.1 = 0 := by rw [u1, if_neg p2]
      have up : ¬ dUpt n w ph l (dNx n l) := fun z => p2 z.1
      obtain ⟨⟨d1, d2, d3⟩, b, hb', b1, b2, b3⟩ := vC kv up
      have nb := hbw b hb'
      obtain ⟨N1, s1, s2, s3, s4, s5, s6⟩ := sp_won (M := M) (s := dNx n l) (by omega) ⟨by rw [c1, b1, nb, ej], by rw [c2, b2, nb, ej], by rw [c3, b3]⟩ ⟨by rw [b2, nb, ew], by rw [b3, d2]⟩ (by rw [c1]; exact hb) can
      have w1 : dG M 53252 = 0 := mw.trans (if_neg p2)
      obtain ⟨W1, hJ⟩ := won N1 hst ej kv up s2 (by rw [s3, w1]; exact dW_id ⟨by decide, by decide⟩) s4 s5 s6
      exact ⟨N1, W1, cc u0 N1 (sp_claimClaiming d1 (fun _ => by omega) s1), hJ⟩
    have lk := dPs_lt hk l1
    have k0 := dPs_0 n k
    obtain p | p | p := (by omega : ph = 0 ∨ ph = 1 ∨ ph = 2)
    · have bj := j2 p
      by_cases ek : dNx n l = k
      · -- once around
        have ie := dPs_end hk l1 ek
        have ej : j = w := dBe_w hw hwl bj (by have := dPs_lt hk hw; omega)
        have kv : dVis n k ph l (dNx n l) := .inr (by rw [ek, k0]; omega)
        have own : ∀ b, dBst n w k bs ph l (dNx n l) b → b = k := fun b hb => by
          have z := hb.2.2 (fun z => by unfold dLap at z; omega)
          rw [ek] at z
          have y := z.2.1
          exact dPs_inj hk z.1 hk (by omega)
        by_cases ew : k = w
        · exact wins (.inr (.inr (.inl ⟨p, ek, ew, rfl⟩))) (by omega) ej (ek.trans ew) kv (fun b hb => (own b hb).trans ew)
        · have iw := dPs_ne hk hk hw ew
          exact fwd (.inr (.inl ⟨p, ek, ew, rfl⟩)) (by omega) ej kv (fun b hb => by rw [own b hb]; exact ew) (by rw [ek]; omega)
      · -- one that is QUIET
        subst p
        have u0 : u.1 = 0 := by rw [u1, if_neg (by decide)]
        have iv := dPs_nx hk l1 ek
        obtain ⟨d1, d2⟩ := vQ (fun z => by unfold dVis at z; omega)
        have jv : j ≠ dNx n l := fun z => by
          have := bj.2.1
          rw [z] at this
          omega
        obtain ⟨N1, s1, s2, s3, s4, s5, s6⟩ := sp_beginC (M := M) (s := dNx n l) (by omega) (by omega) can
        have ho := dOvr_beg (by omega) s6 s2.2.2.2.2.2.2.1
        obtain ⟨x1, x2⟩ := dBe_nx hk l1 ek bj
        have bid := (ms _ hv).1.2.2
        have hst : dStep n w k 0 l 0 := .inl ⟨rfl, ek, rfl⟩
        have am := (dAtf_move (ds := ds) hk hw l1 hst).trans eD
        obtain ⟨⟨-, -⟩, -, -, hz0, hca⟩ := v1
        have fin : ∀ j2, dBe n k bs (dNx n l) j2 → (dG N1 (61440 + 26624 * ((dNx n l))) = bs j2 ∧ dG N1 (61441 + 26624 * ((dNx n l))) = (j2 : Int) ∧ dG N1 (61442 + 26624 * ((dNx n l))) = 1) → dPost N1 = dPost M ++ [dFr bs 0 (dNx n l) j2 (t + ds (dNx n l))] → ∃ W1, dJ1 n w k m ds ss bs t N1 K U W1 := fun j2 b2 b3 b4 => by
          have b9 := s2.2.2.1
          exact p1_asm (j2 := j2) hpar hk hw hwl gM hst hq hK hW nM eD pM ⟨by omega, hz⟩ ho b4 s4 (dC1_beg (M := M) (by omega) (by omega) (ho.1 2049 (by decide) (by decide)) hz0 hca d2 s2 (by rw [nM, ← am]; rfl) (.inr (Nat.le_refl _)) ⟨b2.1, fun z => by unfold dLap at z; omega, fun _ => b2⟩ b3 (s6 _ (by omega) (by omega) (by omega) (by omega) (by unfold dBgF; omega)) (s6 _ (by omega) (by omega) (by omega) (by omega) (by unfold dBgF; omega))) ((s6 53252 (by decide) (by decide) (by decide) (by decide) (by unfold dBgF; omega)).trans mw) ⟨b2.1, fun _ => b2, fun z => (z rfl).elim⟩ (fun z => by omega) (by have := (mc _ hv).1.1.2; omega)
        have got : ∃ W1, dJ1 n w k m ds ss bs t N1 K U W1 := by
          rcases s5 with ⟨g1, ⟨g2, g3, g4⟩, g5⟩ | ⟨g1, ⟨g2, g3, g4⟩, g5⟩
          · rw [c1, c2, bid] at g1
            exact fin j (x1 (by unfold dLe; omega)) ⟨by rw [g2, c1], by rw [g3, c2], by rw [g4, c3]⟩ (by rw [g5, nM, dl, c1, c2, c3]; rfl)
          · rw [c1, c2, bid] at g1
            exact fin (dNx n l) (x2 (by unfold dLe; omega)) ⟨by rw [g2, bid], g3, by rw [g4, d2]; rfl⟩ (by rw [g5, nM, dl, bid, d2]; rfl)
        obtain ⟨W1, hJ⟩ := got
        exact ⟨N1, W1, cc u0 N1 (sp_claimQuiet d1 (by rw [c2]; omega) s1), hJ⟩
    · have ej := j3 (by omega)
      have i0 := f4 p
      have iv := dPs_nx hk l1 (dNx_k hk l1 hw i0)
      have kv : dVis n k ph l (dNx n l) := .inl (by omega)
      have nl : ¬ dLap n k ph l (dNx n l) := fun z => by unfold dLap at z; omega
      by_cases ew : dNx n l = w
      · exact wins (.inr (.inr (.inr (.inr (.inl ⟨p, i0, ew, rfl⟩))))) (by omega) ej ew kv (fun b hb => dBe_w hw hwl (hb.2.2 nl) (by rw [ew]; exact Nat.le_refl _))
      · have iw := dPs_ne hk hv hw ew
        exact fwd (.inr (.inr (.inr (.inl ⟨p, i0, ew, rfl⟩)))) (by omega) ej kv (fun b hb z => by
          have := (hb.2.2 nl).2.1
          rw [z] at this
          omega) (by omega)
    · have ej := j3 (by omega)
      have ew : dNx n l ≠ w := fun z => by have := htE p z; omega
      have iv := dPs_nx hw l1 ew
      have kv : dVis n k ph l (dNx n l) := .inl (by omega)
      have up : ¬ dUpt n w ph l (dNx n l) := fun z => by have := z.2; omega
      obtain ⟨⟨d1, d2, d3⟩, b, hb', b1, b2, b3⟩ := vC kv up
      have nb : b = w := hb'.2.1 (.inl p)
      obtain ⟨N1, s1, s2, s4, s5, s6⟩ := sp_tokenClaiming (M := M) (s := dNx n l) (by omega) d1 ⟨by rw [c1, b1, nb, ej], by rw [c2, b2, nb, ej], by rw [c3, b3]⟩ (by rw [c1]; exact hb) can
      have w1 : dG N1 53252 = 1 := (s6 53252 (by decide) (by decide) (by decide) (by unfold dUpF; omega)).trans (mw.trans (if_pos p))
      obtain ⟨W1, hJ⟩ := won N1 (.inr (.inr (.inr (.inr (.inr ⟨p, ew, rfl⟩))))) ej kv up s2 w1 s4 s5 (fun k a b c _ d => s6 k a b c d)
      exact ⟨N1, W1, ct (by rw [u1, if_pos p]) N1 s1, hJ⟩
  · rw [e1] at hq
    exact nonfront True _ _ (dMq_dropA hq e2) (hq.2.1 u (List.mem_append_right _ List.mem_cons_self)) (fun z => (z trivial).elim)
  · rw [e2] at hq
    have fi := hq.2.2.2
    refine nonfront False _ _ (dMq_dropB hq e1) (hq.2.2.1 u (List.mem_append_right _ List.mem_cons_self)) (fun _ e => ?_)
    have q := (List.pairwise_append.mp fi).2.2 (dFr bs ph f j (dAtf n w k ds ph f + ds f)) (by rw [e1]; exact List.mem_append_right _ List.mem_cons_self) u List.mem_cons_self e.symm
    have q : dAtf n w k ds ph f + ds f ≤ u.2.2.1 := q
    have y : t < dAtf n w k ds ph f + ds f := hK (dFr bs ph f j (dAtf n w k ds ph f + ds f)) (by rw [e1]; exact List.mem_append_right _ List.mem_cons_self)
    omega

