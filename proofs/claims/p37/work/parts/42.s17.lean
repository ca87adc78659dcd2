/-! ===== what a call may change when a message comes to v ===== -/
noncomputable def dOvr (v : Nat) (N N1 : mMem) : Prop := (∀ k, k < 10240 → k ≠ 2060 → dG N1 k = dG N k) ∧ ((∀ k, 53248 < k → k < 53252 → dG N1 k = dG N k) ∧ (v < 8 → dG N1 (65538 + 26624 * v) = dG N (65538 + 26624 * v) ∨ dG N1 (65538 + 26624 * v) = 0)) ∧ ∀ s i, s < 8 → i < 26624 → (s ≠ v ∨ (¬ dCj i ∧ i ≠ 8193 ∧ i ≠ 8194 ∧ i ≠ 8196)) → dG N1 (57344 + 26624 * s + i) = dG N (57344 + 26624 * s + i)
theorem dOvr_low {v : Nat} {N M : mMem} (h : dLow N M) : dOvr v N M := ⟨fun k a _ => h k (by omega) (.inl a) (by omega), ⟨fun k a b => h k (by omega) (by omega) (by omega), fun hv => .inl (h _ (by omega) (by omega) (by omega))⟩, fun s i a b _ => h _ (by omega) (by omega) (by omega)⟩
theorem dOvr_trans {v : Nat} {N M N1 : mMem} (h1 : dOvr v N M) (h2 : dOvr v M N1) : dOvr v N N1 := ⟨fun k a b => (h2.1 k a b).trans (h1.1 k a b), ⟨fun k a b => (h2.2.1.1 k a b).trans (h1.2.1.1 k a b), fun hv => by
  rcases h2.2.1.2 hv with q | q
  · rcases h1.2.1.2 hv with r | r
    · exact .inl (q.trans r)
    · exact .inr (q.trans r)
  · exact .inr q⟩, fun s i a b c => (h2.2.2 s i a b c).trans (h1.2.2 s i a b c)⟩
theorem dOvr_sr {n v : Nat} {m : Int} {N N1 : mMem} (h : dSr n m N) (ho : dOvr v N N1) : dSr n m N1 := dSr_same h ho.1 ho.2.1.1
theorem dOvr_ss {n v s : Nat} {m : Int} {ds ss bs : Nat → Int} {N N1 : mMem} (hs : s < 8) (h : dSs n m ds ss bs N s) (ho : dOvr v N N1) : dSs n m ds ss bs N1 s := by
  have r : ∀ i, i < 26624 → (¬ dCj i ∧ i ≠ 8193 ∧ i ≠ 8194 ∧ i ≠ 8196) → dG N1 (57344 + 26624 * s + i) = dG N (57344 + 26624 * s + i) := fun i a b => ho.2.2 s i hs a (.inr b)
  have e : dG N1 (63490 + 26624 * s) = dG N (63490 + 26624 * s) := by
    have q := r 6146 (by decide) (by unfold dCj; omega)
    rw [show 57344 + 26624 * s + 6146 = 63490 + 26624 * s by omega] at q
    exact q
  have hsh : dG N1 (65538 + 26624 * s) ≤ ss s := by
    obtain ⟨x1, x2⟩ := h.2.2.2.2.2.2
    by_cases c : s = v
    · subst c
      rcases ho.2.1.2 hs with q | q
      · rw [q]; exact x2
      · rw [q]; exact x1
    · have q := ho.2.2 s 8194 hs (by decide) (.inl c)
      rw [show 57344 + 26624 * s + 8194 = 65538 + 26624 * s by omega] at q
      rw [q]; exact x2
  refine dSs_upd hs h (ho.1 _ (by omega) (by omega)) (by rw [e]; exact h.2.2.2.1) (dLine_same hs h.2.2.2.2.1 (fun k h1 h2 => ?_)) (fun j hj => r j (by omega) (by unfold dCj; omega)) hsh
  have q := r (k - (57344 + 26624 * s)) (by omega) (by unfold dCj; omega)
  rw [show 57344 + 26624 * s + (k - (57344 + 26624 * s)) = k by omega] at q
  exact q
/-- what holds of all the STATIONS -/
noncomputable def dG1 (n w k : Nat) (m : Int) (ds ss bs : Nat → Int) (ph f j : Nat) (N : mMem) : Prop := (f < n ∧ ph < 3 ∧ dFj n w k bs ph f j ∧ (ph = 1 → dPs n k f < dPs n k w) ∧ dAtf n w k ds ph f ≤ dG N 2049) ∧ dSr n m N ∧ (∀ s, s < n → dSs n m ds ss bs N s) ∧ (∀ s, s < n → dC1 n w k ds bs ph f N s) ∧ dG N 53252 = if ph = 2 then 1 else 0
theorem dG1_low {n w k ph f j : Nat} {m : Int} {ds ss bs : Nat → Int} {N M : mMem} (h8 : n ≤ 8) (h : dG1 n w k m ds ss bs ph f j N) (hl : dLow N M) : dG1 n w k m ds ss bs ph f j M := by
  obtain ⟨⟨a1, a2, a3, a4, a5⟩, b, c, d, e⟩ := h
  have nw := hl 2049 (by decide) (by decide) (by decide)
  refine ⟨⟨a1, a2, a3, a4, by rw [nw]; exact a5⟩, dOvr_sr b (dOvr_low (v := 0) hl), fun s hs => dOvr_ss (by omega) (c s hs) (dOvr_low (v := 0) hl), fun s hs => dC1_same (by omega) (d s hs) (by omega) (fun i hi => hl _ (by unfold dCj at hi; omega) (by omega) (by omega)), (hl _ (by decide) (by decide) (by decide)).trans e⟩
/-- as messages come, at t: the first ones stay -/
noncomputable def dJ1 (n w k : Nat) (m : Int) (ds ss bs : Nat → Int) (t : Int) (N : mMem) (K U W : List dMsg) : Prop := dPost N = K ++ (U ++ W) ∧ (∀ r ∈ K, t < r.2.2.1) ∧ (∀ r ∈ W, t < r.2.2.1) ∧ dG N 2049 = t ∧ ∃ ph f j A B, dG1 n w k m ds ss bs ph f j N ∧ dMq n w k ds bs ph f j t A B (K ++ (U ++ W)) ∧ (0 ≤ dG N 10243 ∧ dG N 10243 ≤ 1 + dSq n N) ∧ t ≤ dAtf n w k ds ph f + ds f ∧ (ph = 2 → dNx n f = w → t < dAtf n w k ds ph f + ds f)
theorem p1_can {n s : Nat} {m : Int} {ds ss bs : Nat → Int} {N : mMem} (hs : s < n) (hr : dSr n m N) (hd : dSs n m ds ss bs N s) (hds : 1 ≤ ds s ∧ ds s ≤ 5) (hp : 0 ≤ dG N 10243 ∧ dG N 10243 < 100) (hq : ∀ r ∈ dPost N, r.2.1 = (s : Int) → r.2.2.1 ≤ dG N 2049 + ds s) : dCan N s := by
  obtain ⟨-, a2, -, -, ⟨a3, a4⟩, -⟩ := hr
  obtain ⟨⟨b1, -⟩, -⟩ := hd
  refine ⟨a2, hp, ⟨a3, by omega⟩, ⟨by omega, by omega⟩, fun i hi e => ?_⟩
  have q := hq (dRow N i) (dPost_mem (by omega)) e
  rw [b1]
  exact q
/-- where a CLAIM that isn't the front goes on, and where it ends -/
theorem p1_key {n w k ph f l j : Nat} {bs : Nat → Int} {a : Prop} (hk : k < n) (hw : w < n) (hf : f < n) (hl : l < n) (hj : j < n) (hph : ph < 3) (hwl : ∀ t, t < n → dLe bs w t) (h1 : ph = 1 → dPs n k f < dPs n k w)
    (g1 : j = w → (ph = 0 → dPs n k w ≤ dPs n k l ∧ dPs n k l ≤ dPs n k f ∧ (a → l ≠ f)) ∧ (ph = 1 → (dPs n k w ≤ dPs n k l ∨ dPs n k l ≤ dPs n k f) ∧ (a → l ≠ f)))
    (g2 : j ≠ w → ph ≠ 2 ∧ dPs n k j ≤ dPs n k l ∧ dPs n k l < dPs n k w ∧ (ph = 0 → dPs n k l ≤ dPs n k f ∧ (a → l ≠ f)) ∧ (ph = 1 → dPs n k f ≤ dPs n k l ∧ (¬ a → l ≠ f))) (hlf : ¬ a → l ≠ f) :
    dVis n k ph f (dNx n l) ∧ (¬ dUpt n w ph f (dNx n l) → ∀ b, dBst n w k bs ph f (dNx n l) b → (b = j → j ≠ dNx n l ∧
      (j = w → (ph = 0 → dPs n k w ≤ dPs n k (dNx n l) ∧ dPs n k (dNx n l) ≤ dPs n k f ∧ (False → dNx n l ≠ f)) ∧ (ph = 1 → (dPs n k w ≤ dPs n k (dNx n l) ∨ dPs n k (dNx n l) ≤ dPs n k f) ∧ (False → dNx n l ≠ f))) ∧
      (j ≠ w → ph ≠ 2 ∧ dPs n k j ≤ dPs n k (dNx n l) ∧ dPs n k (dNx n l) < dPs n k w ∧ (ph = 0 → dPs n k (dNx n l) ≤ dPs n k f ∧ (False → dNx n l ≠ f)) ∧ (ph = 1 → dPs n k f ≤ dPs n k (dNx n l) ∧ (¬ False → dNx n l ≠ f)))) ∧ (b ≠ j → dLe bs b j)) := by
  have hv : dNx n l < n := dNx_lt (by omega)
  have lf := dPs_lt hk hf
  have lw := dPs_lt hk hw
  have lne : (a → l ≠ f) → dPs n k l ≠ dPs n k f := fun z => dPs_ne hk hl hf (by
    by_cases c : a
    · exact z c
    · exact hlf c)
  have ke : dNx n l = k → dPs n k l + 1 = n := dPs_end hk hl
  have kn : dNx n l ≠ k → dPs n k (dNx n l) = dPs n k l + 1 := dPs_nx hk hl
  have k0 := dPs_0 n k
  have neq : ∀ x, x < n → dPs n k x ≠ dPs n k (dNx n l) → x ≠ dNx n l := fun x _ z e => z (by rw [e])
  by_cases e : j = w
  · subst e
    have g1 := g1 rfl
    obtain rfl | rfl | rfl := (by omega : ph = 0 ∨ ph = 1 ∨ ph = 2)
    · obtain ⟨x1, x2, x3⟩ := g1.1 rfl
      have x4 := lne x3
      have iv := kn (fun z => by have := ke z; omega)
      refine ⟨.inr (by omega), fun _ b hb => ?_⟩
      have eb : b = j := dBe_w hw hwl (hb.2.2 (fun z => by unfold dLap at z; omega)) (by omega)
      refine ⟨fun _ => ⟨neq j hw (by omega), fun _ => ⟨fun _ => ⟨by omega, by omega, fun z => z.elim⟩, fun z => by omega⟩, fun z => (z rfl).elim⟩, fun z => (z eb).elim⟩
    · obtain ⟨x1, x3⟩ := g1.2 rfl
      have x4 := lne x3
      have x5 := h1 rfl
      refine ⟨.inl (by omega), fun _ b hb => ?_⟩
      have pos : (dPs n k j ≤ dPs n k (dNx n l) ∨ dPs n k (dNx n l) ≤ dPs n k f) ∧ dPs n k j ≠ dPs n k (dNx n l) := by
        by_cases c : dNx n l = k
        · rw [c, k0]
          omega
        · have := kn c
          omega
      have eb : b = j := by
        by_cases c : dPs n k (dNx n l) ≤ dPs n k f
        · exact hb.2.1 (.inr ⟨rfl, c⟩)
        · exact dBe_w hw hwl (hb.2.2 (fun z => by unfold dLap at z; omega)) (by omega)
      exact ⟨fun _ => ⟨neq j hw pos.2, fun _ => ⟨fun z => by omega, fun _ => ⟨pos.1, fun z => z.elim⟩⟩, fun z => (z rfl).elim⟩, fun z => (z eb).elim⟩
    · refine ⟨.inl (by omega), fun hu b hb => ?_⟩
      have eb : b = j := hb.2.1 (.inl rfl)
      refine ⟨fun _ => ⟨fun z => hu ⟨rfl, ?_⟩, fun _ => ⟨fun z => by omega, fun z => by omega⟩, fun z => (z rfl).elim⟩, fun z => (z eb).elim⟩
      rw [← z, dPs_0]
      omega
  · obtain ⟨x0, x1, x2, p0, p1⟩ := g2 e
    have iv := kn (fun z => by have := ke z; omega)
    have fin : ∀ b, dBe n k bs (dNx n l) b → (b = j → dPs n k (dNx n l) < dPs n k w) ∧ (b ≠ j → dLe bs b j) := fun b hb => by
      refine ⟨fun z => ?_, fun _ => hb.2.2 j hj (by omega)⟩
      by_cases c : dPs n k w ≤ dPs n k (dNx n l)
      · exact (e (z.symm.trans (dBe_w hw hwl hb c))).elim
      · omega
    obtain rfl | rfl := (by omega : ph = 0 ∨ ph = 1)
    · obtain ⟨x3, x5⟩ := p0 rfl
      have x4 := lne x5
      refine ⟨.inr (by omega), fun _ b hb => ?_⟩
      obtain ⟨y1, y2⟩ := fin b (hb.2.2 (fun z => by unfold dLap at z; omega))
      refine ⟨fun z => ⟨neq j hj (by omega), fun z => (e z).elim, fun _ => ⟨by omega, by omega, y1 z, fun _ => ⟨by omega, fun z => z.elim⟩, fun z => by omega⟩⟩, y2⟩
    · obtain ⟨x3, -⟩ := p1 rfl
      refine ⟨.inl (by omega), fun _ b hb => ?_⟩
      obtain ⟨y1, y2⟩ := fin b (hb.2.2 (fun z => by unfold dLap at z; omega))
      refine ⟨fun z => ⟨neq j hj (by omega), fun z => (e z).elim, fun _ => ⟨by omega, by omega, y1 z, fun z => by omega, fun _ => ⟨by omega, fun _ z => ?_⟩⟩⟩, y2⟩
      rw [z] at iv
      omega
/-- the front has gone on to v -/
theorem p1_asm {n w k ph f j ph2 j2 : Nat} {m t : Int} {ds ss bs : Nat → Int} {M N1 : mMem} {K U W : List dMsg} (hpar : dPar n m ds ss bs) (hk : k < n) (hw : w < n) (hwl : ∀ t, t < n → dLe bs w t) (hg : dG1 n w k m ds ss bs ph f j M) (hst : dStep n w k ph f ph2) (hq : dMq n w k ds bs ph f j t K (U ++ W) (K ++ (dFr bs ph f j (dAtf n w k ds ph f + ds f) :: (U ++ W)))) (hK : ∀ r ∈ K, t < r.2.2.1) (hW : ∀ r ∈ W, t < r.2.2.1) (hnow : dG M 2049 = t) (ht : dAtf n w k ds ph f + ds f = t) (hpM : dPost M = K ++ (U ++ W)) (hz : 0 ≤ dG M 10243 ∧ dG M 10243 ≤ dSq n M)
    (ho : dOvr (dNx n f) M N1) (hp : dPost N1 = dPost M ++ [dFr bs ph2 (dNx n f) j2 (t + ds (dNx n f))]) (hp1 : dG N1 10243 = dG M 10243 + 1) (hv : dC1 n w k ds bs ph2 (dNx n f) N1 (dNx n f)) (hc : dG N1 53252 = if ph2 = 2 then 1 else 0) (hj : dFj n w k bs ph2 (dNx n f) j2) (hi : ph2 = 1 → dPs n k (dNx n f) < dPs n k w) (hs : dG M (57353 + 26624 * ((dNx n f))) ≤ dG N1 (57353 + 26624 * ((dNx n f)))) : ∃ W1, dJ1 n w k m ds ss bs t N1 K U W1 := by
  obtain ⟨⟨h2, h8⟩, -, hpr⟩ := id hpar
  obtain ⟨⟨f1, f2, f3, f4, f5⟩, gr, gs, gc, gw⟩ := hg
  have hvn : dNx n f < n := dNx_lt (by omega)
  have nw : dG N1 2049 = dG M 2049 := ho.1 2049 (by decide) (by decide)
  have e := (dAtf_move (ds := ds) hk hw f1 hst).trans ht
  have mv := dMq_move (j2 := j2) hk hw f1 hst hq hK ht (fun i hi => (hpr i hi).1.1)
  have d1 := (hpr _ hvn).1.1
  refine ⟨W ++ [dFr bs ph2 (dNx n f) j2 (t + ds (dNx n f))], ?_, hK, ?_, nw.trans hnow, ph2, dNx n f, j2, K ++ (U ++ W), [], ⟨⟨hvn, ?_, hj, hi, by rw [e, nw, hnow]; exact Int.le_refl _⟩, dOvr_sr gr ho, fun s hs => dOvr_ss (by omega) (gs s hs) ho, fun s hs => ?_, hc⟩, ?_, ⟨by omega, ?_⟩, by rw [e]; omega, fun _ _ => by rw [e]; omega⟩
  · rw [hp, hpM, List.append_assoc, List.append_assoc]
  · intro r hr
    rcases List.mem_append.mp hr with x | x
    · exact hW r x
    · rw [List.mem_singleton.mp x]
      show t < t + ds (dNx n f)
      omega
  · rcases hst with ⟨-, -, q⟩ | ⟨-, -, -, q⟩ | ⟨-, -, -, q⟩ | ⟨-, -, -, q⟩ | ⟨-, -, -, q⟩ | ⟨-, -, q⟩ <;> omega
  · by_cases c : s = dNx n f
    · rw [c]; exact hv
    · exact dC1_move hk hw f1 hs h8 hst hwl c (gc s hs) (by omega) (fun i hi => ho.2.2 s i (by omega) (by unfold dCj at hi; omega) (.inl c))
  · have e2 : K ++ (U ++ (W ++ [dFr bs ph2 (dNx n f) j2 (t + ds (dNx n f))])) = (K ++ (U ++ W)) ++ [dFr bs ph2 (dNx n f) j2 (t + ds (dNx n f))] := by rw [List.append_assoc, List.append_assoc]
    rw [e2]
    exact mv
  · have q := dSq_le (n := n) (v := dNx n f) (N := M) (N1 := N1) (fun s hs c => by
      have := ho.2.2 s 9 (by omega) (by decide) (.inl c)
      rw [show 57344 + 26624 * s + 9 = 57353 + 26624 * s by omega] at this
      exact this) (fun _ => hs)
    omega

