/-! ===== tick ===== -/
theorem p2_ticks {n w : Nat} {m B k5 : Int} {ds ss bs : Nat → Int} (hpar : dPar n m ds ss bs) (hw : w < n) (hb : bs w = B) : ∀ (d fuel : Nat) (N : mMem) (a b : Int), dI2 n w m B k5 ds ss bs N → a - b = (d : Int) → d < fuel → 0 ≤ b → a ≤ 1000 → dG N 2049 + d ≤ 20000 → ∃ N1, fX7_tick_O_b12 fuel N a b = some (N1, dG N 2049 + d) ∧ dI2 n w m B k5 ds ss bs N1 ∧ dG N1 2049 = dG N 2049 + d := fun d => by
  induction d with
  | zero =>
    intro fuel N a b h hab hf h0 h1 ht
    obtain ⟨f, rfl⟩ : ∃ f, fuel = f + 1 := ⟨fuel - 1, by omega⟩
    refine ⟨N, ?_, h, by omega⟩
    rw [fX7_tick_O_b12, if_neg (by omega)]
    congr 2
    omega
  | succ d ih =>
    intro fuel N a b h hab hf h0 h1 ht
    obtain ⟨f, rfl⟩ : ∃ f, fuel = f + 1 := ⟨fuel - 1, by omega⟩
    obtain ⟨N1, e1, e2, e3⟩ := p2_tick hpar hw hb h (by omega)
    obtain ⟨N2, r1, r2, r3⟩ := ih f N1 a (b + 1) e2 (by omega) (by omega) (by omega) h1 (by omega)
    refine ⟨N2, ?_, r2, by omega⟩
    rw [fX7_tick_O_b12, if_pos (by omega), dbd_s e1, dW_id (x := b + 1) ⟨by omega, by omega⟩, r1, e3]
    congr 2
    omega
theorem sp_canTick {N : mMem} {x : Int} (hx : 1 ≤ x ∧ x ≤ 300) (ht : dG N 2049 ≤ 29000) : fX7_canTick_O N x = some (N, 1) := by
  unfold fX7_canTick_O
  rw [if_neg (by omega), if_neg (by omega), dW_id (x := 30000 - x) ⟨by omega, by omega⟩, if_neg (by omega)]
theorem p2_tickO {n w : Nat} {m B k5 : Int} {ds ss bs : Nat → Int} (hpar : dPar n m ds ss bs) (hw : w < n) (hb : bs w = B) {N : mMem} (h : dI2 n w m B k5 ds ss bs N) {x : Nat} (hx : 1 ≤ x ∧ x ≤ 120) (ht : dG N 2049 + x ≤ 20000) : ∃ N1, fX7_tick_O N (x : Int) = some (N1, dG N 2049 + x) ∧ dI2 n w m B k5 ds ss bs N1 ∧ dG N1 2049 = dG N 2049 + x := by
  obtain ⟨N1, e1, e2⟩ := p2_ticks hpar hw hb x 1000 N x 0 h (by omega) (by omega) (by omega) (by omega) ht
  refine ⟨N1, ?_, e2⟩
  unfold fX7_tick_O
  rw [dbd_s (sp_canTick ⟨by omega, by omega⟩ (by omega)), if_neg (by decide), e1]
theorem p1_tickO {n w k : Nat} {m : Int} {ds ss bs : Nat → Int} (hpar : dPar n m ds ss bs) (hk : k < n) (hw : w < n) (hwl : ∀ t, t < n → dLe bs w t) {N : mMem} (h : dI1 n w k m ds ss bs N) : ∃ N1, fX7_tick_O N 1 = some (N1, dG N1 2049) ∧ dG N1 2049 = dG N 2049 + 1 ∧ (dI1 n w k m ds ss bs N1 ∨ ∃ k5, dI2 n w m (bs w) k5 ds ss bs N1) := by
  have ht : dG N 2049 ≤ 20000 := by
    obtain ⟨-, ph, f, j, A, B, hg, -⟩ := id h
    exact hg.2.1.2.2.2.2.1.2
  obtain ⟨N1, e1, e2, e3⟩ := p1_tick hpar hk hw hwl h
  refine ⟨N1, ?_, e2, e3⟩
  unfold fX7_tick_O
  rw [dbd_s (sp_canTick ⟨by decide, by decide⟩ (by omega)), if_neg (by decide), show (1000 : Nat) = 999 + 1 from rfl, fX7_tick_O_b12, if_pos (by decide), dbd_s e1, show (999 : Nat) = 998 + 1 from rfl, fX7_tick_O_b12, dW_id (x := 0 + 1) ⟨by decide, by decide⟩, if_neg (by decide)]
/-! ===== claim ===== -/
/-- all are QUIET, no TICK has gone by -/
noncomputable def dI0 (n : Nat) (m : Int) (ds ss bs : Nat → Int) (N : mMem) : Prop := dSr n m N ∧ dG N 2049 = 0 ∧ (∀ s, s < n → dSs n m ds ss bs N s) ∧ (∀ s, s < n → (dG N (57348 + 26624 * s) = 0 ∧ dG N (57352 + 26624 * s) = 0) ∧ dG N (57353 + 26624 * s) = 0 ∧ dG N (65536 + 26624 * s) = 0 ∧ dG N (65539 + 26624 * s) = 0 ∧ 0 ≤ dG N (65541 + 26624 * s) ∧ dG N (65546 + 26624 * s) = 0) ∧ dG N 10243 = 0 ∧ dG N 53252 = 0
theorem p1_claim {n w k : Nat} {m : Int} {ds ss bs : Nat → Int} (hpar : dPar n m ds ss bs) (hk : k < n) (hw : w < n) {N : mMem} (h : dI0 n m ds ss bs N) : ∃ N1, fX7_claim_O N (k : Int) = some (N1, 1) ∧ dI1 n w k m ds ss bs N1 ∧ dG N1 2049 = 0 := by
  obtain ⟨⟨h2, h8⟩, -, hs⟩ := id hpar
  obtain ⟨gr, hnow, gs, gq, hz, hwn⟩ := h
  obtain ⟨⟨q1, q2⟩, q3, q4, q5, q6, q7⟩ := gq k hk
  obtain ⟨⟨d1, d2, d3⟩, o1, -⟩ := id (gs k hk)
  have pe : dPost N = [] := by
    have e := dPost_len N
    rw [hz] at e
    exact List.eq_nil_of_length_eq_zero e
  have can : dCan N k := p1_can hk gr (gs k hk) (hs k hk).1 ⟨by omega, by omega⟩ (fun r hr => by rw [pe] at hr; cases hr)
  obtain ⟨N1, s1, s2, ⟨s5, s6, s7⟩, s4, s8, s3, s9⟩ := sp_beginN (M := N) (s := k) (by omega) (by omega) can
  have ho := dOvr_beg (by omega) s9 s2.2.2.2.2.2.2.1
  have nw : dG N1 2049 = dG N 2049 := ho.1 2049 (by decide) (by decide)
  have a0 : dAtf n w k ds 0 k = 0 := dTd_0 ds n k
  have pN : dPost N1 = [dFr bs 0 k k (dAtf n w k ds 0 k + ds k)] := by
    rw [s8, pe, a0, hnow, d1, d3, q2]
    rfl
  have d0 := (hs k hk).1.1
  refine ⟨N1, ?_, ⟨fun r hr => ?_, 0, k, k, [], [], ⟨⟨hk, by omega, ⟨hk, fun _ => dBe_k hk, fun z => (z rfl).elim⟩, fun z => by omega, by rw [a0, nw, hnow]; exact Int.le_refl _⟩, dOvr_sr gr ho, fun s hsn => dOvr_ss (by omega) (gs s hsn) ho, fun s hsn => ?_, (s9 53252 (by decide) (by decide) (by decide) (by decide) (by unfold dBgF; omega)).trans (hwn.trans (if_neg (by decide)).symm)⟩, ⟨by rw [pN]; rfl, fun r hr => (by cases hr), fun r hr => (by cases hr), by rw [pN]; exact List.pairwise_singleton _ _⟩, ⟨by omega, ?_⟩, by rw [a0]; omega, fun z => by omega⟩, by omega⟩
  · unfold fX7_claim_O
    rw [dbd_s (sp_has N (k : Int)), if_pos (show 0 ≤ (k : Int) ∧ (k : Int) < dG N 2048 from ⟨by omega, by rw [gr.1]; omega⟩), if_neg (by decide), dgd_t ⟨by omega, by omega⟩, Int.toNat_natCast]
    unfold dln
    dsimp only
    rw [if_pos o1, if_neg (by omega), if_neg (by omega), dbd_s s1]
  · rw [pN] at hr
    rw [List.mem_singleton.mp hr]
    show dG N1 2049 < dAtf n w k ds 0 k + ds k
    omega
  · by_cases c : s = k
    · subst c
      exact dC1_beg (M := N) (by omega) (by omega) nw q6 (by omega) q2 s2 (by rw [hnow, dTd_0]) (.inr (Nat.le_refl _)) ⟨hk, fun z => by unfold dLap at z; omega, fun _ => dBe_k hk⟩ ⟨by rw [s5, d3], s6, by rw [s7, q2]; rfl⟩ (s9 _ (by omega) (by omega) (by omega) (by omega) (by unfold dBgF; omega)) (s9 _ (by omega) (by omega) (by omega) (by omega) (by unfold dBgF; omega))
    · have fs : ∀ i, i < 26624 → dG N1 (57344 + i + 26624 * s) = dG N (57344 + i + 26624 * s) := fun i hi => by
        have := ho.2.2 s i (by omega) hi (.inl c)
        rw [show 57344 + i + 26624 * s = 57344 + 26624 * s + i by omega]
        exact this
      obtain ⟨⟨r1, r2⟩, r3, r4, r5, r6, r7⟩ := gq s hsn
      have e4 := fs 4 (by decide)
      have e8 := fs 8 (by decide)
      have e9 := fs 9 (by decide)
      have g0 := fs 8192 (by decide)
      have g1 := fs 8195 (by decide)
      have g2 := fs 8197 (by decide)
      have g3 := fs 8202 (by decide)
      simp only [Nat.reduceAdd] at e4 e8 e9 g0 g1 g2 g3
      have nv : ¬ dVis n k 0 k s := fun z => by
        unfold dVis at z
        rw [dPs_0] at z
        exact c (dPs_inj hk hsn hk (by rw [dPs_0]; omega))
      exact ⟨⟨⟨by omega, by omega⟩, by omega, by omega, by omega, by omega, by omega⟩, fun _ => ⟨by omega, by omega⟩, fun z => (nv z).elim, fun z => by have := z.1; omega⟩
  · have q : 0 ≤ dSq n N1 := by
      have a := dPfx_le (f := fun _ => (0 : Int)) (g := fun s => dG N1 (57353 + 26624 * s) / 20) (m := n) (fun i hi => by
        show (0 : Int) ≤ dG N1 (57353 + 26624 * i) / 20
        by_cases c : i = k
        · rw [c]
          have := s2.2.2.1
          omega
        · have := ho.2.2 i 9 (by omega) (by decide) (.inl c)
          rw [show 57344 + 26624 * i + 9 = 57353 + 26624 * i by omega] at this
          have := (gq i hi).2.1
          omega)
      have b : dPfx (fun _ => (0 : Int)) n = 0 := by
        have := dPfx_u (f := fun _ => (0 : Int)) (c := 0) (m := n) (fun i _ => Int.le_refl _)
        have := dPfx_le (f := fun _ => (0 : Int)) (g := fun _ => (0 : Int)) (m := n) (fun i _ => Int.le_refl _)
        have z : ∀ m, dPfx (fun _ => (0 : Int)) m = 0 := fun m => by
          induction m with
          | zero => rfl
          | succ m ih => rw [dPfx_s, ih]; rfl
        exact z n
      unfold dSq
      omega
    omega

