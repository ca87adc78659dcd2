/-! ===== what a message does to the STATION that it comes to ===== -/
theorem sp_claimQuiet {M M1 : mMem} {s : Nat} (hk : dG M (57348 + 26624 * s) = 0) (h1 : dG M 55297 ≠ (s : Int)) (hx : fX3_beginToClaim_RSC M s = some (M1, 0)) : fX3_claimComes_RSC M s = some (M1, 0) := by
  unfold fX3_claimComes_RSC fX3_claimComes_RSC_b23
  rw [if_neg h1, if_neg (by omega), if_neg (by omega), if_neg (by omega), dbd_s hx]
theorem sp_claimClaiming {M M1 : mMem} {s : Nat} (hk : dG M (57348 + 26624 * s) = 2) (h1 : dG M 55297 = (s : Int) → dG M 55298 = dG M (57352 + 26624 * s)) (hx : fX3_compareClaim_RSC M s = some (M1, 0)) : fX3_claimComes_RSC M s = some (M1, 0) := by
  have b : fX3_claimComes_RSC_b23 M s = some (M1, 0) := by
    unfold fX3_claimComes_RSC_b23
    rw [if_pos hk, dbd_s hx]
  unfold fX3_claimComes_RSC
  by_cases c : dG M 55297 = (s : Int)
  · rw [if_pos c, if_pos (h1 c), b]
  · rw [if_neg c, b]
/-- sends on what it holds for the BEST -/
theorem dC1_fwd {n w k ph f ph2 f2 j s : Nat} {ds bs : Nat → Int} {M N1 : mMem} (hs : s < 8) (h : dC1 n w k ds bs ph f M s) (hv : dVis n k ph f s) (hu : ¬ dUpt n w ph f s) (hu2 : ¬ dUpt n w ph2 f2 s) (hv2 : dVis n k ph2 f2 s) (hn : dG N1 2049 = dG M 2049) (h0 : 0 ≤ dG M 2049) (hj : dBst n w k bs ph2 f2 s j) (hb : dG N1 (61440 + 26624 * s) = bs j ∧ dG N1 (61441 + 26624 * s) = (j : Int) ∧ dG N1 (61442 + 26624 * s) = 1) (hse : dG N1 (57353 + 26624 * s) = dG M 2049) (hf : ∀ i, dCj i → i ≠ 9 → (i < 4096 ∨ 4098 < i) → dG N1 (57344 + 26624 * s + i) = dG M (57344 + 26624 * s + i)) : dC1 n w k ds bs ph2 f2 N1 s := by
  have x : ∀ i, dCj i → i ≠ 9 → (i < 4096 ∨ 4098 < i) → dG N1 (57344 + i + 26624 * s) = dG M (57344 + i + 26624 * s) := fun i a b c => by
    have := hf i a b c
    rw [show 57344 + i + 26624 * s = 57344 + 26624 * s + i by omega]
    exact this
  have e4 := x 4 (.inl (by decide)) (by decide) (by decide)
  have e5 := x 5 (.inl (by decide)) (by decide) (by decide)
  have e8 := x 8 (.inl (by decide)) (by decide) (by decide)
  have h0' := x 8192 (.inr (.inr (.inr (.inl (by decide))))) (by decide) (by decide)
  have h1 := x 8195 (.inr (.inr (.inr (.inl (by decide))))) (by decide) (by decide)
  have h2 := x 8197 (.inr (.inr (.inr (.inl (by decide))))) (by decide) (by decide)
  have h3 := x 8202 (.inr (.inr (.inr (.inl (by decide))))) (by decide) (by decide)
  simp only [Nat.reduceAdd] at e4 e5 e8 h0' h1 h2 h3
  obtain ⟨⟨⟨a1, a2⟩, a3, a4, a5, a6, a7⟩, -, c, -⟩ := h
  obtain ⟨⟨c1, c2, c3⟩, -⟩ := c hv hu
  exact ⟨⟨⟨by omega, by omega⟩, h0'.trans a3, h1.trans a4, by omega, by omega, by omega⟩, fun z => (z hv2).elim, fun _ _ => ⟨⟨e4.trans c1, e8.trans c2, e5.trans c3⟩, j, hj, hb⟩, fun z => (hu2 z).elim⟩
/-- begins to CLAIM -/
theorem dC1_beg {n w k f2 j s : Nat} {ds bs : Nat → Int} {M N1 : mMem} (hs : s < 8) (h0 : 0 ≤ dG M 2049) (hn : dG N1 2049 = dG M 2049) (hz : 0 ≤ dG M (65541 + 26624 * s)) (hca : 0 ≤ dG M (65546 + 26624 * s) ∧ dG M (65546 + 26624 * s) ≤ dG M 2049) (hcl : dG M (57352 + 26624 * s) = 0) (hbg : dBegun M N1 s) (ht : dG M 2049 = dTd ds n k s) (hv2 : dVis n k 0 f2 s) (hj : dBst n w k bs 0 f2 s j) (hb : dG N1 (61440 + 26624 * s) = bs j ∧ dG N1 (61441 + 26624 * s) = (j : Int) ∧ dG N1 (61442 + 26624 * s) = 1) (e1 : dG N1 (65541 + 26624 * s) = dG M (65541 + 26624 * s)) (e2 : dG N1 (65546 + 26624 * s) = dG M (65546 + 26624 * s)) : dC1 n w k ds bs 0 f2 N1 s := by
  obtain ⟨b1, b2, b3, b4, b5, b6, b7, b8, b9⟩ := hbg
  exact ⟨⟨⟨by omega, by omega⟩, b5, b8, by omega, by omega, by omega⟩, fun z => (z hv2).elim, fun _ _ => ⟨⟨b1, by omega, by omega⟩, j, hj, hb⟩, fun z => by cases z.1⟩
/-- goes UP, and lets the TOKEN go -/
theorem dC1_gone {n w k ph f s : Nat} {ds bs : Nat → Int} {M N1 : mMem} (hs : s < 8) (h : dC1 n w k ds bs ph f M s) (hv : dVis n k ph f s) (hu : ¬ dUpt n w ph f s) {f2 : Nat} (hu2 : dUpt n w 2 f2 s) (hn : dG N1 2049 = dG M 2049) (hc : dG M 55296 = bs w ∧ dG M 55297 = (w : Int) ∧ dG M 55298 = 1) (hg : dGone M N1 s) (ht : dG M 2049 = dTs n w k ds s) (hf : ∀ i, (i = 8 ∨ i = 9 ∨ i = 8192 ∨ i = 8195 ∨ i = 8197 ∨ i = 8202) → dG N1 (57344 + 26624 * s + i) = dG M (57344 + 26624 * s + i)) : dC1 n w k ds bs 2 f2 N1 s := by
  have x : ∀ i, (i = 8 ∨ i = 9 ∨ i = 8192 ∨ i = 8195 ∨ i = 8197 ∨ i = 8202) → dG N1 (57344 + i + 26624 * s) = dG M (57344 + i + 26624 * s) := fun i a => by
    have := hf i a
    rw [show 57344 + i + 26624 * s = 57344 + 26624 * s + i by omega]
    exact this
  have e8 := x 8 (by decide)
  have e9 := x 9 (by decide)
  have h0 := x 8192 (by decide)
  have h1 := x 8195 (by decide)
  have h2 := x 8197 (by decide)
  have h3 := x 8202 (by decide)
  simp only [Nat.reduceAdd] at e8 e9 h0 h1 h2 h3
  obtain ⟨⟨⟨a1, a2⟩, a3, a4, a5, a6, a7⟩, -, c, -⟩ := h
  obtain ⟨⟨-, c2, -⟩, -⟩ := c hv hu
  obtain ⟨g1, g2, g3, g4, g5, g6, g7, g8, g9, g10, g11⟩ := hg
  obtain ⟨k1, k2, k3⟩ := hc
  exact ⟨⟨⟨by omega, by omega⟩, h0.trans a3, h1.trans a4, by omega, by omega, by omega⟩, fun z => (z (.inl (by decide))).elim, fun _ y => (y hu2).elim, fun _ => ⟨⟨g1, g2.trans k1, g3.trans k2, g4.trans k3, e8.trans c2⟩, ⟨by omega, g6, g7, by omega⟩, g9, g10, g11⟩⟩
/-! ===== the messages as a list ===== -/
theorem dMq_mem {n w k ph f j : Nat} {ds bs : Nat → Int} {t : Int} {A B l : List dMsg} (hf : f < n) (ha : dAtf n w k ds ph f ≤ t) (h : dMq n w k ds bs ph f j t A B l) : ∀ r ∈ l, ∃ i : Nat, i < n ∧ r.2.1 = (i : Int) ∧ r.2.2.1 ≤ t + ds i := fun r hr => by
  obtain ⟨e, a, b, -⟩ := h
  rw [e] at hr
  rcases List.mem_append.mp hr with x | x
  · obtain ⟨-, i, -, q, -⟩ := a r x
    exact ⟨i, q⟩
  · rcases List.mem_cons.mp x with y | y
    · rw [y]
      exact ⟨f, hf, rfl, by show dAtf n w k ds ph f + ds f ≤ t + ds f; omega⟩
    · obtain ⟨-, i, -, q, -⟩ := b r y
      exact ⟨i, q⟩
theorem dMq_dropA {n w k ph f j : Nat} {ds bs : Nat → Int} {t : Int} {K U B c : List dMsg} {u : dMsg} (h : dMq n w k ds bs ph f j t (K ++ (u :: c)) B (K ++ (u :: U))) (e : U = c ++ (dFr bs ph f j (dAtf n w k ds ph f + ds f) :: B)) : dMq n w k ds bs ph f j t (K ++ c) B (K ++ U) := by
  obtain ⟨-, a, b, fi⟩ := h
  exact ⟨by rw [e, List.append_assoc], fun r hr => a r (dMem hr), b, dFi_cut fi⟩
theorem dMq_dropB {n w k ph f j : Nat} {ds bs : Nat → Int} {t : Int} {A K U a : List dMsg} {u : dMsg} (h : dMq n w k ds bs ph f j t A (a ++ (u :: U)) (K ++ (u :: U))) (e : K = A ++ (dFr bs ph f j (dAtf n w k ds ph f + ds f) :: a)) : dMq n w k ds bs ph f j t A (a ++ U) (K ++ U) := by
  obtain ⟨-, x, b, fi⟩ := h
  exact ⟨by rw [e, List.append_assoc, List.cons_append], x, fun r hr => b r (dMem hr), dFi_cut fi⟩
theorem dMq_put {n w k ph f j : Nat} {ds bs : Nat → Int} {t : Int} {A B l : List dMsg} {x : dMsg} (h : dMq n w k ds bs ph f j t A B l) (hx : dMs n w k ds bs ph f t False x) (hl : ∀ r ∈ l, r.2.1 = x.2.1 → r.2.2.1 ≤ x.2.2.1) : dMq n w k ds bs ph f j t A (B ++ [x]) (l ++ [x]) := by
  obtain ⟨e, a, b, fi⟩ := h
  refine ⟨by rw [e, List.append_assoc, List.cons_append], a, fun r hr => ?_, dFi_put fi hl⟩
  rcases List.mem_append.mp hr with y | y
  · exact b r y
  · rw [List.mem_singleton.mp y]; exact hx
/-- the front comes, and goes on -/
theorem dMq_move {n w k ph f j ph2 j2 : Nat} {ds bs : Nat → Int} {t : Int} {K U : List dMsg} (hk : k < n) (hw : w < n) (hf : f < n) (hst : dStep n w k ph f ph2) (h : dMq n w k ds bs ph f j t K U (K ++ (dFr bs ph f j (dAtf n w k ds ph f + ds f) :: U))) (hK : ∀ r ∈ K, t < r.2.2.1) (ht : dAtf n w k ds ph f + ds f = t) (hd : ∀ i, i < n → 1 ≤ ds i) : dMq n w k ds bs ph2 (dNx n f) j2 t (K ++ U) [] ((K ++ U) ++ [dFr bs ph2 (dNx n f) j2 (t + ds (dNx n f))]) := by
  obtain ⟨-, a, b, fi⟩ := h
  have e : dAtf n w k ds ph2 (dNx n f) = t := (dAtf_move hk hw hf hst).trans ht
  have all : ∀ r ∈ K ++ U, dMs n w k ds bs ph2 (dNx n f) t True r := fun r hr => by
    rcases List.mem_append.mp hr with y | y
    · refine dMs_move hk hw hf hst (a r y) (fun _ e => ?_)
      have q := dFi_le fi y e
      have q : r.2.2.1 ≤ dAtf n w k ds ph f + ds f := q
      have := hK r y
      omega
    · exact dMs_move hk hw hf hst (b r y) (fun z => z.elim)
  refine ⟨by rw [e], all, fun r hr => (by cases hr), dFi_put (dFi_cut fi) (fun r hr q => ?_)⟩
  obtain ⟨-, i, -, ⟨l1, l2, l3⟩, -⟩ := all r hr
  have q : r.2.1 = ((dNx n f : Nat) : Int) := q
  have ei : i = dNx n f := by omega
  rw [ei] at l3
  exact l3
/-! ===== how many there are ===== -/
noncomputable def dSq (n : Nat) (N : mMem) : Int := dPfx (fun s => dG N (57353 + 26624 * s) / 20) n
theorem dPfx_le {f g : Nat → Int} {m : Nat} (h : ∀ i, i < m → f i ≤ g i) : dPfx f m ≤ dPfx g m := by
  induction m with
  | zero => exact Int.le_refl _
  | succ m ih =>
    have a := ih (fun i hi => h i (by omega))
    have b := h m (by omega)
    rw [dPfx_s, dPfx_s]
    omega
theorem dPfx_lt {f g : Nat → Int} {m v : Nat} (hv : v < m) (h : ∀ i, i < m → f i ≤ g i) (hs : f v + 1 ≤ g v) : dPfx f m + 1 ≤ dPfx g m := by
  induction m with
  | zero => omega
  | succ m ih =>
    rw [dPfx_s, dPfx_s]
    have b := h m (by omega)
    by_cases c : v = m
    · subst c
      have a := dPfx_le (f := f) (g := g) (m := v) (fun i hi => h i (by omega))
      omega
    · have a := ih (by omega) (fun i hi => h i (by omega))
      omega
theorem dSq_b {n : Nat} {N : mMem} (h8 : n ≤ 8) (h : ∀ s, s < n → dG N (57353 + 26624 * s) ≤ 120) : dSq n N ≤ 48 := by
  have a := dPfx_u (f := fun s => dG N (57353 + 26624 * s) / 20) (c := 6) (m := n) (fun i hi => by
    have := h i hi
    show dG N (57353 + 26624 * i) / 20 ≤ 6
    omega)
  unfold dSq
  omega
theorem dSq_le {n v : Nat} {N N1 : mMem} (h : ∀ s, s < n → s ≠ v → dG N1 (57353 + 26624 * s) = dG N (57353 + 26624 * s)) (hv : v < n → dG N (57353 + 26624 * v) ≤ dG N1 (57353 + 26624 * v)) : dSq n N ≤ dSq n N1 := by
  refine dPfx_le (fun i hi => ?_)
  show dG N (57353 + 26624 * i) / 20 ≤ dG N1 (57353 + 26624 * i) / 20
  by_cases c : i = v
  · have := hv (by omega)
    rw [c]
    omega
  · rw [h i hi c]
    exact Int.le_refl _
theorem dSq_lt {n v : Nat} {N N1 : mMem} (h : ∀ s, s < n → s ≠ v → dG N1 (57353 + 26624 * s) = dG N (57353 + 26624 * s)) (hv : v < n) (hs : dG N (57353 + 26624 * v) + 20 ≤ dG N1 (57353 + 26624 * v)) : dSq n N + 1 ≤ dSq n N1 := by
  refine dPfx_lt hv (fun i hi => ?_) ?_
  · show dG N (57353 + 26624 * i) / 20 ≤ dG N1 (57353 + 26624 * i) / 20
    by_cases c : i = v
    · rw [c]
      omega
    · rw [h i hi c]
      exact Int.le_refl _
  · show dG N (57353 + 26624 * v) / 20 + 1 ≤ dG N1 (57353 + 26624 * v) / 20
    omega

