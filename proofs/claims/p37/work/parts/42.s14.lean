/-! ===== the claims: the ring ===== -/
theorem dPs_inj {n q s t : Nat} (hq : q < n) (hs : s < n) (ht : t < n) (h : dPs n q s = dPs n q t) : s = t := by
  unfold dPs at h
  by_cases a : s < q
  · rw [if_pos a] at h
    by_cases b : t < q
    · rw [if_pos b] at h; omega
    · rw [if_neg b] at h; omega
  · rw [if_neg a] at h
    by_cases b : t < q
    · rw [if_pos b] at h; omega
    · rw [if_neg b] at h; omega
theorem dPs_nx {n k l : Nat} (hk : k < n) (hl : l < n) (h : dNx n l ≠ k) : dPs n k (dNx n l) = dPs n k l + 1 := by
  unfold dNx at h ⊢
  unfold dPs
  by_cases a : l + 1 < n
  · rw [if_pos a] at h ⊢
    by_cases b : l < k
    · rw [if_pos b, if_pos (show l + 1 < k by omega)]; omega
    · rw [if_neg b, if_neg (show ¬ l + 1 < k by omega)]; omega
  · rw [if_neg a] at h ⊢
    rw [if_neg (show ¬ l < k by omega), if_pos (show 0 < k by omega)]; omega
theorem dPs_end {n k l : Nat} (hk : k < n) (hl : l < n) (h : dNx n l = k) : dPs n k l + 1 = n := by
  unfold dNx at h
  unfold dPs
  by_cases a : l + 1 < n
  · rw [if_pos a] at h
    rw [if_pos (show l < k by omega)]; omega
  · rw [if_neg a] at h
    rw [if_neg (show ¬ l < k by omega)]; omega
theorem dTd_nx {f : Nat → Int} {n k l : Nat} (hk : k < n) (hl : l < n) (h : dNx n l ≠ k) : dTd f n k (dNx n l) = dTd f n k l + f l := by
  unfold dNx at h ⊢
  unfold dTd
  by_cases a : l + 1 < n
  · rw [if_pos a] at h ⊢
    rw [dPfx_s]
    by_cases b : l < k
    · rw [if_pos b, if_pos (show l + 1 < k by omega)]; omega
    · rw [if_neg b, if_neg (show ¬ l + 1 < k by omega)]; omega
  · have e : n = l + 1 := by omega
    subst e
    rw [if_neg a] at h ⊢
    rw [if_neg (show ¬ l < k by omega), if_pos (show 0 < k by omega), dPfx_s, dPfx_0]; omega
theorem dTd_end {f : Nat → Int} {n k l : Nat} (hk : k < n) (hl : l < n) (h : dNx n l = k) : dTd f n k l + f l = dPfx f n := by
  unfold dNx at h
  unfold dTd
  by_cases a : l + 1 < n
  · rw [if_pos a] at h
    subst h
    rw [dPfx_s, if_pos (show l < l + 1 by omega)]; omega
  · have e : n = l + 1 := by omega
    subst e
    rw [if_neg a] at h
    subst h
    rw [if_neg (show ¬ l < 0 by omega), dPfx_s, dPfx_0]; omega
/-! ===== who is best ===== -/
noncomputable def dLe (bs : Nat → Int) (j t : Nat) : Prop := bs j < bs t ∨ (bs j = bs t ∧ j ≤ t)
theorem dLe_anti {bs : Nat → Int} {j t : Nat} (h1 : dLe bs j t) (h2 : dLe bs t j) : j = t := by
  unfold dLe at h1 h2
  omega
theorem dLe_trans {bs : Nat → Int} {i j t : Nat} (h1 : dLe bs i j) (h2 : dLe bs j t) : dLe bs i t := by
  unfold dLe at h1 h2 ⊢
  omega
/-- the best of those that the first CLAIM has come by, up to s -/
noncomputable def dBe (n k : Nat) (bs : Nat → Int) (s j : Nat) : Prop := j < n ∧ dPs n k j ≤ dPs n k s ∧ ∀ t, t < n → dPs n k t ≤ dPs n k s → dLe bs j t
theorem dBe_w {n k w s j : Nat} {bs : Nat → Int} (hwn : w < n) (hw : ∀ t, t < n → dLe bs w t) (h : dBe n k bs s j) (hi : dPs n k w ≤ dPs n k s) : j = w := dLe_anti (h.2.2 w hwn hi) (hw j h.1)
theorem dBe_k {n k : Nat} {bs : Nat → Int} (hk : k < n) : dBe n k bs k k := ⟨hk, Nat.le_refl _, fun t ht h => by
  rw [dPs_0] at h
  have e : t = k := dPs_inj hk ht hk (by rw [dPs_0]; omega)
  subst e
  exact .inr ⟨rfl, Nat.le_refl _⟩⟩
/-- one more STATION: the better of both -/
theorem dBe_nx {n k l j : Nat} {bs : Nat → Int} (hk : k < n) (hl : l < n) (h : dNx n l ≠ k) (hb : dBe n k bs l j) :
    (dLe bs j (dNx n l) → dBe n k bs (dNx n l) j) ∧ (dLe bs (dNx n l) j → dBe n k bs (dNx n l) (dNx n l)) := by
  have hv : dNx n l < n := dNx_lt (by omega)
  have e := dPs_nx hk hl h
  have old : ∀ t, t < n → dPs n k t ≤ dPs n k (dNx n l) → dPs n k t ≤ dPs n k l ∨ t = dNx n l := fun t ht hle => by
    by_cases c : dPs n k t = dPs n k (dNx n l)
    · exact .inr (dPs_inj hk ht hv c)
    · exact .inl (by omega)
  obtain ⟨b1, b2, b3⟩ := hb
  refine ⟨fun g => ⟨b1, by omega, fun t ht hle => ?_⟩, fun g => ⟨hv, Nat.le_refl _, fun t ht hle => ?_⟩⟩
  · rcases old t ht hle with q | q
    · exact b3 t ht q
    · rw [q]; exact g
  · rcases old t ht hle with q | q
    · exact dLe_trans g (b3 t ht q)
    · rw [q]; exact .inr ⟨rfl, Nat.le_refl _⟩
/-! ===== a STATION while CLAIMS go ===== -/
noncomputable def dLap (n k ph f s : Nat) : Prop := ph = 2 ∨ (ph = 1 ∧ dPs n k s ≤ dPs n k f)
noncomputable def dVis (n k ph f s : Nat) : Prop := 1 ≤ ph ∨ dPs n k s ≤ dPs n k f
noncomputable def dUpt (n w ph f s : Nat) : Prop := ph = 2 ∧ dPs n w s ≤ dPs n w f
noncomputable def dBst (n w k : Nat) (bs : Nat → Int) (ph f s j : Nat) : Prop := j < n ∧ (dLap n k ph f s → j = w) ∧ (¬ dLap n k ph f s → dBe n k bs s j)
/-- when the TOKEN comes to s first -/
noncomputable def dTs (n w k : Nat) (ds : Nat → Int) (s : Nat) : Int := dPfx ds n + dTd ds n k w + dTd ds n w s
/-- when the front left f -/
noncomputable def dAtf (n w k : Nat) (ds : Nat → Int) (ph f : Nat) : Int := if ph = 0 then dTd ds n k f else if ph = 1 then dPfx ds n + dTd ds n k f else dTs n w k ds f
noncomputable def dC1 (n w k : Nat) (ds bs : Nat → Int) (ph f : Nat) (N : mMem) (s : Nat) : Prop :=
  ((0 ≤ dG N (57353 + 26624 * s) ∧ dG N (57353 + 26624 * s) ≤ dG N 2049) ∧ dG N (65536 + 26624 * s) = 0 ∧ dG N (65539 + 26624 * s) = 0 ∧ 0 ≤ dG N (65541 + 26624 * s) ∧ (0 ≤ dG N (65546 + 26624 * s) ∧ dG N (65546 + 26624 * s) ≤ dG N 2049)) ∧
  (¬ dVis n k ph f s → dG N (57348 + 26624 * s) = 0 ∧ dG N (57352 + 26624 * s) = 0) ∧
  (dVis n k ph f s → ¬ dUpt n w ph f s → (dG N (57348 + 26624 * s) = 2 ∧ dG N (57352 + 26624 * s) = 1 ∧ dG N (57349 + 26624 * s) = dTd ds n k s) ∧ ∃ j, dBst n w k bs ph f s j ∧ dG N (61440 + 26624 * s) = bs j ∧ dG N (61441 + 26624 * s) = (j : Int) ∧ dG N (61442 + 26624 * s) = 1) ∧
  (dUpt n w ph f s → (dG N (57348 + 26624 * s) = 1 ∧ dG N (59392 + 26624 * s) = bs w ∧ dG N (59393 + 26624 * s) = (w : Int) ∧ dG N (59394 + 26624 * s) = 1 ∧ dG N (57352 + 26624 * s) = 1) ∧ (dG N (57356 + 26624 * s) = dTs n w k ds s + bs w ∧ dG N (57357 + 26624 * s) = 0 ∧ dG N (57358 + 26624 * s) = 1 ∧ dG N (65547 + 26624 * s) = dTs n w k ds s) ∧ (dG N (81926 + 26624 * s) = 0 ∧ dG N (81927 + 26624 * s) = 0 ∧ dG N (81928 + 26624 * s) = 0))
/-- the places of a station that dC1 speaks of -/
noncomputable def dCj (j : Nat) : Prop := (4 ≤ j ∧ j < 15) ∨ (2048 ≤ j ∧ j < 2051) ∨ (4096 ≤ j ∧ j < 4099) ∨ (j = 8192 ∨ j = 8195 ∨ j = 8197 ∨ j = 8202 ∨ j = 8203) ∨ (24582 ≤ j ∧ j < 24585)
theorem dC1_same {n w k ph f s : Nat} {ds bs : Nat → Int} {N N1 : mMem} (hs : s < 8) (h : dC1 n w k ds bs ph f N s) (ht : dG N 2049 ≤ dG N1 2049) (hf : ∀ j, dCj j → dG N1 (57344 + 26624 * s + j) = dG N (57344 + 26624 * s + j)) : dC1 n w k ds bs ph f N1 s := by
  have x : ∀ j, dCj j → dG N1 (57344 + j + 26624 * s) = dG N (57344 + j + 26624 * s) := fun j hj => by
    have := hf j hj
    rw [show 57344 + j + 26624 * s = 57344 + 26624 * s + j by omega]
    exact this
  have e4 := x 4 (.inl (by decide))
  have e5 := x 5 (.inl (by decide))
  have e8 := x 8 (.inl (by decide))
  have e9 := x 9 (.inl (by decide))
  have e12 := x 12 (.inl (by decide))
  have e13 := x 13 (.inl (by decide))
  have e14 := x 14 (.inl (by decide))
  have g0 := x 2048 (.inr (.inl (by decide)))
  have g1 := x 2049 (.inr (.inl (by decide)))
  have g2 := x 2050 (.inr (.inl (by decide)))
  have b0 := x 4096 (.inr (.inr (.inl (by decide))))
  have b1 := x 4097 (.inr (.inr (.inl (by decide))))
  have b2 := x 4098 (.inr (.inr (.inl (by decide))))
  have h0 := x 8192 (.inr (.inr (.inr (.inl (by decide)))))
  have h1 := x 8195 (.inr (.inr (.inr (.inl (by decide)))))
  have h2 := x 8197 (.inr (.inr (.inr (.inl (by decide)))))
  have h3 := x 8202 (.inr (.inr (.inr (.inl (by decide)))))
  have h4 := x 8203 (.inr (.inr (.inr (.inl (by decide)))))
  have t6 := x 24582 (.inr (.inr (.inr (.inr (by decide)))))
  have t7 := x 24583 (.inr (.inr (.inr (.inr (by decide)))))
  have t8 := x 24584 (.inr (.inr (.inr (.inr (by decide)))))
  simp only [Nat.reduceAdd] at e4 e5 e8 e9 e12 e13 e14 g0 g1 g2 b0 b1 b2 h0 h1 h2 h3 h4 t6 t7 t8
  unfold dC1 at h ⊢
  rw [e4, e5, e8, e9, e12, e13, e14, g0, g1, g2, b0, b1, b2, h0, h1, h2, h3, h4, t6, t7, t8]
  obtain ⟨⟨⟨a1, a2⟩, a3, a4, a5, a6, a7⟩, r⟩ := h
  exact ⟨⟨⟨a1, Int.le_trans a2 ht⟩, a3, a4, a5, a6, Int.le_trans a7 ht⟩, r⟩
/-! ===== the CLAIMS on their way ===== -/
noncomputable def dMs (n w k : Nat) (ds bs : Nat → Int) (ph f : Nat) (t : Int) (a : Prop) (r : dMsg) : Prop := (r.1 = 0 ∧ r.2.2.2.2.2 = 1) ∧ ∃ l j : Nat, (l < n ∧ r.2.1 = (l : Int) ∧ r.2.2.1 ≤ t + ds l) ∧ (j < n ∧ r.2.2.2.1 = (j : Int) ∧ r.2.2.2.2.1 = bs j) ∧
  (j = w → (ph = 0 → dPs n k w ≤ dPs n k l ∧ dPs n k l ≤ dPs n k f ∧ (a → l ≠ f)) ∧ (ph = 1 → (dPs n k w ≤ dPs n k l ∨ dPs n k l ≤ dPs n k f) ∧ (a → l ≠ f))) ∧
  (j ≠ w → ph ≠ 2 ∧ dPs n k j ≤ dPs n k l ∧ dPs n k l < dPs n k w ∧ (ph = 0 → dPs n k l ≤ dPs n k f ∧ (a → l ≠ f)) ∧ (ph = 1 → dPs n k f ≤ dPs n k l ∧ (¬ a → l ≠ f)))
theorem dMs_le {n w k ph f : Nat} {ds bs : Nat → Int} {t t2 : Int} {a : Prop} {r : dMsg} (h : dMs n w k ds bs ph f t a r) (ht : t ≤ t2) : dMs n w k ds bs ph f t2 a r := by
  obtain ⟨c, l, j, ⟨l1, l2, l3⟩, g⟩ := h
  exact ⟨c, l, j, ⟨l1, l2, by omega⟩, g⟩
noncomputable def dFr (bs : Nat → Int) (ph f j : Nat) (D : Int) : dMsg := ((if ph = 2 then 2 else 0), ((f : Int), (D, ((j : Int), (bs j, 1)))))
noncomputable def dFj (n w k : Nat) (bs : Nat → Int) (ph f j : Nat) : Prop := j < n ∧ (ph = 0 → dBe n k bs f j) ∧ (ph ≠ 0 → j = w)
/-- on one LINK none comes before one that left sooner -/
noncomputable def dFi (l : List dMsg) : Prop := l.Pairwise fun a b => a.2.1 = b.2.1 → a.2.2.1 ≤ b.2.2.1
/-- what is on its way -/
noncomputable def dMq (n w k : Nat) (ds bs : Nat → Int) (ph f j : Nat) (t : Int) (A B l : List dMsg) : Prop := l = A ++ (dFr bs ph f j (dAtf n w k ds ph f + ds f) :: B) ∧ (∀ r ∈ A, dMs n w k ds bs ph f t True r) ∧ (∀ r ∈ B, dMs n w k ds bs ph f t False r) ∧ dFi l
theorem dSplit {A B K U : List dMsg} {F u : dMsg} (h : A ++ (F :: B) = K ++ (u :: U)) : (u = F ∧ K = A ∧ U = B) ∨ (∃ c, A = K ++ (u :: c) ∧ U = c ++ (F :: B)) ∨ ∃ a, K = A ++ (F :: a) ∧ B = a ++ (u :: U) := by
  rcases List.append_eq_append_iff.mp h with ⟨a, e1, e2⟩ | ⟨c, e1, e2⟩
  · cases a with
    | nil =>
      rw [List.nil_append] at e2
      rw [List.append_nil] at e1
      injection e2 with q1 q2
      exact .inl ⟨q1.symm, e1, q2.symm⟩
    | cons x a =>
      rw [List.cons_append] at e2
      injection e2 with q1 q2
      subst q1
      exact .inr (.inr ⟨a, e1, q2⟩)
  · cases c with
    | nil =>
      rw [List.nil_append] at e2
      rw [List.append_nil] at e1
      injection e2 with q1 q2
      exact .inl ⟨q1, e1.symm, q2⟩
    | cons x c =>
      rw [List.cons_append] at e2
      injection e2 with q1 q2
      subst q1
      exact .inr (.inl ⟨c, e1, q2⟩)
theorem dFi_cut {K U : List dMsg} {u : dMsg} (h : dFi (K ++ (u :: U))) : dFi (K ++ U) := List.Pairwise.sublist (List.Sublist.append_left (List.sublist_cons_self u U) K) h
theorem dFi_put {l : List dMsg} {x : dMsg} (h : dFi l) (hx : ∀ r ∈ l, r.2.1 = x.2.1 → r.2.2.1 ≤ x.2.2.1) : dFi (l ++ [x]) := List.pairwise_append.mpr ⟨h, List.pairwise_singleton _ _, fun r hr y hy => by
  obtain rfl := List.mem_singleton.mp hy
  exact hx r hr⟩
theorem dFi_le {A B : List dMsg} {F r : dMsg} (h : dFi (A ++ (F :: B))) (hr : r ∈ A) (e : r.2.1 = F.2.1) : r.2.2.1 ≤ F.2.2.1 := (List.pairwise_append.mp h).2.2 r hr F List.mem_cons_self e

