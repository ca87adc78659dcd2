/-! ===== the messages on their way, as a list ===== -/
/-- kind, link, due, whose, bid, number -/
abbrev dMsg : Type := Int × (Int × (Int × (Int × (Int × Int))))
noncomputable def dRow (N : mMem) (i : Nat) : dMsg := (dG N (14336 + i), (dG N (16384 + i), (dG N (18432 + i), (dG N (20480 + i), (dG N (22528 + i), dG N (24576 + i))))))
noncomputable def dPost (N : mMem) : List dMsg := (List.range (dG N 10243).toNat).map (dRow N)
theorem dPost_len (N : mMem) : (dPost N).length = (dG N 10243).toNat := by unfold dPost; rw [List.length_map, List.length_range]
theorem dPost_get {N : mMem} {i : Nat} (h : i < (dG N 10243).toNat) : (dPost N)[i]? = some (dRow N i) := by
  unfold dPost
  rw [List.getElem?_map, List.getElem?_range h]
  rfl
theorem dPost_mem {N : mMem} {i : Nat} (h : i < (dG N 10243).toNat) : dRow N i ∈ dPost N := List.mem_of_getElem? (dPost_get h)
theorem dPost_ext {N : mMem} {l : List dMsg} (h : (dG N 10243).toNat = l.length) (hr : ∀ i, i < l.length → l[i]? = some (dRow N i)) : dPost N = l := by
  apply List.ext_getElem?
  intro i
  by_cases c : i < l.length
  · rw [dPost_get (by omega), hr i c]
  · rw [List.getElem?_eq_none (by rw [dPost_len]; omega), List.getElem?_eq_none (by omega)]
theorem dPost_same {N N1 : mMem} (h : ∀ k, 10240 ≤ k → k < 26624 → dG N1 k = dG N k) (hs : dG N 10243 ≤ 100) : dPost N1 = dPost N := by
  refine dPost_ext (by rw [dPost_len, h _ (by decide) (by decide)]) (fun i hi => ?_)
  rw [dPost_len] at hi
  rw [dPost_get hi]
  unfold dRow
  rw [h _ (by omega) (by omega), h _ (by omega) (by omega), h _ (by omega) (by omega), h _ (by omega) (by omega), h _ (by omega) (by omega), h _ (by omega) (by omega)]
/-! ===== one message goes ===== -/
noncomputable def dShf (N N0 : mMem) (o i m : Nat) : Prop := (∀ c j, 7 ≤ c → c ≤ 12 → j < 2048 → dG N (c * 2048 + j) = if c < o ∧ i ≤ j ∧ j < i + m then dG N0 (c * 2048 + (j + 1)) else dG N0 (c * 2048 + j)) ∧ ∀ k, k < 2097152 → (k < 14336 ∨ 26624 ≤ k) → dG N k = dG N0 k
theorem dShf_0 (N : mMem) (i m : Nat) : dShf N N 7 i m := ⟨fun c j h _ _ => by rw [if_neg (fun q => by have := q.1; omega)], fun _ _ _ => rfl⟩
theorem dShf_s {N N0 : mMem} {o i m : Nat} (h : dShf N N0 o i m) (ho : 7 ≤ o) (ho2 : o ≤ 12) (hm : i + 1 + m ≤ 100) : dShf (dCp N o (i + 1) o i m) N0 (o + 1) i m := by
  refine ⟨fun c j h1 h2 hj => ?_, fun k hk hh => ?_⟩
  · rw [dG_cp (by omega) (by omega) (by omega) (by omega) (by omega)]
    by_cases hc : c = o
    · subst hc
      by_cases d : i ≤ j ∧ j < i + m
      · rw [if_pos ⟨by omega, by omega⟩, if_pos ⟨by omega, d.1, d.2⟩, show c * 2048 + (i + 1) + (c * 2048 + j - (c * 2048 + i)) = c * 2048 + (j + 1) by omega, h.1 c (j + 1) h1 h2 (by omega), if_neg (fun q => Nat.lt_irrefl _ q.1)]
      · rw [if_neg (fun q => d ⟨by omega, by omega⟩), if_neg (fun q => d q.2), h.1 c j h1 h2 hj, if_neg (fun q => Nat.lt_irrefl _ q.1)]
    · rw [if_neg (fun q => hc (by omega)), h.1 c j h1 h2 hj]
      by_cases d : c < o ∧ i ≤ j ∧ j < i + m
      · rw [if_pos d, if_pos ⟨by omega, d.2⟩]
      · rw [if_neg d, if_neg (fun q => d ⟨by omega, q.2⟩)]
  · rw [dG_cp (by omega) (by omega) (by omega) (by omega) hk, if_neg (fun q => by omega)]
    exact h.2 k hk hh
theorem dShf_list {N N13 : mMem} {i m : Nat} (s13 : dShf N13 N 13 i m) (hi : (i : Int) < dG N 10243) (hs : dG N 10243 ≤ 100) (hm : dG N 10243 - 1 - (i : Int) = (m : Int)) : dPost (dP N13 10243 (dG N 10243 - 1)) = (dPost N).eraseIdx i := by
  have w2 : dW (dG N 10243 - 1) = dG N 10243 - 1 := dW_id ⟨by omega, by omega⟩
  have sz : dG ((dP N13 10243 (dG N 10243 - 1))) 10243 = dG N 10243 - 1 := (dG_e (by decide)).trans w2
  have le : ((dPost N).eraseIdx i).length = (dG N 10243 - 1).toNat := by
    rw [List.length_eraseIdx, dPost_len, if_pos (by omega)]
    omega
  refine dPost_ext (by rw [sz, le]) (fun j hj => ?_)
  rw [le] at hj
  have hjm : ¬ j < i → j < i + m := fun q => by omega
  have hj2 : j < 2048 := by omega
  have g1 : j < (dG N 10243).toNat := by omega
  have g2 : j + 1 < (dG N 10243).toNat := by omega
  have col : ∀ c, 7 ≤ c → c ≤ 12 → dG (dP N13 10243 (dG N 10243 - 1)) (c * 2048 + j) = if j < i then dG N (c * 2048 + j) else dG N (c * 2048 + (j + 1)) := fun c hc hc2 => by
    have e := s13.1 c j hc hc2 hj2
    rw [dG_n (by omega) (by decide) (by omega), e]
    by_cases q : j < i
    · rw [if_pos q, if_neg (fun q2 => Nat.lt_irrefl _ (Nat.lt_of_lt_of_le q q2.2.1))]
    · rw [if_neg q, if_pos ⟨Nat.lt_succ_of_le hc2, Nat.le_of_not_lt q, hjm q⟩]
  have c0 : dG (dP N13 10243 (dG N 10243 - 1)) (14336 + j) = if j < i then dG N (14336 + j) else dG N (14336 + (j + 1)) := col 7 (by decide) (by decide)
  have c1 : dG (dP N13 10243 (dG N 10243 - 1)) (16384 + j) = if j < i then dG N (16384 + j) else dG N (16384 + (j + 1)) := col 8 (by decide) (by decide)
  have c2 : dG (dP N13 10243 (dG N 10243 - 1)) (18432 + j) = if j < i then dG N (18432 + j) else dG N (18432 + (j + 1)) := col 9 (by decide) (by decide)
  have c3 : dG (dP N13 10243 (dG N 10243 - 1)) (20480 + j) = if j < i then dG N (20480 + j) else dG N (20480 + (j + 1)) := col 10 (by decide) (by decide)
  have c4 : dG (dP N13 10243 (dG N 10243 - 1)) (22528 + j) = if j < i then dG N (22528 + j) else dG N (22528 + (j + 1)) := col 11 (by decide) (by decide)
  have c5 : dG (dP N13 10243 (dG N 10243 - 1)) (24576 + j) = if j < i then dG N (24576 + j) else dG N (24576 + (j + 1)) := col 12 (by decide) (by decide)
  generalize dP N13 10243 (dG N 10243 - 1) = M at sz c0 c1 c2 c3 c4 c5 ⊢
  rw [List.getElem?_eraseIdx]
  by_cases q : j < i
  · rw [if_pos q] at c0 c1 c2 c3 c4 c5
    rw [if_pos q, dPost_get g1]
    unfold dRow
    rw [c0, c1, c2, c3, c4, c5]
  · rw [if_neg q] at c0 c1 c2 c3 c4 c5
    rw [if_neg q, dPost_get g2]
    unfold dRow
    rw [c0, c1, c2, c3, c4, c5]
theorem sp_remove {N : mMem} {i : Nat} (hi : (i : Int) < dG N 10243) (hs : dG N 10243 ≤ 100) : ∃ N1, fX4_remove_P N (i : Int) = some (N1, 0) ∧ dPost N1 = (dPost N).eraseIdx i ∧ dG N1 10243 = dG N 10243 - 1 ∧ dOut 10240 26624 N N1 := by
  obtain ⟨m, hm⟩ : ∃ m : Nat, dG N 10243 - 1 - (i : Int) = (m : Int) := ⟨(dG N 10243 - 1 - i).toNat, by omega⟩
  have w1 : dW ((i : Int) + 1) = ((i + 1 : Nat) : Int) := dW_id (x := (i : Int) + 1) ⟨by omega, by omega⟩
  have w2 : dW (dG N 10243 - 1) = dG N 10243 - 1 := dW_id ⟨by omega, by omega⟩
  have w3 : dW (dG N 10243 - 1 - (i : Int)) = (m : Int) := (dW_id (x := dG N 10243 - 1 - (i : Int)) ⟨by omega, by omega⟩).trans hm
  have g : 0 ≤ ((i + 1 : Nat) : Int) ∧ 0 ≤ (i : Int) ∧ 0 ≤ (m : Int) ∧ ((i + 1 : Nat) : Int) + (m : Int) ≤ 100 ∧ (i : Int) + (m : Int) ≤ 100 := by omega
  have hm3 : i + 1 + m ≤ 100 := by omega
  have n1 : ((i + 1 : Nat) : Int).toNat = i + 1 := Int.toNat_natCast _
  have n2 : (i : Int).toNat = i := Int.toNat_natCast _
  have n3 : (m : Int).toNat = m := Int.toNat_natCast _
  have s7 := dShf_0 N i m
  have z7 : dG N 10243 = dG N 10243 := rfl
  have s8 : dShf (dCp N 7 (i + 1) 7 i m) N 8 i m := dShf_s s7 (by decide) (by decide) hm3
  have e7 : fX4_remove_P_b15 N (i : Int) = fX4_remove_P_b15_2 (dCp N 7 (i + 1) 7 i m) (i : Int) := by
    unfold fX4_remove_P_b15
    rw [z7, w1, w2, w3, dgd_t g, n1, n2, n3]
  generalize dCp N 7 (i + 1) 7 i m = N8 at s8 e7
  have z8 : dG N8 10243 = dG N 10243 := s8.2 _ (by decide) (.inl (by decide))
  have s9 : dShf (dCp N8 8 (i + 1) 8 i m) N 9 i m := dShf_s s8 (by decide) (by decide) hm3
  have e8 : fX4_remove_P_b15_2 N8 (i : Int) = fX4_remove_P_b15_3 (dCp N8 8 (i + 1) 8 i m) (i : Int) := by
    unfold fX4_remove_P_b15_2
    rw [z8, w1, w2, w3, dgd_t g, n1, n2, n3]
  generalize dCp N8 8 (i + 1) 8 i m = N9 at s9 e8
  have z9 : dG N9 10243 = dG N 10243 := s9.2 _ (by decide) (.inl (by decide))
  have s10 : dShf (dCp N9 9 (i + 1) 9 i m) N 10 i m := dShf_s s9 (by decide) (by decide) hm3
  have e9 : fX4_remove_P_b15_3 N9 (i : Int) = fX4_remove_P_b15_4 (dCp N9 9 (i + 1) 9 i m) (i : Int) := by
    unfold fX4_remove_P_b15_3
    rw [z9, w1, w2, w3, dgd_t g, n1, n2, n3]
  generalize dCp N9 9 (i + 1) 9 i m = N10 at s10 e9
  have z10 : dG N10 10243 = dG N 10243 := s10.2 _ (by decide) (.inl (by decide))
  have s11 : dShf (dCp N10 10 (i + 1) 10 i m) N 11 i m := dShf_s s10 (by decide) (by decide) hm3
  have e10 : fX4_remove_P_b15_4 N10 (i : Int) = fX4_remove_P_b15_5 (dCp N10 10 (i + 1) 10 i m) (i : Int) := by
    unfold fX4_remove_P_b15_4
    rw [z10, w1, w2, w3, dgd_t g, n1, n2, n3]
  generalize dCp N10 10 (i + 1) 10 i m = N11 at s11 e10
  have z11 : dG N11 10243 = dG N 10243 := s11.2 _ (by decide) (.inl (by decide))
  have s12 : dShf (dCp N11 11 (i + 1) 11 i m) N 12 i m := dShf_s s11 (by decide) (by decide) hm3
  have e11 : fX4_remove_P_b15_5 N11 (i : Int) = fX4_remove_P_b15_6 (dCp N11 11 (i + 1) 11 i m) (i : Int) := by
    unfold fX4_remove_P_b15_5
    rw [z11, w1, w2, w3, dgd_t g, n1, n2, n3]
  generalize dCp N11 11 (i + 1) 11 i m = N12 at s12 e11
  have z12 : dG N12 10243 = dG N 10243 := s12.2 _ (by decide) (.inl (by decide))
  have s13 : dShf (dCp N12 12 (i + 1) 12 i m) N 13 i m := dShf_s s12 (by decide) (by decide) hm3
  have e12 : fX4_remove_P_b15_6 N12 (i : Int) = fX4_remove_P_b15_7 (dCp N12 12 (i + 1) 12 i m) (i : Int) := by
    unfold fX4_remove_P_b15_6
    rw [z12, w1, w2, w3, dgd_t g, n1, n2, n3]
  generalize dCp N12 12 (i + 1) 12 i m = N13 at s13 e12
  have z13 : dG N13 10243 = dG N 10243 := s13.2 _ (by decide) (.inl (by decide))
  have e13 : fX4_remove_P N (i : Int) = some (dP N13 10243 (dG N 10243 - 1), 0) := by
    unfold fX4_remove_P
    rw [if_neg (by omega), if_pos hi, e7, e8, e9, e10, e11, e12]
    unfold fX4_remove_P_b15_7
    rw [z13, w2]
  refine ⟨_, e13, ?_, (dG_e (by decide)).trans w2, fun k hk h => ?_⟩
  · exact dShf_list s13 hi hs hm
  · rw [dG_n (by omega) (by decide) hk]
    exact s13.2 k hk (by omega)
