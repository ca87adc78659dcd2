/-! ===== a method that is checked keeps what is agreed of it ===== -/
noncomputable def zLv (ρ0 : List Int) (s : zL) (v : Value) : Prop := match s.1 with
  | 0 => ∃ x : Int32, v = .int x ∧ s.2.2.1 ≤ x.toInt ∧ x.toInt ≤ s.2.2.2
  | 1 => ∃ x : Int64, v = .long x ∧ s.2.2.1 ≤ x.toInt ∧ x.toInt ≤ s.2.2.2
  | 2 => v = .ref s.2.1
  | 3 => v = .null
  | 4 => ∃ x : Int32, v = .int x ∧ zAt ρ0 (s.2.1, s.2.2.1) = some x.toInt
  | _ => ∃ x : Int64, v = .long x ∧ zAt ρ0 (s.2.1, s.2.2.1) = some x.toInt
theorem zAt_res {ρ0 e : List Int} {x : sI} {a : Int} (h : zAt (ρ0 ++ e) x = some a) (hx : x.1 ≤ ρ0.length) : zAt ρ0 x = some a := by
  obtain ⟨i, c⟩ := x
  cases i with
  | zero => exact h
  | succ j =>
    have h : ((ρ0 ++ e)[j]?).map (· + c) = some a := h
    have hx : j + 1 ≤ ρ0.length := hx
    rw [List.getElem?_append_left (by omega)] at h
    exact h
theorem zFrC_inv {ρ : List Int} {B : zB} {l u : Int} {k : zB → sI → Bool} (a : Int) (h : zFrC B l u k = true) (hi : zIn ρ B) (h1 : l ≤ a) (h2 : a ≤ u) : ∃ e B1 z, zIn (ρ ++ e) B1 ∧ k B1 z = true ∧ zAt (ρ ++ e) z = some a := by
  unfold zFrC at h
  rcases bif_inv h with ⟨c, h⟩ | ⟨-, h⟩
  · rw [sIEq_d] at c
    have c := of_decide_eq_true c
    refine ⟨[], B, (0, l), ?_, h, ?_⟩
    · rw [List.append_nil]; exact hi
    · show some l = some a
      congr 1
      omega
  · exact zFrB_inv a h hi h1 h2
theorem zV1_inv {ρ ρ0 e0 : List Int} {s : zL} {B : zB} {k : zB → sV → Bool} {v : Value} (h : zV1 s B k = true) (hi : zIn ρ B) (hx : ρ = ρ0 ++ e0) (hv : zLv ρ0 s v) : ∃ e B1 a, zIn (ρ ++ e) B1 ∧ k B1 a = true ∧ zRel (ρ ++ e) a v := by
  obtain ⟨t, o, l, u⟩ := s
  have nil : ∀ a, k B a = true → zRel ρ a v → ∃ e B1 a, zIn (ρ ++ e) B1 ∧ k B1 a = true ∧ zRel (ρ ++ e) a v := fun a h1 h2 => ⟨[], B, a, by rw [List.append_nil]; exact hi, h1, by rw [List.append_nil]; exact h2⟩
  match t, h, hv with
  | 0, h, hv =>
    obtain ⟨x, rfl, h1, h2⟩ := hv
    have h : zFrC B l u (fun B1 x => k B1 (.inl x)) = true := h
    obtain ⟨e, B1, z, a, b, c⟩ := zFrC_inv x.toInt h hi h1 h2
    exact ⟨e, B1, _, a, b, c⟩
  | 1, h, hv =>
    obtain ⟨x, rfl, h1, h2⟩ := hv
    have h : zFrC B l u (fun B1 x => k B1 (.inr (.inl x))) = true := h
    obtain ⟨e, B1, z, a, b, c⟩ := zFrC_inv x.toInt h hi h1 h2
    exact ⟨e, B1, _, a, b, c⟩
  | 2, h, hv =>
    have hv : v = .ref o := hv
    subst hv
    exact nil _ h rfl
  | 3, h, hv =>
    have hv : v = .null := hv
    subst hv
    exact nil _ h trivial
  | 4, h, hv =>
    obtain ⟨x, rfl, h1⟩ := hv
    exact nil _ h (by rw [hx]; exact zAt_ext e0 h1)
  | n + 5, h, hv =>
    obtain ⟨x, rfl, h1⟩ := hv
    exact nil _ h (by rw [hx]; exact zAt_ext e0 h1)
theorem zTl_inv {ρ0 : List Int} {Nl : List (Nat × Value)} : ∀ (ls : List (Nat × zL)) (B : zB) (acc : List (Nat × sV)) (k : zB → List (Nat × sV) → Bool) (e0 : List Int), zTl ls B acc k = true → zIn (ρ0 ++ e0) B → (∀ q ∈ ls, ∃ v, mLk Nl q.1 = some v ∧ zLv ρ0 q.2 v) → zLR (ρ0 ++ e0) acc Nl →
    ∃ e B1 L, zIn (ρ0 ++ e) B1 ∧ k B1 L = true ∧ zLR (ρ0 ++ e) L Nl
  | [], B, acc, k, e0, h, hi, _, hL => ⟨e0, B, acc, hi, h, hL⟩
  | q :: ls, B, acc, k, e0, h, hi, hq, hL => by
    obtain ⟨v, h1, h2⟩ := hq q List.mem_cons_self
    have h : zV1 q.2 B (fun B1 v => zTl ls B1 ((q.1, v) :: acc) k) = true := h
    obtain ⟨e, B1, a, hi1, h, hr⟩ := zV1_inv h hi rfl h2
    rw [List.append_assoc] at hi1 hr
    refine zTl_inv ls B1 _ k (e0 ++ e) h hi1 (fun p hp => hq p (List.mem_cons_of_mem _ hp)) (fun i b hb => ?_)
    rw [sLk_cons] at hb
    rcases bif_inv2 hb with ⟨c, hb⟩ | ⟨-, hb⟩
    · cases hb
      have c : q.1 = i := Nat.eq_of_beq_eq_true c
      rw [← c]
      exact ⟨v, h1, hr⟩
    · obtain ⟨w, h3, h4⟩ := hL i b hb
      refine ⟨w, h3, ?_⟩
      rw [← List.append_assoc]
      exact zRel_ext e h4
theorem zTc_inv {W : zW} {ρ0 : List Int} {N : mMem} : ∀ (ls : List (Nat × zL)) (B : zB) (acc : zO) (k : zB → zO → Bool) (e0 : List Int), zTc ls B acc k = true → zIn (ρ0 ++ e0) B → (∀ q ∈ ls, zLv ρ0 q.2 (mAtk N q.1)) → zOv W (ρ0 ++ e0) acc N N →
    ∃ e B1 ov, zIn (ρ0 ++ (e0 ++ e)) B1 ∧ k B1 ov = true ∧ zOv W (ρ0 ++ (e0 ++ e)) ov N N
  | [], B, acc, k, e0, h, hi, _, hL => ⟨[], B, acc, by rw [List.append_nil]; exact hi, h, by rw [List.append_nil]; exact hL⟩
  | q :: ls, B, acc, k, e0, h, hi, hq, hL => by
    have h2 := hq q List.mem_cons_self
    have h : (Nat.blt q.1 2097152 && zV1 q.2 B fun B1 v => match v with
      | .inl x => zTc ls B1 ((q.1, (.inl x, false)) :: acc) k
      | _ => false) = true := h
    obtain ⟨g, h⟩ := and_inv h
    have g := blt_lt g
    obtain ⟨e, B1, a, hi1, h, hr⟩ := zV1_inv h hi rfl h2
    split at h
    · next x =>
      rw [List.append_assoc] at hi1 hr
      have hL2 := zOv_ext e hL
      rw [List.append_assoc] at hL2
      obtain ⟨e2, B2, ov, a1, a2, a3⟩ := zTc_inv ls B1 _ k (e0 ++ e) h hi1 (fun p hp => hq p (List.mem_cons_of_mem _ hp)) (by
        refine ⟨fun _ _ _ _ => .inr rfl, fun key b d hk => ?_⟩
        rw [zLk_cons] at hk
        rcases bif_inv2 hk with ⟨c, hk⟩ | ⟨-, hk⟩
        · cases hk
          have c : q.1 = key := Nat.eq_of_beq_eq_true c
          rw [← c]
          exact ⟨g, hr, ⟨x, rfl⟩, fun h => (by cases h), fun _ _ _ => rfl⟩
        · exact hL2.2 key b d hk)
      rw [List.append_assoc] at a1 a3
      exact ⟨_, B2, ov, a1, a2, a3⟩
    · cases h
theorem zAs_inv : ∀ (as : List zA) (B : zB) (k : zB → List sV → Bool) (ρ : List Int) (bs : List Value), zAs as B k = true → zIn ρ B → sAll zArV as bs → ∃ e B1 vs, zIn (ρ ++ e) B1 ∧ k B1 vs = true ∧ zSR (ρ ++ e) vs bs
  | [], B, k, ρ, bs, h, hi, hb => by
    rw [sAll_nil hb]
    exact ⟨[], B, [], by rw [List.append_nil]; exact hi, h, trivial⟩
  | a :: as, B, k, ρ, bs, h, hi, hb => by
    obtain ⟨v, m, rfl, h1, hb⟩ := sAll_cons hb
    have h : (Nat.blt a.1 4 && zV1 a B fun B1 v => zAs as B1 fun B2 vs => k B2 (v :: vs)) = true := h
    obtain ⟨g, h⟩ := and_inv h
    have g := blt_lt g
    have h2 : zLv ρ a v := by
      obtain ⟨t, o, l, u⟩ := a
      match t, h1, g with
      | 0, h1, _ => exact h1
      | 1, h1, _ => exact h1
      | 2, h1, _ => exact h1
      | 3, h1, _ => exact h1
      | n + 4, h1, g => have g : n + 4 < 4 := g; omega
    obtain ⟨e, B1, c, hi1, h, hr⟩ := zV1_inv (e0 := []) h hi (List.append_nil ρ).symm h2
    obtain ⟨e2, B2, vs, a1, a2, a3⟩ := zAs_inv as B1 _ (ρ ++ e) m h hi1 hb
    rw [List.append_assoc] at a1 a3
    refine ⟨_, B2, c :: vs, a1, a2, ?_, a3⟩
    rw [← List.append_assoc]
    exact zRel_ext e2 hr
theorem zLok_inv {ρ ρ0 e0 : List Int} {B : zB} {s : zL} {a : sV} {v : Value} (h : zLok B s a = true) (hi : zIn ρ B) (hx : ρ = ρ0 ++ e0) (hr : zRel ρ a v) (hw : zLw ρ0.length s = true) : zLv ρ0 s v := by
  obtain ⟨t, o, l, u⟩ := s
  unfold zLok at h
  split at h
  · next x ht =>
    have ht : t = 0 := ht
    subst ht
    obtain ⟨y, rfl, hy⟩ := zRel_i hr
    exact ⟨y, rfl, zFits_inv h hi hy⟩
  · next x ht =>
    have ht : t = 1 := ht
    subst ht
    obtain ⟨y, rfl, hy⟩ := zRel_l hr
    exact ⟨y, rfl, zFits_inv h hi hy⟩
  · next p ht =>
    have ht : t = 2 := ht
    subst ht
    obtain rfl := zRel_r hr
    have h := Nat.eq_of_beq_eq_true h
    show Value.ref p = .ref o
    rw [show p = o from h.symm]
  · next ht =>
    have ht : t = 3 := ht
    subst ht
    exact zRel_n hr
  · next x ht =>
    have ht : t = 4 := ht
    subst ht
    obtain ⟨y, rfl, hy⟩ := zRel_i hr
    have h := sEqI_eq h
    rw [h, hx] at hy
    have hw : (false || Nat.ble o ρ0.length) = true := hw
    exact ⟨y, rfl, zAt_res hy (Nat.le_of_ble_eq_true (by simpa using hw))⟩
  · next x ht =>
    have ht : t = 5 := ht
    subst ht
    obtain ⟨y, rfl, hy⟩ := zRel_l hr
    have h := sEqI_eq h
    rw [h, hx] at hy
    have hw : (false || Nat.ble o ρ0.length) = true := hw
    exact ⟨y, rfl, zAt_res hy (Nat.le_of_ble_eq_true (by simpa using hw))⟩
  · cases h
/-! ===== measures ===== -/
noncomputable def zMcl (ms : List (Nat × (Nat × Int))) (Nl : List (Nat × Value)) : List (Nat × Int) := ms.map fun m => (m.1, bif Nat.ble 1000 m.2.1 then m.2.2 else match mLk Nl m.2.1 with
  | some (.int x) => x.toInt
  | _ => 0)
noncomputable def zMq (ρ : List Int) (p : Nat × sI) (q : Nat × Int) : Prop := p.1 = q.1 ∧ zAt ρ p.2 = some q.2 ∧ -2147483648 ≤ q.2 ∧ q.2 ≤ 2147483647
theorem zMsC_inv {ρ : List Int} {L : List (Nat × sV)} {Nl : List (Nat × Value)} (hL : zLR ρ L Nl) : ∀ (ms : List (Nat × (Nat × Int))) (k : List (Nat × sI) → Bool), zMsC ms L k = true → ∃ xs, k xs = true ∧ sAll (zMq ρ) xs (zMcl ms Nl)
  | [], k, h => ⟨[], h, trivial⟩
  | m :: ms, k, h => by
    have h : (bif Nat.ble 1000 m.2.1 then sR32 m.2.2 m.2.2 && zMsC ms L (fun r => k ((m.1, (0, m.2.2)) :: r)) else match sLk L m.2.1 with
      | some (.inl x) => zMsC ms L fun r => k ((m.1, x) :: r)
      | _ => false) = true := h
    rcases bif_inv h with ⟨c, h⟩ | ⟨c, h⟩
    · obtain ⟨g, h⟩ := and_inv h
      have g := sR32_inv g
      obtain ⟨xs, h1, h2⟩ := zMsC_inv hL ms _ h
      refine ⟨_, h1, ?_, h2⟩
      refine ⟨rfl, ?_, ?_, ?_⟩ <;> (show _; dsimp only; rw [c, cond_true])
      · rfl
      · exact g.1
      · exact g.2
    · split at h
      · next x hx =>
        obtain ⟨xs, h1, h2⟩ := zMsC_inv hL ms _ h
        obtain ⟨v, e1, e2⟩ := hL _ _ hx
        obtain ⟨y, rfl, hy⟩ := zRel_i e2
        refine ⟨_, h1, ?_, h2⟩
        have b1 := y.le_toInt
        have b2 := y.toInt_lt
        refine ⟨rfl, ?_, ?_, ?_⟩ <;> (show _; dsimp only; rw [c, cond_false, e1])
        · exact hy
        · show _ ≤ y.toInt
          omega
        · show y.toInt ≤ _
          omega
      · cases h
noncomputable def zNv (q : Nat × Int) : Nat := (bif Nat.beq q.1 2 then 2147483648 - q.2 else q.2 + 2147483648).toNat % 8589934592
noncomputable def zNm : List (Nat × Int) → Nat
  | [] => 0
  | q :: r => zNv q * 8589934592 ^ r.length + zNm r
theorem zNm_lt : ∀ r : List (Nat × Int), zNm r < 8589934592 ^ r.length
  | [] => by show 0 < 1; omega
  | q :: r => by
    have ih := zNm_lt r
    have h : zNv q < 8589934592 := Nat.mod_lt _ (by omega)
    show zNv q * 8589934592 ^ r.length + zNm r < 8589934592 ^ (r.length + 1)
    rw [Nat.pow_succ, Nat.mul_comm (8589934592 ^ r.length)]
    have h2 : (zNv q + 1) * 8589934592 ^ r.length ≤ 8589934592 * 8589934592 ^ r.length := Nat.mul_le_mul_right _ h
    rw [Nat.add_mul] at h2
    omega
theorem zEs_inv {ρ : List Int} {B : zB} {x y : sI} {a b : Int} (h : zEs B x y = true) (hi : zIn ρ B) (ha : zAt ρ x = some a) (hb : zAt ρ y = some b) : a = b := by
  unfold zEs at h
  rcases Bool.or_eq_true_iff.mp h with h | h
  · have h := sEqI_eq h
    rw [h, hb] at ha
    exact (Option.some.inj ha).symm
  · obtain ⟨l1, u1, l2, u2, a1, a2, b1, b2, h⟩ := zRg_2 h hi ha hb
    simp only [Bool.and_eq_true, sIEq_d, decide_eq_true_eq] at h
    omega
theorem zNv_lt {k : Nat} {a b : Int} (ha : -2147483648 ≤ a) (ha2 : a ≤ 2147483647) (hb : -2147483648 ≤ b) (hb2 : b ≤ 2147483647) (h : bif Nat.beq k 2 then a < b else b < a) : zNv (k, b) < zNv (k, a) := by
  unfold zNv
  show (bif Nat.beq k 2 then 2147483648 - b else b + 2147483648).toNat % _ < (bif Nat.beq k 2 then 2147483648 - a else a + 2147483648).toNat % _
  cases c : Nat.beq k 2 with
  | true =>
    rw [c, cond_true] at h
    rw [cond_true, cond_true]
    omega
  | false =>
    rw [c, cond_false] at h
    rw [cond_false, cond_false]
    omega
theorem zDec_inv {ρ : List Int} {B : zB} (hi : zIn ρ B) : ∀ (o n : List (Nat × sI)) (a b : List (Nat × Int)), zDec B o n = true → sAll (zMq ρ) o a → sAll (zMq ρ) n b → zNm b < zNm a ∧ b.length = a.length
  | [], n, a, b, h, _, _ => by cases n <;> cases h
  | p :: o, [], a, b, h, _, _ => by cases h
  | p :: o, q :: n, a, b, h, ha, hb => by
    obtain ⟨u, a, rfl, ⟨u1, u2, u3, u4⟩, ha9⟩ := sAll_cons ha
    obtain ⟨v, b, rfl, ⟨v1, v2, v3, v4⟩, hb9⟩ := sAll_cons hb
    have h : (Nat.beq p.1 q.1 && (((bif Nat.beq p.1 2 then zLs B p.2 q.2 else zLs B q.2 p.2) && Nat.beq o.length n.length) || (zEs B p.2 q.2 && zDec B o n))) = true := h
    obtain ⟨g, h⟩ := and_inv h
    have g := Nat.eq_of_beq_eq_true g
    obtain ⟨uk, ua⟩ := u
    obtain ⟨vk, vb⟩ := v
    have u1 : p.1 = uk := u1
    have v1 : q.1 = vk := v1
    have hk : vk = uk := by omega
    subst hk
    show zNv (vk, vb) * 8589934592 ^ b.length + zNm b < zNv (vk, ua) * 8589934592 ^ a.length + zNm a ∧ b.length + 1 = a.length + 1
    rcases Bool.or_eq_true_iff.mp h with h | h
    · obtain ⟨h1, h2⟩ := and_inv h
      have h2 := Nat.eq_of_beq_eq_true h2
      have l1 := sAll_len ha9
      have l2 := sAll_len hb9
      have hlen : b.length = a.length := by omega
      have hlt : zNv (vk, vb) < zNv (vk, ua) := by
        refine zNv_lt u3 u4 v3 v4 ?_
        rw [u1] at h1
        cases c : Nat.beq vk 2 with
        | true =>
          rw [c, cond_true] at h1
          exact zLs_inv h1 hi u2 v2
        | false =>
          rw [c, cond_false] at h1
          exact zLs_inv h1 hi v2 u2
      have hb8 := zNm_lt b
      rw [hlen] at hb8 ⊢
      have h3 : (zNv (vk, vb) + 1) * 8589934592 ^ a.length ≤ zNv (vk, ua) * 8589934592 ^ a.length := Nat.mul_le_mul_right _ hlt
      rw [Nat.add_mul] at h3
      exact ⟨by omega, rfl⟩
    · obtain ⟨h1, h2⟩ := and_inv h
      have h1 := zEs_inv h1 hi u2 v2
      have h1 : ua = vb := h1
      subst h1
      obtain ⟨h3, h4⟩ := zDec_inv hi o n a b h2 ha9 hb9
      rw [h4]
      exact ⟨by omega, rfl⟩
/-! ===== before a place ===== -/
section ZSO
variable {W : zW} {X : mMem → mMem → Prop} {R : zR} {T : Nat → List mE} {I : Nat → mI} {XN : Nat → Nat} {XF : Nat → Nat → Int32} {sX : Nat → Nat → sI} {Ne : mMem}
theorem zPr1_inv {N : mMem} (hW : zWok W) (hR : zRoom W R.2.1 Ne) : ∀ (ks : List Nat) (M : zM) (B : zB) (k : zB → zM → Bool) (ρ : List Int), zPr1 W R ks M B k = true → zIn ρ B → zMR W X R.1 T I XN XF Ne ρ M N → ∃ e B1 M1, zIn (ρ ++ e) B1 ∧ k B1 M1 = true ∧ zMR W X R.1 T I XN XF Ne (ρ ++ e) M1 N
  | [], M, B, k, ρ, h, hi, hM => ⟨[], B, M, by rw [List.append_nil]; exact hi, h, by rw [List.append_nil]; exact hM⟩
  | key :: ks, M, B, k, ρ, h, hi, hM => by
    have h : (Nat.blt key 2097152 && zRead W R M B key fun B1 M1 _ => zPr1 W R ks M1 B1 k) = true := h
    obtain ⟨g, h⟩ := and_inv h
    obtain ⟨e, B1, M1, w, hi1, h, hM1, -⟩ := zRead_inv hW h hi (blt_lt g) hM hR
    obtain ⟨e2, B2, M2, a, b, c⟩ := zPr1_inv hW hR ks M1 B1 k (ρ ++ e) h hi1 hM1
    rw [List.append_assoc] at a c
    exact ⟨_, B2, M2, a, b, c⟩
theorem zPr2_inv {ρ : List Int} {M : zM} {N : mMem} (hM : zMR W X R.1 T I XN XF Ne ρ M N) : ∀ (ks : List (Nat × Int)) (B : zB) (k : zB → Bool), zPr2 ks M B k = true → zIn ρ B → ∃ B1, zIn ρ B1 ∧ k B1 = true
  | [], B, k, h, hi => ⟨B, hi, h⟩
  | q :: ks, B, k, h, hi => by
    have h : (match zLk M.1 q.1 with
      | some (.inl x, _) => zLt B x (0, q.2) fun B1 _ => zPr2 ks M B1 k
      | _ => false) = true := h
    split at h
    · next x d hx =>
      obtain ⟨N0, -, -, ho, -, -⟩ := id hM
      obtain ⟨-, b2, -⟩ := ho.2 _ _ _ hx
      obtain ⟨y, -, hy⟩ := zRel_i b2
      obtain ⟨B1, hi1, h⟩ := zLt_inv h hi hy (zAt_0 ρ q.2)
      exact zPr2_inv hM ks B1 k h hi1
    · cases h
theorem zPr3_inv {ρ : List Int} {L : List (Nat × sV)} {Nl : List (Nat × Value)} (hL : zLR ρ L Nl) : ∀ (ks : List Nat) (B : zB) (k : zB → Bool), zPr3 ks L B k = true → zIn ρ B → ∃ B1, zIn ρ B1 ∧ k B1 = true
  | [], B, k, h, hi => ⟨B, hi, h⟩
  | q :: ks, B, k, h, hi => by
    have h : (match sLk L q with
      | some (.inl x) => zCst B x fun B1 _ => zPr3 ks L B1 k
      | _ => false) = true := h
    split at h
    · next x hx =>
      obtain ⟨v, -, e2⟩ := hL _ _ hx
      obtain ⟨y, -, hy⟩ := zRel_i e2
      obtain ⟨B1, hi1, h⟩ := zCst_inv h hi hy
      exact zPr3_inv hL ks B1 k h hi1
    · cases h
theorem zPre_inv {hd : zH} {ρ : List Int} {L : List (Nat × sV)} {M : zM} {B : zB} {k : zB → zM → Bool} {Nl : List (Nat × Value)} {N : mMem} (hW : zWok W) (hR : zRoom W R.2.1 Ne) (h : zPre W R hd L M B k = true) (hi : zIn ρ B) (hL : zLR ρ L Nl) (hM : zMR W X R.1 T I XN XF Ne ρ M N) :
    ∃ e B1 M1, zIn (ρ ++ e) B1 ∧ k B1 M1 = true ∧ zMR W X R.1 T I XN XF Ne (ρ ++ e) M1 N := by
  obtain ⟨e, B1, M1, hi1, h, hM1⟩ := zPr1_inv hW hR _ _ _ _ _ h hi hM
  obtain ⟨B2, hi2, h⟩ := zPr2_inv hM1 _ _ _ h hi1
  obtain ⟨B3, hi3, h⟩ := zPr3_inv (zLR_ext e hL) _ _ _ h hi2
  exact ⟨e, B3, M1, hi3, h, hM1⟩
theorem zRl_le {c a b : Nat} {N N1 : mMem} (h : zRl W X c a N N1) (hab : a ≤ b) : zRl W X c b N N1 := by
  obtain ⟨r1, r2, r3, r4, r5, r6⟩ := h
  refine ⟨r1, r2, r3, r4, fun key h1 h2 => ?_, r6⟩
  obtain ⟨x, y, a1, a2, a3⟩ := r5 key h1 h2
  exact ⟨x, y, a1, a2, by omega⟩
theorem zRt_inv {ρ : List Int} {B : zB} {r : Option (Bool × (Int × Int))} {a : Option sV} {v : Option Value} (hi : zIn ρ B) (h : zRt B r a = true) (hr : zOR ρ a v) : zAnV r v := by
  unfold zRt at h
  split at h
  · cases v with
    | none => rfl
    | some v => exact hr.elim
  · next q x =>
    cases v with
    | none => exact hr.elim
    | some v =>
      obtain ⟨y, rfl, hy⟩ := zRel_i hr
      exact ⟨y, rfl, zFits_inv h hi hy⟩
  · next q x =>
    cases v with
    | none => exact hr.elim
    | some v =>
      obtain ⟨y, rfl, hy⟩ := zRel_l hr
      exact ⟨y, rfl, zFits_inv h hi hy⟩
  · cases h
/-- a template as it is met -/
noncomputable def zMet (W : zW) (X : mMem → mMem → Prop) (c : Nat) (ρ0 : List Int) (N : mMem) (t : zT) (Nl : List (Nat × Value)) (N1 : mMem) : Prop :=
  (∀ q ∈ t.2.1, ∃ v, mLk Nl q.1 = some v ∧ zLv ρ0 q.2 v) ∧ (∀ q ∈ t.2.2.1, zLv ρ0 q.2 (mAtk N1 q.1)) ∧ zGood W N1 ∧ zRl W X c t.2.2.2.1 N N1
theorem zEnd_inv {ov0 : zO} {i : zS} {tms : List zT} {hd : Nat → zH} {old : Option (List (Nat × sI))} {ρ0 e0 : List Int} {B : zB} {r : zRes} {s : mRes} (hW : zWok W) (hR : zRoom W R.2.1 Ne) (hRi : R.1 = zSq i) (htw : ∀ t ∈ tms, zTw ρ0.length t = true) (h0 : ∀ key x d, zLk ov0 key = some (.inl x, d) → zRel ρ0 (.inl x) (mAtk Ne key)) (h : zEnd W R ov0 i tms hd old B r = true) (hi : zIn (ρ0 ++ e0) B) (hr : zRR W X R.1 T I XN XF Ne (ρ0 ++ e0) r s) :
    match s with
      | .inr z => zGood W z.2 ∧ zRl W X (zSq i) (zSk i) Ne z.2 ∧ zAnV (zSr i) z.1 ∧ ∀ e ∈ zSe i, ∃ x y : Int32, mAtk Ne e.1 = .int x ∧ mAtk z.2 e.1 = .int y ∧ y.toInt = x.toInt + e.2
      | .inl v => v.2.2.1 = [] ∧ ∃ t ∈ tms, t.1 = v.1 ∧ zMet W X (zSq i) ρ0 Ne t v.2.1 v.2.2.2 ∧ ∀ o a, old = some o → sAll (zMq (ρ0 ++ e0)) o a → zNm (zMcl t.2.2.2.2 v.2.1) < zNm a := by
  cases r with
  | inr w => cases s with
    | inl v => exact hr.elim
    | inr z =>
      obtain ⟨h1, h⟩ := and_inv h
      obtain ⟨h2, h3⟩ := and_inv h
      obtain ⟨h3, h4⟩ := and_inv h3
      have h1 := Nat.le_of_ble_eq_true h1
      have hg := zFl_inv hW h2 hi hr.2
      obtain ⟨N0, -, -, ho, hrl, -⟩ := hr.2
      rw [hRi] at hrl
      refine ⟨hg, zRl_le hrl h1, zRt_inv hi h3 hr.1, fun e he => ?_⟩
      have q := List.all_eq_true.mp h4 e he
      unfold zExk at q
      split at q
      · next x d1 y d2 hx hy =>
        have q := sEqI_eq q
        obtain ⟨u, hu, hu2⟩ := zRel_i (h0 _ _ _ hx)
        obtain ⟨-, b2, -⟩ := ho.2 _ _ _ hy
        obtain ⟨v, hv, hv2⟩ := zRel_i b2
        have hu3 := zAt_ext e0 hu2
        have hu4 := zAt_x x e.2 hu3
        rw [q, hu4] at hv2
        have hv2 := Option.some.inj hv2
        exact ⟨u, v, hu, hv, by omega⟩
      · cases q
  | inl y => cases s with
    | inr z => exact hr.elim
    | inl v =>
      obtain ⟨pc, L, S, M⟩ := y
      obtain ⟨pc2, Nl, V, K⟩ := v
      obtain ⟨hp, hL, hS, hM⟩ := hr
      have hp : pc = pc2 := hp
      cases S with
      | cons a S => cases h
      | nil =>
        have hV := sAll_nil hS
        refine ⟨hV, ?_⟩
        have h : (zPre W R (hd pc) L M B fun B1 M1 => zFl W B1 M1.1 && zGsT (zGs B1 L tms) tms (fun t => zQk B1 L t) (zTm B1 (pc, L, [], M1) old)) = true := h
        obtain ⟨e, B1, M1, hi1, h, hM1⟩ := zPre_inv hW hR h hi hL hM
        obtain ⟨h1, h⟩ := and_inv h
        have hg := zFl_inv hW h1 hi1 hM1
        obtain ⟨t, ht, h⟩ := zGsT_inv h
        obtain ⟨g1, h⟩ := and_inv h
        obtain ⟨g2, h⟩ := and_inv h
        obtain ⟨g3, h⟩ := and_inv h
        obtain ⟨g4, h⟩ := and_inv h
        obtain ⟨w1, w2⟩ := and_inv (htw t ht)
        have hL1 := zLR_ext e hL
        rw [List.append_assoc] at hi1 hM1 hL1
        obtain ⟨N0, hg0, hsh, ho, hrl, -⟩ := id hM1
        rw [hRi] at hrl
        refine ⟨t, ht, (Nat.eq_of_beq_eq_true g1).trans hp, ⟨fun q hq => ?_, fun q hq => ?_, hg, zRl_le hrl (Nat.le_of_ble_eq_true g4)⟩, fun o a ho2 ha => ?_⟩
        · have g := List.all_eq_true.mp g2 q hq
          dsimp only at g
          split at g
          · next b hb =>
            obtain ⟨v, e1, e2⟩ := hL1 _ _ hb
            exact ⟨v, e1, zLok_inv g hi1 rfl e2 (List.all_eq_true.mp w1 q hq)⟩
          · cases g
        · have g := List.all_eq_true.mp g3 q hq
          dsimp only at g
          split at g
          · next b hb =>
            obtain ⟨-, b2, -⟩ := ho.2 _ b.1 b.2 hb
            exact zLok_inv g hi1 rfl b2 (List.all_eq_true.mp w2 q hq)
          · cases g
        · subst ho2
          obtain ⟨xs, h, hq⟩ := zMsC_inv hL1 _ _ h
          have ha2 : sAll (zMq (ρ0 ++ (e0 ++ e))) o a := by
            rw [← List.append_assoc]
            exact sAll_mono (fun p q hpq => ⟨hpq.1, zAt_ext e hpq.2.1, hpq.2.2⟩) ha
          exact (zDec_inv hi1 o xs a _ h ha2 hq).1
end ZSO
section ZSQ
variable {W : zW} {X : mMem → mMem → Prop} {T : Nat → List mE} {I : Nat → mI} {XN : Nat → Nat} {XF : Nat → Nat → Int32} {sX : Nat → Nat → sI}
theorem zChk_snd {mi fuel : Nat} {ns : Bool} {i : zS} {tms : List zT} {stop : Nat → Bool} {hd0 : zH} {hd : Nat → zH} (hW : zWok W) (hX : zXok W X (zSq i)) (hv : ∀ mi, ∀ i ∈ zWi W mi, zVal W X T I XN XF mi i) (hsX : zSx XN XF sX)
    (h : zChk T I W ns sX mi fuel i tms stop hd0 hd = true) : zVal W X T I XN XF mi i := by
  intro N bs hx0 hg ha hcell hroom
  unfold zChk at h
  obtain ⟨e1, B, vs, hi, h, hvs⟩ := zAs_inv (zSa i) (0, ([], [])) _ [] bs h ⟨rfl, rfl, fun k q a hq ha => by
    have := zAt_le ha
    have : k = 0 := by simpa using this
    subst this
    cases hq
    cases ha
    exact ⟨Int.le_refl _, Int.le_refl _⟩, fun q hq => by cases hq⟩ ha
  obtain ⟨e2, B1, ov, hi1, h, hov⟩ := zTc_inv (W := W) (ρ0 := []) (N := N) _ _ _ _ ([] ++ e1) h (by rw [List.nil_append]; exact hi) (fun q hq => by
    obtain ⟨c, hc, rfl⟩ := List.mem_map.mp hq
    exact hcell c hc) ⟨fun _ _ _ _ => .inr rfl, fun key a d hk => by cases hk⟩
  rw [List.nil_append, List.nil_append] at hi1 hov
  have hvs := zSR_ext e2 hvs
  rw [List.nil_append] at hvs
  generalize hρ : e1 ++ e2 = ρ0 at *
  obtain ⟨h0, hT⟩ := and_inv h
  have hlen : B1.1 = ρ0.length := hi1.1
  have htw : ∀ t ∈ tms, zTw ρ0.length t = true := fun t ht => by
    have := List.all_eq_true.mp hT t ht
    rw [← hlen]
    exact (and_inv this).1
  have h00 : ∀ key x d, zLk ov key = some (.inl x, d) → zRel ρ0 (.inl x) (mAtk N key) := fun key x d hk => (hov.2 key _ d hk).2.1
  have loops : ∀ n, ∀ t ∈ tms, ∀ (Nl : List (Nat × Value)) (N1 : mMem), zNm (zMcl t.2.2.2.2 Nl) = n → zMet W X (zSq i) ρ0 N t Nl N1 →
      ∃ z, mRuns T I XN XF (zSf i) (zSo i) mi (t.1, Nl, [], N1) z ∧ zGood W z.2 ∧ zRl W X (zSq i) (zSk i) N z.2 ∧ zAnV (zSr i) z.1 ∧ ∀ e ∈ zSe i, ∃ x y : Int32, mAtk N e.1 = .int x ∧ mAtk z.2 e.1 = .int y ∧ y.toInt = x.toInt + e.2 := by
    intro n
    induction n using Nat.strongRecOn with
    | ind n ih =>
      intro t ht Nl N1 hn hmet
      have h := (and_inv (List.all_eq_true.mp hT t ht)).2
      obtain ⟨m1, m2, m3, m4⟩ := hmet
      obtain ⟨e3, B2, L, hi2, h, hL⟩ := zTl_inv (ρ0 := ρ0) t.2.1 B1 [] _ [] h (by rw [List.append_nil]; exact hi1) m1 (fun i a hh => by cases hh)
      obtain ⟨e4, B3, ov3, hi3, h, hov3⟩ := zTc_inv (W := W) (ρ0 := ρ0) (N := N1) _ _ _ _ e3 h hi2 m2 ⟨fun _ _ _ _ => .inr rfl, fun key a d hk => by cases hk⟩
      have hL := zLR_ext e4 hL
      rw [List.append_assoc] at hL
      obtain ⟨old, h, hold⟩ := zMsC_inv hL _ _ h
      have hM : zMR W X (zSq i) T I XN XF N (ρ0 ++ (e3 ++ e4)) (ov3, (t.2.2.2.1, none)) N1 := ⟨N1, m3, m3.1, hov3, m4, zDet_none⟩
      obtain ⟨e5, B4, r, s, hi4, hk, hrr, hs⟩ := z_go (R := (zSq i, (zSk i, ns))) hW hX hroom hv hsX stop _ _ _ _ _ _ _ _ h hi3 (fun hx => by cases hx) (t.1, Nl, [], N1) ⟨rfl, hL, trivial, hM⟩
      rw [List.append_assoc] at hi4 hrr
      have q := zEnd_inv (R := (zSq i, (zSk i, ns))) hW hroom rfl htw h00 hk hi4 hrr
      cases s with
      | inr z => exact ⟨z, hs, q⟩
      | inl v =>
        obtain ⟨pc2, Nl2, V, N2⟩ := v
        obtain ⟨q1, t2, ht2, q2, q3, q4⟩ := q
        have q1 : V = [] := q1
        have q2 : t2.1 = pc2 := q2
        subst q1
        subst q2
        have hlt := q4 old _ rfl (sAll_mono (fun p q hpq => ⟨hpq.1, by rw [← List.append_assoc]; exact zAt_ext e5 hpq.2.1, hpq.2.2⟩) hold)
        rw [hn] at hlt
        obtain ⟨z, z1, z2⟩ := ih _ hlt t2 ht2 Nl2 N2 rfl q3
        exact ⟨z, hs.2 z z1, z2⟩
  have hM : zMR W X (zSq i) T I XN XF N ρ0 (ov, (0, none)) N := ⟨N, hg, hg.1, hov, ⟨fun _ => rfl, rfl, rfl, fun _ _ _ => rfl, fun key h1 h2 => by
    obtain ⟨x, e1, e2⟩ := hroom key h1 h2
    exact ⟨x, x, e1, e1, by omega⟩, hx0⟩, zDet_none⟩
  have hL0 := zArgs_rel 0 hvs
  obtain ⟨e3, B2, M2, hi2, h0, hM2⟩ := zPre_inv (R := (zSq i, (zSk i, ns))) hW hroom h0 hi1 hL0 hM
  obtain ⟨e5, B4, r, s, hi4, hk, hrr, hs⟩ := z_go (R := (zSq i, (zSk i, ns))) hW hX hroom hv hsX stop _ _ _ _ _ _ _ _ h0 hi2 (fun hx => by cases hx) (0, lv_args 0 bs, [], N) ⟨rfl, zLR_ext e3 hL0, trivial, hM2⟩
  rw [List.append_assoc] at hi4 hrr
  have q := zEnd_inv (R := (zSq i, (zSk i, ns))) hW hroom rfl htw h00 hk hi4 hrr
  cases s with
  | inr z => exact ⟨z.1, z.2, hs, q.1, q.2.1, q.2.2.1, q.2.2.2⟩
  | inl v =>
    obtain ⟨pc2, Nl2, V, N2⟩ := v
    obtain ⟨q1, t2, ht2, q2, q3, -⟩ := q
    have q1 : V = [] := q1
    have q2 : t2.1 = pc2 := q2
    subst q1
    subst q2
    obtain ⟨z, z1, z2⟩ := loops _ t2 ht2 Nl2 N2 rfl q3
    exact ⟨z.1, z.2, hs.2 z z1, z2.1, z2.2.1, z2.2.2.1, z2.2.2.2⟩
end ZSQ
