/-! ===== the box machine's call of a method that is agreed on ===== -/
noncomputable def zOR (ρ : List Int) (a : Option sV) (v : Option Value) : Prop := match a, v with
  | none, none => True
  | some a, some v => zRel ρ a v
  | _, _ => False
noncomputable def zXs (XN : Nat → Nat) (XF : Nat → Nat → Int32) (xs : Bool) (ρ : List Int) : Prop := xs = true → ∃ i : Nat, zAt ρ (1, 0) = some (i : Int) ∧ i + 4 < XN 0 ∧ ∀ c, c ≤ 4 → zAt ρ (2 + c, 0) = some (XF 0 (i + c)).toInt
theorem zXs_ext {XN : Nat → Nat} {XF : Nat → Nat → Int32} {xs : Bool} {ρ : List Int} (e : List Int) (h : zXs XN XF xs ρ) : zXs XN XF xs (ρ ++ e) := fun hx => by
  obtain ⟨i, h1, h2, h3⟩ := h hx
  exact ⟨i, zAt_ext e h1, h2, fun c hc => zAt_ext e (h3 c hc)⟩
section ZCC
variable {W : zW} {X : mMem → mMem → Prop} {R : zR} {T : Nat → List mE} {I : Nat → mI} {XN : Nat → Nat} {XF : Nat → Nat → Int32} {Ne : mMem}
theorem zAns_inv {ρ : List Int} {B : zB} {mi : Nat} {i : zS} {M : zM} {ov : zO} {k : zRet} {N N1 : mMem} {v : Option Value} {bs : List Value} (h : zAns B mi i M ov k = true) (hi : zIn ρ B) (hd : zDet T I XN XF ρ M.2.2 N) (hq : zSq i = 1 → N1 = N) (hv : zAnV (zSr i) v)
    (ha : sAll zArV (zSa i) bs) (hr : mRuns T I XN XF (zSf i) (zSo i) mi (0, lv_args 0 bs, [], N) (v, N1)) :
    ∃ e B1 a d, zIn (ρ ++ e) B1 ∧ k B1 (a, (ov, (M.2.1 + zSk i, d))) = true ∧ zOR (ρ ++ e) a v ∧ zDet T I XN XF (ρ ++ e) d N1 := by
  have hkeep : zDet T I XN XF ρ (bif Nat.beq (zSq i) 1 then M.2.2 else none) N1 := by
    cases c : Nat.beq (zSq i) 1 with
    | false => exact zDet_none
    | true => rw [cond_true, hq (Nat.eq_of_beq_eq_true c)]; exact hd
  unfold zAns at h
  unfold zAnV at hv
  split at h
  · next hs =>
    rw [hs] at hv
    have hv : v = none := hv
    subst hv
    refine ⟨[], B, none, _, ?_, h, trivial, ?_⟩
    · rw [List.append_nil]; exact hi
    · rw [List.append_nil]; exact hkeep
  · next q hs =>
    rw [hs] at hv
    obtain ⟨x, rfl, h1, h2⟩ := hv
    obtain ⟨e, B1, z, a, b, c⟩ := zFrB_inv x.toInt h hi h1 h2
    exact ⟨e, B1, _, _, a, b, c, zDet_ext e hkeep⟩
  · next q hs =>
    rw [hs] at hv
    obtain ⟨x, rfl, h1, h2⟩ := hv
    rcases bif_inv h with ⟨c, h⟩ | ⟨-, h⟩
    · obtain ⟨-, c⟩ := and_inv c
      obtain ⟨c1, c2⟩ := and_inv c
      have hN := hq (Nat.eq_of_beq_eq_true c1)
      subst hN
      have hbs : bs = [.ref 525] := by
        unfold zS1 at c2
        split at c2
        · next a ha2 =>
          rw [ha2] at ha
          obtain ⟨g1, g2⟩ := and_inv c2
          obtain ⟨v1, m, rfl, h5, h6⟩ := sAll_cons ha
          rw [sAll_nil h6]
          unfold zArV at h5
          rw [Nat.eq_of_beq_eq_true g1] at h5
          have h5 : v1 = .ref a.2.1 := h5
          rw [h5, Nat.eq_of_beq_eq_true g2]
        · cases c2
      rw [hbs] at hr
      have hnew : ∀ (e : List Int) (z : sI), zAt (ρ ++ e) z = some x.toInt → zDet T I XN XF (ρ ++ e) (some (z, (mi, (zSf i, zSo i)))) N1 := fun e z hz x1 m f l hd2 => by
        cases hd2
        exact ⟨x, hz, hr⟩
      have fresh : (zFr B q.1 q.2 fun B1 x => k B1 (some (.inl x), (ov, (M.2.1 + zSk i, some (x, (mi, (zSf i, zSo i))))))) = true → ∃ e B1 a d, zIn (ρ ++ e) B1 ∧ k B1 (a, (ov, (M.2.1 + zSk i, d))) = true ∧ zOR (ρ ++ e) a (some (.int x)) ∧ zDet T I XN XF (ρ ++ e) d N1 := fun h => by
        obtain ⟨e, B1, z, a, b, c⟩ := zFrB_inv x.toInt h hi h1 h2
        exact ⟨e, B1, _, _, a, b, c, hnew e z c⟩
      split at h
      · next x0 m f l hm =>
        rcases bif_inv h with ⟨g, h⟩ | ⟨-, h⟩
        · obtain ⟨g1, g⟩ := and_inv g
          obtain ⟨g2, g3⟩ := and_inv g
          obtain ⟨v0, e1, e2⟩ := hd _ _ _ _ hm
          rw [Nat.eq_of_beq_eq_true g1, Nat.eq_of_beq_eq_true g2, Nat.eq_of_beq_eq_true g3] at e2
          have e3 := mRuns_eq e2 hr
          have e4 : v0 = x := by
            have := congrArg Prod.fst e3
            exact Value.int.inj (Option.some.inj this)
          subst e4
          refine ⟨[], B, _, _, ?_, h, ?_, ?_⟩
          · rw [List.append_nil]; exact hi
          · rw [List.append_nil]; exact e1
          · rw [List.append_nil]; exact hd
        · exact fresh h
      · exact fresh h
    · obtain ⟨e, B1, z, a, b, c⟩ := zFrB_inv x.toInt h hi h1 h2
      exact ⟨e, B1, _, _, a, b, c, zDet_ext e hkeep⟩
theorem zAgr_inv {ρ : List Int} {B : zB} {M : zM} {mi fr lo : Nat} {as : List sV} {k : zRet} {bs : List Value} {N : mMem} (hW : zWok W) (hX : zXok W X R.1) (hR : zRoom W R.2.1 Ne) (hi : zIn ρ B) (hS : zSR ρ as bs) (hM : zMR W X R.1 T I XN XF Ne ρ M N) (hg : zGood W N) :
    ∀ (is : List zS), (∀ i ∈ is, zVal W X T I XN XF mi i) → zAgr W R B M mi fr lo as k is = true →
    ∃ e B1 w z, zIn (ρ ++ e) B1 ∧ k B1 w = true ∧ zOR (ρ ++ e) w.1 z.1 ∧ zMR W X R.1 T I XN XF Ne (ρ ++ e) w.2 z.2 ∧ mRuns T I XN XF fr lo mi (0, lv_args 0 bs, [], N) z
  | [], _, h => by cases h
  | i :: is, hv, h => by
    have ih := zAgr_inv hW hX hR hi hS hM hg is (fun j hj => hv j (List.mem_cons_of_mem _ hj)) (k := k) (fr := fr) (lo := lo) (mi := mi)
    have h : (bif zMat W R B M i fr lo as then zEx M.1 (zSe i) (zKp W (zSq i) M.1) (fun ov => zAns B mi i M ov k) else zAgr W R B M mi fr lo as k is) = true := h
    rcases bif_inv h with ⟨g, h⟩ | ⟨-, h⟩
    · obtain ⟨g1, g⟩ := and_inv g
      obtain ⟨g2, g⟩ := and_inv g
      obtain ⟨g3, g⟩ := and_inv g
      obtain ⟨g4, g⟩ := and_inv g
      obtain ⟨g5, g6⟩ := and_inv g
      have g3 := Nat.le_of_ble_eq_true g3
      have g4 := Nat.le_of_ble_eq_true g4
      have g5 := Nat.le_of_ble_eq_true g5
      obtain ⟨N0, hg0, hs, ho, hrl, hd⟩ := hM
      have ha := zArs_inv hi g1 hS
      have hcell : ∀ c ∈ zSc i, ∃ x : Int32, mAtk N c.1 = .int x ∧ c.2.1 ≤ x.toInt ∧ x.toInt ≤ c.2.2 := fun c hc => by
        have q := List.all_eq_true.mp g2 c hc
        unfold zCe at q
        split at q
        · next x d hx =>
          obtain ⟨-, b2, -⟩ := ho.2 _ _ _ hx
          obtain ⟨y, hy, hy2⟩ := zRel_i b2
          exact ⟨y, hy, zFits_inv q hi hy2⟩
        · cases q
      have hroom : zRoom W (zSk i) N := fun key h1 h2 => by
        obtain ⟨x, y, a1, a2, a3⟩ := hrl.2.2.2.2.1 key h1 h2
        obtain ⟨x2, b1, b2⟩ := hR key h1 h2
        rw [a1] at b1
        cases b1
        refine ⟨y, a2, ?_⟩
        omega
      obtain ⟨v, N1, r1, r2, r3, r4, r5⟩ := hv i List.mem_cons_self N bs (hX.2.2 _ _ hrl.2.2.2.2.2) hg ha hcell hroom
      have ho1 := zOv_kp ho r3.2.2.2.1
      obtain ⟨o1, h, ho2⟩ := zEx_inv ho (zSe i) _ _ r5 h ho1
      obtain ⟨e, B1, a, d, i1, i2, i3, i4⟩ := zAns_inv h hi hd r3.1 r4 ha r1
      exact ⟨e, B1, _, (v, N1), i1, i2, i3, ⟨N1, r2, r2.1, zOv_ext e ho2, zRl_trans hW hX g6 hrl r3, i4⟩, mRuns_more r1 g3 g4⟩
    · exact ih h
end ZCC
