/-! ===== a run of the box machine from any place ===== -/
noncomputable def zB0 : zB := (0, ([], []))
theorem zIn_0 : zIn [] zB0 := ⟨rfl, rfl, fun k q a hq ha => by
    have := zAt_le ha
    have : k = 0 := by simpa using this
    subst this
    cases hq
    cases ha
    exact ⟨Int.le_refl _, Int.le_refl _⟩, fun q hq => by cases hq⟩
noncomputable def zRun (T : Nat → List mE) (I : Nat → mI) (W : zW) (R : zR) (sX : Nat → Nat → sI) (stop : Nat → Bool) (f fr lo mi pc : Nat) (ls cs : List (Nat × zL)) (K : List (Nat × sV) → zO → zK) : Bool :=
  zTl ls zB0 [] fun B L => zTc cs B [] fun B1 ov => zGo T I W R false sX stop f fr lo mi (pc, L, [], (ov, (0, none))) B1 (K L ov)
section ZFR
variable {W : zW} {X : mMem → mMem → Prop} {R : zR} {T : Nat → List mE} {I : Nat → mI} {XN : Nat → Nat} {XF : Nat → Nat → Int32} {sX : Nat → Nat → sI}
theorem zRl_0 {c k : Nat} {N : mMem} (hx : X N N) (hroom : zRoom W k N) : zRl W X c 0 N N := ⟨fun _ => rfl, rfl, rfl, fun _ _ _ => rfl, fun key h1 h2 => by
    obtain ⟨x, e1, e2⟩ := hroom key h1 h2
    exact ⟨x, x, e1, e1, by omega⟩, hx⟩
theorem zRun_snd {stop : Nat → Bool} {f fr lo mi pc : Nat} {ls cs : List (Nat × zL)} {K : List (Nat × sV) → zO → zK} {N : mMem} {Nl : List (Nat × Value)} (h : zRun T I W R sX stop f fr lo mi pc ls cs K = true) (hW : zWok W) (hX : zXok W X R.1) (hv : ∀ mi, ∀ i ∈ zWi W mi, zVal W X T I XN XF mi i) (hsX : zSx XN XF sX)
    (hx0 : X N N) (hg : zGood W N) (hroom : zRoom W R.2.1 N) (hl : ∀ q ∈ ls, ∃ v, mLk Nl q.1 = some v ∧ zLv [] q.2 v) (hc : ∀ q ∈ cs, zLv [] q.2 (mAtk N q.1)) :
    ∃ ρ B L ov r s, zIn ρ B ∧ K L ov B r = true ∧ zLR ρ L Nl ∧ zOv W ρ ov N N ∧ zRR W X R.1 T I XN XF N ρ r s ∧ match s with
      | .inl v => stop v.1 = true ∧ ∀ z, mRuns T I XN XF fr lo mi v z → mRuns T I XN XF fr lo mi (pc, Nl, [], N) z
      | .inr z => mRuns T I XN XF fr lo mi (pc, Nl, [], N) z := by
  unfold zRun at h
  obtain ⟨e3, B2, L, hi2, h, hL⟩ := zTl_inv (ρ0 := []) ls zB0 [] _ [] h zIn_0 hl (fun i a hh => by cases hh)
  obtain ⟨e4, B3, ov3, hi3, h, hov3⟩ := zTc_inv (W := W) (ρ0 := []) (N := N) _ _ _ _ e3 h hi2 hc ⟨fun _ _ _ _ => .inr rfl, fun key a d hk => by cases hk⟩
  have hL := zLR_ext e4 hL
  rw [List.nil_append] at hL
  rw [List.nil_append] at hi3 hov3
  have hM : zMR W X R.1 T I XN XF N (e3 ++ e4) (ov3, (0, none)) N := ⟨N, hg, hg.1, hov3, zRl_0 hx0 hroom, zDet_none⟩
  obtain ⟨e5, B4, r, s, hi4, hk, hrr, hs⟩ := z_go (R := R) hW hX hroom hv hsX stop _ _ _ _ _ _ _ _ h hi3 (fun hx => by cases hx) (pc, Nl, [], N) ⟨rfl, hL, trivial, hM⟩
  exact ⟨e3 ++ e4 ++ e5, B4, L, ov3, r, s, hi4, hk, zLR_ext e5 hL, zOv_ext e5 hov3, hrr, hs⟩
end ZFR
