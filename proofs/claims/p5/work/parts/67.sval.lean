/-! ===== what is agreed of sends holds; tools for runs with a stack ===== -/
set_option maxRecDepth 100000 in
theorem zD_166 : (zQtb 166).all (zChq (zQr (fun _ => false) (zQrk 166)) false 166) = true := by decide +kernel
theorem zQrk_chk : (List.range 256).all (fun m => (Nat.ble 1 (zQrk m) || (match zQtb m with
  | [] => true
  | _ => false)) && (Nat.beq m 202 || Nat.ble (zQrk m) 5)) = true := by decide +kernel
set_option maxRecDepth 100000 in
theorem zQrk_out {m : Nat} (h : 256 ≤ m) : zQrk m = 0 ∧ zQtb m = [] := by
  constructor
  · unfold zQrk
    rw [mGetD_out (n := m) (by show 254 ≤ m; omega)]
  · unfold zQtb
    rw [mGetD_out (n := m / 16) (by show 16 ≤ m / 16; omega)]
    rfl
theorem zQt_0 {m : Nat} (h : zQrk m = 0) : zQt m = [] := by
  unfold zQt
  by_cases c : m < 256
  · obtain ⟨q, -⟩ := and_inv (List.all_eq_true.mp zQrk_chk m (List.mem_range.mpr c))
    rw [h] at q
    have q : (match zQtb m with
      | [] => true
      | _ => false) = true := q
    split at q
    · next e => rw [e]; rfl
    · cases q
  · rw [(zQrk_out (by omega)).2]; rfl
theorem zQrk_5 {m : Nat} (h : m ≠ 202) : zQrk m ≤ 5 := by
  by_cases c : m < 256
  · obtain ⟨-, q⟩ := and_inv (List.all_eq_true.mp zQrk_chk m (List.mem_range.mpr c))
    rw [nbeq_f h] at q
    exact Nat.le_of_ble_eq_true q
  · rw [(zQrk_out (by omega)).1]; omega
theorem zQr_con {zx : Nat → Bool} {r mj : Nat} {j : zS} (hj : j ∈ zWi (zQr zx r) mj) : zQrk mj < r ∧ j ∈ zQt mj := by
  have hj : j ∈ (bif Nat.blt (zQrk mj) r then zQt mj else []) := hj
  cases c : Nat.blt (zQrk mj) r with
  | false => rw [c] at hj; cases hj
  | true => rw [c] at hj; exact ⟨blt_lt c, hj⟩
section YSV
variable {xs : Nat → Int32} {L : Nat}
theorem zV_166t : ∀ i ∈ zQt 166, zVal (zQr (fun _ => false) (zQrk 166)) (fun _ _ => True) mTab mInf (sXNl L) (sXF xs) 166 i := fun i hi => by
  obtain ⟨p, hp, rfl⟩ := List.mem_map.mp hi
  refine zChk_snd (zRw_ok _ _) zX0_ok (fun mj j hj => ?_) (zSx_x xs L) (List.all_eq_true.mp zD_166 p hp)
  obtain ⟨a, b⟩ := zQr_con hj
  have a : zQrk mj < 1 := a
  rw [zQt_0 (by omega)] at b
  cases b
theorem y166_v {con : Nat → List zS} {i : zS} {q2 q3 q4 q5 : Int × Int} (hq : q2 = (1, 1) ∨ (q3 = (10, 500))) (h : zSa i = [(2, (525, (0, 0))), (0, (0, (0, 7))), (0, (0, q2)), (0, (0, q3)), (0, (0, q4)), (0, (0, q5))]) (hf : zSf i = 2) (ho : zSo i = 43)
    (ht : zVal (zRw zRx con) (fun _ _ => True) mTab mInf (sXNl L) (sXF xs) 166 i) : zVal (zRw zRx con) zXd mTab mInf (sXNl L) (sXF xs) 166 i := by
  intro N bs hx0 hg ha hcell hroom
  obtain ⟨v, N1, h1, h2, h3, h4, h5⟩ := ht N bs trivial hg ha hcell hroom
  rw [h] at ha
  obtain ⟨v1, m1, rfl, a1, ha⟩ := sAll_cons ha
  obtain ⟨v2, m2, rfl, a2, ha⟩ := sAll_cons ha
  obtain ⟨v3, m3, rfl, a3, ha⟩ := sAll_cons ha
  obtain ⟨v4, m4, rfl, a4, ha⟩ := sAll_cons ha
  obtain ⟨v5, m5, rfl, a5, ha⟩ := sAll_cons ha
  obtain ⟨v6, m6, rfl, a6, ha⟩ := sAll_cons ha
  obtain rfl := sAll_nil ha
  have a1 : v1 = .ref 525 := a1
  subst a1
  obtain ⟨x2, rfl, l1, l2⟩ := a2
  obtain ⟨x3, rfl, k1, k2⟩ := a3
  obtain ⟨x4, rfl, b1, b2⟩ := a4
  obtain ⟨x5, rfl, -, -⟩ := a5
  obtain ⟨x6, rfl, -, -⟩ := a6
  obtain ⟨z, z1, z2⟩ := y166_X (xs := xs) (L := L) (a2 := x3) (a3 := x4) (a4 := x5) (a5 := x6) hx0.1.1 hg l1 l2 (fun ne => by
    rcases hq with rfl | rfl
    · have k1 : 1 ≤ x3.toInt := k1
      have k2 : x3.toInt ≤ 1 := k2
      omega
    · exact ⟨b1, b2⟩)
  have h1' := h1
  rw [hf, ho] at h1'
  have e := mRuns_one z1 h1'
  subst e
  exact ⟨v, N1, h1, h2, ⟨h3.1, h3.2.1, h3.2.2.1, h3.2.2.2.1, h3.2.2.2.2.1, z2⟩, h4, h5⟩
theorem zV_166 {con : Nat → List zS} : ∀ i ∈ zQt 166, zVal (zRw zRx con) zXd mTab mInf (sXNl L) (sXF xs) 166 i := fun i hi => by
  have ht : zVal (zRw zRx con) (fun _ _ => True) mTab mInf (sXNl L) (sXF xs) 166 i := zVal_w (zV_166t i hi)
  have hi : i ∈ zQ_166.map (fun p => p.1) := hi
  unfold zQ_166 at hi
  simp only [List.map_cons, List.map_nil, List.mem_cons, List.not_mem_nil, or_false] at hi
  rcases hi with rfl | rfl | rfl
  · exact y166_v (q2 := (0, 0)) (q3 := (10, 500)) (q4 := (0, 7)) (q5 := zR32) (.inr rfl) rfl rfl rfl ht
  · exact y166_v (q2 := (2, 2)) (q3 := (10, 500)) (q4 := (0, 7)) (q5 := zR32) (.inr rfl) rfl rfl rfl ht
  · exact y166_v (q2 := (1, 1)) (q3 := (0, 500)) (q4 := (0, 7)) (q5 := zR32) (.inl rfl) rfl rfl rfl ht
end YSV
/-! ===== a run from any place with a stack ===== -/
noncomputable def zRunS (T : Nat → List mE) (I : Nat → mI) (W : zW) (R : zR) (sX : Nat → Nat → sI) (stop : Nat → Bool) (f fr lo mi pc : Nat) (ls : List (Nat × zL)) (ss : List zA) (cs : List (Nat × zL)) (K : List (Nat × sV) → List sV → zO → zK) : Bool :=
  zTl ls zB0 [] fun B L => zAs ss B fun B0 S => zTc cs B0 [] fun B1 ov => zGo T I W R false sX stop f fr lo mi (pc, L, S, (ov, (0, none))) B1 (K L S ov)
section ZRS
variable {W : zW} {X : mMem → mMem → Prop} {R : zR} {T : Nat → List mE} {I : Nat → mI} {XN : Nat → Nat} {XF : Nat → Nat → Int32} {sX : Nat → Nat → sI}
theorem zRunS_snd {stop : Nat → Bool} {f fr lo mi pc : Nat} {ls cs : List (Nat × zL)} {ss : List zA} {K : List (Nat × sV) → List sV → zO → zK} {N : mMem} {Nl : List (Nat × Value)} {V : List Value} (h : zRunS T I W R sX stop f fr lo mi pc ls ss cs K = true) (hW : zWok W) (hX : zXok W X R.1) (hv : ∀ mi, ∀ i ∈ zWi W mi, zVal W X T I XN XF mi i) (hsX : zSx XN XF sX)
    (hx0 : X N N) (hg : zGood W N) (hroom : zRoom W R.2.1 N) (hl : ∀ q ∈ ls, ∃ v, mLk Nl q.1 = some v ∧ zLv [] q.2 v) (hs : sAll zArV ss V) (hc : ∀ q ∈ cs, zLv [] q.2 (mAtk N q.1)) :
    ∃ ρ B L S ov r s, zIn ρ B ∧ K L S ov B r = true ∧ zLR ρ L Nl ∧ zSR ρ S V ∧ zOv W ρ ov N N ∧ zRR W X R.1 T I XN XF N ρ r s ∧ match s with
      | .inl v => stop v.1 = true ∧ ∀ z, mRuns T I XN XF fr lo mi v z → mRuns T I XN XF fr lo mi (pc, Nl, V, N) z
      | .inr z => mRuns T I XN XF fr lo mi (pc, Nl, V, N) z := by
  unfold zRunS at h
  obtain ⟨e3, B2, L, hi2, h, hL⟩ := zTl_inv (ρ0 := []) ls zB0 [] _ [] h zIn_0 hl (fun i a hh => by cases hh)
  rw [List.nil_append] at hi2 hL
  obtain ⟨e4, B4, S, hi4, h, hS⟩ := zAs_inv ss B2 _ e3 V h hi2 hs
  obtain ⟨e5, B3, ov3, hi3, h, hov3⟩ := zTc_inv (W := W) (ρ0 := []) (N := N) _ _ _ _ (e3 ++ e4) h hi4 hc ⟨fun _ _ _ _ => .inr rfl, fun key a d hk => by cases hk⟩
  rw [List.nil_append] at hi3 hov3
  have hL := zLR_ext e5 (zLR_ext e4 hL)
  have hS := zSR_ext e5 hS
  have hM : zMR W X R.1 T I XN XF N (e3 ++ e4 ++ e5) (ov3, (0, none)) N := ⟨N, hg, hg.1, hov3, zRl_0 hx0 hroom, zDet_none⟩
  obtain ⟨e6, B5, r, s, hi6, hk, hrr, hs⟩ := z_go (R := R) hW hX hroom hv hsX stop _ _ _ _ _ _ _ _ h hi3 (fun hx => by cases hx) (pc, Nl, V, N) ⟨rfl, hL, hS, hM⟩
  exact ⟨e3 ++ e4 ++ e5 ++ e6, B5, L, S, ov3, r, s, hi6, hk, zLR_ext e6 hL, zSR_ext e6 hS, zOv_ext e6 hov3, hrr, hs⟩
/-- a run to the end -/
noncomputable def zFin (W : zW) (k : Nat) (r : Option (Bool × (Int × Int))) : zK := fun B rr => match rr with
  | .inr w => Nat.ble w.2.2.1 k && (zFl W B w.2.1 && zRt B r w.1)
  | .inl _ => false
theorem zRunE {f fr lo mi pc : Nat} {ls cs : List (Nat × zL)} {ss : List zA} {N : mMem} {Nl : List (Nat × Value)} {V : List Value} {rt : Option (Bool × (Int × Int))} (h : zRunS T I W R sX (fun _ => false) f fr lo mi pc ls ss cs (fun _ _ _ => zFin W R.2.1 rt) = true) (hW : zWok W) (hX : zXok W X R.1) (hv : ∀ mi, ∀ i ∈ zWi W mi, zVal W X T I XN XF mi i) (hsX : zSx XN XF sX)
    (hx0 : X N N) (hg : zGood W N) (hroom : zRoom W R.2.1 N) (hl : ∀ q ∈ ls, ∃ v, mLk Nl q.1 = some v ∧ zLv [] q.2 v) (hs : sAll zArV ss V) (hc : ∀ q ∈ cs, zLv [] q.2 (mAtk N q.1)) :
    ∃ z, mRuns T I XN XF fr lo mi (pc, Nl, V, N) z ∧ zGood W z.2 ∧ zRl W X R.1 R.2.1 N z.2 ∧ zAnV rt z.1 := by
  obtain ⟨ρ, B, L, S, ov, r, s, hi, hK, -, -, -, hrr, hs⟩ := zRunS_snd h hW hX hv hsX hx0 hg hroom hl hs hc
  cases r with
  | inl y => cases hK
  | inr w => cases s with
    | inl v => exact hrr.elim
    | inr z =>
      obtain ⟨h1, h2⟩ := and_inv hK
      obtain ⟨h2, h3⟩ := and_inv h2
      have hg2 := zFl_inv hW h2 hi hrr.2
      obtain ⟨N0, -, -, -, rl, -⟩ := id hrr.2
      exact ⟨z, hs, hg2, zRl_le rl (Nat.le_of_ble_eq_true h1), zRt_inv hi h3 hrr.1⟩
theorem zRoom_rl {c k a : Nat} {N N1 : mMem} (h : zRl W X c k N N1) (hr : zRoom W (k + a) N) : zRoom W a N1 := fun key h1 h2 => by
  obtain ⟨x, y, e1, e2, e3⟩ := h.2.2.2.2.1 key h1 h2
  obtain ⟨x2, f1, f2⟩ := hr key h1 h2
  rw [e1] at f1
  cases f1
  exact ⟨y, e2, by omega⟩
theorem zRoom_le {k a : Nat} {N : mMem} (hr : zRoom W k N) (h : a ≤ k) : zRoom W a N := fun key h1 h2 => by
  obtain ⟨x2, f1, f2⟩ := hr key h1 h2
  exact ⟨x2, f1, by omega⟩
end ZRS
theorem yM_b {N : mMem} (h : yMod N) : Nat.blt 525 N.1 = true := by rw [Nat.blt_eq, h.1]; omega
theorem yM_c {N : mMem} (h : yMod N) : Nat.beq (mObj N 525).1 8 = true := by rw [h.2.1.1]; rfl
