/-! ===== the check's messages that are due ===== -/
noncomputable def zQt (k : Nat) : List zS := (zQtb k).map fun p => p.1
noncomputable def zQr (zx : Nat → Bool) (r : Nat) : zW := zRw zx fun mi => bif Nat.blt (zQrk mi) r then zQt mi else []
/-- a place of the row of numbers -/
noncomputable def zN (N : mMem) (k : Nat) : Int := match mAtk N (1077248 + k) with
  | .int x => x.toInt
  | _ => 0
theorem zN_eq {N N1 : mMem} {k : Nat} (h : mAtk N1 (1077248 + k) = mAtk N (1077248 + k)) : zN N1 k = zN N k := by unfold zN; rw [h]
theorem zN_int {N : mMem} {k : Nat} {x : Int32} (h : mAtk N (1077248 + k) = .int x) : zN N k = x.toInt := by unfold zN; rw [h]
noncomputable def zDu (N : mMem) (i : Nat) : Bool := decide ((i : Int) < zN N 9) && decide (zN N (712 + 7 * i) ≤ zN N 7)
noncomputable def zCn (p : Nat → Bool) : Nat → Nat
  | 0 => 0
  | n + 1 => zCn p n + (bif p n then 1 else 0)
theorem zCn_le {p q : Nat → Bool} : ∀ n, (∀ i, i < n → q i = true → p i = true) → zCn q n ≤ zCn p n
  | 0, _ => Nat.le_refl 0
  | n + 1, h => by
    have ih := zCn_le (p := p) (q := q) n (fun i hi => h i (by omega))
    have h1 := h n (by omega)
    show zCn q n + (bif q n then 1 else 0) ≤ zCn p n + (bif p n then 1 else 0)
    cases a : q n with
    | false => cases b : p n with
      | false => exact ih
      | true => exact Nat.le_succ_of_le ih
    | true => rw [h1 a]; exact Nat.succ_le_succ ih
theorem zCn_eq {p q : Nat → Bool} : ∀ n, (∀ i, i < n → q i = p i) → zCn q n = zCn p n
  | 0, _ => rfl
  | n + 1, h => by
    show zCn q n + (bif q n then 1 else 0) = zCn p n + (bif p n then 1 else 0)
    rw [zCn_eq n (fun i hi => h i (by omega)), h n (by omega)]
theorem zCn_sh {p q : Nat → Bool} {r : Nat} (h1 : ∀ i, i < r → q i = p i) : ∀ n, r ≤ n → (∀ i, r ≤ i → i < n → q i = p (i + 1)) → zCn q n + (bif p r then 1 else 0) = zCn p (n + 1)
  | 0, hn, _ => by
    have : r = 0 := by omega
    subst this
    rfl
  | n + 1, hn, h2 => by
    by_cases e : r = n + 1
    · subst e
      show _ = zCn p (n + 1) + (bif p (n + 1) then 1 else 0)
      rw [zCn_eq (n + 1) h1]
    · have ih := zCn_sh h1 n (by omega) (fun i a b => h2 i a (by omega))
      show zCn q n + (bif q n then 1 else 0) + (bif p r then 1 else 0) = zCn p (n + 1) + (bif p (n + 1) then 1 else 0)
      rw [h2 n (by omega) (by omega)]
      omega
noncomputable def zDc (N : mMem) : Nat := zCn (zDu N) 100
/-- the bids of all messages but beacons -/
noncomputable def zPm (N : mMem) : Prop := ∀ i : Nat, i < 100 → (i : Int) < zN N 9 → zN N (710 + 7 * i) ≠ 1 → 10 ≤ zN N (714 + 7 * i) ∧ zN N (714 + 7 * i) ≤ 500
/-- bids stay in their box -/
noncomputable def zXp (N N1 : mMem) : Prop := zPm N ∧ zPm N1
/-- and time stands, no more is due -/
noncomputable def zXd (N N1 : mMem) : Prop := zXp N N1 ∧ (zN N1 7 = zN N 7 ∧ zDc N1 ≤ zDc N)
theorem zXd_0 {N : mMem} (h : zPm N) : zXd N N := ⟨⟨h, h⟩, rfl, Nat.le_refl _⟩
theorem zRk_t {c : Nat} (hc : c ≠ 5) : zRkp c 1077255 = true := by
  show zRk1 c (1077255 / 2048) (1077255 % 2048) = true
  rw [show 1077255 / 2048 = 526 by decide, show 1077255 % 2048 = 7 by decide]
  unfold zRk1
  refine cond_i (fun _ => rfl) (fun _ => ?_)
  refine cond_i (fun e => absurd e (by decide)) (fun _ => cond_i (fun _ => ?_) (fun e => absurd e (by decide)))
  by_cases h : c < 10
  · unfold zRk2
    refine cond_i (fun _ => ?_) (fun e => by have := blt_f e; omega)
    rw [nbeq_f hc]
    rfl
  · exact zRk2_a (by omega) (.inr (.inl rfl))
theorem zPm_kept {N N1 : mMem} (h : ∀ key, key < 2097152 → zRx key = true → mAtk N1 key = mAtk N key) : (∀ i : Nat, i < 100 → zN N1 (712 + 7 * i) = zN N (712 + 7 * i)) ∧ zN N1 9 = zN N 9 ∧ (zPm N → zPm N1) := by
  have hm : zN N1 9 = zN N 9 := zN_eq (h 1077257 (by decide) rfl)
  have hx : ∀ i j : Nat, i < 100 → j < 7 → zN N1 (710 + 7 * i + j) = zN N (710 + 7 * i + j) := fun i j hi hj => zN_eq (h (1077248 + (710 + 7 * i + j)) (by omega) (by
    show (Nat.beq (1077248 + (710 + 7 * i + j)) 1077257 || (Nat.ble 1077958 (1077248 + (710 + 7 * i + j)) && Nat.blt (1077248 + (710 + 7 * i + j)) 1078658)) = true
    rw [Nat.ble_eq.mpr (by omega), show Nat.blt (1077248 + (710 + 7 * i + j)) 1078658 = true from by rw [Nat.blt_eq]; omega]
    simp))
  refine ⟨fun i hi => ?_, hm, fun p i hi a b => ?_⟩
  · have := hx i 2 hi (by omega)
    rw [show 710 + 7 * i + 2 = 712 + 7 * i by omega] at this
    exact this
  · have e0 := hx i 0 hi (by omega)
    have e4 := hx i 4 hi (by omega)
    rw [show 710 + 7 * i + 0 = 710 + 7 * i by omega] at e0
    rw [show 710 + 7 * i + 4 = 714 + 7 * i by omega] at e4
    rw [hm] at a
    rw [e0] at b
    rw [e4]
    exact p i hi a b
theorem zXp_ok {con : Nat → List zS} {c : Nat} : zXok (zRw zRx con) zXp c := ⟨fun _ _ _ h1 h2 => ⟨h1.1, h2.2⟩, fun N N1 h hk => ⟨h.1, (zPm_kept (fun key a b => hk key a (.inr b))).2.2 h.1⟩, fun _ _ h => ⟨h.2, h.2⟩⟩
theorem zXd_ok {con : Nat → List zS} {c : Nat} (hc : c ≠ 5) : zXok (zRw zRx con) zXd c := by
  refine ⟨fun N N1 N2 h1 h2 => ⟨⟨h1.1.1, h2.1.2⟩, h2.2.1.trans h1.2.1, Nat.le_trans h2.2.2 h1.2.2⟩, fun N N1 h0 h => ?_, fun N N1 h => zXd_0 h.1.2⟩
  obtain ⟨hd, hm, hp⟩ := zPm_kept (fun key a b => h key a (.inr b))
  have ht : zN N1 7 = zN N 7 := zN_eq (h 1077255 (by decide) (.inl (zRk_t hc)))
  refine ⟨⟨h0.1.1, hp h0.1.1⟩, ht, zCn_le 100 (fun i hi hq => ?_)⟩
  unfold zDu at hq ⊢
  rw [ht, hm, hd i hi] at hq
  exact hq
/-- the check's world that keeps no account of messages -/
theorem zX0_ok {con : Nat → List zS} {zx : Nat → Bool} {c : Nat} : zXok (zRw zx con) (fun _ _ => True) c := ⟨fun _ _ _ _ _ => trivial, fun _ _ _ _ => trivial, fun _ _ _ => trivial⟩
theorem zGood_w {zx zy : Nat → Bool} {c1 c2 : Nat → List zS} {N : mMem} (h : zGood (zRw zx c1) N) : zGood (zRw zy c2) N := h
theorem zVal_w {zx zy : Nat → Bool} {c1 c2 : Nat → List zS} {T : Nat → List mE} {I : Nat → mI} {XN : Nat → Nat} {XF : Nat → Nat → Int32} {mi : Nat} {i : zS} (h : zVal (zRw zx c1) (fun _ _ => True) T I XN XF mi i) : zVal (zRw zy c2) (fun _ _ => True) T I XN XF mi i := h
theorem zRl_p {zx zy : Nat → Bool} {c1 c2 : Nat → List zS} {c k : Nat} {N N1 : mMem} (h : zRl (zRw zx c1) zXd c k N N1) : zRl (zRw zy c2) zXp c k N N1 := ⟨h.1, h.2.1, h.2.2.1, h.2.2.2.1, h.2.2.2.2.1, h.2.2.2.2.2.1⟩
theorem zVal_p {zx zy : Nat → Bool} {c1 c2 : Nat → List zS} {T : Nat → List mE} {I : Nat → mI} {XN : Nat → Nat} {XF : Nat → Nat → Int32} {mi : Nat} {i : zS} (h : zVal (zRw zx c1) zXd T I XN XF mi i) : zVal (zRw zy c2) zXp T I XN XF mi i := fun N bs hx hg ha hc hr => by
  obtain ⟨v, N1, h1, h2, h3, h4, h5⟩ := h N bs (zXd_0 hx.1) hg ha hc hr
  exact ⟨v, N1, h1, h2, zRl_p h3, h4, h5⟩
/-- a run has one end -/
theorem mRuns_one {T : Nat → List mE} {I : Nat → mI} {XN : Nat → Nat} {XF : Nat → Nat → Int32} {fr lo mi : Nat} {u : mCfg} {z1 z2 : Option Value × mMem} (h1 : mRuns T I XN XF fr lo mi u z1) (h2 : mRuns T I XN XF fr lo mi u z2) : z1 = z2 := by
  obtain ⟨F1, h1⟩ := h1
  obtain ⟨F2, h2⟩ := h2
  have a := h1 (F1 + F2) (by omega)
  rw [h2 (F1 + F2) (by omega)] at a
  exact (Option.some.inj a).symm
