/-! ===== sends: what is sent is not yet due ===== -/
noncomputable def zVk (m c key : Nat) : Bool := bif Nat.beq c 1 then true else bif Nat.beq (key / 2048) 526 then !(Nat.beq (key % 2048) 9 || (Nat.beq (key % 2048) 12 || ((Nat.ble 14 (key % 2048) && Nat.blt (key % 2048) 22) || (Nat.ble (710 + 7 * m) (key % 2048) && Nat.blt (key % 2048) (717 + 7 * m))))) else true
/-- the check's world, where message m, counts and two places more are written -/
noncomputable def zRv (m : Nat) : zW := (zObR, (zRs, (zRc, (zVk m, (zRct, (fun _ => [], (fun c d => Nat.beq c d, fun _ => false)))))))
theorem zRv_ok (m : Nat) : zWok (zRv m) := by
  obtain ⟨a1, a2, a3, a4, a5, a6, a7, a8⟩ := zRw_ok (fun _ => false) (fun _ => [])
  refine ⟨a1, a2, fun c key hc h => rfl, a4, a5, fun c d h => ?_, fun key => rfl, fun key h => rfl⟩
  have h := Nat.eq_of_beq_eq_true h
  subst h
  exact ⟨fun h => h, fun _ _ h => h⟩
noncomputable def zSm (L1 L2 : List (Nat × sV)) (i : Nat) : Bool := match sLk L1 i, sLk L2 i with
  | some (.inl x), some (.inl y) => sEqI x y
  | _, _ => false
noncomputable def zIs (ov : zO) (key : Nat) (x : sI) : Bool := match zLk ov key with
  | some (.inl y, _) => sEqI y x
  | _ => false
noncomputable def zR0 (L : List (Nat × sV)) : Bool := match sLk L 0 with
  | some (.inr (.inr (some o))) => Nat.beq o 525
  | _ => false
noncomputable def zLs5 : List (Nat × zL) := [(0, (2, (525, (0, 0)))), (1, (0, (0, (0, 7)))), (2, (0, (0, zR32))), (3, (0, (0, zR32))), (4, (0, (0, zR32))), (5, (0, (0, zR32)))]
noncomputable def zLs6 (d : zL) : List (Nat × zL) := zLs5 ++ [(6, d)]
noncomputable def zUp (B : zB) (L0 L : List (Nat × sV)) (i : Nat) : Bool := match sLk L0 i, sLk L i with
  | some (.inl x), some (.inl y) => zLs B x y
  | _, _ => false
noncomputable def zFi (B : zB) (L : List (Nat × sV)) (i : Nat) (l h : Int) : Bool := match sLk L i with
  | some (.inl x) => zFits B x l h
  | _ => false
noncomputable def zStk1 (B : zB) (ov : zO) (S : List sV) : Bool := match S with
  | [.inl d, .inl t] => zFits B d 1 20 && zIs ov 1077255 t
  | _ => false
/-- a place's number on the stack, and the check -/
noncomputable def zStk2 (c : Int) (S : List sV) : Bool := match S with
  | [.inl x, .inr (.inr (some o))] => Nat.beq o 525 && sEqI x (0, c)
  | _ => false
/-- from the entry to the sum of time and delay, or to the end -/
noncomputable def zK1 (m : Nat) (L0 : List (Nat × sV)) (_ : zO) : zK := fun B r => match r with
  | .inr w => zIs w.2.1 1077257 (0, (m : Int))
  | .inl (pc, L, S, M) => Nat.beq pc 40 && (zR0 L && (Nat.ble m 99 && (([1, 2, 3, 4, 5] : List Nat).all (zSm L0 L) && (zFl (zRv m) B M.1 && (zIs M.1 1077257 (0, (m : Int)) && zStk1 B M.1 S)))))
/-- once round the loop over messages -/
noncomputable def zK2 (L0 : List (Nat × sV)) (_ : zO) : zK := fun B r => match r with
  | .inr _ => false
  | .inl (pc, L, S, _) => (match S with
    | [] => true
    | _ => false) && ((zR0 L && ([1, 2, 3, 4, 5] : List Nat).all (zSm L0 L)) && ((Nat.beq pc 114 && zSm L0 L 6) || (Nat.beq pc 46 && ((zSm L0 L 6 || zUp B L0 L 6) && (zUp B L0 L 7 && zFi B L 7 0 100)))))
/-- a cell is what a local was -/
noncomputable def zIsL (ov : zO) (key : Nat) (L0 : List (Nat × sV)) (i : Nat) : Bool := match sLk L0 i with
  | some (.inl x) => zIs ov key x
  | _ => false
/-- from the loop's end to the method's -/
noncomputable def zK3 (m : Nat) (L0 : List (Nat × sV)) (_ : zO) : zK := fun _ r => match r with
  | .inl _ => false
  | .inr w => zIs w.2.1 1077257 (0, (m : Int) + 1) && (zIsL w.2.1 (1077960 + 7 * m) L0 6 && (zIsL w.2.1 (1077958 + 7 * m) L0 2 && zIsL w.2.1 (1077962 + 7 * m) L0 3))
set_option maxRecDepth 100000 in
theorem y166_1 : (List.range 101).all (fun m => zRun mTab mInf (zRv m) (12, (0, false)) sXX (fun pc => Nat.beq pc 40) 3000 2 43 166 0 zLs5 [(1077257, (0, (0, ((m : Int), (m : Int)))))] (zK1 m)) = true := by decide +kernel
set_option maxRecDepth 100000 in
theorem y166_2 : zRun mTab mInf (zRv 0) (1, (0, false)) sXX (fun pc => Nat.beq pc 46 || Nat.beq pc 114) 3000 2 43 166 46 (zLs6 (0, (0, zR32)) ++ [(7, (0, (0, (0, 100))))]) [(1077257, (0, (0, (0, 100))))] zK2 = true := by decide +kernel
set_option maxRecDepth 100000 in
theorem y166_3 : (List.range 100).all (fun m => zRun mTab mInf (zRv m) (12, (0, false)) sXX (fun _ => false) 3000 2 43 166 114 (zLs6 (0, (0, zR32))) [(1077257, (0, (0, ((m : Int), (m : Int)))))] (zK3 m)) = true := by decide +kernel
theorem mLk_same {L : List (Nat × Value)} {i : Nat} {v : Value} : mLk (mSt1 L i v) i = some v := by
  unfold mSt1
  rw [mLk_cons, Nat.beq_refl]
  rfl
theorem mLk_ne {L : List (Nat × Value)} {i j : Nat} {v w : Value} (h : mLk L j = some w) (hn : j ≠ i) (hw : w.category = 1) : mLk (mSt1 L i v) j = some w := by
  unfold mSt1
  rw [mLk_cons, nbeq_f (Ne.symm hn), cond_false]
  refine mLk_fil h ?_
  show (!(j == i) && !(j + 1 == i && w.category == 2)) = true
  rw [hw, beq_false_of_ne hn]
  simp
theorem zSm_inv {ρ : List Int} {L0 L1 : List (Nat × sV)} {N0 N1 : List (Nat × Value)} {i : Nat} (h : zSm L0 L1 i = true) (h0 : zLR ρ L0 N0) (h1 : zLR ρ L1 N1) : ∃ x : Int32, mLk N0 i = some (.int x) ∧ mLk N1 i = some (.int x) := by
  unfold zSm at h
  split at h
  · next x y hx hy =>
    have e := sEqI_eq h
    subst e
    obtain ⟨v, a1, a2⟩ := h0 i _ hx
    obtain ⟨w, b1, b2⟩ := h1 i _ hy
    obtain ⟨v1, rfl, a3⟩ := zRel_i a2
    obtain ⟨w1, rfl, b3⟩ := zRel_i b2
    rw [a3] at b3
    have : v1 = w1 := Int32.toInt_inj.mp (Option.some.inj b3)
    subst this
    exact ⟨v1, a1, b1⟩
  · cases h
theorem zR0_inv {ρ : List Int} {L1 : List (Nat × sV)} {N1 : List (Nat × Value)} (h : zR0 L1 = true) (h1 : zLR ρ L1 N1) : mLk N1 0 = some (.ref 525) := by
  unfold zR0 at h
  split at h
  · next o ho =>
    have := Nat.eq_of_beq_eq_true h
    subst this
    obtain ⟨v, a1, a2⟩ := h1 0 _ ho
    cases v with
    | ref p => rw [a1]; exact congrArg (fun q => some (Value.ref q)) a2
    | _ => exact a2.elim
  · cases h
theorem zIs_inv {W : zW} {X : mMem → mMem → Prop} {c : Nat} {T : Nat → List mE} {I : Nat → mI} {XN : Nat → Nat} {XF : Nat → Nat → Int32} {Ne N : mMem} {ρ : List Int} {M : zM} {key : Nat} {x : sI} (h : zIs M.1 key x = true) (hM : zMR W X c T I XN XF Ne ρ M N) : ∃ y : Int32, mAtk N key = .int y ∧ zAt ρ x = some y.toInt := by
  obtain ⟨N0, g0, sh, ov, rl, dt⟩ := hM
  unfold zIs at h
  split at h
  · next y d hy =>
    have := sEqI_eq h
    subst this
    obtain ⟨-, r, -⟩ := ov.2 key _ _ hy
    exact zRel_i r
  · cases h
theorem zIsL_inv {W : zW} {X : mMem → mMem → Prop} {c : Nat} {T : Nat → List mE} {I : Nat → mI} {XN : Nat → Nat} {XF : Nat → Nat → Int32} {Ne N : mMem} {ρ : List Int} {M : zM} {key : Nat} {L0 : List (Nat × sV)} {N0 : List (Nat × Value)} {i : Nat} {v : Int32} (h : zIsL M.1 key L0 i = true) (hM : zMR W X c T I XN XF Ne ρ M N) (h0 : zLR ρ L0 N0) (hv : mLk N0 i = some (.int v)) : mAtk N key = .int v := by
  unfold zIsL at h
  split at h
  · next x hx =>
    obtain ⟨y, g1, g2⟩ := zIs_inv h hM
    obtain ⟨w, b1, b2⟩ := h0 i _ hx
    rw [hv] at b1
    cases b1
    have b2 : zAt ρ x = some v.toInt := b2
    rw [g2] at b2
    have e : y = v := Int32.toInt_inj.mp (Option.some.inj b2)
    rw [g1, e]
  · cases h
theorem zStk1_inv {W : zW} {X : mMem → mMem → Prop} {c : Nat} {T : Nat → List mE} {I : Nat → mI} {XN : Nat → Nat} {XF : Nat → Nat → Int32} {Ne N : mMem} {ρ : List Int} {B : zB} {M : zM} {S : List sV} {V : List Value} (h : zStk1 B M.1 S = true) (hi : zIn ρ B) (hM : zMR W X c T I XN XF Ne ρ M N) (hS : zSR ρ S V) : ∃ dv tv : Int32, V = [.int dv, .int tv] ∧ 1 ≤ dv.toInt ∧ dv.toInt ≤ 20 ∧ mAtk N 1077255 = .int tv := by
  unfold zStk1 at h
  split at h
  · next d t =>
    obtain ⟨k7, k8⟩ := and_inv h
    obtain ⟨v1, V1, e1, r1, hS1⟩ := sAll_cons hS
    obtain ⟨v2, V2, e2, r2, hS2⟩ := sAll_cons hS1
    have e3 := sAll_nil hS2
    obtain ⟨dv, f1, r3⟩ := zRel_i r1
    obtain ⟨tv, f2, r4⟩ := zRel_i r2
    obtain ⟨d1, d2⟩ := zFits_inv k7 hi r3
    obtain ⟨ty, t1, t2⟩ := zIs_inv k8 hM
    rw [r4] at t2
    have t3 : tv = ty := Int32.toInt_inj.mp (Option.some.inj t2)
    exact ⟨dv, tv, by rw [e1, e2, e3, f1, f2], d1, d2, by rw [t3]; exact t1⟩
  · cases h
theorem zStk2_inv {ρ : List Int} {c : Int} {S : List sV} {V : List Value} (h : zStk2 c S = true) (hS : zSR ρ S V) : ∃ x : Int32, V = [.int x, .ref 525] ∧ x.toInt = c := by
  unfold zStk2 at h
  split at h
  · next x o =>
    obtain ⟨k7, k8⟩ := and_inv h
    have k7 := Nat.eq_of_beq_eq_true k7
    have k8 := sEqI_eq k8
    obtain ⟨v1, V1, e1, r1, hS1⟩ := sAll_cons hS
    obtain ⟨v2, V2, e2, r2, hS2⟩ := sAll_cons hS1
    have e3 := sAll_nil hS2
    obtain ⟨dv, f1, r3⟩ := zRel_i r1
    have f2 := zRel_r r2
    rw [k8] at r3
    exact ⟨dv, by rw [e1, e2, e3, f1, f2, ← k7], (Option.some.inj r3).symm⟩
  · cases h
/-- all but a few cells of the check stand: no more is due -/
theorem zXd_kept {m : Nat} {N N1 : mMem} (hpm : zPm N) (hk : ∀ key, key < 2097152 → zVk m 12 key = true → mAtk N1 key = mAtk N key) (hm : m ≤ 100) (h9 : zN N 9 = (m : Int)) (h : zN N1 9 = (m : Int) ∨ (zN N1 9 = (m : Int) + 1 ∧ zN N1 7 < zN N1 (712 + 7 * m))) (hb : zN N1 9 = (m : Int) + 1 → zN N1 (710 + 7 * m) ≠ 1 → 10 ≤ zN N1 (714 + 7 * m) ∧ zN N1 (714 + 7 * m) ≤ 500) : zXd N N1 := by
  have kk : ∀ k, k < 1850 → k ≠ 9 → k ≠ 12 → ¬ (14 ≤ k ∧ k < 22) → ¬ (710 + 7 * m ≤ k ∧ k < 717 + 7 * m) → zN N1 k = zN N k := fun k a b c d e => zN_eq (hk (1077248 + k) (by omega) (by
    unfold zVk
    rw [show Nat.beq 12 1 = false from rfl, cond_false, show (1077248 + k) / 2048 = 526 by omega, show (1077248 + k) % 2048 = k by omega, show Nat.beq 526 526 = true from rfl, cond_true]
    refine not_i (fun q => ?_)
    simp only [Bool.or_eq_true, Bool.and_eq_true, Nat.beq_eq, Nat.ble_eq, Nat.blt_eq] at q
    omega))
  have h7 : zN N1 7 = zN N 7 := kk 7 (by omega) (by omega) (by omega) (by omega) (by omega)
  refine ⟨⟨hpm, fun i hi a b => ?_⟩, h7, zCn_le 100 (fun i hi hq => ?_)⟩
  · by_cases e : i = m
    · subst e
      refine hb ?_ b
      rcases h with h | h
      · omega
      · exact h.1
    · have him : (i : Int) < (m : Int) := by
        rcases h with h | h
        · omega
        · omega
      rw [kk (710 + 7 * i) (by omega) (by omega) (by omega) (by omega) (by omega)] at b
      rw [kk (714 + 7 * i) (by omega) (by omega) (by omega) (by omega) (by omega)]
      exact hpm i hi (by omega) b
  unfold zDu at hq ⊢
  obtain ⟨a, b⟩ := and_inv hq
  have a := of_decide_eq_true a
  have b := of_decide_eq_true b
  have him : i < m := by
    rcases h with h | ⟨h, h2⟩
    · omega
    · by_cases e : i = m
      · subst e; omega
      · omega
  rw [kk (712 + 7 * i) (by omega) (by omega) (by omega) (by omega) (by omega), h7] at b
  rw [h9, decide_eq_true (p := (i : Int) < (m : Int)) (by omega), decide_eq_true b]
  rfl
theorem zRoom_0 {zx : Nat → Bool} {con : Nat → List zS} {m : Nat} {N : mMem} (hg : zGood (zRw zx con) N) : zRoom (zRv m) 0 N := fun key hk hw => by
  obtain ⟨q, hq⟩ := (zRw_ok zx con).2.2.2.1 key hw
  obtain ⟨x, hx, -, -⟩ := hg.2.1 key hk _ hq
  have := x.toInt_lt
  exact ⟨x, hx, by omega⟩
theorem zXv_ok {m c : Nat} : zXok (zRv m) (fun _ _ => True) c := ⟨fun _ _ _ _ _ => trivial, fun _ _ _ _ => trivial, fun _ _ _ => trivial⟩
noncomputable def yL (k b : Int32) (Nl : List (Nat × Value)) : Prop := mLk Nl 0 = some (.ref 525) ∧ (∃ x : Int32, mLk Nl 1 = some (.int x) ∧ 0 ≤ x.toInt ∧ x.toInt ≤ 7) ∧ mLk Nl 2 = some (.int k) ∧ mLk Nl 3 = some (.int b) ∧ ∀ i, 4 ≤ i → i ≤ 5 → ∃ x : Int32, mLk Nl i = some (.int x)
theorem z32 (x : Int32) : zR32.1 ≤ x.toInt ∧ x.toInt ≤ zR32.2 := ⟨x.le_toInt, Int.le_trans x.toInt_le (by decide)⟩
theorem yL_six {k b : Int32} {Nl : List (Nat × Value)} (h : yL k b Nl) : ∀ q ∈ zLs5, ∃ v, mLk Nl q.1 = some v ∧ zLv [] q.2 v := fun q hq => by
  obtain ⟨h0, ⟨x, h1, h1a, h1b⟩, hk, hb, h2⟩ := h
  unfold zLs5 at hq
  simp only [List.mem_cons, List.not_mem_nil, or_false] at hq
  rcases hq with rfl | rfl | rfl | rfl | rfl | rfl
  · exact ⟨_, h0, rfl⟩
  · exact ⟨_, h1, x, rfl, h1a, h1b⟩
  · exact ⟨_, hk, k, rfl, z32 k⟩
  · exact ⟨_, hb, b, rfl, z32 b⟩
  · obtain ⟨x, hx⟩ := h2 4 (by omega) (by omega)
    exact ⟨_, hx, x, rfl, z32 x⟩
  · obtain ⟨x, hx⟩ := h2 5 (by omega) (by omega)
    exact ⟨_, hx, x, rfl, z32 x⟩
theorem yL_same {k b : Int32} {ρ : List Int} {L0 L1 : List (Nat × sV)} {N0 N1 : List (Nat × Value)} (h : (([1, 2, 3, 4, 5] : List Nat).all (zSm L0 L1)) = true) (h00 : zR0 L1 = true) (hL : yL k b N0) (h0 : zLR ρ L0 N0) (h1 : zLR ρ L1 N1) : yL k b N1 := by
  have g := fun i hi => zSm_inv (List.all_eq_true.mp h i hi) h0 h1
  have same : ∀ i, i ∈ ([1, 2, 3, 4, 5] : List Nat) → ∀ x : Int32, mLk N0 i = some (.int x) → mLk N1 i = some (.int x) := fun i hi x hx => by
    obtain ⟨y, a, b⟩ := g i hi
    rw [hx] at a
    cases a
    exact b
  refine ⟨zR0_inv h00 h1, ?_, same 2 (by simp) _ hL.2.2.1, same 3 (by simp) _ hL.2.2.2.1, fun i a b => ?_⟩
  · obtain ⟨y, c, d, e⟩ := hL.2.1
    exact ⟨y, same 1 (by simp) _ c, d, e⟩
  · obtain ⟨x, -, c⟩ := g i (by
      obtain rfl | rfl := (by omega : i = 4 ∨ i = 5)
      · simp
      · simp)
    exact ⟨x, c⟩
theorem zUp_inv {ρ : List Int} {B : zB} {L0 L1 : List (Nat × sV)} {N0 N1 : List (Nat × Value)} {i : Nat} (h : zUp B L0 L1 i = true) (hi : zIn ρ B) (h0 : zLR ρ L0 N0) (h1 : zLR ρ L1 N1) : ∃ x y : Int32, mLk N0 i = some (.int x) ∧ mLk N1 i = some (.int y) ∧ x.toInt < y.toInt := by
  unfold zUp at h
  split at h
  · next x y hx hy =>
    obtain ⟨v, a1, a2⟩ := h0 i _ hx
    obtain ⟨w, b1, b2⟩ := h1 i _ hy
    obtain ⟨v1, rfl, a3⟩ := zRel_i a2
    obtain ⟨w1, rfl, b3⟩ := zRel_i b2
    exact ⟨v1, w1, a1, b1, zLs_inv h hi a3 b3⟩
  · cases h
theorem zFi_inv {ρ : List Int} {B : zB} {L1 : List (Nat × sV)} {N1 : List (Nat × Value)} {i : Nat} {l u : Int} (h : zFi B L1 i l u = true) (hi : zIn ρ B) (h1 : zLR ρ L1 N1) : ∃ y : Int32, mLk N1 i = some (.int y) ∧ l ≤ y.toInt ∧ y.toInt ≤ u := by
  unfold zFi at h
  split at h
  · next y hy =>
    obtain ⟨w, b1, b2⟩ := h1 i _ hy
    obtain ⟨w1, rfl, b3⟩ := zRel_i b2
    exact ⟨w1, b1, zFits_inv h hi b3⟩
  · cases h
theorem h_166_40 : mFind (mTab 166) 40 = some (40, 1, .iadd, .iadd, 0, 0, 0, 0) := mFb_eq (by decide +kernel)
theorem h_166_41 : mFind (mTab 166) 41 = some (41, 2, .istore 6, .istore 6, 0, 0, 0, 0) := mFb_eq (by decide +kernel)
theorem h_166_43 : mFind (mTab 166) 43 = some (43, 1, .iconst 0, .iconst 0, 0, 0, 0, 0) := mFb_eq (by decide +kernel)
theorem h_166_44 : mFind (mTab 166) 44 = some (44, 2, .istore 7, .istore 7, 0, 0, 0, 0) := mFb_eq (by decide +kernel)
section YSN
variable {xs : Nat → Int32} {L : Nat} {zx : Nat → Bool} {con : Nat → List zS} {N : mMem}
theorem y166_lp {kk bb : Int32} (hg : zGood (zRw zx con) N) : ∀ (n : Nat) (Nl : List (Nat × Value)) (d i : Int32), yL kk bb Nl → mLk Nl 6 = some (.int d) → mLk Nl 7 = some (.int i) → 0 ≤ i.toInt → i.toInt ≤ 100 → (100 - i.toInt).toNat < n →
    ∃ Nl2 d2, yL kk bb Nl2 ∧ mLk Nl2 6 = some (.int d2) ∧ d.toInt ≤ d2.toInt ∧ ∀ z, mRuns mTab mInf (sXNl L) (sXF xs) 2 43 166 (114, Nl2, [], N) z → mRuns mTab mInf (sXNl L) (sXF xs) 2 43 166 (46, Nl, [], N) z
  | 0, _, _, _, _, _, _, _, _, h => by omega
  | n + 1, Nl, d, i, hL, h6, h7, i0, i1, hn => by
    obtain ⟨x9, hx9, x9a, x9b⟩ := hg.2.1 1077257 (by decide) (.inl (0, 100)) rfl
    obtain ⟨ρ, B, L0, ov, r, s, hi, hK, hL0, hov, hrr, hs⟩ := zRun_snd (X := fun _ _ => True) (N := N) (Nl := Nl) (XN := sXNl L) (XF := sXF xs) y166_2 (zRv_ok 0) zXv_ok (fun _ _ h => by cases h) (zSx_x xs L) trivial hg (zRoom_0 hg) (fun q hq => by
      rcases List.mem_append.mp hq with hq | hq
      · rcases List.mem_append.mp hq with hq | hq
        · exact yL_six hL q hq
        · obtain rfl := List.mem_singleton.mp hq
          exact ⟨_, h6, d, rfl, z32 d⟩
      · obtain rfl := List.mem_singleton.mp hq
        exact ⟨_, h7, i, rfl, i0, i1⟩) (fun q hq => by
      obtain rfl := List.mem_singleton.mp hq
      exact ⟨x9, hx9, x9a, x9b⟩)
    cases s with
    | inr z => cases r with
      | inl y => exact hrr.elim
      | inr w => cases hK
    | inl v => cases r with
      | inr w => exact hrr.elim
      | inl y =>
        obtain ⟨pc, L1, S, M⟩ := y
        obtain ⟨pc2, Nl2, V, N2⟩ := v
        obtain ⟨hp, hL1, hS, hM⟩ := hrr
        have hp : pc = pc2 := hp
        subst hp
        cases S with
        | cons a S => cases hK
        | nil =>
          have hV : V = [] := sAll_nil hS
          subst hV
          have hK : ((zR0 L1 && ([1, 2, 3, 4, 5] : List Nat).all (zSm L0 L1)) && ((Nat.beq pc 114 && zSm L0 L1 6) || (Nat.beq pc 46 && ((zSm L0 L1 6 || zUp B L0 L1 6) && (zUp B L0 L1 7 && zFi B L1 7 0 100))))) = true := hK
          obtain ⟨k2, k3⟩ := and_inv hK
          obtain ⟨k4, k5⟩ := and_inv k2
          obtain ⟨N0, -, -, -, rl, -⟩ := hM
          have hN : N = N2 := (rl.1 rfl).symm
          subst hN
          have hL2 := yL_same k5 k4 hL hL0 hL1
          rcases (Bool.or_eq_true _ _).mp k3 with k | k
          · obtain ⟨a, b⟩ := and_inv k
            have a := Nat.eq_of_beq_eq_true a
            subst a
            obtain ⟨x, c1, c2⟩ := zSm_inv b hL0 hL1
            rw [h6] at c1
            cases c1
            exact ⟨Nl2, d, hL2, c2, Int.le_refl _, hs.2⟩
          · obtain ⟨a, m1⟩ := and_inv k
            obtain ⟨k6, m2⟩ := and_inv m1
            obtain ⟨k7, k8⟩ := and_inv m2
            have a := Nat.eq_of_beq_eq_true a
            subst a
            obtain ⟨d2, e1, e2⟩ : ∃ d2 : Int32, mLk Nl2 6 = some (.int d2) ∧ d.toInt ≤ d2.toInt := by
              rcases (Bool.or_eq_true _ _).mp k6 with k | k
              · obtain ⟨x, c1, c2⟩ := zSm_inv k hL0 hL1
                rw [h6] at c1
                cases c1
                exact ⟨d, c2, Int.le_refl _⟩
              · obtain ⟨x, y, c1, c2, c3⟩ := zUp_inv k hi hL0 hL1
                rw [h6] at c1
                cases c1
                exact ⟨y, c2, by omega⟩
            obtain ⟨x, y, c1, c2, c3⟩ := zUp_inv k7 hi hL0 hL1
            rw [h7] at c1
            cases c1
            obtain ⟨y2, f1, f2, f3⟩ := zFi_inv k8 hi hL1
            rw [c2] at f1
            cases f1
            obtain ⟨Nl3, d3, g1, g2, g3, g4⟩ := y166_lp hg n Nl2 d2 y hL2 e1 c2 f2 f3 (by omega)
            exact ⟨Nl3, d3, g1, g2, by omega, fun z hz => hs.2 z (g4 z hz)⟩
theorem y166_X (hpm : zPm N) (hg : zGood (zRw zx con) N) {a1 a2 a3 a4 a5 : Int32} (h1 : 0 ≤ a1.toInt) (h2 : a1.toInt ≤ 7) (hkb : a2.toInt ≠ 1 → 10 ≤ a3.toInt ∧ a3.toInt ≤ 500) : ∃ z, mRuns mTab mInf (sXNl L) (sXF xs) 2 43 166 (0, lv_args 0 [.ref 525, .int a1, .int a2, .int a3, .int a4, .int a5], [], N) z ∧ zXd N z.2 := by
  obtain ⟨x9, hx9, x9a, x9b⟩ := hg.2.1 1077257 (by decide) (.inl (0, 100)) rfl
  have x9a : 0 ≤ x9.toInt := x9a
  have x9b : x9.toInt ≤ 100 := x9b
  obtain ⟨m, hm⟩ : ∃ m : Nat, x9.toInt = (m : Int) := ⟨x9.toInt.toNat, by omega⟩
  have hm100 : m ≤ 100 := by omega
  have n9 : zN N 9 = (m : Int) := by rw [zN_int (k := 9) hx9, hm]
  have hL : yL a2 a3 (lv_args 0 [.ref 525, .int a1, .int a2, .int a3, .int a4, .int a5]) := ⟨rfl, ⟨a1, rfl, h1, h2⟩, rfl, rfl, fun i a b => by
    obtain rfl | rfl := (by omega : i = 4 ∨ i = 5)
    · exact ⟨_, rfl⟩
    · exact ⟨_, rfl⟩⟩
  obtain ⟨ρ, B, L0, ov, r, s, hi, hK, hL0, hov, hrr, hs⟩ := zRun_snd (X := fun _ _ => True) (N := N) (Nl := lv_args 0 [.ref 525, .int a1, .int a2, .int a3, .int a4, .int a5]) (XN := sXNl L) (XF := sXF xs) (List.all_eq_true.mp y166_1 m (List.mem_range.mpr (by omega))) (zRv_ok m) zXv_ok (fun _ _ h => by cases h) (zSx_x xs L) trivial hg (zRoom_0 hg) (yL_six hL) (fun q hq => by
    obtain rfl := List.mem_singleton.mp hq
    exact ⟨x9, hx9, by rw [hm]; exact Int.le_refl _, by rw [hm]; exact Int.le_refl _⟩)
  cases s with
  | inr z => cases r with
    | inl y => exact hrr.elim
    | inr w =>
      obtain ⟨-, hM⟩ := hrr
      obtain ⟨y, e1, e2⟩ := zIs_inv (x := (0, (m : Int))) hK hM
      have e3 : (m : Int) = y.toInt := Option.some.inj e2
      obtain ⟨N0, -, -, -, rl, -⟩ := hM
      exact ⟨z, hs, zXd_kept hpm rl.2.2.2.1 hm100 n9 (.inl (by rw [zN_int (k := 9) e1, e3])) (fun e => by rw [zN_int (k := 9) e1] at e; omega)⟩
  | inl v => cases r with
    | inr w => exact hrr.elim
    | inl y =>
      obtain ⟨pc, L1, S, M⟩ := y
      obtain ⟨pc2, Nl2, V, N2⟩ := v
      obtain ⟨hp, hL1, hS, hM⟩ := hrr
      have hp : pc = pc2 := hp
      subst hp
      have hK : (Nat.beq pc 40 && (zR0 L1 && (Nat.ble m 99 && (([1, 2, 3, 4, 5] : List Nat).all (zSm L0 L1) && (zFl (zRv m) B M.1 && (zIs M.1 1077257 (0, (m : Int)) && zStk1 B M.1 S)))))) = true := hK
      obtain ⟨k1, hK⟩ := and_inv hK
      obtain ⟨k2, hK⟩ := and_inv hK
      obtain ⟨k3, hK⟩ := and_inv hK
      obtain ⟨k4, hK⟩ := and_inv hK
      obtain ⟨k5, hK⟩ := and_inv hK
      obtain ⟨k6, k7⟩ := and_inv hK
      have k1 := Nat.eq_of_beq_eq_true k1
      have k3 := Nat.le_of_ble_eq_true k3
      subst k1
      · obtain ⟨dv, tv, rfl, d1, d2, t1⟩ := zStk1_inv k7 hi hM hS
        have hg1 : zGood (zRv m) N2 := zFl_inv (zRv_ok m) k5 hi hM
        have hg2 : zGood (zRw zx con) N2 := hg1
        obtain ⟨y9, e1, e2⟩ := zIs_inv (x := (0, (m : Int))) k6 hM
        have e3 : (m : Int) = y9.toInt := Option.some.inj e2
        obtain ⟨N0, -, -, -, rl, -⟩ := hM
        obtain ⟨tz, u1, u2, u3⟩ := hg2.2.1 1077255 (by decide) (.inl (0, 33000)) rfl
        rw [t1] at u1
        cases u1
        have u2 : 0 ≤ tv.toInt := u2
        have u3 : tv.toInt ≤ 33000 := u3
        have hsum : (tv + dv).toInt = tv.toInt + dv.toInt := i32_val (by
          rw [Int32.ofInt_add, Int32.ofInt_toInt, Int32.ofInt_toInt]) (by omega) (by omega)
        have hL2 := yL_same k4 k2 hL hL0 hL1
        have hL3 : yL a2 a3 (mSt1 (mSt1 Nl2 6 (.int (tv + dv))) 7 (.int (Int32.ofInt 0))) := by
          obtain ⟨q0, ⟨x, q1, q2, q3⟩, qk, qb, q4⟩ := hL2
          refine ⟨mLk_ne (mLk_ne q0 (by omega) rfl) (by omega) rfl, ⟨x, mLk_ne (mLk_ne q1 (by omega) rfl) (by omega) rfl, q2, q3⟩, mLk_ne (mLk_ne qk (by omega) rfl) (by omega) rfl, mLk_ne (mLk_ne qb (by omega) rfl) (by omega) rfl, fun i a b => ?_⟩
          obtain ⟨x, q⟩ := q4 i a b
          exact ⟨x, mLk_ne (mLk_ne q (by omega) rfl) (by omega) rfl⟩
        obtain ⟨Nl4, d4, l1, l2, l3, l4⟩ := y166_lp (xs := xs) (L := L) hg2 102 _ (tv + dv) (Int32.ofInt 0) hL3 (mLk_ne mLk_same (by omega) rfl) mLk_same (by decide) (by decide) (by decide)
        obtain ⟨ρ3, B3, L3, ov3, r3, s3, hi3, hK3, hL03, hov3, hrr3, hs3⟩ := zRun_snd (X := fun _ _ => True) (N := N2) (Nl := Nl4) (XN := sXNl L) (XF := sXF xs) (List.all_eq_true.mp y166_3 m (List.mem_range.mpr (by omega))) (zRv_ok m) zXv_ok (fun _ _ h => by cases h) (zSx_x xs L) trivial hg2 (zRoom_0 hg2) (fun q hq => by
          rcases List.mem_append.mp hq with hq | hq
          · exact yL_six l1 q hq
          · obtain rfl := List.mem_singleton.mp hq
            exact ⟨_, l2, d4, rfl, z32 d4⟩) (fun q hq => by
          obtain rfl := List.mem_singleton.mp hq
          exact ⟨y9, e1, by rw [← e3]; exact Int.le_refl _, by rw [← e3]; exact Int.le_refl _⟩)
        cases s3 with
        | inl v => cases r3 with
          | inl y => cases hK3
          | inr w => exact hrr3.elim
        | inr z => cases r3 with
          | inl y => exact hrr3.elim
          | inr w =>
            have hK3 : (zIs w.2.1 1077257 (0, (m : Int) + 1) && (zIsL w.2.1 (1077960 + 7 * m) L3 6 && (zIsL w.2.1 (1077958 + 7 * m) L3 2 && zIsL w.2.1 (1077962 + 7 * m) L3 3))) = true := hK3
            obtain ⟨j1, j2⟩ := and_inv hK3
            obtain ⟨j2, j3⟩ := and_inv j2
            obtain ⟨j3, j4⟩ := and_inv j3
            obtain ⟨-, hM3⟩ := hrr3
            obtain ⟨z9, f1, f2⟩ := zIs_inv (x := (0, (m : Int) + 1)) j1 hM3
            have f3 : (m : Int) + 1 = z9.toInt := Option.some.inj f2
            have g1 := zIsL_inv j2 hM3 hL03 l2
            have g2 := zIsL_inv j3 hM3 hL03 l1.2.2.1
            have g3 := zIsL_inv j4 hM3 hL03 l1.2.2.2.1
            obtain ⟨N0, -, -, -, rl3, -⟩ := hM3
            have tk : zN z.2 7 = tv.toInt := by
              rw [zN_eq (N := N2) (k := 7) (rl3.2.2.2.1 1077255 (by decide) (by
                show zVk m 12 1077255 = true
                unfold zVk
                rw [show Nat.beq 12 1 = false from rfl, cond_false, show 1077255 / 2048 = 526 from rfl, show 1077255 % 2048 = 7 from rfl, show Nat.beq 526 526 = true from rfl, cond_true]
                refine not_i (fun q => ?_)
                simp only [Bool.or_eq_true, Bool.and_eq_true, Nat.beq_eq, Nat.ble_eq, Nat.blt_eq] at q
                omega)), zN_int (k := 7) t1]
            refine ⟨z, hs.2 z ?_, zXd_kept hpm (fun key a b => (rl3.2.2.2.1 key a b).trans (rl.2.2.2.1 key a b)) hm100 n9 (.inr ⟨by rw [zN_int (k := 9) f1, f3], ?_⟩) (fun _ q => ?_)⟩
            · refine st_iadd h_166_40 ?_
              refine st_istore h_166_41 (by rfl) ?_
              refine st_iconst h_166_43 ?_
              refine st_istore h_166_44 (by rfl) ?_
              exact l4 z hs3
            · rw [tk, zN_int (k := 712 + 7 * m) (x := d4) (by rw [show 1077248 + (712 + 7 * m) = 1077960 + 7 * m by omega]; exact g1)]
              omega
            · rw [zN_int (k := 710 + 7 * m) (x := a2) (by rw [show 1077248 + (710 + 7 * m) = 1077958 + 7 * m by omega]; exact g2)] at q
              rw [zN_int (k := 714 + 7 * m) (x := a3) (by rw [show 1077248 + (714 + 7 * m) = 1077962 + 7 * m by omega]; exact g3)]
              exact hkb q
end YSN
