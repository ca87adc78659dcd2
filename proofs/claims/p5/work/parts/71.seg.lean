/-! ===== segments of methods that are walked by hand ===== -/
/-- a place to come to: locals, stack, locals that are as before, cells -/
abbrev zQs : Type := Nat × (List (Nat × zL) × (List zA × (List Nat × List (Nat × (Int × Int)))))
/-- an end to come to: the answer, cells -/
abbrev zQe : Type := Option (Bool × (Int × Int)) × List (Nat × (Int × Int))
noncomputable def zKs (W : zW) (R : zR) (posts : List zQs) (ret : Option zQe) (L0 : List (Nat × sV)) (_ : List sV) (_ : zO) : zK := fun B r => match r with
  | .inr w => (match ret with
    | some rt => Nat.ble w.2.2.1 R.2.1 && (zFl W B w.2.1 && (zRt B rt.1 w.1 && rt.2.all (zCe B w.2.1)))
    | none => false)
  | .inl (pc, L, S, M) => Nat.ble M.2.1 R.2.1 && (zFl W B M.1 && posts.any fun p => Nat.beq p.1 pc && ((p.2.1.all fun q => zLw 0 q.2 && match sLk L q.1 with
    | some v => zLok B q.2 v
    | none => false) && (zArs B p.2.2.1 S && (p.2.2.2.1.all (zSm L0 L) && p.2.2.2.2.all (zCe B M.1)))))
noncomputable def zSeg (W : zW) (R : zR) (mi fr lo pc : Nat) (ls : List (Nat × zL)) (ss : List zA) (cs : List (Nat × zL)) (posts : List zQs) (ret : Option zQe) : Bool :=
  zRunS mTab mInf W R sXX (fun pc => posts.any fun p => Nat.beq p.1 pc) 100000 fr lo mi pc ls ss cs (zKs W R posts ret)
noncomputable def zCs (N : mMem) (cs : List (Nat × (Int × Int))) : Prop := ∀ c ∈ cs, ∃ x : Int32, mAtk N c.1 = .int x ∧ c.2.1 ≤ x.toInt ∧ x.toInt ≤ c.2.2
section ZSG
variable {W : zW} {X : mMem → mMem → Prop} {R : zR} {XN : Nat → Nat} {XF : Nat → Nat → Int32}
theorem zCe_inv {c0 : Nat} {T : Nat → List mE} {I : Nat → mI} {ρ : List Int} {B : zB} {M : zM} {Ne N : mMem} {cs : List (Nat × (Int × Int))} (hi : zIn ρ B) (hM : zMR W X c0 T I XN XF Ne ρ M N) (h : cs.all (zCe B M.1) = true) : zCs N cs := fun c hc => by
  obtain ⟨N0, -, -, ho, -, -⟩ := hM
  have q := List.all_eq_true.mp h c hc
  unfold zCe at q
  split at q
  · next x d hx =>
    obtain ⟨-, b2, -⟩ := ho.2 _ _ _ hx
    obtain ⟨y, hy, hy2⟩ := zRel_i b2
    exact ⟨y, hy, zFits_inv q hi hy2⟩
  · cases q
noncomputable def zPost (W : zW) (X : mMem → mMem → Prop) (R : zR) (Nl : List (Nat × Value)) (N : mMem) (p : zQs) (Nl2 : List (Nat × Value)) (V2 : List Value) (N2 : mMem) : Prop :=
  (∀ q ∈ p.2.1, ∃ v, mLk Nl2 q.1 = some v ∧ zLv [] q.2 v) ∧ sAll zArV p.2.2.1 V2 ∧ (∀ i ∈ p.2.2.2.1, ∃ x : Int32, mLk Nl i = some (.int x) ∧ mLk Nl2 i = some (.int x)) ∧ zCs N2 p.2.2.2.2 ∧ zGood W N2 ∧ zRl W X R.1 R.2.1 N N2
theorem zSeg_snd {mi fr lo pc : Nat} {ls cs : List (Nat × zL)} {ss : List zA} {posts : List zQs} {ret : Option zQe} {N : mMem} {Nl : List (Nat × Value)} {V : List Value} (h : zSeg W R mi fr lo pc ls ss cs posts ret = true) (hW : zWok W) (hX : zXok W X R.1) (hv : ∀ mi, ∀ i ∈ zWi W mi, zVal W X mTab mInf XN XF mi i) (hsX : zSx XN XF sXX)
    (hx0 : X N N) (hg : zGood W N) (hroom : zRoom W R.2.1 N) (hl : ∀ q ∈ ls, ∃ v, mLk Nl q.1 = some v ∧ zLv [] q.2 v) (hs : sAll zArV ss V) (hc : ∀ q ∈ cs, zLv [] q.2 (mAtk N q.1)) :
    (∃ p ∈ posts, ∃ Nl2 V2 N2, zPost W X R Nl N p Nl2 V2 N2 ∧ ∀ z, mRuns mTab mInf XN XF fr lo mi (p.1, Nl2, V2, N2) z → mRuns mTab mInf XN XF fr lo mi (pc, Nl, V, N) z) ∨
    (∃ rt, ret = some rt ∧ ∃ z, mRuns mTab mInf XN XF fr lo mi (pc, Nl, V, N) z ∧ zGood W z.2 ∧ zRl W X R.1 R.2.1 N z.2 ∧ zAnV rt.1 z.1 ∧ zCs z.2 rt.2) := by
  obtain ⟨ρ, B, L0, S0, ov, r, s, hi, hK, hL0, -, -, hrr, hs⟩ := zRunS_snd h hW hX hv hsX hx0 hg hroom hl hs hc
  cases r with
  | inr w => cases s with
    | inl v => exact hrr.elim
    | inr z =>
      unfold zKs at hK
      dsimp only at hK
      cases ret with
      | none => cases hK
      | some rt =>
        obtain ⟨h1, h2⟩ := and_inv hK
        obtain ⟨h2, h3⟩ := and_inv h2
        obtain ⟨h3, h4⟩ := and_inv h3
        have hg2 := zFl_inv hW h2 hi hrr.2
        obtain ⟨N0, -, -, -, rl, -⟩ := id hrr.2
        exact .inr ⟨rt, rfl, z, hs, hg2, zRl_le rl (Nat.le_of_ble_eq_true h1), zRt_inv hi h3 hrr.1, zCe_inv hi hrr.2 h4⟩
  | inl y => cases s with
    | inr z => exact hrr.elim
    | inl v =>
      obtain ⟨pc1, L1, S1, M⟩ := y
      obtain ⟨pc2, Nl2, V2, N2⟩ := v
      obtain ⟨hp, hL1, hS1, hM⟩ := hrr
      have hp : pc1 = pc2 := hp
      subst hp
      have hK : (Nat.ble M.2.1 R.2.1 && (zFl W B M.1 && posts.any fun p => Nat.beq p.1 pc1 && ((p.2.1.all fun q => zLw 0 q.2 && match sLk L1 q.1 with
        | some v => zLok B q.2 v
        | none => false) && (zArs B p.2.2.1 S1 && (p.2.2.2.1.all (zSm L0 L1) && p.2.2.2.2.all (zCe B M.1)))))) = true := hK
      obtain ⟨h1, g1⟩ := and_inv hK
      obtain ⟨h2, g2⟩ := and_inv g1
      obtain ⟨p, hpp, g3⟩ := List.any_eq_true.mp g2
      obtain ⟨k1, g4⟩ := and_inv g3
      obtain ⟨k2, g5⟩ := and_inv g4
      obtain ⟨k3, g6⟩ := and_inv g5
      obtain ⟨k4, k5⟩ := and_inv g6
      have k1 := Nat.eq_of_beq_eq_true k1
      subst k1
      have hg2 := zFl_inv hW h2 hi hM
      obtain ⟨N0, -, -, -, rl, -⟩ := id hM
      refine .inl ⟨p, hpp, Nl2, V2, N2, ⟨fun q hq => ?_, zArs_inv hi k3 hS1, fun i hii => zSm_inv (List.all_eq_true.mp k4 i hii) hL0 hL1, zCe_inv hi hM k5, hg2, zRl_le rl (Nat.le_of_ble_eq_true h1)⟩, hs.2⟩
      obtain ⟨g0, g⟩ := and_inv (List.all_eq_true.mp k2 q hq)
      split at g
      · next b hb =>
        obtain ⟨v, e1, e2⟩ := hL1 _ _ hb
        exact ⟨v, e1, zLok_inv (ρ0 := []) (e0 := ρ) g hi rfl e2 g0⟩
      · cases g
end ZSG
/-! ===== the world of what is told: all else stands ===== -/
noncomputable def zTk (c key : Nat) : Bool := Nat.beq c 1 || (!(Nat.beq key 1075200) && (!(Nat.beq c 15) || !(Nat.beq key 1075203 || Nat.beq key 1075204)))
noncomputable def zTu (c d : Nat) : Bool := Nat.beq c d || Nat.beq c 1
noncomputable def zT1 (mi : Nat) : List zS := (zQt mi).filter fun i => Nat.beq (zSq i) 1
/-- the check's world, where what is told alone is written (15: and what is followed), con: what is agreed of methods that only read -/
noncomputable def zTw0 (con : Nat → List zS) : zW := (zObR, (zRs, (zRc, (zTk, (zRct, (con, (zTu, zRx)))))))
theorem zTw0_ok (con : Nat → List zS) : zWok (zTw0 con) := by
  obtain ⟨a1, a2, a3, a4, a5, a6, a7, a8⟩ := zRw_ok zRx (fun _ => [])
  refine ⟨a1, a2, fun c key hc h => rfl, a4, a5, fun c d h => ?_, fun key => rfl, a8⟩
  rcases Bool.or_eq_true_iff.mp h with h | h
  · have h := Nat.eq_of_beq_eq_true h
    subst h
    exact ⟨fun h => h, fun _ _ h => h⟩
  · have h := Nat.eq_of_beq_eq_true h
    subst h
    exact ⟨fun _ => rfl, fun _ _ _ => rfl⟩
theorem zTp_ok {con : Nat → List zS} {c : Nat} : zXok (zTw0 con) zXp c := ⟨fun _ _ _ h1 h2 => ⟨h1.1, h2.2⟩, fun N N1 h hk => ⟨h.1, (zPm_kept (fun key a b => hk key a (.inr b))).2.2 h.1⟩, fun _ _ h => ⟨h.2, h.2⟩⟩
/-- what only reads is agreed of there, too -/
theorem zVal_t {con c2 : Nat → List zS} {T : Nat → List mE} {I : Nat → mI} {XN : Nat → Nat} {XF : Nat → Nat → Int32} {mi : Nat} {i : zS} (hq : zSq i = 1) (h : zVal (zRw zRx con) zXp T I XN XF mi i) : zVal (zTw0 c2) zXp T I XN XF mi i := fun N bs hx hg ha hc hr => by
  obtain ⟨v, N1, h1, h2, h3, h4, h5⟩ := h N bs hx hg ha hc hr
  have hN : N1 = N := h3.1 hq
  subst hN
  exact ⟨v, N1, h1, h2, ⟨fun _ => rfl, rfl, rfl, fun _ _ _ => rfl, h3.2.2.2.2.1, h3.2.2.2.2.2⟩, h4, h5⟩
theorem zT1_val {XN : Nat → Nat} {XF : Nat → Nat → Int32} (H : ∀ mi, ∀ i ∈ zQt mi, zVal zR9 zXp mTab mInf XN XF mi i) : ∀ mi, ∀ i ∈ zWi (zTw0 zT1) mi, zVal (zTw0 zT1) zXp mTab mInf XN XF mi i := fun mi i hi => by
  obtain ⟨a, b⟩ := List.mem_filter.mp (show i ∈ (zQt mi).filter fun i => Nat.beq (zSq i) 1 from hi)
  exact zVal_t (Nat.eq_of_beq_eq_true b) (H mi i a)
theorem zQt_val {XN : Nat → Nat} {XF : Nat → Nat → Int32} (H : ∀ mi, ∀ i ∈ zQt mi, zVal zR9 zXp mTab mInf XN XF mi i) : ∀ mi, ∀ i ∈ zWi (zRw zRx zQt) mi, zVal (zRw zRx zQt) zXp mTab mInf XN XF mi i := fun mi i hi => H mi i hi
/-! ===== a row that lays a field ===== -/
section YST2
variable {T : Nat → List mE} {I : Nat → mI} {XN : Nat → Nat} {XF : Nat → Nat → Int32} {fr lo mi pc len : Nat} {ri : ClassFile.Instr} {v : Int} {r1 r2 wi : Nat} {L : List (Nat × Value)} {S : List Value} {M : mMem} {r : Option Value × mMem}
theorem st_putfield {i o : Nat} {w : Value} (he : mFind (T mi) pc = some (pc, len, ri, .putfield i, v, r1, r2, wi)) (h1 : Nat.blt o M.1 = true) (h2 : Nat.beq (mObj M o).1 r1 = true) (h3 : Nat.blt r2 (mObj M o).2.1 = true) (h4 : Nat.ble (mObj M o).2.1 2048 = true) (h5 : mFit (mTyX r1 r2) w = true) (k : mRuns T I XN XF fr lo mi (pc + len, L, S, mPut M o (mCset (mObj M o) r2 w)) r) : mRuns T I XN XF fr lo mi (pc, L, w :: .ref o :: S, M) r :=
  st_0 he (fun _ => (mWhen_t (by rw [h1, h2, h3, h4, h5]; rfl)).trans rfl) k
end YST2
