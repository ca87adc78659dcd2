/-! ===== the law's loop; written by wip/box/gen85.py ===== -/
theorem h_253_18 : mFind (mTab 253) 18 = some (18, 1, .iload_n 3, .iload 3, 0, 0, 0, 0) := mFb_eq (by decide +kernel)
theorem h_253_19 : mFind (mTab 253) 19 = some (19, 1, .aload_n 0, .aload 0, 0, 0, 0, 0) := mFb_eq (by decide +kernel)
theorem h_253_20 : mFind (mTab 253) 20 = some (20, 1, .arraylength, .arraylength, 0, 0, 0, 0) := mFb_eq (by decide +kernel)
theorem h_253_21 : mFind (mTab 253) 21 = some (21, 1, .iconst 5, .iconst 0, 5, 0, 0, 0) := mFb_eq (by decide +kernel)
theorem h_253_22 : mFind (mTab 253) 22 = some (22, 1, .isub, .isub, 0, 0, 0, 0) := mFb_eq (by decide +kernel)
theorem h_253_23 : mFind (mTab 253) 23 = some (23, 3, .if_icmp .gt 1227, .if_icmp .gt 1227, 0, 1250, 0, 0) := mFb_eq (by decide +kernel)
theorem h_253_1244 : mFind (mTab 253) 1244 = some (1244, 3, .iinc 3 5, .iinc 3 5, 5, 0, 0, 0) := mFb_eq (by decide +kernel)
theorem h_253_1247 : mFind (mTab 253) 1247 = some (1247, 3, .goto (-1229), .goto (-1229), 0, 18, 0, 0) := mFb_eq (by decide +kernel)
theorem h_253_1250 : mFind (mTab 253) 1250 = some (1250, 1, .iconst 1, .iconst 0, 1, 0, 0, 0) := mFb_eq (by decide +kernel)
theorem h_253_1251 : mFind (mTab 253) 1251 = some (1251, 1, .ireturn, .ireturn, 0, 0, 0, 0) := mFb_eq (by decide +kernel)
abbrev lA : Type := Nat × Nat
noncomputable def lI64 : Int × Int := (-9223372036854775808, 9223372036854775807)
noncomputable def lBx : List (Int × Int) := [zR32, zR32, zR32, zR32, zR32, (0, 2555)]
noncomputable def lL : List (Nat × sV) := [(3, .inl (1, 0)), (0, .inr (.inr (some 1000000))), (1, .inr (.inr (some 0))), (2, .inr (.inr (some 525)))]
noncomputable def lLk1 (L : List (Nat × sV)) (i : Nat) (b : sV) : Bool := match sLk L i with
  | some a => sEqV a b
  | none => false
noncomputable def lLk (L : List (Nat × sV)) : Bool := lLk1 L 0 (.inr (.inr (some 1000000))) && (lLk1 L 1 (.inr (.inr (some 0))) && (lLk1 L 2 (.inr (.inr (some 525))) && lLk1 L 3 (.inl (1, 0))))
/-- an argument: kind 0: a number of the script as it is; 1: whether it isn't 0; 2: a long -/
noncomputable def lOk (B : zB) (a : lA) (v : sV) : Bool := match a.1, v with
  | 0, .inl x => sEqI x (2 + a.2, 0)
  | 1, .inl x => (sEqI x (0, 0) && zFits B (2 + a.2, 0) 0 0) || (sEqI x (0, 1) && (zFits B (2 + a.2, 0) (-2147483648) (-1) || zFits B (2 + a.2, 0) 1 2147483647))
  | 2, .inr (.inl _) => true
  | _, _ => false
noncomputable def lSt (B : zB) (o : Nat) (rest : List sV → Bool) : List lA → List sV → Bool
  | [], S => (match S with
    | .inr (.inr (some p)) :: r => Nat.beq p o && rest r
    | _ => false)
  | a :: rs, S => (match S with
    | v :: r => lOk B a v && lSt B o rest rs r
    | [] => false)
noncomputable def lV (s : Nat → Int32) (a : lA) (v : Value) : Prop := match a.1 with
  | 0 => v = .int (s a.2)
  | 1 => v = .int (if (s a.2).toInt = 0 then Int32.ofInt 0 else Int32.ofInt 1)
  | _ => ∃ x : Int64, v = .long x
noncomputable def lNo (i : Nat) (Nl : List (Nat × Value)) : Prop := mLk Nl 0 = some (.ref 1000000) ∧ mLk Nl 1 = some (.ref 0) ∧ mLk Nl 2 = some (.ref 525) ∧ mLk Nl 3 = some (.int (yI i))
theorem lLk1_inv {ρ : List Int} {L : List (Nat × sV)} {Nl : List (Nat × Value)} {i : Nat} {b : sV} (h : lLk1 L i b = true) (hL : zLR ρ L Nl) : ∃ v, mLk Nl i = some v ∧ zRel ρ b v := by
  unfold lLk1 at h
  split at h
  · next a ha =>
    obtain ⟨v, h1, h2⟩ := hL i a ha
    rw [sEqV_eq h] at h2
    exact ⟨v, h1, h2⟩
  · cases h
theorem lN_inv {ρ : List Int} {L : List (Nat × sV)} {Nl : List (Nat × Value)} {i : Nat} (h : lLk L = true) (hL : zLR ρ L Nl) (hi : zAt ρ (1, 0) = some (i : Int)) : lNo i Nl := by
  obtain ⟨h0, g1⟩ := and_inv h
  obtain ⟨h1, g2⟩ := and_inv g1
  obtain ⟨h2, h3⟩ := and_inv g2
  obtain ⟨v0, a0, b0⟩ := lLk1_inv h0 hL
  obtain ⟨v1, a1, b1⟩ := lLk1_inv h1 hL
  obtain ⟨v2, a2, b2⟩ := lLk1_inv h2 hL
  obtain ⟨v3, a3, b3⟩ := lLk1_inv h3 hL
  rw [zRel_r b0] at a0
  rw [zRel_r b1] at a1
  rw [zRel_r b2] at a2
  obtain ⟨y, e, c3⟩ := zRel_i b3
  rw [e] at a3
  rw [hi] at c3
  have : y = yI i := yI_of (Option.some.inj c3).symm
  rw [this] at a3
  exact ⟨a0, a1, a2, a3⟩
theorem lN_L {ρ : List Int} {Nl : List (Nat × Value)} {i : Nat} (h : lNo i Nl) (hi : zAt ρ (1, 0) = some (i : Int)) (hi2 : i < 2147483648) : zLR ρ lL Nl := fun k a hk => by
  obtain ⟨h0, h1, h2, h3⟩ := h
  unfold lL at hk
  rw [sLk_cons] at hk
  rcases bif_inv2 hk with ⟨c, hk⟩ | ⟨-, hk⟩
  · cases hk
    have c : 3 = k := Nat.eq_of_beq_eq_true c
    subst c
    exact ⟨_, h3, by show zAt ρ (1, 0) = some (yI i).toInt; rw [hi, yI_int hi2]⟩
  rw [sLk_cons] at hk
  rcases bif_inv2 hk with ⟨c, hk⟩ | ⟨-, hk⟩
  · cases hk
    have c : 0 = k := Nat.eq_of_beq_eq_true c
    subst c
    exact ⟨_, h0, rfl⟩
  rw [sLk_cons] at hk
  rcases bif_inv2 hk with ⟨c, hk⟩ | ⟨-, hk⟩
  · cases hk
    have c : 1 = k := Nat.eq_of_beq_eq_true c
    subst c
    exact ⟨_, h1, rfl⟩
  rw [sLk_cons] at hk
  rcases bif_inv2 hk with ⟨c, hk⟩ | ⟨-, hk⟩
  · cases hk
    have c : 2 = k := Nat.eq_of_beq_eq_true c
    subst c
    exact ⟨_, h2, rfl⟩
  · cases hk
theorem lOk_inv {ρ : List Int} {B : zB} {a : lA} {v : sV} {w : Value} {s : Nat → Int32} (hi : zIn ρ B) (h : lOk B a v = true) (hr : zRel ρ v w) (hs : zAt ρ (2 + a.2, 0) = some (s a.2).toInt) : lV s a w := by
  obtain ⟨k, c⟩ := a
  unfold lOk at h
  split at h
  · next x hk =>
    have hk : k = 0 := hk
    subst hk
    obtain ⟨y, e, hy⟩ := zRel_i hr
    rw [sEqI_eq h] at hy
    have hs : zAt ρ (2 + c, 0) = some (s c).toInt := hs
    have hy : zAt ρ (2 + c, 0) = some y.toInt := hy
    rw [hs] at hy
    have e2 : s c = y := Int32.toInt_inj.mp (Option.some.inj hy)
    show w = .int (s c)
    rw [e, e2]
  · next x hk =>
    have hk : k = 1 := hk
    subst hk
    obtain ⟨y, e, hy⟩ := zRel_i hr
    have hs : zAt ρ (2 + c, 0) = some (s c).toInt := hs
    show w = .int (if (s c).toInt = 0 then Int32.ofInt 0 else Int32.ofInt 1)
    rcases (Bool.or_eq_true _ _).mp h with q | q
    · obtain ⟨q1, q2⟩ := and_inv q
      rw [sEqI_eq q1] at hy
      have q2 := zFits_inv q2 hi hs
      have hy : (0 : Int) = y.toInt := Option.some.inj hy
      rw [if_pos (by omega), e, Int32.toInt_inj.mp (show y.toInt = (Int32.ofInt 0).toInt by rw [← hy]; decide)]
    · obtain ⟨q1, q2⟩ := and_inv q
      rw [sEqI_eq q1] at hy
      have hy : (1 : Int) = y.toInt := Option.some.inj hy
      have ne : ¬ (s c).toInt = 0 := by
        rcases (Bool.or_eq_true _ _).mp q2 with q3 | q3
        · have := zFits_inv q3 hi hs
          omega
        · have := zFits_inv q3 hi hs
          omega
      rw [if_neg ne, e, Int32.toInt_inj.mp (show y.toInt = (Int32.ofInt 1).toInt by rw [← hy]; decide)]
  · next x hk =>
    have hk : k = 2 := hk
    subst hk
    obtain ⟨y, e, -⟩ := zRel_l hr
    exact ⟨y, e⟩
  · cases h
theorem lSt_inv {ρ : List Int} {B : zB} {o : Nat} {rest : List sV → Bool} {s : Nat → Int32} (hi : zIn ρ B) (hs : ∀ c, c ≤ 4 → zAt ρ (2 + c, 0) = some (s c).toInt) : ∀ (rs : List lA) (S : List sV) (V : List Value), (∀ a ∈ rs, a.2 ≤ 4) → lSt B o rest rs S = true → zSR ρ S V → ∃ as r V2, V = as ++ .ref o :: V2 ∧ sAll (lV s) rs as ∧ rest r = true ∧ zSR ρ r V2
  | [], S, V, _, h, hS => by
    unfold lSt at h
    split at h
    · next p r =>
      obtain ⟨h1, h2⟩ := and_inv h
      have h1 := Nat.eq_of_beq_eq_true h1
      subst h1
      obtain ⟨v, V2, e, r1, hS2⟩ := sAll_cons hS
      rw [zRel_r r1] at e
      exact ⟨[], r, V2, e, trivial, h2, hS2⟩
    · cases h
  | a :: rs, S, V, ha, h, hS => by
    unfold lSt at h
    split at h
    · next v r =>
      obtain ⟨h1, h2⟩ := and_inv h
      obtain ⟨w, V2, e, r1, hS2⟩ := sAll_cons hS
      obtain ⟨as, r2, V3, e2, q1, q2, q3⟩ := lSt_inv hi hs rs r V2 (fun b hb => ha b (List.mem_cons_of_mem _ hb)) h2 hS2
      exact ⟨w :: as, r2, V3, by rw [e, e2]; rfl, ⟨lOk_inv hi h1 r1 (hs _ (ha a List.mem_cons_self)), q1⟩, q2, q3⟩
    · cases h
noncomputable def lGo (stop : Nat → Bool) (f pc : Nat) (S : List sV) (bx : List (Int × Int)) (K : zK) : Bool := zGo mTab mInf zR9 (1, (0, false)) true sXX stop f 12 460 253 (pc, (lL, (S, ([], (0, none))))) (bx.length, (bx, [])) K
section YLA
variable {xs : Nat → Int32} {L : Nat}
noncomputable def lRho (xs : Nat → Int32) (i : Nat) : List Int := [(i : Int), (xs (i + 0)).toInt, (xs (i + 1)).toInt, (xs (i + 2)).toInt, (xs (i + 3)).toInt, (xs (i + 4)).toInt]
theorem lRho_s (i : Nat) (ex : List Int) : ∀ c, c ≤ 4 → zAt (lRho xs i ++ ex) (2 + c, 0) = some (xs (i + c)).toInt := fun c hc => by
  obtain rfl | rfl | rfl | rfl | rfl := (by omega : c = 0 ∨ c = 1 ∨ c = 2 ∨ c = 3 ∨ c = 4)
  · show some ((xs (i + 0)).toInt + 0) = _; rw [Int.add_zero]
  · show some ((xs (i + 1)).toInt + 0) = _; rw [Int.add_zero]
  · show some ((xs (i + 2)).toInt + 0) = _; rw [Int.add_zero]
  · show some ((xs (i + 3)).toInt + 0) = _; rw [Int.add_zero]
  · show some ((xs (i + 4)).toInt + 0) = _; rw [Int.add_zero]
theorem lRho_i (i : Nat) (ex : List Int) : zAt (lRho xs i ++ ex) (1, 0) = some (i : Int) := by
  show some ((i : Int) + 0) = _
  rw [Int.add_zero]
theorem lIn6 {i : Nat} (hi : i ≤ 2555) : zIn (lRho xs i ++ []) (lBx.length, (lBx, [])) := by
  refine ⟨rfl, rfl, fun k q a hq ha => ?_, fun q hq => by cases hq⟩
  have hk := zAt_le ha
  have hk : k ≤ 6 := hk
  have z := fun c => z32 (xs (i + c))
  obtain rfl | rfl | rfl | rfl | rfl | rfl | rfl := (by omega : k = 0 ∨ k = 1 ∨ k = 2 ∨ k = 3 ∨ k = 4 ∨ k = 5 ∨ k = 6)
  · cases hq; cases ha; exact ⟨Int.le_refl _, Int.le_refl _⟩
  · have ha : some ((i : Int) + 0) = some a := ha
    cases hq; cases ha
    exact ⟨by show (0 : Int) ≤ _; omega, by show _ ≤ (2555 : Int); omega⟩
  · have ha : some ((xs (i + 0)).toInt + 0) = some a := ha
    cases hq; cases ha; rw [Int.add_zero]; exact z 0
  · have ha : some ((xs (i + 1)).toInt + 0) = some a := ha
    cases hq; cases ha; rw [Int.add_zero]; exact z 1
  · have ha : some ((xs (i + 2)).toInt + 0) = some a := ha
    cases hq; cases ha; rw [Int.add_zero]; exact z 2
  · have ha : some ((xs (i + 3)).toInt + 0) = some a := ha
    cases hq; cases ha; rw [Int.add_zero]; exact z 3
  · have ha : some ((xs (i + 4)).toInt + 0) = some a := ha
    cases hq; cases ha; rw [Int.add_zero]; exact z 4
theorem lIn7 {i : Nat} (hi : i ≤ 2555) {r : Int × Int} {v : Int} (h1 : r.1 ≤ v) (h2 : v ≤ r.2) : zIn (lRho xs i ++ [v]) ((r :: lBx).length, (r :: lBx, [])) := by
  refine ⟨rfl, rfl, fun k q a hq ha => ?_, fun q hq => by cases hq⟩
  have hk := zAt_le ha
  have hk : k ≤ 7 := hk
  have z := fun c => z32 (xs (i + c))
  obtain rfl | rfl | rfl | rfl | rfl | rfl | rfl | rfl := (by omega : k = 0 ∨ k = 1 ∨ k = 2 ∨ k = 3 ∨ k = 4 ∨ k = 5 ∨ k = 6 ∨ k = 7)
  · cases hq; cases ha; exact ⟨Int.le_refl _, Int.le_refl _⟩
  · have ha : some ((i : Int) + 0) = some a := ha
    cases hq; cases ha
    exact ⟨by show (0 : Int) ≤ _; omega, by show _ ≤ (2555 : Int); omega⟩
  · have ha : some ((xs (i + 0)).toInt + 0) = some a := ha
    cases hq; cases ha; rw [Int.add_zero]; exact z 0
  · have ha : some ((xs (i + 1)).toInt + 0) = some a := ha
    cases hq; cases ha; rw [Int.add_zero]; exact z 1
  · have ha : some ((xs (i + 2)).toInt + 0) = some a := ha
    cases hq; cases ha; rw [Int.add_zero]; exact z 2
  · have ha : some ((xs (i + 3)).toInt + 0) = some a := ha
    cases hq; cases ha; rw [Int.add_zero]; exact z 3
  · have ha : some ((xs (i + 4)).toInt + 0) = some a := ha
    cases hq; cases ha; rw [Int.add_zero]; exact z 4
  · have ha : some (v + 0) = some a := ha
    cases hq; cases ha; rw [Int.add_zero]; exact ⟨h1, h2⟩
theorem lGo_snd {stop : Nat → Bool} {f pc i : Nat} {S : List sV} {bx : List (Int × Int)} {K : zK} {ex : List Int} {N : mMem} {Nl : List (Nat × Value)} {V : List Value} (h : lGo stop f pc S bx K = true) (hin : zIn (lRho xs i ++ ex) (bx.length, (bx, []))) (hi : i + 4 < L) (hi2 : i ≤ 2555) (hL : lNo i Nl) (hS : zSR (lRho xs i ++ ex) S V) (hg : zGood zR9 N) (hK : ∀ B w, K B (.inr w) = false) :
    ∃ e B2 pc2 L2 S2 M2 Nl2 V2, zIn (lRho xs i ++ e) B2 ∧ K B2 (.inl (pc2, (L2, (S2, M2)))) = true ∧ zLR (lRho xs i ++ e) L2 Nl2 ∧ zSR (lRho xs i ++ e) S2 V2 ∧ (∃ e2, e = ex ++ e2) ∧ ∀ z, mRuns mTab mInf (sXNl L) (sXF xs) 12 460 253 (pc2, Nl2, V2, N) z → mRuns mTab mInf (sXNl L) (sXF xs) 12 460 253 (pc, Nl, V, N) z := by
  unfold lGo at h
  have hroom : zRoom zR9 0 N := fun key hk hw => by
    obtain ⟨q, hq⟩ := (zRw_ok zRx (fun _ => [])).2.2.2.1 key hw
    obtain ⟨x, hx, -, -⟩ := hg.2.1 key hk _ hq
    have := x.toInt_lt
    exact ⟨x, hx, by omega⟩
  obtain ⟨e, B2, r, s, h1, h2, h3, h4⟩ := z_go (X := fun _ _ => True) (R := (1, (0, false))) (XN := sXNl L) (XF := sXF xs) (Ne := N) (zRw_ok zRx _) zX0_ok hroom (fun _ _ h => by cases h) (zSx_x xs L) stop f 12 460 253 _ _ K (lRho xs i ++ ex) h hin (fun _ => ⟨i, lRho_i i ex, hi, fun c hc => lRho_s i ex c hc⟩) (pc, Nl, V, N) ⟨rfl, lN_L hL (lRho_i i ex) (by omega), hS, ⟨N, hg, hg.1, ⟨fun _ _ _ _ => .inr rfl, fun key a d hk => by cases hk⟩, zRl_0 trivial hroom, zDet_none⟩⟩
  cases r with
  | inr w => rw [hK] at h2; cases h2
  | inl y => cases s with
    | inr z => exact h3.elim
    | inl v =>
      obtain ⟨pc2, L2, S2, M2⟩ := y
      obtain ⟨pc3, Nl2, V2, N2⟩ := v
      obtain ⟨hp, hL2, hS2, hM2⟩ := h3
      have hp : pc2 = pc3 := hp
      obtain ⟨N0, -, -, -, rl, -⟩ := hM2
      have hN : N2 = N := rl.1 rfl
      rw [List.append_assoc] at h1 hL2 hS2
      refine ⟨ex ++ e, B2, pc2, L2, S2, M2, Nl2, V2, h1, h2, hL2, hS2, ⟨e, rfl⟩, fun z hz => h4.2 z ?_⟩
      rw [hp, ← hN] at hz
      exact hz
noncomputable def lK1 (tb : List (Nat × List lA)) : zK := fun B r => match r with
  | .inr _ => false
  | .inl (pc, L, S, _) => lLk L && ((Nat.beq pc 1244 && S.isEmpty) || tb.any fun e => Nat.beq e.1 pc && lSt B 0 (fun r => r.isEmpty) e.2.reverse S)
noncomputable def lOne (r : List sV) : Bool := match r with
  | [.inl x] => sEqI x (7, 0)
  | _ => false
noncomputable def lK2 (pcm : Nat) (ar : List lA) (cmp : Bool) : zK := fun B r => match r with
  | .inr _ => false
  | .inl (pc, L, S, _) => Nat.beq pc pcm && (lLk L && lSt B 525 (fun r => bif cmp then lOne r else r.isEmpty) ar.reverse S)
noncomputable def lK3 : zK := fun _ r => match r with
  | .inr _ => false
  | .inl (pc, L, S, _) => Nat.beq pc 1244 && (lLk L && S.isEmpty)
noncomputable def lR (lg : Bool) : sV := bif lg then .inr (.inl (7, 0)) else .inl (7, 0)
noncomputable def lFit (lg : Bool) (q : Int × Int) (v : Value) : Prop := bif lg then ∃ x : Int64, v = .long x ∧ q.1 ≤ x.toInt ∧ x.toInt ≤ q.2 else ∃ x : Int32, v = .int x ∧ q.1 ≤ x.toInt ∧ x.toInt ≤ q.2
noncomputable def lRow (pc m cls : Nat) : Bool := match mFind (mTab 253) pc with
  | some (p, len, _, ni, _, r1, r2, _) => (Nat.beq p pc && Nat.beq len 3) && ((Nat.beq r1 m && Nat.beq r2 cls) && (match ni with
    | .invokevirtual _ => true
    | _ => false))
  | none => false
theorem lRow_inv {pc m cls : Nat} (h : lRow pc m cls = true) : ∃ ri i v wi, mFind (mTab 253) pc = some (pc, 3, ri, .invokevirtual i, v, m, cls, wi) := by
  unfold lRow at h
  split at h
  · next p len ri ni v r1 r2 wi he =>
    obtain ⟨h1, h2⟩ := and_inv h
    obtain ⟨a, b⟩ := and_inv h1
    obtain ⟨h3, h4⟩ := and_inv h2
    obtain ⟨c, d⟩ := and_inv h3
    have a := Nat.eq_of_beq_eq_true a
    have b := Nat.eq_of_beq_eq_true b
    have c := Nat.eq_of_beq_eq_true c
    have d := Nat.eq_of_beq_eq_true d
    split at h4
    · next i => exact ⟨ri, i, v, wi, by rw [he, a, b, c, d]⟩
    · cases h4
  · cases h
noncomputable def lCat (ar : List lA) : Nat := (ar.map fun a => if a.1 = 2 then 2 else 1).sum
noncomputable def lAr (m : Nat) (ar : List lA) : Bool := Nat.beq (mInf m).2.2.2.2.2.1 (ar.length + 1) && (Nat.ble (lCat ar + 1) (mInf m).2.2.1 && (Nat.ble (319 + (mInf m).2.2.1) 460 && ar.all fun a => Nat.ble a.2 4 && Nat.ble a.1 2))
theorem lCat_ok {s : Nat → Int32} : ∀ {ar : List lA} {bs : List Value}, (∀ a ∈ ar, a.1 ≤ 2) → sAll (lV s) ar bs → mCats bs = lCat ar ∧ bs.length = ar.length
  | [], bs, _, h => by rw [sAll_nil h]; exact ⟨rfl, rfl⟩
  | a :: ar, bs, ha, h => by
    obtain ⟨v, m, e, h1, h2⟩ := sAll_cons h
    obtain ⟨q1, q2⟩ := lCat_ok (fun b hb => ha b (List.mem_cons_of_mem _ hb)) h2
    rw [e]
    have hv : v.category = if a.1 = 2 then 2 else 1 := by
      obtain ⟨k, c⟩ := a
      have hk : k ≤ 2 := ha _ List.mem_cons_self
      obtain rfl | rfl | rfl := (by omega : k = 0 ∨ k = 1 ∨ k = 2)
      · have h1 : v = .int (s c) := h1
        rw [h1]; rfl
      · have h1 : v = .int (if (s c).toInt = 0 then Int32.ofInt 0 else Int32.ofInt 1) := h1
        rw [h1]; rfl
      · obtain ⟨x, rfl⟩ := h1
        rfl
    refine ⟨?_, by rw [List.length_cons, List.length_cons, q2]⟩
    show v.category + mCats m = (if a.1 = 2 then 2 else 1) + lCat ar
    rw [hv, q1]
/-- a call in the law -/
theorem lCall {pc m cls o : Nat} {ar : List lA} {s : Nat → Int32} {as V2 : List Value} {N N1 : mMem} {Nl : List (Nat × Value)} {w : Value} (hr : lRow pc m cls = true) (ha : lAr m ar = true) (hs : sAll (lV s) ar.reverse as) (h1 : Nat.blt o N.1 = true) (h2 : Nat.beq (mObj N o).1 cls = true) (hV : Nat.ble (mCats V2) 8 = true)
    (run : ∀ bs, sAll (lV s) ar bs → bs = as.reverse → mRuns mTab mInf (sXNl L) (sXF xs) 10 300 m (0, lv_args 0 (.ref o :: bs), [], N) (some w, N1)) {z : Option Value × mMem} (k : mRuns mTab mInf (sXNl L) (sXF xs) 12 460 253 (pc + 3, Nl, w :: V2, N1) z) : mRuns mTab mInf (sXNl L) (sXF xs) 12 460 253 (pc, Nl, as ++ .ref o :: V2, N) z := by
  obtain ⟨ri, ii, v, wi, he⟩ := lRow_inv hr
  obtain ⟨g1, g⟩ := and_inv ha
  obtain ⟨g2, g⟩ := and_inv g
  obtain ⟨g3, g4⟩ := and_inv g
  have g1 := Nat.eq_of_beq_eq_true g1
  have g2 := Nat.le_of_ble_eq_true g2
  have g3 := Nat.le_of_ble_eq_true g3
  have hb := sAll_rev hs
  rw [List.reverse_reverse] at hb
  obtain ⟨q1, q2⟩ := lCat_ok (fun a ha => Nat.le_of_ble_eq_true (and_inv (List.all_eq_true.mp g4 a ha)).2) hb
  rw [List.length_reverse] at q2
  refine st_call (o := o) (as := as.reverse) (S := V2) (w := some w) (M1 := N1) he ?_ ?_ ?_ h1 h2 hV rfl (Nat.ble_eq.mpr (by omega)) (Nat.ble_eq.mpr ?_) (mRuns_more (run _ hb rfl) (by omega) (by omega)) rfl k
  · rw [g1]
    refine Nat.ble_eq.mpr ?_
    rw [List.length_append, List.length_cons]
    omega
  · rw [g1, show as ++ Value.ref o :: V2 = (as ++ [Value.ref o]) ++ V2 by simp, List.take_append_of_le_length (by rw [List.length_append]; show ar.length + 1 ≤ as.length + 1; omega), List.take_of_length_le (by rw [List.length_append]; show as.length + 1 ≤ ar.length + 1; omega), List.reverse_append]
    rfl
  · rw [g1, show as ++ Value.ref o :: V2 = (as ++ [Value.ref o]) ++ V2 by simp, List.drop_append_of_le_length (by rw [List.length_append]; show ar.length + 1 ≤ as.length + 1; omega), List.drop_of_length_le (by rw [List.length_append]; show as.length + 1 ≤ ar.length + 1; omega)]
    rfl
  · show 1 + mCats as.reverse ≤ _
    rw [q1]
    omega
theorem lFit_rel {lg : Bool} {q : Int × Int} {v : Value} {i : Nat} (h : lFit lg q v) : ∃ x : Int, q.1 ≤ x ∧ x ≤ q.2 ∧ zRel (lRho xs i ++ [x]) (lR lg) v ∧ v.category ≤ 2 := by
  cases lg with
  | true =>
    obtain ⟨x, rfl, a, b⟩ := h
    exact ⟨x.toInt, a, b, by show some (x.toInt + 0) = _; rw [Int.add_zero], Nat.le_refl _⟩
  | false =>
    obtain ⟨x, rfl, a, b⟩ := h
    exact ⟨x.toInt, a, b, by show some (x.toInt + 0) = _; rw [Int.add_zero], by show 1 ≤ 2; omega⟩
/-- one case of the law: a call of the class, the check's, back to the loop -/
theorem lw_case {pcx mx pcm mm i : Nat} {ar : List lA} {cmp lg : Bool} {q : Int × Int} {Post : mMem → Prop} {N : mMem} {Nl : List (Nat × Value)} {as : List Value}
    (h2 : lGo (fun pc => Nat.beq pc pcm) 300 (pcx + 3) [lR lg] (q :: lBx) (lK2 pcm ar cmp) = true) (h3 : lGo (fun pc => Nat.beq pc 1244) 50 (pcm + 3) (bif cmp then [lR lg, lR lg] else [lR lg]) (q :: lBx) lK3 = true) (hlg : cmp = true → lg = false)
    (rx : lRow pcx mx 7 = true) (rm : lRow pcm mm 8 = true) (ax : lAr mx ar = true) (am : lAr mm ar = true) (hi : i + 4 < L) (hi2 : i ≤ 2555) (hL : lNo i Nl) (hs : sAll (lV fun c => xs (i + c)) ar.reverse as) (hb : Nat.blt 0 N.1 = true ∧ Nat.beq (mObj N 0).1 7 = true)
    (hx : ∀ bs, sAll (lV fun c => xs (i + c)) ar bs → ∃ v N1, mRuns mTab mInf (sXNl L) (sXF xs) 10 300 mx (0, lv_args 0 (.ref 0 :: bs), [], N) (some v, N1) ∧ lFit lg q v ∧ zGood zR9 N1 ∧
      ∀ cs, sAll (lV fun c => xs (i + c)) ar cs → ∃ v2 N2, mRuns mTab mInf (sXNl L) (sXF xs) 10 300 mm (0, lv_args 0 (.ref 525 :: cs), [], N1) (some v2, N2) ∧ lFit lg q v2 ∧ (cmp = true → v2 = v) ∧ zGood zR9 N2 ∧ Post N2) :
    ∃ N2 Nl2, Post N2 ∧ lNo i Nl2 ∧ ∀ z, mRuns mTab mInf (sXNl L) (sXF xs) 12 460 253 (1244, Nl2, [], N2) z → mRuns mTab mInf (sXNl L) (sXF xs) 12 460 253 (pcx, Nl, as ++ [.ref 0], N) z := by
  have hrev := sAll_rev hs
  rw [List.reverse_reverse] at hrev
  obtain ⟨v, N1, x1, x2, x3, x4⟩ := hx _ hrev
  obtain ⟨g1, ga⟩ := and_inv ax
  obtain ⟨g2, gb⟩ := and_inv ga
  obtain ⟨g3, g4⟩ := and_inv gb
  have har : ∀ a ∈ ar.reverse, a.2 ≤ 4 := fun a ha => Nat.le_of_ble_eq_true (and_inv (List.all_eq_true.mp g4 a (List.mem_reverse.mp ha))).1
  obtain ⟨y, y1, y2, y3, y4⟩ := lFit_rel (xs := xs) (i := i) x2
  obtain ⟨e, B2, pc2, L2, S2, M2, Nl2, V2, a1, a2, a3, a4, ⟨e2, ae⟩, a5⟩ := lGo_snd (N := N1) (V := [v]) h2 (lIn7 hi2 y1 y2) hi hi2 hL ⟨y3, trivial⟩ x3 (fun _ _ => rfl)
  obtain ⟨b1, b2⟩ := and_inv (show (Nat.beq pc2 pcm && (lLk L2 && lSt B2 525 (fun r => bif cmp then lOne r else r.isEmpty) ar.reverse S2)) = true from a2)
  obtain ⟨b2, b3⟩ := and_inv b2
  have b1 := Nat.eq_of_beq_eq_true b1
  subst b1
  have hL2 := lN_inv b2 a3 (lRho_i i e)
  obtain ⟨as2, r2, V3, c1, c2, c3, c4⟩ := lSt_inv (s := fun c => xs (i + c)) a1 (lRho_s i e) _ _ _ har b3 a4
  subst c1
  have hrev2 := sAll_rev c2
  rw [List.reverse_reverse] at hrev2
  obtain ⟨v2, N2, w1, w2, w3, w4, w5⟩ := x4 _ hrev2
  obtain ⟨y', y1', y2', y3', y4'⟩ := lFit_rel (xs := xs) (i := i) w2
  have hM1 := yMod_good x3
  have fin : ∀ (V4 : List Value), zSR (lRho xs i ++ [y']) (bif cmp then [lR lg, lR lg] else [lR lg]) (v2 :: V4) → V3 = V4 → Nat.ble (mCats V4) 8 = true → ∃ N2 Nl2, Post N2 ∧ lNo i Nl2 ∧ ∀ z, mRuns mTab mInf (sXNl L) (sXF xs) 12 460 253 (1244, Nl2, [], N2) z → mRuns mTab mInf (sXNl L) (sXF xs) 12 460 253 (pcx, Nl, as ++ [.ref 0], N) z := fun V4 hV4 e4 hc4 => by
    subst e4
    obtain ⟨e3, B3, pc3, L3, S3, M3, Nl3, V5, d1, d2, d3, d4, -, d5⟩ := lGo_snd (N := N2) (V := v2 :: V3) h3 (lIn7 hi2 y1' y2') hi hi2 hL2 hV4 w4 (fun _ _ => rfl)
    obtain ⟨f1, f2⟩ := and_inv (show (Nat.beq pc3 1244 && (lLk L3 && S3.isEmpty)) = true from d2)
    obtain ⟨f2, f3⟩ := and_inv f2
    have f1 := Nat.eq_of_beq_eq_true f1
    have f3 := List.isEmpty_iff.mp f3
    rw [f3] at d4
    rw [f1, sAll_nil d4] at d5
    refine ⟨N2, Nl3, w5, lN_inv f2 d3 (lRho_i i e3), fun z hz => ?_⟩
    refine lCall (cls := 7) (V2 := []) (w := v) (N1 := N1) rx ax hs hb.1 hb.2 rfl (fun bs _ hbs => by rw [hbs]; exact x1) (a5 z ?_)
    exact lCall (cls := 8) (w := v2) (N1 := N2) rm am c2 (yM_b hM1) (yM_c hM1) hc4 (fun bs _ hbs => by rw [hbs]; exact w1) (d5 z hz)
  cases cmp with
  | false =>
    have c3 : r2.isEmpty = true := c3
    have c3 := List.isEmpty_iff.mp c3
    rw [c3] at c4
    exact fin [] ⟨y3', trivial⟩ (sAll_nil c4) rfl
  | true =>
    have c3 : lOne r2 = true := c3
    have elg := hlg rfl
    subst elg
    have ev := w3 rfl
    subst ev
    unfold lOne at c3
    split at c3
    · next x =>
      have c3 := sEqI_eq c3
      obtain ⟨u, V6, e6, u1, u2⟩ := sAll_cons c4
      have e7 := sAll_nil u2
      obtain ⟨uu, e8, u3⟩ := zRel_i u1
      obtain ⟨vv, e9, -⟩ := x2
      have e9 : v2 = .int vv := e9
      rw [c3, ae] at u3
      have y3 : zRel (lRho xs i ++ [y]) (.inl (7, 0)) v2 := y3
      rw [e9] at y3
      have y3 : zAt (lRho xs i ++ [y]) (7, 0) = some vv.toInt := y3
      have u4 := zAt_ext e2 y3
      rw [List.append_assoc, u3] at u4
      have e10 : uu = vv := Int32.toInt_inj.mp (Option.some.inj u4)
      refine fin [v2] ⟨y3', y3', trivial⟩ (by rw [e6, e7, e8, e10, e9]) (by rw [e9]; rfl)
    · cases c3
end YLA
noncomputable def lT : List (Nat × List lA) := [(190, [(0, 1)]), (218, [(0, 1), (0, 2)]), (251, [(0, 1), (0, 2)]), (292, [(0, 1), (1, 2)]), (333, [(0, 1), (0, 2)]), (366, [(0, 1), (0, 2)]), (404, [(0, 1), (0, 2), (0, 3)]), (452, [(0, 1), (0, 2), (0, 3), (0, 4)]), (503, [(0, 1), (1, 2)]), (539, [(0, 1)]), (562, [(0, 1)]), (585, [(0, 1)]), (603, []), (621, [(0, 1)]), (644, [(0, 1)]), (672, [(0, 1), (0, 2)]), (710, [(0, 1), (0, 2), (0, 3)]), (748, [(0, 1), (0, 2)]), (781, [(0, 1), (0, 2)]), (804, []), (822, [(0, 1)]), (850, [(0, 1), (0, 2)]), (878, [(0, 1)]), (896, []), (929, [(2, 0)]), (967, [(0, 1)]), (990, [(0, 1)]), (1018, [(0, 1), (0, 2)]), (1061, [(0, 1), (0, 2), (0, 3), (0, 4)]), (1104, [(0, 1), (0, 2)]), (1137, [(0, 1), (0, 2)]), (1165, [(0, 1)]), (1196, [(1, 1)]), (1227, [(0, 1)])]
set_option maxRecDepth 100000 in
theorem l_1 : lGo (fun pc => Nat.beq pc 1244 || lT.any fun e => Nat.beq e.1 pc) 300 26 [] lBx (lK1 lT) = true := by decide +kernel
set_option maxRecDepth 100000 in
theorem l2_begin : lGo (fun pc => Nat.beq pc 200) 300 (190 + 3) [lR false] (zR32 :: lBx) (lK2 200 [(0, 1)] false) = true := by decide +kernel
set_option maxRecDepth 100000 in
theorem l3_begin : lGo (fun pc => Nat.beq pc 1244) 50 (200 + 3) (bif false then [lR false, lR false] else [lR false]) (zR32 :: lBx) lK3 = true := by decide +kernel
theorem lr_begin : lRow 190 90 7 = true ∧ lRow 200 148 8 = true ∧ lAr 90 [(0, 1)] = true ∧ lAr 148 [(0, 1)] = true := by decide +kernel
set_option maxRecDepth 100000 in
theorem l2_set : lGo (fun pc => Nat.beq pc 233) 300 (218 + 3) [lR false] (zR32 :: lBx) (lK2 233 [(0, 1), (0, 2)] false) = true := by decide +kernel
set_option maxRecDepth 100000 in
theorem l3_set : lGo (fun pc => Nat.beq pc 1244) 50 (233 + 3) (bif false then [lR false, lR false] else [lR false]) (zR32 :: lBx) lK3 = true := by decide +kernel
theorem lr_set : lRow 218 91 7 = true ∧ lRow 233 150 8 = true ∧ lAr 91 [(0, 1), (0, 2)] = true ∧ lAr 150 [(0, 1), (0, 2)] = true := by decide +kernel
set_option maxRecDepth 100000 in
theorem l2_delay : lGo (fun pc => Nat.beq pc 266) 300 (251 + 3) [lR false] (zR32 :: lBx) (lK2 266 [(0, 1), (0, 2)] false) = true := by decide +kernel
set_option maxRecDepth 100000 in
theorem l3_delay : lGo (fun pc => Nat.beq pc 1244) 50 (266 + 3) (bif false then [lR false, lR false] else [lR false]) (zR32 :: lBx) lK3 = true := by decide +kernel
theorem lr_delay : lRow 251 92 7 = true ∧ lRow 266 152 8 = true ∧ lAr 92 [(0, 1), (0, 2)] = true ∧ lAr 152 [(0, 1), (0, 2)] = true := by decide +kernel
set_option maxRecDepth 100000 in
theorem l2_cut : lGo (fun pc => Nat.beq pc 314) 300 (292 + 3) [lR false] (zR32 :: lBx) (lK2 314 [(0, 1), (1, 2)] true) = true := by decide +kernel
set_option maxRecDepth 100000 in
theorem l3_cut : lGo (fun pc => Nat.beq pc 1244) 50 (314 + 3) (bif true then [lR false, lR false] else [lR false]) (zR32 :: lBx) lK3 = true := by decide +kernel
theorem lr_cut : lRow 292 93 7 = true ∧ lRow 314 168 8 = true ∧ lAr 93 [(0, 1), (1, 2)] = true ∧ lAr 168 [(0, 1), (1, 2)] = true := by decide +kernel
set_option maxRecDepth 100000 in
theorem l2_bid : lGo (fun pc => Nat.beq pc 348) 300 (333 + 3) [lR false] (zR32 :: lBx) (lK2 348 [(0, 1), (0, 2)] false) = true := by decide +kernel
set_option maxRecDepth 100000 in
theorem l3_bid : lGo (fun pc => Nat.beq pc 1244) 50 (348 + 3) (bif false then [lR false, lR false] else [lR false]) (zR32 :: lBx) lK3 = true := by decide +kernel
theorem lr_bid : lRow 333 94 7 = true ∧ lRow 348 153 8 = true ∧ lAr 94 [(0, 1), (0, 2)] = true ∧ lAr 153 [(0, 1), (0, 2)] = true := by decide +kernel
set_option maxRecDepth 100000 in
theorem l2_share : lGo (fun pc => Nat.beq pc 381) 300 (366 + 3) [lR false] (zR32 :: lBx) (lK2 381 [(0, 1), (0, 2)] false) = true := by decide +kernel
set_option maxRecDepth 100000 in
theorem l3_share : lGo (fun pc => Nat.beq pc 1244) 50 (381 + 3) (bif false then [lR false, lR false] else [lR false]) (zR32 :: lBx) lK3 = true := by decide +kernel
theorem lr_share : lRow 366 95 7 = true ∧ lRow 381 154 8 = true ∧ lAr 95 [(0, 1), (0, 2)] = true ∧ lAr 154 [(0, 1), (0, 2)] = true := by decide +kernel
set_option maxRecDepth 100000 in
theorem l2_stream : lGo (fun pc => Nat.beq pc 424) 300 (404 + 3) [lR false] (zR32 :: lBx) (lK2 424 [(0, 1), (0, 2), (0, 3)] false) = true := by decide +kernel
set_option maxRecDepth 100000 in
theorem l3_stream : lGo (fun pc => Nat.beq pc 1244) 50 (424 + 3) (bif false then [lR false, lR false] else [lR false]) (zR32 :: lBx) lK3 = true := by decide +kernel
theorem lr_stream : lRow 404 96 7 = true ∧ lRow 424 156 8 = true ∧ lAr 96 [(0, 1), (0, 2), (0, 3)] = true ∧ lAr 156 [(0, 1), (0, 2), (0, 3)] = true := by decide +kernel
set_option maxRecDepth 100000 in
theorem l2_frame : lGo (fun pc => Nat.beq pc 477) 300 (452 + 3) [lR false] (zR32 :: lBx) (lK2 477 [(0, 1), (0, 2), (0, 3), (0, 4)] false) = true := by decide +kernel
set_option maxRecDepth 100000 in
theorem l3_frame : lGo (fun pc => Nat.beq pc 1244) 50 (477 + 3) (bif false then [lR false, lR false] else [lR false]) (zR32 :: lBx) lK3 = true := by decide +kernel
theorem lr_frame : lRow 452 97 7 = true ∧ lRow 477 160 8 = true ∧ lAr 97 [(0, 1), (0, 2), (0, 3), (0, 4)] = true ∧ lAr 160 [(0, 1), (0, 2), (0, 3), (0, 4)] = true := by decide +kernel
set_option maxRecDepth 100000 in
theorem l2_out : lGo (fun pc => Nat.beq pc 526) 300 (503 + 3) [lR false] (zR32 :: lBx) (lK2 526 [(0, 1), (1, 2)] false) = true := by decide +kernel
set_option maxRecDepth 100000 in
theorem l3_out : lGo (fun pc => Nat.beq pc 1244) 50 (526 + 3) (bif false then [lR false, lR false] else [lR false]) (zR32 :: lBx) lK3 = true := by decide +kernel
theorem lr_out : lRow 503 98 7 = true ∧ lRow 526 205 8 = true ∧ lAr 98 [(0, 1), (1, 2)] = true ∧ lAr 205 [(0, 1), (1, 2)] = true := by decide +kernel
set_option maxRecDepth 100000 in
theorem l2_state : lGo (fun pc => Nat.beq pc 549) 300 (539 + 3) [lR false] (zR32 :: lBx) (lK2 549 [(0, 1)] false) = true := by decide +kernel
set_option maxRecDepth 100000 in
theorem l3_state : lGo (fun pc => Nat.beq pc 1244) 50 (549 + 3) (bif false then [lR false, lR false] else [lR false]) (zR32 :: lBx) lK3 = true := by decide +kernel
theorem lr_state : lRow 539 99 7 = true ∧ lRow 549 209 8 = true ∧ lAr 99 [(0, 1)] = true ∧ lAr 209 [(0, 1)] = true := by decide +kernel
set_option maxRecDepth 100000 in
theorem l2_storm : lGo (fun pc => Nat.beq pc 572) 300 (562 + 3) [lR false] (zR32 :: lBx) (lK2 572 [(0, 1)] false) = true := by decide +kernel
set_option maxRecDepth 100000 in
theorem l3_storm : lGo (fun pc => Nat.beq pc 1244) 50 (572 + 3) (bif false then [lR false, lR false] else [lR false]) (zR32 :: lBx) lK3 = true := by decide +kernel
theorem lr_storm : lRow 562 100 7 = true ∧ lRow 572 211 8 = true ∧ lAr 100 [(0, 1)] = true ∧ lAr 211 [(0, 1)] = true := by decide +kernel
set_option maxRecDepth 100000 in
theorem l2_claim : lGo (fun pc => Nat.beq pc 595) 300 (585 + 3) [lR false] (zR32 :: lBx) (lK2 595 [(0, 1)] false) = true := by decide +kernel
set_option maxRecDepth 100000 in
theorem l3_claim : lGo (fun pc => Nat.beq pc 1244) 50 (595 + 3) (bif false then [lR false, lR false] else [lR false]) (zR32 :: lBx) lK3 = true := by decide +kernel
theorem lr_claim : lRow 585 101 7 = true ∧ lRow 595 176 8 = true ∧ lAr 101 [(0, 1)] = true ∧ lAr 176 [(0, 1)] = true := by decide +kernel
set_option maxRecDepth 100000 in
theorem l2_lose : lGo (fun pc => Nat.beq pc 608) 300 (603 + 3) [lR false] (zR32 :: lBx) (lK2 608 [] false) = true := by decide +kernel
set_option maxRecDepth 100000 in
theorem l3_lose : lGo (fun pc => Nat.beq pc 1244) 50 (608 + 3) (bif false then [lR false, lR false] else [lR false]) (zR32 :: lBx) lK3 = true := by decide +kernel
theorem lr_lose : lRow 603 102 7 = true ∧ lRow 608 207 8 = true ∧ lAr 102 [] = true ∧ lAr 207 [] = true := by decide +kernel
set_option maxRecDepth 100000 in
theorem l2_doubled : lGo (fun pc => Nat.beq pc 631) 300 (621 + 3) [lR false] (zR32 :: lBx) (lK2 631 [(0, 1)] false) = true := by decide +kernel
set_option maxRecDepth 100000 in
theorem l3_doubled : lGo (fun pc => Nat.beq pc 1244) 50 (631 + 3) (bif false then [lR false, lR false] else [lR false]) (zR32 :: lBx) lK3 = true := by decide +kernel
theorem lr_doubled : lRow 621 103 7 = true ∧ lRow 631 208 8 = true ∧ lAr 103 [(0, 1)] = true ∧ lAr 208 [(0, 1)] = true := by decide +kernel
set_option maxRecDepth 100000 in
theorem l2_tick : lGo (fun pc => Nat.beq pc 654) 300 (644 + 3) [lR false] (zR32 :: lBx) (lK2 654 [(0, 1)] false) = true := by decide +kernel
set_option maxRecDepth 100000 in
theorem l3_tick : lGo (fun pc => Nat.beq pc 1244) 50 (654 + 3) (bif false then [lR false, lR false] else [lR false]) (zR32 :: lBx) lK3 = true := by decide +kernel
theorem lr_tick : lRow 644 104 7 = true ∧ lRow 654 203 8 = true ∧ lAr 104 [(0, 1)] = true ∧ lAr 203 [(0, 1)] = true := by decide +kernel
set_option maxRecDepth 100000 in
theorem l2_station : lGo (fun pc => Nat.beq pc 687) 300 (672 + 3) [lR false] (zR32 :: lBx) (lK2 687 [(0, 1), (0, 2)] false) = true := by decide +kernel
set_option maxRecDepth 100000 in
theorem l3_station : lGo (fun pc => Nat.beq pc 1244) 50 (687 + 3) (bif false then [lR false, lR false] else [lR false]) (zR32 :: lBx) lK3 = true := by decide +kernel
theorem lr_station : lRow 672 105 7 = true ∧ lRow 687 239 8 = true ∧ lAr 105 [(0, 1), (0, 2)] = true ∧ lAr 239 [(0, 1), (0, 2)] = true := by decide +kernel
set_option maxRecDepth 100000 in
theorem l2_queued : lGo (fun pc => Nat.beq pc 730) 300 (710 + 3) [lR false] (zR32 :: lBx) (lK2 730 [(0, 1), (0, 2), (0, 3)] false) = true := by decide +kernel
set_option maxRecDepth 100000 in
theorem l3_queued : lGo (fun pc => Nat.beq pc 1244) 50 (730 + 3) (bif false then [lR false, lR false] else [lR false]) (zR32 :: lBx) lK3 = true := by decide +kernel
theorem lr_queued : lRow 710 106 7 = true ∧ lRow 730 240 8 = true ∧ lAr 106 [(0, 1), (0, 2), (0, 3)] = true ∧ lAr 240 [(0, 1), (0, 2), (0, 3)] = true := by decide +kernel
set_option maxRecDepth 100000 in
theorem l2_link : lGo (fun pc => Nat.beq pc 763) 300 (748 + 3) [lR false] (zR32 :: lBx) (lK2 763 [(0, 1), (0, 2)] false) = true := by decide +kernel
set_option maxRecDepth 100000 in
theorem l3_link : lGo (fun pc => Nat.beq pc 1244) 50 (763 + 3) (bif false then [lR false, lR false] else [lR false]) (zR32 :: lBx) lK3 = true := by decide +kernel
theorem lr_link : lRow 748 107 7 = true ∧ lRow 763 241 8 = true ∧ lAr 107 [(0, 1), (0, 2)] = true ∧ lAr 241 [(0, 1), (0, 2)] = true := by decide +kernel
set_option maxRecDepth 100000 in
theorem l2_message : lGo (fun pc => Nat.beq pc 796) 300 (781 + 3) [lR false] (zR32 :: lBx) (lK2 796 [(0, 1), (0, 2)] false) = true := by decide +kernel
set_option maxRecDepth 100000 in
theorem l3_message : lGo (fun pc => Nat.beq pc 1244) 50 (796 + 3) (bif false then [lR false, lR false] else [lR false]) (zR32 :: lBx) lK3 = true := by decide +kernel
theorem lr_message : lRow 781 108 7 = true ∧ lRow 796 242 8 = true ∧ lAr 108 [(0, 1), (0, 2)] = true ∧ lAr 242 [(0, 1), (0, 2)] = true := by decide +kernel
set_option maxRecDepth 100000 in
theorem l2_suspects : lGo (fun pc => Nat.beq pc 809) 300 (804 + 3) [lR false] (zR32 :: lBx) (lK2 809 [] false) = true := by decide +kernel
set_option maxRecDepth 100000 in
theorem l3_suspects : lGo (fun pc => Nat.beq pc 1244) 50 (809 + 3) (bif false then [lR false, lR false] else [lR false]) (zR32 :: lBx) lK3 = true := by decide +kernel
theorem lr_suspects : lRow 804 109 7 = true ∧ lRow 809 225 8 = true ∧ lAr 109 [] = true ∧ lAr 225 [] = true := by decide +kernel
set_option maxRecDepth 100000 in
theorem l2_sure : lGo (fun pc => Nat.beq pc 832) 300 (822 + 3) [lR false] (zR32 :: lBx) (lK2 832 [(0, 1)] false) = true := by decide +kernel
set_option maxRecDepth 100000 in
theorem l3_sure : lGo (fun pc => Nat.beq pc 1244) 50 (832 + 3) (bif false then [lR false, lR false] else [lR false]) (zR32 :: lBx) lK3 = true := by decide +kernel
theorem lr_sure : lRow 822 110 7 = true ∧ lRow 832 219 8 = true ∧ lAr 110 [(0, 1)] = true ∧ lAr 219 [(0, 1)] = true := by decide +kernel
set_option maxRecDepth 100000 in
theorem l2_dealt : lGo (fun pc => Nat.beq pc 865) 300 (850 + 3) [lR false] (zR32 :: lBx) (lK2 865 [(0, 1), (0, 2)] false) = true := by decide +kernel
set_option maxRecDepth 100000 in
theorem l3_dealt : lGo (fun pc => Nat.beq pc 1244) 50 (865 + 3) (bif false then [lR false, lR false] else [lR false]) (zR32 :: lBx) lK3 = true := by decide +kernel
theorem lr_dealt : lRow 850 111 7 = true ∧ lRow 865 220 8 = true ∧ lAr 111 [(0, 1), (0, 2)] = true ∧ lAr 220 [(0, 1), (0, 2)] = true := by decide +kernel
set_option maxRecDepth 100000 in
theorem l2_fits : lGo (fun pc => Nat.beq pc 888) 300 (878 + 3) [lR false] (zR32 :: lBx) (lK2 888 [(0, 1)] false) = true := by decide +kernel
set_option maxRecDepth 100000 in
theorem l3_fits : lGo (fun pc => Nat.beq pc 1244) 50 (888 + 3) (bif false then [lR false, lR false] else [lR false]) (zR32 :: lBx) lK3 = true := by decide +kernel
theorem lr_fits : lRow 878 112 7 = true ∧ lRow 888 221 8 = true ∧ lAr 112 [(0, 1)] = true ∧ lAr 221 [(0, 1)] = true := by decide +kernel
set_option maxRecDepth 100000 in
theorem l2_least : lGo (fun pc => Nat.beq pc 901) 300 (896 + 3) [lR false] (zR32 :: lBx) (lK2 901 [] false) = true := by decide +kernel
set_option maxRecDepth 100000 in
theorem l3_least : lGo (fun pc => Nat.beq pc 1244) 50 (901 + 3) (bif false then [lR false, lR false] else [lR false]) (zR32 :: lBx) lK3 = true := by decide +kernel
theorem lr_least : lRow 896 113 7 = true ∧ lRow 901 222 8 = true ∧ lAr 113 [] = true ∧ lAr 222 [] = true := by decide +kernel
set_option maxRecDepth 100000 in
theorem l2_load : lGo (fun pc => Nat.beq pc 954) 300 (929 + 3) [lR true] (lI64 :: lBx) (lK2 954 [(2, 0)] false) = true := by decide +kernel
set_option maxRecDepth 100000 in
theorem l3_load : lGo (fun pc => Nat.beq pc 1244) 50 (954 + 3) (bif false then [lR true, lR true] else [lR true]) (lI64 :: lBx) lK3 = true := by decide +kernel
theorem lr_load : lRow 929 114 7 = true ∧ lRow 954 223 8 = true ∧ lAr 114 [(2, 0)] = true ∧ lAr 223 [(2, 0)] = true := by decide +kernel
set_option maxRecDepth 100000 in
theorem l2_mean : lGo (fun pc => Nat.beq pc 977) 300 (967 + 3) [lR true] (lI64 :: lBx) (lK2 977 [(0, 1)] false) = true := by decide +kernel
set_option maxRecDepth 100000 in
theorem l3_mean : lGo (fun pc => Nat.beq pc 1244) 50 (977 + 3) (bif false then [lR true, lR true] else [lR true]) (lI64 :: lBx) lK3 = true := by decide +kernel
theorem lr_mean : lRow 967 115 7 = true ∧ lRow 977 224 8 = true ∧ lAr 115 [(0, 1)] = true ∧ lAr 224 [(0, 1)] = true := by decide +kernel
set_option maxRecDepth 100000 in
theorem l2_found : lGo (fun pc => Nat.beq pc 1000) 300 (990 + 3) [lR false] (zR32 :: lBx) (lK2 1000 [(0, 1)] false) = true := by decide +kernel
set_option maxRecDepth 100000 in
theorem l3_found : lGo (fun pc => Nat.beq pc 1244) 50 (1000 + 3) (bif false then [lR false, lR false] else [lR false]) (zR32 :: lBx) lK3 = true := by decide +kernel
theorem lr_found : lRow 990 116 7 = true ∧ lRow 1000 230 8 = true ∧ lAr 116 [(0, 1)] = true ∧ lAr 230 [(0, 1)] = true := by decide +kernel
set_option maxRecDepth 100000 in
theorem l2_would : lGo (fun pc => Nat.beq pc 1033) 300 (1018 + 3) [lR false] (zR32 :: lBx) (lK2 1033 [(0, 1), (0, 2)] false) = true := by decide +kernel
set_option maxRecDepth 100000 in
theorem l3_would : lGo (fun pc => Nat.beq pc 1244) 50 (1033 + 3) (bif false then [lR false, lR false] else [lR false]) (zR32 :: lBx) lK3 = true := by decide +kernel
theorem lr_would : lRow 1018 117 7 = true ∧ lRow 1033 235 8 = true ∧ lAr 117 [(0, 1), (0, 2)] = true ∧ lAr 235 [(0, 1), (0, 2)] = true := by decide +kernel
set_option maxRecDepth 100000 in
theorem l2_asked : lGo (fun pc => Nat.beq pc 1086) 300 (1061 + 3) [lR false] (zR32 :: lBx) (lK2 1086 [(0, 1), (0, 2), (0, 3), (0, 4)] false) = true := by decide +kernel
set_option maxRecDepth 100000 in
theorem l3_asked : lGo (fun pc => Nat.beq pc 1244) 50 (1086 + 3) (bif false then [lR false, lR false] else [lR false]) (zR32 :: lBx) lK3 = true := by decide +kernel
theorem lr_asked : lRow 1061 118 7 = true ∧ lRow 1086 236 8 = true ∧ lAr 118 [(0, 1), (0, 2), (0, 3), (0, 4)] = true ∧ lAr 236 [(0, 1), (0, 2), (0, 3), (0, 4)] = true := by decide +kernel
set_option maxRecDepth 100000 in
theorem l2_book : lGo (fun pc => Nat.beq pc 1119) 300 (1104 + 3) [lR false] (zR32 :: lBx) (lK2 1119 [(0, 1), (0, 2)] false) = true := by decide +kernel
set_option maxRecDepth 100000 in
theorem l3_book : lGo (fun pc => Nat.beq pc 1244) 50 (1119 + 3) (bif false then [lR false, lR false] else [lR false]) (zR32 :: lBx) lK3 = true := by decide +kernel
theorem lr_book : lRow 1104 119 7 = true ∧ lRow 1119 243 8 = true ∧ lAr 119 [(0, 1), (0, 2)] = true ∧ lAr 243 [(0, 1), (0, 2)] = true := by decide +kernel
set_option maxRecDepth 100000 in
theorem l2_log : lGo (fun pc => Nat.beq pc 1152) 300 (1137 + 3) [lR false] (zR32 :: lBx) (lK2 1152 [(0, 1), (0, 2)] false) = true := by decide +kernel
set_option maxRecDepth 100000 in
theorem l3_log : lGo (fun pc => Nat.beq pc 1244) 50 (1152 + 3) (bif false then [lR false, lR false] else [lR false]) (zR32 :: lBx) lK3 = true := by decide +kernel
theorem lr_log : lRow 1137 120 7 = true ∧ lRow 1152 244 8 = true ∧ lAr 120 [(0, 1), (0, 2)] = true ∧ lAr 244 [(0, 1), (0, 2)] = true := by decide +kernel
set_option maxRecDepth 100000 in
theorem l2_count : lGo (fun pc => Nat.beq pc 1175) 300 (1165 + 3) [lR false] (zR32 :: lBx) (lK2 1175 [(0, 1)] false) = true := by decide +kernel
set_option maxRecDepth 100000 in
theorem l3_count : lGo (fun pc => Nat.beq pc 1244) 50 (1175 + 3) (bif false then [lR false, lR false] else [lR false]) (zR32 :: lBx) lK3 = true := by decide +kernel
theorem lr_count : lRow 1165 121 7 = true ∧ lRow 1175 245 8 = true ∧ lAr 121 [(0, 1)] = true ∧ lAr 245 [(0, 1)] = true := by decide +kernel
set_option maxRecDepth 100000 in
theorem l2_image : lGo (fun pc => Nat.beq pc 1214) 300 (1196 + 3) [lR false] (zR32 :: lBx) (lK2 1214 [(1, 1)] false) = true := by decide +kernel
set_option maxRecDepth 100000 in
theorem l3_image : lGo (fun pc => Nat.beq pc 1244) 50 (1214 + 3) (bif false then [lR false, lR false] else [lR false]) (zR32 :: lBx) lK3 = true := by decide +kernel
theorem lr_image : lRow 1196 122 7 = true ∧ lRow 1214 246 8 = true ∧ lAr 122 [(1, 1)] = true ∧ lAr 246 [(1, 1)] = true := by decide +kernel
set_option maxRecDepth 100000 in
theorem l2_look : lGo (fun pc => Nat.beq pc 1237) 300 (1227 + 3) [lR false] (zR32 :: lBx) (lK2 1237 [(0, 1)] false) = true := by decide +kernel
set_option maxRecDepth 100000 in
theorem l3_look : lGo (fun pc => Nat.beq pc 1244) 50 (1237 + 3) (bif false then [lR false, lR false] else [lR false]) (zR32 :: lBx) lK3 = true := by decide +kernel
theorem lr_look : lRow 1227 123 7 = true ∧ lRow 1237 249 8 = true ∧ lAr 123 [(0, 1)] = true ∧ lAr 249 [(0, 1)] = true := by decide +kernel
