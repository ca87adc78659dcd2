/-! ===== more frames and locals do no harm ===== -/
theorem mPop_g {β : Type} {S : List Value} {n : Nat} {k : List Value → List Value → Option β} {y : β} (h : mPop S n k = some y) : Nat.ble n S.length = true ∧ k (S.take n).reverse (S.drop n) = some y := mWhen_inv h
theorem ble_more {a b c : Nat} (h : Nat.ble a b = true) (h2 : b ≤ c) : Nat.ble a c = true := Nat.ble_eq.mpr (Nat.le_trans (Nat.le_of_ble_eq_true h) h2)
section ZMO
variable {I : Nat → mI} {XN : Nat → Nat} {XF : Nat → Nat → Int32} {T : Nat → List mE}
theorem mCall_more {call call2 : Nat → Nat → Nat → List Value → mMem → Option (Option Value × mMem)} {fr lo fr2 lo2 nx mi : Nat} {L : List (Nat × Value)} {as r : List Value} {M : mMem} {y : mRes} (h : mCall I call fr lo nx mi L as r M = some y) (h1 : fr ≤ fr2) (h2 : lo ≤ lo2)
    (hc : ∀ mi f l as M r f2 l2, call mi f l as M = some r → f ≤ f2 → l ≤ l2 → call2 mi f2 l2 as M = some r) : mCall I call2 fr2 lo2 nx mi L as r M = some y := by
  unfold mCall at h ⊢
  obtain ⟨g, h⟩ := mWhen_inv h
  obtain ⟨g1, g⟩ := and_inv g
  obtain ⟨g2, g⟩ := and_inv g
  obtain ⟨g3, g4⟩ := and_inv g
  rw [mWhen_t (by rw [g1, ble_more g2 h1, ble_more g3 h2, g4]; rfl)]
  cases hq : call mi (fr - 1) (lo - (19 + (I mi).2.2.1)) as M with
  | none => rw [hq] at h; cases h
  | some r =>
    rw [hq] at h
    rw [hc _ _ _ _ _ _ (fr2 - 1) (lo2 - (19 + (I mi).2.2.1)) hq (by omega) (by omega)]
    exact h
set_option maxHeartbeats 4000000 in
theorem mDo_more {call call2 : Nat → Nat → Nat → List Value → mMem → Option (Option Value × mMem)} {fr lo fr2 lo2 nL : Nat} {rt : Option FieldType} {e : mE} {L : List (Nat × Value)} {S : List Value} {M : mMem} {y : mRes} (h : mDo I XN XF call fr lo nL rt e L S M = some y) (h1 : fr ≤ fr2) (h2 : lo ≤ lo2)
    (hc : ∀ mi f l as M r f2 l2, call mi f l as M = some r → f ≤ f2 → l ≤ l2 → call2 mi f2 l2 as M = some r) : mDo I XN XF call2 fr2 lo2 nL rt e L S M = some y := by
  obtain ⟨pc, len, ri, ni, v, r1, r2, wi⟩ := e
  cases ni
  case invokevirtual i =>
    have h : (mPop S (I r1).2.2.2.2.2.1 fun as r => match as with
      | .ref o :: _ => mWhen (Nat.blt o M.1 && Nat.beq (mObj M o).1 r2) (mCall I call fr lo (pc + len) r1 L as r M)
      | _ => none) = some y := h
    obtain ⟨g, h⟩ := mPop_g h
    show (mPop S (I r1).2.2.2.2.2.1 fun as r => match as with
      | .ref o :: _ => mWhen (Nat.blt o M.1 && Nat.beq (mObj M o).1 r2) (mCall I call2 fr2 lo2 (pc + len) r1 L as r M)
      | _ => none) = some y
    rw [mPop_t g]
    split at h
    · next o as hq =>
      rw [hq] at h ⊢
      obtain ⟨g2, h⟩ := mWhen_inv h
      exact (mWhen_t g2).trans (mCall_more h h1 h2 hc)
    · cases h
  case invokespecial i =>
    rcases bif_inv2 h with ⟨c, h⟩ | ⟨c, h⟩
    · obtain ⟨o, r, rfl, h⟩ := mR1_inv h
      obtain ⟨g, h⟩ := mWhen_inv h
      obtain ⟨g1, g2⟩ := and_inv g
      show (bif Nat.beq r2 0 then mWhen (Nat.ble 1 fr2 && Nat.ble (mCats r + 12) lo2) (mNx (pc + len) L r M) else _) = _
      rw [c, cond_true, mWhen_t (by rw [ble_more g1 h1, ble_more g2 h2]; rfl)]
      exact h
    · have h : (mPop S (I r1).2.2.2.2.2.1 fun as r => match as with
        | .ref _ :: _ => mCall I call fr lo (pc + len) r1 L as r M
        | _ => none) = some y := h
      obtain ⟨g, h⟩ := mPop_g h
      show (bif Nat.beq r2 0 then _ else mPop S (I r1).2.2.2.2.2.1 fun as r => match as with
        | .ref _ :: _ => mCall I call2 fr2 lo2 (pc + len) r1 L as r M
        | _ => none) = some y
      rw [c, cond_false, mPop_t g]
      split at h
      · next o as hq =>
        rw [hq] at h ⊢
        exact mCall_more h h1 h2 hc
      · cases h
  case invokestatic i =>
    rcases bif_inv2 h with ⟨c, h⟩ | ⟨c, h⟩
    · have h : (mPop S (I r1).2.2.2.2.2.1 fun as r => mCall I call fr lo (pc + len) r1 L as r M) = some y := h
      obtain ⟨g, h⟩ := mPop_g h
      show (bif Nat.beq r2 0 then (mPop S (I r1).2.2.2.2.2.1 fun as r => mCall I call2 fr2 lo2 (pc + len) r1 L as r M) else _) = some y
      rw [c, cond_true, mPop_t g]
      exact mCall_more h h1 h2 hc
    rcases bif_inv2 h with ⟨c1, h⟩ | ⟨c1, h⟩
    · show (bif Nat.beq r2 0 then _ else bif Nat.beq r2 1 then _ else _) = _
      rw [c, c1, cond_false, cond_true]
      split at h
      · next n dp b sp a r =>
        obtain ⟨g, h⟩ := mWhen_inv h
        obtain ⟨g1, g⟩ := and_inv g
        obtain ⟨g2, g⟩ := and_inv g
        rw [mWhen_t (by rw [ble_more g1 h1, ble_more g2 h2, g]; rfl)]
        exact h
      · cases h
    · obtain ⟨a, b, r, rfl, h⟩ := mI2_inv h
      obtain ⟨g, h⟩ := mWhen_inv h
      obtain ⟨g1, g2⟩ := and_inv g
      show (bif Nat.beq r2 0 then _ else bif Nat.beq r2 1 then _ else mWhen (Nat.ble 1 fr2 && Nat.ble (mCats r + 13) lo2) _) = _
      rw [c, c1, cond_false, cond_false, mWhen_t (by rw [ble_more g1 h1, ble_more g2 h2]; rfl)]
      exact h
  all_goals exact h
theorem mExec_more : ∀ (f fr lo mi : Nat) (x : mCfg) (r : Option Value × mMem) (fr2 lo2 : Nat), mExec T I XN XF f fr lo mi x = some r → fr ≤ fr2 → lo ≤ lo2 → mExec T I XN XF f fr2 lo2 mi x = some r
  | 0, _, _, _, _, _, _, _, h, _, _ => by cases h
  | f + 1, fr, lo, mi, x, r, fr2, lo2, h, h1, h2 => by
    have ih := mExec_more f
    have hc : ∀ mi' f1 l1 as M r f2 l2, mExec T I XN XF f f1 l1 mi' (0, lv_args 0 as, [], M) = some r → f1 ≤ f2 → l1 ≤ l2 → mExec T I XN XF f f2 l2 mi' (0, lv_args 0 as, [], M) = some r := fun mi' f1 l1 as M r f2 l2 a b c => ih f1 l1 mi' _ r f2 l2 a b c
    unfold mExec at h ⊢
    cases he : mFind (T mi) x.1 with
    | none => rw [he] at h; cases h
    | some e =>
      rw [he] at h
      dsimp only at h ⊢
      cases hd : mDo I XN XF (fun mi' fr' lo' as M => mExec T I XN XF f fr' lo' mi' (0, lv_args 0 as, [], M)) fr lo (I mi).2.2.1 (I mi).2.2.2.1 e x.2.1 x.2.2.1 x.2.2.2 with
      | none => rw [hd] at h; cases h
      | some y =>
        rw [hd] at h
        rw [mDo_more hd h1 h2 hc]
        cases y with
        | inr w => exact h
        | inl w => exact ih fr lo mi w r fr2 lo2 h h1 h2
theorem mRuns_more {fr lo mi fr2 lo2 : Nat} {x : mCfg} {r : Option Value × mMem} (h : mRuns T I XN XF fr lo mi x r) (h1 : fr ≤ fr2) (h2 : lo ≤ lo2) : mRuns T I XN XF fr2 lo2 mi x r := by
  obtain ⟨F, hF⟩ := h
  exact ⟨F, fun f hf => mExec_more f fr lo mi x r fr2 lo2 (hF f hf) h1 h2⟩
theorem mRuns_eq {fr lo mi : Nat} {x : mCfg} {r s : Option Value × mMem} (h : mRuns T I XN XF fr lo mi x r) (h2 : mRuns T I XN XF fr lo mi x s) : r = s := by
  obtain ⟨F, hF⟩ := h
  obtain ⟨G, hG⟩ := h2
  have a := hF (F + G) (by omega)
  have b := hG (F + G) (by omega)
  rw [a] at b
  exact Option.some.inj b
end ZMO
/-! ===== what is agreed of a method ===== -/
noncomputable def zArV (a : zA) (v : Value) : Prop := match a.1 with
  | 0 => ∃ x : Int32, v = .int x ∧ a.2.2.1 ≤ x.toInt ∧ x.toInt ≤ a.2.2.2
  | 1 => ∃ x : Int64, v = .long x ∧ a.2.2.1 ≤ x.toInt ∧ x.toInt ≤ a.2.2.2
  | 2 => v = .ref a.2.1
  | _ => v = .null
noncomputable def zAnV (r : Option (Bool × (Int × Int))) (v : Option Value) : Prop := match r with
  | none => v = none
  | some (true, q) => ∃ x : Int64, v = some (.long x) ∧ q.1 ≤ x.toInt ∧ x.toInt ≤ q.2
  | some (false, q) => ∃ x : Int32, v = some (.int x) ∧ q.1 ≤ x.toInt ∧ x.toInt ≤ q.2
noncomputable def zVal (W : zW) (X : mMem → mMem → Prop) (T : Nat → List mE) (I : Nat → mI) (XN : Nat → Nat) (XF : Nat → Nat → Int32) (mi : Nat) (i : zS) : Prop :=
  ∀ (N : mMem) (bs : List Value), X N N → zGood W N → sAll zArV (zSa i) bs → (∀ c ∈ zSc i, ∃ x : Int32, mAtk N c.1 = .int x ∧ c.2.1 ≤ x.toInt ∧ x.toInt ≤ c.2.2) → zRoom W (zSk i) N →
    ∃ v N1, mRuns T I XN XF (zSf i) (zSo i) mi (0, lv_args 0 bs, [], N) (v, N1) ∧ zGood W N1 ∧ zRl W X (zSq i) (zSk i) N N1 ∧ zAnV (zSr i) v ∧ ∀ e ∈ zSe i, ∃ x y : Int32, mAtk N e.1 = .int x ∧ mAtk N1 e.1 = .int y ∧ y.toInt = x.toInt + e.2
section ZCA
variable {W : zW} {X : mMem → mMem → Prop} {c0 : Nat} {T : Nat → List mE} {I : Nat → mI} {XN : Nat → Nat} {XF : Nat → Nat → Int32} {Ne : mMem}
theorem zLk_ro {o key : Nat} {p : sV × Bool} : ∀ {ov : zO}, zLk (zRo o ov) key = some p → key / 2048 ≠ o ∧ zLk ov key = some p
  | [], h => by cases h
  | q :: ov, h => by
    have ih := zLk_ro (ov := ov) (o := o) (key := key) (p := p)
    have h : zLk (bif Nat.beq (q.1 / 2048) o then zRo o ov else q :: zRo o ov) key = some p := h
    rw [zLk_cons]
    cases c : Nat.beq (q.1 / 2048) o with
    | true =>
      rw [c, cond_true] at h
      obtain ⟨h1, h2⟩ := ih h
      refine ⟨h1, ?_⟩
      have e : q.1 ≠ key := fun e => h1 (by rw [← e]; exact Nat.eq_of_beq_eq_true c)
      rw [nbeq_f e]
      exact h2
    | false =>
      rw [c, cond_false, zLk_cons] at h
      rcases bif_inv2 h with ⟨d, h⟩ | ⟨d, h⟩
      · rw [d]
        refine ⟨?_, h⟩
        rw [← Nat.eq_of_beq_eq_true d]
        intro e
        rw [e, Nat.beq_refl] at c
        cases c
      · rw [d]
        exact ih h
theorem zLk_ro2 {o key : Nat} (hk : key / 2048 ≠ o) : ∀ {ov : zO}, zLk (zRo o ov) key = zLk ov key
  | [] => rfl
  | q :: ov => by
    have ih := zLk_ro2 hk (ov := ov)
    show zLk (bif Nat.beq (q.1 / 2048) o then zRo o ov else q :: zRo o ov) key = _
    rw [zLk_cons]
    cases c : Nat.beq (q.1 / 2048) o with
    | true =>
      rw [cond_true, ih]
      have e : q.1 ≠ key := fun e => hk (by rw [← e]; exact Nat.eq_of_beq_eq_true c)
      rw [nbeq_f e]
      rfl
    | false =>
      rw [cond_false, zLk_cons, ih]
/-- a weak object's slots change -/
theorem zWeak_inv {ρ : List Int} {R : zR} {M : zM} {o : Nat} {N : mMem} {c : mCell} (hW : zWok W) (hX : zXok W X R.1) (ho : o < 529) (hw : (zWo W o).2.2 = true) (h1 : R.1 ≠ 1) (hc1 : c.1 = (mObj N o).1) (hc2 : c.2.1 = (mObj N o).2.1) (hc3 : ∀ k, k < (zWo W o).2.1 → k < 2048 → ∃ x, mSlot c k = .int x)
    (hM : zMR W X R.1 T I XN XF Ne ρ M N) : zMR W X R.1 T I XN XF Ne ρ (zRo o M.1, (M.2.1, none)) (mPut N o c) := by
  obtain ⟨N0, hg, hs, hov, hrl, hd⟩ := hM
  have hne : ∀ key s, zWs W key = some s → key / 2048 ≠ o := fun key s h e => by
    have := hW.1 key s h
    rw [e, hw] at this
    cases this
  have hfr : ∀ key, key < 2097152 → (zWk W R.1 key = true ∨ zWx W key = true) → mAtk (mPut N o c) key = mAtk N key := fun key h2 h3 => mAtk_put1 (by omega) h2 (fun e => by
    have : (zWo W (key / 2048)).2.2 = false := h3.elim (hW.2.2.1 _ _ h1) (hW.2.2.2.2.2.2.2 _)
    rw [e, hw] at this
    cases this)
  refine ⟨N0, hg, ⟨hs.1, fun p hp => ?_⟩, ⟨fun key h2 s h3 => ?_, fun key a d h2 => ?_⟩, ?_, zDet_none⟩
  · rw [mObj_put (by omega) (by omega)]
    obtain ⟨g1, g2, g3⟩ := hs.2 p hp
    by_cases e : o = p
    · rw [if_pos e]
      subst e
      exact ⟨hc1.trans g1, hc2.trans g2, fun _ => hc3⟩
    · rw [if_neg e]
      exact ⟨g1, g2, g3⟩
  · have hn := hne key s h3
    rw [zLk_ro2 hn, mAtk_put1 (by omega) h2 hn]
    exact hov.1 key h2 s h3
  · obtain ⟨h3, h4⟩ := zLk_ro h2
    obtain ⟨b1, b2, b3⟩ := hov.2 key a d h4
    rw [mAtk_put1 (by omega) b1 h3]
    exact ⟨b1, b2, b3⟩
  · obtain ⟨r1, r2, r3, r4, r5, r6⟩ := hrl
    refine ⟨fun e => (h1 e).elim, r2, r3, fun key h2 h3 => (hfr key h2 (.inl h3)).trans (r4 key h2 h3), fun key h2 h3 => ?_, hX.1 _ _ _ r6 (hX.2.1 _ _ (hX.2.2 _ _ r6) hfr)⟩
    obtain ⟨x1, y1, d1, d2, d3⟩ := r5 key h2 h3
    obtain ⟨q, hq⟩ := hW.2.2.2.1 key h3
    rw [mAtk_put1 (by omega) h2 (hne key _ hq)]
    exact ⟨x1, y1, d1, d2, d3⟩
theorem zLk_mem {key : Nat} {p : sV × Bool} : ∀ {ov : zO}, zLk ov key = some p → (key, p) ∈ ov
  | [], h => by cases h
  | q :: ov, h => by
    rw [zLk_cons] at h
    rcases bif_inv2 h with ⟨c, h⟩ | ⟨-, h⟩
    · cases h
      have e := Nat.eq_of_beq_eq_true c
      rw [show (key, q.2) = q from Prod.ext e.symm rfl]
      exact List.mem_cons_self
    · exact List.mem_cons_of_mem _ (zLk_mem h)
theorem zFl_mem {B : zB} {ov1 : zO} : ∀ {ov : zO}, List.rec (motive := fun _ => Bool) true (fun q _ ih => (!q.2.2 || ((match q.2.1, zWs W q.1 with
  | .inl x, some (.inl b) => zFits B x b.1 b.2
  | _, _ => false) && (zWc W q.1).all (zClOk B ov1))) && ih) ov = true → ∀ q ∈ ov, q.2.2 = true → (∃ x b, q.2.1 = .inl x ∧ zWs W q.1 = some (.inl b) ∧ zFits B x b.1 b.2 = true) ∧ (zWc W q.1).all (zClOk B ov1) = true
  | [], _, q, hq, _ => by cases hq
  | p :: ov, h, q, hq, hd => by
    obtain ⟨h1, h2⟩ := and_inv h
    rcases List.mem_cons.mp hq with e | hq
    · subst e
      rw [hd] at h1
      obtain ⟨h3, h4⟩ := and_inv (show (_ && _) = true from h1)
      refine ⟨?_, h4⟩
      split at h3
      · next x b e1 e2 => exact ⟨x, b, e1, e2, h3⟩
      · cases h3
    · exact zFl_mem h2 q hq hd
theorem zClOk_inv {ρ : List Int} {B : zB} {ov : zO} {c : zC} {N0 N : mMem} (hi : zIn ρ B) (ho : zOv W ρ ov N0 N) (h : zClOk B ov c = true) : zCh c N := by
  intro x y hx hy
  unfold zClOk at h
  rcases bif_inv h with ⟨c9, h⟩ | ⟨c9, h⟩
  · rw [sILt_d] at c9
    have c9 := of_decide_eq_true c9
    refine ⟨fun h => by omega, fun _ => ?_⟩
    split at h
    · next u d1 w d2 hu hw =>
      obtain ⟨-, g1, -⟩ := ho.2 _ _ _ hu
      obtain ⟨-, g2, -⟩ := ho.2 _ _ _ hw
      rw [hx] at g1
      rw [hy] at g2
      exact zLs_inv h hi (zAt_x w _ g2) (zAt_x u _ g1)
    · cases h
  rw [sILt_d] at c9
  have c9 := of_decide_eq_false c9
  refine ⟨fun _ h1 h2 => ?_, fun h => by omega⟩
  rcases Bool.or_eq_true_iff.mp h with h | h
  · split at h
    · next z d hz =>
      obtain ⟨-, g, -⟩ := ho.2 _ _ _ hz
      rw [hx] at g
      have g : zAt ρ z = some x.toInt := g
      obtain ⟨l, u, a1, a2, h⟩ := zRg_inv h hi g
      simp only [Bool.or_eq_true, sILt_d, decide_eq_true_eq] at h
      exfalso
      omega
    · cases h
  · split at h
    · next z d hz =>
      obtain ⟨-, g, -⟩ := ho.2 _ _ _ hz
      rw [hy] at g
      have g : zAt ρ z = some y.toInt := g
      exact zFits_inv h hi g
    · cases h
theorem zFl_inv {ρ : List Int} {B : zB} {M : zM} {N : mMem} (hW : zWok W) (h : zFl W B M.1 = true) (hi : zIn ρ B) (hM : zMR W X c0 T I XN XF Ne ρ M N) : zGood W N := by
  obtain ⟨N0, hg, hs, ho, -, -⟩ := hM
  have hm := zFl_mem (W := W) (B := B) (ov1 := M.1) (ov := M.1) h
  refine ⟨hs, fun key hk s hs2 => ?_, fun key hk c hc => ?_⟩
  · rcases ho.1 key hk s hs2 with ⟨a, ha⟩ | e
    · obtain ⟨⟨x, b, e1, e2, h3⟩, -⟩ := hm _ (zLk_mem ha) rfl
      have e1 : a = .inl x := e1
      have e2 : zWs W key = some (.inl b) := e2
      rw [e2] at hs2
      cases hs2
      obtain ⟨-, g, -⟩ := ho.2 _ _ _ ha
      rw [e1] at g
      obtain ⟨y, hy, hy2⟩ := zRel_i g
      exact ⟨y, hy, zFits_inv h3 hi hy2⟩
    · rw [e]
      exact hg.2.1 key hk s hs2
  · obtain ⟨k1, k2, m1, m2, ⟨q1, s1⟩, ⟨q2, s2⟩⟩ := hW.2.1 key c hc
    rcases ho.1 _ k1 _ s1 with ⟨a, ha⟩ | e1
    · exact zClOk_inv hi ho (List.all_eq_true.mp (hm _ (zLk_mem ha) rfl).2 c m1)
    rcases ho.1 _ k2 _ s2 with ⟨a, ha⟩ | e2
    · exact zClOk_inv hi ho (List.all_eq_true.mp (hm _ (zLk_mem ha) rfl).2 c m2)
    intro x y hx hy
    rw [e1] at hx
    rw [e2] at hy
    exact hg.2.2 key hk c hc x y hx hy
theorem zLk_kp {c key : Nat} {p : sV × Bool} : ∀ {ov : zO}, zLk (zKp W c ov) key = some p → zWk W c key = true ∧ p.2 = false ∧ ∃ d, zLk ov key = some (p.1, d)
  | [], h => by cases h
  | q :: ov, h => by
    have ih := zLk_kp (c := c) (key := key) (p := p) (ov := ov)
    have h : zLk (bif zWk W c q.1 then (q.1, (q.2.1, false)) :: zKp W c ov else zKp W c ov) key = some p := h
    rw [zLk_cons]
    cases d : zWk W c q.1 with
    | true =>
      rw [d, cond_true, zLk_cons] at h
      rcases bif_inv2 h with ⟨e, h⟩ | ⟨e, h⟩
      · have e : Nat.beq q.1 key = true := e
        rw [e]
        cases h
        refine ⟨by rw [← Nat.eq_of_beq_eq_true e]; exact d, rfl, q.2.2, rfl⟩
      · have e : Nat.beq q.1 key = false := e
        rw [e]
        exact ih h
    | false =>
      rw [d, cond_false] at h
      obtain ⟨h1, h2, h3⟩ := ih h
      have e : q.1 ≠ key := fun e => by rw [e, h1] at d; cases d
      rw [nbeq_f e]
      exact ⟨h1, h2, h3⟩
theorem zOv_kp {ρ : List Int} {ov : zO} {N0 N N1 : mMem} {c : Nat} (ho : zOv W ρ ov N0 N) (hr : ∀ key, key < 2097152 → zWk W c key = true → mAtk N1 key = mAtk N key) : zOv W ρ (zKp W c ov) N1 N1 := by
  refine ⟨fun _ _ _ _ => .inr rfl, fun key a d h => ?_⟩
  obtain ⟨h1, h2, d0, h3⟩ := zLk_kp h
  obtain ⟨b1, b2, b3, -, -⟩ := ho.2 _ _ _ h3
  refine ⟨b1, by rw [hr key b1 h1]; exact b2, b3, fun h => ?_, fun _ _ _ => rfl⟩
  have h2 : d = false := h2
  rw [h2] at h
  cases h
theorem zEx_inv {ρ : List Int} {ov : zO} {N0 N N1 : mMem} (ho : zOv W ρ ov N0 N) : ∀ (es : List (Nat × Int)) (o : zO) (k : zO → Bool), (∀ e ∈ es, ∃ x y : Int32, mAtk N e.1 = .int x ∧ mAtk N1 e.1 = .int y ∧ y.toInt = x.toInt + e.2) → zEx ov es o k = true → zOv W ρ o N1 N1 → ∃ o1, k o1 = true ∧ zOv W ρ o1 N1 N1
  | [], o, k, _, h, h2 => ⟨o, h, h2⟩
  | e :: es, o, k, he, h, h2 => by
    have h : (match zLk ov e.1 with
      | some (.inl x, _) => zEx ov es ((e.1, (.inl (x.1, x.2 + e.2), false)) :: o) k
      | _ => false) = true := h
    split at h
    · next x d hx =>
      refine zEx_inv ho es _ k (fun d hd => he d (List.mem_cons_of_mem _ hd)) h ?_
      obtain ⟨u, v, e1, e2, e3⟩ := he e List.mem_cons_self
      obtain ⟨b1, b2, -⟩ := ho.2 _ _ _ hx
      rw [e1] at b2
      have b2 : zAt ρ x = some u.toInt := b2
      have b4 := zAt_x x e.2 b2
      refine ⟨fun _ _ _ _ => .inr rfl, fun key a d hk => ?_⟩
      rw [zLk_cons] at hk
      rcases bif_inv2 hk with ⟨c, hk⟩ | ⟨-, hk⟩
      · cases hk
        have c : e.1 = key := Nat.eq_of_beq_eq_true c
        rw [← c]
        refine ⟨b1, ?_, ⟨_, rfl⟩, fun h => (by cases h), fun _ _ _ => rfl⟩
        rw [e2]
        show zAt ρ (x.1, x.2 + e.2) = some v.toInt
        rw [e3]
        exact b4
      · exact h2.2 key a d hk
    · cases h
theorem zRl_trans {a b cc : Nat} {N N1 : mMem} (hW : zWok W) (hX : zXok W X c0) (hu : zWu W cc c0 = true) (h1 : zRl W X c0 a Ne N) (h2 : zRl W X cc b N N1) : zRl W X c0 (a + b) Ne N1 := by
  obtain ⟨p1, p2, p3, p4, p5, p6⟩ := h1
  obtain ⟨q1, q2, q3, q4, q5, q6⟩ := h2
  obtain ⟨u1, u2⟩ := hW.2.2.2.2.2.1 _ _ hu
  refine ⟨fun e => (q1 (u1 e)).trans (p1 e), q2.trans p2, q3.trans p3, fun key h1 h2 => (q4 key h1 (u2 key h1 h2)).trans (p4 key h1 h2), fun key h1 h2 => ?_, hX.1 _ _ _ p6 q6⟩
  obtain ⟨x, y, a1, a2, a3⟩ := p5 key h1 h2
  obtain ⟨y2, z, b1, b2, b3⟩ := q5 key h1 h2
  rw [a2] at b1
  cases b1
  refine ⟨x, z, a1, b2, ?_⟩
  omega
theorem zAr_inv {ρ : List Int} {B : zB} {a : zA} {s : sV} {v : Value} (hi : zIn ρ B) (h : zAr B a s = true) (hr : zRel ρ s v) : zArV a v := by
  unfold zAr at h
  unfold zArV
  rcases s with x | x | x | o
  · obtain ⟨h1, h2⟩ := and_inv h
    rw [Nat.eq_of_beq_eq_true h1]
    obtain ⟨y, rfl, hy⟩ := zRel_i hr
    exact ⟨y, rfl, zFits_inv h2 hi hy⟩
  · obtain ⟨h1, h2⟩ := and_inv h
    rw [Nat.eq_of_beq_eq_true h1]
    obtain ⟨y, rfl, hy⟩ := zRel_l hr
    exact ⟨y, rfl, zFits_inv h2 hi hy⟩
  · have h : Nat.beq a.1 3 = true := h
    rw [Nat.eq_of_beq_eq_true h]
    exact zRel_n hr
  · obtain ⟨h1, h2⟩ := and_inv h
    rw [Nat.eq_of_beq_eq_true h1]
    obtain rfl := zRel_r hr
    show Value.ref o = .ref a.2.1
    rw [Nat.eq_of_beq_eq_true h2]
theorem zArs_inv {ρ : List Int} {B : zB} (hi : zIn ρ B) : ∀ {as : List zA} {S : List sV} {V : List Value}, zArs B as S = true → zSR ρ S V → sAll zArV as V
  | [], [], V, _, hS => by rw [sAll_nil hS]; trivial
  | [], s :: S, V, h, _ => by cases h
  | a :: as, [], V, h, _ => by cases h
  | a :: as, s :: S, V, h, hS => by
    obtain ⟨v, V2, rfl, h1, hS⟩ := zSR_v hS
    obtain ⟨g1, g2⟩ := and_inv (show (zAr B a s && zArs B as S) = true from h)
    exact ⟨zAr_inv hi g1 h1, zArs_inv hi g2 hS⟩
end ZCA
