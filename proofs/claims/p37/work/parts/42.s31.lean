/-! ===== while CLAIMS go one is not UP ===== -/
theorem p1_notup {n w k : Nat} {m : Int} {ds ss bs : Nat → Int} (hpar : dPar n m ds ss bs) (hk : k < n) (hw : w < n) {N : mMem} (h : dI1 n w k m ds ss bs N) : ∃ s, s < n ∧ dG N (57348 + 26624 * s) ≠ 1 := by
  obtain ⟨⟨h2, h8⟩, -, hs⟩ := id hpar
  obtain ⟨-, ph, f, j, A, B, hg, -, -, -, he⟩ := h
  obtain ⟨⟨f1, f2, -⟩, -, -, gc, -⟩ := hg
  have no : ∀ s, s < n → ¬ dUpt n w ph f s → dG N (57348 + 26624 * s) ≠ 1 := fun s hsn nu => by
    obtain ⟨-, c1, c2, -⟩ := gc s hsn
    by_cases v : dVis n k ph f s
    · have := (c2 v nu).1.1
      omega
    · have := (c1 v).1
      omega
  by_cases c : ph = 2
  · have z := dPs_nx hw f1 (he c)
    exact ⟨dNx n f, dNx_lt (by omega), no _ (dNx_lt (by omega)) (fun q => by have := q.2; omega)⟩
  · exact ⟨0, by omega, no 0 (by omega) (fun q => c q.1)⟩
/-! ===== least, areUpBy ===== -/
theorem dLe_all {bs : Nat → Int} : ∀ n : Nat, 1 ≤ n → ∃ w, w < n ∧ ∀ t, t < n → dLe bs w t := fun n => by
  induction n with
  | zero => intro h; omega
  | succ n ih =>
    intro h
    by_cases c : n = 0
    · exact ⟨0, by omega, fun t ht => .inr ⟨by rw [show t = 0 by omega], by omega⟩⟩
    · obtain ⟨w, h1, h2⟩ := ih (by omega)
      by_cases d : bs n < bs w
      · refine ⟨n, by omega, fun t ht => ?_⟩
        by_cases e : t = n
        · exact .inr ⟨by rw [e], by omega⟩
        · have q := h2 t (by omega)
          unfold dLe at q
          exact .inl (by omega)
      · refine ⟨w, by omega, fun t ht => ?_⟩
        by_cases e : t = n
        · rw [e]
          unfold dLe
          omega
        · exact h2 t (by omega)
/-- what least and areUpBy look at -/
noncomputable def dSt (n : Nat) (bs : Nat → Int) (N : mMem) : Prop := dG N 2048 = (n : Int) ∧ ∀ s, s < n → dG N (57347 + 26624 * s) = 0 ∧ dG N (57345 + 26624 * s) = bs s
theorem sl_least (xs : Nat → Int32) (Ln : Nat) {n w : Nat} {bs : Nat → Int} {N : mMem} (h1 : 1 ≤ n) (h8 : n ≤ 8) (hw : w < n) (hwl : ∀ t, t < n → dLe bs w t) (h : dSt n bs N) : fL_least_O xs Ln N = some (N, (w : Int)) := by
  obtain ⟨hn, hs⟩ := h
  have lo : ∀ (m fuel i x : Nat), n = i + m → m < fuel → x < i → (∀ t, t < i → dLe bs x t) → fL_least_O_b4 xs Ln fuel N (x : Int) (i : Int) = some (N, (w : Int)) := fun m => by
    induction m with
    | zero =>
      intro fuel i x hi hf hx hl
      obtain ⟨f, rfl⟩ : ∃ f, fuel = f + 1 := ⟨fuel - 1, by omega⟩
      have a := hwl x (by omega)
      have b := hl w (by omega)
      unfold dLe at a b
      have e : x = w := by omega
      rw [fL_least_O_b4, dbd_s (show fX7_look_Oc6 N = some (N, dG N 2048) from rfl), hn, if_neg (by omega), e]
    | succ m ih =>
      intro fuel i x hi hf hx hl
      obtain ⟨f, rfl⟩ : ∃ f, fuel = f + 1 := ⟨fuel - 1, by omega⟩
      have o1 := (hs i (by omega)).1
      have bi := (hs i (by omega)).2
      have bx := (hs x (by omega)).2
      rw [fL_least_O_b4, dbd_s (show fX7_look_Oc6 N = some (N, dG N 2048) from rfl), hn, if_pos (by omega), dbd_s (sp_st26 hn h8 (show i < n by omega) o1), if_pos rfl, if_neg (by omega), dbd_s (sp_st1 hn h8 (show i < n by omega)), dbd_s (sp_st1 hn h8 (show x < n by omega)), bi, bx]
      unfold fL_least_O_b44 fL_least_O_b46
      rw [dW_id (x := (i : Int) + 1) ⟨by omega, by omega⟩]
      by_cases c : bs i < bs x
      · rw [if_pos c]
        refine ih f (i + 1) i (by omega) (by omega) (by omega) (fun t ht => ?_)
        by_cases e : t = i
        · exact .inr ⟨by rw [e], by omega⟩
        · have q := hl t (by omega)
          unfold dLe at q
          exact .inl (by omega)
      · rw [if_neg c]
        refine ih f (i + 1) x (by omega) (by omega) (by omega) (fun t ht => ?_)
        by_cases e : t = i
        · rw [e]
          unfold dLe
          omega
        · exact hl t (by omega)
  have o1 := (hs 0 (by omega)).1
  have s26 := sp_st26 hn h8 (show 0 < n by omega) o1
  have s26 : fX7_station_Oc26 N 0 = some (N, 0) := s26
  unfold fL_least_O
  rw [show (1000 : Nat) = 999 + 1 from rfl, fL_least_O_b4, dbd_s (show fX7_look_Oc6 N = some (N, dG N 2048) from rfl), hn, if_pos (by omega), dbd_s s26, if_pos rfl, if_pos rfl]
  unfold fL_least_O_b44 fL_least_O_b46
  rw [dW_id (x := (0 : Int) + 1) ⟨by omega, by omega⟩]
  exact lo (n - 1) 999 1 0 (by omega) (by omega) (by omega) (fun t ht => .inr ⟨by rw [show t = 0 by omega], by omega⟩)
theorem sl_up (xs : Nat → Int32) (Ln : Nat) {n w : Nat} {bs : Nat → Int} {N : mMem} (h8 : n ≤ 8) (h : dSt n bs N) : ∃ v, fL_areUpBy_O xs Ln N (w : Int) = some (N, v) ∧ (v = 0 ∨ v = 1) ∧ (v ≠ 0 → ∀ s, s < n → dG N (57348 + 26624 * s) = 1) ∧ ((∀ s, s < n → dG N (57348 + 26624 * s) = 1 ∧ dG N (59393 + 26624 * s) = (w : Int)) → v = 1) := by
  obtain ⟨hn, hs⟩ := h
  have lo : ∀ (m fuel i : Nat), n = i + m → m < fuel → (∀ s, s < i → dG N (57348 + 26624 * s) = 1) → ∃ v, fL_areUpBy_O_b2 xs Ln fuel N (w : Int) (i : Int) = some (N, v) ∧ (v = 0 ∨ v = 1) ∧ (v ≠ 0 → ∀ s, s < n → dG N (57348 + 26624 * s) = 1) ∧ ((∀ s, s < n → dG N (57348 + 26624 * s) = 1 ∧ dG N (59393 + 26624 * s) = (w : Int)) → v = 1) := fun m => by
    induction m with
    | zero =>
      intro fuel i hi hf hk
      obtain ⟨f, rfl⟩ : ∃ f, fuel = f + 1 := ⟨fuel - 1, by omega⟩
      refine ⟨1, ?_, .inr rfl, fun _ s hsn => hk s (by omega), fun _ => rfl⟩
      rw [fL_areUpBy_O_b2, dbd_s (show fX7_look_Oc6 N = some (N, dG N 2048) from rfl), hn, if_neg (by omega)]
    | succ m ih =>
      intro fuel i hi hf hk
      obtain ⟨f, rfl⟩ : ∃ f, fuel = f + 1 := ⟨fuel - 1, by omega⟩
      have o1 := (hs i (by omega)).1
      rw [fL_areUpBy_O_b2, dbd_s (show fX7_look_Oc6 N = some (N, dG N 2048) from rfl), hn, if_pos (by omega), dbd_s (sp_st26 hn h8 (show i < n by omega) o1), if_pos rfl, dbd_s (sp_st0 hn h8 (show i < n by omega))]
      by_cases c : dG N (57348 + 26624 * i) = 1
      · rw [if_pos c, dbd_s (sp_st24 hn h8 (show i < n by omega) c)]
        by_cases d : dG N (59393 + 26624 * i) = (w : Int)
        · rw [if_pos d]
          unfold fL_areUpBy_O_b45
          rw [dW_id (x := (i : Int) + 1) ⟨by omega, by omega⟩]
          refine ih f (i + 1) (by omega) (by omega) (fun s hsn => ?_)
          by_cases e : s = i
          · rw [e]; exact c
          · exact hk s (by omega)
        · rw [if_neg d]
          exact ⟨0, rfl, .inl rfl, fun z => absurd rfl z, fun z => absurd (z i (by omega)).2 d⟩
      · rw [if_neg c]
        exact ⟨0, rfl, .inl rfl, fun z => absurd rfl z, fun z => absurd (z i (by omega)).1 c⟩
  exact lo n 1000 0 (by omega) (by omega) (fun s hsn => by omega)
/-! ===== what holds where all are UP ===== -/
theorem dI2_all {n w : Nat} {m B k5 : Int} {ds ss bs : Nat → Int} {N : mMem} (h : dI2 n w m B k5 ds ss bs N) : (∃ q D E, dAll n w m B k5 ds ss bs N q D E) ∧ ((((dPost N).countP dIsT : Nat) : Int) + dPfx (fun s => if dG N (65536 + 26624 * s) = 0 then 0 else 1) n = 1) := by
  obtain ⟨-, -, hc⟩ := h
  rcases hc with ⟨p, D, ⟨f1, f2, f3, f4, f5⟩, a, c⟩ | ⟨h, X, D, E, ⟨f1, f2, f3, f4⟩, a, x⟩
  · have p : dPfx (fun s => if dG N (65536 + 26624 * s) = 0 then (0 : Int) else 1) n = 0 := (dPfx_e (f := fun s => if dG N (65536 + 26624 * s) = 0 then (0 : Int) else 1) (g := fun _ => (0 : Int)) (fun s hs => if_pos (f5 s hs))).trans (dPfx_z n)
    exact ⟨⟨_, _, _, a⟩, by rw [p]; omega⟩
  · have c0 : (dPost N).countP dIsT = 0 := List.countP_eq_zero.mpr (fun r hr => by rw [dClm_nt (f2 r hr)]; decide)
    have p : dPfx (fun s => if dG N (65536 + 26624 * s) = 0 then (0 : Int) else 1) n = 1 := (dPfx_e (f := fun s => if dG N (65536 + 26624 * s) = 0 then (0 : Int) else 1) (g := fun s => if s = h then (1 : Int) else 0) (fun s hs => by
      show (if dG N (65536 + 26624 * s) = 0 then (0 : Int) else 1) = if s = h then 1 else 0
      by_cases e : s = h
      · rw [if_pos e, if_neg (by rw [e, f3]; decide)]
      · rw [if_neg e, if_pos (f4 s hs e)])).trans ((dPfx_one h n).trans (if_pos f1))
    exact ⟨⟨_, _, _, a⟩, by rw [p]; omega⟩
theorem dAll_st {n w : Nat} {m B k5 : Int} {ds ss bs : Nat → Int} {N : mMem} {q : Nat} {D E : Int} (h : dAll n w m B k5 ds ss bs N q D E) : dSt n bs N := ⟨h.1.1, fun s hs => ⟨(h.2.1 s hs).2.1, (h.2.1 s hs).1.2.2⟩⟩
theorem sl_up2 (xs : Nat → Int32) (Ln : Nat) {n w : Nat} {m B k5 : Int} {ds ss bs : Nat → Int} {N : mMem} (h8 : n ≤ 8) (h : dI2 n w m B k5 ds ss bs N) : fL_areUpBy_O xs Ln N (w : Int) = some (N, 1) := by
  obtain ⟨⟨q, D, E, a⟩, -⟩ := dI2_all h
  obtain ⟨v, e1, -, -, e2⟩ := sl_up xs Ln (w := w) h8 (dAll_st a)
  rw [e1, e2 (fun s hs => ⟨(a.2.2.1 s hs).1.1, (a.2.2.1 s hs).1.2.2.1⟩)]
theorem sl_tok {n w : Nat} {m B k5 : Int} {ds ss bs : Nat → Int} {N : mMem} (h8 : n ≤ 8) (h : dI2 n w m B k5 ds ss bs N) : fX7_look_Oc13 N = some (N, 1) := by
  obtain ⟨⟨q, D, E, a⟩, b⟩ := dI2_all h
  have p := a.2.2.2.2.2.1
  exact sp_countTokens a.1.1 h8 p.1 (by omega) b
theorem sl_b358 (xs : Nat → Int32) (Ln : Nat) {n w : Nat} {m B k5 : Int} {ds ss bs : Nat → Int} {N : mMem} (h8 : n ≤ 8) (hB : 60 ≤ B ∧ B ≤ 300) (h : dI2 n w m B k5 ds ss bs N) (k0 : mMem → Int → Int → Int → Int → Int → Option dZ) (x6 x7 : Int) : ∀ (d fuel i : Nat), n = i + d → d < fuel → fL_law_b358 xs Ln k0 fuel N (n : Int) (w : Int) B x6 x7 (i : Int) = k0 N (n : Int) (w : Int) B x6 (dW (x7 + 1)) := fun d => by
  obtain ⟨⟨q, D, E, a⟩, -⟩ := dI2_all h
  have hn := a.1.1
  induction d with
  | zero =>
    intro fuel i hi hf
    obtain ⟨f, rfl⟩ : ∃ f, fuel = f + 1 := ⟨fuel - 1, by omega⟩
    rw [fL_law_b358, if_neg (by omega)]
  | succ d ih =>
    intro fuel i hi hf
    obtain ⟨f, rfl⟩ : ∃ f, fuel = f + 1 := ⟨fuel - 1, by omega⟩
    have hin : i < n := by omega
    obtain ⟨⟨c1, c2, c3, c4, c5⟩, d1, ⟨d2, d3⟩, ⟨d4, d5⟩, d6, ⟨d7, d8⟩, d9, -⟩ := a.2.2.1 i hin
    obtain ⟨⟨v1, v2, v3⟩, v4, v5, v6, v7, v8, v9, v10⟩ := a.2.1 i hin
    rw [fL_law_b358, if_pos (by omega), dbd_s (sp_st3 hn h8 hin c1), if_pos c2, dbd_s (sp_st5 hn h8 hin c1), if_neg (by omega), dbd_s (sp_st23 hn h8 hin), dW_id (x := 2 * B) ⟨by omega, by omega⟩, if_neg (by omega), dbd_s (sp_st18 hn h8 hin), if_pos v8, dbd_s (sp_st9 hn h8 hin), dbd_s (sp_st2 hn h8 hin), if_neg (by omega), dbd_s (sp_st21 hn h8 hin)]
    unfold fL_law_b467
    rw [dW_id (x := (i : Int) + 1) ⟨by omega, by omega⟩]
    have nx := ih f (i + 1) (by omega) (by omega)
    by_cases c : 0 < dG N (81926 + 26624 * i)
    · obtain ⟨v, e1, e2⟩ := sp_mean hn h8 hin d6 c d9
      rw [if_pos c, dbd_s e1, dbd_s (sp_st23 hn h8 hin), if_neg e2]
      exact nx
    · rw [if_neg c]
      exact nx
theorem sl_b285 (xs : Nat → Int32) (Ln : Nat) {n w : Nat} {m B k5 : Int} {ds ss bs : Nat → Int} (hpar : dPar n m ds ss bs) (hw : w < n) (hb : bs w = B) {N : mMem} (h : dI2 n w m B k5 ds ss bs N) (ht : dG N 2049 ≤ 19000) (k : mMem → Int → Int → Int → Int → Int → Option dZ) (x7 x8 : Int) : ∃ N1, fL_law_b285 xs Ln k N (n : Int) (w : Int) B k5 x7 x8 = k N1 (n : Int) (w : Int) B k5 (dW (x7 + 1)) ∧ dI2 n w m B k5 ds ss bs N1 ∧ dG N1 2049 ≤ dG N 2049 + 120 := by
  obtain ⟨⟨h2, h8⟩, -, hs⟩ := id hpar
  have hB : 60 ≤ B ∧ B ≤ 300 := by rw [← hb]; exact (hs w hw).2.2.1
  obtain ⟨v, e1, g1⟩ := sl_between xs Ln N (dShr x8 16) (lo := 1) (hi := 120) ⟨by omega, by omega, by omega⟩
  obtain ⟨x, rfl⟩ : ∃ x : Nat, v = (x : Int) := ⟨v.toNat, by omega⟩
  obtain ⟨N1, e2, g2, g3⟩ := p2_tickO hpar hw hb h (x := x) ⟨by omega, by omega⟩ (by omega)
  obtain ⟨⟨q, D, E, a⟩, -⟩ := dI2_all g2
  obtain ⟨l1, l2, l3⟩ := a.1.2.2.2.2.2
  have k5e := a.2.2.2.2.2.2.2
  refine ⟨N1, ?_, g2, by omega⟩
  unfold fL_law_b285
  rw [dbd_s e1, dbd_s e2, dbd_s (sl_up2 xs Ln h8 g2), if_neg (by decide), dbd_s (sl_tok h8 g2), if_pos rfl, dbd_s (show fX7_count_Oc5 N1 = some (N1, dG N1 53253) from rfl), if_pos k5e, dbd_s (show fX7_count_Oc2 N1 = some (N1, dG N1 53250) from rfl), if_pos l2, dbd_s (show fX7_count_Oc3 N1 = some (N1, dG N1 53251) from rfl), if_pos l3, dbd_s (show fX7_count_Oc1 N1 = some (N1, dG N1 53249) from rfl), if_pos l1]
  exact sl_b358 xs Ln h8 hB g2 k k5 x7 n 1000 0 (by omega) (by omega)
theorem sl_b186 (xs : Nat → Int32) (Ln : Nat) {n w : Nat} {m B k5 : Int} {ds ss bs : Nat → Int} (hpar : dPar n m ds ss bs) (hw : w < n) (hb : bs w = B) : ∀ (d fuel i : Nat) (N : mMem), 25 = i + d → d < fuel → dI2 n w m B k5 ds ss bs N → dG N 2049 ≤ 1000 + 120 * (i : Int) → ∃ N1, fL_law_b186 xs Ln fuel N (n : Int) (w : Int) B k5 (i : Int) = some (N1, 1) := fun d => by
  obtain ⟨⟨h2, h8⟩, -, hs⟩ := id hpar
  have hB : 60 ≤ B ∧ B ≤ 300 := by rw [← hb]; exact (hs w hw).2.2.1
  induction d with
  | zero =>
    intro fuel i N hi hf h ht
    obtain ⟨f, rfl⟩ : ∃ f, fuel = f + 1 := ⟨fuel - 1, by omega⟩
    obtain ⟨⟨q, D, E, a⟩, -⟩ := dI2_all h
    have hn := a.1.1
    have k1 : ∀ s, s < n → dG N (57348 + 26624 * s) = 1 := fun s hs => (a.2.2.1 s hs).1.1
    obtain ⟨v, e1, g1⟩ := sp_longest (M := 2 * B) hn h8 (by omega) (fun s hs => (a.2.2.1 s hs).2.2.2.2.2.1.2)
    refine ⟨N, ?_⟩
    rw [fL_law_b186, if_neg (by omega), dbd_s e1, dW_id (x := 2 * B) ⟨by omega, by omega⟩, if_neg (by omega), dbd_s (sp_look15 hn h8 k1), if_pos rfl, dbd_s (sp_look16 hn h8 k1), if_pos rfl, dbd_s (sp_look17 hn h8 k1), if_pos rfl, dbd_s (sp_suspects hn h8 k1), if_pos rfl]
  | succ d ih =>
    intro fuel i N hi hf h ht
    obtain ⟨f, rfl⟩ : ∃ f, fuel = f + 1 := ⟨fuel - 1, by omega⟩
    obtain ⟨v, e1⟩ := sl_cell xs Ln N (x := 40 + (i : Int)) (by omega)
    have on : ∀ M : mMem, dI2 n w m B k5 ds ss bs M → dG M 2049 = dG N 2049 → ∃ N1, fL_law_b285 xs Ln (fL_law_b186 xs Ln f) M (n : Int) (w : Int) B k5 (i : Int) v = some (N1, 1) := fun M hM tM => by
      obtain ⟨N1, e2, g2, g3⟩ := sl_b285 xs Ln hpar hw hb hM (by omega) (fL_law_b186 xs Ln f) (i : Int) v
      obtain ⟨N2, e3⟩ := ih f (i + 1) N1 (by omega) (by omega) g2 (by omega)
      refine ⟨N2, ?_⟩
      rw [e2, dW_id (x := (i : Int) + 1) ⟨by omega, by omega⟩]
      exact e3
    rw [fL_law_b186, if_pos (by omega), dW_id (x := 40 + (i : Int)) ⟨by omega, by omega⟩, dbd_s e1]
    by_cases c : dAnd v 3 = 0
    · obtain ⟨y, e2, g2⟩ := sl_between xs Ln N (dShr v 2) (lo := 1) (hi := 30) ⟨by omega, by omega, by omega⟩
      obtain ⟨M, u, e3, g3, g4⟩ := dI2_storm hpar h g2
      rw [if_pos c, dbd_s e2, dbd_s e3]
      exact on M g3 g4
    · rw [if_neg c]
      by_cases c2 : dAnd v 3 = 1
      · obtain ⟨y1, e2, g2⟩ := sl_between xs Ln N (dShr v 2) (lo := 0) (hi := (n : Int) - 1) ⟨by omega, by omega, by omega⟩
        obtain ⟨y2, e3, g3⟩ := sl_between xs Ln N (dShr v 5) (lo := 0) (hi := (n : Int) - 1) ⟨by omega, by omega, by omega⟩
        obtain ⟨y3, e4, g4⟩ := sl_between xs Ln N (dShr v 8) (lo := 1) (hi := 3) ⟨by omega, by omega, by omega⟩
        obtain ⟨y4, e5, g5⟩ := sl_between xs Ln N (dShr v 10) (lo := 1) (hi := 20) ⟨by omega, by omega, by omega⟩
        obtain ⟨M, u, e6, g6, g7⟩ := dI2_frame hpar h y1 y2 y3 y4
        rw [if_pos c2, dW_id (x := (n : Int) - 1) ⟨by omega, by omega⟩, dbd_s e2, dbd_s e3, dbd_s e4, dbd_s e5, dbd_s e6]
        exact on M g6 g7
      · rw [if_neg c2]
        exact on N h rfl
theorem sl_b126 (xs : Nat → Int32) (Ln : Nat) {n w : Nat} {m B k5 : Int} {ds ss bs : Nat → Int} (hpar : dPar n m ds ss bs) (hw : w < n) (hb : bs w = B) {N : mMem} (h : dI2 n w m B k5 ds ss bs N) (ht : dG N 2049 ≤ 1000) : ∃ N1, fL_law_b126 xs Ln N (n : Int) (w : Int) = some (N1, 1) := by
  obtain ⟨⟨h2, h8⟩, -, hs⟩ := id hpar
  have hB : 60 ≤ B ∧ B ≤ 300 := by rw [← hb]; exact (hs w hw).2.2.1
  obtain ⟨⟨q, D, E, a⟩, -⟩ := dI2_all h
  have hn := a.1.1
  obtain ⟨w1, w2⟩ := a.2.2.2.2.2.2
  have bw : dG N (57345 + 26624 * w) = B := ((a.2.1 w hw).1.2.2).trans hb
  obtain ⟨N1, e1⟩ := sl_b186 xs Ln hpar hw hb 25 1000 0 N (by omega) (by omega) h (by omega)
  refine ⟨N1, ?_⟩
  unfold fL_law_b126
  rw [dbd_s (sl_up2 xs Ln h8 h), if_neg (by decide), dbd_s (sl_tok h8 h), if_pos rfl, dbd_s (sp_st1 hn h8 hw), bw, dbd_s (show fX7_count_Oc5 N = some (N, dG N 53253) from rfl), w2, dbd_s (show fX7_count_Oc4 N = some (N, dG N 53252) from rfl), if_pos w1, dbd_s (sp_look23 hn (by omega) h8 (by omega) (fun s hs => ⟨(a.2.2.1 s hs).1.1, (a.2.2.1 s hs).1.2.1⟩)), if_pos rfl]
  exact e1
theorem sl_b91 (xs : Nat → Int32) (Ln : Nat) {n w k : Nat} {m : Int} {ds ss bs : Nat → Int} (hpar : dPar n m ds ss bs) (hk : k < n) (hw : w < n) (hwl : ∀ t, t < n → dLe bs w t) : ∀ (d fuel : Nat) (N : mMem) (t : Int), dG N 2049 = t → 0 ≤ t → 3 * dPfx ds n ≤ t + d → d + 1 < fuel → (dI1 n w k m ds ss bs N ∨ ∃ k5, dI2 n w m (bs w) k5 ds ss bs N) → dG N 2049 ≤ 200 → ∃ N1, fL_law_b91 xs Ln fuel N (n : Int) (w : Int) t = some (N1, 1) := fun d => by
  obtain ⟨⟨h2, h8⟩, -, hs⟩ := id hpar
  have hL := dPfx_b (f := ds) (a := 0) (b := 5) (k := n) (fun i hi => by have := hs i hi; omega)
  have two : ∀ (f : Nat) (N : mMem) (t k5 : Int), dI2 n w m (bs w) k5 ds ss bs N → dG N 2049 ≤ 1000 → ∃ N1, fL_law_b91 xs Ln (f + 1) N (n : Int) (w : Int) t = some (N1, 1) := fun f N t k5 h ht => by
    obtain ⟨⟨q, D, E, a⟩, -⟩ := dI2_all h
    have hn := a.1.1
    have dl : ∀ s, s < n → dG N (6144 + s) = ds s := fun s hs => (a.2.1 s hs).1.1
    obtain ⟨N1, e1⟩ := sl_b126 xs Ln hpar hw rfl h ht
    refine ⟨N1, ?_⟩
    rw [fL_law_b91, dbd_s (sp_look8 hn h8 (fun s hsn => by rw [dl s hsn]; have := hs s hsn; omega))]
    by_cases c : t < dW (dW (3 * dPfx (fun k => dG N (6144 + k)) n) + (n : Int))
    · rw [if_pos c, dbd_s (sl_up2 xs Ln h8 h), if_neg (by decide)]
      exact e1
    · rw [if_neg c]
      exact e1
  induction d with
  | zero =>
    intro fuel N t h1 h0 h3 hf hc ht
    obtain ⟨f, rfl⟩ : ∃ f, fuel = f + 1 := ⟨fuel - 1, by omega⟩
    rcases hc with hc | ⟨k5, hc⟩
    · have := p1_time hpar hk hw hc
      omega
    · exact two f N t k5 hc (by omega)
  | succ d ih =>
    intro fuel N t h1 h0 h3 hf hc ht
    obtain ⟨f, rfl⟩ : ∃ f, fuel = f + 1 := ⟨fuel - 1, by omega⟩
    rcases hc with hc | ⟨k5, hc⟩
    · have tm := p1_time hpar hk hw hc
      obtain ⟨u, hu1, hu2⟩ := p1_notup hpar hk hw hc
      obtain ⟨N1, e1, g1, g2⟩ := p1_tickO hpar hk hw hwl hc
      obtain ⟨-, ph, f', j, A, B, hg, -⟩ := id hc
      obtain ⟨-, gr, gs, -⟩ := hg
      have hn := gr.1
      have dl : ∀ s, s < n → dG N (6144 + s) = ds s := fun s hs => (gs s hs).1.1
      have pf : dPfx (fun k => dG N (6144 + k)) n = dPfx ds n := dPfx_e (fun i hi => dl i hi)
      obtain ⟨v, e2, v1, v2, -⟩ := sl_up xs Ln (w := w) (bs := bs) h8 ⟨hn, fun s hs => ⟨(gs s hs).2.1, (gs s hs).1.2.2⟩⟩
      have v0 : v = 0 := by
        rcases v1 with q | q
        · exact q
        · exact absurd (v2 (by omega) u hu1) hu2
      obtain ⟨N2, e3⟩ := ih f N1 (t + 1) (by omega) (by omega) (by omega) (by omega) g2 (by omega)
      refine ⟨N2, ?_⟩
      rw [fL_law_b91, dbd_s (sp_look8 hn h8 (fun s hsn => by rw [dl s hsn]; have := hs s hsn; omega)), pf, dW_id (x := 3 * dPfx ds n) ⟨by omega, by omega⟩, dW_id (x := 3 * dPfx ds n + (n : Int)) ⟨by omega, by omega⟩, if_pos (by omega), dbd_s e2, if_pos v0, dbd_s e1, dW_id (x := t + 1) ⟨by omega, by omega⟩]
      exact e3
    · exact two f N t k5 hc (by omega)
/-- the law, from where the class's object stands -/
theorem sl_law {xs : Nat → Int32} {Ln : Nat} {N0 : mMem} (h : dStart xs Ln N0) : ∃ N1, fL_law_b8 xs Ln N0 = some (N1, 1) := by
  obtain ⟨n, N1, ⟨h2, h8⟩, e1, g1⟩ := sl_ring h
  obtain ⟨hpar, h0⟩ := dB0_I0 h2 h8 g1
  obtain ⟨hf, hm, hr, hwf⟩ := id g1
  have hn := hf.1.1
  have ho : ∀ k, k < n → dG N1 (57347 + 26624 * k) = 0 := fun k hk => dBf_y hf (j := 3) hk (by unfold dBy; omega) (by omega)
  have hkd : ∀ k, k < n → dG N1 (57348 + 26624 * k) = 0 := fun k hk => dBf_y hf (j := 4) hk (by unfold dBy; omega) (by omega)
  have r : ∀ k, k < n → (0 ≤ dG N1 (57345 + 26624 * k)) ∧ (0 ≤ dG N1 (57346 + 26624 * k) ∧ dG N1 (57346 + 26624 * k) ≤ 25) ∧ (0 ≤ dG N1 (6144 + k) ∧ dG N1 (6144 + k) ≤ 5) := fun k hk => by
    obtain ⟨a, b, c, d⟩ := hr k hk
    exact ⟨by omega, ⟨by omega, by omega⟩, ⟨by omega, by omega⟩⟩
  have a1 := sp_allShares hn h8 ho (fun k hk => by have := (r k hk).2.1; omega)
  have a2 := sp_look8 hn h8 (fun k hk => by have := (r k hk).2.2; omega)
  obtain ⟨v, a3, a4, k, hk1, hk2⟩ := sp_floor hn (by omega) h8 ho hkd (fun k hk => (r k hk).1)
  have b1 := dPfx_b (f := fun k => dG N1 (57346 + 26624 * k)) (a := 0) (b := 25) (k := n) (fun j hj => (r j hj).2.1)
  have b2 := dPfx_b (f := fun k => dG N1 (6144 + k)) (a := 0) (b := 5) (k := n) (fun j hj => (r j hj).2.2)
  have fl := hwf k hk1
  have l10 : fX7_look_Oc10 N1 = some (N1, dPfx (fun k => dG N1 (57346 + 26624 * k)) n) := by
    unfold fX7_look_Oc10 fX7_look_Oc10_b20
    rw [dbd_s a1]
  have l9 : fX7_look_Oc9 N1 = some (N1, v) := by
    unfold fX7_look_Oc9 fX7_look_Oc9_b20
    rw [dbd_s a3]
  unfold fL_law_b8
  rw [dbd_s e1, dbd_s l10, dbd_s a2, dbd_s (show fX7_look_Oc0 N1 = some (N1, dG N1 4096) from rfl), dbd_s l9, dW_id (x := dPfx (fun k => dG N1 (57346 + 26624 * k)) n + dPfx (fun k => dG N1 (6144 + k)) n) ⟨by omega, by omega⟩, dW_id (x := dPfx (fun k => dG N1 (57346 + 26624 * k)) n + dPfx (fun k => dG N1 (6144 + k)) n + dG N1 4096) ⟨by omega, by omega⟩, if_neg (by omega)]
  obtain ⟨x1, c1⟩ := sl_cell xs Ln N1 (x := 35) (by decide)
  obtain ⟨x2, c2, c3⟩ := sl_between xs Ln N1 x1 (lo := 1) (hi := 20) ⟨by omega, by omega, by omega⟩
  obtain ⟨N2, x3, c4, i2⟩ := dI0_storm hpar h0 (x := x2) ⟨by omega, by omega⟩
  obtain ⟨x4, c5⟩ := sl_cell xs Ln N2 (x := 36) (by decide)
  obtain ⟨x5, c6, c7⟩ := sl_between xs Ln N2 x4 (lo := 0) (hi := (n : Int) - 1) ⟨by omega, by omega, by omega⟩
  obtain ⟨u, rfl⟩ : ∃ u : Nat, x5 = (u : Int) := ⟨x5.toNat, by omega⟩
  obtain ⟨w, w1, w2⟩ := dLe_all (bs := fun s => dG N1 (57345 + 26624 * s)) n (by omega)
  obtain ⟨N3, c8, i3, t3⟩ := p1_claim (w := w) hpar (show u < n by omega) w1 i2
  rw [dbd_s c1, dbd_s c2, dbd_s c4, dbd_s c5, dW_id (x := (n : Int) - 1) ⟨by omega, by omega⟩, dbd_s c6, dbd_s c8, if_neg (by decide)]
  obtain ⟨-, ph, f', j, A, B, hg, -⟩ := id i3
  obtain ⟨-, gr, gs, -⟩ := hg
  have le := sl_least xs Ln (bs := fun s => dG N1 (57345 + 26624 * s)) (N := N3) (by omega) h8 w1 w2 ⟨gr.1, fun s hs => ⟨(gs s hs).2.1, (gs s hs).1.2.2⟩⟩
  rw [dbd_s le]
  have hL := dPfx_b (f := fun k => dG N1 (6144 + k)) (a := 0) (b := 5) (k := n) (fun j hj => (r j hj).2.2)
  exact sl_b91 xs Ln hpar (show u < n by omega) w1 w2 200 1000 N3 0 t3 (by omega) (by omega) (by omega) (.inl i3) (by omega)

