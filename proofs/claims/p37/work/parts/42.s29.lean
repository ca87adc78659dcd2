/-! ===== how many tokens ===== -/
theorem dCnt_s (N : mMem) (i : Nat) : ((List.range (i + 1)).map (dRow N)).countP dIsT = ((List.range i).map (dRow N)).countP dIsT + (if dG N (14336 + i) = 2 then 1 else 0) := by
  rw [List.range_succ, List.map_append, List.countP_append]
  congr 1
  show List.countP dIsT [dRow N i] = _
  rw [List.countP_cons, List.countP_nil, Nat.zero_add]
  by_cases c : dG N (14336 + i) = 2
  · have e : dIsT (dRow N i) = true := decide_eq_true c
    rw [if_pos e, if_pos c]
  · have e : ¬ dIsT (dRow N i) = true := fun z => c (of_decide_eq_true z)
    rw [if_neg e, if_neg c]
theorem sp_countT {N : mMem} (h0 : 0 ≤ dG N 10243) (h1 : dG N 10243 ≤ 100) : fX4_countOf_Pc0 N 2 = some (N, (((dPost N).countP dIsT : Nat) : Int)) := by
  have lo : ∀ (m fuel i : Nat), dG N 10243 = (i : Int) + (m : Int) → m < fuel → fX4_countOf_Pc0_b5 fuel N 2 ((((List.range i).map (dRow N)).countP dIsT : Nat) : Int) (i : Int) = some (N, (((dPost N).countP dIsT : Nat) : Int)) := fun m => by
    induction m with
    | zero =>
      intro fuel i hi hf
      obtain ⟨f, rfl⟩ : ∃ f, fuel = f + 1 := ⟨fuel - 1, by omega⟩
      rw [fX4_countOf_Pc0_b5, if_neg (by omega)]
      unfold dPost
      rw [show (dG N 10243).toNat = i by omega]
    | succ m ih =>
      intro fuel i hi hf
      obtain ⟨f, rfl⟩ : ∃ f, fuel = f + 1 := ⟨fuel - 1, by omega⟩
      have b : ((List.range i).map (dRow N)).countP dIsT ≤ i := by
        have := List.countP_le_length (p := dIsT) (l := (List.range i).map (dRow N))
        rw [List.length_map, List.length_range] at this
        exact this
      have s := dCnt_s N i
      rw [fX4_countOf_Pc0_b5, if_pos (by omega), dgd_t ⟨by omega, by omega⟩, Int.toNat_natCast]
      unfold fX4_countOf_Pc0_b30
      rw [dW_id (x := (i : Int) + 1) ⟨by omega, by omega⟩]
      have n1 := ih f (i + 1) (by omega) (by omega)
      by_cases c : dG N (14336 + i) = 2
      · rw [if_pos c, dW_id ⟨by omega, by omega⟩]
        rw [if_pos c] at s
        rw [s] at n1
        exact n1
      · rw [if_neg c]
        rw [if_neg c, Nat.add_zero] at s
        rw [s] at n1
        exact n1
  exact lo (dG N 10243).toNat 1000 0 (by omega) (by omega)
theorem dPfx_one (h : Nat) : ∀ k : Nat, dPfx (fun s => if s = h then (1 : Int) else 0) k = if h < k then 1 else 0 := fun k => by
  induction k with
  | zero => rw [if_neg (by omega)] <;> rfl
  | succ k ih =>
    rw [dPfx_s, ih]
    show (if h < k then (1 : Int) else 0) + (if k = h then 1 else 0) = _
    by_cases c : k = h
    · rw [if_neg (by omega), if_pos c, if_pos (by omega)] <;> rfl
    · rw [if_neg c]
      by_cases d : h < k
      · rw [if_pos d, if_pos (by omega)] <;> rfl
      · rw [if_neg d, if_neg (by omega)] <;> rfl
theorem dPfx_z : ∀ k : Nat, dPfx (fun _ => (0 : Int)) k = 0 := fun k => by
  induction k with
  | zero => rfl
  | succ k ih => rw [dPfx_s, ih] <;> rfl
theorem sp_countTokens {N : mMem} {n : Nat} (hn : dG N 2048 = (n : Int)) (h8 : n ≤ 8) (h0 : 0 ≤ dG N 10243) (h1 : dG N 10243 ≤ 100) {v : Int} (hv : (((dPost N).countP dIsT : Nat) : Int) + dPfx (fun s => if dG N (65536 + 26624 * s) = 0 then 0 else 1) n = v) : fX7_look_Oc13 N = some (N, v) := by
  have b0 : (dPost N).countP dIsT ≤ 100 := by
    have := List.countP_le_length (p := dIsT) (l := dPost N)
    rw [dPost_len] at this
    omega
  have lo : ∀ (m fuel i : Nat), n = i + m → m < fuel → fX3_countTokens_R_b12 fuel N ((((dPost N).countP dIsT : Nat) : Int) + dPfx (fun s => if dG N (65536 + 26624 * s) = 0 then 0 else 1) i) (i : Int) = some (N, v) := fun m => by
    induction m with
    | zero =>
      intro fuel i hi hf
      obtain ⟨f, rfl⟩ : ∃ f, fuel = f + 1 := ⟨fuel - 1, by omega⟩
      have e : n = i := hi
      subst e
      rw [fX3_countTokens_R_b12, hn, if_neg (by omega), hv]
    | succ m ih =>
      intro fuel i hi hf
      obtain ⟨f, rfl⟩ : ∃ f, fuel = f + 1 := ⟨fuel - 1, by omega⟩
      have b := dPfx_b (f := fun s => if dG N (65536 + 26624 * s) = 0 then (0 : Int) else 1) (a := 0) (b := 1) (k := i) (fun j hj => by
        show 0 ≤ (if dG N (65536 + 26624 * j) = 0 then (0 : Int) else 1) ∧ (if dG N (65536 + 26624 * j) = 0 then (0 : Int) else 1) ≤ 1
        split <;> exact ⟨by decide, by decide⟩)
      have nx := ih f (i + 1) (by omega) (by omega)
      rw [dPfx_s] at nx
      have nx : fX3_countTokens_R_b12 f N ((((dPost N).countP dIsT : Nat) : Int) + (dPfx (fun s => if dG N (65536 + 26624 * s) = 0 then 0 else 1) i + (if dG N (65536 + 26624 * i) = 0 then 0 else 1))) (((i + 1 : Nat)) : Int) = some (N, v) := nx
      rw [fX3_countTokens_R_b12, hn, if_pos (by omega), dgd_t ⟨by omega, by omega⟩, Int.toNat_natCast]
      unfold dln
      dsimp only
      generalize dPfx (fun s => if dG N (65536 + 26624 * s) = 0 then (0 : Int) else 1) i = p at b nx ⊢
      unfold fX3_countTokens_R_b41
      rw [dW_id (x := (i : Int) + 1) ⟨by omega, by omega⟩]
      by_cases c : dG N (65536 + 26624 * i) = 0
      · rw [if_pos c, dW_id ⟨by omega, by omega⟩]
        rw [if_pos c] at nx
        rw [Int.add_assoc]
        exact nx
      · rw [if_neg c, dW_id ⟨by omega, by omega⟩]
        rw [if_neg c] at nx
        rw [Int.add_assoc]
        exact nx
  have z := lo n 1000 0 (by omega) (by omega)
  rw [dPfx_0, Int.add_zero] at z
  unfold fX7_look_Oc13 fX7_look_Oc13_b20 fX3_countTokens_R
  rw [dbd_s (sp_countT h0 h1)]
  have z : fX3_countTokens_R_b12 1000 N (((dPost N).countP dIsT : Nat) : Int) 0 = some (N, v) := z
  rw [dbd_s z]
/-! ===== the others ===== -/
theorem sp_longest {N : mMem} {n : Nat} {M : Int} (hn : dG N 2048 = (n : Int)) (h8 : n ≤ 8) (h0 : 0 ≤ M) (h : ∀ s, s < n → dG N (81928 + 26624 * s) ≤ M) : ∃ v, fX7_look_Oc22 N = some (N, v) ∧ v ≤ M := by
  have lo : ∀ (m fuel i : Nat) (x : Int), n = i + m → m < fuel → x ≤ M → ∃ v, fX3_longestTrip_R_b4 fuel N x (i : Int) = some (N, v) ∧ v ≤ M := fun m => by
    induction m with
    | zero =>
      intro fuel i x hi hf hx
      obtain ⟨f, rfl⟩ : ∃ f, fuel = f + 1 := ⟨fuel - 1, by omega⟩
      exact ⟨x, by rw [fX3_longestTrip_R_b4, hn, if_neg (by omega)], hx⟩
    | succ m ih =>
      intro fuel i x hi hf hx
      obtain ⟨f, rfl⟩ : ∃ f, fuel = f + 1 := ⟨fuel - 1, by omega⟩
      rw [fX3_longestTrip_R_b4, hn, if_pos (by omega), dgd_t ⟨by omega, by omega⟩, Int.toNat_natCast]
      unfold dln
      dsimp only
      rw [dW_id (x := (i : Int) + 1) ⟨by omega, by omega⟩]
      refine ih f (i + 1) _ (by omega) (by omega) ?_
      have := h i (by omega)
      unfold dMx
      split <;> omega
  obtain ⟨v, e, h⟩ := lo n 1000 0 0 (by omega) (by omega) h0
  have e : fX3_longestTrip_R N = some (N, v) := e
  refine ⟨v, ?_, h⟩
  unfold fX7_look_Oc22 fX7_look_Oc22_b20
  rw [dbd_s e]

theorem sp_look15 {N : mMem} {n : Nat} (hn : dG N 2048 = (n : Int)) (h8 : n ≤ 8) (hk : ∀ s, s < n → dG N (57348 + 26624 * s) = 1) : fX7_look_Oc15 N = some (N, 0) := by
  have lo : ∀ (m fuel i : Nat), n = i + m → m < fuel → fX3_kindSet_Rc2_b4 fuel N 0 (i : Int) = some (N, 0) := fun m => by
    induction m with
    | zero =>
      intro fuel i hi hf
      obtain ⟨f, rfl⟩ : ∃ f, fuel = f + 1 := ⟨fuel - 1, by omega⟩
      rw [fX3_kindSet_Rc2_b4, hn, if_neg (by omega)]
    | succ m ih =>
      intro fuel i hi hf
      obtain ⟨f, rfl⟩ : ∃ f, fuel = f + 1 := ⟨fuel - 1, by omega⟩
      have k1 := hk i (by omega)
      rw [fX3_kindSet_Rc2_b4, hn, if_pos (by omega), dgd_t ⟨by omega, by omega⟩, Int.toNat_natCast]
      unfold dln
      dsimp only
      rw [if_neg (by omega)]
      unfold fX3_kindSet_Rc2_b31
      rw [dW_id (x := (i : Int) + 1) ⟨by omega, by omega⟩]
      exact ih f (i + 1) (by omega) (by omega)
  have e : fX3_kindSet_Rc2 N = some (N, 0) := lo n 1000 0 (by omega) (by omega)
  unfold fX7_look_Oc15 fX7_look_Oc15_b20
  rw [dbd_s e]
theorem sp_look16 {N : mMem} {n : Nat} (hn : dG N 2048 = (n : Int)) (h8 : n ≤ 8) (hk : ∀ s, s < n → dG N (57348 + 26624 * s) = 1) : fX7_look_Oc16 N = some (N, 0) := by
  have lo : ∀ (m fuel i : Nat), n = i + m → m < fuel → fX3_kindSet_Rc3_b4 fuel N 0 (i : Int) = some (N, 0) := fun m => by
    induction m with
    | zero =>
      intro fuel i hi hf
      obtain ⟨f, rfl⟩ : ∃ f, fuel = f + 1 := ⟨fuel - 1, by omega⟩
      rw [fX3_kindSet_Rc3_b4, hn, if_neg (by omega)]
    | succ m ih =>
      intro fuel i hi hf
      obtain ⟨f, rfl⟩ : ∃ f, fuel = f + 1 := ⟨fuel - 1, by omega⟩
      have k1 := hk i (by omega)
      rw [fX3_kindSet_Rc3_b4, hn, if_pos (by omega), dgd_t ⟨by omega, by omega⟩, Int.toNat_natCast]
      unfold dln
      dsimp only
      rw [if_neg (by omega)]
      unfold fX3_kindSet_Rc3_b31
      rw [dW_id (x := (i : Int) + 1) ⟨by omega, by omega⟩]
      exact ih f (i + 1) (by omega) (by omega)
  have e : fX3_kindSet_Rc3 N = some (N, 0) := lo n 1000 0 (by omega) (by omega)
  unfold fX7_look_Oc16 fX7_look_Oc16_b20
  rw [dbd_s e]
theorem sp_look17 {N : mMem} {n : Nat} (hn : dG N 2048 = (n : Int)) (h8 : n ≤ 8) (hk : ∀ s, s < n → dG N (57348 + 26624 * s) = 1) : fX7_look_Oc17 N = some (N, 0) := by
  have lo : ∀ (m fuel i : Nat), n = i + m → m < fuel → fX3_kindSet_Rc4_b4 fuel N 0 (i : Int) = some (N, 0) := fun m => by
    induction m with
    | zero =>
      intro fuel i hi hf
      obtain ⟨f, rfl⟩ : ∃ f, fuel = f + 1 := ⟨fuel - 1, by omega⟩
      rw [fX3_kindSet_Rc4_b4, hn, if_neg (by omega)]
    | succ m ih =>
      intro fuel i hi hf
      obtain ⟨f, rfl⟩ : ∃ f, fuel = f + 1 := ⟨fuel - 1, by omega⟩
      have k1 := hk i (by omega)
      rw [fX3_kindSet_Rc4_b4, hn, if_pos (by omega), dgd_t ⟨by omega, by omega⟩, Int.toNat_natCast]
      unfold dln
      dsimp only
      rw [if_neg (by omega)]
      unfold fX3_kindSet_Rc4_b31
      rw [dW_id (x := (i : Int) + 1) ⟨by omega, by omega⟩]
      exact ih f (i + 1) (by omega) (by omega)
  have e : fX3_kindSet_Rc4 N = some (N, 0) := lo n 1000 0 (by omega) (by omega)
  unfold fX7_look_Oc17 fX7_look_Oc17_b20
  rw [dbd_s e]
theorem sp_suspects {N : mMem} {n : Nat} (hn : dG N 2048 = (n : Int)) (h8 : n ≤ 8) (hk : ∀ s, s < n → dG N (57348 + 26624 * s) = 1) : fX7_suspects_O N = some (N, 0) := by
  have lo : ∀ (m fuel i : Nat), n = i + m → m < fuel → fX7_suspects_O_b4 fuel N 0 (i : Int) = some (N, 0) := fun m => by
    induction m with
    | zero =>
      intro fuel i hi hf
      obtain ⟨f, rfl⟩ : ∃ f, fuel = f + 1 := ⟨fuel - 1, by omega⟩
      rw [fX7_suspects_O_b4, hn, if_neg (by omega)]
    | succ m ih =>
      intro fuel i hi hf
      obtain ⟨f, rfl⟩ : ∃ f, fuel = f + 1 := ⟨fuel - 1, by omega⟩
      have k1 := hk i (by omega)
      rw [fX7_suspects_O_b4, hn, if_pos (by omega), dgd_t ⟨by omega, by omega⟩, Int.toNat_natCast]
      unfold dln
      dsimp only
      rw [if_neg (by omega)]
      unfold fX7_suspects_O_b97_2
      rw [dW_id (x := (i : Int) + 1) ⟨by omega, by omega⟩]
      exact ih f (i + 1) (by omega) (by omega)
  exact lo n 1000 0 (by omega) (by omega)
theorem sp_look8 {N : mMem} {n : Nat} (hn : dG N 2048 = (n : Int)) (h8 : n ≤ 8) (hd : ∀ k, k < n → 0 ≤ dG N (6144 + k) ∧ dG N (6144 + k) ≤ 100) : fX7_look_Oc8 N = some (N, dPfx (fun k => dG N (6144 + k)) n) := by
  unfold fX7_look_Oc8 fX7_look_Oc8_b20
  rw [dbd_s (sp_latency hn h8 hd)]
theorem sp_look23 {N : mMem} {n : Nat} {B : Int} (hn : dG N 2048 = (n : Int)) (h1 : 1 ≤ n) (h8 : n ≤ 8) (hB : 0 ≤ B) (hk : ∀ k, k < n → dG N (57348 + 26624 * k) = 1 ∧ dG N (59392 + 26624 * k) = B) : fX7_look_Oc23 N = some (N, B) := by
  unfold fX7_look_Oc23 fX7_look_Oc23_b20
  rw [dbd_s (sp_leastUp hn h1 h8 hB hk)]
theorem dJ_le {x y : Int} (hx : dR6 x) (hy : dR6 y) (h : x ≤ y) : ¬ 0 < dCmp x y := by
  unfold dCmp
  rw [lg_cmp_i (dJ_i hx) (dJ_i hy), if_neg (by omega)]
  split <;> first | decide | decide +kernel
/-- the mean of the ROUND TRIPS is no more than the longest -/
theorem sp_mean {N : mMem} {u n : Nat} (hn : dG N 2048 = (n : Int)) (h8 : n ≤ 8) (hu : u < n) (h0 : 0 ≤ dG N (81927 + 26624 * u)) (h1 : 0 < dG N (81926 + 26624 * u)) (h : dG N (81927 + 26624 * u) ≤ dG N (81926 + 26624 * u) * dG N (81928 + 26624 * u)) : ∃ v, fX7_mean_O N (u : Int) = some (N, v) ∧ ¬ 0 < dCmp v (dW6 (1000 * dG N (81928 + 26624 * u))) := by
  have r6 := dG_R N (81926 + 26624 * u)
  have r7 := dG_R N (81927 + 26624 * u)
  have r8 := dG_R N (81928 + 26624 * u)
  have w : dW6 (dG N (81927 + 26624 * u) * 1000) = dG N (81927 + 26624 * u) * 1000 := dW6_id ⟨by omega, by omega⟩
  have w2 : dW6 (1000 * dG N (81928 + 26624 * u)) = 1000 * dG N (81928 + 26624 * u) := dW6_id ⟨by omega, by omega⟩
  refine ⟨(dG N (81927 + 26624 * u) * 1000) / dG N (81926 + 26624 * u), ?_, ?_⟩
  · unfold fX7_mean_O
    rw [dbd_s (sp_has N (u : Int)), if_pos (show 0 ≤ (u : Int) ∧ (u : Int) < dG N 2048 from ⟨by omega, by omega⟩), if_neg (by decide), dgd_t ⟨by omega, by omega⟩, Int.toNat_natCast]
    unfold dln
    dsimp only
    rw [if_pos h1, w, dgd_t ⟨by omega, h1⟩]
  · rw [w2]
    have le : (dG N (81927 + 26624 * u) * 1000) / dG N (81926 + 26624 * u) ≤ 1000 * dG N (81928 + 26624 * u) := by
      refine Int.ediv_le_of_le_mul h1 ?_
      have e : 1000 * dG N (81928 + 26624 * u) * dG N (81926 + 26624 * u) = (dG N (81926 + 26624 * u) * dG N (81928 + 26624 * u)) * 1000 := by
        rw [Int.mul_comm (dG N (81926 + 26624 * u)) (dG N (81928 + 26624 * u)), Int.mul_comm 1000 (dG N (81928 + 26624 * u)), Int.mul_assoc, Int.mul_comm 1000, ← Int.mul_assoc]
      rw [e]
      omega
    have ge : 0 ≤ (dG N (81927 + 26624 * u) * 1000) / dG N (81926 + 26624 * u) := Int.ediv_nonneg (by omega) (by omega)
    exact dJ_le ⟨by omega, by omega⟩ ⟨by omega, by omega⟩ le

