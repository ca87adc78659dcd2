/-! ===== station ===== -/
theorem sp_st1 {N : mMem} {u n : Nat} (hn : dG N 2048 = (n : Int)) (h8 : n ≤ 8) (hu : u < n) : fX7_station_Oc1 N (u : Int) = some (N, dG N (57345 + 26624 * u)) := by
  have v : fX5_view_Sc1 N u (dG N 2049) = some (N, dG N (57345 + 26624 * u)) := by
    unfold fX5_view_Sc1 fX5_view_Sc1_b22 fX5_view_Sc1_b35
    by_cases k : dG N (57348 + 26624 * u) = 1
    · rw [if_pos k]
    · rw [if_neg k]
  unfold fX7_station_Oc1
  rw [dbd_s (sp_has N (u : Int)), if_pos (show 0 ≤ (u : Int) ∧ (u : Int) < dG N 2048 from ⟨by omega, by omega⟩), if_neg (by decide), dgd_t ⟨by omega, by omega⟩, Int.toNat_natCast]
  unfold dln
  dsimp only
  rw [dbd_s v]
theorem sp_st2 {N : mMem} {u n : Nat} (hn : dG N 2048 = (n : Int)) (h8 : n ≤ 8) (hu : u < n) : fX7_station_Oc2 N (u : Int) = some (N, dG N (57346 + 26624 * u)) := by
  have v : fX5_view_Sc2 N u (dG N 2049) = some (N, dG N (57346 + 26624 * u)) := by
    unfold fX5_view_Sc2 fX5_view_Sc2_b22 fX5_view_Sc2_b35
    by_cases k : dG N (57348 + 26624 * u) = 1
    · rw [if_pos k]
    · rw [if_neg k]
  unfold fX7_station_Oc2
  rw [dbd_s (sp_has N (u : Int)), if_pos (show 0 ≤ (u : Int) ∧ (u : Int) < dG N 2048 from ⟨by omega, by omega⟩), if_neg (by decide), dgd_t ⟨by omega, by omega⟩, Int.toNat_natCast]
  unfold dln
  dsimp only
  rw [dbd_s v]
theorem sp_st0 {N : mMem} {u n : Nat} (hn : dG N 2048 = (n : Int)) (h8 : n ≤ 8) (hu : u < n) : fX7_station_Oc0 N (u : Int) = some (N, dG N (57348 + 26624 * u)) := by
  have v : fX5_view_Sc0 N u (dG N 2049) = some (N, dG N (57348 + 26624 * u)) := by
    unfold fX5_view_Sc0 fX5_view_Sc0_b22 fX5_view_Sc0_b35
    by_cases k : dG N (57348 + 26624 * u) = 1
    · rw [if_pos k]
    · rw [if_neg k]
  unfold fX7_station_Oc0
  rw [dbd_s (sp_has N (u : Int)), if_pos (show 0 ≤ (u : Int) ∧ (u : Int) < dG N 2048 from ⟨by omega, by omega⟩), if_neg (by decide), dgd_t ⟨by omega, by omega⟩, Int.toNat_natCast]
  unfold dln
  dsimp only
  rw [dbd_s v]
theorem sp_st9 {N : mMem} {u n : Nat} (hn : dG N 2048 = (n : Int)) (h8 : n ≤ 8) (hu : u < n) : fX7_station_Oc9 N (u : Int) = some (N, dG N (65538 + 26624 * u)) := by
  have v : fX5_view_Sc9 N u (dG N 2049) = some (N, dG N (65538 + 26624 * u)) := by
    unfold fX5_view_Sc9 fX5_view_Sc9_b22 fX5_view_Sc9_b35
    by_cases k : dG N (57348 + 26624 * u) = 1
    · rw [if_pos k]
    · rw [if_neg k]
  unfold fX7_station_Oc9
  rw [dbd_s (sp_has N (u : Int)), if_pos (show 0 ≤ (u : Int) ∧ (u : Int) < dG N 2048 from ⟨by omega, by omega⟩), if_neg (by decide), dgd_t ⟨by omega, by omega⟩, Int.toNat_natCast]
  unfold dln
  dsimp only
  rw [dbd_s v]
theorem sp_st18 {N : mMem} {u n : Nat} (hn : dG N 2048 = (n : Int)) (h8 : n ≤ 8) (hu : u < n) : fX7_station_Oc18 N (u : Int) = some (N, dG N (81923 + 26624 * u)) := by
  have v : fX5_view_Sc18 N u (dG N 2049) = some (N, dG N (81923 + 26624 * u)) := by
    unfold fX5_view_Sc18
    rfl
  unfold fX7_station_Oc18
  rw [dbd_s (sp_has N (u : Int)), if_pos (show 0 ≤ (u : Int) ∧ (u : Int) < dG N 2048 from ⟨by omega, by omega⟩), if_neg (by decide), dgd_t ⟨by omega, by omega⟩, Int.toNat_natCast]
  unfold dln
  dsimp only
  rw [dbd_s v]
theorem sp_st21 {N : mMem} {u n : Nat} (hn : dG N 2048 = (n : Int)) (h8 : n ≤ 8) (hu : u < n) : fX7_station_Oc21 N (u : Int) = some (N, dG N (81926 + 26624 * u)) := by
  have v : fX5_view_Sc21 N u (dG N 2049) = some (N, dG N (81926 + 26624 * u)) := by
    unfold fX5_view_Sc21
    rfl
  unfold fX7_station_Oc21
  rw [dbd_s (sp_has N (u : Int)), if_pos (show 0 ≤ (u : Int) ∧ (u : Int) < dG N 2048 from ⟨by omega, by omega⟩), if_neg (by decide), dgd_t ⟨by omega, by omega⟩, Int.toNat_natCast]
  unfold dln
  dsimp only
  rw [dbd_s v]
theorem sp_st23 {N : mMem} {u n : Nat} (hn : dG N 2048 = (n : Int)) (h8 : n ≤ 8) (hu : u < n) : fX7_station_Oc23 N (u : Int) = some (N, dG N (81928 + 26624 * u)) := by
  have v : fX5_view_Sc23 N u (dG N 2049) = some (N, dG N (81928 + 26624 * u)) := by
    unfold fX5_view_Sc23
    rfl
  unfold fX7_station_Oc23
  rw [dbd_s (sp_has N (u : Int)), if_pos (show 0 ≤ (u : Int) ∧ (u : Int) < dG N 2048 from ⟨by omega, by omega⟩), if_neg (by decide), dgd_t ⟨by omega, by omega⟩, Int.toNat_natCast]
  unfold dln
  dsimp only
  rw [dbd_s v]
theorem sp_st26 {N : mMem} {u n : Nat} (hn : dG N 2048 = (n : Int)) (h8 : n ≤ 8) (hu : u < n) (ho : dG N (57347 + 26624 * u) = 0) : fX7_station_Oc26 N (u : Int) = some (N, 0) := by
  have v : fX5_view_Sc26 N u (dG N 2049) = some (N, 0) := by
    unfold fX5_view_Sc26 fX5_view_Sc26_b22 fX5_view_Sc26_b35
    by_cases k : dG N (57348 + 26624 * u) = 1
    · rw [if_pos k, if_pos ho]
    · rw [if_neg k, if_pos ho]
  unfold fX7_station_Oc26
  rw [dbd_s (sp_has N (u : Int)), if_pos (show 0 ≤ (u : Int) ∧ (u : Int) < dG N 2048 from ⟨by omega, by omega⟩), if_neg (by decide), dgd_t ⟨by omega, by omega⟩, Int.toNat_natCast]
  unfold dln
  dsimp only
  rw [dbd_s v]
theorem sp_st3 {N : mMem} {u n : Nat} (hn : dG N 2048 = (n : Int)) (h8 : n ≤ 8) (hu : u < n) (hk : dG N (57348 + 26624 * u) = 1) : fX7_station_Oc3 N (u : Int) = some (N, dG N (59392 + 26624 * u)) := by
  have v : fX5_view_Sc3 N u (dG N 2049) = some (N, dG N (59392 + 26624 * u)) := by
    unfold fX5_view_Sc3 fX5_view_Sc3_b22 fX5_view_Sc3_b35
    rw [if_pos hk, if_neg (by decide)]
  unfold fX7_station_Oc3
  rw [dbd_s (sp_has N (u : Int)), if_pos (show 0 ≤ (u : Int) ∧ (u : Int) < dG N 2048 from ⟨by omega, by omega⟩), if_neg (by decide), dgd_t ⟨by omega, by omega⟩, Int.toNat_natCast]
  unfold dln
  dsimp only
  rw [dbd_s v]
theorem sp_st5 {N : mMem} {u n : Nat} (hn : dG N 2048 = (n : Int)) (h8 : n ≤ 8) (hu : u < n) (hk : dG N (57348 + 26624 * u) = 1) : fX7_station_Oc5 N (u : Int) = some (N, dG N (57357 + 26624 * u)) := by
  have v : fX5_view_Sc5 N u (dG N 2049) = some (N, dG N (57357 + 26624 * u)) := by
    unfold fX5_view_Sc5 fX5_view_Sc5_b22 fX5_view_Sc5_b35
    rw [if_pos hk, if_neg (by decide)]
  unfold fX7_station_Oc5
  rw [dbd_s (sp_has N (u : Int)), if_pos (show 0 ≤ (u : Int) ∧ (u : Int) < dG N 2048 from ⟨by omega, by omega⟩), if_neg (by decide), dgd_t ⟨by omega, by omega⟩, Int.toNat_natCast]
  unfold dln
  dsimp only
  rw [dbd_s v]
theorem sp_st24 {N : mMem} {u n : Nat} (hn : dG N 2048 = (n : Int)) (h8 : n ≤ 8) (hu : u < n) (hk : dG N (57348 + 26624 * u) = 1) : fX7_station_Oc24 N (u : Int) = some (N, dG N (59393 + 26624 * u)) := by
  have f : fX5_follows_S N u = some (N, dG N (59393 + 26624 * u)) := by
    unfold fX5_follows_S
    rw [if_pos hk]
  have v : fX5_view_Sc24 N u (dG N 2049) = some (N, dG N (59393 + 26624 * u)) := by
    unfold fX5_view_Sc24 fX5_view_Sc24_b22 fX5_view_Sc24_b35
    rw [if_pos hk, dbd_s f]
  unfold fX7_station_Oc24
  rw [dbd_s (sp_has N (u : Int)), if_pos (show 0 ≤ (u : Int) ∧ (u : Int) < dG N 2048 from ⟨by omega, by omega⟩), if_neg (by decide), dgd_t ⟨by omega, by omega⟩, Int.toNat_natCast]
  unfold dln
  dsimp only
  rw [dbd_s v]
