-- ===== PART A: goes FIRST, ahead of the names: the tables' words, and 'selects' of the private methods out of them =====
/-- a private method of a class that the tables say can be made, by its rows of tables_1 -/
def lw_okq (q : MethodName × Nat) : Prop := (q.1.cls ≠ "java/lang/invoke/MethodHandle" ∧ q.1.cls ≠ "java/lang/invoke/VarHandle") ∧ Cond.instantiable q.1.cls q.2 ∈ tables_1 ∧ Cond.privateMethod q.1 ∈ tables_1 ∧ Cond.instanceMethod q.1 ∈ tables_1
theorem lw_p0 : lw_okq (⟨"EarlyToken", "canTick", "(I)Z"⟩, 5) := ⟨⟨by decide +kernel, by decide +kernel⟩, List.mem_of_getElem? (i := 12) (by decide +kernel), List.mem_of_getElem? (i := 435) (by decide +kernel), List.mem_of_getElem? (i := 436) (by decide +kernel)⟩
def lw_privs_1 : List (MethodName × Nat) := [(⟨"EarlyToken", "canTick", "(I)Z"⟩, 5)]
theorem lw_r1 : ∀ q ∈ lw_privs_1, lw_okq q := List.forall_mem_cons.mpr ⟨lw_p0, fun _ h => absurd h List.not_mem_nil⟩
def lw_privs : List (MethodName × Nat) := lw_privs_1
def lw_tbl : List Cond := k2_sels lw_privs ++ tables_1
theorem lw_privs_ok : ∀ q ∈ lw_privs, lw_okq q := lw_r1
/-! ===== BEGIN words of one list among another's, by their places ===== -/
theorem goodIn_r {big : List Cond} (ws : List Cond) (ps : List Nat) (hp : ws = ps.filterMap (fun i => big[i]?)) (h : ws.all goodWord = true) : GoodIn big ws := by
  intro w hw
  have h1 := List.all_eq_true.mp h w hw
  rw [hp] at hw
  obtain ⟨i, -, hi⟩ := List.mem_filterMap.mp hw
  have hm : w ∈ big := by first | exact List.mem_of_getElem? hi | exact List.getElem?_mem hi
  exact ⟨hm, good_of_word h1⟩
theorem goodIn_app {big a b : List Cond} (ha : GoodIn big a) (hb : GoodIn big b) : GoodIn big (a ++ b) := fun w h => (List.mem_append.mp h).elim (ha w) (hb w)
theorem goodIn_ca {big a b : List Cond} {c : Cond} (ha : GoodIn big (c :: a)) (hb : GoodIn big b) : GoodIn big (c :: (a ++ b)) := fun w h => (List.mem_cons.mp h).elim (fun e => ha w (List.mem_cons.mpr (Or.inl e))) (fun h => (List.mem_append.mp h).elim (fun h => ha w (List.mem_cons.mpr (Or.inr h))) (hb w))
theorem goodIn_sub {big ws : List Cond} (hm : ∀ w ∈ ws, w ∈ big) (h : ws.all goodWord = true) : GoodIn big ws := fun w hw => ⟨hm w hw, good_of_word (List.all_eq_true.mp h w hw)⟩
/-! ===== END ===== -/

/-! ===== BEGIN printed: names, fields, word lists, decode rows ===== -/
def RX0 : String := "EarlyToken$Claim"
def TX0 : u_T := fun k => match k with
  | 0 => ("EarlyToken$Claim", "bid", "I", false)
  | 1 => ("EarlyToken$Claim", "whose", "I", false)
  | _ => ("EarlyToken$Claim", "number", "I", false)
def tyX0 : Nat → FieldType := fun k => match k with
  | 0 => .int
  | 1 => .int
  | _ => .int
abbrev wsX00 : List Cond := u_ws RX0 TX0 3
theorem nmX0 : ∀ a, a < 3 → ∀ b, b < 3 → a ≠ b → (TX0 a).2.1 ≠ (TX0 b).2.1 := by decide +kernel
theorem tyX0_ok : ∀ k, k < 3 → parseFieldDescriptor (TX0 k).2.2.1 = some (tyX0 k) := by decide +kernel
abbrev cX0_init : ByteArray := prog_2_method_1_code
def yX0_init : MethodName := ⟨RX0, "<init>", "()V"⟩
abbrev cX0_become : ByteArray := prog_2_method_2_code
def yX0_become : MethodName := ⟨RX0, "become", "(III)V"⟩
abbrev cX0_become_ : ByteArray := prog_2_method_3_code
def yX0_become_ : MethodName := ⟨RX0, "become", "(LEarlyToken$Claim;)V"⟩
abbrev cX0_isSame : ByteArray := prog_2_method_4_code
def yX0_isSame : MethodName := ⟨RX0, "isSame", "(LEarlyToken$Claim;)Z"⟩
abbrev cX0_isBetter : ByteArray := prog_2_method_5_code
def yX0_isBetter : MethodName := ⟨RX0, "isBetter", "(LEarlyToken$Claim;)Z"⟩
def RX1 : String := "EarlyToken$Hold"
def TX1 : u_T := fun k => match k with
  | 0 => ("EarlyToken$Hold", "isHeld", "Z", false)
  | 1 => ("EarlyToken$Hold", "left", "I", false)
  | 2 => ("EarlyToken$Hold", "shareLeft", "I", false)
  | 3 => ("EarlyToken$Hold", "sending", "I", false)
  | 4 => ("EarlyToken$Hold", "ticksLeft", "I", false)
  | 5 => ("EarlyToken$Hold", "size", "I", false)
  | 6 => ("EarlyToken$Hold", "frameAt", "I", false)
  | 7 => ("EarlyToken$Hold", "isVoid", "Z", false)
  | 8 => ("EarlyToken$Hold", "restTicks", "I", false)
  | 9 => ("EarlyToken$Hold", "frameTicks", "I", false)
  | 10 => ("EarlyToken$Hold", "cameAt", "I", false)
  | _ => ("EarlyToken$Hold", "wentAt", "I", false)
def tyX1 : Nat → FieldType := fun k => match k with
  | 0 => .boolean
  | 1 => .int
  | 2 => .int
  | 3 => .int
  | 4 => .int
  | 5 => .int
  | 6 => .int
  | 7 => .boolean
  | 8 => .int
  | 9 => .int
  | 10 => .int
  | _ => .int
abbrev wsX10 : List Cond := u_ws RX1 TX1 12
theorem nmX1 : ∀ a, a < 12 → ∀ b, b < 12 → a ≠ b → (TX1 a).2.1 ≠ (TX1 b).2.1 := by decide +kernel
theorem tyX1_ok : ∀ k, k < 12 → parseFieldDescriptor (TX1 k).2.2.1 = some (tyX1 k) := by decide +kernel
abbrev cX1_init : ByteArray := prog_3_method_1_code
def yX1_init : MethodName := ⟨RX1, "<init>", "()V"⟩
abbrev cX1_become : ByteArray := prog_3_method_2_code
def yX1_become : MethodName := ⟨RX1, "become", "(LEarlyToken$Hold;)V"⟩
abbrev cX1_take : ByteArray := prog_3_method_3_code
def yX1_take : MethodName := ⟨RX1, "take", "(III)V"⟩
abbrev cX1_start : ByteArray := prog_3_method_4_code
def yX1_start : MethodName := ⟨RX1, "start", "(III)V"⟩
abbrev cX1_drop : ByteArray := prog_3_method_5_code
def yX1_drop : MethodName := ⟨RX1, "drop", "()V"⟩
abbrev cX1_voidRest : ByteArray := prog_3_method_6_code
def yX1_voidRest : MethodName := ⟨RX1, "voidRest", "()V"⟩
abbrev cX1_sendTick : ByteArray := prog_3_method_7_code
def yX1_sendTick : MethodName := ⟨RX1, "sendTick", "()V"⟩
def RX2 : String := "EarlyToken$Lines"
def TX2 : u_T := fun k => match k with
  | 0 => ("EarlyToken$Lines", "limit", "I", true)
  | 1 => ("EarlyToken$Lines", "columns", "I", true)
  | 2 => ("EarlyToken$Lines", "cells", "[[I", true)
  | _ => ("EarlyToken$Lines", "all", "I", false)
def tyX2 : Nat → FieldType := fun k => match k with
  | 0 => .int
  | 1 => .int
  | 2 => .array (.array .int)
  | _ => .int
abbrev wsX20 : List Cond := u_ws RX2 TX2 4
theorem nmX2 : ∀ a, a < 4 → ∀ b, b < 4 → a ≠ b → (TX2 a).2.1 ≠ (TX2 b).2.1 := by decide +kernel
theorem tyX2_ok : ∀ k, k < 4 → parseFieldDescriptor (TX2 k).2.2.1 = some (tyX2 k) := by decide +kernel
abbrev cX2_init : ByteArray := prog_4_method_1_code
def yX2_init : MethodName := ⟨RX2, "<init>", "(II)V"⟩
abbrev cX2_become : ByteArray := prog_4_method_2_code
def yX2_become : MethodName := ⟨RX2, "become", "(LEarlyToken$Lines;)V"⟩
abbrev cX2_open : ByteArray := prog_4_method_3_code
def yX2_open : MethodName := ⟨RX2, "open", "()V"⟩
abbrev cX2_put : ByteArray := prog_4_method_4_code
def yX2_put : MethodName := ⟨RX2, "put", "(II)V"⟩
def RX3 : String := "EarlyToken$Ring"
def TX3 : u_T := fun k => match k with
  | 0 => ("EarlyToken$Ring", "n", "I", false)
  | 1 => ("EarlyToken$Ring", "now", "I", false)
  | 2 => ("EarlyToken$Ring", "drawn", "I", false)
  | 3 => ("EarlyToken$Ring", "cuts", "I", false)
  | 4 => ("EarlyToken$Ring", "told", "[I", true)
  | 5 => ("EarlyToken$Ring", "delays", "[I", true)
  | 6 => ("EarlyToken$Ring", "stations", "[LEarlyToken$Station;", true)
  | 7 => ("EarlyToken$Ring", "post", "LEarlyToken$Rows;", true)
  | 8 => ("EarlyToken$Ring", "log", "LEarlyToken$Lines;", true)
  | 9 => ("EarlyToken$Ring", "book", "LEarlyToken$Lines;", true)
  | 10 => ("EarlyToken$Ring", "counts", "[I", true)
  | 11 => ("EarlyToken$Ring", "carried", "LEarlyToken$Claim;", true)
  | _ => ("EarlyToken$Ring", "askedWaited", "I", false)
def tyX3 : Nat → FieldType := fun k => match k with
  | 0 => .int
  | 1 => .int
  | 2 => .int
  | 3 => .int
  | 4 => .array .int
  | 5 => .array .int
  | 6 => .array (.object "EarlyToken$Station")
  | 7 => .object "EarlyToken$Rows"
  | 8 => .object "EarlyToken$Lines"
  | 9 => .object "EarlyToken$Lines"
  | 10 => .array .int
  | 11 => .object "EarlyToken$Claim"
  | _ => .int
abbrev wsX30 : List Cond := u_ws RX3 TX3 13
theorem nmX3 : ∀ a, a < 13 → ∀ b, b < 13 → a ≠ b → (TX3 a).2.1 ≠ (TX3 b).2.1 := by decide +kernel
theorem tyX3_ok : ∀ k, k < 13 → parseFieldDescriptor (TX3 k).2.2.1 = some (tyX3 k) := by decide +kernel
abbrev cX3_init : ByteArray := prog_5_method_1_code
def yX3_init : MethodName := ⟨RX3, "<init>", "()V"⟩
abbrev cX3_become : ByteArray := prog_5_method_2_code
def yX3_become : MethodName := ⟨RX3, "become", "(LEarlyToken$Ring;)V"⟩
abbrev cX3_has : ByteArray := prog_5_method_3_code
def yX3_has : MethodName := ⟨RX3, "has", "(I)Z"⟩
abbrev cX3_after : ByteArray := prog_5_method_4_code
def yX3_after : MethodName := ⟨RX3, "after", "(I)I"⟩
abbrev cX3_before : ByteArray := prog_5_method_5_code
def yX3_before : MethodName := ⟨RX3, "before", "(I)I"⟩
abbrev cX3_isCut : ByteArray := prog_5_method_6_code
def yX3_isCut : MethodName := ⟨RX3, "isCut", "(I)Z"⟩
abbrev cX3_latency : ByteArray := prog_5_method_7_code
def yX3_latency : MethodName := ⟨RX3, "latency", "()I"⟩
abbrev cX3_outSet : ByteArray := prog_5_method_9_code
def yX3_outSet : MethodName := ⟨RX3, "outSet", "()I"⟩
abbrev cX3_kindSet : ByteArray := prog_5_method_10_code
def yX3_kindSet : MethodName := ⟨RX3, "kindSet", "(I)I"⟩
abbrev cX3_leastTarget : ByteArray := prog_5_method_11_code
def yX3_leastTarget : MethodName := ⟨RX3, "leastTarget", "()I"⟩
abbrev cX3_floor : ByteArray := prog_5_method_12_code
def yX3_floor : MethodName := ⟨RX3, "floor", "()I"⟩
abbrev cX3_allShares : ByteArray := prog_5_method_13_code
def yX3_allShares : MethodName := ⟨RX3, "allShares", "()I"⟩
abbrev cX3_isWithinFloor : ByteArray := prog_5_method_14_code
def yX3_isWithinFloor : MethodName := ⟨RX3, "isWithinFloor", "()Z"⟩
abbrev cX3_spare : ByteArray := prog_5_method_15_code
def yX3_spare : MethodName := ⟨RX3, "spare", "(I)I"⟩
abbrev cX3_longestTrip : ByteArray := prog_5_method_21_code
def yX3_longestTrip : MethodName := ⟨RX3, "longestTrip", "()I"⟩
abbrev cX3_countTokens : ByteArray := prog_5_method_22_code
def yX3_countTokens : MethodName := ⟨RX3, "countTokens", "()I"⟩
abbrev cX3_draw : ByteArray := prog_5_method_25_code
def yX3_draw : MethodName := ⟨RX3, "draw", "(I)I"⟩
abbrev cX3_canFrame : ByteArray := prog_5_method_26_code
def yX3_canFrame : MethodName := ⟨RX3, "canFrame", "(IIII)Z"⟩
abbrev cX3_queue : ByteArray := prog_5_method_27_code
def yX3_queue : MethodName := ⟨RX3, "queue", "(IIII)I"⟩
abbrev cX3_note : ByteArray := prog_5_method_28_code
def yX3_note : MethodName := ⟨RX3, "note", "(III)V"⟩
abbrev cX3_send : ByteArray := prog_5_method_29_code
def yX3_send : MethodName := ⟨RX3, "send", "(IILEarlyToken$Claim;)V"⟩
abbrev cX3_beginToClaim : ByteArray := prog_5_method_30_code
def yX3_beginToClaim : MethodName := ⟨RX3, "beginToClaim", "(LEarlyToken$Station;LEarlyToken$Claim;)V"⟩
abbrev cX3_beginToBeacon : ByteArray := prog_5_method_31_code
def yX3_beginToBeacon : MethodName := ⟨RX3, "beginToBeacon", "(LEarlyToken$Station;)V"⟩
abbrev cX3_sendBeacon : ByteArray := prog_5_method_32_code
def yX3_sendBeacon : MethodName := ⟨RX3, "sendBeacon", "(LEarlyToken$Station;)V"⟩
abbrev cX3_advance : ByteArray := prog_5_method_33_code
def yX3_advance : MethodName := ⟨RX3, "advance", "()V"⟩
abbrev cX3_comes : ByteArray := prog_5_method_34_code
def yX3_comes : MethodName := ⟨RX3, "comes", "(I)V"⟩
abbrev cX3_claimComes : ByteArray := prog_5_method_35_code
def yX3_claimComes : MethodName := ⟨RX3, "claimComes", "(LEarlyToken$Station;LEarlyToken$Claim;)V"⟩
abbrev cX3_compareClaim : ByteArray := prog_5_method_36_code
def yX3_compareClaim : MethodName := ⟨RX3, "compareClaim", "(LEarlyToken$Station;LEarlyToken$Claim;)V"⟩
abbrev cX3_beaconComes : ByteArray := prog_5_method_37_code
def yX3_beaconComes : MethodName := ⟨RX3, "beaconComes", "(LEarlyToken$Station;LEarlyToken$Claim;)V"⟩
abbrev cX3_tokenComes : ByteArray := prog_5_method_38_code
def yX3_tokenComes : MethodName := ⟨RX3, "tokenComes", "(LEarlyToken$Station;LEarlyToken$Claim;)V"⟩
abbrev cX3_goOnStreaming : ByteArray := prog_5_method_39_code
def yX3_goOnStreaming : MethodName := ⟨RX3, "goOnStreaming", "(LEarlyToken$Station;)V"⟩
abbrev cX3_takeTurn : ByteArray := prog_5_method_40_code
def yX3_takeTurn : MethodName := ⟨RX3, "takeTurn", "(LEarlyToken$Station;)V"⟩
abbrev cX3_isOutOfPatience : ByteArray := prog_5_method_41_code
def yX3_isOutOfPatience : MethodName := ⟨RX3, "isOutOfPatience", "(LEarlyToken$Station;)Z"⟩
abbrev cX3_sendAgain : ByteArray := prog_5_method_42_code
def yX3_sendAgain : MethodName := ⟨RX3, "sendAgain", "(LEarlyToken$Station;)V"⟩
abbrev cX3_watchDue : ByteArray := prog_5_method_43_code
def yX3_watchDue : MethodName := ⟨RX3, "watchDue", "(LEarlyToken$Station;)V"⟩
abbrev cX3_goOnHolding : ByteArray := prog_5_method_44_code
def yX3_goOnHolding : MethodName := ⟨RX3, "goOnHolding", "(LEarlyToken$Station;)V"⟩
abbrev cX3_startsNext : ByteArray := prog_5_method_45_code
def yX3_startsNext : MethodName := ⟨RX3, "startsNext", "(LEarlyToken$Station;)Z"⟩
abbrev cX3_letGo : ByteArray := prog_5_method_46_code
def yX3_letGo : MethodName := ⟨RX3, "letGo", "(LEarlyToken$Station;)V"⟩
abbrev cX3_frameToSend : ByteArray := prog_5_method_47_code
def yX3_frameToSend : MethodName := ⟨RX3, "frameToSend", "(LEarlyToken$Station;)I"⟩
abbrev cX3_endFrame : ByteArray := prog_5_method_48_code
def yX3_endFrame : MethodName := ⟨RX3, "endFrame", "(LEarlyToken$Station;)V"⟩
def RX4 : String := "EarlyToken$Rows"
def TX4 : u_T := fun k => match k with
  | 0 => ("EarlyToken$Rows", "limit", "I", true)
  | 1 => ("EarlyToken$Rows", "columns", "I", true)
  | 2 => ("EarlyToken$Rows", "cells", "[[I", true)
  | _ => ("EarlyToken$Rows", "size", "I", false)
def tyX4 : Nat → FieldType := fun k => match k with
  | 0 => .int
  | 1 => .int
  | 2 => .array (.array .int)
  | _ => .int
abbrev wsX40 : List Cond := u_ws RX4 TX4 4
theorem nmX4 : ∀ a, a < 4 → ∀ b, b < 4 → a ≠ b → (TX4 a).2.1 ≠ (TX4 b).2.1 := by decide +kernel
theorem tyX4_ok : ∀ k, k < 4 → parseFieldDescriptor (TX4 k).2.2.1 = some (tyX4 k) := by decide +kernel
abbrev cX4_init : ByteArray := prog_6_method_1_code
def yX4_init : MethodName := ⟨RX4, "<init>", "(II)V"⟩
abbrev cX4_become : ByteArray := prog_6_method_2_code
def yX4_become : MethodName := ⟨RX4, "become", "(LEarlyToken$Rows;)V"⟩
abbrev cX4_isFull : ByteArray := prog_6_method_3_code
def yX4_isFull : MethodName := ⟨RX4, "isFull", "()Z"⟩
abbrev cX4_open : ByteArray := prog_6_method_4_code
def yX4_open : MethodName := ⟨RX4, "open", "()I"⟩
abbrev cX4_put : ByteArray := prog_6_method_5_code
def yX4_put : MethodName := ⟨RX4, "put", "(III)V"⟩
abbrev cX4_at : ByteArray := prog_6_method_6_code
def yX4_at : MethodName := ⟨RX4, "at", "(II)I"⟩
abbrev cX4_remove : ByteArray := prog_6_method_7_code
def yX4_remove : MethodName := ⟨RX4, "remove", "(I)V"⟩
abbrev cX4_countOf : ByteArray := prog_6_method_8_code
def yX4_countOf : MethodName := ⟨RX4, "countOf", "(II)I"⟩
def RX5 : String := "EarlyToken$Station"
def TX5 : u_T := fun k => match k with
  | 0 => ("EarlyToken$Station", "me", "I", true)
  | 1 => ("EarlyToken$Station", "bid", "I", false)
  | 2 => ("EarlyToken$Station", "share", "I", false)
  | 3 => ("EarlyToken$Station", "isOut", "Z", false)
  | 4 => ("EarlyToken$Station", "kind", "I", false)
  | 5 => ("EarlyToken$Station", "since", "I", false)
  | 6 => ("EarlyToken$Station", "goesBy", "LEarlyToken$Claim;", true)
  | 7 => ("EarlyToken$Station", "best", "LEarlyToken$Claim;", true)
  | 8 => ("EarlyToken$Station", "claims", "I", false)
  | 9 => ("EarlyToken$Station", "sentAt", "I", false)
  | 10 => ("EarlyToken$Station", "heardAt", "I", false)
  | 11 => ("EarlyToken$Station", "heardOf", "I", false)
  | 12 => ("EarlyToken$Station", "due", "I", false)
  | 13 => ("EarlyToken$Station", "late", "I", false)
  | 14 => ("EarlyToken$Station", "rounds", "I", false)
  | 15 => ("EarlyToken$Station", "stream", "LEarlyToken$Stream;", true)
  | 16 => ("EarlyToken$Station", "hold", "LEarlyToken$Hold;", true)
  | 17 => ("EarlyToken$Station", "line", "LEarlyToken$Rows;", true)
  | _ => ("EarlyToken$Station", "tally", "[I", true)
def tyX5 : Nat → FieldType := fun k => match k with
  | 0 => .int
  | 1 => .int
  | 2 => .int
  | 3 => .boolean
  | 4 => .int
  | 5 => .int
  | 6 => .object "EarlyToken$Claim"
  | 7 => .object "EarlyToken$Claim"
  | 8 => .int
  | 9 => .int
  | 10 => .int
  | 11 => .int
  | 12 => .int
  | 13 => .int
  | 14 => .int
  | 15 => .object "EarlyToken$Stream"
  | 16 => .object "EarlyToken$Hold"
  | 17 => .object "EarlyToken$Rows"
  | _ => .array .int
abbrev wsX50 : List Cond := u_ws RX5 TX5 19
theorem nmX5 : ∀ a, a < 19 → ∀ b, b < 19 → a ≠ b → (TX5 a).2.1 ≠ (TX5 b).2.1 := by decide +kernel
theorem tyX5_ok : ∀ k, k < 19 → parseFieldDescriptor (TX5 k).2.2.1 = some (tyX5 k) := by decide +kernel
abbrev cX5_init : ByteArray := prog_7_method_1_code
def yX5_init : MethodName := ⟨RX5, "<init>", "(I)V"⟩
abbrev cX5_become : ByteArray := prog_7_method_2_code
def yX5_become : MethodName := ⟨RX5, "become", "(LEarlyToken$Station;)V"⟩
abbrev cX5_view : ByteArray := prog_7_method_3_code
def yX5_view : MethodName := ⟨RX5, "view", "(II)I"⟩
abbrev cX5_follows : ByteArray := prog_7_method_4_code
def yX5_follows : MethodName := ⟨RX5, "follows", "()I"⟩
abbrev cX5_isBestOwn : ByteArray := prog_7_method_5_code
def yX5_isBestOwn : MethodName := ⟨RX5, "isBestOwn", "()Z"⟩
abbrev cX5_goUp : ByteArray := prog_7_method_6_code
def yX5_goUp : MethodName := ⟨RX5, "goUp", "(LEarlyToken$Claim;I)V"⟩
abbrev cX5_takeToken : ByteArray := prog_7_method_7_code
def yX5_takeToken : MethodName := ⟨RX5, "takeToken", "(I)V"⟩
abbrev cX5_endRest : ByteArray := prog_7_method_8_code
def yX5_endRest : MethodName := ⟨RX5, "endRest", "()V"⟩
def RX6 : String := "EarlyToken$Stream"
def TX6 : u_T := fun k => match k with
  | 0 => ("EarlyToken$Stream", "period", "I", false)
  | 1 => ("EarlyToken$Stream", "length", "I", false)
  | _ => ("EarlyToken$Stream", "rest", "I", false)
def tyX6 : Nat → FieldType := fun k => match k with
  | 0 => .int
  | 1 => .int
  | _ => .int
abbrev wsX60 : List Cond := u_ws RX6 TX6 3
theorem nmX6 : ∀ a, a < 3 → ∀ b, b < 3 → a ≠ b → (TX6 a).2.1 ≠ (TX6 b).2.1 := by decide +kernel
theorem tyX6_ok : ∀ k, k < 3 → parseFieldDescriptor (TX6 k).2.2.1 = some (tyX6 k) := by decide +kernel
abbrev cX6_init : ByteArray := prog_8_method_1_code
def yX6_init : MethodName := ⟨RX6, "<init>", "()V"⟩
abbrev cX6_become : ByteArray := prog_8_method_2_code
def yX6_become : MethodName := ⟨RX6, "become", "(LEarlyToken$Stream;)V"⟩
def RX7 : String := "EarlyToken"
def TX7 : u_T := fun k => match k with
  | 0 => ("EarlyToken", "ring", "LEarlyToken$Ring;", true)
  | 1 => ("EarlyToken", "first", "LEarlyToken$Ring;", true)
  | 2 => ("EarlyToken", "thought", "LEarlyToken$Ring;", true)
  | 3 => ("EarlyToken", "kept", "LEarlyToken$Ring;", true)
  | _ => ("EarlyToken", "isKept", "Z", false)
def tyX7 : Nat → FieldType := fun k => match k with
  | 0 => .object "EarlyToken$Ring"
  | 1 => .object "EarlyToken$Ring"
  | 2 => .object "EarlyToken$Ring"
  | 3 => .object "EarlyToken$Ring"
  | _ => .boolean
abbrev wsX70 : List Cond := u_ws RX7 TX7 5
theorem nmX7 : ∀ a, a < 5 → ∀ b, b < 5 → a ≠ b → (TX7 a).2.1 ≠ (TX7 b).2.1 := by decide +kernel
theorem tyX7_ok : ∀ k, k < 5 → parseFieldDescriptor (TX7 k).2.2.1 = some (tyX7 k) := by decide +kernel
abbrev cX7_init : ByteArray := prog_1_method_1_code
def yX7_init : MethodName := ⟨RX7, "<init>", "()V"⟩
abbrev cX7_begin : ByteArray := prog_1_method_2_code
def yX7_begin : MethodName := ⟨RX7, "begin", "(I)Z"⟩
abbrev cX7_set : ByteArray := prog_1_method_3_code
def yX7_set : MethodName := ⟨RX7, "set", "(II)Z"⟩
abbrev cX7_delay : ByteArray := prog_1_method_4_code
def yX7_delay : MethodName := ⟨RX7, "delay", "(II)Z"⟩
abbrev cX7_bid : ByteArray := prog_1_method_6_code
def yX7_bid : MethodName := ⟨RX7, "bid", "(II)Z"⟩
abbrev cX7_share : ByteArray := prog_1_method_7_code
def yX7_share : MethodName := ⟨RX7, "share", "(II)Z"⟩
abbrev cX7_stream : ByteArray := prog_1_method_8_code
def yX7_stream : MethodName := ⟨RX7, "stream", "(III)Z"⟩
abbrev cX7_frame : ByteArray := prog_1_method_9_code
def yX7_frame : MethodName := ⟨RX7, "frame", "(IIII)I"⟩
abbrev cX7_state : ByteArray := prog_1_method_11_code
def yX7_state : MethodName := ⟨RX7, "state", "(I)I"⟩
abbrev cX7_storm : ByteArray := prog_1_method_12_code
def yX7_storm : MethodName := ⟨RX7, "storm", "(I)I"⟩
abbrev cX7_claim : ByteArray := prog_1_method_13_code
def yX7_claim : MethodName := ⟨RX7, "claim", "(I)Z"⟩
abbrev cX7_tick : ByteArray := prog_1_method_16_code
def yX7_tick : MethodName := ⟨RX7, "tick", "(I)I"⟩
abbrev cX7_station : ByteArray := prog_1_method_17_code
def yX7_station : MethodName := ⟨RX7, "station", "(II)I"⟩
abbrev cX7_suspects : ByteArray := prog_1_method_21_code
def yX7_suspects : MethodName := ⟨RX7, "suspects", "()I"⟩
abbrev cX7_mean : ByteArray := prog_1_method_27_code
def yX7_mean : MethodName := ⟨RX7, "mean", "(I)J"⟩
abbrev cX7_count : ByteArray := prog_1_method_33_code
def yX7_count : MethodName := ⟨RX7, "count", "(I)I"⟩
abbrev cX7_look : ByteArray := prog_1_method_35_code
def yX7_look : MethodName := ⟨RX7, "look", "(I)I"⟩
abbrev cX7_canTick : ByteArray := prog_1_method_36_code
def yX7_canTick : MethodName := ⟨RX7, "canTick", "(I)Z"⟩
def RX8 : String := "EarlyTokenModel"
def TX8 : u_T := fun k => match k with
  | _ => ("", "", "", false)
def tyX8 : Nat → FieldType := fun k => match k with
  | _ => .int
abbrev wsX80 : List Cond := u_ws RX8 TX8 0
theorem nmX8 : ∀ a, a < 0 → ∀ b, b < 0 → a ≠ b → (TX8 a).2.1 ≠ (TX8 b).2.1 := by decide +kernel
theorem tyX8_ok : ∀ k, k < 0 → parseFieldDescriptor (TX8 k).2.2.1 = some (tyX8 k) := by decide +kernel
def RJ9 : String := "java/lang/Math"
def TJ9 : u_T := fun k => match k with
  | _ => ("", "", "", false)
def tyJ9 : Nat → FieldType := fun k => match k with
  | _ => .int
abbrev wsJ90 : List Cond := u_ws RJ9 TJ9 0
theorem nmJ9 : ∀ a, a < 0 → ∀ b, b < 0 → a ≠ b → (TJ9 a).2.1 ≠ (TJ9 b).2.1 := by decide +kernel
theorem tyJ9_ok : ∀ k, k < 0 → parseFieldDescriptor (TJ9 k).2.2.1 = some (tyJ9 k) := by decide +kernel
abbrev cJ9_max_7cf53 : ByteArray := prog_11_method_65_code
def yJ9_max_7cf53 : MethodName := ⟨RJ9, "max", "(II)I"⟩
abbrev cJ9_min_7cf53 : ByteArray := prog_11_method_69_code
def yJ9_min_7cf53 : MethodName := ⟨RJ9, "min", "(II)I"⟩
def RJ10 : String := "java/lang/System"
def TJ10 : u_T := fun k => match k with
  | _ => ("", "", "", false)
def tyJ10 : Nat → FieldType := fun k => match k with
  | _ => .int
abbrev wsJ100 : List Cond := u_ws RJ10 TJ10 0
theorem nmJ10 : ∀ a, a < 0 → ∀ b, b < 0 → a ≠ b → (TJ10 a).2.1 ≠ (TJ10 b).2.1 := by decide +kernel
theorem tyJ10_ok : ∀ k, k < 0 → parseFieldDescriptor (TJ10 k).2.2.1 = some (tyJ10 k) := by decide +kernel
def RL : String := "EarlyTokenLaw"
abbrev cL_cell : ByteArray := method_2_code
def yL_cell : MethodName := ⟨RL, "cell", "([II)I"⟩
abbrev cL_between : ByteArray := method_3_code
def yL_between : MethodName := ⟨RL, "between", "(III)I"⟩
abbrev cL_ring : ByteArray := method_4_code
def yL_ring : MethodName := ⟨RL, "ring", "(LEarlyToken;[I)I"⟩
abbrev cL_least : ByteArray := method_5_code
def yL_least : MethodName := ⟨RL, "least", "(LEarlyToken;)I"⟩
abbrev cL_areUpBy : ByteArray := method_6_code
def yL_areUpBy : MethodName := ⟨RL, "areUpBy", "(LEarlyToken;I)Z"⟩
abbrev cL_law : ByteArray := code
def yL_law : MethodName := ⟨RL, "law", "([I)Z"⟩
abbrev vwCl : List vw_C := [(RX0, TX0, 3), (RX1, TX1, 12), (RX2, TX2, 4), (RX3, TX3, 13), (RX4, TX4, 4), (RX5, TX5, 19), (RX6, TX6, 3), (RX7, TX7, 5)]
