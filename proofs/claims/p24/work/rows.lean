section
-- ===== PART A: goes FIRST, ahead of the names: the tables' words, and 'selects' of the private methods out of them =====
/-- a private method of a class that the tables say can be made, by its rows of tables_1 -/
def lw_okq (q : MethodName × Nat) : Prop := (q.1.cls ≠ "java/lang/invoke/MethodHandle" ∧ q.1.cls ≠ "java/lang/invoke/VarHandle") ∧ Cond.instantiable q.1.cls q.2 ∈ tables_1 ∧ Cond.privateMethod q.1 ∈ tables_1 ∧ Cond.instanceMethod q.1 ∈ tables_1
theorem lw_p0 : lw_okq (⟨"FerryFloor", "walkersAboard", "()I"⟩, 7) := ⟨⟨by decide +kernel, by decide +kernel⟩, List.mem_of_getElem? (i := 6) (by decide +kernel), List.mem_of_getElem? (i := 113) (by decide +kernel), List.mem_of_getElem? (i := 114) (by decide +kernel)⟩
theorem lw_p1 : lw_okq (⟨"FerryFloor", "isAboard", "(I)Z"⟩, 7) := ⟨⟨by decide +kernel, by decide +kernel⟩, List.mem_of_getElem? (i := 6) (by decide +kernel), List.mem_of_getElem? (i := 117) (by decide +kernel), List.mem_of_getElem? (i := 118) (by decide +kernel)⟩
theorem lw_p2 : lw_okq (⟨"FerryFloor", "isWalker", "(I)Z"⟩, 7) := ⟨⟨by decide +kernel, by decide +kernel⟩, List.mem_of_getElem? (i := 6) (by decide +kernel), List.mem_of_getElem? (i := 121) (by decide +kernel), List.mem_of_getElem? (i := 122) (by decide +kernel)⟩
theorem lw_p3 : lw_okq (⟨"FerryFloor", "errorWith", "([I)I"⟩, 7) := ⟨⟨by decide +kernel, by decide +kernel⟩, List.mem_of_getElem? (i := 6) (by decide +kernel), List.mem_of_getElem? (i := 126) (by decide +kernel), List.mem_of_getElem? (i := 127) (by decide +kernel)⟩
theorem lw_p4 : lw_okq (⟨"FerryFloor", "weighAll", "()V"⟩, 7) := ⟨⟨by decide +kernel, by decide +kernel⟩, List.mem_of_getElem? (i := 6) (by decide +kernel), List.mem_of_getElem? (i := 130) (by decide +kernel), List.mem_of_getElem? (i := 131) (by decide +kernel)⟩
theorem lw_p5 : lw_okq (⟨"FerryFloor", "expectAll", "([I)V"⟩, 7) := ⟨⟨by decide +kernel, by decide +kernel⟩, List.mem_of_getElem? (i := 6) (by decide +kernel), List.mem_of_getElem? (i := 155) (by decide +kernel), List.mem_of_getElem? (i := 156) (by decide +kernel)⟩
theorem lw_p6 : lw_okq (⟨"FerryFloor", "sumOfReadings", "()I"⟩, 7) := ⟨⟨by decide +kernel, by decide +kernel⟩, List.mem_of_getElem? (i := 6) (by decide +kernel), List.mem_of_getElem? (i := 162) (by decide +kernel), List.mem_of_getElem? (i := 163) (by decide +kernel)⟩
theorem lw_p7 : lw_okq (⟨"FerryFloor", "walkersMisplaced", "()I"⟩, 7) := ⟨⟨by decide +kernel, by decide +kernel⟩, List.mem_of_getElem? (i := 6) (by decide +kernel), List.mem_of_getElem? (i := 169) (by decide +kernel), List.mem_of_getElem? (i := 170) (by decide +kernel)⟩
theorem lw_p8 : lw_okq (⟨"FerryFloor", "kilogramsBilled", "()I"⟩, 7) := ⟨⟨by decide +kernel, by decide +kernel⟩, List.mem_of_getElem? (i := 6) (by decide +kernel), List.mem_of_getElem? (i := 173) (by decide +kernel), List.mem_of_getElem? (i := 174) (by decide +kernel)⟩
theorem lw_p9 : lw_okq (⟨"FerryFloor", "sumOfBillAmounts", "()I"⟩, 7) := ⟨⟨by decide +kernel, by decide +kernel⟩, List.mem_of_getElem? (i := 6) (by decide +kernel), List.mem_of_getElem? (i := 180) (by decide +kernel), List.mem_of_getElem? (i := 181) (by decide +kernel)⟩
theorem lw_p10 : lw_okq (⟨"FerryFloor", "billAmount", "(I)I"⟩, 7) := ⟨⟨by decide +kernel, by decide +kernel⟩, List.mem_of_getElem? (i := 6) (by decide +kernel), List.mem_of_getElem? (i := 184) (by decide +kernel), List.mem_of_getElem? (i := 185) (by decide +kernel)⟩
theorem lw_p11 : lw_okq (⟨"FerryFloor", "sumOfBackAmounts", "()I"⟩, 7) := ⟨⟨by decide +kernel, by decide +kernel⟩, List.mem_of_getElem? (i := 6) (by decide +kernel), List.mem_of_getElem? (i := 188) (by decide +kernel), List.mem_of_getElem? (i := 189) (by decide +kernel)⟩
theorem lw_p12 : lw_okq (⟨"FerryFloor", "backAmount", "(I)I"⟩, 7) := ⟨⟨by decide +kernel, by decide +kernel⟩, List.mem_of_getElem? (i := 6) (by decide +kernel), List.mem_of_getElem? (i := 192) (by decide +kernel), List.mem_of_getElem? (i := 193) (by decide +kernel)⟩
theorem lw_p13 : lw_okq (⟨"FerryFloor", "remember", "()V"⟩, 7) := ⟨⟨by decide +kernel, by decide +kernel⟩, List.mem_of_getElem? (i := 6) (by decide +kernel), List.mem_of_getElem? (i := 223) (by decide +kernel), List.mem_of_getElem? (i := 224) (by decide +kernel)⟩
theorem lw_p14 : lw_okq (⟨"FerryFloor", "slotAfter", "(I)I"⟩, 7) := ⟨⟨by decide +kernel, by decide +kernel⟩, List.mem_of_getElem? (i := 6) (by decide +kernel), List.mem_of_getElem? (i := 227) (by decide +kernel), List.mem_of_getElem? (i := 228) (by decide +kernel)⟩
theorem lw_p15 : lw_okq (⟨"FerryFloor", "kilogramsToBill", "(I)I"⟩, 7) := ⟨⟨by decide +kernel, by decide +kernel⟩, List.mem_of_getElem? (i := 6) (by decide +kernel), List.mem_of_getElem? (i := 270) (by decide +kernel), List.mem_of_getElem? (i := 271) (by decide +kernel)⟩
def lw_privs_1 : List (MethodName × Nat) := [(⟨"FerryFloor", "walkersAboard", "()I"⟩, 7), (⟨"FerryFloor", "isAboard", "(I)Z"⟩, 7), (⟨"FerryFloor", "isWalker", "(I)Z"⟩, 7), (⟨"FerryFloor", "errorWith", "([I)I"⟩, 7), (⟨"FerryFloor", "weighAll", "()V"⟩, 7), (⟨"FerryFloor", "expectAll", "([I)V"⟩, 7), (⟨"FerryFloor", "sumOfReadings", "()I"⟩, 7), (⟨"FerryFloor", "walkersMisplaced", "()I"⟩, 7), (⟨"FerryFloor", "kilogramsBilled", "()I"⟩, 7), (⟨"FerryFloor", "sumOfBillAmounts", "()I"⟩, 7), (⟨"FerryFloor", "billAmount", "(I)I"⟩, 7), (⟨"FerryFloor", "sumOfBackAmounts", "()I"⟩, 7), (⟨"FerryFloor", "backAmount", "(I)I"⟩, 7), (⟨"FerryFloor", "remember", "()V"⟩, 7), (⟨"FerryFloor", "slotAfter", "(I)I"⟩, 7), (⟨"FerryFloor", "kilogramsToBill", "(I)I"⟩, 7)]
theorem lw_r1 : ∀ q ∈ lw_privs_1, lw_okq q := List.forall_mem_cons.mpr ⟨lw_p0, List.forall_mem_cons.mpr ⟨lw_p1, List.forall_mem_cons.mpr ⟨lw_p2, List.forall_mem_cons.mpr ⟨lw_p3, List.forall_mem_cons.mpr ⟨lw_p4, List.forall_mem_cons.mpr ⟨lw_p5, List.forall_mem_cons.mpr ⟨lw_p6, List.forall_mem_cons.mpr ⟨lw_p7, List.forall_mem_cons.mpr ⟨lw_p8, List.forall_mem_cons.mpr ⟨lw_p9, List.forall_mem_cons.mpr ⟨lw_p10, List.forall_mem_cons.mpr ⟨lw_p11, List.forall_mem_cons.mpr ⟨lw_p12, List.forall_mem_cons.mpr ⟨lw_p13, List.forall_mem_cons.mpr ⟨lw_p14, List.forall_mem_cons.mpr ⟨lw_p15, fun _ h => absurd h List.not_mem_nil⟩⟩⟩⟩⟩⟩⟩⟩⟩⟩⟩⟩⟩⟩⟩⟩
theorem lw_p16 : lw_okq (⟨"FerryFloor", "estimateFor", "(I)I"⟩, 7) := ⟨⟨by decide +kernel, by decide +kernel⟩, List.mem_of_getElem? (i := 6) (by decide +kernel), List.mem_of_getElem? (i := 274) (by decide +kernel), List.mem_of_getElem? (i := 275) (by decide +kernel)⟩
theorem lw_p17 : lw_okq (⟨"FerryFloor", "certaintyFor", "(I)I"⟩, 7) := ⟨⟨by decide +kernel, by decide +kernel⟩, List.mem_of_getElem? (i := 6) (by decide +kernel), List.mem_of_getElem? (i := 281) (by decide +kernel), List.mem_of_getElem? (i := 282) (by decide +kernel)⟩
theorem lw_p18 : lw_okq (⟨"FerryFloor", "earliestTare", "(I)I"⟩, 7) := ⟨⟨by decide +kernel, by decide +kernel⟩, List.mem_of_getElem? (i := 6) (by decide +kernel), List.mem_of_getElem? (i := 285) (by decide +kernel), List.mem_of_getElem? (i := 286) (by decide +kernel)⟩
theorem lw_p19 : lw_okq (⟨"FerryFloor", "isPair", "(II)Z"⟩, 7) := ⟨⟨by decide +kernel, by decide +kernel⟩, List.mem_of_getElem? (i := 6) (by decide +kernel), List.mem_of_getElem? (i := 297) (by decide +kernel), List.mem_of_getElem? (i := 298) (by decide +kernel)⟩
def lw_privs_2 : List (MethodName × Nat) := [(⟨"FerryFloor", "estimateFor", "(I)I"⟩, 7), (⟨"FerryFloor", "certaintyFor", "(I)I"⟩, 7), (⟨"FerryFloor", "earliestTare", "(I)I"⟩, 7), (⟨"FerryFloor", "isPair", "(II)Z"⟩, 7)]
theorem lw_r2 : ∀ q ∈ lw_privs_2, lw_okq q := List.forall_mem_cons.mpr ⟨lw_p16, List.forall_mem_cons.mpr ⟨lw_p17, List.forall_mem_cons.mpr ⟨lw_p18, List.forall_mem_cons.mpr ⟨lw_p19, fun _ h => absurd h List.not_mem_nil⟩⟩⟩⟩
def lw_privs : List (MethodName × Nat) := lw_privs_1 ++ (lw_privs_2)
def lw_tbl : List Cond := k2_sels lw_privs ++ tables_1
theorem lw_privs_ok : ∀ q ∈ lw_privs, lw_okq q := by
  show ∀ q ∈ lw_privs_1 ++ (lw_privs_2), lw_okq q
  exact List.forall_mem_append.mpr ⟨lw_r1, lw_r2⟩
/-! ===== BEGIN words of one list among another's, by their places ===== -/
theorem goodIn_r {big : List Cond} (ws : List Cond) (ps : List Nat) (hp : ws = ps.filterMap (fun i => big[i]?)) (h : ws.all goodWord = true) : GoodIn big ws := by
  intro w hw
  have h1 := List.all_eq_true.mp h w hw
  rw [hp] at hw
  obtain ⟨i, -, hi⟩ := List.mem_filterMap.mp hw
  have hm : w ∈ big := by first | exact List.mem_of_getElem? hi | exact List.getElem?_mem hi
  exact ⟨hm, good_of_word h1⟩
theorem goodIn_app {big a b : List Cond} (ha : GoodIn big a) (hb : GoodIn big b) : GoodIn big (a ++ b) := fun w h => (List.mem_append.mp h).elim (ha w) (hb w)
theorem goodIn_ca {big a b : List Cond} {c : Cond} (ha : GoodIn big (c :: a)) (hb : GoodIn big b) : GoodIn big (c :: (a ++ b)) := fun w h => (List.mem_cons.mp h).elim (fun e => ha w (List.mem_cons.mpr (Or.inl e))) (fun h => (List.mem_append.mp h).elim (fun h => ha w (List.mem_cons.mpr (Or.inr h))) (hb w))
theorem goodIn_sub {big ws : List Cond} (hm : ∀ w ∈ ws, w ∈ big) (h : ws.all goodWord = true) : GoodIn big ws := fun w hw => ⟨hm w hw, good_of_word (List.all_eq_true.mp h w hw)⟩
/-! ===== END ===== -/

/-! ===== BEGIN printed: names, fields, word lists, decode rows ===== -/
def RX0 : String := "FerryFloor$State"
def TX0 : u_T := fun k => match k with
  | 0 => ("FerryFloor$State", "minute", "I", false)
  | 1 => ("FerryFloor$State", "price", "I", false)
  | 2 => ("FerryFloor$State", "walkers", "I", false)
  | 3 => ("FerryFloor$State", "zeros", "[I", true)
  | 4 => ("FerryFloor$State", "drifts", "[I", true)
  | 5 => ("FerryFloor$State", "tares", "[I", true)
  | 6 => ("FerryFloor$State", "tareMinutes", "[I", true)
  | 7 => ("FerryFloor$State", "weights", "[I", true)
  | 8 => ("FerryFloor$State", "places", "[I", true)
  | 9 => ("FerryFloor$State", "bookWeights", "[I", true)
  | 10 => ("FerryFloor$State", "bookPlaces", "[I", true)
  | 11 => ("FerryFloor$State", "accusations", "[I", true)
  | 12 => ("FerryFloor$State", "billKilograms", "[I", true)
  | 13 => ("FerryFloor$State", "billPrices", "[I", true)
  | _ => ("FerryFloor$State", "backKilograms", "[I", true)
def tyX0 : Nat → FieldType := fun k => match k with
  | 0 => .int
  | 1 => .int
  | 2 => .int
  | 3 => .array .int
  | 4 => .array .int
  | 5 => .array .int
  | 6 => .array .int
  | 7 => .array .int
  | 8 => .array .int
  | 9 => .array .int
  | 10 => .array .int
  | 11 => .array .int
  | 12 => .array .int
  | 13 => .array .int
  | _ => .array .int
abbrev wsX00 : List Cond := u_ws RX0 TX0 15
theorem nmX0 : ∀ a, a < 15 → ∀ b, b < 15 → a ≠ b → (TX0 a).2.1 ≠ (TX0 b).2.1 := by decide +kernel
theorem tyX0_ok : ∀ k, k < 15 → parseFieldDescriptor (TX0 k).2.2.1 = some (tyX0 k) := by decide +kernel
abbrev cX0_init : ByteArray := prog_2_method_1_code
def yX0_init : MethodName := ⟨RX0, "<init>", "()V"⟩
abbrev cX0_copyFrom : ByteArray := prog_2_method_2_code
def yX0_copyFrom : MethodName := ⟨RX0, "copyFrom", "(LFerryFloor$State;)V"⟩
def RX1 : String := "FerryFloor"
def TX1 : u_T := fun k => match k with
  | 0 => ("FerryFloor", "now", "LFerryFloor$State;", true)
  | 1 => ("FerryFloor", "history", "[LFerryFloor$State;", true)
  | 2 => ("FerryFloor", "oldest", "I", false)
  | 3 => ("FerryFloor", "kept", "I", false)
  | 4 => ("FerryFloor", "readings", "[I", true)
  | 5 => ("FerryFloor", "expected", "[I", true)
  | _ => ("FerryFloor", "trial", "[I", true)
def tyX1 : Nat → FieldType := fun k => match k with
  | 0 => .object "FerryFloor$State"
  | 1 => .array (.object "FerryFloor$State")
  | 2 => .int
  | 3 => .int
  | 4 => .array .int
  | 5 => .array .int
  | _ => .array .int
abbrev wsX10 : List Cond := u_ws RX1 TX1 7
theorem nmX1 : ∀ a, a < 7 → ∀ b, b < 7 → a ≠ b → (TX1 a).2.1 ≠ (TX1 b).2.1 := by decide +kernel
theorem tyX1_ok : ∀ k, k < 7 → parseFieldDescriptor (TX1 k).2.2.1 = some (tyX1 k) := by decide +kernel
abbrev cX1_init : ByteArray := prog_1_method_1_code
def yX1_init : MethodName := ⟨RX1, "<init>", "()V"⟩
abbrev cX1_setDrift : ByteArray := prog_1_method_2_code
def yX1_setDrift : MethodName := ⟨RX1, "setDrift", "(II)I"⟩
abbrev cX1_pass : ByteArray := prog_1_method_3_code
def yX1_pass : MethodName := ⟨RX1, "pass", "(I)I"⟩
abbrev cX1_tare : ByteArray := prog_1_method_4_code
def yX1_tare : MethodName := ⟨RX1, "tare", "(I)I"⟩
abbrev cX1_board : ByteArray := prog_1_method_5_code
def yX1_board : MethodName := ⟨RX1, "board", "(III)I"⟩
abbrev cX1_walk : ByteArray := prog_1_method_6_code
def yX1_walk : MethodName := ⟨RX1, "walk", "(II)I"⟩
abbrev cX1_swap : ByteArray := prog_1_method_7_code
def yX1_swap : MethodName := ⟨RX1, "swap", "(II)I"⟩
abbrev cX1_leave : ByteArray := prog_1_method_8_code
def yX1_leave : MethodName := ⟨RX1, "leave", "(I)I"⟩
abbrev cX1_setPrice : ByteArray := prog_1_method_9_code
def yX1_setPrice : MethodName := ⟨RX1, "setPrice", "(I)I"⟩
abbrev cX1_accuse : ByteArray := prog_1_method_10_code
def yX1_accuse : MethodName := ⟨RX1, "accuse", "(II)I"⟩
abbrev cX1_bill : ByteArray := prog_1_method_11_code
def yX1_bill : MethodName := ⟨RX1, "bill", "(I)I"⟩
abbrev cX1_complain : ByteArray := prog_1_method_12_code
def yX1_complain : MethodName := ⟨RX1, "complain", "(I)I"⟩
abbrev cX1_count : ByteArray := prog_1_method_14_code
def yX1_count : MethodName := ⟨RX1, "count", "(I)I"⟩
abbrev cX1_cell : ByteArray := prog_1_method_15_code
def yX1_cell : MethodName := ⟨RX1, "cell", "(II)I"⟩
abbrev cX1_walker : ByteArray := prog_1_method_16_code
def yX1_walker : MethodName := ⟨RX1, "walker", "(II)I"⟩
abbrev cX1_estimate : ByteArray := prog_1_method_17_code
def yX1_estimate : MethodName := ⟨RX1, "estimate", "(I)I"⟩
abbrev cX1_certainty : ByteArray := prog_1_method_18_code
def yX1_certainty : MethodName := ⟨RX1, "certainty", "(I)I"⟩
abbrev cX1_isWithin : ByteArray := prog_1_method_23_code
def yX1_isWithin : MethodName := ⟨RX1, "isWithin", "(III)Z"⟩
abbrev cX1_isCell : ByteArray := prog_1_method_24_code
def yX1_isCell : MethodName := ⟨RX1, "isCell", "(I)Z"⟩
abbrev cX1_isWeight : ByteArray := prog_1_method_25_code
def yX1_isWeight : MethodName := ⟨RX1, "isWeight", "(I)Z"⟩
abbrev cX1_isWalker : ByteArray := prog_1_method_26_code
def yX1_isWalker : MethodName := ⟨RX1, "isWalker", "(I)Z"⟩
abbrev cX1_isPair : ByteArray := prog_1_method_27_code
def yX1_isPair : MethodName := ⟨RX1, "isPair", "(II)Z"⟩
abbrev cX1_isAboard : ByteArray := prog_1_method_28_code
def yX1_isAboard : MethodName := ⟨RX1, "isAboard", "(I)Z"⟩
abbrev cX1_nearCell : ByteArray := prog_1_method_29_code
def yX1_nearCell : MethodName := ⟨RX1, "nearCell", "(II)I"⟩
abbrev cX1_addShares : ByteArray := prog_1_method_30_code
def yX1_addShares : MethodName := ⟨RX1, "addShares", "([III)V"⟩
abbrev cX1_addAllShares : ByteArray := prog_1_method_31_code
def yX1_addAllShares : MethodName := ⟨RX1, "addAllShares", "([I[I[I)V"⟩
abbrev cX1_weighAll : ByteArray := prog_1_method_32_code
def yX1_weighAll : MethodName := ⟨RX1, "weighAll", "()V"⟩
abbrev cX1_expectAll : ByteArray := prog_1_method_33_code
def yX1_expectAll : MethodName := ⟨RX1, "expectAll", "([I)V"⟩
abbrev cX1_earliestTare : ByteArray := prog_1_method_34_code
def yX1_earliestTare : MethodName := ⟨RX1, "earliestTare", "(I)I"⟩
abbrev cX1_sumOfReadings : ByteArray := prog_1_method_35_code
def yX1_sumOfReadings : MethodName := ⟨RX1, "sumOfReadings", "()I"⟩
abbrev cX1_whoIsOn : ByteArray := prog_1_method_36_code
def yX1_whoIsOn : MethodName := ⟨RX1, "whoIsOn", "([II)I"⟩
abbrev cX1_exchange : ByteArray := prog_1_method_37_code
def yX1_exchange : MethodName := ⟨RX1, "exchange", "([III)V"⟩
abbrev cX1_errorWith : ByteArray := prog_1_method_39_code
def yX1_errorWith : MethodName := ⟨RX1, "errorWith", "([I)I"⟩
abbrev cX1_walkersAboard : ByteArray := prog_1_method_41_code
def yX1_walkersAboard : MethodName := ⟨RX1, "walkersAboard", "()I"⟩
abbrev cX1_walkersMisplaced : ByteArray := prog_1_method_42_code
def yX1_walkersMisplaced : MethodName := ⟨RX1, "walkersMisplaced", "()I"⟩
abbrev cX1_estimateFor : ByteArray := prog_1_method_43_code
def yX1_estimateFor : MethodName := ⟨RX1, "estimateFor", "(I)I"⟩
abbrev cX1_certaintyFor : ByteArray := prog_1_method_44_code
def yX1_certaintyFor : MethodName := ⟨RX1, "certaintyFor", "(I)I"⟩
abbrev cX1_kilogramsToBill : ByteArray := prog_1_method_45_code
def yX1_kilogramsToBill : MethodName := ⟨RX1, "kilogramsToBill", "(I)I"⟩
abbrev cX1_kilogramsBilled : ByteArray := prog_1_method_46_code
def yX1_kilogramsBilled : MethodName := ⟨RX1, "kilogramsBilled", "()I"⟩
abbrev cX1_billAmount : ByteArray := prog_1_method_47_code
def yX1_billAmount : MethodName := ⟨RX1, "billAmount", "(I)I"⟩
abbrev cX1_backAmount : ByteArray := prog_1_method_48_code
def yX1_backAmount : MethodName := ⟨RX1, "backAmount", "(I)I"⟩
abbrev cX1_sumOfBillAmounts : ByteArray := prog_1_method_49_code
def yX1_sumOfBillAmounts : MethodName := ⟨RX1, "sumOfBillAmounts", "()I"⟩
abbrev cX1_sumOfBackAmounts : ByteArray := prog_1_method_50_code
def yX1_sumOfBackAmounts : MethodName := ⟨RX1, "sumOfBackAmounts", "()I"⟩
abbrev cX1_orZero : ByteArray := prog_1_method_51_code
def yX1_orZero : MethodName := ⟨RX1, "orZero", "(I)I"⟩
abbrev cX1_remember : ByteArray := prog_1_method_52_code
def yX1_remember : MethodName := ⟨RX1, "remember", "()V"⟩
abbrev cX1_slotAfter : ByteArray := prog_1_method_53_code
def yX1_slotAfter : MethodName := ⟨RX1, "slotAfter", "(I)I"⟩
abbrev cX1_copyRow : ByteArray := prog_1_method_54_code
def yX1_copyRow : MethodName := ⟨RX1, "copyRow", "([I[I)V"⟩
abbrev cX1_fillRow : ByteArray := prog_1_method_55_code
def yX1_fillRow : MethodName := ⟨RX1, "fillRow", "([II)V"⟩
abbrev cX1_sumOf : ByteArray := prog_1_method_56_code
def yX1_sumOf : MethodName := ⟨RX1, "sumOf", "([I)I"⟩
def RX2 : String := "FerryFloorModel"
def TX2 : u_T := fun k => match k with
  | _ => ("", "", "", false)
def tyX2 : Nat → FieldType := fun k => match k with
  | _ => .int
abbrev wsX20 : List Cond := u_ws RX2 TX2 0
theorem nmX2 : ∀ a, a < 0 → ∀ b, b < 0 → a ≠ b → (TX2 a).2.1 ≠ (TX2 b).2.1 := by decide +kernel
theorem tyX2_ok : ∀ k, k < 0 → parseFieldDescriptor (TX2 k).2.2.1 = some (tyX2 k) := by decide +kernel
def RJ9 : String := "java/lang/Math"
def TJ9 : u_T := fun k => match k with
  | _ => ("", "", "", false)
def tyJ9 : Nat → FieldType := fun k => match k with
  | _ => .int
abbrev wsJ90 : List Cond := u_ws RJ9 TJ9 0
theorem nmJ9 : ∀ a, a < 0 → ∀ b, b < 0 → a ≠ b → (TJ9 a).2.1 ≠ (TJ9 b).2.1 := by decide +kernel
theorem tyJ9_ok : ∀ k, k < 0 → parseFieldDescriptor (TJ9 k).2.2.1 = some (tyJ9 k) := by decide +kernel
abbrev cJ9_floorMod_7cf53 : ByteArray := prog_5_method_50_code
def yJ9_floorMod_7cf53 : MethodName := ⟨RJ9, "floorMod", "(II)I"⟩
abbrev cJ9_abs_0f7a4 : ByteArray := prog_5_method_59_code
def yJ9_abs_0f7a4 : MethodName := ⟨RJ9, "abs", "(I)I"⟩
abbrev cJ9_max_7cf53 : ByteArray := prog_5_method_65_code
def yJ9_max_7cf53 : MethodName := ⟨RJ9, "max", "(II)I"⟩
abbrev cJ9_min_7cf53 : ByteArray := prog_5_method_69_code
def yJ9_min_7cf53 : MethodName := ⟨RJ9, "min", "(II)I"⟩
def RJ10 : String := "java/lang/System"
def TJ10 : u_T := fun k => match k with
  | _ => ("", "", "", false)
def tyJ10 : Nat → FieldType := fun k => match k with
  | _ => .int
abbrev wsJ100 : List Cond := u_ws RJ10 TJ10 0
theorem nmJ10 : ∀ a, a < 0 → ∀ b, b < 0 → a ≠ b → (TJ10 a).2.1 ≠ (TJ10 b).2.1 := by decide +kernel
theorem tyJ10_ok : ∀ k, k < 0 → parseFieldDescriptor (TJ10 k).2.2.1 = some (tyJ10 k) := by decide +kernel
def RL : String := "FerryFloorLaw"
abbrev cL_cell : ByteArray := method_2_code
def yL_cell : MethodName := ⟨RL, "cell", "([II)I"⟩
abbrev cL_low : ByteArray := method_3_code
def yL_low : MethodName := ⟨RL, "low", "(II)I"⟩
abbrev cL_share : ByteArray := method_4_code
def yL_share : MethodName := ⟨RL, "share", "(III)I"⟩
abbrev cL_gets : ByteArray := method_5_code
def yL_gets : MethodName := ⟨RL, "gets", "([I[IIII)I"⟩
abbrev cL_error : ByteArray := method_6_code
def yL_error : MethodName := ⟨RL, "error", "([I[I[I[I)I"⟩
abbrev cL_who : ByteArray := method_7_code
def yL_who : MethodName := ⟨RL, "who", "([I[III)I"⟩
abbrev cL_estimate : ByteArray := method_8_code
def yL_estimate : MethodName := ⟨RL, "estimate", "([I[I[I[II)I"⟩
abbrev cL_oldest : ByteArray := method_9_code
def yL_oldest : MethodName := ⟨RL, "oldest", "([II)I"⟩
abbrev cL_certainty : ByteArray := method_10_code
def yL_certainty : MethodName := ⟨RL, "certainty", "([I[I[II)I"⟩
abbrev cL_two : ByteArray := method_11_code
def yL_two : MethodName := ⟨RL, "two", "(LFerryFloor;[I[I[I[IIZ)Z"⟩
abbrev cL_clerk : ByteArray := method_12_code
def yL_clerk : MethodName := ⟨RL, "clerk", "(LFerryFloor;[I[I[I[I[I[IIZ)Z"⟩
abbrev cL_acts : ByteArray := method_13_code
def yL_acts : MethodName := ⟨RL, "acts", "(LFerryFloor;[I[I[I[I[I[I[II)Z"⟩
abbrev cL_isSo : ByteArray := method_14_code
def yL_isSo : MethodName := ⟨RL, "isSo", "(LFerryFloor;[I[I[I[I[I[I[I)Z"⟩
abbrev cL_law : ByteArray := code
def yL_law : MethodName := ⟨RL, "law", "([I)Z"⟩
def wsX1_fillRow : List Cond := .code yX1_fillRow cX1_fillRow 3 none :: ([])
def wsX0_init : List Cond := .code yX0_init cX0_init 1 none :: ([.methodLink RX0 3 objectInit, .instanceMethod objectInit, .code objectInit ⟨#[0xb1]⟩ 1 none, .fieldLink RX0 9 "FerryFloor$State" "minute" "I", .fieldLink RX0 15 "FerryFloor$State" "price" "I", .fieldLink RX0 18 "FerryFloor$State" "walkers" "I", .arrayClass .int, .fieldLink RX0 21 "FerryFloor$State" "zeros" "[I", .fieldLink RX0 25 "FerryFloor$State" "drifts" "[I", .fieldLink RX0 28 "FerryFloor$State" "tares" "[I", .fieldLink RX0 31 "FerryFloor$State" "tareMinutes" "[I", .fieldLink RX0 34 "FerryFloor$State" "weights" "[I", .fieldLink RX0 37 "FerryFloor$State" "places" "[I", .fieldLink RX0 40 "FerryFloor$State" "bookWeights" "[I", .fieldLink RX0 43 "FerryFloor$State" "bookPlaces" "[I", .fieldLink RX0 46 "FerryFloor$State" "accusations" "[I", .fieldLink RX0 49 "FerryFloor$State" "billKilograms" "[I", .fieldLink RX0 52 "FerryFloor$State" "billPrices" "[I", .fieldLink RX0 55 "FerryFloor$State" "backKilograms" "[I", .constant RX0 58 (-100009), .static yX1_fillRow, .initialized RX1, .code yX1_fillRow cX1_fillRow 3 none] ++ wsX00)
def wsX1_copyRow : List Cond := .code yX1_copyRow cX1_copyRow 2 none :: ([.methodLink RX1 205 Lib.Math.min.name, .static Lib.Math.min.name, .initialized "java/lang/Math", .code Lib.Math.min.name Lib.Math.min.code 2 (some .int), .methodLink RX1 217 arraycopyName, .native arraycopyName, .static arraycopyName, .initialized "java/lang/System"])
def wsX0_copyFrom_r1 : List Cond := [Cond.fieldLink RX0 9 "FerryFloor$State" "minute" "I", Cond.fieldLink RX0 15 "FerryFloor$State" "price" "I", Cond.fieldLink RX0 18 "FerryFloor$State" "walkers" "I", Cond.fieldLink RX0 21 "FerryFloor$State" "zeros" "[I", Cond.fieldLink RX0 25 "FerryFloor$State" "drifts" "[I", Cond.fieldLink RX0 28 "FerryFloor$State" "tares" "[I", Cond.fieldLink RX0 31 "FerryFloor$State" "tareMinutes" "[I", Cond.fieldLink RX0 34 "FerryFloor$State" "weights" "[I", Cond.fieldLink RX0 37 "FerryFloor$State" "places" "[I", Cond.fieldLink RX0 40 "FerryFloor$State" "bookWeights" "[I", Cond.fieldLink RX0 43 "FerryFloor$State" "bookPlaces" "[I", Cond.fieldLink RX0 46 "FerryFloor$State" "accusations" "[I", Cond.fieldLink RX0 49 "FerryFloor$State" "billKilograms" "[I", Cond.fieldLink RX0 52 "FerryFloor$State" "billPrices" "[I", Cond.fieldLink RX0 55 "FerryFloor$State" "backKilograms" "[I", Cond.static yX1_copyRow, Cond.initialized RX1, Cond.code yX1_copyRow cX1_copyRow 2 none, Cond.methodLink RX1 205 Lib.Math.min.name, Cond.static Lib.Math.min.name, Cond.initialized "java/lang/Math", Cond.code Lib.Math.min.name Lib.Math.min.code 2 (some .int), Cond.methodLink RX1 217 arraycopyName, Cond.native arraycopyName]
def wsX0_copyFrom_r2 : List Cond := [Cond.static arraycopyName, Cond.initialized "java/lang/System"]
def wsX0_copyFrom : List Cond := .code yX0_copyFrom cX0_copyFrom 2 none :: ((wsX0_copyFrom_r1 ++ wsX0_copyFrom_r2) ++ wsX00)
def wsX1_init_r1 : List Cond := [Cond.methodLink RX1 1 objectInit, Cond.instanceMethod objectInit, Cond.code objectInit ⟨#[0xb1]⟩ 1 none, Cond.classLink RX1 7 RX0, Cond.instantiable RX0 15, Cond.initialized RX0, Cond.fieldLink RX1 10 "FerryFloor" "now" "LFerryFloor$State;", Cond.fieldLink RX1 16 "FerryFloor" "history" "[LFerryFloor$State;", Cond.fieldLink RX1 20 "FerryFloor" "oldest" "I", Cond.fieldLink RX1 24 "FerryFloor" "kept" "I", Cond.arrayClass .int, Cond.fieldLink RX1 27 "FerryFloor" "readings" "[I", Cond.fieldLink RX1 31 "FerryFloor" "expected" "[I", Cond.fieldLink RX1 34 "FerryFloor" "trial" "[I", Cond.methodLink RX1 9 yX0_init, Cond.instanceMethod yX0_init, Cond.code yX0_init cX0_init 1 none, Cond.methodLink RX0 3 objectInit, Cond.fieldLink RX0 9 "FerryFloor$State" "minute" "I", Cond.fieldLink RX0 15 "FerryFloor$State" "price" "I", Cond.fieldLink RX0 18 "FerryFloor$State" "walkers" "I", Cond.fieldLink RX0 21 "FerryFloor$State" "zeros" "[I", Cond.fieldLink RX0 25 "FerryFloor$State" "drifts" "[I", Cond.fieldLink RX0 28 "FerryFloor$State" "tares" "[I"]
def wsX1_init_r2 : List Cond := [Cond.fieldLink RX0 31 "FerryFloor$State" "tareMinutes" "[I", Cond.fieldLink RX0 34 "FerryFloor$State" "weights" "[I", Cond.fieldLink RX0 37 "FerryFloor$State" "places" "[I", Cond.fieldLink RX0 40 "FerryFloor$State" "bookWeights" "[I", Cond.fieldLink RX0 43 "FerryFloor$State" "bookPlaces" "[I", Cond.fieldLink RX0 46 "FerryFloor$State" "accusations" "[I", Cond.fieldLink RX0 49 "FerryFloor$State" "billKilograms" "[I", Cond.fieldLink RX0 52 "FerryFloor$State" "billPrices" "[I", Cond.fieldLink RX0 55 "FerryFloor$State" "backKilograms" "[I", Cond.constant RX0 58 (-100009), Cond.static yX1_fillRow, Cond.initialized RX1, Cond.code yX1_fillRow cX1_fillRow 3 none]
def wsX1_init : List Cond := .code yX1_init cX1_init 2 none :: ((wsX1_init_r1 ++ wsX1_init_r2) ++ wsX00 ++ wsX10)
def wsX1_isCell : List Cond := .code yX1_isCell cX1_isCell 1 (some .boolean) :: ([])
def wsX1_isWithin : List Cond := .code yX1_isWithin cX1_isWithin 3 (some .boolean) :: ([])
def wsJ9_floorMod_7cf53 : List Cond := .code yJ9_floorMod_7cf53 cJ9_floorMod_7cf53 3 (some .int) :: ([])
def wsX1_slotAfter : List Cond := .code yX1_slotAfter cX1_slotAfter 2 (some .int) :: ([.fieldLink RX1 20 "FerryFloor" "oldest" "I", .methodLink RX1 214 yJ9_floorMod_7cf53, .static yJ9_floorMod_7cf53, .initialized RJ9, .code yJ9_floorMod_7cf53 cJ9_floorMod_7cf53 3 (some .int)] ++ wsX10)
def wsX1_remember_r1 : List Cond := [Cond.fieldLink RX1 24 "FerryFloor" "kept" "I", Cond.fieldLink RX1 20 "FerryFloor" "oldest" "I", Cond.fieldLink RX1 16 "FerryFloor" "history" "[LFerryFloor$State;", Cond.fieldLink RX1 10 "FerryFloor" "now" "LFerryFloor$State;", Cond.methodLink RX1 138 yX1_slotAfter, Cond.instanceMethod yX1_slotAfter, Cond.selects RX1 yX1_slotAfter yX1_slotAfter, Cond.initialized RX1, Cond.code yX1_slotAfter cX1_slotAfter 2 (some .int), Cond.methodLink RX1 214 yJ9_floorMod_7cf53, Cond.static yJ9_floorMod_7cf53, Cond.initialized RJ9, Cond.code yJ9_floorMod_7cf53 cJ9_floorMod_7cf53 3 (some .int), Cond.methodLink RX1 141 yX0_copyFrom, Cond.instanceMethod yX0_copyFrom, Cond.selects RX0 yX0_copyFrom yX0_copyFrom, Cond.initialized RX0, Cond.code yX0_copyFrom cX0_copyFrom 2 none, Cond.fieldLink RX0 9 "FerryFloor$State" "minute" "I", Cond.fieldLink RX0 15 "FerryFloor$State" "price" "I", Cond.fieldLink RX0 18 "FerryFloor$State" "walkers" "I", Cond.fieldLink RX0 21 "FerryFloor$State" "zeros" "[I", Cond.fieldLink RX0 25 "FerryFloor$State" "drifts" "[I", Cond.fieldLink RX0 28 "FerryFloor$State" "tares" "[I"]
def wsX1_remember_r2 : List Cond := [Cond.fieldLink RX0 31 "FerryFloor$State" "tareMinutes" "[I", Cond.fieldLink RX0 34 "FerryFloor$State" "weights" "[I", Cond.fieldLink RX0 37 "FerryFloor$State" "places" "[I", Cond.fieldLink RX0 40 "FerryFloor$State" "bookWeights" "[I", Cond.fieldLink RX0 43 "FerryFloor$State" "bookPlaces" "[I", Cond.fieldLink RX0 46 "FerryFloor$State" "accusations" "[I", Cond.fieldLink RX0 49 "FerryFloor$State" "billKilograms" "[I", Cond.fieldLink RX0 52 "FerryFloor$State" "billPrices" "[I", Cond.fieldLink RX0 55 "FerryFloor$State" "backKilograms" "[I", Cond.static yX1_copyRow, Cond.code yX1_copyRow cX1_copyRow 2 none, Cond.methodLink RX1 205 Lib.Math.min.name, Cond.static Lib.Math.min.name, Cond.initialized "java/lang/Math", Cond.code Lib.Math.min.name Lib.Math.min.code 2 (some .int), Cond.methodLink RX1 217 arraycopyName, Cond.native arraycopyName, Cond.static arraycopyName, Cond.initialized "java/lang/System"]
def wsX1_remember : List Cond := .code yX1_remember cX1_remember 2 none :: ((wsX1_remember_r1 ++ wsX1_remember_r2) ++ wsX10 ++ wsX00)
def wsX1_setDrift_r1 : List Cond := [Cond.constant RX1 45 (-100001), Cond.fieldLink RX1 10 "FerryFloor" "now" "LFerryFloor$State;", Cond.fieldLink RX1 49 "FerryFloor$State" "drifts" "[I", Cond.methodLink RX1 37 yX1_isCell, Cond.static yX1_isCell, Cond.initialized RX1, Cond.code yX1_isCell cX1_isCell 1 (some .boolean), Cond.methodLink RX1 41 yX1_isWithin, Cond.static yX1_isWithin, Cond.code yX1_isWithin cX1_isWithin 3 (some .boolean), Cond.methodLink RX1 46 yX1_remember, Cond.instanceMethod yX1_remember, Cond.selects RX1 yX1_remember yX1_remember, Cond.code yX1_remember cX1_remember 2 none, Cond.fieldLink RX1 24 "FerryFloor" "kept" "I", Cond.fieldLink RX1 20 "FerryFloor" "oldest" "I", Cond.fieldLink RX1 16 "FerryFloor" "history" "[LFerryFloor$State;", Cond.methodLink RX1 138 yX1_slotAfter, Cond.instanceMethod yX1_slotAfter, Cond.selects RX1 yX1_slotAfter yX1_slotAfter, Cond.code yX1_slotAfter cX1_slotAfter 2 (some .int), Cond.methodLink RX1 214 yJ9_floorMod_7cf53, Cond.static yJ9_floorMod_7cf53, Cond.initialized RJ9]
def wsX1_setDrift_r2 : List Cond := [Cond.code yJ9_floorMod_7cf53 cJ9_floorMod_7cf53 3 (some .int), Cond.methodLink RX1 141 yX0_copyFrom, Cond.instanceMethod yX0_copyFrom, Cond.selects RX0 yX0_copyFrom yX0_copyFrom, Cond.initialized RX0, Cond.code yX0_copyFrom cX0_copyFrom 2 none, Cond.fieldLink RX0 9 "FerryFloor$State" "minute" "I", Cond.fieldLink RX0 15 "FerryFloor$State" "price" "I", Cond.fieldLink RX0 18 "FerryFloor$State" "walkers" "I", Cond.fieldLink RX0 21 "FerryFloor$State" "zeros" "[I", Cond.fieldLink RX0 25 "FerryFloor$State" "drifts" "[I", Cond.fieldLink RX0 28 "FerryFloor$State" "tares" "[I", Cond.fieldLink RX0 31 "FerryFloor$State" "tareMinutes" "[I", Cond.fieldLink RX0 34 "FerryFloor$State" "weights" "[I", Cond.fieldLink RX0 37 "FerryFloor$State" "places" "[I", Cond.fieldLink RX0 40 "FerryFloor$State" "bookWeights" "[I", Cond.fieldLink RX0 43 "FerryFloor$State" "bookPlaces" "[I", Cond.fieldLink RX0 46 "FerryFloor$State" "accusations" "[I", Cond.fieldLink RX0 49 "FerryFloor$State" "billKilograms" "[I", Cond.fieldLink RX0 52 "FerryFloor$State" "billPrices" "[I", Cond.fieldLink RX0 55 "FerryFloor$State" "backKilograms" "[I", Cond.static yX1_copyRow, Cond.code yX1_copyRow cX1_copyRow 2 none, Cond.methodLink RX1 205 Lib.Math.min.name]
def wsX1_setDrift_r3 : List Cond := [Cond.static Lib.Math.min.name, Cond.initialized "java/lang/Math", Cond.code Lib.Math.min.name Lib.Math.min.code 2 (some .int), Cond.methodLink RX1 217 arraycopyName, Cond.native arraycopyName, Cond.static arraycopyName, Cond.initialized "java/lang/System"]
def wsX1_setDrift : List Cond := .code yX1_setDrift cX1_setDrift 4 (some .int) :: ((wsX1_setDrift_r1 ++ (wsX1_setDrift_r2 ++ wsX1_setDrift_r3)) ++ wsX10 ++ wsX00)
def wsX1_pass_r1 : List Cond := [Cond.constant RX1 45 (-100001), Cond.fieldLink RX1 10 "FerryFloor" "now" "LFerryFloor$State;", Cond.fieldLink RX1 52 "FerryFloor$State" "minute" "I", Cond.constant RX1 55 (-100002), Cond.fieldLink RX1 56 "FerryFloor$State" "zeros" "[I", Cond.fieldLink RX1 49 "FerryFloor$State" "drifts" "[I", Cond.methodLink RX1 41 yX1_isWithin, Cond.static yX1_isWithin, Cond.initialized RX1, Cond.code yX1_isWithin cX1_isWithin 3 (some .boolean), Cond.methodLink RX1 46 yX1_remember, Cond.instanceMethod yX1_remember, Cond.selects RX1 yX1_remember yX1_remember, Cond.code yX1_remember cX1_remember 2 none, Cond.fieldLink RX1 24 "FerryFloor" "kept" "I", Cond.fieldLink RX1 20 "FerryFloor" "oldest" "I", Cond.fieldLink RX1 16 "FerryFloor" "history" "[LFerryFloor$State;", Cond.methodLink RX1 138 yX1_slotAfter, Cond.instanceMethod yX1_slotAfter, Cond.selects RX1 yX1_slotAfter yX1_slotAfter, Cond.code yX1_slotAfter cX1_slotAfter 2 (some .int), Cond.methodLink RX1 214 yJ9_floorMod_7cf53, Cond.static yJ9_floorMod_7cf53, Cond.initialized RJ9]
def wsX1_pass_r2 : List Cond := [Cond.code yJ9_floorMod_7cf53 cJ9_floorMod_7cf53 3 (some .int), Cond.methodLink RX1 141 yX0_copyFrom, Cond.instanceMethod yX0_copyFrom, Cond.selects RX0 yX0_copyFrom yX0_copyFrom, Cond.initialized RX0, Cond.code yX0_copyFrom cX0_copyFrom 2 none, Cond.fieldLink RX0 9 "FerryFloor$State" "minute" "I", Cond.fieldLink RX0 15 "FerryFloor$State" "price" "I", Cond.fieldLink RX0 18 "FerryFloor$State" "walkers" "I", Cond.fieldLink RX0 21 "FerryFloor$State" "zeros" "[I", Cond.fieldLink RX0 25 "FerryFloor$State" "drifts" "[I", Cond.fieldLink RX0 28 "FerryFloor$State" "tares" "[I", Cond.fieldLink RX0 31 "FerryFloor$State" "tareMinutes" "[I", Cond.fieldLink RX0 34 "FerryFloor$State" "weights" "[I", Cond.fieldLink RX0 37 "FerryFloor$State" "places" "[I", Cond.fieldLink RX0 40 "FerryFloor$State" "bookWeights" "[I", Cond.fieldLink RX0 43 "FerryFloor$State" "bookPlaces" "[I", Cond.fieldLink RX0 46 "FerryFloor$State" "accusations" "[I", Cond.fieldLink RX0 49 "FerryFloor$State" "billKilograms" "[I", Cond.fieldLink RX0 52 "FerryFloor$State" "billPrices" "[I", Cond.fieldLink RX0 55 "FerryFloor$State" "backKilograms" "[I", Cond.static yX1_copyRow, Cond.code yX1_copyRow cX1_copyRow 2 none, Cond.methodLink RX1 205 Lib.Math.min.name]
def wsX1_pass_r3 : List Cond := [Cond.static Lib.Math.min.name, Cond.initialized "java/lang/Math", Cond.code Lib.Math.min.name Lib.Math.min.code 2 (some .int), Cond.methodLink RX1 217 arraycopyName, Cond.native arraycopyName, Cond.static arraycopyName, Cond.initialized "java/lang/System"]
def wsX1_pass : List Cond := .code yX1_pass cX1_pass 3 (some .int) :: ((wsX1_pass_r1 ++ (wsX1_pass_r2 ++ wsX1_pass_r3)) ++ wsX10 ++ wsX00)
def wsX1_nearCell : List Cond := .code yX1_nearCell cX1_nearCell 3 (some .int) :: ([.constant RX1 78 (-100009)])
def wsX1_addShares : List Cond := .code yX1_addShares cX1_addShares 7 none :: ([.methodLink RX1 37 yX1_isCell, .static yX1_isCell, .initialized RX1, .code yX1_isCell cX1_isCell 1 (some .boolean), .methodLink RX1 195 yX1_nearCell, .static yX1_nearCell, .code yX1_nearCell cX1_nearCell 3 (some .int), .constant RX1 78 (-100009)])
def wsX1_addAllShares : List Cond := .code yX1_addAllShares cX1_addAllShares 4 none :: ([.methodLink RX1 198 yX1_addShares, .static yX1_addShares, .initialized RX1, .code yX1_addShares cX1_addShares 7 none, .methodLink RX1 37 yX1_isCell, .static yX1_isCell, .code yX1_isCell cX1_isCell 1 (some .boolean), .methodLink RX1 195 yX1_nearCell, .static yX1_nearCell, .code yX1_nearCell cX1_nearCell 3 (some .int), .constant RX1 78 (-100009)])
def wsX1_weighAll_r1 : List Cond := [Cond.fieldLink RX1 10 "FerryFloor" "now" "LFerryFloor$State;", Cond.fieldLink RX1 56 "FerryFloor$State" "zeros" "[I", Cond.fieldLink RX1 27 "FerryFloor" "readings" "[I", Cond.fieldLink RX1 83 "FerryFloor$State" "weights" "[I", Cond.fieldLink RX1 71 "FerryFloor$State" "places" "[I", Cond.methodLink RX1 180 yX1_copyRow, Cond.static yX1_copyRow, Cond.initialized RX1, Cond.code yX1_copyRow cX1_copyRow 2 none, Cond.methodLink RX1 205 Lib.Math.min.name, Cond.static Lib.Math.min.name, Cond.initialized "java/lang/Math", Cond.code Lib.Math.min.name Lib.Math.min.code 2 (some .int), Cond.methodLink RX1 217 arraycopyName, Cond.native arraycopyName, Cond.static arraycopyName, Cond.initialized "java/lang/System", Cond.methodLink RX1 201 yX1_addAllShares, Cond.static yX1_addAllShares, Cond.code yX1_addAllShares cX1_addAllShares 4 none, Cond.methodLink RX1 198 yX1_addShares, Cond.static yX1_addShares, Cond.code yX1_addShares cX1_addShares 7 none, Cond.methodLink RX1 37 yX1_isCell]
def wsX1_weighAll_r2 : List Cond := [Cond.static yX1_isCell, Cond.code yX1_isCell cX1_isCell 1 (some .boolean), Cond.methodLink RX1 195 yX1_nearCell, Cond.static yX1_nearCell, Cond.code yX1_nearCell cX1_nearCell 3 (some .int), Cond.constant RX1 78 (-100009)]
def wsX1_weighAll : List Cond := .code yX1_weighAll cX1_weighAll 1 none :: ((wsX1_weighAll_r1 ++ wsX1_weighAll_r2) ++ wsX10 ++ wsX00)
def wsX1_tare_r1 : List Cond := [Cond.constant RX1 45 (-100001), Cond.fieldLink RX1 27 "FerryFloor" "readings" "[I", Cond.fieldLink RX1 10 "FerryFloor" "now" "LFerryFloor$State;", Cond.fieldLink RX1 56 "FerryFloor$State" "zeros" "[I", Cond.constant RX1 55 (-100002), Cond.fieldLink RX1 62 "FerryFloor$State" "tares" "[I", Cond.fieldLink RX1 65 "FerryFloor$State" "tareMinutes" "[I", Cond.fieldLink RX1 52 "FerryFloor$State" "minute" "I", Cond.methodLink RX1 37 yX1_isCell, Cond.static yX1_isCell, Cond.initialized RX1, Cond.code yX1_isCell cX1_isCell 1 (some .boolean), Cond.methodLink RX1 59 yX1_weighAll, Cond.instanceMethod yX1_weighAll, Cond.selects RX1 yX1_weighAll yX1_weighAll, Cond.code yX1_weighAll cX1_weighAll 1 none, Cond.fieldLink RX1 83 "FerryFloor$State" "weights" "[I", Cond.fieldLink RX1 71 "FerryFloor$State" "places" "[I", Cond.methodLink RX1 180 yX1_copyRow, Cond.static yX1_copyRow, Cond.code yX1_copyRow cX1_copyRow 2 none, Cond.methodLink RX1 205 Lib.Math.min.name, Cond.static Lib.Math.min.name, Cond.initialized "java/lang/Math"]
def wsX1_tare_r2 : List Cond := [Cond.code Lib.Math.min.name Lib.Math.min.code 2 (some .int), Cond.methodLink RX1 217 arraycopyName, Cond.native arraycopyName, Cond.static arraycopyName, Cond.initialized "java/lang/System", Cond.methodLink RX1 201 yX1_addAllShares, Cond.static yX1_addAllShares, Cond.code yX1_addAllShares cX1_addAllShares 4 none, Cond.methodLink RX1 198 yX1_addShares, Cond.static yX1_addShares, Cond.code yX1_addShares cX1_addShares 7 none, Cond.methodLink RX1 195 yX1_nearCell, Cond.static yX1_nearCell, Cond.code yX1_nearCell cX1_nearCell 3 (some .int), Cond.constant RX1 78 (-100009), Cond.methodLink RX1 46 yX1_remember, Cond.instanceMethod yX1_remember, Cond.selects RX1 yX1_remember yX1_remember, Cond.code yX1_remember cX1_remember 2 none, Cond.fieldLink RX1 24 "FerryFloor" "kept" "I", Cond.fieldLink RX1 20 "FerryFloor" "oldest" "I", Cond.fieldLink RX1 16 "FerryFloor" "history" "[LFerryFloor$State;", Cond.methodLink RX1 138 yX1_slotAfter, Cond.instanceMethod yX1_slotAfter]
def wsX1_tare_r3 : List Cond := [Cond.selects RX1 yX1_slotAfter yX1_slotAfter, Cond.code yX1_slotAfter cX1_slotAfter 2 (some .int), Cond.methodLink RX1 214 yJ9_floorMod_7cf53, Cond.static yJ9_floorMod_7cf53, Cond.initialized RJ9, Cond.code yJ9_floorMod_7cf53 cJ9_floorMod_7cf53 3 (some .int), Cond.methodLink RX1 141 yX0_copyFrom, Cond.instanceMethod yX0_copyFrom, Cond.selects RX0 yX0_copyFrom yX0_copyFrom, Cond.initialized RX0, Cond.code yX0_copyFrom cX0_copyFrom 2 none, Cond.fieldLink RX0 9 "FerryFloor$State" "minute" "I", Cond.fieldLink RX0 15 "FerryFloor$State" "price" "I", Cond.fieldLink RX0 18 "FerryFloor$State" "walkers" "I", Cond.fieldLink RX0 21 "FerryFloor$State" "zeros" "[I", Cond.fieldLink RX0 25 "FerryFloor$State" "drifts" "[I", Cond.fieldLink RX0 28 "FerryFloor$State" "tares" "[I", Cond.fieldLink RX0 31 "FerryFloor$State" "tareMinutes" "[I", Cond.fieldLink RX0 34 "FerryFloor$State" "weights" "[I", Cond.fieldLink RX0 37 "FerryFloor$State" "places" "[I", Cond.fieldLink RX0 40 "FerryFloor$State" "bookWeights" "[I", Cond.fieldLink RX0 43 "FerryFloor$State" "bookPlaces" "[I", Cond.fieldLink RX0 46 "FerryFloor$State" "accusations" "[I", Cond.fieldLink RX0 49 "FerryFloor$State" "billKilograms" "[I"]
def wsX1_tare_r4 : List Cond := [Cond.fieldLink RX0 52 "FerryFloor$State" "billPrices" "[I", Cond.fieldLink RX0 55 "FerryFloor$State" "backKilograms" "[I"]
def wsX1_tare : List Cond := .code yX1_tare cX1_tare 2 (some .int) :: ((wsX1_tare_r1 ++ (wsX1_tare_r2 ++ (wsX1_tare_r3 ++ wsX1_tare_r4))) ++ wsX10 ++ wsX00)
def wsX1_isWeight : List Cond := .code yX1_isWeight cX1_isWeight 1 (some .boolean) :: ([.methodLink RX1 41 yX1_isWithin, .static yX1_isWithin, .initialized RX1, .code yX1_isWithin cX1_isWithin 3 (some .boolean)])
def wsX1_whoIsOn : List Cond := .code yX1_whoIsOn cX1_whoIsOn 3 (some .int) :: ([.constant RX1 78 (-100009)])
def wsX1_board_r1 : List Cond := [Cond.constant RX1 45 (-100001), Cond.fieldLink RX1 10 "FerryFloor" "now" "LFerryFloor$State;", Cond.fieldLink RX1 71 "FerryFloor$State" "places" "[I", Cond.constant RX1 78 (-100009), Cond.constant RX1 55 (-100002), Cond.fieldLink RX1 79 "FerryFloor$State" "walkers" "I", Cond.constant RX1 82 (-100003), Cond.fieldLink RX1 83 "FerryFloor$State" "weights" "[I", Cond.fieldLink RX1 86 "FerryFloor$State" "bookWeights" "[I", Cond.fieldLink RX1 89 "FerryFloor$State" "bookPlaces" "[I", Cond.methodLink RX1 68 yX1_isWeight, Cond.static yX1_isWeight, Cond.initialized RX1, Cond.code yX1_isWeight cX1_isWeight 1 (some .boolean), Cond.methodLink RX1 41 yX1_isWithin, Cond.static yX1_isWithin, Cond.code yX1_isWithin cX1_isWithin 3 (some .boolean), Cond.methodLink RX1 37 yX1_isCell, Cond.static yX1_isCell, Cond.code yX1_isCell cX1_isCell 1 (some .boolean), Cond.methodLink RX1 74 yX1_whoIsOn, Cond.static yX1_whoIsOn, Cond.code yX1_whoIsOn cX1_whoIsOn 3 (some .int), Cond.methodLink RX1 46 yX1_remember]
def wsX1_board_r2 : List Cond := [Cond.instanceMethod yX1_remember, Cond.selects RX1 yX1_remember yX1_remember, Cond.code yX1_remember cX1_remember 2 none, Cond.fieldLink RX1 24 "FerryFloor" "kept" "I", Cond.fieldLink RX1 20 "FerryFloor" "oldest" "I", Cond.fieldLink RX1 16 "FerryFloor" "history" "[LFerryFloor$State;", Cond.methodLink RX1 138 yX1_slotAfter, Cond.instanceMethod yX1_slotAfter, Cond.selects RX1 yX1_slotAfter yX1_slotAfter, Cond.code yX1_slotAfter cX1_slotAfter 2 (some .int), Cond.methodLink RX1 214 yJ9_floorMod_7cf53, Cond.static yJ9_floorMod_7cf53, Cond.initialized RJ9, Cond.code yJ9_floorMod_7cf53 cJ9_floorMod_7cf53 3 (some .int), Cond.methodLink RX1 141 yX0_copyFrom, Cond.instanceMethod yX0_copyFrom, Cond.selects RX0 yX0_copyFrom yX0_copyFrom, Cond.initialized RX0, Cond.code yX0_copyFrom cX0_copyFrom 2 none, Cond.fieldLink RX0 9 "FerryFloor$State" "minute" "I", Cond.fieldLink RX0 15 "FerryFloor$State" "price" "I", Cond.fieldLink RX0 18 "FerryFloor$State" "walkers" "I", Cond.fieldLink RX0 21 "FerryFloor$State" "zeros" "[I", Cond.fieldLink RX0 25 "FerryFloor$State" "drifts" "[I"]
def wsX1_board_r3 : List Cond := [Cond.fieldLink RX0 28 "FerryFloor$State" "tares" "[I", Cond.fieldLink RX0 31 "FerryFloor$State" "tareMinutes" "[I", Cond.fieldLink RX0 34 "FerryFloor$State" "weights" "[I", Cond.fieldLink RX0 37 "FerryFloor$State" "places" "[I", Cond.fieldLink RX0 40 "FerryFloor$State" "bookWeights" "[I", Cond.fieldLink RX0 43 "FerryFloor$State" "bookPlaces" "[I", Cond.fieldLink RX0 46 "FerryFloor$State" "accusations" "[I", Cond.fieldLink RX0 49 "FerryFloor$State" "billKilograms" "[I", Cond.fieldLink RX0 52 "FerryFloor$State" "billPrices" "[I", Cond.fieldLink RX0 55 "FerryFloor$State" "backKilograms" "[I", Cond.static yX1_copyRow, Cond.code yX1_copyRow cX1_copyRow 2 none, Cond.methodLink RX1 205 Lib.Math.min.name, Cond.static Lib.Math.min.name, Cond.initialized "java/lang/Math", Cond.code Lib.Math.min.name Lib.Math.min.code 2 (some .int), Cond.methodLink RX1 217 arraycopyName, Cond.native arraycopyName, Cond.static arraycopyName, Cond.initialized "java/lang/System"]
def wsX1_board : List Cond := .code yX1_board cX1_board 5 (some .int) :: ((wsX1_board_r1 ++ (wsX1_board_r2 ++ wsX1_board_r3)) ++ wsX10 ++ wsX00)
def wsX1_isWalker : List Cond := .code yX1_isWalker cX1_isWalker 2 (some .boolean) :: ([.fieldLink RX1 10 "FerryFloor" "now" "LFerryFloor$State;", .fieldLink RX1 79 "FerryFloor$State" "walkers" "I"] ++ wsX10 ++ wsX00)
def wsX1_isAboard : List Cond := .code yX1_isAboard cX1_isAboard 2 (some .boolean) :: ([.fieldLink RX1 10 "FerryFloor" "now" "LFerryFloor$State;", .fieldLink RX1 71 "FerryFloor$State" "places" "[I", .constant RX1 78 (-100009), .methodLink RX1 92 yX1_isWalker, .instanceMethod yX1_isWalker, .selects RX1 yX1_isWalker yX1_isWalker, .initialized RX1, .code yX1_isWalker cX1_isWalker 2 (some .boolean), .fieldLink RX1 79 "FerryFloor$State" "walkers" "I"] ++ wsX10 ++ wsX00)
def wsX1_walk_r1 : List Cond := [Cond.constant RX1 45 (-100001), Cond.fieldLink RX1 10 "FerryFloor" "now" "LFerryFloor$State;", Cond.fieldLink RX1 71 "FerryFloor$State" "places" "[I", Cond.constant RX1 78 (-100009), Cond.constant RX1 55 (-100002), Cond.fieldLink RX1 89 "FerryFloor$State" "bookPlaces" "[I", Cond.methodLink RX1 92 yX1_isWalker, Cond.instanceMethod yX1_isWalker, Cond.selects RX1 yX1_isWalker yX1_isWalker, Cond.initialized RX1, Cond.code yX1_isWalker cX1_isWalker 2 (some .boolean), Cond.fieldLink RX1 79 "FerryFloor$State" "walkers" "I", Cond.methodLink RX1 37 yX1_isCell, Cond.static yX1_isCell, Cond.code yX1_isCell cX1_isCell 1 (some .boolean), Cond.methodLink RX1 95 yX1_isAboard, Cond.instanceMethod yX1_isAboard, Cond.selects RX1 yX1_isAboard yX1_isAboard, Cond.code yX1_isAboard cX1_isAboard 2 (some .boolean), Cond.methodLink RX1 74 yX1_whoIsOn, Cond.static yX1_whoIsOn, Cond.code yX1_whoIsOn cX1_whoIsOn 3 (some .int), Cond.methodLink RX1 46 yX1_remember, Cond.instanceMethod yX1_remember]
def wsX1_walk_r2 : List Cond := [Cond.selects RX1 yX1_remember yX1_remember, Cond.code yX1_remember cX1_remember 2 none, Cond.fieldLink RX1 24 "FerryFloor" "kept" "I", Cond.fieldLink RX1 20 "FerryFloor" "oldest" "I", Cond.fieldLink RX1 16 "FerryFloor" "history" "[LFerryFloor$State;", Cond.methodLink RX1 138 yX1_slotAfter, Cond.instanceMethod yX1_slotAfter, Cond.selects RX1 yX1_slotAfter yX1_slotAfter, Cond.code yX1_slotAfter cX1_slotAfter 2 (some .int), Cond.methodLink RX1 214 yJ9_floorMod_7cf53, Cond.static yJ9_floorMod_7cf53, Cond.initialized RJ9, Cond.code yJ9_floorMod_7cf53 cJ9_floorMod_7cf53 3 (some .int), Cond.methodLink RX1 141 yX0_copyFrom, Cond.instanceMethod yX0_copyFrom, Cond.selects RX0 yX0_copyFrom yX0_copyFrom, Cond.initialized RX0, Cond.code yX0_copyFrom cX0_copyFrom 2 none, Cond.fieldLink RX0 9 "FerryFloor$State" "minute" "I", Cond.fieldLink RX0 15 "FerryFloor$State" "price" "I", Cond.fieldLink RX0 18 "FerryFloor$State" "walkers" "I", Cond.fieldLink RX0 21 "FerryFloor$State" "zeros" "[I", Cond.fieldLink RX0 25 "FerryFloor$State" "drifts" "[I", Cond.fieldLink RX0 28 "FerryFloor$State" "tares" "[I"]
def wsX1_walk_r3 : List Cond := [Cond.fieldLink RX0 31 "FerryFloor$State" "tareMinutes" "[I", Cond.fieldLink RX0 34 "FerryFloor$State" "weights" "[I", Cond.fieldLink RX0 37 "FerryFloor$State" "places" "[I", Cond.fieldLink RX0 40 "FerryFloor$State" "bookWeights" "[I", Cond.fieldLink RX0 43 "FerryFloor$State" "bookPlaces" "[I", Cond.fieldLink RX0 46 "FerryFloor$State" "accusations" "[I", Cond.fieldLink RX0 49 "FerryFloor$State" "billKilograms" "[I", Cond.fieldLink RX0 52 "FerryFloor$State" "billPrices" "[I", Cond.fieldLink RX0 55 "FerryFloor$State" "backKilograms" "[I", Cond.static yX1_copyRow, Cond.code yX1_copyRow cX1_copyRow 2 none, Cond.methodLink RX1 205 Lib.Math.min.name, Cond.static Lib.Math.min.name, Cond.initialized "java/lang/Math", Cond.code Lib.Math.min.name Lib.Math.min.code 2 (some .int), Cond.methodLink RX1 217 arraycopyName, Cond.native arraycopyName, Cond.static arraycopyName, Cond.initialized "java/lang/System"]
def wsX1_walk : List Cond := .code yX1_walk cX1_walk 4 (some .int) :: ((wsX1_walk_r1 ++ (wsX1_walk_r2 ++ wsX1_walk_r3)) ++ wsX10 ++ wsX00)
def wsX1_isPair : List Cond := .code yX1_isPair cX1_isPair 3 (some .boolean) :: ([.methodLink RX1 92 yX1_isWalker, .instanceMethod yX1_isWalker, .selects RX1 yX1_isWalker yX1_isWalker, .initialized RX1, .code yX1_isWalker cX1_isWalker 2 (some .boolean), .fieldLink RX1 10 "FerryFloor" "now" "LFerryFloor$State;", .fieldLink RX1 79 "FerryFloor$State" "walkers" "I"] ++ wsX10 ++ wsX00)
def wsX1_exchange : List Cond := .code yX1_exchange cX1_exchange 4 none :: ([])
def wsX1_expectAll_r1 : List Cond := [Cond.fieldLink RX1 10 "FerryFloor" "now" "LFerryFloor$State;", Cond.fieldLink RX1 62 "FerryFloor$State" "tares" "[I", Cond.fieldLink RX1 31 "FerryFloor" "expected" "[I", Cond.fieldLink RX1 86 "FerryFloor$State" "bookWeights" "[I", Cond.methodLink RX1 180 yX1_copyRow, Cond.static yX1_copyRow, Cond.initialized RX1, Cond.code yX1_copyRow cX1_copyRow 2 none, Cond.methodLink RX1 205 Lib.Math.min.name, Cond.static Lib.Math.min.name, Cond.initialized "java/lang/Math", Cond.code Lib.Math.min.name Lib.Math.min.code 2 (some .int), Cond.methodLink RX1 217 arraycopyName, Cond.native arraycopyName, Cond.static arraycopyName, Cond.initialized "java/lang/System", Cond.methodLink RX1 201 yX1_addAllShares, Cond.static yX1_addAllShares, Cond.code yX1_addAllShares cX1_addAllShares 4 none, Cond.methodLink RX1 198 yX1_addShares, Cond.static yX1_addShares, Cond.code yX1_addShares cX1_addShares 7 none, Cond.methodLink RX1 37 yX1_isCell, Cond.static yX1_isCell]
def wsX1_expectAll_r2 : List Cond := [Cond.code yX1_isCell cX1_isCell 1 (some .boolean), Cond.methodLink RX1 195 yX1_nearCell, Cond.static yX1_nearCell, Cond.code yX1_nearCell cX1_nearCell 3 (some .int), Cond.constant RX1 78 (-100009)]
def wsX1_expectAll : List Cond := .code yX1_expectAll cX1_expectAll 2 none :: ((wsX1_expectAll_r1 ++ wsX1_expectAll_r2) ++ wsX10 ++ wsX00)
def wsX1_errorWith_r1 : List Cond := [Cond.fieldLink RX1 27 "FerryFloor" "readings" "[I", Cond.fieldLink RX1 31 "FerryFloor" "expected" "[I", Cond.methodLink RX1 208 Lib.Math.abs.name, Cond.static Lib.Math.abs.name, Cond.initialized "java/lang/Math", Cond.code Lib.Math.abs.name Lib.Math.abs.code 1 (some .int), Cond.methodLink RX1 59 yX1_weighAll, Cond.instanceMethod yX1_weighAll, Cond.selects RX1 yX1_weighAll yX1_weighAll, Cond.initialized RX1, Cond.code yX1_weighAll cX1_weighAll 1 none, Cond.fieldLink RX1 10 "FerryFloor" "now" "LFerryFloor$State;", Cond.fieldLink RX1 56 "FerryFloor$State" "zeros" "[I", Cond.fieldLink RX1 83 "FerryFloor$State" "weights" "[I", Cond.fieldLink RX1 71 "FerryFloor$State" "places" "[I", Cond.methodLink RX1 180 yX1_copyRow, Cond.static yX1_copyRow, Cond.code yX1_copyRow cX1_copyRow 2 none, Cond.methodLink RX1 205 Lib.Math.min.name, Cond.static Lib.Math.min.name, Cond.code Lib.Math.min.name Lib.Math.min.code 2 (some .int), Cond.methodLink RX1 217 arraycopyName, Cond.native arraycopyName, Cond.static arraycopyName]
def wsX1_errorWith_r2 : List Cond := [Cond.initialized "java/lang/System", Cond.methodLink RX1 201 yX1_addAllShares, Cond.static yX1_addAllShares, Cond.code yX1_addAllShares cX1_addAllShares 4 none, Cond.methodLink RX1 198 yX1_addShares, Cond.static yX1_addShares, Cond.code yX1_addShares cX1_addShares 7 none, Cond.methodLink RX1 37 yX1_isCell, Cond.static yX1_isCell, Cond.code yX1_isCell cX1_isCell 1 (some .boolean), Cond.methodLink RX1 195 yX1_nearCell, Cond.static yX1_nearCell, Cond.code yX1_nearCell cX1_nearCell 3 (some .int), Cond.constant RX1 78 (-100009), Cond.methodLink RX1 167 yX1_expectAll, Cond.instanceMethod yX1_expectAll, Cond.selects RX1 yX1_expectAll yX1_expectAll, Cond.code yX1_expectAll cX1_expectAll 2 none, Cond.fieldLink RX1 62 "FerryFloor$State" "tares" "[I", Cond.fieldLink RX1 86 "FerryFloor$State" "bookWeights" "[I"]
def wsX1_errorWith : List Cond := .code yX1_errorWith cX1_errorWith 4 (some .int) :: ((wsX1_errorWith_r1 ++ wsX1_errorWith_r2) ++ wsX10 ++ wsX00)
def wsX1_swap_r1 : List Cond := [Cond.constant RX1 45 (-100001), Cond.constant RX1 55 (-100002), Cond.fieldLink RX1 10 "FerryFloor" "now" "LFerryFloor$State;", Cond.fieldLink RX1 71 "FerryFloor$State" "places" "[I", Cond.fieldLink RX1 89 "FerryFloor$State" "bookPlaces" "[I", Cond.methodLink RX1 98 yX1_isPair, Cond.instanceMethod yX1_isPair, Cond.selects RX1 yX1_isPair yX1_isPair, Cond.initialized RX1, Cond.code yX1_isPair cX1_isPair 3 (some .boolean), Cond.methodLink RX1 92 yX1_isWalker, Cond.instanceMethod yX1_isWalker, Cond.selects RX1 yX1_isWalker yX1_isWalker, Cond.code yX1_isWalker cX1_isWalker 2 (some .boolean), Cond.fieldLink RX1 79 "FerryFloor$State" "walkers" "I", Cond.methodLink RX1 95 yX1_isAboard, Cond.instanceMethod yX1_isAboard, Cond.selects RX1 yX1_isAboard yX1_isAboard, Cond.code yX1_isAboard cX1_isAboard 2 (some .boolean), Cond.constant RX1 78 (-100009), Cond.methodLink RX1 46 yX1_remember, Cond.instanceMethod yX1_remember, Cond.selects RX1 yX1_remember yX1_remember, Cond.code yX1_remember cX1_remember 2 none]
def wsX1_swap_r2 : List Cond := [Cond.fieldLink RX1 24 "FerryFloor" "kept" "I", Cond.fieldLink RX1 20 "FerryFloor" "oldest" "I", Cond.fieldLink RX1 16 "FerryFloor" "history" "[LFerryFloor$State;", Cond.methodLink RX1 138 yX1_slotAfter, Cond.instanceMethod yX1_slotAfter, Cond.selects RX1 yX1_slotAfter yX1_slotAfter, Cond.code yX1_slotAfter cX1_slotAfter 2 (some .int), Cond.methodLink RX1 214 yJ9_floorMod_7cf53, Cond.static yJ9_floorMod_7cf53, Cond.initialized RJ9, Cond.code yJ9_floorMod_7cf53 cJ9_floorMod_7cf53 3 (some .int), Cond.methodLink RX1 141 yX0_copyFrom, Cond.instanceMethod yX0_copyFrom, Cond.selects RX0 yX0_copyFrom yX0_copyFrom, Cond.initialized RX0, Cond.code yX0_copyFrom cX0_copyFrom 2 none, Cond.fieldLink RX0 9 "FerryFloor$State" "minute" "I", Cond.fieldLink RX0 15 "FerryFloor$State" "price" "I", Cond.fieldLink RX0 18 "FerryFloor$State" "walkers" "I", Cond.fieldLink RX0 21 "FerryFloor$State" "zeros" "[I", Cond.fieldLink RX0 25 "FerryFloor$State" "drifts" "[I", Cond.fieldLink RX0 28 "FerryFloor$State" "tares" "[I", Cond.fieldLink RX0 31 "FerryFloor$State" "tareMinutes" "[I", Cond.fieldLink RX0 34 "FerryFloor$State" "weights" "[I"]
def wsX1_swap_r3 : List Cond := [Cond.fieldLink RX0 37 "FerryFloor$State" "places" "[I", Cond.fieldLink RX0 40 "FerryFloor$State" "bookWeights" "[I", Cond.fieldLink RX0 43 "FerryFloor$State" "bookPlaces" "[I", Cond.fieldLink RX0 46 "FerryFloor$State" "accusations" "[I", Cond.fieldLink RX0 49 "FerryFloor$State" "billKilograms" "[I", Cond.fieldLink RX0 52 "FerryFloor$State" "billPrices" "[I", Cond.fieldLink RX0 55 "FerryFloor$State" "backKilograms" "[I", Cond.static yX1_copyRow, Cond.code yX1_copyRow cX1_copyRow 2 none, Cond.methodLink RX1 205 Lib.Math.min.name, Cond.static Lib.Math.min.name, Cond.initialized "java/lang/Math", Cond.code Lib.Math.min.name Lib.Math.min.code 2 (some .int), Cond.methodLink RX1 217 arraycopyName, Cond.native arraycopyName, Cond.static arraycopyName, Cond.initialized "java/lang/System", Cond.methodLink RX1 102 yX1_exchange, Cond.static yX1_exchange, Cond.code yX1_exchange cX1_exchange 4 none, Cond.methodLink RX1 106 yX1_errorWith, Cond.instanceMethod yX1_errorWith, Cond.selects RX1 yX1_errorWith yX1_errorWith, Cond.code yX1_errorWith cX1_errorWith 4 (some .int)]
def wsX1_swap_r4 : List Cond := [Cond.fieldLink RX1 27 "FerryFloor" "readings" "[I", Cond.fieldLink RX1 31 "FerryFloor" "expected" "[I", Cond.methodLink RX1 208 Lib.Math.abs.name, Cond.static Lib.Math.abs.name, Cond.code Lib.Math.abs.name Lib.Math.abs.code 1 (some .int), Cond.methodLink RX1 59 yX1_weighAll, Cond.instanceMethod yX1_weighAll, Cond.selects RX1 yX1_weighAll yX1_weighAll, Cond.code yX1_weighAll cX1_weighAll 1 none, Cond.fieldLink RX1 56 "FerryFloor$State" "zeros" "[I", Cond.fieldLink RX1 83 "FerryFloor$State" "weights" "[I", Cond.methodLink RX1 180 yX1_copyRow, Cond.methodLink RX1 201 yX1_addAllShares, Cond.static yX1_addAllShares, Cond.code yX1_addAllShares cX1_addAllShares 4 none, Cond.methodLink RX1 198 yX1_addShares, Cond.static yX1_addShares, Cond.code yX1_addShares cX1_addShares 7 none, Cond.methodLink RX1 37 yX1_isCell, Cond.static yX1_isCell, Cond.code yX1_isCell cX1_isCell 1 (some .boolean), Cond.methodLink RX1 195 yX1_nearCell, Cond.static yX1_nearCell, Cond.code yX1_nearCell cX1_nearCell 3 (some .int)]
def wsX1_swap_r5 : List Cond := [Cond.methodLink RX1 167 yX1_expectAll, Cond.instanceMethod yX1_expectAll, Cond.selects RX1 yX1_expectAll yX1_expectAll, Cond.code yX1_expectAll cX1_expectAll 2 none, Cond.fieldLink RX1 62 "FerryFloor$State" "tares" "[I", Cond.fieldLink RX1 86 "FerryFloor$State" "bookWeights" "[I"]
def wsX1_swap : List Cond := .code yX1_swap cX1_swap 3 (some .int) :: ((wsX1_swap_r1 ++ (wsX1_swap_r2 ++ (wsX1_swap_r3 ++ (wsX1_swap_r4 ++ wsX1_swap_r5)))) ++ wsX10 ++ wsX00)
def wsX1_leave_r1 : List Cond := [Cond.constant RX1 45 (-100001), Cond.constant RX1 55 (-100002), Cond.fieldLink RX1 10 "FerryFloor" "now" "LFerryFloor$State;", Cond.fieldLink RX1 71 "FerryFloor$State" "places" "[I", Cond.fieldLink RX1 89 "FerryFloor$State" "bookPlaces" "[I", Cond.constant RX1 78 (-100009), Cond.methodLink RX1 92 yX1_isWalker, Cond.instanceMethod yX1_isWalker, Cond.selects RX1 yX1_isWalker yX1_isWalker, Cond.initialized RX1, Cond.code yX1_isWalker cX1_isWalker 2 (some .boolean), Cond.fieldLink RX1 79 "FerryFloor$State" "walkers" "I", Cond.methodLink RX1 95 yX1_isAboard, Cond.instanceMethod yX1_isAboard, Cond.selects RX1 yX1_isAboard yX1_isAboard, Cond.code yX1_isAboard cX1_isAboard 2 (some .boolean), Cond.methodLink RX1 46 yX1_remember, Cond.instanceMethod yX1_remember, Cond.selects RX1 yX1_remember yX1_remember, Cond.code yX1_remember cX1_remember 2 none, Cond.fieldLink RX1 24 "FerryFloor" "kept" "I", Cond.fieldLink RX1 20 "FerryFloor" "oldest" "I", Cond.fieldLink RX1 16 "FerryFloor" "history" "[LFerryFloor$State;", Cond.methodLink RX1 138 yX1_slotAfter]
def wsX1_leave_r2 : List Cond := [Cond.instanceMethod yX1_slotAfter, Cond.selects RX1 yX1_slotAfter yX1_slotAfter, Cond.code yX1_slotAfter cX1_slotAfter 2 (some .int), Cond.methodLink RX1 214 yJ9_floorMod_7cf53, Cond.static yJ9_floorMod_7cf53, Cond.initialized RJ9, Cond.code yJ9_floorMod_7cf53 cJ9_floorMod_7cf53 3 (some .int), Cond.methodLink RX1 141 yX0_copyFrom, Cond.instanceMethod yX0_copyFrom, Cond.selects RX0 yX0_copyFrom yX0_copyFrom, Cond.initialized RX0, Cond.code yX0_copyFrom cX0_copyFrom 2 none, Cond.fieldLink RX0 9 "FerryFloor$State" "minute" "I", Cond.fieldLink RX0 15 "FerryFloor$State" "price" "I", Cond.fieldLink RX0 18 "FerryFloor$State" "walkers" "I", Cond.fieldLink RX0 21 "FerryFloor$State" "zeros" "[I", Cond.fieldLink RX0 25 "FerryFloor$State" "drifts" "[I", Cond.fieldLink RX0 28 "FerryFloor$State" "tares" "[I", Cond.fieldLink RX0 31 "FerryFloor$State" "tareMinutes" "[I", Cond.fieldLink RX0 34 "FerryFloor$State" "weights" "[I", Cond.fieldLink RX0 37 "FerryFloor$State" "places" "[I", Cond.fieldLink RX0 40 "FerryFloor$State" "bookWeights" "[I", Cond.fieldLink RX0 43 "FerryFloor$State" "bookPlaces" "[I", Cond.fieldLink RX0 46 "FerryFloor$State" "accusations" "[I"]
def wsX1_leave_r3 : List Cond := [Cond.fieldLink RX0 49 "FerryFloor$State" "billKilograms" "[I", Cond.fieldLink RX0 52 "FerryFloor$State" "billPrices" "[I", Cond.fieldLink RX0 55 "FerryFloor$State" "backKilograms" "[I", Cond.static yX1_copyRow, Cond.code yX1_copyRow cX1_copyRow 2 none, Cond.methodLink RX1 205 Lib.Math.min.name, Cond.static Lib.Math.min.name, Cond.initialized "java/lang/Math", Cond.code Lib.Math.min.name Lib.Math.min.code 2 (some .int), Cond.methodLink RX1 217 arraycopyName, Cond.native arraycopyName, Cond.static arraycopyName, Cond.initialized "java/lang/System", Cond.methodLink RX1 74 yX1_whoIsOn, Cond.static yX1_whoIsOn, Cond.code yX1_whoIsOn cX1_whoIsOn 3 (some .int)]
def wsX1_leave : List Cond := .code yX1_leave cX1_leave 5 (some .int) :: ((wsX1_leave_r1 ++ (wsX1_leave_r2 ++ wsX1_leave_r3)) ++ wsX10 ++ wsX00)
def wsX1_setPrice_r1 : List Cond := [Cond.constant RX1 45 (-100001), Cond.fieldLink RX1 10 "FerryFloor" "now" "LFerryFloor$State;", Cond.fieldLink RX1 110 "FerryFloor$State" "price" "I", Cond.methodLink RX1 41 yX1_isWithin, Cond.static yX1_isWithin, Cond.initialized RX1, Cond.code yX1_isWithin cX1_isWithin 3 (some .boolean), Cond.methodLink RX1 46 yX1_remember, Cond.instanceMethod yX1_remember, Cond.selects RX1 yX1_remember yX1_remember, Cond.code yX1_remember cX1_remember 2 none, Cond.fieldLink RX1 24 "FerryFloor" "kept" "I", Cond.fieldLink RX1 20 "FerryFloor" "oldest" "I", Cond.fieldLink RX1 16 "FerryFloor" "history" "[LFerryFloor$State;", Cond.methodLink RX1 138 yX1_slotAfter, Cond.instanceMethod yX1_slotAfter, Cond.selects RX1 yX1_slotAfter yX1_slotAfter, Cond.code yX1_slotAfter cX1_slotAfter 2 (some .int), Cond.methodLink RX1 214 yJ9_floorMod_7cf53, Cond.static yJ9_floorMod_7cf53, Cond.initialized RJ9, Cond.code yJ9_floorMod_7cf53 cJ9_floorMod_7cf53 3 (some .int), Cond.methodLink RX1 141 yX0_copyFrom, Cond.instanceMethod yX0_copyFrom]
def wsX1_setPrice_r2 : List Cond := [Cond.selects RX0 yX0_copyFrom yX0_copyFrom, Cond.initialized RX0, Cond.code yX0_copyFrom cX0_copyFrom 2 none, Cond.fieldLink RX0 9 "FerryFloor$State" "minute" "I", Cond.fieldLink RX0 15 "FerryFloor$State" "price" "I", Cond.fieldLink RX0 18 "FerryFloor$State" "walkers" "I", Cond.fieldLink RX0 21 "FerryFloor$State" "zeros" "[I", Cond.fieldLink RX0 25 "FerryFloor$State" "drifts" "[I", Cond.fieldLink RX0 28 "FerryFloor$State" "tares" "[I", Cond.fieldLink RX0 31 "FerryFloor$State" "tareMinutes" "[I", Cond.fieldLink RX0 34 "FerryFloor$State" "weights" "[I", Cond.fieldLink RX0 37 "FerryFloor$State" "places" "[I", Cond.fieldLink RX0 40 "FerryFloor$State" "bookWeights" "[I", Cond.fieldLink RX0 43 "FerryFloor$State" "bookPlaces" "[I", Cond.fieldLink RX0 46 "FerryFloor$State" "accusations" "[I", Cond.fieldLink RX0 49 "FerryFloor$State" "billKilograms" "[I", Cond.fieldLink RX0 52 "FerryFloor$State" "billPrices" "[I", Cond.fieldLink RX0 55 "FerryFloor$State" "backKilograms" "[I", Cond.static yX1_copyRow, Cond.code yX1_copyRow cX1_copyRow 2 none, Cond.methodLink RX1 205 Lib.Math.min.name, Cond.static Lib.Math.min.name, Cond.initialized "java/lang/Math", Cond.code Lib.Math.min.name Lib.Math.min.code 2 (some .int)]
def wsX1_setPrice_r3 : List Cond := [Cond.methodLink RX1 217 arraycopyName, Cond.native arraycopyName, Cond.static arraycopyName, Cond.initialized "java/lang/System"]
def wsX1_setPrice : List Cond := .code yX1_setPrice cX1_setPrice 3 (some .int) :: ((wsX1_setPrice_r1 ++ (wsX1_setPrice_r2 ++ wsX1_setPrice_r3)) ++ wsX10 ++ wsX00)
def wsX1_accuse_r1 : List Cond := [Cond.constant RX1 45 (-100001), Cond.constant RX1 55 (-100002), Cond.fieldLink RX1 10 "FerryFloor" "now" "LFerryFloor$State;", Cond.fieldLink RX1 89 "FerryFloor$State" "bookPlaces" "[I", Cond.fieldLink RX1 113 "FerryFloor$State" "accusations" "[I", Cond.methodLink RX1 98 yX1_isPair, Cond.instanceMethod yX1_isPair, Cond.selects RX1 yX1_isPair yX1_isPair, Cond.initialized RX1, Cond.code yX1_isPair cX1_isPair 3 (some .boolean), Cond.methodLink RX1 92 yX1_isWalker, Cond.instanceMethod yX1_isWalker, Cond.selects RX1 yX1_isWalker yX1_isWalker, Cond.code yX1_isWalker cX1_isWalker 2 (some .boolean), Cond.fieldLink RX1 79 "FerryFloor$State" "walkers" "I", Cond.methodLink RX1 95 yX1_isAboard, Cond.instanceMethod yX1_isAboard, Cond.selects RX1 yX1_isAboard yX1_isAboard, Cond.code yX1_isAboard cX1_isAboard 2 (some .boolean), Cond.fieldLink RX1 71 "FerryFloor$State" "places" "[I", Cond.constant RX1 78 (-100009), Cond.methodLink RX1 46 yX1_remember, Cond.instanceMethod yX1_remember, Cond.selects RX1 yX1_remember yX1_remember]
def wsX1_accuse_r2 : List Cond := [Cond.code yX1_remember cX1_remember 2 none, Cond.fieldLink RX1 24 "FerryFloor" "kept" "I", Cond.fieldLink RX1 20 "FerryFloor" "oldest" "I", Cond.fieldLink RX1 16 "FerryFloor" "history" "[LFerryFloor$State;", Cond.methodLink RX1 138 yX1_slotAfter, Cond.instanceMethod yX1_slotAfter, Cond.selects RX1 yX1_slotAfter yX1_slotAfter, Cond.code yX1_slotAfter cX1_slotAfter 2 (some .int), Cond.methodLink RX1 214 yJ9_floorMod_7cf53, Cond.static yJ9_floorMod_7cf53, Cond.initialized RJ9, Cond.code yJ9_floorMod_7cf53 cJ9_floorMod_7cf53 3 (some .int), Cond.methodLink RX1 141 yX0_copyFrom, Cond.instanceMethod yX0_copyFrom, Cond.selects RX0 yX0_copyFrom yX0_copyFrom, Cond.initialized RX0, Cond.code yX0_copyFrom cX0_copyFrom 2 none, Cond.fieldLink RX0 9 "FerryFloor$State" "minute" "I", Cond.fieldLink RX0 15 "FerryFloor$State" "price" "I", Cond.fieldLink RX0 18 "FerryFloor$State" "walkers" "I", Cond.fieldLink RX0 21 "FerryFloor$State" "zeros" "[I", Cond.fieldLink RX0 25 "FerryFloor$State" "drifts" "[I", Cond.fieldLink RX0 28 "FerryFloor$State" "tares" "[I", Cond.fieldLink RX0 31 "FerryFloor$State" "tareMinutes" "[I"]
def wsX1_accuse_r3 : List Cond := [Cond.fieldLink RX0 34 "FerryFloor$State" "weights" "[I", Cond.fieldLink RX0 37 "FerryFloor$State" "places" "[I", Cond.fieldLink RX0 40 "FerryFloor$State" "bookWeights" "[I", Cond.fieldLink RX0 43 "FerryFloor$State" "bookPlaces" "[I", Cond.fieldLink RX0 46 "FerryFloor$State" "accusations" "[I", Cond.fieldLink RX0 49 "FerryFloor$State" "billKilograms" "[I", Cond.fieldLink RX0 52 "FerryFloor$State" "billPrices" "[I", Cond.fieldLink RX0 55 "FerryFloor$State" "backKilograms" "[I", Cond.static yX1_copyRow, Cond.code yX1_copyRow cX1_copyRow 2 none, Cond.methodLink RX1 205 Lib.Math.min.name, Cond.static Lib.Math.min.name, Cond.initialized "java/lang/Math", Cond.code Lib.Math.min.name Lib.Math.min.code 2 (some .int), Cond.methodLink RX1 217 arraycopyName, Cond.native arraycopyName, Cond.static arraycopyName, Cond.initialized "java/lang/System", Cond.methodLink RX1 102 yX1_exchange, Cond.static yX1_exchange, Cond.code yX1_exchange cX1_exchange 4 none, Cond.methodLink RX1 106 yX1_errorWith, Cond.instanceMethod yX1_errorWith, Cond.selects RX1 yX1_errorWith yX1_errorWith]
def wsX1_accuse_r4 : List Cond := [Cond.code yX1_errorWith cX1_errorWith 4 (some .int), Cond.fieldLink RX1 27 "FerryFloor" "readings" "[I", Cond.fieldLink RX1 31 "FerryFloor" "expected" "[I", Cond.methodLink RX1 208 Lib.Math.abs.name, Cond.static Lib.Math.abs.name, Cond.code Lib.Math.abs.name Lib.Math.abs.code 1 (some .int), Cond.methodLink RX1 59 yX1_weighAll, Cond.instanceMethod yX1_weighAll, Cond.selects RX1 yX1_weighAll yX1_weighAll, Cond.code yX1_weighAll cX1_weighAll 1 none, Cond.fieldLink RX1 56 "FerryFloor$State" "zeros" "[I", Cond.fieldLink RX1 83 "FerryFloor$State" "weights" "[I", Cond.methodLink RX1 180 yX1_copyRow, Cond.methodLink RX1 201 yX1_addAllShares, Cond.static yX1_addAllShares, Cond.code yX1_addAllShares cX1_addAllShares 4 none, Cond.methodLink RX1 198 yX1_addShares, Cond.static yX1_addShares, Cond.code yX1_addShares cX1_addShares 7 none, Cond.methodLink RX1 37 yX1_isCell, Cond.static yX1_isCell, Cond.code yX1_isCell cX1_isCell 1 (some .boolean), Cond.methodLink RX1 195 yX1_nearCell, Cond.static yX1_nearCell]
def wsX1_accuse_r5 : List Cond := [Cond.code yX1_nearCell cX1_nearCell 3 (some .int), Cond.methodLink RX1 167 yX1_expectAll, Cond.instanceMethod yX1_expectAll, Cond.selects RX1 yX1_expectAll yX1_expectAll, Cond.code yX1_expectAll cX1_expectAll 2 none, Cond.fieldLink RX1 62 "FerryFloor$State" "tares" "[I", Cond.fieldLink RX1 86 "FerryFloor$State" "bookWeights" "[I"]
def wsX1_accuse : List Cond := .code yX1_accuse cX1_accuse 3 (some .int) :: ((wsX1_accuse_r1 ++ (wsX1_accuse_r2 ++ (wsX1_accuse_r3 ++ (wsX1_accuse_r4 ++ wsX1_accuse_r5)))) ++ wsX10 ++ wsX00)
def wsX1_estimateFor_r1 : List Cond := [Cond.fieldLink RX1 10 "FerryFloor" "now" "LFerryFloor$State;", Cond.fieldLink RX1 89 "FerryFloor$State" "bookPlaces" "[I", Cond.fieldLink RX1 86 "FerryFloor$State" "bookWeights" "[I", Cond.fieldLink RX1 27 "FerryFloor" "readings" "[I", Cond.fieldLink RX1 31 "FerryFloor" "expected" "[I", Cond.methodLink RX1 129 Lib.Math.max.name, Cond.static Lib.Math.max.name, Cond.initialized "java/lang/Math", Cond.code Lib.Math.max.name Lib.Math.max.code 2 (some .int), Cond.methodLink RX1 95 yX1_isAboard, Cond.instanceMethod yX1_isAboard, Cond.selects RX1 yX1_isAboard yX1_isAboard, Cond.initialized RX1, Cond.code yX1_isAboard cX1_isAboard 2 (some .boolean), Cond.fieldLink RX1 71 "FerryFloor$State" "places" "[I", Cond.constant RX1 78 (-100009), Cond.methodLink RX1 92 yX1_isWalker, Cond.instanceMethod yX1_isWalker, Cond.selects RX1 yX1_isWalker yX1_isWalker, Cond.code yX1_isWalker cX1_isWalker 2 (some .boolean), Cond.fieldLink RX1 79 "FerryFloor$State" "walkers" "I", Cond.methodLink RX1 59 yX1_weighAll, Cond.instanceMethod yX1_weighAll, Cond.selects RX1 yX1_weighAll yX1_weighAll]
def wsX1_estimateFor_r2 : List Cond := [Cond.code yX1_weighAll cX1_weighAll 1 none, Cond.fieldLink RX1 56 "FerryFloor$State" "zeros" "[I", Cond.fieldLink RX1 83 "FerryFloor$State" "weights" "[I", Cond.methodLink RX1 180 yX1_copyRow, Cond.static yX1_copyRow, Cond.code yX1_copyRow cX1_copyRow 2 none, Cond.methodLink RX1 205 Lib.Math.min.name, Cond.static Lib.Math.min.name, Cond.code Lib.Math.min.name Lib.Math.min.code 2 (some .int), Cond.methodLink RX1 217 arraycopyName, Cond.native arraycopyName, Cond.static arraycopyName, Cond.initialized "java/lang/System", Cond.methodLink RX1 201 yX1_addAllShares, Cond.static yX1_addAllShares, Cond.code yX1_addAllShares cX1_addAllShares 4 none, Cond.methodLink RX1 198 yX1_addShares, Cond.static yX1_addShares, Cond.code yX1_addShares cX1_addShares 7 none, Cond.methodLink RX1 37 yX1_isCell, Cond.static yX1_isCell, Cond.code yX1_isCell cX1_isCell 1 (some .boolean), Cond.methodLink RX1 195 yX1_nearCell, Cond.static yX1_nearCell]
def wsX1_estimateFor_r3 : List Cond := [Cond.code yX1_nearCell cX1_nearCell 3 (some .int), Cond.methodLink RX1 167 yX1_expectAll, Cond.instanceMethod yX1_expectAll, Cond.selects RX1 yX1_expectAll yX1_expectAll, Cond.code yX1_expectAll cX1_expectAll 2 none, Cond.fieldLink RX1 62 "FerryFloor$State" "tares" "[I"]
def wsX1_estimateFor : List Cond := .code yX1_estimateFor cX1_estimateFor 6 (some .int) :: ((wsX1_estimateFor_r1 ++ (wsX1_estimateFor_r2 ++ wsX1_estimateFor_r3)) ++ wsX10 ++ wsX00)
def wsX1_earliestTare : List Cond := .code yX1_earliestTare cX1_earliestTare 5 (some .int) :: ([.fieldLink RX1 10 "FerryFloor" "now" "LFerryFloor$State;", .fieldLink RX1 52 "FerryFloor$State" "minute" "I", .fieldLink RX1 65 "FerryFloor$State" "tareMinutes" "[I", .methodLink RX1 205 Lib.Math.min.name, .static Lib.Math.min.name, .initialized "java/lang/Math", .code Lib.Math.min.name Lib.Math.min.code 2 (some .int), .methodLink RX1 195 yX1_nearCell, .static yX1_nearCell, .initialized RX1, .code yX1_nearCell cX1_nearCell 3 (some .int), .constant RX1 78 (-100009), .methodLink RX1 37 yX1_isCell, .static yX1_isCell, .code yX1_isCell cX1_isCell 1 (some .boolean)] ++ wsX10 ++ wsX00)
def wsX1_certaintyFor_r1 : List Cond := [Cond.fieldLink RX1 10 "FerryFloor" "now" "LFerryFloor$State;", Cond.fieldLink RX1 52 "FerryFloor$State" "minute" "I", Cond.fieldLink RX1 89 "FerryFloor$State" "bookPlaces" "[I", Cond.fieldLink RX1 113 "FerryFloor$State" "accusations" "[I", Cond.methodLink RX1 129 Lib.Math.max.name, Cond.static Lib.Math.max.name, Cond.initialized "java/lang/Math", Cond.code Lib.Math.max.name Lib.Math.max.code 2 (some .int), Cond.methodLink RX1 95 yX1_isAboard, Cond.instanceMethod yX1_isAboard, Cond.selects RX1 yX1_isAboard yX1_isAboard, Cond.initialized RX1, Cond.code yX1_isAboard cX1_isAboard 2 (some .boolean), Cond.fieldLink RX1 71 "FerryFloor$State" "places" "[I", Cond.constant RX1 78 (-100009), Cond.methodLink RX1 92 yX1_isWalker, Cond.instanceMethod yX1_isWalker, Cond.selects RX1 yX1_isWalker yX1_isWalker, Cond.code yX1_isWalker cX1_isWalker 2 (some .boolean), Cond.fieldLink RX1 79 "FerryFloor$State" "walkers" "I", Cond.methodLink RX1 192 yX1_earliestTare, Cond.instanceMethod yX1_earliestTare, Cond.selects RX1 yX1_earliestTare yX1_earliestTare, Cond.code yX1_earliestTare cX1_earliestTare 5 (some .int)]
def wsX1_certaintyFor_r2 : List Cond := [Cond.fieldLink RX1 65 "FerryFloor$State" "tareMinutes" "[I", Cond.methodLink RX1 205 Lib.Math.min.name, Cond.static Lib.Math.min.name, Cond.code Lib.Math.min.name Lib.Math.min.code 2 (some .int), Cond.methodLink RX1 195 yX1_nearCell, Cond.static yX1_nearCell, Cond.code yX1_nearCell cX1_nearCell 3 (some .int), Cond.methodLink RX1 37 yX1_isCell, Cond.static yX1_isCell, Cond.code yX1_isCell cX1_isCell 1 (some .boolean)]
def wsX1_certaintyFor : List Cond := .code yX1_certaintyFor cX1_certaintyFor 4 (some .int) :: ((wsX1_certaintyFor_r1 ++ wsX1_certaintyFor_r2) ++ wsX10 ++ wsX00)
def wsX1_sumOf : List Cond := .code yX1_sumOf cX1_sumOf 3 (some .int) :: ([])
def wsX1_sumOfReadings_r1 : List Cond := [Cond.fieldLink RX1 27 "FerryFloor" "readings" "[I", Cond.methodLink RX1 59 yX1_weighAll, Cond.instanceMethod yX1_weighAll, Cond.selects RX1 yX1_weighAll yX1_weighAll, Cond.initialized RX1, Cond.code yX1_weighAll cX1_weighAll 1 none, Cond.fieldLink RX1 10 "FerryFloor" "now" "LFerryFloor$State;", Cond.fieldLink RX1 56 "FerryFloor$State" "zeros" "[I", Cond.fieldLink RX1 83 "FerryFloor$State" "weights" "[I", Cond.fieldLink RX1 71 "FerryFloor$State" "places" "[I", Cond.methodLink RX1 180 yX1_copyRow, Cond.static yX1_copyRow, Cond.code yX1_copyRow cX1_copyRow 2 none, Cond.methodLink RX1 205 Lib.Math.min.name, Cond.static Lib.Math.min.name, Cond.initialized "java/lang/Math", Cond.code Lib.Math.min.name Lib.Math.min.code 2 (some .int), Cond.methodLink RX1 217 arraycopyName, Cond.native arraycopyName, Cond.static arraycopyName, Cond.initialized "java/lang/System", Cond.methodLink RX1 201 yX1_addAllShares, Cond.static yX1_addAllShares, Cond.code yX1_addAllShares cX1_addAllShares 4 none]
def wsX1_sumOfReadings_r2 : List Cond := [Cond.methodLink RX1 198 yX1_addShares, Cond.static yX1_addShares, Cond.code yX1_addShares cX1_addShares 7 none, Cond.methodLink RX1 37 yX1_isCell, Cond.static yX1_isCell, Cond.code yX1_isCell cX1_isCell 1 (some .boolean), Cond.methodLink RX1 195 yX1_nearCell, Cond.static yX1_nearCell, Cond.code yX1_nearCell cX1_nearCell 3 (some .int), Cond.constant RX1 78 (-100009), Cond.methodLink RX1 152 yX1_sumOf, Cond.static yX1_sumOf, Cond.code yX1_sumOf cX1_sumOf 3 (some .int)]
def wsX1_sumOfReadings : List Cond := .code yX1_sumOfReadings cX1_sumOfReadings 1 (some .int) :: ((wsX1_sumOfReadings_r1 ++ wsX1_sumOfReadings_r2) ++ wsX10 ++ wsX00)
def wsX1_orZero : List Cond := .code yX1_orZero cX1_orZero 1 (some .int) :: ([.constant RX1 78 (-100009)])
def wsX1_kilogramsBilled : List Cond := .code yX1_kilogramsBilled cX1_kilogramsBilled 3 (some .int) :: ([.fieldLink RX1 10 "FerryFloor" "now" "LFerryFloor$State;", .fieldLink RX1 116 "FerryFloor$State" "billKilograms" "[I", .fieldLink RX1 126 "FerryFloor$State" "backKilograms" "[I", .methodLink RX1 211 yX1_orZero, .static yX1_orZero, .initialized RX1, .code yX1_orZero cX1_orZero 1 (some .int), .constant RX1 78 (-100009)] ++ wsX10 ++ wsX00)
def wsX1_kilogramsToBill_r1 : List Cond := [Cond.fieldLink RX1 10 "FerryFloor" "now" "LFerryFloor$State;", Cond.fieldLink RX1 62 "FerryFloor$State" "tares" "[I", Cond.methodLink RX1 205 Lib.Math.min.name, Cond.static Lib.Math.min.name, Cond.initialized "java/lang/Math", Cond.code Lib.Math.min.name Lib.Math.min.code 2 (some .int), Cond.methodLink RX1 129 Lib.Math.max.name, Cond.static Lib.Math.max.name, Cond.code Lib.Math.max.name Lib.Math.max.code 2 (some .int), Cond.methodLink RX1 174 yX1_estimateFor, Cond.instanceMethod yX1_estimateFor, Cond.selects RX1 yX1_estimateFor yX1_estimateFor, Cond.initialized RX1, Cond.code yX1_estimateFor cX1_estimateFor 6 (some .int), Cond.fieldLink RX1 89 "FerryFloor$State" "bookPlaces" "[I", Cond.fieldLink RX1 86 "FerryFloor$State" "bookWeights" "[I", Cond.fieldLink RX1 27 "FerryFloor" "readings" "[I", Cond.fieldLink RX1 31 "FerryFloor" "expected" "[I", Cond.methodLink RX1 95 yX1_isAboard, Cond.instanceMethod yX1_isAboard, Cond.selects RX1 yX1_isAboard yX1_isAboard, Cond.code yX1_isAboard cX1_isAboard 2 (some .boolean), Cond.fieldLink RX1 71 "FerryFloor$State" "places" "[I", Cond.constant RX1 78 (-100009)]
def wsX1_kilogramsToBill_r2 : List Cond := [Cond.methodLink RX1 92 yX1_isWalker, Cond.instanceMethod yX1_isWalker, Cond.selects RX1 yX1_isWalker yX1_isWalker, Cond.code yX1_isWalker cX1_isWalker 2 (some .boolean), Cond.fieldLink RX1 79 "FerryFloor$State" "walkers" "I", Cond.methodLink RX1 59 yX1_weighAll, Cond.instanceMethod yX1_weighAll, Cond.selects RX1 yX1_weighAll yX1_weighAll, Cond.code yX1_weighAll cX1_weighAll 1 none, Cond.fieldLink RX1 56 "FerryFloor$State" "zeros" "[I", Cond.fieldLink RX1 83 "FerryFloor$State" "weights" "[I", Cond.methodLink RX1 180 yX1_copyRow, Cond.static yX1_copyRow, Cond.code yX1_copyRow cX1_copyRow 2 none, Cond.methodLink RX1 217 arraycopyName, Cond.native arraycopyName, Cond.static arraycopyName, Cond.initialized "java/lang/System", Cond.methodLink RX1 201 yX1_addAllShares, Cond.static yX1_addAllShares, Cond.code yX1_addAllShares cX1_addAllShares 4 none, Cond.methodLink RX1 198 yX1_addShares, Cond.static yX1_addShares, Cond.code yX1_addShares cX1_addShares 7 none]
def wsX1_kilogramsToBill_r3 : List Cond := [Cond.methodLink RX1 37 yX1_isCell, Cond.static yX1_isCell, Cond.code yX1_isCell cX1_isCell 1 (some .boolean), Cond.methodLink RX1 195 yX1_nearCell, Cond.static yX1_nearCell, Cond.code yX1_nearCell cX1_nearCell 3 (some .int), Cond.methodLink RX1 167 yX1_expectAll, Cond.instanceMethod yX1_expectAll, Cond.selects RX1 yX1_expectAll yX1_expectAll, Cond.code yX1_expectAll cX1_expectAll 2 none, Cond.methodLink RX1 177 yX1_certaintyFor, Cond.instanceMethod yX1_certaintyFor, Cond.selects RX1 yX1_certaintyFor yX1_certaintyFor, Cond.code yX1_certaintyFor cX1_certaintyFor 4 (some .int), Cond.fieldLink RX1 52 "FerryFloor$State" "minute" "I", Cond.fieldLink RX1 113 "FerryFloor$State" "accusations" "[I", Cond.methodLink RX1 192 yX1_earliestTare, Cond.instanceMethod yX1_earliestTare, Cond.selects RX1 yX1_earliestTare yX1_earliestTare, Cond.code yX1_earliestTare cX1_earliestTare 5 (some .int), Cond.fieldLink RX1 65 "FerryFloor$State" "tareMinutes" "[I", Cond.methodLink RX1 149 yX1_sumOfReadings, Cond.instanceMethod yX1_sumOfReadings, Cond.selects RX1 yX1_sumOfReadings yX1_sumOfReadings]
def wsX1_kilogramsToBill_r4 : List Cond := [Cond.code yX1_sumOfReadings cX1_sumOfReadings 1 (some .int), Cond.methodLink RX1 152 yX1_sumOf, Cond.static yX1_sumOf, Cond.code yX1_sumOf cX1_sumOf 3 (some .int), Cond.methodLink RX1 158 yX1_kilogramsBilled, Cond.instanceMethod yX1_kilogramsBilled, Cond.selects RX1 yX1_kilogramsBilled yX1_kilogramsBilled, Cond.code yX1_kilogramsBilled cX1_kilogramsBilled 3 (some .int), Cond.fieldLink RX1 116 "FerryFloor$State" "billKilograms" "[I", Cond.fieldLink RX1 126 "FerryFloor$State" "backKilograms" "[I", Cond.methodLink RX1 211 yX1_orZero, Cond.static yX1_orZero, Cond.code yX1_orZero cX1_orZero 1 (some .int)]
def wsX1_kilogramsToBill : List Cond := .code yX1_kilogramsToBill cX1_kilogramsToBill 4 (some .int) :: ((wsX1_kilogramsToBill_r1 ++ (wsX1_kilogramsToBill_r2 ++ (wsX1_kilogramsToBill_r3 ++ wsX1_kilogramsToBill_r4))) ++ wsX10 ++ wsX00)
def wsX1_bill_r1 : List Cond := [Cond.constant RX1 45 (-100001), Cond.fieldLink RX1 10 "FerryFloor" "now" "LFerryFloor$State;", Cond.fieldLink RX1 116 "FerryFloor$State" "billKilograms" "[I", Cond.constant RX1 78 (-100009), Cond.constant RX1 55 (-100002), Cond.fieldLink RX1 123 "FerryFloor$State" "billPrices" "[I", Cond.fieldLink RX1 110 "FerryFloor$State" "price" "I", Cond.fieldLink RX1 86 "FerryFloor$State" "bookWeights" "[I", Cond.methodLink RX1 92 yX1_isWalker, Cond.instanceMethod yX1_isWalker, Cond.selects RX1 yX1_isWalker yX1_isWalker, Cond.initialized RX1, Cond.code yX1_isWalker cX1_isWalker 2 (some .boolean), Cond.fieldLink RX1 79 "FerryFloor$State" "walkers" "I", Cond.methodLink RX1 95 yX1_isAboard, Cond.instanceMethod yX1_isAboard, Cond.selects RX1 yX1_isAboard yX1_isAboard, Cond.code yX1_isAboard cX1_isAboard 2 (some .boolean), Cond.fieldLink RX1 71 "FerryFloor$State" "places" "[I", Cond.methodLink RX1 46 yX1_remember, Cond.instanceMethod yX1_remember, Cond.selects RX1 yX1_remember yX1_remember, Cond.code yX1_remember cX1_remember 2 none, Cond.fieldLink RX1 24 "FerryFloor" "kept" "I"]
def wsX1_bill_r2 : List Cond := [Cond.fieldLink RX1 20 "FerryFloor" "oldest" "I", Cond.fieldLink RX1 16 "FerryFloor" "history" "[LFerryFloor$State;", Cond.methodLink RX1 138 yX1_slotAfter, Cond.instanceMethod yX1_slotAfter, Cond.selects RX1 yX1_slotAfter yX1_slotAfter, Cond.code yX1_slotAfter cX1_slotAfter 2 (some .int), Cond.methodLink RX1 214 yJ9_floorMod_7cf53, Cond.static yJ9_floorMod_7cf53, Cond.initialized RJ9, Cond.code yJ9_floorMod_7cf53 cJ9_floorMod_7cf53 3 (some .int), Cond.methodLink RX1 141 yX0_copyFrom, Cond.instanceMethod yX0_copyFrom, Cond.selects RX0 yX0_copyFrom yX0_copyFrom, Cond.initialized RX0, Cond.code yX0_copyFrom cX0_copyFrom 2 none, Cond.fieldLink RX0 9 "FerryFloor$State" "minute" "I", Cond.fieldLink RX0 15 "FerryFloor$State" "price" "I", Cond.fieldLink RX0 18 "FerryFloor$State" "walkers" "I", Cond.fieldLink RX0 21 "FerryFloor$State" "zeros" "[I", Cond.fieldLink RX0 25 "FerryFloor$State" "drifts" "[I", Cond.fieldLink RX0 28 "FerryFloor$State" "tares" "[I", Cond.fieldLink RX0 31 "FerryFloor$State" "tareMinutes" "[I", Cond.fieldLink RX0 34 "FerryFloor$State" "weights" "[I", Cond.fieldLink RX0 37 "FerryFloor$State" "places" "[I"]
def wsX1_bill_r3 : List Cond := [Cond.fieldLink RX0 40 "FerryFloor$State" "bookWeights" "[I", Cond.fieldLink RX0 43 "FerryFloor$State" "bookPlaces" "[I", Cond.fieldLink RX0 46 "FerryFloor$State" "accusations" "[I", Cond.fieldLink RX0 49 "FerryFloor$State" "billKilograms" "[I", Cond.fieldLink RX0 52 "FerryFloor$State" "billPrices" "[I", Cond.fieldLink RX0 55 "FerryFloor$State" "backKilograms" "[I", Cond.static yX1_copyRow, Cond.code yX1_copyRow cX1_copyRow 2 none, Cond.methodLink RX1 205 Lib.Math.min.name, Cond.static Lib.Math.min.name, Cond.initialized "java/lang/Math", Cond.code Lib.Math.min.name Lib.Math.min.code 2 (some .int), Cond.methodLink RX1 217 arraycopyName, Cond.native arraycopyName, Cond.static arraycopyName, Cond.initialized "java/lang/System", Cond.methodLink RX1 119 yX1_kilogramsToBill, Cond.instanceMethod yX1_kilogramsToBill, Cond.selects RX1 yX1_kilogramsToBill yX1_kilogramsToBill, Cond.code yX1_kilogramsToBill cX1_kilogramsToBill 4 (some .int), Cond.fieldLink RX1 62 "FerryFloor$State" "tares" "[I", Cond.methodLink RX1 129 Lib.Math.max.name, Cond.static Lib.Math.max.name, Cond.code Lib.Math.max.name Lib.Math.max.code 2 (some .int)]
def wsX1_bill_r4 : List Cond := [Cond.methodLink RX1 174 yX1_estimateFor, Cond.instanceMethod yX1_estimateFor, Cond.selects RX1 yX1_estimateFor yX1_estimateFor, Cond.code yX1_estimateFor cX1_estimateFor 6 (some .int), Cond.fieldLink RX1 89 "FerryFloor$State" "bookPlaces" "[I", Cond.fieldLink RX1 27 "FerryFloor" "readings" "[I", Cond.fieldLink RX1 31 "FerryFloor" "expected" "[I", Cond.methodLink RX1 59 yX1_weighAll, Cond.instanceMethod yX1_weighAll, Cond.selects RX1 yX1_weighAll yX1_weighAll, Cond.code yX1_weighAll cX1_weighAll 1 none, Cond.fieldLink RX1 56 "FerryFloor$State" "zeros" "[I", Cond.fieldLink RX1 83 "FerryFloor$State" "weights" "[I", Cond.methodLink RX1 180 yX1_copyRow, Cond.methodLink RX1 201 yX1_addAllShares, Cond.static yX1_addAllShares, Cond.code yX1_addAllShares cX1_addAllShares 4 none, Cond.methodLink RX1 198 yX1_addShares, Cond.static yX1_addShares, Cond.code yX1_addShares cX1_addShares 7 none, Cond.methodLink RX1 37 yX1_isCell, Cond.static yX1_isCell, Cond.code yX1_isCell cX1_isCell 1 (some .boolean), Cond.methodLink RX1 195 yX1_nearCell]
def wsX1_bill_r5 : List Cond := [Cond.static yX1_nearCell, Cond.code yX1_nearCell cX1_nearCell 3 (some .int), Cond.methodLink RX1 167 yX1_expectAll, Cond.instanceMethod yX1_expectAll, Cond.selects RX1 yX1_expectAll yX1_expectAll, Cond.code yX1_expectAll cX1_expectAll 2 none, Cond.methodLink RX1 177 yX1_certaintyFor, Cond.instanceMethod yX1_certaintyFor, Cond.selects RX1 yX1_certaintyFor yX1_certaintyFor, Cond.code yX1_certaintyFor cX1_certaintyFor 4 (some .int), Cond.fieldLink RX1 52 "FerryFloor$State" "minute" "I", Cond.fieldLink RX1 113 "FerryFloor$State" "accusations" "[I", Cond.methodLink RX1 192 yX1_earliestTare, Cond.instanceMethod yX1_earliestTare, Cond.selects RX1 yX1_earliestTare yX1_earliestTare, Cond.code yX1_earliestTare cX1_earliestTare 5 (some .int), Cond.fieldLink RX1 65 "FerryFloor$State" "tareMinutes" "[I", Cond.methodLink RX1 149 yX1_sumOfReadings, Cond.instanceMethod yX1_sumOfReadings, Cond.selects RX1 yX1_sumOfReadings yX1_sumOfReadings, Cond.code yX1_sumOfReadings cX1_sumOfReadings 1 (some .int), Cond.methodLink RX1 152 yX1_sumOf, Cond.static yX1_sumOf, Cond.code yX1_sumOf cX1_sumOf 3 (some .int)]
def wsX1_bill_r6 : List Cond := [Cond.methodLink RX1 158 yX1_kilogramsBilled, Cond.instanceMethod yX1_kilogramsBilled, Cond.selects RX1 yX1_kilogramsBilled yX1_kilogramsBilled, Cond.code yX1_kilogramsBilled cX1_kilogramsBilled 3 (some .int), Cond.fieldLink RX1 126 "FerryFloor$State" "backKilograms" "[I", Cond.methodLink RX1 211 yX1_orZero, Cond.static yX1_orZero, Cond.code yX1_orZero cX1_orZero 1 (some .int)]
def wsX1_bill : List Cond := .code yX1_bill cX1_bill 3 (some .int) :: ((wsX1_bill_r1 ++ (wsX1_bill_r2 ++ (wsX1_bill_r3 ++ (wsX1_bill_r4 ++ (wsX1_bill_r5 ++ wsX1_bill_r6))))) ++ wsX10 ++ wsX00)
def wsX1_backAmount : List Cond := .code yX1_backAmount cX1_backAmount 2 (some .int) :: ([.fieldLink RX1 10 "FerryFloor" "now" "LFerryFloor$State;", .fieldLink RX1 126 "FerryFloor$State" "backKilograms" "[I", .fieldLink RX1 123 "FerryFloor$State" "billPrices" "[I", .methodLink RX1 92 yX1_isWalker, .instanceMethod yX1_isWalker, .selects RX1 yX1_isWalker yX1_isWalker, .initialized RX1, .code yX1_isWalker cX1_isWalker 2 (some .boolean), .fieldLink RX1 79 "FerryFloor$State" "walkers" "I", .methodLink RX1 211 yX1_orZero, .static yX1_orZero, .code yX1_orZero cX1_orZero 1 (some .int), .constant RX1 78 (-100009)] ++ wsX10 ++ wsX00)
def wsX1_complain_r1 : List Cond := [Cond.constant RX1 45 (-100001), Cond.fieldLink RX1 10 "FerryFloor" "now" "LFerryFloor$State;", Cond.fieldLink RX1 116 "FerryFloor$State" "billKilograms" "[I", Cond.constant RX1 78 (-100009), Cond.fieldLink RX1 126 "FerryFloor$State" "backKilograms" "[I", Cond.constant RX1 55 (-100002), Cond.fieldLink RX1 83 "FerryFloor$State" "weights" "[I", Cond.methodLink RX1 129 Lib.Math.max.name, Cond.static Lib.Math.max.name, Cond.initialized "java/lang/Math", Cond.code Lib.Math.max.name Lib.Math.max.code 2 (some .int), Cond.methodLink RX1 92 yX1_isWalker, Cond.instanceMethod yX1_isWalker, Cond.selects RX1 yX1_isWalker yX1_isWalker, Cond.initialized RX1, Cond.code yX1_isWalker cX1_isWalker 2 (some .boolean), Cond.fieldLink RX1 79 "FerryFloor$State" "walkers" "I", Cond.methodLink RX1 95 yX1_isAboard, Cond.instanceMethod yX1_isAboard, Cond.selects RX1 yX1_isAboard yX1_isAboard, Cond.code yX1_isAboard cX1_isAboard 2 (some .boolean), Cond.fieldLink RX1 71 "FerryFloor$State" "places" "[I", Cond.methodLink RX1 46 yX1_remember, Cond.instanceMethod yX1_remember]
def wsX1_complain_r2 : List Cond := [Cond.selects RX1 yX1_remember yX1_remember, Cond.code yX1_remember cX1_remember 2 none, Cond.fieldLink RX1 24 "FerryFloor" "kept" "I", Cond.fieldLink RX1 20 "FerryFloor" "oldest" "I", Cond.fieldLink RX1 16 "FerryFloor" "history" "[LFerryFloor$State;", Cond.methodLink RX1 138 yX1_slotAfter, Cond.instanceMethod yX1_slotAfter, Cond.selects RX1 yX1_slotAfter yX1_slotAfter, Cond.code yX1_slotAfter cX1_slotAfter 2 (some .int), Cond.methodLink RX1 214 yJ9_floorMod_7cf53, Cond.static yJ9_floorMod_7cf53, Cond.initialized RJ9, Cond.code yJ9_floorMod_7cf53 cJ9_floorMod_7cf53 3 (some .int), Cond.methodLink RX1 141 yX0_copyFrom, Cond.instanceMethod yX0_copyFrom, Cond.selects RX0 yX0_copyFrom yX0_copyFrom, Cond.initialized RX0, Cond.code yX0_copyFrom cX0_copyFrom 2 none, Cond.fieldLink RX0 9 "FerryFloor$State" "minute" "I", Cond.fieldLink RX0 15 "FerryFloor$State" "price" "I", Cond.fieldLink RX0 18 "FerryFloor$State" "walkers" "I", Cond.fieldLink RX0 21 "FerryFloor$State" "zeros" "[I", Cond.fieldLink RX0 25 "FerryFloor$State" "drifts" "[I", Cond.fieldLink RX0 28 "FerryFloor$State" "tares" "[I"]
def wsX1_complain_r3 : List Cond := [Cond.fieldLink RX0 31 "FerryFloor$State" "tareMinutes" "[I", Cond.fieldLink RX0 34 "FerryFloor$State" "weights" "[I", Cond.fieldLink RX0 37 "FerryFloor$State" "places" "[I", Cond.fieldLink RX0 40 "FerryFloor$State" "bookWeights" "[I", Cond.fieldLink RX0 43 "FerryFloor$State" "bookPlaces" "[I", Cond.fieldLink RX0 46 "FerryFloor$State" "accusations" "[I", Cond.fieldLink RX0 49 "FerryFloor$State" "billKilograms" "[I", Cond.fieldLink RX0 52 "FerryFloor$State" "billPrices" "[I", Cond.fieldLink RX0 55 "FerryFloor$State" "backKilograms" "[I", Cond.static yX1_copyRow, Cond.code yX1_copyRow cX1_copyRow 2 none, Cond.methodLink RX1 205 Lib.Math.min.name, Cond.static Lib.Math.min.name, Cond.code Lib.Math.min.name Lib.Math.min.code 2 (some .int), Cond.methodLink RX1 217 arraycopyName, Cond.native arraycopyName, Cond.static arraycopyName, Cond.initialized "java/lang/System", Cond.methodLink RX1 135 yX1_backAmount, Cond.instanceMethod yX1_backAmount, Cond.selects RX1 yX1_backAmount yX1_backAmount, Cond.code yX1_backAmount cX1_backAmount 2 (some .int), Cond.fieldLink RX1 123 "FerryFloor$State" "billPrices" "[I", Cond.methodLink RX1 211 yX1_orZero]
def wsX1_complain_r4 : List Cond := [Cond.static yX1_orZero, Cond.code yX1_orZero cX1_orZero 1 (some .int)]
def wsX1_complain : List Cond := .code yX1_complain cX1_complain 2 (some .int) :: ((wsX1_complain_r1 ++ (wsX1_complain_r2 ++ (wsX1_complain_r3 ++ wsX1_complain_r4))) ++ wsX10 ++ wsX00)
def wsX1_walkersAboard : List Cond := .code yX1_walkersAboard cX1_walkersAboard 3 (some .int) :: ([.methodLink RX1 95 yX1_isAboard, .instanceMethod yX1_isAboard, .selects RX1 yX1_isAboard yX1_isAboard, .initialized RX1, .code yX1_isAboard cX1_isAboard 2 (some .boolean), .fieldLink RX1 10 "FerryFloor" "now" "LFerryFloor$State;", .fieldLink RX1 71 "FerryFloor$State" "places" "[I", .constant RX1 78 (-100009), .methodLink RX1 92 yX1_isWalker, .instanceMethod yX1_isWalker, .selects RX1 yX1_isWalker yX1_isWalker, .code yX1_isWalker cX1_isWalker 2 (some .boolean), .fieldLink RX1 79 "FerryFloor$State" "walkers" "I"] ++ wsX10 ++ wsX00)
def wsX1_walkersMisplaced : List Cond := .code yX1_walkersMisplaced cX1_walkersMisplaced 3 (some .int) :: ([.fieldLink RX1 10 "FerryFloor" "now" "LFerryFloor$State;", .fieldLink RX1 71 "FerryFloor$State" "places" "[I", .fieldLink RX1 89 "FerryFloor$State" "bookPlaces" "[I"] ++ wsX10 ++ wsX00)
def wsX1_billAmount : List Cond := .code yX1_billAmount cX1_billAmount 2 (some .int) :: ([.fieldLink RX1 10 "FerryFloor" "now" "LFerryFloor$State;", .fieldLink RX1 116 "FerryFloor$State" "billKilograms" "[I", .fieldLink RX1 123 "FerryFloor$State" "billPrices" "[I", .methodLink RX1 92 yX1_isWalker, .instanceMethod yX1_isWalker, .selects RX1 yX1_isWalker yX1_isWalker, .initialized RX1, .code yX1_isWalker cX1_isWalker 2 (some .boolean), .fieldLink RX1 79 "FerryFloor$State" "walkers" "I", .methodLink RX1 211 yX1_orZero, .static yX1_orZero, .code yX1_orZero cX1_orZero 1 (some .int), .constant RX1 78 (-100009)] ++ wsX10 ++ wsX00)
def wsX1_sumOfBillAmounts : List Cond := .code yX1_sumOfBillAmounts cX1_sumOfBillAmounts 3 (some .int) :: ([.methodLink RX1 171 yX1_billAmount, .instanceMethod yX1_billAmount, .selects RX1 yX1_billAmount yX1_billAmount, .initialized RX1, .code yX1_billAmount cX1_billAmount 2 (some .int), .fieldLink RX1 10 "FerryFloor" "now" "LFerryFloor$State;", .fieldLink RX1 116 "FerryFloor$State" "billKilograms" "[I", .fieldLink RX1 123 "FerryFloor$State" "billPrices" "[I", .methodLink RX1 92 yX1_isWalker, .instanceMethod yX1_isWalker, .selects RX1 yX1_isWalker yX1_isWalker, .code yX1_isWalker cX1_isWalker 2 (some .boolean), .fieldLink RX1 79 "FerryFloor$State" "walkers" "I", .methodLink RX1 211 yX1_orZero, .static yX1_orZero, .code yX1_orZero cX1_orZero 1 (some .int), .constant RX1 78 (-100009)] ++ wsX10 ++ wsX00)
def wsX1_sumOfBackAmounts : List Cond := .code yX1_sumOfBackAmounts cX1_sumOfBackAmounts 3 (some .int) :: ([.methodLink RX1 135 yX1_backAmount, .instanceMethod yX1_backAmount, .selects RX1 yX1_backAmount yX1_backAmount, .initialized RX1, .code yX1_backAmount cX1_backAmount 2 (some .int), .fieldLink RX1 10 "FerryFloor" "now" "LFerryFloor$State;", .fieldLink RX1 126 "FerryFloor$State" "backKilograms" "[I", .fieldLink RX1 123 "FerryFloor$State" "billPrices" "[I", .methodLink RX1 92 yX1_isWalker, .instanceMethod yX1_isWalker, .selects RX1 yX1_isWalker yX1_isWalker, .code yX1_isWalker cX1_isWalker 2 (some .boolean), .fieldLink RX1 79 "FerryFloor$State" "walkers" "I", .methodLink RX1 211 yX1_orZero, .static yX1_orZero, .code yX1_orZero cX1_orZero 1 (some .int), .constant RX1 78 (-100009)] ++ wsX10 ++ wsX00)
def wsX1_count_r1 : List Cond := [Cond.fieldLink RX1 10 "FerryFloor" "now" "LFerryFloor$State;", Cond.fieldLink RX1 52 "FerryFloor$State" "minute" "I", Cond.fieldLink RX1 79 "FerryFloor$State" "walkers" "I", Cond.fieldLink RX1 24 "FerryFloor" "kept" "I", Cond.fieldLink RX1 89 "FerryFloor$State" "bookPlaces" "[I", Cond.fieldLink RX1 62 "FerryFloor$State" "tares" "[I", Cond.fieldLink RX1 110 "FerryFloor$State" "price" "I", Cond.constant RX1 45 (-100001), Cond.methodLink RX1 145 yX1_walkersAboard, Cond.instanceMethod yX1_walkersAboard, Cond.selects RX1 yX1_walkersAboard yX1_walkersAboard, Cond.initialized RX1, Cond.code yX1_walkersAboard cX1_walkersAboard 3 (some .int), Cond.methodLink RX1 95 yX1_isAboard, Cond.instanceMethod yX1_isAboard, Cond.selects RX1 yX1_isAboard yX1_isAboard, Cond.code yX1_isAboard cX1_isAboard 2 (some .boolean), Cond.fieldLink RX1 71 "FerryFloor$State" "places" "[I", Cond.constant RX1 78 (-100009), Cond.methodLink RX1 92 yX1_isWalker, Cond.instanceMethod yX1_isWalker, Cond.selects RX1 yX1_isWalker yX1_isWalker, Cond.code yX1_isWalker cX1_isWalker 2 (some .boolean), Cond.methodLink RX1 106 yX1_errorWith]
def wsX1_count_r2 : List Cond := [Cond.instanceMethod yX1_errorWith, Cond.selects RX1 yX1_errorWith yX1_errorWith, Cond.code yX1_errorWith cX1_errorWith 4 (some .int), Cond.fieldLink RX1 27 "FerryFloor" "readings" "[I", Cond.fieldLink RX1 31 "FerryFloor" "expected" "[I", Cond.methodLink RX1 208 Lib.Math.abs.name, Cond.static Lib.Math.abs.name, Cond.initialized "java/lang/Math", Cond.code Lib.Math.abs.name Lib.Math.abs.code 1 (some .int), Cond.methodLink RX1 59 yX1_weighAll, Cond.instanceMethod yX1_weighAll, Cond.selects RX1 yX1_weighAll yX1_weighAll, Cond.code yX1_weighAll cX1_weighAll 1 none, Cond.fieldLink RX1 56 "FerryFloor$State" "zeros" "[I", Cond.fieldLink RX1 83 "FerryFloor$State" "weights" "[I", Cond.methodLink RX1 180 yX1_copyRow, Cond.static yX1_copyRow, Cond.code yX1_copyRow cX1_copyRow 2 none, Cond.methodLink RX1 205 Lib.Math.min.name, Cond.static Lib.Math.min.name, Cond.code Lib.Math.min.name Lib.Math.min.code 2 (some .int), Cond.methodLink RX1 217 arraycopyName, Cond.native arraycopyName, Cond.static arraycopyName]
def wsX1_count_r3 : List Cond := [Cond.initialized "java/lang/System", Cond.methodLink RX1 201 yX1_addAllShares, Cond.static yX1_addAllShares, Cond.code yX1_addAllShares cX1_addAllShares 4 none, Cond.methodLink RX1 198 yX1_addShares, Cond.static yX1_addShares, Cond.code yX1_addShares cX1_addShares 7 none, Cond.methodLink RX1 37 yX1_isCell, Cond.static yX1_isCell, Cond.code yX1_isCell cX1_isCell 1 (some .boolean), Cond.methodLink RX1 195 yX1_nearCell, Cond.static yX1_nearCell, Cond.code yX1_nearCell cX1_nearCell 3 (some .int), Cond.methodLink RX1 167 yX1_expectAll, Cond.instanceMethod yX1_expectAll, Cond.selects RX1 yX1_expectAll yX1_expectAll, Cond.code yX1_expectAll cX1_expectAll 2 none, Cond.fieldLink RX1 86 "FerryFloor$State" "bookWeights" "[I", Cond.methodLink RX1 149 yX1_sumOfReadings, Cond.instanceMethod yX1_sumOfReadings, Cond.selects RX1 yX1_sumOfReadings yX1_sumOfReadings, Cond.code yX1_sumOfReadings cX1_sumOfReadings 1 (some .int), Cond.methodLink RX1 152 yX1_sumOf, Cond.static yX1_sumOf]
def wsX1_count_r4 : List Cond := [Cond.code yX1_sumOf cX1_sumOf 3 (some .int), Cond.methodLink RX1 155 yX1_walkersMisplaced, Cond.instanceMethod yX1_walkersMisplaced, Cond.selects RX1 yX1_walkersMisplaced yX1_walkersMisplaced, Cond.code yX1_walkersMisplaced cX1_walkersMisplaced 3 (some .int), Cond.methodLink RX1 158 yX1_kilogramsBilled, Cond.instanceMethod yX1_kilogramsBilled, Cond.selects RX1 yX1_kilogramsBilled yX1_kilogramsBilled, Cond.code yX1_kilogramsBilled cX1_kilogramsBilled 3 (some .int), Cond.fieldLink RX1 116 "FerryFloor$State" "billKilograms" "[I", Cond.fieldLink RX1 126 "FerryFloor$State" "backKilograms" "[I", Cond.methodLink RX1 211 yX1_orZero, Cond.static yX1_orZero, Cond.code yX1_orZero cX1_orZero 1 (some .int), Cond.methodLink RX1 161 yX1_sumOfBillAmounts, Cond.instanceMethod yX1_sumOfBillAmounts, Cond.selects RX1 yX1_sumOfBillAmounts yX1_sumOfBillAmounts, Cond.code yX1_sumOfBillAmounts cX1_sumOfBillAmounts 3 (some .int), Cond.methodLink RX1 171 yX1_billAmount, Cond.instanceMethod yX1_billAmount, Cond.selects RX1 yX1_billAmount yX1_billAmount, Cond.code yX1_billAmount cX1_billAmount 2 (some .int), Cond.fieldLink RX1 123 "FerryFloor$State" "billPrices" "[I", Cond.methodLink RX1 164 yX1_sumOfBackAmounts]
def wsX1_count_r5 : List Cond := [Cond.instanceMethod yX1_sumOfBackAmounts, Cond.selects RX1 yX1_sumOfBackAmounts yX1_sumOfBackAmounts, Cond.code yX1_sumOfBackAmounts cX1_sumOfBackAmounts 3 (some .int), Cond.methodLink RX1 135 yX1_backAmount, Cond.instanceMethod yX1_backAmount, Cond.selects RX1 yX1_backAmount yX1_backAmount, Cond.code yX1_backAmount cX1_backAmount 2 (some .int)]
def wsX1_count : List Cond := .code yX1_count cX1_count 2 (some .int) :: ((wsX1_count_r1 ++ (wsX1_count_r2 ++ (wsX1_count_r3 ++ (wsX1_count_r4 ++ wsX1_count_r5)))) ++ wsX10 ++ wsX00)
def wsX1_cell_r1 : List Cond := [Cond.constant RX1 45 (-100001), Cond.fieldLink RX1 27 "FerryFloor" "readings" "[I", Cond.fieldLink RX1 10 "FerryFloor" "now" "LFerryFloor$State;", Cond.fieldLink RX1 56 "FerryFloor$State" "zeros" "[I", Cond.fieldLink RX1 49 "FerryFloor$State" "drifts" "[I", Cond.fieldLink RX1 62 "FerryFloor$State" "tares" "[I", Cond.fieldLink RX1 65 "FerryFloor$State" "tareMinutes" "[I", Cond.fieldLink RX1 89 "FerryFloor$State" "bookPlaces" "[I", Cond.fieldLink RX1 31 "FerryFloor" "expected" "[I", Cond.fieldLink RX1 71 "FerryFloor$State" "places" "[I", Cond.methodLink RX1 37 yX1_isCell, Cond.static yX1_isCell, Cond.initialized RX1, Cond.code yX1_isCell cX1_isCell 1 (some .boolean), Cond.methodLink RX1 59 yX1_weighAll, Cond.instanceMethod yX1_weighAll, Cond.selects RX1 yX1_weighAll yX1_weighAll, Cond.code yX1_weighAll cX1_weighAll 1 none, Cond.fieldLink RX1 83 "FerryFloor$State" "weights" "[I", Cond.methodLink RX1 180 yX1_copyRow, Cond.static yX1_copyRow, Cond.code yX1_copyRow cX1_copyRow 2 none, Cond.methodLink RX1 205 Lib.Math.min.name, Cond.static Lib.Math.min.name]
def wsX1_cell_r2 : List Cond := [Cond.initialized "java/lang/Math", Cond.code Lib.Math.min.name Lib.Math.min.code 2 (some .int), Cond.methodLink RX1 217 arraycopyName, Cond.native arraycopyName, Cond.static arraycopyName, Cond.initialized "java/lang/System", Cond.methodLink RX1 201 yX1_addAllShares, Cond.static yX1_addAllShares, Cond.code yX1_addAllShares cX1_addAllShares 4 none, Cond.methodLink RX1 198 yX1_addShares, Cond.static yX1_addShares, Cond.code yX1_addShares cX1_addShares 7 none, Cond.methodLink RX1 195 yX1_nearCell, Cond.static yX1_nearCell, Cond.code yX1_nearCell cX1_nearCell 3 (some .int), Cond.constant RX1 78 (-100009), Cond.methodLink RX1 167 yX1_expectAll, Cond.instanceMethod yX1_expectAll, Cond.selects RX1 yX1_expectAll yX1_expectAll, Cond.code yX1_expectAll cX1_expectAll 2 none, Cond.fieldLink RX1 86 "FerryFloor$State" "bookWeights" "[I", Cond.methodLink RX1 74 yX1_whoIsOn, Cond.static yX1_whoIsOn, Cond.code yX1_whoIsOn cX1_whoIsOn 3 (some .int)]
def wsX1_cell : List Cond := .code yX1_cell cX1_cell 3 (some .int) :: ((wsX1_cell_r1 ++ wsX1_cell_r2) ++ wsX10 ++ wsX00)
def wsX1_walker_r1 : List Cond := [Cond.constant RX1 45 (-100001), Cond.fieldLink RX1 10 "FerryFloor" "now" "LFerryFloor$State;", Cond.fieldLink RX1 83 "FerryFloor$State" "weights" "[I", Cond.fieldLink RX1 71 "FerryFloor$State" "places" "[I", Cond.fieldLink RX1 86 "FerryFloor$State" "bookWeights" "[I", Cond.constant RX1 78 (-100009), Cond.fieldLink RX1 89 "FerryFloor$State" "bookPlaces" "[I", Cond.fieldLink RX1 113 "FerryFloor$State" "accusations" "[I", Cond.fieldLink RX1 116 "FerryFloor$State" "billKilograms" "[I", Cond.methodLink RX1 92 yX1_isWalker, Cond.instanceMethod yX1_isWalker, Cond.selects RX1 yX1_isWalker yX1_isWalker, Cond.initialized RX1, Cond.code yX1_isWalker cX1_isWalker 2 (some .boolean), Cond.fieldLink RX1 79 "FerryFloor$State" "walkers" "I", Cond.methodLink RX1 95 yX1_isAboard, Cond.instanceMethod yX1_isAboard, Cond.selects RX1 yX1_isAboard yX1_isAboard, Cond.code yX1_isAboard cX1_isAboard 2 (some .boolean), Cond.methodLink RX1 171 yX1_billAmount, Cond.instanceMethod yX1_billAmount, Cond.selects RX1 yX1_billAmount yX1_billAmount, Cond.code yX1_billAmount cX1_billAmount 2 (some .int), Cond.fieldLink RX1 123 "FerryFloor$State" "billPrices" "[I"]
def wsX1_walker_r2 : List Cond := [Cond.methodLink RX1 211 yX1_orZero, Cond.static yX1_orZero, Cond.code yX1_orZero cX1_orZero 1 (some .int), Cond.methodLink RX1 135 yX1_backAmount, Cond.instanceMethod yX1_backAmount, Cond.selects RX1 yX1_backAmount yX1_backAmount, Cond.code yX1_backAmount cX1_backAmount 2 (some .int), Cond.fieldLink RX1 126 "FerryFloor$State" "backKilograms" "[I"]
def wsX1_walker : List Cond := .code yX1_walker cX1_walker 3 (some .int) :: ((wsX1_walker_r1 ++ wsX1_walker_r2) ++ wsX10 ++ wsX00)
def wsX1_estimate_r1 : List Cond := [Cond.constant RX1 45 (-100001), Cond.constant RX1 55 (-100002), Cond.methodLink RX1 92 yX1_isWalker, Cond.instanceMethod yX1_isWalker, Cond.selects RX1 yX1_isWalker yX1_isWalker, Cond.initialized RX1, Cond.code yX1_isWalker cX1_isWalker 2 (some .boolean), Cond.fieldLink RX1 10 "FerryFloor" "now" "LFerryFloor$State;", Cond.fieldLink RX1 79 "FerryFloor$State" "walkers" "I", Cond.methodLink RX1 95 yX1_isAboard, Cond.instanceMethod yX1_isAboard, Cond.selects RX1 yX1_isAboard yX1_isAboard, Cond.code yX1_isAboard cX1_isAboard 2 (some .boolean), Cond.fieldLink RX1 71 "FerryFloor$State" "places" "[I", Cond.constant RX1 78 (-100009), Cond.methodLink RX1 174 yX1_estimateFor, Cond.instanceMethod yX1_estimateFor, Cond.selects RX1 yX1_estimateFor yX1_estimateFor, Cond.code yX1_estimateFor cX1_estimateFor 6 (some .int), Cond.fieldLink RX1 89 "FerryFloor$State" "bookPlaces" "[I", Cond.fieldLink RX1 86 "FerryFloor$State" "bookWeights" "[I", Cond.fieldLink RX1 27 "FerryFloor" "readings" "[I", Cond.fieldLink RX1 31 "FerryFloor" "expected" "[I", Cond.methodLink RX1 129 Lib.Math.max.name]
def wsX1_estimate_r2 : List Cond := [Cond.static Lib.Math.max.name, Cond.initialized "java/lang/Math", Cond.code Lib.Math.max.name Lib.Math.max.code 2 (some .int), Cond.methodLink RX1 59 yX1_weighAll, Cond.instanceMethod yX1_weighAll, Cond.selects RX1 yX1_weighAll yX1_weighAll, Cond.code yX1_weighAll cX1_weighAll 1 none, Cond.fieldLink RX1 56 "FerryFloor$State" "zeros" "[I", Cond.fieldLink RX1 83 "FerryFloor$State" "weights" "[I", Cond.methodLink RX1 180 yX1_copyRow, Cond.static yX1_copyRow, Cond.code yX1_copyRow cX1_copyRow 2 none, Cond.methodLink RX1 205 Lib.Math.min.name, Cond.static Lib.Math.min.name, Cond.code Lib.Math.min.name Lib.Math.min.code 2 (some .int), Cond.methodLink RX1 217 arraycopyName, Cond.native arraycopyName, Cond.static arraycopyName, Cond.initialized "java/lang/System", Cond.methodLink RX1 201 yX1_addAllShares, Cond.static yX1_addAllShares, Cond.code yX1_addAllShares cX1_addAllShares 4 none, Cond.methodLink RX1 198 yX1_addShares, Cond.static yX1_addShares]
def wsX1_estimate_r3 : List Cond := [Cond.code yX1_addShares cX1_addShares 7 none, Cond.methodLink RX1 37 yX1_isCell, Cond.static yX1_isCell, Cond.code yX1_isCell cX1_isCell 1 (some .boolean), Cond.methodLink RX1 195 yX1_nearCell, Cond.static yX1_nearCell, Cond.code yX1_nearCell cX1_nearCell 3 (some .int), Cond.methodLink RX1 167 yX1_expectAll, Cond.instanceMethod yX1_expectAll, Cond.selects RX1 yX1_expectAll yX1_expectAll, Cond.code yX1_expectAll cX1_expectAll 2 none, Cond.fieldLink RX1 62 "FerryFloor$State" "tares" "[I"]
def wsX1_estimate : List Cond := .code yX1_estimate cX1_estimate 2 (some .int) :: ((wsX1_estimate_r1 ++ (wsX1_estimate_r2 ++ wsX1_estimate_r3)) ++ wsX10 ++ wsX00)
def wsX1_certainty_r1 : List Cond := [Cond.constant RX1 45 (-100001), Cond.constant RX1 55 (-100002), Cond.methodLink RX1 92 yX1_isWalker, Cond.instanceMethod yX1_isWalker, Cond.selects RX1 yX1_isWalker yX1_isWalker, Cond.initialized RX1, Cond.code yX1_isWalker cX1_isWalker 2 (some .boolean), Cond.fieldLink RX1 10 "FerryFloor" "now" "LFerryFloor$State;", Cond.fieldLink RX1 79 "FerryFloor$State" "walkers" "I", Cond.methodLink RX1 95 yX1_isAboard, Cond.instanceMethod yX1_isAboard, Cond.selects RX1 yX1_isAboard yX1_isAboard, Cond.code yX1_isAboard cX1_isAboard 2 (some .boolean), Cond.fieldLink RX1 71 "FerryFloor$State" "places" "[I", Cond.constant RX1 78 (-100009), Cond.methodLink RX1 177 yX1_certaintyFor, Cond.instanceMethod yX1_certaintyFor, Cond.selects RX1 yX1_certaintyFor yX1_certaintyFor, Cond.code yX1_certaintyFor cX1_certaintyFor 4 (some .int), Cond.fieldLink RX1 52 "FerryFloor$State" "minute" "I", Cond.fieldLink RX1 89 "FerryFloor$State" "bookPlaces" "[I", Cond.fieldLink RX1 113 "FerryFloor$State" "accusations" "[I", Cond.methodLink RX1 129 Lib.Math.max.name, Cond.static Lib.Math.max.name]
def wsX1_certainty_r2 : List Cond := [Cond.initialized "java/lang/Math", Cond.code Lib.Math.max.name Lib.Math.max.code 2 (some .int), Cond.methodLink RX1 192 yX1_earliestTare, Cond.instanceMethod yX1_earliestTare, Cond.selects RX1 yX1_earliestTare yX1_earliestTare, Cond.code yX1_earliestTare cX1_earliestTare 5 (some .int), Cond.fieldLink RX1 65 "FerryFloor$State" "tareMinutes" "[I", Cond.methodLink RX1 205 Lib.Math.min.name, Cond.static Lib.Math.min.name, Cond.code Lib.Math.min.name Lib.Math.min.code 2 (some .int), Cond.methodLink RX1 195 yX1_nearCell, Cond.static yX1_nearCell, Cond.code yX1_nearCell cX1_nearCell 3 (some .int), Cond.methodLink RX1 37 yX1_isCell, Cond.static yX1_isCell, Cond.code yX1_isCell cX1_isCell 1 (some .boolean)]
def wsX1_certainty : List Cond := .code yX1_certainty cX1_certainty 2 (some .int) :: ((wsX1_certainty_r1 ++ wsX1_certainty_r2) ++ wsX10 ++ wsX00)
def wsJ9_abs_0f7a4 : List Cond := .code yJ9_abs_0f7a4 cJ9_abs_0f7a4 1 (some .int) :: ([])
def wsJ9_max_7cf53 : List Cond := .code yJ9_max_7cf53 cJ9_max_7cf53 2 (some .int) :: ([])
def wsJ9_min_7cf53 : List Cond := .code yJ9_min_7cf53 cJ9_min_7cf53 2 (some .int) :: ([])
def wsL_cell : List Cond := .code yL_cell cL_cell 2 (some .int) :: ([.constant RL 7 (40503)])
def wsL_low : List Cond := .code yL_low cL_low 2 (some .int) :: ([.constant RL 8 (2147483647)])
def wsL_share : List Cond := .code yL_share cL_share 7 (some .int) :: ([])
def wsL_gets : List Cond := .code yL_gets cL_gets 7 (some .int) :: ([.methodLink RL 9 yL_share, .static yL_share, .initialized RL, .code yL_share cL_share 7 (some .int)])
def wsL_error : List Cond := .code yL_error cL_error 7 (some .int) :: ([.methodLink RL 15 yL_gets, .static yL_gets, .initialized RL, .code yL_gets cL_gets 7 (some .int), .methodLink RL 9 yL_share, .static yL_share, .code yL_share cL_share 7 (some .int)])
def wsL_who : List Cond := .code yL_who cL_who 6 (some .int) :: ([])
def wsL_estimate : List Cond := .code yL_estimate cL_estimate 7 (some .int) :: ([.methodLink RL 9 yL_share, .static yL_share, .initialized RL, .code yL_share cL_share 7 (some .int), .methodLink RL 15 yL_gets, .static yL_gets, .code yL_gets cL_gets 7 (some .int)])
def wsL_oldest : List Cond := .code yL_oldest cL_oldest 4 (some .int) :: ([.methodLink RL 9 yL_share, .static yL_share, .initialized RL, .code yL_share cL_share 7 (some .int)])
def wsL_certainty : List Cond := .code yL_certainty cL_certainty 5 (some .int) :: ([.methodLink RL 19 yL_oldest, .static yL_oldest, .initialized RL, .code yL_oldest cL_oldest 4 (some .int), .methodLink RL 9 yL_share, .static yL_share, .code yL_share cL_share 7 (some .int)])
def wsL_two_r1 : List Cond := [Cond.constant RL 32 (-100001), Cond.constant RL 33 (-100002), Cond.methodLink RL 23 yX1_swap, Cond.instanceMethod yX1_swap, Cond.selects RX1 yX1_swap yX1_swap, Cond.initialized RX1, Cond.code yX1_swap cX1_swap 3 (some .int), Cond.constant RX1 45 (-100001), Cond.constant RX1 55 (-100002), Cond.fieldLink RX1 10 "FerryFloor" "now" "LFerryFloor$State;", Cond.fieldLink RX1 71 "FerryFloor$State" "places" "[I", Cond.fieldLink RX1 89 "FerryFloor$State" "bookPlaces" "[I", Cond.methodLink RX1 98 yX1_isPair, Cond.instanceMethod yX1_isPair, Cond.selects RX1 yX1_isPair yX1_isPair, Cond.code yX1_isPair cX1_isPair 3 (some .boolean), Cond.methodLink RX1 92 yX1_isWalker, Cond.instanceMethod yX1_isWalker, Cond.selects RX1 yX1_isWalker yX1_isWalker, Cond.code yX1_isWalker cX1_isWalker 2 (some .boolean), Cond.fieldLink RX1 79 "FerryFloor$State" "walkers" "I", Cond.methodLink RX1 95 yX1_isAboard, Cond.instanceMethod yX1_isAboard, Cond.selects RX1 yX1_isAboard yX1_isAboard]
def wsL_two_r2 : List Cond := [Cond.code yX1_isAboard cX1_isAboard 2 (some .boolean), Cond.constant RX1 78 (-100009), Cond.methodLink RX1 46 yX1_remember, Cond.instanceMethod yX1_remember, Cond.selects RX1 yX1_remember yX1_remember, Cond.code yX1_remember cX1_remember 2 none, Cond.fieldLink RX1 24 "FerryFloor" "kept" "I", Cond.fieldLink RX1 20 "FerryFloor" "oldest" "I", Cond.fieldLink RX1 16 "FerryFloor" "history" "[LFerryFloor$State;", Cond.methodLink RX1 138 yX1_slotAfter, Cond.instanceMethod yX1_slotAfter, Cond.selects RX1 yX1_slotAfter yX1_slotAfter, Cond.code yX1_slotAfter cX1_slotAfter 2 (some .int), Cond.methodLink RX1 214 yJ9_floorMod_7cf53, Cond.static yJ9_floorMod_7cf53, Cond.initialized RJ9, Cond.code yJ9_floorMod_7cf53 cJ9_floorMod_7cf53 3 (some .int), Cond.methodLink RX1 141 yX0_copyFrom, Cond.instanceMethod yX0_copyFrom, Cond.selects RX0 yX0_copyFrom yX0_copyFrom, Cond.initialized RX0, Cond.code yX0_copyFrom cX0_copyFrom 2 none, Cond.fieldLink RX0 9 "FerryFloor$State" "minute" "I", Cond.fieldLink RX0 15 "FerryFloor$State" "price" "I"]
def wsL_two_r3 : List Cond := [Cond.fieldLink RX0 18 "FerryFloor$State" "walkers" "I", Cond.fieldLink RX0 21 "FerryFloor$State" "zeros" "[I", Cond.fieldLink RX0 25 "FerryFloor$State" "drifts" "[I", Cond.fieldLink RX0 28 "FerryFloor$State" "tares" "[I", Cond.fieldLink RX0 31 "FerryFloor$State" "tareMinutes" "[I", Cond.fieldLink RX0 34 "FerryFloor$State" "weights" "[I", Cond.fieldLink RX0 37 "FerryFloor$State" "places" "[I", Cond.fieldLink RX0 40 "FerryFloor$State" "bookWeights" "[I", Cond.fieldLink RX0 43 "FerryFloor$State" "bookPlaces" "[I", Cond.fieldLink RX0 46 "FerryFloor$State" "accusations" "[I", Cond.fieldLink RX0 49 "FerryFloor$State" "billKilograms" "[I", Cond.fieldLink RX0 52 "FerryFloor$State" "billPrices" "[I", Cond.fieldLink RX0 55 "FerryFloor$State" "backKilograms" "[I", Cond.static yX1_copyRow, Cond.code yX1_copyRow cX1_copyRow 2 none, Cond.methodLink RX1 205 Lib.Math.min.name, Cond.static Lib.Math.min.name, Cond.initialized "java/lang/Math", Cond.code Lib.Math.min.name Lib.Math.min.code 2 (some .int), Cond.methodLink RX1 217 arraycopyName, Cond.native arraycopyName, Cond.static arraycopyName, Cond.initialized "java/lang/System", Cond.methodLink RX1 102 yX1_exchange]
def wsL_two_r4 : List Cond := [Cond.static yX1_exchange, Cond.code yX1_exchange cX1_exchange 4 none, Cond.methodLink RX1 106 yX1_errorWith, Cond.instanceMethod yX1_errorWith, Cond.selects RX1 yX1_errorWith yX1_errorWith, Cond.code yX1_errorWith cX1_errorWith 4 (some .int), Cond.fieldLink RX1 27 "FerryFloor" "readings" "[I", Cond.fieldLink RX1 31 "FerryFloor" "expected" "[I", Cond.methodLink RX1 208 Lib.Math.abs.name, Cond.static Lib.Math.abs.name, Cond.code Lib.Math.abs.name Lib.Math.abs.code 1 (some .int), Cond.methodLink RX1 59 yX1_weighAll, Cond.instanceMethod yX1_weighAll, Cond.selects RX1 yX1_weighAll yX1_weighAll, Cond.code yX1_weighAll cX1_weighAll 1 none, Cond.fieldLink RX1 56 "FerryFloor$State" "zeros" "[I", Cond.fieldLink RX1 83 "FerryFloor$State" "weights" "[I", Cond.methodLink RX1 180 yX1_copyRow, Cond.methodLink RX1 201 yX1_addAllShares, Cond.static yX1_addAllShares, Cond.code yX1_addAllShares cX1_addAllShares 4 none, Cond.methodLink RX1 198 yX1_addShares, Cond.static yX1_addShares, Cond.code yX1_addShares cX1_addShares 7 none]
def wsL_two_r5 : List Cond := [Cond.methodLink RX1 37 yX1_isCell, Cond.static yX1_isCell, Cond.code yX1_isCell cX1_isCell 1 (some .boolean), Cond.methodLink RX1 195 yX1_nearCell, Cond.static yX1_nearCell, Cond.code yX1_nearCell cX1_nearCell 3 (some .int), Cond.methodLink RX1 167 yX1_expectAll, Cond.instanceMethod yX1_expectAll, Cond.selects RX1 yX1_expectAll yX1_expectAll, Cond.code yX1_expectAll cX1_expectAll 2 none, Cond.fieldLink RX1 62 "FerryFloor$State" "tares" "[I", Cond.fieldLink RX1 86 "FerryFloor$State" "bookWeights" "[I", Cond.methodLink RL 29 yX1_accuse, Cond.instanceMethod yX1_accuse, Cond.selects RX1 yX1_accuse yX1_accuse, Cond.code yX1_accuse cX1_accuse 3 (some .int), Cond.fieldLink RX1 113 "FerryFloor$State" "accusations" "[I", Cond.methodLink RL 34 yL_error, Cond.static yL_error, Cond.initialized RL, Cond.code yL_error cL_error 7 (some .int), Cond.methodLink RL 15 yL_gets, Cond.static yL_gets, Cond.code yL_gets cL_gets 7 (some .int)]
def wsL_two_r6 : List Cond := [Cond.methodLink RL 9 yL_share, Cond.static yL_share, Cond.code yL_share cL_share 7 (some .int)]
def wsL_two : List Cond := .code yL_two cL_two 11 (some .boolean) :: ((wsL_two_r1 ++ (wsL_two_r2 ++ (wsL_two_r3 ++ (wsL_two_r4 ++ (wsL_two_r5 ++ wsL_two_r6))))) ++ wsX10 ++ wsX00)
def wsL_clerk_r1 : List Cond := [Cond.constant RL 33 (-100002), Cond.methodLink RL 38 yX1_bill, Cond.instanceMethod yX1_bill, Cond.selects RX1 yX1_bill yX1_bill, Cond.initialized RX1, Cond.code yX1_bill cX1_bill 3 (some .int), Cond.constant RX1 45 (-100001), Cond.fieldLink RX1 10 "FerryFloor" "now" "LFerryFloor$State;", Cond.fieldLink RX1 116 "FerryFloor$State" "billKilograms" "[I", Cond.constant RX1 78 (-100009), Cond.constant RX1 55 (-100002), Cond.fieldLink RX1 123 "FerryFloor$State" "billPrices" "[I", Cond.fieldLink RX1 110 "FerryFloor$State" "price" "I", Cond.fieldLink RX1 86 "FerryFloor$State" "bookWeights" "[I", Cond.methodLink RX1 92 yX1_isWalker, Cond.instanceMethod yX1_isWalker, Cond.selects RX1 yX1_isWalker yX1_isWalker, Cond.code yX1_isWalker cX1_isWalker 2 (some .boolean), Cond.fieldLink RX1 79 "FerryFloor$State" "walkers" "I", Cond.methodLink RX1 95 yX1_isAboard, Cond.instanceMethod yX1_isAboard, Cond.selects RX1 yX1_isAboard yX1_isAboard, Cond.code yX1_isAboard cX1_isAboard 2 (some .boolean), Cond.fieldLink RX1 71 "FerryFloor$State" "places" "[I"]
def wsL_clerk_r2 : List Cond := [Cond.methodLink RX1 46 yX1_remember, Cond.instanceMethod yX1_remember, Cond.selects RX1 yX1_remember yX1_remember, Cond.code yX1_remember cX1_remember 2 none, Cond.fieldLink RX1 24 "FerryFloor" "kept" "I", Cond.fieldLink RX1 20 "FerryFloor" "oldest" "I", Cond.fieldLink RX1 16 "FerryFloor" "history" "[LFerryFloor$State;", Cond.methodLink RX1 138 yX1_slotAfter, Cond.instanceMethod yX1_slotAfter, Cond.selects RX1 yX1_slotAfter yX1_slotAfter, Cond.code yX1_slotAfter cX1_slotAfter 2 (some .int), Cond.methodLink RX1 214 yJ9_floorMod_7cf53, Cond.static yJ9_floorMod_7cf53, Cond.initialized RJ9, Cond.code yJ9_floorMod_7cf53 cJ9_floorMod_7cf53 3 (some .int), Cond.methodLink RX1 141 yX0_copyFrom, Cond.instanceMethod yX0_copyFrom, Cond.selects RX0 yX0_copyFrom yX0_copyFrom, Cond.initialized RX0, Cond.code yX0_copyFrom cX0_copyFrom 2 none, Cond.fieldLink RX0 9 "FerryFloor$State" "minute" "I", Cond.fieldLink RX0 15 "FerryFloor$State" "price" "I", Cond.fieldLink RX0 18 "FerryFloor$State" "walkers" "I", Cond.fieldLink RX0 21 "FerryFloor$State" "zeros" "[I"]
def wsL_clerk_r3 : List Cond := [Cond.fieldLink RX0 25 "FerryFloor$State" "drifts" "[I", Cond.fieldLink RX0 28 "FerryFloor$State" "tares" "[I", Cond.fieldLink RX0 31 "FerryFloor$State" "tareMinutes" "[I", Cond.fieldLink RX0 34 "FerryFloor$State" "weights" "[I", Cond.fieldLink RX0 37 "FerryFloor$State" "places" "[I", Cond.fieldLink RX0 40 "FerryFloor$State" "bookWeights" "[I", Cond.fieldLink RX0 43 "FerryFloor$State" "bookPlaces" "[I", Cond.fieldLink RX0 46 "FerryFloor$State" "accusations" "[I", Cond.fieldLink RX0 49 "FerryFloor$State" "billKilograms" "[I", Cond.fieldLink RX0 52 "FerryFloor$State" "billPrices" "[I", Cond.fieldLink RX0 55 "FerryFloor$State" "backKilograms" "[I", Cond.static yX1_copyRow, Cond.code yX1_copyRow cX1_copyRow 2 none, Cond.methodLink RX1 205 Lib.Math.min.name, Cond.static Lib.Math.min.name, Cond.initialized "java/lang/Math", Cond.code Lib.Math.min.name Lib.Math.min.code 2 (some .int), Cond.methodLink RX1 217 arraycopyName, Cond.native arraycopyName, Cond.static arraycopyName, Cond.initialized "java/lang/System", Cond.methodLink RX1 119 yX1_kilogramsToBill, Cond.instanceMethod yX1_kilogramsToBill, Cond.selects RX1 yX1_kilogramsToBill yX1_kilogramsToBill]
def wsL_clerk_r4 : List Cond := [Cond.code yX1_kilogramsToBill cX1_kilogramsToBill 4 (some .int), Cond.fieldLink RX1 62 "FerryFloor$State" "tares" "[I", Cond.methodLink RX1 129 Lib.Math.max.name, Cond.static Lib.Math.max.name, Cond.code Lib.Math.max.name Lib.Math.max.code 2 (some .int), Cond.methodLink RX1 174 yX1_estimateFor, Cond.instanceMethod yX1_estimateFor, Cond.selects RX1 yX1_estimateFor yX1_estimateFor, Cond.code yX1_estimateFor cX1_estimateFor 6 (some .int), Cond.fieldLink RX1 89 "FerryFloor$State" "bookPlaces" "[I", Cond.fieldLink RX1 27 "FerryFloor" "readings" "[I", Cond.fieldLink RX1 31 "FerryFloor" "expected" "[I", Cond.methodLink RX1 59 yX1_weighAll, Cond.instanceMethod yX1_weighAll, Cond.selects RX1 yX1_weighAll yX1_weighAll, Cond.code yX1_weighAll cX1_weighAll 1 none, Cond.fieldLink RX1 56 "FerryFloor$State" "zeros" "[I", Cond.fieldLink RX1 83 "FerryFloor$State" "weights" "[I", Cond.methodLink RX1 180 yX1_copyRow, Cond.methodLink RX1 201 yX1_addAllShares, Cond.static yX1_addAllShares, Cond.code yX1_addAllShares cX1_addAllShares 4 none, Cond.methodLink RX1 198 yX1_addShares, Cond.static yX1_addShares]
def wsL_clerk_r5 : List Cond := [Cond.code yX1_addShares cX1_addShares 7 none, Cond.methodLink RX1 37 yX1_isCell, Cond.static yX1_isCell, Cond.code yX1_isCell cX1_isCell 1 (some .boolean), Cond.methodLink RX1 195 yX1_nearCell, Cond.static yX1_nearCell, Cond.code yX1_nearCell cX1_nearCell 3 (some .int), Cond.methodLink RX1 167 yX1_expectAll, Cond.instanceMethod yX1_expectAll, Cond.selects RX1 yX1_expectAll yX1_expectAll, Cond.code yX1_expectAll cX1_expectAll 2 none, Cond.methodLink RX1 177 yX1_certaintyFor, Cond.instanceMethod yX1_certaintyFor, Cond.selects RX1 yX1_certaintyFor yX1_certaintyFor, Cond.code yX1_certaintyFor cX1_certaintyFor 4 (some .int), Cond.fieldLink RX1 52 "FerryFloor$State" "minute" "I", Cond.fieldLink RX1 113 "FerryFloor$State" "accusations" "[I", Cond.methodLink RX1 192 yX1_earliestTare, Cond.instanceMethod yX1_earliestTare, Cond.selects RX1 yX1_earliestTare yX1_earliestTare, Cond.code yX1_earliestTare cX1_earliestTare 5 (some .int), Cond.fieldLink RX1 65 "FerryFloor$State" "tareMinutes" "[I", Cond.methodLink RX1 149 yX1_sumOfReadings, Cond.instanceMethod yX1_sumOfReadings]
def wsL_clerk_r6 : List Cond := [Cond.selects RX1 yX1_sumOfReadings yX1_sumOfReadings, Cond.code yX1_sumOfReadings cX1_sumOfReadings 1 (some .int), Cond.methodLink RX1 152 yX1_sumOf, Cond.static yX1_sumOf, Cond.code yX1_sumOf cX1_sumOf 3 (some .int), Cond.methodLink RX1 158 yX1_kilogramsBilled, Cond.instanceMethod yX1_kilogramsBilled, Cond.selects RX1 yX1_kilogramsBilled yX1_kilogramsBilled, Cond.code yX1_kilogramsBilled cX1_kilogramsBilled 3 (some .int), Cond.fieldLink RX1 126 "FerryFloor$State" "backKilograms" "[I", Cond.methodLink RX1 211 yX1_orZero, Cond.static yX1_orZero, Cond.code yX1_orZero cX1_orZero 1 (some .int), Cond.methodLink RL 42 yL_estimate, Cond.static yL_estimate, Cond.initialized RL, Cond.code yL_estimate cL_estimate 7 (some .int), Cond.methodLink RL 9 yL_share, Cond.static yL_share, Cond.code yL_share cL_share 7 (some .int), Cond.methodLink RL 15 yL_gets, Cond.static yL_gets, Cond.code yL_gets cL_gets 7 (some .int), Cond.methodLink RL 46 yL_certainty]
def wsL_clerk_r7 : List Cond := [Cond.static yL_certainty, Cond.code yL_certainty cL_certainty 5 (some .int), Cond.methodLink RL 19 yL_oldest, Cond.static yL_oldest, Cond.code yL_oldest cL_oldest 4 (some .int), Cond.methodLink RL 50 yX1_complain, Cond.instanceMethod yX1_complain, Cond.selects RX1 yX1_complain yX1_complain, Cond.code yX1_complain cX1_complain 2 (some .int), Cond.methodLink RX1 135 yX1_backAmount, Cond.instanceMethod yX1_backAmount, Cond.selects RX1 yX1_backAmount yX1_backAmount, Cond.code yX1_backAmount cX1_backAmount 2 (some .int)]
def wsL_clerk : List Cond := .code yL_clerk cL_clerk 12 (some .boolean) :: ((wsL_clerk_r1 ++ (wsL_clerk_r2 ++ (wsL_clerk_r3 ++ (wsL_clerk_r4 ++ (wsL_clerk_r5 ++ (wsL_clerk_r6 ++ wsL_clerk_r7)))))) ++ wsX10 ++ wsX00)
def wsL_acts_r1 : List Cond := [Cond.constant RL 53 (10000000), Cond.constant RL 33 (-100002), Cond.constant RL 70 (-100003), Cond.constant RL 32 (-100001), Cond.methodLink RL 54 yL_low, Cond.static yL_low, Cond.initialized RL, Cond.code yL_low cL_low 2 (some .int), Cond.constant RL 8 (2147483647), Cond.methodLink RL 57 yX1_setDrift, Cond.instanceMethod yX1_setDrift, Cond.selects RX1 yX1_setDrift yX1_setDrift, Cond.initialized RX1, Cond.code yX1_setDrift cX1_setDrift 4 (some .int), Cond.constant RX1 45 (-100001), Cond.fieldLink RX1 10 "FerryFloor" "now" "LFerryFloor$State;", Cond.fieldLink RX1 49 "FerryFloor$State" "drifts" "[I", Cond.methodLink RX1 37 yX1_isCell, Cond.static yX1_isCell, Cond.code yX1_isCell cX1_isCell 1 (some .boolean), Cond.methodLink RX1 41 yX1_isWithin, Cond.static yX1_isWithin, Cond.code yX1_isWithin cX1_isWithin 3 (some .boolean), Cond.methodLink RX1 46 yX1_remember]
def wsL_acts_r2 : List Cond := [Cond.instanceMethod yX1_remember, Cond.selects RX1 yX1_remember yX1_remember, Cond.code yX1_remember cX1_remember 2 none, Cond.fieldLink RX1 24 "FerryFloor" "kept" "I", Cond.fieldLink RX1 20 "FerryFloor" "oldest" "I", Cond.fieldLink RX1 16 "FerryFloor" "history" "[LFerryFloor$State;", Cond.methodLink RX1 138 yX1_slotAfter, Cond.instanceMethod yX1_slotAfter, Cond.selects RX1 yX1_slotAfter yX1_slotAfter, Cond.code yX1_slotAfter cX1_slotAfter 2 (some .int), Cond.methodLink RX1 214 yJ9_floorMod_7cf53, Cond.static yJ9_floorMod_7cf53, Cond.initialized RJ9, Cond.code yJ9_floorMod_7cf53 cJ9_floorMod_7cf53 3 (some .int), Cond.methodLink RX1 141 yX0_copyFrom, Cond.instanceMethod yX0_copyFrom, Cond.selects RX0 yX0_copyFrom yX0_copyFrom, Cond.initialized RX0, Cond.code yX0_copyFrom cX0_copyFrom 2 none, Cond.fieldLink RX0 9 "FerryFloor$State" "minute" "I", Cond.fieldLink RX0 15 "FerryFloor$State" "price" "I", Cond.fieldLink RX0 18 "FerryFloor$State" "walkers" "I", Cond.fieldLink RX0 21 "FerryFloor$State" "zeros" "[I", Cond.fieldLink RX0 25 "FerryFloor$State" "drifts" "[I"]
def wsL_acts_r3 : List Cond := [Cond.fieldLink RX0 28 "FerryFloor$State" "tares" "[I", Cond.fieldLink RX0 31 "FerryFloor$State" "tareMinutes" "[I", Cond.fieldLink RX0 34 "FerryFloor$State" "weights" "[I", Cond.fieldLink RX0 37 "FerryFloor$State" "places" "[I", Cond.fieldLink RX0 40 "FerryFloor$State" "bookWeights" "[I", Cond.fieldLink RX0 43 "FerryFloor$State" "bookPlaces" "[I", Cond.fieldLink RX0 46 "FerryFloor$State" "accusations" "[I", Cond.fieldLink RX0 49 "FerryFloor$State" "billKilograms" "[I", Cond.fieldLink RX0 52 "FerryFloor$State" "billPrices" "[I", Cond.fieldLink RX0 55 "FerryFloor$State" "backKilograms" "[I", Cond.static yX1_copyRow, Cond.code yX1_copyRow cX1_copyRow 2 none, Cond.methodLink RX1 205 Lib.Math.min.name, Cond.static Lib.Math.min.name, Cond.initialized "java/lang/Math", Cond.code Lib.Math.min.name Lib.Math.min.code 2 (some .int), Cond.methodLink RX1 217 arraycopyName, Cond.native arraycopyName, Cond.static arraycopyName, Cond.initialized "java/lang/System", Cond.methodLink RL 60 yX1_setPrice, Cond.instanceMethod yX1_setPrice, Cond.selects RX1 yX1_setPrice yX1_setPrice, Cond.code yX1_setPrice cX1_setPrice 3 (some .int)]
def wsL_acts_r4 : List Cond := [Cond.fieldLink RX1 110 "FerryFloor$State" "price" "I", Cond.methodLink RL 63 yL_who, Cond.static yL_who, Cond.code yL_who cL_who 6 (some .int), Cond.methodLink RL 67 yX1_board, Cond.instanceMethod yX1_board, Cond.selects RX1 yX1_board yX1_board, Cond.code yX1_board cX1_board 5 (some .int), Cond.fieldLink RX1 71 "FerryFloor$State" "places" "[I", Cond.constant RX1 78 (-100009), Cond.constant RX1 55 (-100002), Cond.fieldLink RX1 79 "FerryFloor$State" "walkers" "I", Cond.constant RX1 82 (-100003), Cond.fieldLink RX1 83 "FerryFloor$State" "weights" "[I", Cond.fieldLink RX1 86 "FerryFloor$State" "bookWeights" "[I", Cond.fieldLink RX1 89 "FerryFloor$State" "bookPlaces" "[I", Cond.methodLink RX1 68 yX1_isWeight, Cond.static yX1_isWeight, Cond.code yX1_isWeight cX1_isWeight 1 (some .boolean), Cond.methodLink RX1 74 yX1_whoIsOn, Cond.static yX1_whoIsOn, Cond.code yX1_whoIsOn cX1_whoIsOn 3 (some .int), Cond.methodLink RL 71 yX1_walk, Cond.instanceMethod yX1_walk]
def wsL_acts_r5 : List Cond := [Cond.selects RX1 yX1_walk yX1_walk, Cond.code yX1_walk cX1_walk 4 (some .int), Cond.methodLink RX1 92 yX1_isWalker, Cond.instanceMethod yX1_isWalker, Cond.selects RX1 yX1_isWalker yX1_isWalker, Cond.code yX1_isWalker cX1_isWalker 2 (some .boolean), Cond.methodLink RX1 95 yX1_isAboard, Cond.instanceMethod yX1_isAboard, Cond.selects RX1 yX1_isAboard yX1_isAboard, Cond.code yX1_isAboard cX1_isAboard 2 (some .boolean), Cond.methodLink RL 74 yX1_leave, Cond.instanceMethod yX1_leave, Cond.selects RX1 yX1_leave yX1_leave, Cond.code yX1_leave cX1_leave 5 (some .int), Cond.methodLink RL 38 yX1_bill, Cond.instanceMethod yX1_bill, Cond.selects RX1 yX1_bill yX1_bill, Cond.code yX1_bill cX1_bill 3 (some .int), Cond.fieldLink RX1 116 "FerryFloor$State" "billKilograms" "[I", Cond.fieldLink RX1 123 "FerryFloor$State" "billPrices" "[I", Cond.methodLink RX1 119 yX1_kilogramsToBill, Cond.instanceMethod yX1_kilogramsToBill, Cond.selects RX1 yX1_kilogramsToBill yX1_kilogramsToBill, Cond.code yX1_kilogramsToBill cX1_kilogramsToBill 4 (some .int)]
def wsL_acts_r6 : List Cond := [Cond.fieldLink RX1 62 "FerryFloor$State" "tares" "[I", Cond.methodLink RX1 129 Lib.Math.max.name, Cond.static Lib.Math.max.name, Cond.code Lib.Math.max.name Lib.Math.max.code 2 (some .int), Cond.methodLink RX1 174 yX1_estimateFor, Cond.instanceMethod yX1_estimateFor, Cond.selects RX1 yX1_estimateFor yX1_estimateFor, Cond.code yX1_estimateFor cX1_estimateFor 6 (some .int), Cond.fieldLink RX1 27 "FerryFloor" "readings" "[I", Cond.fieldLink RX1 31 "FerryFloor" "expected" "[I", Cond.methodLink RX1 59 yX1_weighAll, Cond.instanceMethod yX1_weighAll, Cond.selects RX1 yX1_weighAll yX1_weighAll, Cond.code yX1_weighAll cX1_weighAll 1 none, Cond.fieldLink RX1 56 "FerryFloor$State" "zeros" "[I", Cond.methodLink RX1 180 yX1_copyRow, Cond.methodLink RX1 201 yX1_addAllShares, Cond.static yX1_addAllShares, Cond.code yX1_addAllShares cX1_addAllShares 4 none, Cond.methodLink RX1 198 yX1_addShares, Cond.static yX1_addShares, Cond.code yX1_addShares cX1_addShares 7 none, Cond.methodLink RX1 195 yX1_nearCell, Cond.static yX1_nearCell]
def wsL_acts_r7 : List Cond := [Cond.code yX1_nearCell cX1_nearCell 3 (some .int), Cond.methodLink RX1 167 yX1_expectAll, Cond.instanceMethod yX1_expectAll, Cond.selects RX1 yX1_expectAll yX1_expectAll, Cond.code yX1_expectAll cX1_expectAll 2 none, Cond.methodLink RX1 177 yX1_certaintyFor, Cond.instanceMethod yX1_certaintyFor, Cond.selects RX1 yX1_certaintyFor yX1_certaintyFor, Cond.code yX1_certaintyFor cX1_certaintyFor 4 (some .int), Cond.fieldLink RX1 52 "FerryFloor$State" "minute" "I", Cond.fieldLink RX1 113 "FerryFloor$State" "accusations" "[I", Cond.methodLink RX1 192 yX1_earliestTare, Cond.instanceMethod yX1_earliestTare, Cond.selects RX1 yX1_earliestTare yX1_earliestTare, Cond.code yX1_earliestTare cX1_earliestTare 5 (some .int), Cond.fieldLink RX1 65 "FerryFloor$State" "tareMinutes" "[I", Cond.methodLink RX1 149 yX1_sumOfReadings, Cond.instanceMethod yX1_sumOfReadings, Cond.selects RX1 yX1_sumOfReadings yX1_sumOfReadings, Cond.code yX1_sumOfReadings cX1_sumOfReadings 1 (some .int), Cond.methodLink RX1 152 yX1_sumOf, Cond.static yX1_sumOf, Cond.code yX1_sumOf cX1_sumOf 3 (some .int), Cond.methodLink RX1 158 yX1_kilogramsBilled]
def wsL_acts_r8 : List Cond := [Cond.instanceMethod yX1_kilogramsBilled, Cond.selects RX1 yX1_kilogramsBilled yX1_kilogramsBilled, Cond.code yX1_kilogramsBilled cX1_kilogramsBilled 3 (some .int), Cond.fieldLink RX1 126 "FerryFloor$State" "backKilograms" "[I", Cond.methodLink RX1 211 yX1_orZero, Cond.static yX1_orZero, Cond.code yX1_orZero cX1_orZero 1 (some .int), Cond.methodLink RL 50 yX1_complain, Cond.instanceMethod yX1_complain, Cond.selects RX1 yX1_complain yX1_complain, Cond.code yX1_complain cX1_complain 2 (some .int), Cond.methodLink RX1 135 yX1_backAmount, Cond.instanceMethod yX1_backAmount, Cond.selects RX1 yX1_backAmount yX1_backAmount, Cond.code yX1_backAmount cX1_backAmount 2 (some .int), Cond.methodLink RL 23 yX1_swap, Cond.instanceMethod yX1_swap, Cond.selects RX1 yX1_swap yX1_swap, Cond.code yX1_swap cX1_swap 3 (some .int), Cond.methodLink RX1 98 yX1_isPair, Cond.instanceMethod yX1_isPair, Cond.selects RX1 yX1_isPair yX1_isPair, Cond.code yX1_isPair cX1_isPair 3 (some .boolean), Cond.methodLink RX1 102 yX1_exchange]
def wsL_acts_r9 : List Cond := [Cond.static yX1_exchange, Cond.code yX1_exchange cX1_exchange 4 none, Cond.methodLink RX1 106 yX1_errorWith, Cond.instanceMethod yX1_errorWith, Cond.selects RX1 yX1_errorWith yX1_errorWith, Cond.code yX1_errorWith cX1_errorWith 4 (some .int), Cond.methodLink RX1 208 Lib.Math.abs.name, Cond.static Lib.Math.abs.name, Cond.code Lib.Math.abs.name Lib.Math.abs.code 1 (some .int), Cond.methodLink RL 77 yL_two, Cond.static yL_two, Cond.code yL_two cL_two 11 (some .boolean), Cond.methodLink RL 29 yX1_accuse, Cond.instanceMethod yX1_accuse, Cond.selects RX1 yX1_accuse yX1_accuse, Cond.code yX1_accuse cX1_accuse 3 (some .int), Cond.methodLink RL 34 yL_error, Cond.static yL_error, Cond.code yL_error cL_error 7 (some .int), Cond.methodLink RL 15 yL_gets, Cond.static yL_gets, Cond.code yL_gets cL_gets 7 (some .int), Cond.methodLink RL 9 yL_share, Cond.static yL_share]
def wsL_acts_r10 : List Cond := [Cond.code yL_share cL_share 7 (some .int), Cond.methodLink RL 81 yL_clerk, Cond.static yL_clerk, Cond.code yL_clerk cL_clerk 12 (some .boolean), Cond.methodLink RL 42 yL_estimate, Cond.static yL_estimate, Cond.code yL_estimate cL_estimate 7 (some .int), Cond.methodLink RL 46 yL_certainty, Cond.static yL_certainty, Cond.code yL_certainty cL_certainty 5 (some .int), Cond.methodLink RL 19 yL_oldest, Cond.static yL_oldest, Cond.code yL_oldest cL_oldest 4 (some .int), Cond.methodLink RL 85 yX1_tare, Cond.instanceMethod yX1_tare, Cond.selects RX1 yX1_tare yX1_tare, Cond.code yX1_tare cX1_tare 2 (some .int), Cond.methodLink RL 88 yX1_pass, Cond.instanceMethod yX1_pass, Cond.selects RX1 yX1_pass yX1_pass, Cond.code yX1_pass cX1_pass 3 (some .int)]
def wsL_acts : List Cond := .code yL_acts cL_acts 16 (some .boolean) :: ((wsL_acts_r1 ++ (wsL_acts_r2 ++ (wsL_acts_r3 ++ (wsL_acts_r4 ++ (wsL_acts_r5 ++ (wsL_acts_r6 ++ (wsL_acts_r7 ++ (wsL_acts_r8 ++ (wsL_acts_r9 ++ wsL_acts_r10))))))))) ++ wsX10 ++ wsX00)
def wsL_isSo_r1 : List Cond := [Cond.constant RL 94 (-100009), Cond.constant RL 33 (-100002), Cond.constant RL 32 (-100001), Cond.methodLink RL 15 yL_gets, Cond.static yL_gets, Cond.initialized RL, Cond.code yL_gets cL_gets 7 (some .int), Cond.methodLink RL 9 yL_share, Cond.static yL_share, Cond.code yL_share cL_share 7 (some .int), Cond.methodLink RL 63 yL_who, Cond.static yL_who, Cond.code yL_who cL_who 6 (some .int), Cond.methodLink RL 91 yX1_cell, Cond.instanceMethod yX1_cell, Cond.selects RX1 yX1_cell yX1_cell, Cond.initialized RX1, Cond.code yX1_cell cX1_cell 3 (some .int), Cond.constant RX1 45 (-100001), Cond.fieldLink RX1 27 "FerryFloor" "readings" "[I", Cond.fieldLink RX1 10 "FerryFloor" "now" "LFerryFloor$State;", Cond.fieldLink RX1 56 "FerryFloor$State" "zeros" "[I", Cond.fieldLink RX1 49 "FerryFloor$State" "drifts" "[I", Cond.fieldLink RX1 62 "FerryFloor$State" "tares" "[I"]
def wsL_isSo_r2 : List Cond := [Cond.fieldLink RX1 65 "FerryFloor$State" "tareMinutes" "[I", Cond.fieldLink RX1 89 "FerryFloor$State" "bookPlaces" "[I", Cond.fieldLink RX1 31 "FerryFloor" "expected" "[I", Cond.fieldLink RX1 71 "FerryFloor$State" "places" "[I", Cond.methodLink RX1 37 yX1_isCell, Cond.static yX1_isCell, Cond.code yX1_isCell cX1_isCell 1 (some .boolean), Cond.methodLink RX1 59 yX1_weighAll, Cond.instanceMethod yX1_weighAll, Cond.selects RX1 yX1_weighAll yX1_weighAll, Cond.code yX1_weighAll cX1_weighAll 1 none, Cond.fieldLink RX1 83 "FerryFloor$State" "weights" "[I", Cond.methodLink RX1 180 yX1_copyRow, Cond.static yX1_copyRow, Cond.code yX1_copyRow cX1_copyRow 2 none, Cond.methodLink RX1 205 Lib.Math.min.name, Cond.static Lib.Math.min.name, Cond.initialized "java/lang/Math", Cond.code Lib.Math.min.name Lib.Math.min.code 2 (some .int), Cond.methodLink RX1 217 arraycopyName, Cond.native arraycopyName, Cond.static arraycopyName, Cond.initialized "java/lang/System", Cond.methodLink RX1 201 yX1_addAllShares]
def wsL_isSo_r3 : List Cond := [Cond.static yX1_addAllShares, Cond.code yX1_addAllShares cX1_addAllShares 4 none, Cond.methodLink RX1 198 yX1_addShares, Cond.static yX1_addShares, Cond.code yX1_addShares cX1_addShares 7 none, Cond.methodLink RX1 195 yX1_nearCell, Cond.static yX1_nearCell, Cond.code yX1_nearCell cX1_nearCell 3 (some .int), Cond.constant RX1 78 (-100009), Cond.methodLink RX1 167 yX1_expectAll, Cond.instanceMethod yX1_expectAll, Cond.selects RX1 yX1_expectAll yX1_expectAll, Cond.code yX1_expectAll cX1_expectAll 2 none, Cond.fieldLink RX1 86 "FerryFloor$State" "bookWeights" "[I", Cond.methodLink RX1 74 yX1_whoIsOn, Cond.static yX1_whoIsOn, Cond.code yX1_whoIsOn cX1_whoIsOn 3 (some .int), Cond.methodLink RL 95 yX1_walker, Cond.instanceMethod yX1_walker, Cond.selects RX1 yX1_walker yX1_walker, Cond.code yX1_walker cX1_walker 3 (some .int), Cond.fieldLink RX1 113 "FerryFloor$State" "accusations" "[I", Cond.fieldLink RX1 116 "FerryFloor$State" "billKilograms" "[I", Cond.methodLink RX1 92 yX1_isWalker]
def wsL_isSo_r4 : List Cond := [Cond.instanceMethod yX1_isWalker, Cond.selects RX1 yX1_isWalker yX1_isWalker, Cond.code yX1_isWalker cX1_isWalker 2 (some .boolean), Cond.fieldLink RX1 79 "FerryFloor$State" "walkers" "I", Cond.methodLink RX1 95 yX1_isAboard, Cond.instanceMethod yX1_isAboard, Cond.selects RX1 yX1_isAboard yX1_isAboard, Cond.code yX1_isAboard cX1_isAboard 2 (some .boolean), Cond.methodLink RX1 171 yX1_billAmount, Cond.instanceMethod yX1_billAmount, Cond.selects RX1 yX1_billAmount yX1_billAmount, Cond.code yX1_billAmount cX1_billAmount 2 (some .int), Cond.fieldLink RX1 123 "FerryFloor$State" "billPrices" "[I", Cond.methodLink RX1 211 yX1_orZero, Cond.static yX1_orZero, Cond.code yX1_orZero cX1_orZero 1 (some .int), Cond.methodLink RX1 135 yX1_backAmount, Cond.instanceMethod yX1_backAmount, Cond.selects RX1 yX1_backAmount yX1_backAmount, Cond.code yX1_backAmount cX1_backAmount 2 (some .int), Cond.fieldLink RX1 126 "FerryFloor$State" "backKilograms" "[I", Cond.methodLink RL 98 yX1_estimate, Cond.instanceMethod yX1_estimate, Cond.selects RX1 yX1_estimate yX1_estimate]
def wsL_isSo_r5 : List Cond := [Cond.code yX1_estimate cX1_estimate 2 (some .int), Cond.constant RX1 55 (-100002), Cond.methodLink RX1 174 yX1_estimateFor, Cond.instanceMethod yX1_estimateFor, Cond.selects RX1 yX1_estimateFor yX1_estimateFor, Cond.code yX1_estimateFor cX1_estimateFor 6 (some .int), Cond.methodLink RX1 129 Lib.Math.max.name, Cond.static Lib.Math.max.name, Cond.code Lib.Math.max.name Lib.Math.max.code 2 (some .int), Cond.methodLink RL 42 yL_estimate, Cond.static yL_estimate, Cond.code yL_estimate cL_estimate 7 (some .int), Cond.methodLink RL 100 yX1_certainty, Cond.instanceMethod yX1_certainty, Cond.selects RX1 yX1_certainty yX1_certainty, Cond.code yX1_certainty cX1_certainty 2 (some .int), Cond.methodLink RX1 177 yX1_certaintyFor, Cond.instanceMethod yX1_certaintyFor, Cond.selects RX1 yX1_certaintyFor yX1_certaintyFor, Cond.code yX1_certaintyFor cX1_certaintyFor 4 (some .int), Cond.fieldLink RX1 52 "FerryFloor$State" "minute" "I", Cond.methodLink RX1 192 yX1_earliestTare, Cond.instanceMethod yX1_earliestTare, Cond.selects RX1 yX1_earliestTare yX1_earliestTare]
def wsL_isSo_r6 : List Cond := [Cond.code yX1_earliestTare cX1_earliestTare 5 (some .int), Cond.methodLink RL 46 yL_certainty, Cond.static yL_certainty, Cond.code yL_certainty cL_certainty 5 (some .int), Cond.methodLink RL 19 yL_oldest, Cond.static yL_oldest, Cond.code yL_oldest cL_oldest 4 (some .int), Cond.methodLink RL 102 yX1_count, Cond.instanceMethod yX1_count, Cond.selects RX1 yX1_count yX1_count, Cond.code yX1_count cX1_count 2 (some .int), Cond.fieldLink RX1 24 "FerryFloor" "kept" "I", Cond.fieldLink RX1 110 "FerryFloor$State" "price" "I", Cond.methodLink RX1 145 yX1_walkersAboard, Cond.instanceMethod yX1_walkersAboard, Cond.selects RX1 yX1_walkersAboard yX1_walkersAboard, Cond.code yX1_walkersAboard cX1_walkersAboard 3 (some .int), Cond.methodLink RX1 106 yX1_errorWith, Cond.instanceMethod yX1_errorWith, Cond.selects RX1 yX1_errorWith yX1_errorWith, Cond.code yX1_errorWith cX1_errorWith 4 (some .int), Cond.methodLink RX1 208 Lib.Math.abs.name, Cond.static Lib.Math.abs.name, Cond.code Lib.Math.abs.name Lib.Math.abs.code 1 (some .int)]
def wsL_isSo_r7 : List Cond := [Cond.methodLink RX1 149 yX1_sumOfReadings, Cond.instanceMethod yX1_sumOfReadings, Cond.selects RX1 yX1_sumOfReadings yX1_sumOfReadings, Cond.code yX1_sumOfReadings cX1_sumOfReadings 1 (some .int), Cond.methodLink RX1 152 yX1_sumOf, Cond.static yX1_sumOf, Cond.code yX1_sumOf cX1_sumOf 3 (some .int), Cond.methodLink RX1 155 yX1_walkersMisplaced, Cond.instanceMethod yX1_walkersMisplaced, Cond.selects RX1 yX1_walkersMisplaced yX1_walkersMisplaced, Cond.code yX1_walkersMisplaced cX1_walkersMisplaced 3 (some .int), Cond.methodLink RX1 158 yX1_kilogramsBilled, Cond.instanceMethod yX1_kilogramsBilled, Cond.selects RX1 yX1_kilogramsBilled yX1_kilogramsBilled, Cond.code yX1_kilogramsBilled cX1_kilogramsBilled 3 (some .int), Cond.methodLink RX1 161 yX1_sumOfBillAmounts, Cond.instanceMethod yX1_sumOfBillAmounts, Cond.selects RX1 yX1_sumOfBillAmounts yX1_sumOfBillAmounts, Cond.code yX1_sumOfBillAmounts cX1_sumOfBillAmounts 3 (some .int), Cond.methodLink RX1 164 yX1_sumOfBackAmounts, Cond.instanceMethod yX1_sumOfBackAmounts, Cond.selects RX1 yX1_sumOfBackAmounts yX1_sumOfBackAmounts, Cond.code yX1_sumOfBackAmounts cX1_sumOfBackAmounts 3 (some .int), Cond.methodLink RL 34 yL_error]
def wsL_isSo_r8 : List Cond := [Cond.static yL_error, Cond.code yL_error cL_error 7 (some .int)]
def wsL_isSo : List Cond := .code yL_isSo cL_isSo 19 (some .boolean) :: ((wsL_isSo_r1 ++ (wsL_isSo_r2 ++ (wsL_isSo_r3 ++ (wsL_isSo_r4 ++ (wsL_isSo_r5 ++ (wsL_isSo_r6 ++ (wsL_isSo_r7 ++ wsL_isSo_r8))))))) ++ wsX10 ++ wsX00)
def wsL_law_r1 : List Cond := [Cond.classLink RL 24 RX1, Cond.instantiable RX1 7, Cond.initialized RX1, Cond.arrayClass .int, Cond.constant RL 8 (2147483647), Cond.constant RL 32 (-100001), Cond.methodLink RL 105 yX1_init, Cond.instanceMethod yX1_init, Cond.code yX1_init cX1_init 2 none, Cond.methodLink RX1 1 objectInit, Cond.instanceMethod objectInit, Cond.code objectInit ⟨#[0xb1]⟩ 1 none, Cond.classLink RX1 7 RX0, Cond.instantiable RX0 15, Cond.initialized RX0, Cond.fieldLink RX1 10 "FerryFloor" "now" "LFerryFloor$State;", Cond.fieldLink RX1 16 "FerryFloor" "history" "[LFerryFloor$State;", Cond.fieldLink RX1 20 "FerryFloor" "oldest" "I", Cond.fieldLink RX1 24 "FerryFloor" "kept" "I", Cond.fieldLink RX1 27 "FerryFloor" "readings" "[I", Cond.fieldLink RX1 31 "FerryFloor" "expected" "[I", Cond.fieldLink RX1 34 "FerryFloor" "trial" "[I", Cond.methodLink RX1 9 yX0_init, Cond.instanceMethod yX0_init]
def wsL_law_r2 : List Cond := [Cond.code yX0_init cX0_init 1 none, Cond.methodLink RX0 3 objectInit, Cond.fieldLink RX0 9 "FerryFloor$State" "minute" "I", Cond.fieldLink RX0 15 "FerryFloor$State" "price" "I", Cond.fieldLink RX0 18 "FerryFloor$State" "walkers" "I", Cond.fieldLink RX0 21 "FerryFloor$State" "zeros" "[I", Cond.fieldLink RX0 25 "FerryFloor$State" "drifts" "[I", Cond.fieldLink RX0 28 "FerryFloor$State" "tares" "[I", Cond.fieldLink RX0 31 "FerryFloor$State" "tareMinutes" "[I", Cond.fieldLink RX0 34 "FerryFloor$State" "weights" "[I", Cond.fieldLink RX0 37 "FerryFloor$State" "places" "[I", Cond.fieldLink RX0 40 "FerryFloor$State" "bookWeights" "[I", Cond.fieldLink RX0 43 "FerryFloor$State" "bookPlaces" "[I", Cond.fieldLink RX0 46 "FerryFloor$State" "accusations" "[I", Cond.fieldLink RX0 49 "FerryFloor$State" "billKilograms" "[I", Cond.fieldLink RX0 52 "FerryFloor$State" "billPrices" "[I", Cond.fieldLink RX0 55 "FerryFloor$State" "backKilograms" "[I", Cond.constant RX0 58 (-100009), Cond.static yX1_fillRow, Cond.code yX1_fillRow cX1_fillRow 3 none, Cond.methodLink RL 106 yL_isSo, Cond.static yL_isSo, Cond.initialized RL, Cond.code yL_isSo cL_isSo 19 (some .boolean)]
def wsL_law_r3 : List Cond := [Cond.constant RL 94 (-100009), Cond.constant RL 33 (-100002), Cond.methodLink RL 15 yL_gets, Cond.static yL_gets, Cond.code yL_gets cL_gets 7 (some .int), Cond.methodLink RL 9 yL_share, Cond.static yL_share, Cond.code yL_share cL_share 7 (some .int), Cond.methodLink RL 63 yL_who, Cond.static yL_who, Cond.code yL_who cL_who 6 (some .int), Cond.methodLink RL 91 yX1_cell, Cond.instanceMethod yX1_cell, Cond.selects RX1 yX1_cell yX1_cell, Cond.code yX1_cell cX1_cell 3 (some .int), Cond.constant RX1 45 (-100001), Cond.fieldLink RX1 56 "FerryFloor$State" "zeros" "[I", Cond.fieldLink RX1 49 "FerryFloor$State" "drifts" "[I", Cond.fieldLink RX1 62 "FerryFloor$State" "tares" "[I", Cond.fieldLink RX1 65 "FerryFloor$State" "tareMinutes" "[I", Cond.fieldLink RX1 89 "FerryFloor$State" "bookPlaces" "[I", Cond.fieldLink RX1 71 "FerryFloor$State" "places" "[I", Cond.methodLink RX1 37 yX1_isCell, Cond.static yX1_isCell]
def wsL_law_r4 : List Cond := [Cond.code yX1_isCell cX1_isCell 1 (some .boolean), Cond.methodLink RX1 59 yX1_weighAll, Cond.instanceMethod yX1_weighAll, Cond.selects RX1 yX1_weighAll yX1_weighAll, Cond.code yX1_weighAll cX1_weighAll 1 none, Cond.fieldLink RX1 83 "FerryFloor$State" "weights" "[I", Cond.methodLink RX1 180 yX1_copyRow, Cond.static yX1_copyRow, Cond.code yX1_copyRow cX1_copyRow 2 none, Cond.methodLink RX1 205 Lib.Math.min.name, Cond.static Lib.Math.min.name, Cond.initialized "java/lang/Math", Cond.code Lib.Math.min.name Lib.Math.min.code 2 (some .int), Cond.methodLink RX1 217 arraycopyName, Cond.native arraycopyName, Cond.static arraycopyName, Cond.initialized "java/lang/System", Cond.methodLink RX1 201 yX1_addAllShares, Cond.static yX1_addAllShares, Cond.code yX1_addAllShares cX1_addAllShares 4 none, Cond.methodLink RX1 198 yX1_addShares, Cond.static yX1_addShares, Cond.code yX1_addShares cX1_addShares 7 none, Cond.methodLink RX1 195 yX1_nearCell]
def wsL_law_r5 : List Cond := [Cond.static yX1_nearCell, Cond.code yX1_nearCell cX1_nearCell 3 (some .int), Cond.constant RX1 78 (-100009), Cond.methodLink RX1 167 yX1_expectAll, Cond.instanceMethod yX1_expectAll, Cond.selects RX1 yX1_expectAll yX1_expectAll, Cond.code yX1_expectAll cX1_expectAll 2 none, Cond.fieldLink RX1 86 "FerryFloor$State" "bookWeights" "[I", Cond.methodLink RX1 74 yX1_whoIsOn, Cond.static yX1_whoIsOn, Cond.code yX1_whoIsOn cX1_whoIsOn 3 (some .int), Cond.methodLink RL 95 yX1_walker, Cond.instanceMethod yX1_walker, Cond.selects RX1 yX1_walker yX1_walker, Cond.code yX1_walker cX1_walker 3 (some .int), Cond.fieldLink RX1 113 "FerryFloor$State" "accusations" "[I", Cond.fieldLink RX1 116 "FerryFloor$State" "billKilograms" "[I", Cond.methodLink RX1 92 yX1_isWalker, Cond.instanceMethod yX1_isWalker, Cond.selects RX1 yX1_isWalker yX1_isWalker, Cond.code yX1_isWalker cX1_isWalker 2 (some .boolean), Cond.fieldLink RX1 79 "FerryFloor$State" "walkers" "I", Cond.methodLink RX1 95 yX1_isAboard, Cond.instanceMethod yX1_isAboard]
def wsL_law_r6 : List Cond := [Cond.selects RX1 yX1_isAboard yX1_isAboard, Cond.code yX1_isAboard cX1_isAboard 2 (some .boolean), Cond.methodLink RX1 171 yX1_billAmount, Cond.instanceMethod yX1_billAmount, Cond.selects RX1 yX1_billAmount yX1_billAmount, Cond.code yX1_billAmount cX1_billAmount 2 (some .int), Cond.fieldLink RX1 123 "FerryFloor$State" "billPrices" "[I", Cond.methodLink RX1 211 yX1_orZero, Cond.static yX1_orZero, Cond.code yX1_orZero cX1_orZero 1 (some .int), Cond.methodLink RX1 135 yX1_backAmount, Cond.instanceMethod yX1_backAmount, Cond.selects RX1 yX1_backAmount yX1_backAmount, Cond.code yX1_backAmount cX1_backAmount 2 (some .int), Cond.fieldLink RX1 126 "FerryFloor$State" "backKilograms" "[I", Cond.methodLink RL 98 yX1_estimate, Cond.instanceMethod yX1_estimate, Cond.selects RX1 yX1_estimate yX1_estimate, Cond.code yX1_estimate cX1_estimate 2 (some .int), Cond.constant RX1 55 (-100002), Cond.methodLink RX1 174 yX1_estimateFor, Cond.instanceMethod yX1_estimateFor, Cond.selects RX1 yX1_estimateFor yX1_estimateFor, Cond.code yX1_estimateFor cX1_estimateFor 6 (some .int)]
def wsL_law_r7 : List Cond := [Cond.methodLink RX1 129 Lib.Math.max.name, Cond.static Lib.Math.max.name, Cond.code Lib.Math.max.name Lib.Math.max.code 2 (some .int), Cond.methodLink RL 42 yL_estimate, Cond.static yL_estimate, Cond.code yL_estimate cL_estimate 7 (some .int), Cond.methodLink RL 100 yX1_certainty, Cond.instanceMethod yX1_certainty, Cond.selects RX1 yX1_certainty yX1_certainty, Cond.code yX1_certainty cX1_certainty 2 (some .int), Cond.methodLink RX1 177 yX1_certaintyFor, Cond.instanceMethod yX1_certaintyFor, Cond.selects RX1 yX1_certaintyFor yX1_certaintyFor, Cond.code yX1_certaintyFor cX1_certaintyFor 4 (some .int), Cond.fieldLink RX1 52 "FerryFloor$State" "minute" "I", Cond.methodLink RX1 192 yX1_earliestTare, Cond.instanceMethod yX1_earliestTare, Cond.selects RX1 yX1_earliestTare yX1_earliestTare, Cond.code yX1_earliestTare cX1_earliestTare 5 (some .int), Cond.methodLink RL 46 yL_certainty, Cond.static yL_certainty, Cond.code yL_certainty cL_certainty 5 (some .int), Cond.methodLink RL 19 yL_oldest, Cond.static yL_oldest]
def wsL_law_r8 : List Cond := [Cond.code yL_oldest cL_oldest 4 (some .int), Cond.methodLink RL 102 yX1_count, Cond.instanceMethod yX1_count, Cond.selects RX1 yX1_count yX1_count, Cond.code yX1_count cX1_count 2 (some .int), Cond.fieldLink RX1 110 "FerryFloor$State" "price" "I", Cond.methodLink RX1 145 yX1_walkersAboard, Cond.instanceMethod yX1_walkersAboard, Cond.selects RX1 yX1_walkersAboard yX1_walkersAboard, Cond.code yX1_walkersAboard cX1_walkersAboard 3 (some .int), Cond.methodLink RX1 106 yX1_errorWith, Cond.instanceMethod yX1_errorWith, Cond.selects RX1 yX1_errorWith yX1_errorWith, Cond.code yX1_errorWith cX1_errorWith 4 (some .int), Cond.methodLink RX1 208 Lib.Math.abs.name, Cond.static Lib.Math.abs.name, Cond.code Lib.Math.abs.name Lib.Math.abs.code 1 (some .int), Cond.methodLink RX1 149 yX1_sumOfReadings, Cond.instanceMethod yX1_sumOfReadings, Cond.selects RX1 yX1_sumOfReadings yX1_sumOfReadings, Cond.code yX1_sumOfReadings cX1_sumOfReadings 1 (some .int), Cond.methodLink RX1 152 yX1_sumOf, Cond.static yX1_sumOf, Cond.code yX1_sumOf cX1_sumOf 3 (some .int)]
def wsL_law_r9 : List Cond := [Cond.methodLink RX1 155 yX1_walkersMisplaced, Cond.instanceMethod yX1_walkersMisplaced, Cond.selects RX1 yX1_walkersMisplaced yX1_walkersMisplaced, Cond.code yX1_walkersMisplaced cX1_walkersMisplaced 3 (some .int), Cond.methodLink RX1 158 yX1_kilogramsBilled, Cond.instanceMethod yX1_kilogramsBilled, Cond.selects RX1 yX1_kilogramsBilled yX1_kilogramsBilled, Cond.code yX1_kilogramsBilled cX1_kilogramsBilled 3 (some .int), Cond.methodLink RX1 161 yX1_sumOfBillAmounts, Cond.instanceMethod yX1_sumOfBillAmounts, Cond.selects RX1 yX1_sumOfBillAmounts yX1_sumOfBillAmounts, Cond.code yX1_sumOfBillAmounts cX1_sumOfBillAmounts 3 (some .int), Cond.methodLink RX1 164 yX1_sumOfBackAmounts, Cond.instanceMethod yX1_sumOfBackAmounts, Cond.selects RX1 yX1_sumOfBackAmounts yX1_sumOfBackAmounts, Cond.code yX1_sumOfBackAmounts cX1_sumOfBackAmounts 3 (some .int), Cond.methodLink RL 34 yL_error, Cond.static yL_error, Cond.code yL_error cL_error 7 (some .int), Cond.methodLink RL 110 yL_cell, Cond.static yL_cell, Cond.code yL_cell cL_cell 2 (some .int), Cond.constant RL 7 (40503), Cond.methodLink RL 112 yL_acts]
def wsL_law_r10 : List Cond := [Cond.static yL_acts, Cond.code yL_acts cL_acts 16 (some .boolean), Cond.constant RL 53 (10000000), Cond.constant RL 70 (-100003), Cond.methodLink RL 54 yL_low, Cond.static yL_low, Cond.code yL_low cL_low 2 (some .int), Cond.methodLink RL 57 yX1_setDrift, Cond.instanceMethod yX1_setDrift, Cond.selects RX1 yX1_setDrift yX1_setDrift, Cond.code yX1_setDrift cX1_setDrift 4 (some .int), Cond.methodLink RX1 41 yX1_isWithin, Cond.static yX1_isWithin, Cond.code yX1_isWithin cX1_isWithin 3 (some .boolean), Cond.methodLink RX1 46 yX1_remember, Cond.instanceMethod yX1_remember, Cond.selects RX1 yX1_remember yX1_remember, Cond.code yX1_remember cX1_remember 2 none, Cond.methodLink RX1 138 yX1_slotAfter, Cond.instanceMethod yX1_slotAfter, Cond.selects RX1 yX1_slotAfter yX1_slotAfter, Cond.code yX1_slotAfter cX1_slotAfter 2 (some .int), Cond.methodLink RX1 214 yJ9_floorMod_7cf53, Cond.static yJ9_floorMod_7cf53]
def wsL_law_r11 : List Cond := [Cond.initialized RJ9, Cond.code yJ9_floorMod_7cf53 cJ9_floorMod_7cf53 3 (some .int), Cond.methodLink RX1 141 yX0_copyFrom, Cond.instanceMethod yX0_copyFrom, Cond.selects RX0 yX0_copyFrom yX0_copyFrom, Cond.code yX0_copyFrom cX0_copyFrom 2 none, Cond.methodLink RL 60 yX1_setPrice, Cond.instanceMethod yX1_setPrice, Cond.selects RX1 yX1_setPrice yX1_setPrice, Cond.code yX1_setPrice cX1_setPrice 3 (some .int), Cond.methodLink RL 67 yX1_board, Cond.instanceMethod yX1_board, Cond.selects RX1 yX1_board yX1_board, Cond.code yX1_board cX1_board 5 (some .int), Cond.constant RX1 82 (-100003), Cond.methodLink RX1 68 yX1_isWeight, Cond.static yX1_isWeight, Cond.code yX1_isWeight cX1_isWeight 1 (some .boolean), Cond.methodLink RL 71 yX1_walk, Cond.instanceMethod yX1_walk, Cond.selects RX1 yX1_walk yX1_walk, Cond.code yX1_walk cX1_walk 4 (some .int), Cond.methodLink RL 74 yX1_leave, Cond.instanceMethod yX1_leave]
def wsL_law_r12 : List Cond := [Cond.selects RX1 yX1_leave yX1_leave, Cond.code yX1_leave cX1_leave 5 (some .int), Cond.methodLink RL 38 yX1_bill, Cond.instanceMethod yX1_bill, Cond.selects RX1 yX1_bill yX1_bill, Cond.code yX1_bill cX1_bill 3 (some .int), Cond.methodLink RX1 119 yX1_kilogramsToBill, Cond.instanceMethod yX1_kilogramsToBill, Cond.selects RX1 yX1_kilogramsToBill yX1_kilogramsToBill, Cond.code yX1_kilogramsToBill cX1_kilogramsToBill 4 (some .int), Cond.methodLink RL 50 yX1_complain, Cond.instanceMethod yX1_complain, Cond.selects RX1 yX1_complain yX1_complain, Cond.code yX1_complain cX1_complain 2 (some .int), Cond.methodLink RL 23 yX1_swap, Cond.instanceMethod yX1_swap, Cond.selects RX1 yX1_swap yX1_swap, Cond.code yX1_swap cX1_swap 3 (some .int), Cond.methodLink RX1 98 yX1_isPair, Cond.instanceMethod yX1_isPair, Cond.selects RX1 yX1_isPair yX1_isPair, Cond.code yX1_isPair cX1_isPair 3 (some .boolean), Cond.methodLink RX1 102 yX1_exchange, Cond.static yX1_exchange]
def wsL_law_r13 : List Cond := [Cond.code yX1_exchange cX1_exchange 4 none, Cond.methodLink RL 77 yL_two, Cond.static yL_two, Cond.code yL_two cL_two 11 (some .boolean), Cond.methodLink RL 29 yX1_accuse, Cond.instanceMethod yX1_accuse, Cond.selects RX1 yX1_accuse yX1_accuse, Cond.code yX1_accuse cX1_accuse 3 (some .int), Cond.methodLink RL 81 yL_clerk, Cond.static yL_clerk, Cond.code yL_clerk cL_clerk 12 (some .boolean), Cond.methodLink RL 85 yX1_tare, Cond.instanceMethod yX1_tare, Cond.selects RX1 yX1_tare yX1_tare, Cond.code yX1_tare cX1_tare 2 (some .int), Cond.methodLink RL 88 yX1_pass, Cond.instanceMethod yX1_pass, Cond.selects RX1 yX1_pass yX1_pass, Cond.code yX1_pass cX1_pass 3 (some .int)]
def wsL_law : List Cond := (wsL_law_r1 ++ (wsL_law_r2 ++ (wsL_law_r3 ++ (wsL_law_r4 ++ (wsL_law_r5 ++ (wsL_law_r6 ++ (wsL_law_r7 ++ (wsL_law_r8 ++ (wsL_law_r9 ++ (wsL_law_r10 ++ (wsL_law_r11 ++ (wsL_law_r12 ++ wsL_law_r13)))))))))))) ++ wsX10 ++ wsX00 ++ ([] : List Cond)
abbrev vwCl : List vw_C := [(RX0, TX0, 15), (RX1, TX1, 7)]
end
section
set_option maxRecDepth 20000 in
theorem ggX0_init_X1_fillRow : GoodIn wsX0_init wsX1_fillRow := goodIn_r _ [23] (by decide +kernel) (by decide +kernel)
set_option maxRecDepth 20000 in
theorem gX0_init_X1_fillRow_n59 : GoodIn wsX0_init (wsX1_fillRow) := ggX0_init_X1_fillRow
theorem dX0_init_0 : decode cX0_init 0 = .ok (.aload_n 0, 1) := by decide +kernel
theorem dX0_init_1 : decode cX0_init 1 = .ok (.invokespecial 3, 3) := by decide +kernel
theorem dX0_init_4 : decode cX0_init 4 = .ok (.aload_n 0, 1) := by decide +kernel
theorem dX0_init_5 : decode cX0_init 5 = .ok (.iconst 0, 1) := by decide +kernel
theorem dX0_init_6 : decode cX0_init 6 = .ok (.putfield 9, 3) := by decide +kernel
theorem dX0_init_9 : decode cX0_init 9 = .ok (.aload_n 0, 1) := by decide +kernel
theorem dX0_init_10 : decode cX0_init 10 = .ok (.bipush 10, 2) := by decide +kernel
theorem dX0_init_12 : decode cX0_init 12 = .ok (.putfield 15, 3) := by decide +kernel
theorem dX0_init_15 : decode cX0_init 15 = .ok (.aload_n 0, 1) := by decide +kernel
theorem dX0_init_16 : decode cX0_init 16 = .ok (.iconst 0, 1) := by decide +kernel
theorem dX0_init_17 : decode cX0_init 17 = .ok (.putfield 18, 3) := by decide +kernel
theorem dX0_init_20 : decode cX0_init 20 = .ok (.aload_n 0, 1) := by decide +kernel
theorem dX0_init_21 : decode cX0_init 21 = .ok (.bipush 24, 2) := by decide +kernel
theorem dX0_init_23 : decode cX0_init 23 = .ok (.newarray .int, 2) := by decide +kernel
theorem dX0_init_25 : decode cX0_init 25 = .ok (.putfield 21, 3) := by decide +kernel
theorem dX0_init_28 : decode cX0_init 28 = .ok (.aload_n 0, 1) := by decide +kernel
theorem dX0_init_29 : decode cX0_init 29 = .ok (.bipush 24, 2) := by decide +kernel
theorem dX0_init_31 : decode cX0_init 31 = .ok (.newarray .int, 2) := by decide +kernel
theorem dX0_init_33 : decode cX0_init 33 = .ok (.putfield 25, 3) := by decide +kernel
theorem dX0_init_36 : decode cX0_init 36 = .ok (.aload_n 0, 1) := by decide +kernel
theorem dX0_init_37 : decode cX0_init 37 = .ok (.bipush 24, 2) := by decide +kernel
theorem dX0_init_39 : decode cX0_init 39 = .ok (.newarray .int, 2) := by decide +kernel
theorem dX0_init_41 : decode cX0_init 41 = .ok (.putfield 28, 3) := by decide +kernel
theorem dX0_init_44 : decode cX0_init 44 = .ok (.aload_n 0, 1) := by decide +kernel
theorem dX0_init_45 : decode cX0_init 45 = .ok (.bipush 24, 2) := by decide +kernel
theorem dX0_init_47 : decode cX0_init 47 = .ok (.newarray .int, 2) := by decide +kernel
theorem dX0_init_49 : decode cX0_init 49 = .ok (.putfield 31, 3) := by decide +kernel
theorem dX0_init_52 : decode cX0_init 52 = .ok (.aload_n 0, 1) := by decide +kernel
theorem dX0_init_53 : decode cX0_init 53 = .ok (.bipush 8, 2) := by decide +kernel
theorem dX0_init_55 : decode cX0_init 55 = .ok (.newarray .int, 2) := by decide +kernel
theorem dX0_init_57 : decode cX0_init 57 = .ok (.putfield 34, 3) := by decide +kernel
theorem dX0_init_60 : decode cX0_init 60 = .ok (.aload_n 0, 1) := by decide +kernel
theorem dX0_init_61 : decode cX0_init 61 = .ok (.bipush 8, 2) := by decide +kernel
theorem dX0_init_63 : decode cX0_init 63 = .ok (.newarray .int, 2) := by decide +kernel
theorem dX0_init_65 : decode cX0_init 65 = .ok (.putfield 37, 3) := by decide +kernel
theorem dX0_init_68 : decode cX0_init 68 = .ok (.aload_n 0, 1) := by decide +kernel
theorem dX0_init_69 : decode cX0_init 69 = .ok (.bipush 8, 2) := by decide +kernel
theorem dX0_init_71 : decode cX0_init 71 = .ok (.newarray .int, 2) := by decide +kernel
theorem dX0_init_73 : decode cX0_init 73 = .ok (.putfield 40, 3) := by decide +kernel
theorem dX0_init_76 : decode cX0_init 76 = .ok (.aload_n 0, 1) := by decide +kernel
theorem dX0_init_77 : decode cX0_init 77 = .ok (.bipush 8, 2) := by decide +kernel
theorem dX0_init_79 : decode cX0_init 79 = .ok (.newarray .int, 2) := by decide +kernel
theorem dX0_init_81 : decode cX0_init 81 = .ok (.putfield 43, 3) := by decide +kernel
theorem dX0_init_84 : decode cX0_init 84 = .ok (.aload_n 0, 1) := by decide +kernel
theorem dX0_init_85 : decode cX0_init 85 = .ok (.bipush 8, 2) := by decide +kernel
theorem dX0_init_87 : decode cX0_init 87 = .ok (.newarray .int, 2) := by decide +kernel
theorem dX0_init_89 : decode cX0_init 89 = .ok (.putfield 46, 3) := by decide +kernel
theorem dX0_init_92 : decode cX0_init 92 = .ok (.aload_n 0, 1) := by decide +kernel
theorem dX0_init_93 : decode cX0_init 93 = .ok (.bipush 8, 2) := by decide +kernel
theorem dX0_init_95 : decode cX0_init 95 = .ok (.newarray .int, 2) := by decide +kernel
theorem dX0_init_97 : decode cX0_init 97 = .ok (.putfield 49, 3) := by decide +kernel
theorem dX0_init_100 : decode cX0_init 100 = .ok (.aload_n 0, 1) := by decide +kernel
theorem dX0_init_101 : decode cX0_init 101 = .ok (.bipush 8, 2) := by decide +kernel
theorem dX0_init_103 : decode cX0_init 103 = .ok (.newarray .int, 2) := by decide +kernel
theorem dX0_init_105 : decode cX0_init 105 = .ok (.putfield 52, 3) := by decide +kernel
theorem dX0_init_108 : decode cX0_init 108 = .ok (.aload_n 0, 1) := by decide +kernel
theorem dX0_init_109 : decode cX0_init 109 = .ok (.bipush 8, 2) := by decide +kernel
theorem dX0_init_111 : decode cX0_init 111 = .ok (.newarray .int, 2) := by decide +kernel
theorem dX0_init_113 : decode cX0_init 113 = .ok (.putfield 55, 3) := by decide +kernel
theorem dX0_init_116 : decode cX0_init 116 = .ok (.aload_n 0, 1) := by decide +kernel
theorem dX0_init_117 : decode cX0_init 117 = .ok (.getfield 37, 3) := by decide +kernel
theorem dX0_init_120 : decode cX0_init 120 = .ok (.ldc 58, 2) := by decide +kernel
theorem dX0_init_122 : decode cX0_init 122 = .ok (.invokestatic 59, 3) := by decide +kernel
theorem dX0_init_125 : decode cX0_init 125 = .ok (.aload_n 0, 1) := by decide +kernel
theorem dX0_init_126 : decode cX0_init 126 = .ok (.getfield 43, 3) := by decide +kernel
theorem dX0_init_129 : decode cX0_init 129 = .ok (.ldc 58, 2) := by decide +kernel
theorem dX0_init_131 : decode cX0_init 131 = .ok (.invokestatic 59, 3) := by decide +kernel
theorem dX0_init_134 : decode cX0_init 134 = .ok (.aload_n 0, 1) := by decide +kernel
theorem dX0_init_135 : decode cX0_init 135 = .ok (.getfield 49, 3) := by decide +kernel
theorem dX0_init_138 : decode cX0_init 138 = .ok (.ldc 58, 2) := by decide +kernel
theorem dX0_init_140 : decode cX0_init 140 = .ok (.invokestatic 59, 3) := by decide +kernel
theorem dX0_init_143 : decode cX0_init 143 = .ok (.aload_n 0, 1) := by decide +kernel
theorem dX0_init_144 : decode cX0_init 144 = .ok (.getfield 55, 3) := by decide +kernel
theorem dX0_init_147 : decode cX0_init 147 = .ok (.ldc 58, 2) := by decide +kernel
theorem dX0_init_149 : decode cX0_init 149 = .ok (.invokestatic 59, 3) := by decide +kernel
theorem dX0_init_152 : decode cX0_init 152 = .ok (.return_, 1) := by decide +kernel
set_option maxRecDepth 20000 in
theorem ggX0_copyFrom_X1_copyRow : GoodIn wsX0_copyFrom wsX1_copyRow := goodIn_r _ [18, 19, 20, 21, 22, 23, 24, 25, 26] (by decide +kernel) (by decide +kernel)
set_option maxRecDepth 20000 in
theorem gX0_copyFrom_X1_copyRow_n63 : GoodIn wsX0_copyFrom (wsX1_copyRow) := ggX0_copyFrom_X1_copyRow
theorem dX0_copyFrom_0 : decode cX0_copyFrom 0 = .ok (.aload_n 0, 1) := by decide +kernel
theorem dX0_copyFrom_1 : decode cX0_copyFrom 1 = .ok (.aload_n 1, 1) := by decide +kernel
theorem dX0_copyFrom_2 : decode cX0_copyFrom 2 = .ok (.getfield 9, 3) := by decide +kernel
theorem dX0_copyFrom_5 : decode cX0_copyFrom 5 = .ok (.putfield 9, 3) := by decide +kernel
theorem dX0_copyFrom_8 : decode cX0_copyFrom 8 = .ok (.aload_n 0, 1) := by decide +kernel
theorem dX0_copyFrom_9 : decode cX0_copyFrom 9 = .ok (.aload_n 1, 1) := by decide +kernel
theorem dX0_copyFrom_10 : decode cX0_copyFrom 10 = .ok (.getfield 15, 3) := by decide +kernel
theorem dX0_copyFrom_13 : decode cX0_copyFrom 13 = .ok (.putfield 15, 3) := by decide +kernel
theorem dX0_copyFrom_16 : decode cX0_copyFrom 16 = .ok (.aload_n 0, 1) := by decide +kernel
theorem dX0_copyFrom_17 : decode cX0_copyFrom 17 = .ok (.aload_n 1, 1) := by decide +kernel
theorem dX0_copyFrom_18 : decode cX0_copyFrom 18 = .ok (.getfield 18, 3) := by decide +kernel
theorem dX0_copyFrom_21 : decode cX0_copyFrom 21 = .ok (.putfield 18, 3) := by decide +kernel
theorem dX0_copyFrom_24 : decode cX0_copyFrom 24 = .ok (.aload_n 1, 1) := by decide +kernel
theorem dX0_copyFrom_25 : decode cX0_copyFrom 25 = .ok (.getfield 21, 3) := by decide +kernel
theorem dX0_copyFrom_28 : decode cX0_copyFrom 28 = .ok (.aload_n 0, 1) := by decide +kernel
theorem dX0_copyFrom_29 : decode cX0_copyFrom 29 = .ok (.getfield 21, 3) := by decide +kernel
theorem dX0_copyFrom_32 : decode cX0_copyFrom 32 = .ok (.invokestatic 63, 3) := by decide +kernel
theorem dX0_copyFrom_35 : decode cX0_copyFrom 35 = .ok (.aload_n 1, 1) := by decide +kernel
theorem dX0_copyFrom_36 : decode cX0_copyFrom 36 = .ok (.getfield 25, 3) := by decide +kernel
theorem dX0_copyFrom_39 : decode cX0_copyFrom 39 = .ok (.aload_n 0, 1) := by decide +kernel
theorem dX0_copyFrom_40 : decode cX0_copyFrom 40 = .ok (.getfield 25, 3) := by decide +kernel
theorem dX0_copyFrom_43 : decode cX0_copyFrom 43 = .ok (.invokestatic 63, 3) := by decide +kernel
theorem dX0_copyFrom_46 : decode cX0_copyFrom 46 = .ok (.aload_n 1, 1) := by decide +kernel
theorem dX0_copyFrom_47 : decode cX0_copyFrom 47 = .ok (.getfield 28, 3) := by decide +kernel
theorem dX0_copyFrom_50 : decode cX0_copyFrom 50 = .ok (.aload_n 0, 1) := by decide +kernel
theorem dX0_copyFrom_51 : decode cX0_copyFrom 51 = .ok (.getfield 28, 3) := by decide +kernel
theorem dX0_copyFrom_54 : decode cX0_copyFrom 54 = .ok (.invokestatic 63, 3) := by decide +kernel
theorem dX0_copyFrom_57 : decode cX0_copyFrom 57 = .ok (.aload_n 1, 1) := by decide +kernel
theorem dX0_copyFrom_58 : decode cX0_copyFrom 58 = .ok (.getfield 31, 3) := by decide +kernel
theorem dX0_copyFrom_61 : decode cX0_copyFrom 61 = .ok (.aload_n 0, 1) := by decide +kernel
theorem dX0_copyFrom_62 : decode cX0_copyFrom 62 = .ok (.getfield 31, 3) := by decide +kernel
theorem dX0_copyFrom_65 : decode cX0_copyFrom 65 = .ok (.invokestatic 63, 3) := by decide +kernel
theorem dX0_copyFrom_68 : decode cX0_copyFrom 68 = .ok (.aload_n 1, 1) := by decide +kernel
theorem dX0_copyFrom_69 : decode cX0_copyFrom 69 = .ok (.getfield 34, 3) := by decide +kernel
theorem dX0_copyFrom_72 : decode cX0_copyFrom 72 = .ok (.aload_n 0, 1) := by decide +kernel
theorem dX0_copyFrom_73 : decode cX0_copyFrom 73 = .ok (.getfield 34, 3) := by decide +kernel
theorem dX0_copyFrom_76 : decode cX0_copyFrom 76 = .ok (.invokestatic 63, 3) := by decide +kernel
theorem dX0_copyFrom_79 : decode cX0_copyFrom 79 = .ok (.aload_n 1, 1) := by decide +kernel
theorem dX0_copyFrom_80 : decode cX0_copyFrom 80 = .ok (.getfield 37, 3) := by decide +kernel
theorem dX0_copyFrom_83 : decode cX0_copyFrom 83 = .ok (.aload_n 0, 1) := by decide +kernel
theorem dX0_copyFrom_84 : decode cX0_copyFrom 84 = .ok (.getfield 37, 3) := by decide +kernel
theorem dX0_copyFrom_87 : decode cX0_copyFrom 87 = .ok (.invokestatic 63, 3) := by decide +kernel
theorem dX0_copyFrom_90 : decode cX0_copyFrom 90 = .ok (.aload_n 1, 1) := by decide +kernel
theorem dX0_copyFrom_91 : decode cX0_copyFrom 91 = .ok (.getfield 40, 3) := by decide +kernel
theorem dX0_copyFrom_94 : decode cX0_copyFrom 94 = .ok (.aload_n 0, 1) := by decide +kernel
theorem dX0_copyFrom_95 : decode cX0_copyFrom 95 = .ok (.getfield 40, 3) := by decide +kernel
theorem dX0_copyFrom_98 : decode cX0_copyFrom 98 = .ok (.invokestatic 63, 3) := by decide +kernel
theorem dX0_copyFrom_101 : decode cX0_copyFrom 101 = .ok (.aload_n 1, 1) := by decide +kernel
theorem dX0_copyFrom_102 : decode cX0_copyFrom 102 = .ok (.getfield 43, 3) := by decide +kernel
theorem dX0_copyFrom_105 : decode cX0_copyFrom 105 = .ok (.aload_n 0, 1) := by decide +kernel
theorem dX0_copyFrom_106 : decode cX0_copyFrom 106 = .ok (.getfield 43, 3) := by decide +kernel
theorem dX0_copyFrom_109 : decode cX0_copyFrom 109 = .ok (.invokestatic 63, 3) := by decide +kernel
theorem dX0_copyFrom_112 : decode cX0_copyFrom 112 = .ok (.aload_n 1, 1) := by decide +kernel
theorem dX0_copyFrom_113 : decode cX0_copyFrom 113 = .ok (.getfield 46, 3) := by decide +kernel
theorem dX0_copyFrom_116 : decode cX0_copyFrom 116 = .ok (.aload_n 0, 1) := by decide +kernel
theorem dX0_copyFrom_117 : decode cX0_copyFrom 117 = .ok (.getfield 46, 3) := by decide +kernel
theorem dX0_copyFrom_120 : decode cX0_copyFrom 120 = .ok (.invokestatic 63, 3) := by decide +kernel
theorem dX0_copyFrom_123 : decode cX0_copyFrom 123 = .ok (.aload_n 1, 1) := by decide +kernel
theorem dX0_copyFrom_124 : decode cX0_copyFrom 124 = .ok (.getfield 49, 3) := by decide +kernel
theorem dX0_copyFrom_127 : decode cX0_copyFrom 127 = .ok (.aload_n 0, 1) := by decide +kernel
theorem dX0_copyFrom_128 : decode cX0_copyFrom 128 = .ok (.getfield 49, 3) := by decide +kernel
theorem dX0_copyFrom_131 : decode cX0_copyFrom 131 = .ok (.invokestatic 63, 3) := by decide +kernel
theorem dX0_copyFrom_134 : decode cX0_copyFrom 134 = .ok (.aload_n 1, 1) := by decide +kernel
theorem dX0_copyFrom_135 : decode cX0_copyFrom 135 = .ok (.getfield 52, 3) := by decide +kernel
theorem dX0_copyFrom_138 : decode cX0_copyFrom 138 = .ok (.aload_n 0, 1) := by decide +kernel
theorem dX0_copyFrom_139 : decode cX0_copyFrom 139 = .ok (.getfield 52, 3) := by decide +kernel
theorem dX0_copyFrom_142 : decode cX0_copyFrom 142 = .ok (.invokestatic 63, 3) := by decide +kernel
theorem dX0_copyFrom_145 : decode cX0_copyFrom 145 = .ok (.aload_n 1, 1) := by decide +kernel
theorem dX0_copyFrom_146 : decode cX0_copyFrom 146 = .ok (.getfield 55, 3) := by decide +kernel
theorem dX0_copyFrom_149 : decode cX0_copyFrom 149 = .ok (.aload_n 0, 1) := by decide +kernel
theorem dX0_copyFrom_150 : decode cX0_copyFrom 150 = .ok (.getfield 55, 3) := by decide +kernel
theorem dX0_copyFrom_153 : decode cX0_copyFrom 153 = .ok (.invokestatic 63, 3) := by decide +kernel
theorem dX0_copyFrom_156 : decode cX0_copyFrom 156 = .ok (.return_, 1) := by decide +kernel
set_option maxRecDepth 20000 in
theorem ggX1_init_X0_init : GoodIn wsX1_init wsX0_init := goodIn_r _ [17, 18, 2, 3, 19, 20, 21, 11, 22, 23, 24, 25, 26, 27, 28, 29, 30, 31, 32, 33, 34, 35, 36, 37, 38, 39, 40, 41, 42, 43, 44, 45, 46, 47, 48, 49, 50, 51, 52] (by decide +kernel) (by decide +kernel)
set_option maxRecDepth 20000 in
theorem gX1_init_X0_init : GoodIn wsX1_init (wsX0_init) := ggX1_init_X0_init
theorem dX1_init_0 : decode cX1_init 0 = .ok (.aload_n 0, 1) := by decide +kernel
theorem dX1_init_1 : decode cX1_init 1 = .ok (.invokespecial 1, 3) := by decide +kernel
theorem dX1_init_4 : decode cX1_init 4 = .ok (.aload_n 0, 1) := by decide +kernel
theorem dX1_init_5 : decode cX1_init 5 = .ok (.new 7, 3) := by decide +kernel
theorem dX1_init_8 : decode cX1_init 8 = .ok (.dup, 1) := by decide +kernel
theorem dX1_init_9 : decode cX1_init 9 = .ok (.invokespecial 9, 3) := by decide +kernel
theorem dX1_init_12 : decode cX1_init 12 = .ok (.putfield 10, 3) := by decide +kernel
theorem dX1_init_15 : decode cX1_init 15 = .ok (.aload_n 0, 1) := by decide +kernel
theorem dX1_init_16 : decode cX1_init 16 = .ok (.iconst 5, 1) := by decide +kernel
theorem dX1_init_17 : decode cX1_init 17 = .ok (.anewarray 7, 3) := by decide +kernel
theorem dX1_init_20 : decode cX1_init 20 = .ok (.putfield 16, 3) := by decide +kernel
theorem dX1_init_23 : decode cX1_init 23 = .ok (.aload_n 0, 1) := by decide +kernel
theorem dX1_init_24 : decode cX1_init 24 = .ok (.iconst 0, 1) := by decide +kernel
theorem dX1_init_25 : decode cX1_init 25 = .ok (.putfield 20, 3) := by decide +kernel
theorem dX1_init_28 : decode cX1_init 28 = .ok (.aload_n 0, 1) := by decide +kernel
theorem dX1_init_29 : decode cX1_init 29 = .ok (.iconst 0, 1) := by decide +kernel
theorem dX1_init_30 : decode cX1_init 30 = .ok (.putfield 24, 3) := by decide +kernel
theorem dX1_init_33 : decode cX1_init 33 = .ok (.aload_n 0, 1) := by decide +kernel
theorem dX1_init_34 : decode cX1_init 34 = .ok (.bipush 24, 2) := by decide +kernel
theorem dX1_init_36 : decode cX1_init 36 = .ok (.newarray .int, 2) := by decide +kernel
theorem dX1_init_38 : decode cX1_init 38 = .ok (.putfield 27, 3) := by decide +kernel
theorem dX1_init_41 : decode cX1_init 41 = .ok (.aload_n 0, 1) := by decide +kernel
theorem dX1_init_42 : decode cX1_init 42 = .ok (.bipush 24, 2) := by decide +kernel
theorem dX1_init_44 : decode cX1_init 44 = .ok (.newarray .int, 2) := by decide +kernel
theorem dX1_init_46 : decode cX1_init 46 = .ok (.putfield 31, 3) := by decide +kernel
theorem dX1_init_49 : decode cX1_init 49 = .ok (.aload_n 0, 1) := by decide +kernel
theorem dX1_init_50 : decode cX1_init 50 = .ok (.bipush 8, 2) := by decide +kernel
theorem dX1_init_52 : decode cX1_init 52 = .ok (.newarray .int, 2) := by decide +kernel
theorem dX1_init_54 : decode cX1_init 54 = .ok (.putfield 34, 3) := by decide +kernel
theorem dX1_init_57 : decode cX1_init 57 = .ok (.iconst 0, 1) := by decide +kernel
theorem dX1_init_58 : decode cX1_init 58 = .ok (.istore_n 1, 1) := by decide +kernel
theorem dX1_init_59 : decode cX1_init 59 = .ok (.iload_n 1, 1) := by decide +kernel
theorem dX1_init_60 : decode cX1_init 60 = .ok (.iconst 5, 1) := by decide +kernel
theorem dX1_init_61 : decode cX1_init 61 = .ok (.if_icmp .ge 22, 3) := by decide +kernel
theorem dX1_init_64 : decode cX1_init 64 = .ok (.aload_n 0, 1) := by decide +kernel
theorem dX1_init_65 : decode cX1_init 65 = .ok (.getfield 16, 3) := by decide +kernel
theorem dX1_init_68 : decode cX1_init 68 = .ok (.iload_n 1, 1) := by decide +kernel
theorem dX1_init_69 : decode cX1_init 69 = .ok (.new 7, 3) := by decide +kernel
theorem dX1_init_72 : decode cX1_init 72 = .ok (.dup, 1) := by decide +kernel
theorem dX1_init_73 : decode cX1_init 73 = .ok (.invokespecial 9, 3) := by decide +kernel
theorem dX1_init_76 : decode cX1_init 76 = .ok (.aastore, 1) := by decide +kernel
theorem dX1_init_77 : decode cX1_init 77 = .ok (.iinc 1 1, 3) := by decide +kernel
theorem dX1_init_80 : decode cX1_init 80 = .ok (.goto (-21), 3) := by decide +kernel
theorem dX1_init_83 : decode cX1_init 83 = .ok (.return_, 1) := by decide +kernel
set_option maxRecDepth 20000 in
theorem ggX1_setDrift_X1_isCell : GoodIn wsX1_setDrift wsX1_isCell := goodIn_r _ [7] (by decide +kernel) (by decide +kernel)
set_option maxRecDepth 20000 in
theorem gX1_setDrift_X1_isCell : GoodIn wsX1_setDrift (va_wsS RX1 37 yX1_isCell wsX1_isCell) := goodIn_app (goodIn_of _ (by decide +kernel)) ggX1_setDrift_X1_isCell
set_option maxRecDepth 20000 in
theorem ggX1_setDrift_X1_isWithin : GoodIn wsX1_setDrift wsX1_isWithin := goodIn_r _ [10] (by decide +kernel) (by decide +kernel)
set_option maxRecDepth 20000 in
theorem gX1_setDrift_X1_isWithin : GoodIn wsX1_setDrift (va_wsS RX1 41 yX1_isWithin wsX1_isWithin) := goodIn_app (goodIn_of _ (by decide +kernel)) ggX1_setDrift_X1_isWithin
set_option maxRecDepth 20000 in
theorem ggX1_setDrift_X1_remember : GoodIn wsX1_setDrift wsX1_remember := goodIn_r _ [14, 15, 16, 17, 2, 18, 19, 20, 6, 21, 22, 23, 24, 25, 26, 27, 28, 29, 30, 31, 32, 33, 34, 35, 36, 37, 38, 39, 40, 41, 42, 43, 44, 45, 46, 47, 48, 49, 50, 51, 52, 53, 54, 55, 56, 57, 58, 59, 60, 61, 62, 63, 64, 65, 66, 67, 68, 69, 70, 71, 72, 73, 74, 75, 76, 77] (by decide +kernel) (by decide +kernel)
set_option maxRecDepth 20000 in
theorem gX1_setDrift_X1_remember : GoodIn wsX1_setDrift (wsV RX1 46 RX1 yX1_remember wsX1_remember) := goodIn_app (goodIn_of _ (by decide +kernel)) ggX1_setDrift_X1_remember
theorem dX1_setDrift_0 : decode cX1_setDrift 0 = .ok (.iload_n 1, 1) := by decide +kernel
theorem dX1_setDrift_1 : decode cX1_setDrift 1 = .ok (.invokestatic 37, 3) := by decide +kernel
theorem dX1_setDrift_4 : decode cX1_setDrift 4 = .ok (.ifCond .eq 13, 3) := by decide +kernel
theorem dX1_setDrift_7 : decode cX1_setDrift 7 = .ok (.iload_n 2, 1) := by decide +kernel
theorem dX1_setDrift_8 : decode cX1_setDrift 8 = .ok (.bipush (-3), 2) := by decide +kernel
theorem dX1_setDrift_10 : decode cX1_setDrift 10 = .ok (.iconst 3, 1) := by decide +kernel
theorem dX1_setDrift_11 : decode cX1_setDrift 11 = .ok (.invokestatic 41, 3) := by decide +kernel
theorem dX1_setDrift_14 : decode cX1_setDrift 14 = .ok (.ifCond .ne 6, 3) := by decide +kernel
theorem dX1_setDrift_17 : decode cX1_setDrift 17 = .ok (.ldc 45, 2) := by decide +kernel
theorem dX1_setDrift_19 : decode cX1_setDrift 19 = .ok (.ireturn, 1) := by decide +kernel
theorem dX1_setDrift_20 : decode cX1_setDrift 20 = .ok (.aload_n 0, 1) := by decide +kernel
theorem dX1_setDrift_21 : decode cX1_setDrift 21 = .ok (.invokevirtual 46, 3) := by decide +kernel
theorem dX1_setDrift_24 : decode cX1_setDrift 24 = .ok (.aload_n 0, 1) := by decide +kernel
theorem dX1_setDrift_25 : decode cX1_setDrift 25 = .ok (.getfield 10, 3) := by decide +kernel
theorem dX1_setDrift_28 : decode cX1_setDrift 28 = .ok (.getfield 49, 3) := by decide +kernel
theorem dX1_setDrift_31 : decode cX1_setDrift 31 = .ok (.iload_n 1, 1) := by decide +kernel
theorem dX1_setDrift_32 : decode cX1_setDrift 32 = .ok (.iaload, 1) := by decide +kernel
theorem dX1_setDrift_33 : decode cX1_setDrift 33 = .ok (.istore_n 3, 1) := by decide +kernel
theorem dX1_setDrift_34 : decode cX1_setDrift 34 = .ok (.aload_n 0, 1) := by decide +kernel
theorem dX1_setDrift_35 : decode cX1_setDrift 35 = .ok (.getfield 10, 3) := by decide +kernel
theorem dX1_setDrift_38 : decode cX1_setDrift 38 = .ok (.getfield 49, 3) := by decide +kernel
theorem dX1_setDrift_41 : decode cX1_setDrift 41 = .ok (.iload_n 1, 1) := by decide +kernel
theorem dX1_setDrift_42 : decode cX1_setDrift 42 = .ok (.iload_n 2, 1) := by decide +kernel
theorem dX1_setDrift_43 : decode cX1_setDrift 43 = .ok (.iastore, 1) := by decide +kernel
theorem dX1_setDrift_44 : decode cX1_setDrift 44 = .ok (.iload_n 3, 1) := by decide +kernel
theorem dX1_setDrift_45 : decode cX1_setDrift 45 = .ok (.ireturn, 1) := by decide +kernel
set_option maxRecDepth 20000 in
theorem ggX1_pass_X1_isWithin : GoodIn wsX1_pass wsX1_isWithin := goodIn_r _ [10] (by decide +kernel) (by decide +kernel)
set_option maxRecDepth 20000 in
theorem gX1_pass_X1_isWithin : GoodIn wsX1_pass (va_wsS RX1 41 yX1_isWithin wsX1_isWithin) := goodIn_app (goodIn_of _ (by decide +kernel)) ggX1_pass_X1_isWithin
set_option maxRecDepth 20000 in
theorem ggX1_pass_X1_remember : GoodIn wsX1_pass wsX1_remember := goodIn_r _ [14, 15, 16, 17, 2, 18, 19, 20, 9, 21, 22, 23, 24, 25, 26, 27, 28, 29, 30, 31, 32, 33, 34, 35, 36, 37, 38, 39, 40, 41, 42, 43, 44, 45, 46, 47, 48, 49, 50, 51, 52, 53, 54, 55, 56, 57, 58, 59, 60, 61, 62, 63, 64, 65, 66, 67, 68, 69, 70, 71, 72, 73, 74, 75, 76, 77] (by decide +kernel) (by decide +kernel)
set_option maxRecDepth 20000 in
theorem gX1_pass_X1_remember : GoodIn wsX1_pass (wsV RX1 46 RX1 yX1_remember wsX1_remember) := goodIn_app (goodIn_of _ (by decide +kernel)) ggX1_pass_X1_remember
theorem dX1_pass_0 : decode cX1_pass 0 = .ok (.iload_n 1, 1) := by decide +kernel
theorem dX1_pass_1 : decode cX1_pass 1 = .ok (.iconst 1, 1) := by decide +kernel
theorem dX1_pass_2 : decode cX1_pass 2 = .ok (.bipush 60, 2) := by decide +kernel
theorem dX1_pass_4 : decode cX1_pass 4 = .ok (.invokestatic 41, 3) := by decide +kernel
theorem dX1_pass_7 : decode cX1_pass 7 = .ok (.ifCond .ne 6, 3) := by decide +kernel
theorem dX1_pass_10 : decode cX1_pass 10 = .ok (.ldc 45, 2) := by decide +kernel
theorem dX1_pass_12 : decode cX1_pass 12 = .ok (.ireturn, 1) := by decide +kernel
theorem dX1_pass_13 : decode cX1_pass 13 = .ok (.aload_n 0, 1) := by decide +kernel
theorem dX1_pass_14 : decode cX1_pass 14 = .ok (.getfield 10, 3) := by decide +kernel
theorem dX1_pass_17 : decode cX1_pass 17 = .ok (.getfield 52, 3) := by decide +kernel
theorem dX1_pass_20 : decode cX1_pass 20 = .ok (.iload_n 1, 1) := by decide +kernel
theorem dX1_pass_21 : decode cX1_pass 21 = .ok (.iadd, 1) := by decide +kernel
theorem dX1_pass_22 : decode cX1_pass 22 = .ok (.sipush 2000, 3) := by decide +kernel
theorem dX1_pass_25 : decode cX1_pass 25 = .ok (.if_icmp .le 6, 3) := by decide +kernel
theorem dX1_pass_28 : decode cX1_pass 28 = .ok (.ldc 55, 2) := by decide +kernel
theorem dX1_pass_30 : decode cX1_pass 30 = .ok (.ireturn, 1) := by decide +kernel
theorem dX1_pass_31 : decode cX1_pass 31 = .ok (.aload_n 0, 1) := by decide +kernel
theorem dX1_pass_32 : decode cX1_pass 32 = .ok (.invokevirtual 46, 3) := by decide +kernel
theorem dX1_pass_35 : decode cX1_pass 35 = .ok (.iconst 0, 1) := by decide +kernel
theorem dX1_pass_36 : decode cX1_pass 36 = .ok (.istore_n 2, 1) := by decide +kernel
theorem dX1_pass_37 : decode cX1_pass 37 = .ok (.iload_n 2, 1) := by decide +kernel
theorem dX1_pass_38 : decode cX1_pass 38 = .ok (.bipush 24, 2) := by decide +kernel
theorem dX1_pass_40 : decode cX1_pass 40 = .ok (.if_icmp .ge 32, 3) := by decide +kernel
theorem dX1_pass_43 : decode cX1_pass 43 = .ok (.aload_n 0, 1) := by decide +kernel
theorem dX1_pass_44 : decode cX1_pass 44 = .ok (.getfield 10, 3) := by decide +kernel
theorem dX1_pass_47 : decode cX1_pass 47 = .ok (.getfield 56, 3) := by decide +kernel
theorem dX1_pass_50 : decode cX1_pass 50 = .ok (.iload_n 2, 1) := by decide +kernel
theorem dX1_pass_51 : decode cX1_pass 51 = .ok (.dup2, 1) := by decide +kernel
theorem dX1_pass_52 : decode cX1_pass 52 = .ok (.iaload, 1) := by decide +kernel
theorem dX1_pass_53 : decode cX1_pass 53 = .ok (.aload_n 0, 1) := by decide +kernel
theorem dX1_pass_54 : decode cX1_pass 54 = .ok (.getfield 10, 3) := by decide +kernel
theorem dX1_pass_57 : decode cX1_pass 57 = .ok (.getfield 49, 3) := by decide +kernel
theorem dX1_pass_60 : decode cX1_pass 60 = .ok (.iload_n 2, 1) := by decide +kernel
theorem dX1_pass_61 : decode cX1_pass 61 = .ok (.iaload, 1) := by decide +kernel
theorem dX1_pass_62 : decode cX1_pass 62 = .ok (.iload_n 1, 1) := by decide +kernel
theorem dX1_pass_63 : decode cX1_pass 63 = .ok (.imul, 1) := by decide +kernel
theorem dX1_pass_64 : decode cX1_pass 64 = .ok (.iadd, 1) := by decide +kernel
theorem dX1_pass_65 : decode cX1_pass 65 = .ok (.iastore, 1) := by decide +kernel
theorem dX1_pass_66 : decode cX1_pass 66 = .ok (.iinc 2 1, 3) := by decide +kernel
theorem dX1_pass_69 : decode cX1_pass 69 = .ok (.goto (-32), 3) := by decide +kernel
theorem dX1_pass_72 : decode cX1_pass 72 = .ok (.aload_n 0, 1) := by decide +kernel
theorem dX1_pass_73 : decode cX1_pass 73 = .ok (.getfield 10, 3) := by decide +kernel
theorem dX1_pass_76 : decode cX1_pass 76 = .ok (.dup, 1) := by decide +kernel
theorem dX1_pass_77 : decode cX1_pass 77 = .ok (.getfield 52, 3) := by decide +kernel
theorem dX1_pass_80 : decode cX1_pass 80 = .ok (.iload_n 1, 1) := by decide +kernel
theorem dX1_pass_81 : decode cX1_pass 81 = .ok (.iadd, 1) := by decide +kernel
theorem dX1_pass_82 : decode cX1_pass 82 = .ok (.putfield 52, 3) := by decide +kernel
theorem dX1_pass_85 : decode cX1_pass 85 = .ok (.aload_n 0, 1) := by decide +kernel
theorem dX1_pass_86 : decode cX1_pass 86 = .ok (.getfield 10, 3) := by decide +kernel
theorem dX1_pass_89 : decode cX1_pass 89 = .ok (.getfield 52, 3) := by decide +kernel
theorem dX1_pass_92 : decode cX1_pass 92 = .ok (.ireturn, 1) := by decide +kernel
set_option maxRecDepth 20000 in
theorem ggX1_tare_X1_isCell : GoodIn wsX1_tare wsX1_isCell := goodIn_r _ [12] (by decide +kernel) (by decide +kernel)
set_option maxRecDepth 20000 in
theorem gX1_tare_X1_isCell : GoodIn wsX1_tare (va_wsS RX1 37 yX1_isCell wsX1_isCell) := goodIn_app (goodIn_of _ (by decide +kernel)) ggX1_tare_X1_isCell
set_option maxRecDepth 20000 in
theorem ggX1_tare_X1_weighAll : GoodIn wsX1_tare wsX1_weighAll := goodIn_r _ [16, 3, 4, 2, 17, 18, 19, 20, 11, 21, 22, 23, 24, 25, 26, 27, 28, 29, 30, 31, 32, 33, 34, 35, 9, 10, 12, 36, 37, 38, 39, 75, 76, 77, 78, 79, 80, 81, 82, 83, 84, 85, 86, 87, 88, 89, 90, 91, 92, 93, 94, 95, 96] (by decide +kernel) (by decide +kernel)
set_option maxRecDepth 20000 in
theorem gX1_tare_X1_weighAll : GoodIn wsX1_tare (wsV RX1 59 RX1 yX1_weighAll wsX1_weighAll) := goodIn_app (goodIn_of _ (by decide +kernel)) ggX1_tare_X1_weighAll
set_option maxRecDepth 20000 in
theorem ggX1_tare_X1_remember : GoodIn wsX1_tare wsX1_remember := goodIn_r _ [43, 44, 45, 46, 3, 47, 48, 49, 11, 50, 51, 52, 53, 54, 55, 56, 57, 58, 59, 60, 61, 62, 63, 64, 65, 66, 67, 68, 69, 70, 71, 72, 73, 74, 20, 21, 22, 23, 24, 25, 26, 27, 28, 29, 75, 76, 77, 78, 79, 80, 81, 82, 83, 84, 85, 86, 87, 88, 89, 90, 91, 92, 93, 94, 95, 96] (by decide +kernel) (by decide +kernel)
set_option maxRecDepth 20000 in
theorem gX1_tare_X1_remember : GoodIn wsX1_tare (wsV RX1 46 RX1 yX1_remember wsX1_remember) := goodIn_app (goodIn_of _ (by decide +kernel)) ggX1_tare_X1_remember
theorem dX1_tare_0 : decode cX1_tare 0 = .ok (.iload_n 1, 1) := by decide +kernel
theorem dX1_tare_1 : decode cX1_tare 1 = .ok (.invokestatic 37, 3) := by decide +kernel
theorem dX1_tare_4 : decode cX1_tare 4 = .ok (.ifCond .ne 6, 3) := by decide +kernel
theorem dX1_tare_7 : decode cX1_tare 7 = .ok (.ldc 45, 2) := by decide +kernel
theorem dX1_tare_9 : decode cX1_tare 9 = .ok (.ireturn, 1) := by decide +kernel
theorem dX1_tare_10 : decode cX1_tare 10 = .ok (.aload_n 0, 1) := by decide +kernel
theorem dX1_tare_11 : decode cX1_tare 11 = .ok (.invokevirtual 59, 3) := by decide +kernel
theorem dX1_tare_14 : decode cX1_tare 14 = .ok (.aload_n 0, 1) := by decide +kernel
theorem dX1_tare_15 : decode cX1_tare 15 = .ok (.getfield 27, 3) := by decide +kernel
theorem dX1_tare_18 : decode cX1_tare 18 = .ok (.iload_n 1, 1) := by decide +kernel
theorem dX1_tare_19 : decode cX1_tare 19 = .ok (.iaload, 1) := by decide +kernel
theorem dX1_tare_20 : decode cX1_tare 20 = .ok (.aload_n 0, 1) := by decide +kernel
theorem dX1_tare_21 : decode cX1_tare 21 = .ok (.getfield 10, 3) := by decide +kernel
theorem dX1_tare_24 : decode cX1_tare 24 = .ok (.getfield 56, 3) := by decide +kernel
theorem dX1_tare_27 : decode cX1_tare 27 = .ok (.iload_n 1, 1) := by decide +kernel
theorem dX1_tare_28 : decode cX1_tare 28 = .ok (.iaload, 1) := by decide +kernel
theorem dX1_tare_29 : decode cX1_tare 29 = .ok (.if_icmp .le 6, 3) := by decide +kernel
theorem dX1_tare_32 : decode cX1_tare 32 = .ok (.ldc 55, 2) := by decide +kernel
theorem dX1_tare_34 : decode cX1_tare 34 = .ok (.ireturn, 1) := by decide +kernel
theorem dX1_tare_35 : decode cX1_tare 35 = .ok (.aload_n 0, 1) := by decide +kernel
theorem dX1_tare_36 : decode cX1_tare 36 = .ok (.invokevirtual 46, 3) := by decide +kernel
theorem dX1_tare_39 : decode cX1_tare 39 = .ok (.aload_n 0, 1) := by decide +kernel
theorem dX1_tare_40 : decode cX1_tare 40 = .ok (.getfield 10, 3) := by decide +kernel
theorem dX1_tare_43 : decode cX1_tare 43 = .ok (.getfield 62, 3) := by decide +kernel
theorem dX1_tare_46 : decode cX1_tare 46 = .ok (.iload_n 1, 1) := by decide +kernel
theorem dX1_tare_47 : decode cX1_tare 47 = .ok (.aload_n 0, 1) := by decide +kernel
theorem dX1_tare_48 : decode cX1_tare 48 = .ok (.getfield 27, 3) := by decide +kernel
theorem dX1_tare_51 : decode cX1_tare 51 = .ok (.iload_n 1, 1) := by decide +kernel
theorem dX1_tare_52 : decode cX1_tare 52 = .ok (.iaload, 1) := by decide +kernel
theorem dX1_tare_53 : decode cX1_tare 53 = .ok (.iastore, 1) := by decide +kernel
theorem dX1_tare_54 : decode cX1_tare 54 = .ok (.aload_n 0, 1) := by decide +kernel
theorem dX1_tare_55 : decode cX1_tare 55 = .ok (.getfield 10, 3) := by decide +kernel
theorem dX1_tare_58 : decode cX1_tare 58 = .ok (.getfield 65, 3) := by decide +kernel
theorem dX1_tare_61 : decode cX1_tare 61 = .ok (.iload_n 1, 1) := by decide +kernel
theorem dX1_tare_62 : decode cX1_tare 62 = .ok (.aload_n 0, 1) := by decide +kernel
theorem dX1_tare_63 : decode cX1_tare 63 = .ok (.getfield 10, 3) := by decide +kernel
theorem dX1_tare_66 : decode cX1_tare 66 = .ok (.getfield 52, 3) := by decide +kernel
theorem dX1_tare_69 : decode cX1_tare 69 = .ok (.iastore, 1) := by decide +kernel
theorem dX1_tare_70 : decode cX1_tare 70 = .ok (.aload_n 0, 1) := by decide +kernel
theorem dX1_tare_71 : decode cX1_tare 71 = .ok (.getfield 10, 3) := by decide +kernel
theorem dX1_tare_74 : decode cX1_tare 74 = .ok (.getfield 62, 3) := by decide +kernel
theorem dX1_tare_77 : decode cX1_tare 77 = .ok (.iload_n 1, 1) := by decide +kernel
theorem dX1_tare_78 : decode cX1_tare 78 = .ok (.iaload, 1) := by decide +kernel
theorem dX1_tare_79 : decode cX1_tare 79 = .ok (.ireturn, 1) := by decide +kernel
set_option maxRecDepth 20000 in
theorem ggX1_board_X1_isWeight : GoodIn wsX1_board wsX1_isWeight := goodIn_r _ [14, 15, 16, 13, 17] (by decide +kernel) (by decide +kernel)
set_option maxRecDepth 20000 in
theorem gX1_board_X1_isWeight : GoodIn wsX1_board (va_wsS RX1 68 yX1_isWeight wsX1_isWeight) := goodIn_app (goodIn_of _ (by decide +kernel)) ggX1_board_X1_isWeight
set_option maxRecDepth 20000 in
theorem ggX1_board_X1_isCell : GoodIn wsX1_board wsX1_isCell := goodIn_r _ [20] (by decide +kernel) (by decide +kernel)
set_option maxRecDepth 20000 in
theorem gX1_board_X1_isCell : GoodIn wsX1_board (va_wsS RX1 37 yX1_isCell wsX1_isCell) := goodIn_app (goodIn_of _ (by decide +kernel)) ggX1_board_X1_isCell
set_option maxRecDepth 20000 in
theorem ggX1_board_X1_whoIsOn : GoodIn wsX1_board wsX1_whoIsOn := goodIn_r _ [23, 4] (by decide +kernel) (by decide +kernel)
set_option maxRecDepth 20000 in
theorem gX1_board_X1_whoIsOn : GoodIn wsX1_board (va_wsS RX1 74 yX1_whoIsOn wsX1_whoIsOn) := goodIn_app (goodIn_of _ (by decide +kernel)) ggX1_board_X1_whoIsOn
set_option maxRecDepth 20000 in
theorem ggX1_board_X1_isWithin : GoodIn wsX1_board wsX1_isWithin := goodIn_r _ [17] (by decide +kernel) (by decide +kernel)
set_option maxRecDepth 20000 in
theorem gX1_board_X1_isWithin : GoodIn wsX1_board (va_wsS RX1 41 yX1_isWithin wsX1_isWithin) := goodIn_app (goodIn_of _ (by decide +kernel)) ggX1_board_X1_isWithin
set_option maxRecDepth 20000 in
theorem ggX1_board_X1_remember : GoodIn wsX1_board wsX1_remember := goodIn_r _ [27, 28, 29, 30, 2, 31, 32, 33, 13, 34, 35, 36, 37, 38, 39, 40, 41, 42, 43, 44, 45, 46, 47, 48, 49, 50, 51, 52, 53, 54, 55, 56, 57, 58, 59, 60, 61, 62, 63, 64, 65, 66, 67, 68, 69, 70, 71, 72, 73, 74, 75, 76, 77, 78, 79, 80, 81, 82, 83, 84, 85, 86, 87, 88, 89, 90] (by decide +kernel) (by decide +kernel)
set_option maxRecDepth 20000 in
theorem gX1_board_X1_remember : GoodIn wsX1_board (wsV RX1 46 RX1 yX1_remember wsX1_remember) := goodIn_app (goodIn_of _ (by decide +kernel)) ggX1_board_X1_remember
theorem dX1_board_0 : decode cX1_board 0 = .ok (.iload_n 1, 1) := by decide +kernel
theorem dX1_board_1 : decode cX1_board 1 = .ok (.invokestatic 68, 3) := by decide +kernel
theorem dX1_board_4 : decode cX1_board 4 = .ok (.ifCond .eq 17, 3) := by decide +kernel
theorem dX1_board_7 : decode cX1_board 7 = .ok (.iload_n 2, 1) := by decide +kernel
theorem dX1_board_8 : decode cX1_board 8 = .ok (.invokestatic 68, 3) := by decide +kernel
theorem dX1_board_11 : decode cX1_board 11 = .ok (.ifCond .eq 10, 3) := by decide +kernel
theorem dX1_board_14 : decode cX1_board 14 = .ok (.iload_n 3, 1) := by decide +kernel
theorem dX1_board_15 : decode cX1_board 15 = .ok (.invokestatic 37, 3) := by decide +kernel
theorem dX1_board_18 : decode cX1_board 18 = .ok (.ifCond .ne 6, 3) := by decide +kernel
theorem dX1_board_21 : decode cX1_board 21 = .ok (.ldc 45, 2) := by decide +kernel
theorem dX1_board_23 : decode cX1_board 23 = .ok (.ireturn, 1) := by decide +kernel
theorem dX1_board_24 : decode cX1_board 24 = .ok (.aload_n 0, 1) := by decide +kernel
theorem dX1_board_25 : decode cX1_board 25 = .ok (.getfield 10, 3) := by decide +kernel
theorem dX1_board_28 : decode cX1_board 28 = .ok (.getfield 71, 3) := by decide +kernel
theorem dX1_board_31 : decode cX1_board 31 = .ok (.iload_n 3, 1) := by decide +kernel
theorem dX1_board_32 : decode cX1_board 32 = .ok (.invokestatic 74, 3) := by decide +kernel
theorem dX1_board_35 : decode cX1_board 35 = .ok (.ldc 78, 2) := by decide +kernel
theorem dX1_board_37 : decode cX1_board 37 = .ok (.if_icmp .eq 6, 3) := by decide +kernel
theorem dX1_board_40 : decode cX1_board 40 = .ok (.ldc 55, 2) := by decide +kernel
theorem dX1_board_42 : decode cX1_board 42 = .ok (.ireturn, 1) := by decide +kernel
theorem dX1_board_43 : decode cX1_board 43 = .ok (.aload_n 0, 1) := by decide +kernel
theorem dX1_board_44 : decode cX1_board 44 = .ok (.getfield 10, 3) := by decide +kernel
theorem dX1_board_47 : decode cX1_board 47 = .ok (.getfield 79, 3) := by decide +kernel
theorem dX1_board_50 : decode cX1_board 50 = .ok (.istore 4, 2) := by decide +kernel
theorem dX1_board_52 : decode cX1_board 52 = .ok (.iload 4, 2) := by decide +kernel
theorem dX1_board_54 : decode cX1_board 54 = .ok (.iconst 0, 1) := by decide +kernel
theorem dX1_board_55 : decode cX1_board 55 = .ok (.bipush 7, 2) := by decide +kernel
theorem dX1_board_57 : decode cX1_board 57 = .ok (.invokestatic 41, 3) := by decide +kernel
theorem dX1_board_60 : decode cX1_board 60 = .ok (.ifCond .ne 6, 3) := by decide +kernel
theorem dX1_board_63 : decode cX1_board 63 = .ok (.ldc 82, 2) := by decide +kernel
theorem dX1_board_65 : decode cX1_board 65 = .ok (.ireturn, 1) := by decide +kernel
theorem dX1_board_66 : decode cX1_board 66 = .ok (.aload_n 0, 1) := by decide +kernel
theorem dX1_board_67 : decode cX1_board 67 = .ok (.invokevirtual 46, 3) := by decide +kernel
theorem dX1_board_70 : decode cX1_board 70 = .ok (.aload_n 0, 1) := by decide +kernel
theorem dX1_board_71 : decode cX1_board 71 = .ok (.getfield 10, 3) := by decide +kernel
theorem dX1_board_74 : decode cX1_board 74 = .ok (.getfield 83, 3) := by decide +kernel
theorem dX1_board_77 : decode cX1_board 77 = .ok (.iload 4, 2) := by decide +kernel
theorem dX1_board_79 : decode cX1_board 79 = .ok (.iload_n 1, 1) := by decide +kernel
theorem dX1_board_80 : decode cX1_board 80 = .ok (.iastore, 1) := by decide +kernel
theorem dX1_board_81 : decode cX1_board 81 = .ok (.aload_n 0, 1) := by decide +kernel
theorem dX1_board_82 : decode cX1_board 82 = .ok (.getfield 10, 3) := by decide +kernel
theorem dX1_board_85 : decode cX1_board 85 = .ok (.getfield 71, 3) := by decide +kernel
theorem dX1_board_88 : decode cX1_board 88 = .ok (.iload 4, 2) := by decide +kernel
theorem dX1_board_90 : decode cX1_board 90 = .ok (.iload_n 3, 1) := by decide +kernel
theorem dX1_board_91 : decode cX1_board 91 = .ok (.iastore, 1) := by decide +kernel
theorem dX1_board_92 : decode cX1_board 92 = .ok (.aload_n 0, 1) := by decide +kernel
theorem dX1_board_93 : decode cX1_board 93 = .ok (.getfield 10, 3) := by decide +kernel
theorem dX1_board_96 : decode cX1_board 96 = .ok (.getfield 86, 3) := by decide +kernel
theorem dX1_board_99 : decode cX1_board 99 = .ok (.iload 4, 2) := by decide +kernel
theorem dX1_board_101 : decode cX1_board 101 = .ok (.iload_n 2, 1) := by decide +kernel
theorem dX1_board_102 : decode cX1_board 102 = .ok (.iastore, 1) := by decide +kernel
theorem dX1_board_103 : decode cX1_board 103 = .ok (.aload_n 0, 1) := by decide +kernel
theorem dX1_board_104 : decode cX1_board 104 = .ok (.getfield 10, 3) := by decide +kernel
theorem dX1_board_107 : decode cX1_board 107 = .ok (.getfield 89, 3) := by decide +kernel
theorem dX1_board_110 : decode cX1_board 110 = .ok (.iload 4, 2) := by decide +kernel
theorem dX1_board_112 : decode cX1_board 112 = .ok (.iload_n 3, 1) := by decide +kernel
theorem dX1_board_113 : decode cX1_board 113 = .ok (.iastore, 1) := by decide +kernel
theorem dX1_board_114 : decode cX1_board 114 = .ok (.aload_n 0, 1) := by decide +kernel
theorem dX1_board_115 : decode cX1_board 115 = .ok (.getfield 10, 3) := by decide +kernel
theorem dX1_board_118 : decode cX1_board 118 = .ok (.dup, 1) := by decide +kernel
theorem dX1_board_119 : decode cX1_board 119 = .ok (.getfield 79, 3) := by decide +kernel
theorem dX1_board_122 : decode cX1_board 122 = .ok (.iconst 1, 1) := by decide +kernel
theorem dX1_board_123 : decode cX1_board 123 = .ok (.iadd, 1) := by decide +kernel
theorem dX1_board_124 : decode cX1_board 124 = .ok (.putfield 79, 3) := by decide +kernel
theorem dX1_board_127 : decode cX1_board 127 = .ok (.iload 4, 2) := by decide +kernel
theorem dX1_board_129 : decode cX1_board 129 = .ok (.ireturn, 1) := by decide +kernel
set_option maxRecDepth 20000 in
theorem ggX1_walk_X1_isWalker : GoodIn wsX1_walk wsX1_isWalker := goodIn_r _ [11, 2, 12, 68, 69, 70, 71, 72, 73, 74, 75, 76, 77, 78, 79, 80, 81, 82, 83, 84, 85, 86, 87, 88, 89] (by decide +kernel) (by decide +kernel)
set_option maxRecDepth 20000 in
theorem gX1_walk_X1_isWalker : GoodIn wsX1_walk (wsV RX1 92 RX1 yX1_isWalker wsX1_isWalker) := goodIn_app (goodIn_of _ (by decide +kernel)) ggX1_walk_X1_isWalker
set_option maxRecDepth 20000 in
theorem ggX1_walk_X1_isCell : GoodIn wsX1_walk wsX1_isCell := goodIn_r _ [15] (by decide +kernel) (by decide +kernel)
set_option maxRecDepth 20000 in
theorem gX1_walk_X1_isCell : GoodIn wsX1_walk (va_wsS RX1 37 yX1_isCell wsX1_isCell) := goodIn_app (goodIn_of _ (by decide +kernel)) ggX1_walk_X1_isCell
set_option maxRecDepth 20000 in
theorem ggX1_walk_X1_isAboard : GoodIn wsX1_walk wsX1_isAboard := goodIn_r _ [19, 2, 3, 4, 7, 8, 9, 10, 11, 12, 68, 69, 70, 71, 72, 73, 74, 75, 76, 77, 78, 79, 80, 81, 82, 83, 84, 85, 86, 87, 88, 89] (by decide +kernel) (by decide +kernel)
set_option maxRecDepth 20000 in
theorem gX1_walk_X1_isAboard : GoodIn wsX1_walk (wsV RX1 95 RX1 yX1_isAboard wsX1_isAboard) := goodIn_app (goodIn_of _ (by decide +kernel)) ggX1_walk_X1_isAboard
set_option maxRecDepth 20000 in
theorem ggX1_walk_X1_whoIsOn : GoodIn wsX1_walk wsX1_whoIsOn := goodIn_r _ [22, 4] (by decide +kernel) (by decide +kernel)
set_option maxRecDepth 20000 in
theorem gX1_walk_X1_whoIsOn : GoodIn wsX1_walk (va_wsS RX1 74 yX1_whoIsOn wsX1_whoIsOn) := goodIn_app (goodIn_of _ (by decide +kernel)) ggX1_walk_X1_whoIsOn
set_option maxRecDepth 20000 in
theorem ggX1_walk_X1_remember : GoodIn wsX1_walk wsX1_remember := goodIn_r _ [26, 27, 28, 29, 2, 30, 31, 32, 10, 33, 34, 35, 36, 37, 38, 39, 40, 41, 42, 43, 44, 45, 46, 47, 48, 49, 50, 51, 52, 53, 54, 55, 56, 57, 58, 59, 60, 61, 62, 63, 64, 65, 66, 67, 68, 69, 70, 71, 72, 73, 74, 75, 76, 77, 78, 79, 80, 81, 82, 83, 84, 85, 86, 87, 88, 89] (by decide +kernel) (by decide +kernel)
set_option maxRecDepth 20000 in
theorem gX1_walk_X1_remember : GoodIn wsX1_walk (wsV RX1 46 RX1 yX1_remember wsX1_remember) := goodIn_app (goodIn_of _ (by decide +kernel)) ggX1_walk_X1_remember
theorem dX1_walk_0 : decode cX1_walk 0 = .ok (.aload_n 0, 1) := by decide +kernel
theorem dX1_walk_1 : decode cX1_walk 1 = .ok (.iload_n 1, 1) := by decide +kernel
theorem dX1_walk_2 : decode cX1_walk 2 = .ok (.invokevirtual 92, 3) := by decide +kernel
theorem dX1_walk_5 : decode cX1_walk 5 = .ok (.ifCond .eq 10, 3) := by decide +kernel
theorem dX1_walk_8 : decode cX1_walk 8 = .ok (.iload_n 2, 1) := by decide +kernel
theorem dX1_walk_9 : decode cX1_walk 9 = .ok (.invokestatic 37, 3) := by decide +kernel
theorem dX1_walk_12 : decode cX1_walk 12 = .ok (.ifCond .ne 6, 3) := by decide +kernel
theorem dX1_walk_15 : decode cX1_walk 15 = .ok (.ldc 45, 2) := by decide +kernel
theorem dX1_walk_17 : decode cX1_walk 17 = .ok (.ireturn, 1) := by decide +kernel
theorem dX1_walk_18 : decode cX1_walk 18 = .ok (.aload_n 0, 1) := by decide +kernel
theorem dX1_walk_19 : decode cX1_walk 19 = .ok (.iload_n 1, 1) := by decide +kernel
theorem dX1_walk_20 : decode cX1_walk 20 = .ok (.invokevirtual 95, 3) := by decide +kernel
theorem dX1_walk_23 : decode cX1_walk 23 = .ok (.ifCond .eq 19, 3) := by decide +kernel
theorem dX1_walk_26 : decode cX1_walk 26 = .ok (.aload_n 0, 1) := by decide +kernel
theorem dX1_walk_27 : decode cX1_walk 27 = .ok (.getfield 10, 3) := by decide +kernel
theorem dX1_walk_30 : decode cX1_walk 30 = .ok (.getfield 71, 3) := by decide +kernel
theorem dX1_walk_33 : decode cX1_walk 33 = .ok (.iload_n 2, 1) := by decide +kernel
theorem dX1_walk_34 : decode cX1_walk 34 = .ok (.invokestatic 74, 3) := by decide +kernel
theorem dX1_walk_37 : decode cX1_walk 37 = .ok (.ldc 78, 2) := by decide +kernel
theorem dX1_walk_39 : decode cX1_walk 39 = .ok (.if_icmp .eq 6, 3) := by decide +kernel
theorem dX1_walk_42 : decode cX1_walk 42 = .ok (.ldc 55, 2) := by decide +kernel
theorem dX1_walk_44 : decode cX1_walk 44 = .ok (.ireturn, 1) := by decide +kernel
theorem dX1_walk_45 : decode cX1_walk 45 = .ok (.aload_n 0, 1) := by decide +kernel
theorem dX1_walk_46 : decode cX1_walk 46 = .ok (.invokevirtual 46, 3) := by decide +kernel
theorem dX1_walk_49 : decode cX1_walk 49 = .ok (.aload_n 0, 1) := by decide +kernel
theorem dX1_walk_50 : decode cX1_walk 50 = .ok (.getfield 10, 3) := by decide +kernel
theorem dX1_walk_53 : decode cX1_walk 53 = .ok (.getfield 89, 3) := by decide +kernel
theorem dX1_walk_56 : decode cX1_walk 56 = .ok (.aload_n 0, 1) := by decide +kernel
theorem dX1_walk_57 : decode cX1_walk 57 = .ok (.getfield 10, 3) := by decide +kernel
theorem dX1_walk_60 : decode cX1_walk 60 = .ok (.getfield 71, 3) := by decide +kernel
theorem dX1_walk_63 : decode cX1_walk 63 = .ok (.iload_n 1, 1) := by decide +kernel
theorem dX1_walk_64 : decode cX1_walk 64 = .ok (.iaload, 1) := by decide +kernel
theorem dX1_walk_65 : decode cX1_walk 65 = .ok (.invokestatic 74, 3) := by decide +kernel
theorem dX1_walk_68 : decode cX1_walk 68 = .ok (.istore_n 3, 1) := by decide +kernel
theorem dX1_walk_69 : decode cX1_walk 69 = .ok (.aload_n 0, 1) := by decide +kernel
theorem dX1_walk_70 : decode cX1_walk 70 = .ok (.getfield 10, 3) := by decide +kernel
theorem dX1_walk_73 : decode cX1_walk 73 = .ok (.getfield 71, 3) := by decide +kernel
theorem dX1_walk_76 : decode cX1_walk 76 = .ok (.iload_n 1, 1) := by decide +kernel
theorem dX1_walk_77 : decode cX1_walk 77 = .ok (.iload_n 2, 1) := by decide +kernel
theorem dX1_walk_78 : decode cX1_walk 78 = .ok (.iastore, 1) := by decide +kernel
theorem dX1_walk_79 : decode cX1_walk 79 = .ok (.aload_n 0, 1) := by decide +kernel
theorem dX1_walk_80 : decode cX1_walk 80 = .ok (.iload_n 3, 1) := by decide +kernel
theorem dX1_walk_81 : decode cX1_walk 81 = .ok (.invokevirtual 92, 3) := by decide +kernel
theorem dX1_walk_84 : decode cX1_walk 84 = .ok (.ifCond .eq 13, 3) := by decide +kernel
theorem dX1_walk_87 : decode cX1_walk 87 = .ok (.aload_n 0, 1) := by decide +kernel
theorem dX1_walk_88 : decode cX1_walk 88 = .ok (.getfield 10, 3) := by decide +kernel
theorem dX1_walk_91 : decode cX1_walk 91 = .ok (.getfield 89, 3) := by decide +kernel
theorem dX1_walk_94 : decode cX1_walk 94 = .ok (.iload_n 3, 1) := by decide +kernel
theorem dX1_walk_95 : decode cX1_walk 95 = .ok (.iload_n 2, 1) := by decide +kernel
theorem dX1_walk_96 : decode cX1_walk 96 = .ok (.iastore, 1) := by decide +kernel
theorem dX1_walk_97 : decode cX1_walk 97 = .ok (.iload_n 3, 1) := by decide +kernel
theorem dX1_walk_98 : decode cX1_walk 98 = .ok (.ireturn, 1) := by decide +kernel
set_option maxRecDepth 20000 in
theorem ggX1_swap_X1_isPair : GoodIn wsX1_swap wsX1_isPair := goodIn_r _ [10, 11, 12, 13, 9, 14, 3, 15, 103, 104, 105, 106, 107, 108, 109, 110, 111, 112, 113, 114, 115, 116, 117, 118, 119, 120, 121, 122, 123, 124] (by decide +kernel) (by decide +kernel)
set_option maxRecDepth 20000 in
theorem gX1_swap_X1_isPair : GoodIn wsX1_swap (wsV RX1 98 RX1 yX1_isPair wsX1_isPair) := goodIn_app (goodIn_of _ (by decide +kernel)) ggX1_swap_X1_isPair
set_option maxRecDepth 20000 in
theorem ggX1_swap_X1_isAboard : GoodIn wsX1_swap wsX1_isAboard := goodIn_r _ [19, 3, 4, 20, 11, 12, 13, 9, 14, 15, 103, 104, 105, 106, 107, 108, 109, 110, 111, 112, 113, 114, 115, 116, 117, 118, 119, 120, 121, 122, 123, 124] (by decide +kernel) (by decide +kernel)
set_option maxRecDepth 20000 in
theorem gX1_swap_X1_isAboard : GoodIn wsX1_swap (wsV RX1 95 RX1 yX1_isAboard wsX1_isAboard) := goodIn_app (goodIn_of _ (by decide +kernel)) ggX1_swap_X1_isAboard
set_option maxRecDepth 20000 in
theorem ggX1_swap_X1_remember : GoodIn wsX1_swap wsX1_remember := goodIn_r _ [24, 25, 26, 27, 3, 28, 29, 30, 9, 31, 32, 33, 34, 35, 36, 37, 38, 39, 40, 41, 42, 43, 44, 45, 46, 47, 48, 49, 50, 51, 52, 53, 54, 55, 56, 57, 58, 59, 60, 61, 62, 63, 64, 65, 103, 104, 105, 106, 107, 108, 109, 110, 111, 112, 113, 114, 115, 116, 117, 118, 119, 120, 121, 122, 123, 124] (by decide +kernel) (by decide +kernel)
set_option maxRecDepth 20000 in
theorem gX1_swap_X1_remember : GoodIn wsX1_swap (wsV RX1 46 RX1 yX1_remember wsX1_remember) := goodIn_app (goodIn_of _ (by decide +kernel)) ggX1_swap_X1_remember
set_option maxRecDepth 20000 in
theorem ggX1_swap_X1_exchange : GoodIn wsX1_swap wsX1_exchange := goodIn_r _ [68] (by decide +kernel) (by decide +kernel)
set_option maxRecDepth 20000 in
theorem gX1_swap_X1_exchange : GoodIn wsX1_swap (va_wsS RX1 102 yX1_exchange wsX1_exchange) := goodIn_app (goodIn_of _ (by decide +kernel)) ggX1_swap_X1_exchange
set_option maxRecDepth 20000 in
theorem ggX1_swap_X1_errorWith : GoodIn wsX1_swap wsX1_errorWith := goodIn_r _ [72, 73, 74, 75, 76, 60, 77, 78, 79, 80, 9, 81, 3, 82, 83, 4, 84, 56, 57, 58, 59, 61, 62, 63, 64, 65, 85, 86, 87, 88, 89, 90, 91, 92, 93, 94, 95, 96, 20, 97, 98, 99, 100, 101, 102, 103, 104, 105, 106, 107, 108, 109, 110, 111, 112, 113, 114, 115, 116, 117, 118, 119, 120, 121, 122, 123, 124] (by decide +kernel) (by decide +kernel)
set_option maxRecDepth 20000 in
theorem gX1_swap_X1_errorWith : GoodIn wsX1_swap (wsV RX1 106 RX1 yX1_errorWith wsX1_errorWith) := goodIn_app (goodIn_of _ (by decide +kernel)) ggX1_swap_X1_errorWith
theorem dX1_swap_0 : decode cX1_swap 0 = .ok (.aload_n 0, 1) := by decide +kernel
theorem dX1_swap_1 : decode cX1_swap 1 = .ok (.iload_n 1, 1) := by decide +kernel
theorem dX1_swap_2 : decode cX1_swap 2 = .ok (.iload_n 2, 1) := by decide +kernel
theorem dX1_swap_3 : decode cX1_swap 3 = .ok (.invokevirtual 98, 3) := by decide +kernel
theorem dX1_swap_6 : decode cX1_swap 6 = .ok (.ifCond .ne 6, 3) := by decide +kernel
theorem dX1_swap_9 : decode cX1_swap 9 = .ok (.ldc 45, 2) := by decide +kernel
theorem dX1_swap_11 : decode cX1_swap 11 = .ok (.ireturn, 1) := by decide +kernel
theorem dX1_swap_12 : decode cX1_swap 12 = .ok (.aload_n 0, 1) := by decide +kernel
theorem dX1_swap_13 : decode cX1_swap 13 = .ok (.iload_n 1, 1) := by decide +kernel
theorem dX1_swap_14 : decode cX1_swap 14 = .ok (.invokevirtual 95, 3) := by decide +kernel
theorem dX1_swap_17 : decode cX1_swap 17 = .ok (.ifCond .eq 11, 3) := by decide +kernel
theorem dX1_swap_20 : decode cX1_swap 20 = .ok (.aload_n 0, 1) := by decide +kernel
theorem dX1_swap_21 : decode cX1_swap 21 = .ok (.iload_n 2, 1) := by decide +kernel
theorem dX1_swap_22 : decode cX1_swap 22 = .ok (.invokevirtual 95, 3) := by decide +kernel
theorem dX1_swap_25 : decode cX1_swap 25 = .ok (.ifCond .ne 6, 3) := by decide +kernel
theorem dX1_swap_28 : decode cX1_swap 28 = .ok (.ldc 55, 2) := by decide +kernel
theorem dX1_swap_30 : decode cX1_swap 30 = .ok (.ireturn, 1) := by decide +kernel
theorem dX1_swap_31 : decode cX1_swap 31 = .ok (.aload_n 0, 1) := by decide +kernel
theorem dX1_swap_32 : decode cX1_swap 32 = .ok (.invokevirtual 46, 3) := by decide +kernel
theorem dX1_swap_35 : decode cX1_swap 35 = .ok (.aload_n 0, 1) := by decide +kernel
theorem dX1_swap_36 : decode cX1_swap 36 = .ok (.getfield 10, 3) := by decide +kernel
theorem dX1_swap_39 : decode cX1_swap 39 = .ok (.getfield 71, 3) := by decide +kernel
theorem dX1_swap_42 : decode cX1_swap 42 = .ok (.iload_n 1, 1) := by decide +kernel
theorem dX1_swap_43 : decode cX1_swap 43 = .ok (.iload_n 2, 1) := by decide +kernel
theorem dX1_swap_44 : decode cX1_swap 44 = .ok (.invokestatic 102, 3) := by decide +kernel
theorem dX1_swap_47 : decode cX1_swap 47 = .ok (.aload_n 0, 1) := by decide +kernel
theorem dX1_swap_48 : decode cX1_swap 48 = .ok (.aload_n 0, 1) := by decide +kernel
theorem dX1_swap_49 : decode cX1_swap 49 = .ok (.getfield 10, 3) := by decide +kernel
theorem dX1_swap_52 : decode cX1_swap 52 = .ok (.getfield 89, 3) := by decide +kernel
theorem dX1_swap_55 : decode cX1_swap 55 = .ok (.invokevirtual 106, 3) := by decide +kernel
theorem dX1_swap_58 : decode cX1_swap 58 = .ok (.ireturn, 1) := by decide +kernel
set_option maxRecDepth 20000 in
theorem ggX1_leave_X1_isWalker : GoodIn wsX1_leave wsX1_isWalker := goodIn_r _ [11, 3, 12, 65, 66, 67, 68, 69, 70, 71, 72, 73, 74, 75, 76, 77, 78, 79, 80, 81, 82, 83, 84, 85, 86] (by decide +kernel) (by decide +kernel)
set_option maxRecDepth 20000 in
theorem gX1_leave_X1_isWalker : GoodIn wsX1_leave (wsV RX1 92 RX1 yX1_isWalker wsX1_isWalker) := goodIn_app (goodIn_of _ (by decide +kernel)) ggX1_leave_X1_isWalker
set_option maxRecDepth 20000 in
theorem ggX1_leave_X1_isAboard : GoodIn wsX1_leave wsX1_isAboard := goodIn_r _ [16, 3, 4, 6, 7, 8, 9, 10, 11, 12, 65, 66, 67, 68, 69, 70, 71, 72, 73, 74, 75, 76, 77, 78, 79, 80, 81, 82, 83, 84, 85, 86] (by decide +kernel) (by decide +kernel)
set_option maxRecDepth 20000 in
theorem gX1_leave_X1_isAboard : GoodIn wsX1_leave (wsV RX1 95 RX1 yX1_isAboard wsX1_isAboard) := goodIn_app (goodIn_of _ (by decide +kernel)) ggX1_leave_X1_isAboard
set_option maxRecDepth 20000 in
theorem ggX1_leave_X1_remember : GoodIn wsX1_leave wsX1_remember := goodIn_r _ [20, 21, 22, 23, 3, 24, 25, 26, 10, 27, 28, 29, 30, 31, 32, 33, 34, 35, 36, 37, 38, 39, 40, 41, 42, 43, 44, 45, 46, 47, 48, 49, 50, 51, 52, 53, 54, 55, 56, 57, 58, 59, 60, 61, 65, 66, 67, 68, 69, 70, 71, 72, 73, 74, 75, 76, 77, 78, 79, 80, 81, 82, 83, 84, 85, 86] (by decide +kernel) (by decide +kernel)
set_option maxRecDepth 20000 in
theorem gX1_leave_X1_remember : GoodIn wsX1_leave (wsV RX1 46 RX1 yX1_remember wsX1_remember) := goodIn_app (goodIn_of _ (by decide +kernel)) ggX1_leave_X1_remember
set_option maxRecDepth 20000 in
theorem ggX1_leave_X1_whoIsOn : GoodIn wsX1_leave wsX1_whoIsOn := goodIn_r _ [64, 6] (by decide +kernel) (by decide +kernel)
set_option maxRecDepth 20000 in
theorem gX1_leave_X1_whoIsOn : GoodIn wsX1_leave (va_wsS RX1 74 yX1_whoIsOn wsX1_whoIsOn) := goodIn_app (goodIn_of _ (by decide +kernel)) ggX1_leave_X1_whoIsOn
theorem dX1_leave_0 : decode cX1_leave 0 = .ok (.aload_n 0, 1) := by decide +kernel
theorem dX1_leave_1 : decode cX1_leave 1 = .ok (.iload_n 1, 1) := by decide +kernel
theorem dX1_leave_2 : decode cX1_leave 2 = .ok (.invokevirtual 92, 3) := by decide +kernel
theorem dX1_leave_5 : decode cX1_leave 5 = .ok (.ifCond .ne 6, 3) := by decide +kernel
theorem dX1_leave_8 : decode cX1_leave 8 = .ok (.ldc 45, 2) := by decide +kernel
theorem dX1_leave_10 : decode cX1_leave 10 = .ok (.ireturn, 1) := by decide +kernel
theorem dX1_leave_11 : decode cX1_leave 11 = .ok (.aload_n 0, 1) := by decide +kernel
theorem dX1_leave_12 : decode cX1_leave 12 = .ok (.iload_n 1, 1) := by decide +kernel
theorem dX1_leave_13 : decode cX1_leave 13 = .ok (.invokevirtual 95, 3) := by decide +kernel
theorem dX1_leave_16 : decode cX1_leave 16 = .ok (.ifCond .ne 6, 3) := by decide +kernel
theorem dX1_leave_19 : decode cX1_leave 19 = .ok (.ldc 55, 2) := by decide +kernel
theorem dX1_leave_21 : decode cX1_leave 21 = .ok (.ireturn, 1) := by decide +kernel
theorem dX1_leave_22 : decode cX1_leave 22 = .ok (.aload_n 0, 1) := by decide +kernel
theorem dX1_leave_23 : decode cX1_leave 23 = .ok (.invokevirtual 46, 3) := by decide +kernel
theorem dX1_leave_26 : decode cX1_leave 26 = .ok (.aload_n 0, 1) := by decide +kernel
theorem dX1_leave_27 : decode cX1_leave 27 = .ok (.getfield 10, 3) := by decide +kernel
theorem dX1_leave_30 : decode cX1_leave 30 = .ok (.getfield 71, 3) := by decide +kernel
theorem dX1_leave_33 : decode cX1_leave 33 = .ok (.iload_n 1, 1) := by decide +kernel
theorem dX1_leave_34 : decode cX1_leave 34 = .ok (.iaload, 1) := by decide +kernel
theorem dX1_leave_35 : decode cX1_leave 35 = .ok (.istore_n 2, 1) := by decide +kernel
theorem dX1_leave_36 : decode cX1_leave 36 = .ok (.aload_n 0, 1) := by decide +kernel
theorem dX1_leave_37 : decode cX1_leave 37 = .ok (.getfield 10, 3) := by decide +kernel
theorem dX1_leave_40 : decode cX1_leave 40 = .ok (.getfield 89, 3) := by decide +kernel
theorem dX1_leave_43 : decode cX1_leave 43 = .ok (.iload_n 1, 1) := by decide +kernel
theorem dX1_leave_44 : decode cX1_leave 44 = .ok (.iaload, 1) := by decide +kernel
theorem dX1_leave_45 : decode cX1_leave 45 = .ok (.istore_n 3, 1) := by decide +kernel
theorem dX1_leave_46 : decode cX1_leave 46 = .ok (.aload_n 0, 1) := by decide +kernel
theorem dX1_leave_47 : decode cX1_leave 47 = .ok (.getfield 10, 3) := by decide +kernel
theorem dX1_leave_50 : decode cX1_leave 50 = .ok (.getfield 89, 3) := by decide +kernel
theorem dX1_leave_53 : decode cX1_leave 53 = .ok (.iload_n 2, 1) := by decide +kernel
theorem dX1_leave_54 : decode cX1_leave 54 = .ok (.invokestatic 74, 3) := by decide +kernel
theorem dX1_leave_57 : decode cX1_leave 57 = .ok (.istore 4, 2) := by decide +kernel
theorem dX1_leave_59 : decode cX1_leave 59 = .ok (.aload_n 0, 1) := by decide +kernel
theorem dX1_leave_60 : decode cX1_leave 60 = .ok (.iload 4, 2) := by decide +kernel
theorem dX1_leave_62 : decode cX1_leave 62 = .ok (.invokevirtual 92, 3) := by decide +kernel
theorem dX1_leave_65 : decode cX1_leave 65 = .ok (.ifCond .eq 14, 3) := by decide +kernel
theorem dX1_leave_68 : decode cX1_leave 68 = .ok (.aload_n 0, 1) := by decide +kernel
theorem dX1_leave_69 : decode cX1_leave 69 = .ok (.getfield 10, 3) := by decide +kernel
theorem dX1_leave_72 : decode cX1_leave 72 = .ok (.getfield 89, 3) := by decide +kernel
theorem dX1_leave_75 : decode cX1_leave 75 = .ok (.iload 4, 2) := by decide +kernel
theorem dX1_leave_77 : decode cX1_leave 77 = .ok (.iload_n 3, 1) := by decide +kernel
theorem dX1_leave_78 : decode cX1_leave 78 = .ok (.iastore, 1) := by decide +kernel
theorem dX1_leave_79 : decode cX1_leave 79 = .ok (.aload_n 0, 1) := by decide +kernel
theorem dX1_leave_80 : decode cX1_leave 80 = .ok (.getfield 10, 3) := by decide +kernel
theorem dX1_leave_83 : decode cX1_leave 83 = .ok (.getfield 71, 3) := by decide +kernel
theorem dX1_leave_86 : decode cX1_leave 86 = .ok (.iload_n 1, 1) := by decide +kernel
theorem dX1_leave_87 : decode cX1_leave 87 = .ok (.ldc 78, 2) := by decide +kernel
theorem dX1_leave_89 : decode cX1_leave 89 = .ok (.iastore, 1) := by decide +kernel
theorem dX1_leave_90 : decode cX1_leave 90 = .ok (.aload_n 0, 1) := by decide +kernel
theorem dX1_leave_91 : decode cX1_leave 91 = .ok (.getfield 10, 3) := by decide +kernel
theorem dX1_leave_94 : decode cX1_leave 94 = .ok (.getfield 89, 3) := by decide +kernel
theorem dX1_leave_97 : decode cX1_leave 97 = .ok (.iload_n 1, 1) := by decide +kernel
theorem dX1_leave_98 : decode cX1_leave 98 = .ok (.ldc 78, 2) := by decide +kernel
theorem dX1_leave_100 : decode cX1_leave 100 = .ok (.iastore, 1) := by decide +kernel
theorem dX1_leave_101 : decode cX1_leave 101 = .ok (.iload_n 2, 1) := by decide +kernel
theorem dX1_leave_102 : decode cX1_leave 102 = .ok (.iload_n 3, 1) := by decide +kernel
theorem dX1_leave_103 : decode cX1_leave 103 = .ok (.if_icmp .ne 7, 3) := by decide +kernel
theorem dX1_leave_106 : decode cX1_leave 106 = .ok (.iconst 1, 1) := by decide +kernel
theorem dX1_leave_107 : decode cX1_leave 107 = .ok (.goto 4, 3) := by decide +kernel
theorem dX1_leave_110 : decode cX1_leave 110 = .ok (.iconst 0, 1) := by decide +kernel
theorem dX1_leave_111 : decode cX1_leave 111 = .ok (.ireturn, 1) := by decide +kernel
set_option maxRecDepth 20000 in
theorem ggX1_setPrice_X1_isWithin : GoodIn wsX1_setPrice wsX1_isWithin := goodIn_r _ [7] (by decide +kernel) (by decide +kernel)
set_option maxRecDepth 20000 in
theorem gX1_setPrice_X1_isWithin : GoodIn wsX1_setPrice (va_wsS RX1 41 yX1_isWithin wsX1_isWithin) := goodIn_app (goodIn_of _ (by decide +kernel)) ggX1_setPrice_X1_isWithin
set_option maxRecDepth 20000 in
theorem ggX1_setPrice_X1_remember : GoodIn wsX1_setPrice wsX1_remember := goodIn_r _ [11, 12, 13, 14, 2, 15, 16, 17, 6, 18, 19, 20, 21, 22, 23, 24, 25, 26, 27, 28, 29, 30, 31, 32, 33, 34, 35, 36, 37, 38, 39, 40, 41, 42, 43, 44, 45, 46, 47, 48, 49, 50, 51, 52, 53, 54, 55, 56, 57, 58, 59, 60, 61, 62, 63, 64, 65, 66, 67, 68, 69, 70, 71, 72, 73, 74] (by decide +kernel) (by decide +kernel)
set_option maxRecDepth 20000 in
theorem gX1_setPrice_X1_remember : GoodIn wsX1_setPrice (wsV RX1 46 RX1 yX1_remember wsX1_remember) := goodIn_app (goodIn_of _ (by decide +kernel)) ggX1_setPrice_X1_remember
theorem dX1_setPrice_0 : decode cX1_setPrice 0 = .ok (.iload_n 1, 1) := by decide +kernel
theorem dX1_setPrice_1 : decode cX1_setPrice 1 = .ok (.iconst 0, 1) := by decide +kernel
theorem dX1_setPrice_2 : decode cX1_setPrice 2 = .ok (.bipush 100, 2) := by decide +kernel
theorem dX1_setPrice_4 : decode cX1_setPrice 4 = .ok (.invokestatic 41, 3) := by decide +kernel
theorem dX1_setPrice_7 : decode cX1_setPrice 7 = .ok (.ifCond .ne 6, 3) := by decide +kernel
theorem dX1_setPrice_10 : decode cX1_setPrice 10 = .ok (.ldc 45, 2) := by decide +kernel
theorem dX1_setPrice_12 : decode cX1_setPrice 12 = .ok (.ireturn, 1) := by decide +kernel
theorem dX1_setPrice_13 : decode cX1_setPrice 13 = .ok (.aload_n 0, 1) := by decide +kernel
theorem dX1_setPrice_14 : decode cX1_setPrice 14 = .ok (.invokevirtual 46, 3) := by decide +kernel
theorem dX1_setPrice_17 : decode cX1_setPrice 17 = .ok (.aload_n 0, 1) := by decide +kernel
theorem dX1_setPrice_18 : decode cX1_setPrice 18 = .ok (.getfield 10, 3) := by decide +kernel
theorem dX1_setPrice_21 : decode cX1_setPrice 21 = .ok (.getfield 110, 3) := by decide +kernel
theorem dX1_setPrice_24 : decode cX1_setPrice 24 = .ok (.istore_n 2, 1) := by decide +kernel
theorem dX1_setPrice_25 : decode cX1_setPrice 25 = .ok (.aload_n 0, 1) := by decide +kernel
theorem dX1_setPrice_26 : decode cX1_setPrice 26 = .ok (.getfield 10, 3) := by decide +kernel
theorem dX1_setPrice_29 : decode cX1_setPrice 29 = .ok (.iload_n 1, 1) := by decide +kernel
theorem dX1_setPrice_30 : decode cX1_setPrice 30 = .ok (.putfield 110, 3) := by decide +kernel
theorem dX1_setPrice_33 : decode cX1_setPrice 33 = .ok (.iload_n 2, 1) := by decide +kernel
theorem dX1_setPrice_34 : decode cX1_setPrice 34 = .ok (.ireturn, 1) := by decide +kernel
set_option maxRecDepth 20000 in
theorem ggX1_accuse_X1_isPair : GoodIn wsX1_accuse wsX1_isPair := goodIn_r _ [10, 11, 12, 13, 9, 14, 3, 15, 104, 105, 106, 107, 108, 109, 110, 111, 112, 113, 114, 115, 116, 117, 118, 119, 120, 121, 122, 123, 124, 125] (by decide +kernel) (by decide +kernel)
set_option maxRecDepth 20000 in
theorem gX1_accuse_X1_isPair : GoodIn wsX1_accuse (wsV RX1 98 RX1 yX1_isPair wsX1_isPair) := goodIn_app (goodIn_of _ (by decide +kernel)) ggX1_accuse_X1_isPair
set_option maxRecDepth 20000 in
theorem ggX1_accuse_X1_isAboard : GoodIn wsX1_accuse wsX1_isAboard := goodIn_r _ [19, 3, 20, 21, 11, 12, 13, 9, 14, 15, 104, 105, 106, 107, 108, 109, 110, 111, 112, 113, 114, 115, 116, 117, 118, 119, 120, 121, 122, 123, 124, 125] (by decide +kernel) (by decide +kernel)
set_option maxRecDepth 20000 in
theorem gX1_accuse_X1_isAboard : GoodIn wsX1_accuse (wsV RX1 95 RX1 yX1_isAboard wsX1_isAboard) := goodIn_app (goodIn_of _ (by decide +kernel)) ggX1_accuse_X1_isAboard
set_option maxRecDepth 20000 in
theorem ggX1_accuse_X1_remember : GoodIn wsX1_accuse wsX1_remember := goodIn_r _ [25, 26, 27, 28, 3, 29, 30, 31, 9, 32, 33, 34, 35, 36, 37, 38, 39, 40, 41, 42, 43, 44, 45, 46, 47, 48, 49, 50, 51, 52, 53, 54, 55, 56, 57, 58, 59, 60, 61, 62, 63, 64, 65, 66, 104, 105, 106, 107, 108, 109, 110, 111, 112, 113, 114, 115, 116, 117, 118, 119, 120, 121, 122, 123, 124, 125] (by decide +kernel) (by decide +kernel)
set_option maxRecDepth 20000 in
theorem gX1_accuse_X1_remember : GoodIn wsX1_accuse (wsV RX1 46 RX1 yX1_remember wsX1_remember) := goodIn_app (goodIn_of _ (by decide +kernel)) ggX1_accuse_X1_remember
set_option maxRecDepth 20000 in
theorem ggX1_accuse_X1_exchange : GoodIn wsX1_accuse wsX1_exchange := goodIn_r _ [69] (by decide +kernel) (by decide +kernel)
set_option maxRecDepth 20000 in
theorem gX1_accuse_X1_exchange : GoodIn wsX1_accuse (va_wsS RX1 102 yX1_exchange wsX1_exchange) := goodIn_app (goodIn_of _ (by decide +kernel)) ggX1_accuse_X1_exchange
set_option maxRecDepth 20000 in
theorem ggX1_accuse_X1_errorWith : GoodIn wsX1_accuse wsX1_errorWith := goodIn_r _ [73, 74, 75, 76, 77, 61, 78, 79, 80, 81, 9, 82, 3, 83, 84, 20, 85, 57, 58, 59, 60, 62, 63, 64, 65, 66, 86, 87, 88, 89, 90, 91, 92, 93, 94, 95, 96, 97, 21, 98, 99, 100, 101, 102, 103, 104, 105, 106, 107, 108, 109, 110, 111, 112, 113, 114, 115, 116, 117, 118, 119, 120, 121, 122, 123, 124, 125] (by decide +kernel) (by decide +kernel)
set_option maxRecDepth 20000 in
theorem gX1_accuse_X1_errorWith : GoodIn wsX1_accuse (wsV RX1 106 RX1 yX1_errorWith wsX1_errorWith) := goodIn_app (goodIn_of _ (by decide +kernel)) ggX1_accuse_X1_errorWith
theorem dX1_accuse_0 : decode cX1_accuse 0 = .ok (.aload_n 0, 1) := by decide +kernel
theorem dX1_accuse_1 : decode cX1_accuse 1 = .ok (.iload_n 1, 1) := by decide +kernel
theorem dX1_accuse_2 : decode cX1_accuse 2 = .ok (.iload_n 2, 1) := by decide +kernel
theorem dX1_accuse_3 : decode cX1_accuse 3 = .ok (.invokevirtual 98, 3) := by decide +kernel
theorem dX1_accuse_6 : decode cX1_accuse 6 = .ok (.ifCond .ne 6, 3) := by decide +kernel
theorem dX1_accuse_9 : decode cX1_accuse 9 = .ok (.ldc 45, 2) := by decide +kernel
theorem dX1_accuse_11 : decode cX1_accuse 11 = .ok (.ireturn, 1) := by decide +kernel
theorem dX1_accuse_12 : decode cX1_accuse 12 = .ok (.aload_n 0, 1) := by decide +kernel
theorem dX1_accuse_13 : decode cX1_accuse 13 = .ok (.iload_n 1, 1) := by decide +kernel
theorem dX1_accuse_14 : decode cX1_accuse 14 = .ok (.invokevirtual 95, 3) := by decide +kernel
theorem dX1_accuse_17 : decode cX1_accuse 17 = .ok (.ifCond .eq 11, 3) := by decide +kernel
theorem dX1_accuse_20 : decode cX1_accuse 20 = .ok (.aload_n 0, 1) := by decide +kernel
theorem dX1_accuse_21 : decode cX1_accuse 21 = .ok (.iload_n 2, 1) := by decide +kernel
theorem dX1_accuse_22 : decode cX1_accuse 22 = .ok (.invokevirtual 95, 3) := by decide +kernel
theorem dX1_accuse_25 : decode cX1_accuse 25 = .ok (.ifCond .ne 6, 3) := by decide +kernel
theorem dX1_accuse_28 : decode cX1_accuse 28 = .ok (.ldc 55, 2) := by decide +kernel
theorem dX1_accuse_30 : decode cX1_accuse 30 = .ok (.ireturn, 1) := by decide +kernel
theorem dX1_accuse_31 : decode cX1_accuse 31 = .ok (.aload_n 0, 1) := by decide +kernel
theorem dX1_accuse_32 : decode cX1_accuse 32 = .ok (.invokevirtual 46, 3) := by decide +kernel
theorem dX1_accuse_35 : decode cX1_accuse 35 = .ok (.aload_n 0, 1) := by decide +kernel
theorem dX1_accuse_36 : decode cX1_accuse 36 = .ok (.getfield 10, 3) := by decide +kernel
theorem dX1_accuse_39 : decode cX1_accuse 39 = .ok (.getfield 89, 3) := by decide +kernel
theorem dX1_accuse_42 : decode cX1_accuse 42 = .ok (.iload_n 1, 1) := by decide +kernel
theorem dX1_accuse_43 : decode cX1_accuse 43 = .ok (.iload_n 2, 1) := by decide +kernel
theorem dX1_accuse_44 : decode cX1_accuse 44 = .ok (.invokestatic 102, 3) := by decide +kernel
theorem dX1_accuse_47 : decode cX1_accuse 47 = .ok (.aload_n 0, 1) := by decide +kernel
theorem dX1_accuse_48 : decode cX1_accuse 48 = .ok (.getfield 10, 3) := by decide +kernel
theorem dX1_accuse_51 : decode cX1_accuse 51 = .ok (.getfield 113, 3) := by decide +kernel
theorem dX1_accuse_54 : decode cX1_accuse 54 = .ok (.iload_n 1, 1) := by decide +kernel
theorem dX1_accuse_55 : decode cX1_accuse 55 = .ok (.dup2, 1) := by decide +kernel
theorem dX1_accuse_56 : decode cX1_accuse 56 = .ok (.iaload, 1) := by decide +kernel
theorem dX1_accuse_57 : decode cX1_accuse 57 = .ok (.iconst 1, 1) := by decide +kernel
theorem dX1_accuse_58 : decode cX1_accuse 58 = .ok (.iadd, 1) := by decide +kernel
theorem dX1_accuse_59 : decode cX1_accuse 59 = .ok (.iastore, 1) := by decide +kernel
theorem dX1_accuse_60 : decode cX1_accuse 60 = .ok (.aload_n 0, 1) := by decide +kernel
theorem dX1_accuse_61 : decode cX1_accuse 61 = .ok (.getfield 10, 3) := by decide +kernel
theorem dX1_accuse_64 : decode cX1_accuse 64 = .ok (.getfield 113, 3) := by decide +kernel
theorem dX1_accuse_67 : decode cX1_accuse 67 = .ok (.iload_n 2, 1) := by decide +kernel
theorem dX1_accuse_68 : decode cX1_accuse 68 = .ok (.dup2, 1) := by decide +kernel
theorem dX1_accuse_69 : decode cX1_accuse 69 = .ok (.iaload, 1) := by decide +kernel
theorem dX1_accuse_70 : decode cX1_accuse 70 = .ok (.iconst 1, 1) := by decide +kernel
theorem dX1_accuse_71 : decode cX1_accuse 71 = .ok (.iadd, 1) := by decide +kernel
theorem dX1_accuse_72 : decode cX1_accuse 72 = .ok (.iastore, 1) := by decide +kernel
theorem dX1_accuse_73 : decode cX1_accuse 73 = .ok (.aload_n 0, 1) := by decide +kernel
theorem dX1_accuse_74 : decode cX1_accuse 74 = .ok (.aload_n 0, 1) := by decide +kernel
theorem dX1_accuse_75 : decode cX1_accuse 75 = .ok (.getfield 10, 3) := by decide +kernel
theorem dX1_accuse_78 : decode cX1_accuse 78 = .ok (.getfield 89, 3) := by decide +kernel
theorem dX1_accuse_81 : decode cX1_accuse 81 = .ok (.invokevirtual 106, 3) := by decide +kernel
theorem dX1_accuse_84 : decode cX1_accuse 84 = .ok (.ireturn, 1) := by decide +kernel
set_option maxRecDepth 20000 in
theorem ggX1_bill_X1_isWalker : GoodIn wsX1_bill wsX1_isWalker := goodIn_r _ [13, 2, 14, 129, 130, 131, 132, 133, 134, 135, 136, 137, 138, 139, 140, 141, 142, 143, 144, 145, 146, 147, 148, 149, 150] (by decide +kernel) (by decide +kernel)
set_option maxRecDepth 20000 in
theorem gX1_bill_X1_isWalker : GoodIn wsX1_bill (wsV RX1 92 RX1 yX1_isWalker wsX1_isWalker) := goodIn_app (goodIn_of _ (by decide +kernel)) ggX1_bill_X1_isWalker
set_option maxRecDepth 20000 in
theorem ggX1_bill_X1_isAboard : GoodIn wsX1_bill wsX1_isAboard := goodIn_r _ [18, 2, 19, 4, 9, 10, 11, 12, 13, 14, 129, 130, 131, 132, 133, 134, 135, 136, 137, 138, 139, 140, 141, 142, 143, 144, 145, 146, 147, 148, 149, 150] (by decide +kernel) (by decide +kernel)
set_option maxRecDepth 20000 in
theorem gX1_bill_X1_isAboard : GoodIn wsX1_bill (wsV RX1 95 RX1 yX1_isAboard wsX1_isAboard) := goodIn_app (goodIn_of _ (by decide +kernel)) ggX1_bill_X1_isAboard
set_option maxRecDepth 20000 in
theorem ggX1_bill_X1_remember : GoodIn wsX1_bill wsX1_remember := goodIn_r _ [23, 24, 25, 26, 2, 27, 28, 29, 12, 30, 31, 32, 33, 34, 35, 36, 37, 38, 39, 40, 41, 42, 43, 44, 45, 46, 47, 48, 49, 50, 51, 52, 53, 54, 55, 56, 57, 58, 59, 60, 61, 62, 63, 64, 129, 130, 131, 132, 133, 134, 135, 136, 137, 138, 139, 140, 141, 142, 143, 144, 145, 146, 147, 148, 149, 150] (by decide +kernel) (by decide +kernel)
set_option maxRecDepth 20000 in
theorem gX1_bill_X1_remember : GoodIn wsX1_bill (wsV RX1 46 RX1 yX1_remember wsX1_remember) := goodIn_app (goodIn_of _ (by decide +kernel)) ggX1_bill_X1_remember
set_option maxRecDepth 20000 in
theorem ggX1_bill_X1_kilogramsToBill : GoodIn wsX1_bill wsX1_kilogramsToBill := goodIn_r _ [68, 2, 69, 57, 58, 59, 60, 70, 71, 72, 73, 74, 75, 12, 76, 77, 8, 78, 79, 15, 16, 17, 18, 19, 4, 9, 10, 11, 13, 14, 80, 81, 82, 83, 84, 85, 86, 55, 56, 61, 62, 63, 64, 87, 88, 89, 90, 91, 92, 93, 94, 95, 96, 97, 98, 99, 100, 101, 102, 103, 104, 105, 106, 107, 108, 109, 110, 111, 112, 113, 114, 115, 116, 117, 118, 119, 120, 121, 122, 123, 124, 3, 125, 126, 127, 128, 129, 130, 131, 132, 133, 134, 135, 136, 137, 138, 139, 140, 141, 142, 143, 144, 145, 146, 147, 148, 149, 150] (by decide +kernel) (by decide +kernel)
set_option maxRecDepth 20000 in
theorem gX1_bill_X1_kilogramsToBill : GoodIn wsX1_bill (wsV RX1 119 RX1 yX1_kilogramsToBill wsX1_kilogramsToBill) := goodIn_app (goodIn_of _ (by decide +kernel)) ggX1_bill_X1_kilogramsToBill
theorem dX1_bill_0 : decode cX1_bill 0 = .ok (.aload_n 0, 1) := by decide +kernel
theorem dX1_bill_1 : decode cX1_bill 1 = .ok (.iload_n 1, 1) := by decide +kernel
theorem dX1_bill_2 : decode cX1_bill 2 = .ok (.invokevirtual 92, 3) := by decide +kernel
theorem dX1_bill_5 : decode cX1_bill 5 = .ok (.ifCond .ne 6, 3) := by decide +kernel
theorem dX1_bill_8 : decode cX1_bill 8 = .ok (.ldc 45, 2) := by decide +kernel
theorem dX1_bill_10 : decode cX1_bill 10 = .ok (.ireturn, 1) := by decide +kernel
theorem dX1_bill_11 : decode cX1_bill 11 = .ok (.aload_n 0, 1) := by decide +kernel
theorem dX1_bill_12 : decode cX1_bill 12 = .ok (.iload_n 1, 1) := by decide +kernel
theorem dX1_bill_13 : decode cX1_bill 13 = .ok (.invokevirtual 95, 3) := by decide +kernel
theorem dX1_bill_16 : decode cX1_bill 16 = .ok (.ifCond .eq 17, 3) := by decide +kernel
theorem dX1_bill_19 : decode cX1_bill 19 = .ok (.aload_n 0, 1) := by decide +kernel
theorem dX1_bill_20 : decode cX1_bill 20 = .ok (.getfield 10, 3) := by decide +kernel
theorem dX1_bill_23 : decode cX1_bill 23 = .ok (.getfield 116, 3) := by decide +kernel
theorem dX1_bill_26 : decode cX1_bill 26 = .ok (.iload_n 1, 1) := by decide +kernel
theorem dX1_bill_27 : decode cX1_bill 27 = .ok (.iaload, 1) := by decide +kernel
theorem dX1_bill_28 : decode cX1_bill 28 = .ok (.ldc 78, 2) := by decide +kernel
theorem dX1_bill_30 : decode cX1_bill 30 = .ok (.if_icmp .eq 6, 3) := by decide +kernel
theorem dX1_bill_33 : decode cX1_bill 33 = .ok (.ldc 55, 2) := by decide +kernel
theorem dX1_bill_35 : decode cX1_bill 35 = .ok (.ireturn, 1) := by decide +kernel
theorem dX1_bill_36 : decode cX1_bill 36 = .ok (.aload_n 0, 1) := by decide +kernel
theorem dX1_bill_37 : decode cX1_bill 37 = .ok (.invokevirtual 46, 3) := by decide +kernel
theorem dX1_bill_40 : decode cX1_bill 40 = .ok (.aload_n 0, 1) := by decide +kernel
theorem dX1_bill_41 : decode cX1_bill 41 = .ok (.iload_n 1, 1) := by decide +kernel
theorem dX1_bill_42 : decode cX1_bill 42 = .ok (.invokevirtual 119, 3) := by decide +kernel
theorem dX1_bill_45 : decode cX1_bill 45 = .ok (.istore_n 2, 1) := by decide +kernel
theorem dX1_bill_46 : decode cX1_bill 46 = .ok (.aload_n 0, 1) := by decide +kernel
theorem dX1_bill_47 : decode cX1_bill 47 = .ok (.getfield 10, 3) := by decide +kernel
theorem dX1_bill_50 : decode cX1_bill 50 = .ok (.getfield 116, 3) := by decide +kernel
theorem dX1_bill_53 : decode cX1_bill 53 = .ok (.iload_n 1, 1) := by decide +kernel
theorem dX1_bill_54 : decode cX1_bill 54 = .ok (.iload_n 2, 1) := by decide +kernel
theorem dX1_bill_55 : decode cX1_bill 55 = .ok (.iastore, 1) := by decide +kernel
theorem dX1_bill_56 : decode cX1_bill 56 = .ok (.aload_n 0, 1) := by decide +kernel
theorem dX1_bill_57 : decode cX1_bill 57 = .ok (.getfield 10, 3) := by decide +kernel
theorem dX1_bill_60 : decode cX1_bill 60 = .ok (.getfield 123, 3) := by decide +kernel
theorem dX1_bill_63 : decode cX1_bill 63 = .ok (.iload_n 1, 1) := by decide +kernel
theorem dX1_bill_64 : decode cX1_bill 64 = .ok (.aload_n 0, 1) := by decide +kernel
theorem dX1_bill_65 : decode cX1_bill 65 = .ok (.getfield 10, 3) := by decide +kernel
theorem dX1_bill_68 : decode cX1_bill 68 = .ok (.getfield 110, 3) := by decide +kernel
theorem dX1_bill_71 : decode cX1_bill 71 = .ok (.iastore, 1) := by decide +kernel
theorem dX1_bill_72 : decode cX1_bill 72 = .ok (.iload_n 2, 1) := by decide +kernel
theorem dX1_bill_73 : decode cX1_bill 73 = .ok (.bipush 20, 2) := by decide +kernel
theorem dX1_bill_75 : decode cX1_bill 75 = .ok (.if_icmp .lt 13, 3) := by decide +kernel
theorem dX1_bill_78 : decode cX1_bill 78 = .ok (.aload_n 0, 1) := by decide +kernel
theorem dX1_bill_79 : decode cX1_bill 79 = .ok (.getfield 10, 3) := by decide +kernel
theorem dX1_bill_82 : decode cX1_bill 82 = .ok (.getfield 86, 3) := by decide +kernel
theorem dX1_bill_85 : decode cX1_bill 85 = .ok (.iload_n 1, 1) := by decide +kernel
theorem dX1_bill_86 : decode cX1_bill 86 = .ok (.iload_n 2, 1) := by decide +kernel
theorem dX1_bill_87 : decode cX1_bill 87 = .ok (.iastore, 1) := by decide +kernel
theorem dX1_bill_88 : decode cX1_bill 88 = .ok (.iload_n 2, 1) := by decide +kernel
theorem dX1_bill_89 : decode cX1_bill 89 = .ok (.ireturn, 1) := by decide +kernel
set_option maxRecDepth 20000 in
theorem ggX1_complain_X1_isWalker : GoodIn wsX1_complain wsX1_isWalker := goodIn_r _ [16, 2, 17, 75, 76, 77, 78, 79, 80, 81, 82, 83, 84, 85, 86, 87, 88, 89, 90, 91, 92, 93, 94, 95, 96] (by decide +kernel) (by decide +kernel)
set_option maxRecDepth 20000 in
theorem gX1_complain_X1_isWalker : GoodIn wsX1_complain (wsV RX1 92 RX1 yX1_isWalker wsX1_isWalker) := goodIn_app (goodIn_of _ (by decide +kernel)) ggX1_complain_X1_isWalker
set_option maxRecDepth 20000 in
theorem ggX1_complain_X1_isAboard : GoodIn wsX1_complain wsX1_isAboard := goodIn_r _ [21, 2, 22, 4, 12, 13, 14, 15, 16, 17, 75, 76, 77, 78, 79, 80, 81, 82, 83, 84, 85, 86, 87, 88, 89, 90, 91, 92, 93, 94, 95, 96] (by decide +kernel) (by decide +kernel)
set_option maxRecDepth 20000 in
theorem gX1_complain_X1_isAboard : GoodIn wsX1_complain (wsV RX1 95 RX1 yX1_isAboard wsX1_isAboard) := goodIn_app (goodIn_of _ (by decide +kernel)) ggX1_complain_X1_isAboard
set_option maxRecDepth 20000 in
theorem ggX1_complain_X1_remember : GoodIn wsX1_complain wsX1_remember := goodIn_r _ [26, 27, 28, 29, 2, 30, 31, 32, 15, 33, 34, 35, 36, 37, 38, 39, 40, 41, 42, 43, 44, 45, 46, 47, 48, 49, 50, 51, 52, 53, 54, 55, 56, 57, 58, 59, 60, 61, 10, 62, 63, 64, 65, 66, 75, 76, 77, 78, 79, 80, 81, 82, 83, 84, 85, 86, 87, 88, 89, 90, 91, 92, 93, 94, 95, 96] (by decide +kernel) (by decide +kernel)
set_option maxRecDepth 20000 in
theorem gX1_complain_X1_remember : GoodIn wsX1_complain (wsV RX1 46 RX1 yX1_remember wsX1_remember) := goodIn_app (goodIn_of _ (by decide +kernel)) ggX1_complain_X1_remember
set_option maxRecDepth 20000 in
theorem ggX1_complain_X1_backAmount : GoodIn wsX1_complain wsX1_backAmount := goodIn_r _ [70, 2, 5, 71, 12, 13, 14, 15, 16, 17, 72, 73, 74, 4, 75, 76, 77, 78, 79, 80, 81, 82, 83, 84, 85, 86, 87, 88, 89, 90, 91, 92, 93, 94, 95, 96] (by decide +kernel) (by decide +kernel)
set_option maxRecDepth 20000 in
theorem gX1_complain_X1_backAmount : GoodIn wsX1_complain (wsV RX1 135 RX1 yX1_backAmount wsX1_backAmount) := goodIn_app (goodIn_of _ (by decide +kernel)) ggX1_complain_X1_backAmount
theorem dX1_complain_0 : decode cX1_complain 0 = .ok (.aload_n 0, 1) := by decide +kernel
theorem dX1_complain_1 : decode cX1_complain 1 = .ok (.iload_n 1, 1) := by decide +kernel
theorem dX1_complain_2 : decode cX1_complain 2 = .ok (.invokevirtual 92, 3) := by decide +kernel
theorem dX1_complain_5 : decode cX1_complain 5 = .ok (.ifCond .ne 6, 3) := by decide +kernel
theorem dX1_complain_8 : decode cX1_complain 8 = .ok (.ldc 45, 2) := by decide +kernel
theorem dX1_complain_10 : decode cX1_complain 10 = .ok (.ireturn, 1) := by decide +kernel
theorem dX1_complain_11 : decode cX1_complain 11 = .ok (.aload_n 0, 1) := by decide +kernel
theorem dX1_complain_12 : decode cX1_complain 12 = .ok (.iload_n 1, 1) := by decide +kernel
theorem dX1_complain_13 : decode cX1_complain 13 = .ok (.invokevirtual 95, 3) := by decide +kernel
theorem dX1_complain_16 : decode cX1_complain 16 = .ok (.ifCond .ne 31, 3) := by decide +kernel
theorem dX1_complain_19 : decode cX1_complain 19 = .ok (.aload_n 0, 1) := by decide +kernel
theorem dX1_complain_20 : decode cX1_complain 20 = .ok (.getfield 10, 3) := by decide +kernel
theorem dX1_complain_23 : decode cX1_complain 23 = .ok (.getfield 116, 3) := by decide +kernel
theorem dX1_complain_26 : decode cX1_complain 26 = .ok (.iload_n 1, 1) := by decide +kernel
theorem dX1_complain_27 : decode cX1_complain 27 = .ok (.iaload, 1) := by decide +kernel
theorem dX1_complain_28 : decode cX1_complain 28 = .ok (.ldc 78, 2) := by decide +kernel
theorem dX1_complain_30 : decode cX1_complain 30 = .ok (.if_icmp .eq 17, 3) := by decide +kernel
theorem dX1_complain_33 : decode cX1_complain 33 = .ok (.aload_n 0, 1) := by decide +kernel
theorem dX1_complain_34 : decode cX1_complain 34 = .ok (.getfield 10, 3) := by decide +kernel
theorem dX1_complain_37 : decode cX1_complain 37 = .ok (.getfield 126, 3) := by decide +kernel
theorem dX1_complain_40 : decode cX1_complain 40 = .ok (.iload_n 1, 1) := by decide +kernel
theorem dX1_complain_41 : decode cX1_complain 41 = .ok (.iaload, 1) := by decide +kernel
theorem dX1_complain_42 : decode cX1_complain 42 = .ok (.ldc 78, 2) := by decide +kernel
theorem dX1_complain_44 : decode cX1_complain 44 = .ok (.if_icmp .eq 6, 3) := by decide +kernel
theorem dX1_complain_47 : decode cX1_complain 47 = .ok (.ldc 55, 2) := by decide +kernel
theorem dX1_complain_49 : decode cX1_complain 49 = .ok (.ireturn, 1) := by decide +kernel
theorem dX1_complain_50 : decode cX1_complain 50 = .ok (.aload_n 0, 1) := by decide +kernel
theorem dX1_complain_51 : decode cX1_complain 51 = .ok (.invokevirtual 46, 3) := by decide +kernel
theorem dX1_complain_54 : decode cX1_complain 54 = .ok (.aload_n 0, 1) := by decide +kernel
theorem dX1_complain_55 : decode cX1_complain 55 = .ok (.getfield 10, 3) := by decide +kernel
theorem dX1_complain_58 : decode cX1_complain 58 = .ok (.getfield 126, 3) := by decide +kernel
theorem dX1_complain_61 : decode cX1_complain 61 = .ok (.iload_n 1, 1) := by decide +kernel
theorem dX1_complain_62 : decode cX1_complain 62 = .ok (.iconst 0, 1) := by decide +kernel
theorem dX1_complain_63 : decode cX1_complain 63 = .ok (.aload_n 0, 1) := by decide +kernel
theorem dX1_complain_64 : decode cX1_complain 64 = .ok (.getfield 10, 3) := by decide +kernel
theorem dX1_complain_67 : decode cX1_complain 67 = .ok (.getfield 116, 3) := by decide +kernel
theorem dX1_complain_70 : decode cX1_complain 70 = .ok (.iload_n 1, 1) := by decide +kernel
theorem dX1_complain_71 : decode cX1_complain 71 = .ok (.iaload, 1) := by decide +kernel
theorem dX1_complain_72 : decode cX1_complain 72 = .ok (.aload_n 0, 1) := by decide +kernel
theorem dX1_complain_73 : decode cX1_complain 73 = .ok (.getfield 10, 3) := by decide +kernel
theorem dX1_complain_76 : decode cX1_complain 76 = .ok (.getfield 83, 3) := by decide +kernel
theorem dX1_complain_79 : decode cX1_complain 79 = .ok (.iload_n 1, 1) := by decide +kernel
theorem dX1_complain_80 : decode cX1_complain 80 = .ok (.iaload, 1) := by decide +kernel
theorem dX1_complain_81 : decode cX1_complain 81 = .ok (.isub, 1) := by decide +kernel
theorem dX1_complain_82 : decode cX1_complain 82 = .ok (.invokestatic 129, 3) := by decide +kernel
theorem dX1_complain_85 : decode cX1_complain 85 = .ok (.iastore, 1) := by decide +kernel
theorem dX1_complain_86 : decode cX1_complain 86 = .ok (.aload_n 0, 1) := by decide +kernel
theorem dX1_complain_87 : decode cX1_complain 87 = .ok (.iload_n 1, 1) := by decide +kernel
theorem dX1_complain_88 : decode cX1_complain 88 = .ok (.invokevirtual 135, 3) := by decide +kernel
theorem dX1_complain_91 : decode cX1_complain 91 = .ok (.ireturn, 1) := by decide +kernel
set_option maxRecDepth 20000 in
theorem ggX1_count_X1_walkersAboard : GoodIn wsX1_count wsX1_walkersAboard := goodIn_r _ [13, 14, 15, 16, 12, 17, 1, 18, 19, 20, 21, 22, 23, 3, 104, 105, 106, 107, 108, 109, 110, 111, 112, 113, 114, 115, 116, 117, 118, 119, 120, 121, 122, 123, 124, 125] (by decide +kernel) (by decide +kernel)
set_option maxRecDepth 20000 in
theorem gX1_count_X1_walkersAboard : GoodIn wsX1_count (wsV RX1 145 RX1 yX1_walkersAboard wsX1_walkersAboard) := goodIn_app (goodIn_of _ (by decide +kernel)) ggX1_count_X1_walkersAboard
set_option maxRecDepth 20000 in
theorem ggX1_count_X1_errorWith : GoodIn wsX1_count wsX1_errorWith := goodIn_r _ [27, 28, 29, 30, 31, 32, 33, 34, 35, 36, 12, 37, 1, 38, 39, 18, 40, 41, 42, 43, 44, 45, 46, 47, 48, 49, 50, 51, 52, 53, 54, 55, 56, 57, 58, 59, 60, 61, 19, 62, 63, 64, 65, 6, 66, 104, 105, 106, 107, 108, 109, 110, 111, 112, 113, 114, 115, 116, 117, 118, 119, 120, 121, 122, 123, 124, 125] (by decide +kernel) (by decide +kernel)
set_option maxRecDepth 20000 in
theorem gX1_count_X1_errorWith : GoodIn wsX1_count (wsV RX1 106 RX1 yX1_errorWith wsX1_errorWith) := goodIn_app (goodIn_of _ (by decide +kernel)) ggX1_count_X1_errorWith
set_option maxRecDepth 20000 in
theorem ggX1_count_X1_sumOfReadings : GoodIn wsX1_count wsX1_sumOfReadings := goodIn_r _ [70, 28, 34, 35, 36, 12, 37, 1, 38, 39, 18, 40, 41, 42, 43, 44, 32, 45, 46, 47, 48, 49, 50, 51, 52, 53, 54, 55, 56, 57, 58, 59, 60, 61, 19, 71, 72, 73, 104, 105, 106, 107, 108, 109, 110, 111, 112, 113, 114, 115, 116, 117, 118, 119, 120, 121, 122, 123, 124, 125] (by decide +kernel) (by decide +kernel)
set_option maxRecDepth 20000 in
theorem gX1_count_X1_sumOfReadings : GoodIn wsX1_count (wsV RX1 149 RX1 yX1_sumOfReadings wsX1_sumOfReadings) := goodIn_app (goodIn_of _ (by decide +kernel)) ggX1_count_X1_sumOfReadings
set_option maxRecDepth 20000 in
theorem ggX1_count_X1_sumOf : GoodIn wsX1_count wsX1_sumOf := goodIn_r _ [73] (by decide +kernel) (by decide +kernel)
set_option maxRecDepth 20000 in
theorem gX1_count_X1_sumOf : GoodIn wsX1_count (va_wsS RX1 152 yX1_sumOf wsX1_sumOf) := goodIn_app (goodIn_of _ (by decide +kernel)) ggX1_count_X1_sumOf
set_option maxRecDepth 20000 in
theorem ggX1_count_X1_walkersMisplaced : GoodIn wsX1_count wsX1_walkersMisplaced := goodIn_r _ [77, 1, 18, 5, 104, 105, 106, 107, 108, 109, 110, 111, 112, 113, 114, 115, 116, 117, 118, 119, 120, 121, 122, 123, 124, 125] (by decide +kernel) (by decide +kernel)
set_option maxRecDepth 20000 in
theorem gX1_count_X1_walkersMisplaced : GoodIn wsX1_count (wsV RX1 155 RX1 yX1_walkersMisplaced wsX1_walkersMisplaced) := goodIn_app (goodIn_of _ (by decide +kernel)) ggX1_count_X1_walkersMisplaced
set_option maxRecDepth 20000 in
theorem ggX1_count_X1_kilogramsBilled : GoodIn wsX1_count wsX1_kilogramsBilled := goodIn_r _ [81, 1, 82, 83, 84, 85, 12, 86, 19, 104, 105, 106, 107, 108, 109, 110, 111, 112, 113, 114, 115, 116, 117, 118, 119, 120, 121, 122, 123, 124, 125] (by decide +kernel) (by decide +kernel)
set_option maxRecDepth 20000 in
theorem gX1_count_X1_kilogramsBilled : GoodIn wsX1_count (wsV RX1 158 RX1 yX1_kilogramsBilled wsX1_kilogramsBilled) := goodIn_app (goodIn_of _ (by decide +kernel)) ggX1_count_X1_kilogramsBilled
set_option maxRecDepth 20000 in
theorem ggX1_count_X1_sumOfBillAmounts : GoodIn wsX1_count wsX1_sumOfBillAmounts := goodIn_r _ [90, 91, 92, 93, 12, 94, 1, 82, 95, 20, 21, 22, 23, 3, 84, 85, 86, 19, 104, 105, 106, 107, 108, 109, 110, 111, 112, 113, 114, 115, 116, 117, 118, 119, 120, 121, 122, 123, 124, 125] (by decide +kernel) (by decide +kernel)
set_option maxRecDepth 20000 in
theorem gX1_count_X1_sumOfBillAmounts : GoodIn wsX1_count (wsV RX1 161 RX1 yX1_sumOfBillAmounts wsX1_sumOfBillAmounts) := goodIn_app (goodIn_of _ (by decide +kernel)) ggX1_count_X1_sumOfBillAmounts
set_option maxRecDepth 20000 in
theorem ggX1_count_X1_sumOfBackAmounts : GoodIn wsX1_count wsX1_sumOfBackAmounts := goodIn_r _ [99, 100, 101, 102, 12, 103, 1, 83, 95, 20, 21, 22, 23, 3, 84, 85, 86, 19, 104, 105, 106, 107, 108, 109, 110, 111, 112, 113, 114, 115, 116, 117, 118, 119, 120, 121, 122, 123, 124, 125] (by decide +kernel) (by decide +kernel)
set_option maxRecDepth 20000 in
theorem gX1_count_X1_sumOfBackAmounts : GoodIn wsX1_count (wsV RX1 164 RX1 yX1_sumOfBackAmounts wsX1_sumOfBackAmounts) := goodIn_app (goodIn_of _ (by decide +kernel)) ggX1_count_X1_sumOfBackAmounts
theorem dX1_count_0 : decode cX1_count 0 = .ok (.iload_n 1, 1) := by decide +kernel
theorem dX1_count_1 : decode cX1_count 1 = .ok (.tableswitch 145 0 11 #[63, 71, 79, 84, 89, 101, 106, 117, 122, 130, 135, 140], 63) := by decide +kernel
theorem dX1_count_64 : decode cX1_count 64 = .ok (.aload_n 0, 1) := by decide +kernel
theorem dX1_count_65 : decode cX1_count 65 = .ok (.getfield 10, 3) := by decide +kernel
theorem dX1_count_68 : decode cX1_count 68 = .ok (.getfield 52, 3) := by decide +kernel
theorem dX1_count_71 : decode cX1_count 71 = .ok (.ireturn, 1) := by decide +kernel
theorem dX1_count_72 : decode cX1_count 72 = .ok (.aload_n 0, 1) := by decide +kernel
theorem dX1_count_73 : decode cX1_count 73 = .ok (.getfield 10, 3) := by decide +kernel
theorem dX1_count_76 : decode cX1_count 76 = .ok (.getfield 79, 3) := by decide +kernel
theorem dX1_count_79 : decode cX1_count 79 = .ok (.ireturn, 1) := by decide +kernel
theorem dX1_count_80 : decode cX1_count 80 = .ok (.aload_n 0, 1) := by decide +kernel
theorem dX1_count_81 : decode cX1_count 81 = .ok (.invokevirtual 145, 3) := by decide +kernel
theorem dX1_count_84 : decode cX1_count 84 = .ok (.ireturn, 1) := by decide +kernel
theorem dX1_count_85 : decode cX1_count 85 = .ok (.aload_n 0, 1) := by decide +kernel
theorem dX1_count_86 : decode cX1_count 86 = .ok (.getfield 24, 3) := by decide +kernel
theorem dX1_count_89 : decode cX1_count 89 = .ok (.ireturn, 1) := by decide +kernel
theorem dX1_count_90 : decode cX1_count 90 = .ok (.aload_n 0, 1) := by decide +kernel
theorem dX1_count_91 : decode cX1_count 91 = .ok (.aload_n 0, 1) := by decide +kernel
theorem dX1_count_92 : decode cX1_count 92 = .ok (.getfield 10, 3) := by decide +kernel
theorem dX1_count_95 : decode cX1_count 95 = .ok (.getfield 89, 3) := by decide +kernel
theorem dX1_count_98 : decode cX1_count 98 = .ok (.invokevirtual 106, 3) := by decide +kernel
theorem dX1_count_101 : decode cX1_count 101 = .ok (.ireturn, 1) := by decide +kernel
theorem dX1_count_102 : decode cX1_count 102 = .ok (.aload_n 0, 1) := by decide +kernel
theorem dX1_count_103 : decode cX1_count 103 = .ok (.invokevirtual 149, 3) := by decide +kernel
theorem dX1_count_106 : decode cX1_count 106 = .ok (.ireturn, 1) := by decide +kernel
theorem dX1_count_107 : decode cX1_count 107 = .ok (.aload_n 0, 1) := by decide +kernel
theorem dX1_count_108 : decode cX1_count 108 = .ok (.getfield 10, 3) := by decide +kernel
theorem dX1_count_111 : decode cX1_count 111 = .ok (.getfield 62, 3) := by decide +kernel
theorem dX1_count_114 : decode cX1_count 114 = .ok (.invokestatic 152, 3) := by decide +kernel
theorem dX1_count_117 : decode cX1_count 117 = .ok (.ireturn, 1) := by decide +kernel
theorem dX1_count_118 : decode cX1_count 118 = .ok (.aload_n 0, 1) := by decide +kernel
theorem dX1_count_119 : decode cX1_count 119 = .ok (.invokevirtual 155, 3) := by decide +kernel
theorem dX1_count_122 : decode cX1_count 122 = .ok (.ireturn, 1) := by decide +kernel
theorem dX1_count_123 : decode cX1_count 123 = .ok (.aload_n 0, 1) := by decide +kernel
theorem dX1_count_124 : decode cX1_count 124 = .ok (.getfield 10, 3) := by decide +kernel
theorem dX1_count_127 : decode cX1_count 127 = .ok (.getfield 110, 3) := by decide +kernel
theorem dX1_count_130 : decode cX1_count 130 = .ok (.ireturn, 1) := by decide +kernel
theorem dX1_count_131 : decode cX1_count 131 = .ok (.aload_n 0, 1) := by decide +kernel
theorem dX1_count_132 : decode cX1_count 132 = .ok (.invokevirtual 158, 3) := by decide +kernel
theorem dX1_count_135 : decode cX1_count 135 = .ok (.ireturn, 1) := by decide +kernel
theorem dX1_count_136 : decode cX1_count 136 = .ok (.aload_n 0, 1) := by decide +kernel
theorem dX1_count_137 : decode cX1_count 137 = .ok (.invokevirtual 161, 3) := by decide +kernel
theorem dX1_count_140 : decode cX1_count 140 = .ok (.ireturn, 1) := by decide +kernel
theorem dX1_count_141 : decode cX1_count 141 = .ok (.aload_n 0, 1) := by decide +kernel
theorem dX1_count_142 : decode cX1_count 142 = .ok (.invokevirtual 164, 3) := by decide +kernel
theorem dX1_count_145 : decode cX1_count 145 = .ok (.ireturn, 1) := by decide +kernel
theorem dX1_count_146 : decode cX1_count 146 = .ok (.ldc 45, 2) := by decide +kernel
theorem dX1_count_148 : decode cX1_count 148 = .ok (.ireturn, 1) := by decide +kernel
set_option maxRecDepth 20000 in
theorem ggX1_cell_X1_isCell : GoodIn wsX1_cell wsX1_isCell := goodIn_r _ [14] (by decide +kernel) (by decide +kernel)
set_option maxRecDepth 20000 in
theorem gX1_cell_X1_isCell : GoodIn wsX1_cell (va_wsS RX1 37 yX1_isCell wsX1_isCell) := goodIn_app (goodIn_of _ (by decide +kernel)) ggX1_cell_X1_isCell
set_option maxRecDepth 20000 in
theorem ggX1_cell_X1_weighAll : GoodIn wsX1_cell wsX1_weighAll := goodIn_r _ [18, 3, 4, 2, 19, 10, 20, 21, 13, 22, 23, 24, 25, 26, 27, 28, 29, 30, 31, 32, 33, 34, 35, 36, 11, 12, 14, 37, 38, 39, 40, 49, 50, 51, 52, 53, 54, 55, 56, 57, 58, 59, 60, 61, 62, 63, 64, 65, 66, 67, 68, 69, 70] (by decide +kernel) (by decide +kernel)
set_option maxRecDepth 20000 in
theorem gX1_cell_X1_weighAll : GoodIn wsX1_cell (wsV RX1 59 RX1 yX1_weighAll wsX1_weighAll) := goodIn_app (goodIn_of _ (by decide +kernel)) ggX1_cell_X1_weighAll
set_option maxRecDepth 20000 in
theorem ggX1_cell_X1_expectAll : GoodIn wsX1_cell wsX1_expectAll := goodIn_r _ [44, 3, 6, 9, 45, 20, 21, 13, 22, 23, 24, 25, 26, 27, 28, 29, 30, 31, 32, 33, 34, 35, 36, 11, 12, 14, 37, 38, 39, 40, 49, 50, 51, 52, 53, 54, 55, 56, 57, 58, 59, 60, 61, 62, 63, 64, 65, 66, 67, 68, 69, 70] (by decide +kernel) (by decide +kernel)
set_option maxRecDepth 20000 in
theorem gX1_cell_X1_expectAll : GoodIn wsX1_cell (wsV RX1 167 RX1 yX1_expectAll wsX1_expectAll) := goodIn_app (goodIn_of _ (by decide +kernel)) ggX1_cell_X1_expectAll
set_option maxRecDepth 20000 in
theorem ggX1_cell_X1_whoIsOn : GoodIn wsX1_cell wsX1_whoIsOn := goodIn_r _ [48, 40] (by decide +kernel) (by decide +kernel)
set_option maxRecDepth 20000 in
theorem gX1_cell_X1_whoIsOn : GoodIn wsX1_cell (va_wsS RX1 74 yX1_whoIsOn wsX1_whoIsOn) := goodIn_app (goodIn_of _ (by decide +kernel)) ggX1_cell_X1_whoIsOn
theorem dX1_cell_0 : decode cX1_cell 0 = .ok (.iload_n 1, 1) := by decide +kernel
theorem dX1_cell_1 : decode cX1_cell 1 = .ok (.invokestatic 37, 3) := by decide +kernel
theorem dX1_cell_4 : decode cX1_cell 4 = .ok (.ifCond .ne 6, 3) := by decide +kernel
theorem dX1_cell_7 : decode cX1_cell 7 = .ok (.ldc 45, 2) := by decide +kernel
theorem dX1_cell_9 : decode cX1_cell 9 = .ok (.ireturn, 1) := by decide +kernel
theorem dX1_cell_10 : decode cX1_cell 10 = .ok (.iload_n 2, 1) := by decide +kernel
theorem dX1_cell_11 : decode cX1_cell 11 = .ok (.tableswitch 138 0 7 #[45, 56, 66, 76, 86, 96, 114, 126], 45) := by decide +kernel
theorem dX1_cell_56 : decode cX1_cell 56 = .ok (.aload_n 0, 1) := by decide +kernel
theorem dX1_cell_57 : decode cX1_cell 57 = .ok (.invokevirtual 59, 3) := by decide +kernel
theorem dX1_cell_60 : decode cX1_cell 60 = .ok (.aload_n 0, 1) := by decide +kernel
theorem dX1_cell_61 : decode cX1_cell 61 = .ok (.getfield 27, 3) := by decide +kernel
theorem dX1_cell_64 : decode cX1_cell 64 = .ok (.iload_n 1, 1) := by decide +kernel
theorem dX1_cell_65 : decode cX1_cell 65 = .ok (.iaload, 1) := by decide +kernel
theorem dX1_cell_66 : decode cX1_cell 66 = .ok (.ireturn, 1) := by decide +kernel
theorem dX1_cell_67 : decode cX1_cell 67 = .ok (.aload_n 0, 1) := by decide +kernel
theorem dX1_cell_68 : decode cX1_cell 68 = .ok (.getfield 10, 3) := by decide +kernel
theorem dX1_cell_71 : decode cX1_cell 71 = .ok (.getfield 56, 3) := by decide +kernel
theorem dX1_cell_74 : decode cX1_cell 74 = .ok (.iload_n 1, 1) := by decide +kernel
theorem dX1_cell_75 : decode cX1_cell 75 = .ok (.iaload, 1) := by decide +kernel
theorem dX1_cell_76 : decode cX1_cell 76 = .ok (.ireturn, 1) := by decide +kernel
theorem dX1_cell_77 : decode cX1_cell 77 = .ok (.aload_n 0, 1) := by decide +kernel
theorem dX1_cell_78 : decode cX1_cell 78 = .ok (.getfield 10, 3) := by decide +kernel
theorem dX1_cell_81 : decode cX1_cell 81 = .ok (.getfield 49, 3) := by decide +kernel
theorem dX1_cell_84 : decode cX1_cell 84 = .ok (.iload_n 1, 1) := by decide +kernel
theorem dX1_cell_85 : decode cX1_cell 85 = .ok (.iaload, 1) := by decide +kernel
theorem dX1_cell_86 : decode cX1_cell 86 = .ok (.ireturn, 1) := by decide +kernel
theorem dX1_cell_87 : decode cX1_cell 87 = .ok (.aload_n 0, 1) := by decide +kernel
theorem dX1_cell_88 : decode cX1_cell 88 = .ok (.getfield 10, 3) := by decide +kernel
theorem dX1_cell_91 : decode cX1_cell 91 = .ok (.getfield 62, 3) := by decide +kernel
theorem dX1_cell_94 : decode cX1_cell 94 = .ok (.iload_n 1, 1) := by decide +kernel
theorem dX1_cell_95 : decode cX1_cell 95 = .ok (.iaload, 1) := by decide +kernel
theorem dX1_cell_96 : decode cX1_cell 96 = .ok (.ireturn, 1) := by decide +kernel
theorem dX1_cell_97 : decode cX1_cell 97 = .ok (.aload_n 0, 1) := by decide +kernel
theorem dX1_cell_98 : decode cX1_cell 98 = .ok (.getfield 10, 3) := by decide +kernel
theorem dX1_cell_101 : decode cX1_cell 101 = .ok (.getfield 65, 3) := by decide +kernel
theorem dX1_cell_104 : decode cX1_cell 104 = .ok (.iload_n 1, 1) := by decide +kernel
theorem dX1_cell_105 : decode cX1_cell 105 = .ok (.iaload, 1) := by decide +kernel
theorem dX1_cell_106 : decode cX1_cell 106 = .ok (.ireturn, 1) := by decide +kernel
theorem dX1_cell_107 : decode cX1_cell 107 = .ok (.aload_n 0, 1) := by decide +kernel
theorem dX1_cell_108 : decode cX1_cell 108 = .ok (.aload_n 0, 1) := by decide +kernel
theorem dX1_cell_109 : decode cX1_cell 109 = .ok (.getfield 10, 3) := by decide +kernel
theorem dX1_cell_112 : decode cX1_cell 112 = .ok (.getfield 89, 3) := by decide +kernel
theorem dX1_cell_115 : decode cX1_cell 115 = .ok (.invokevirtual 167, 3) := by decide +kernel
theorem dX1_cell_118 : decode cX1_cell 118 = .ok (.aload_n 0, 1) := by decide +kernel
theorem dX1_cell_119 : decode cX1_cell 119 = .ok (.getfield 31, 3) := by decide +kernel
theorem dX1_cell_122 : decode cX1_cell 122 = .ok (.iload_n 1, 1) := by decide +kernel
theorem dX1_cell_123 : decode cX1_cell 123 = .ok (.iaload, 1) := by decide +kernel
theorem dX1_cell_124 : decode cX1_cell 124 = .ok (.ireturn, 1) := by decide +kernel
theorem dX1_cell_125 : decode cX1_cell 125 = .ok (.aload_n 0, 1) := by decide +kernel
theorem dX1_cell_126 : decode cX1_cell 126 = .ok (.getfield 10, 3) := by decide +kernel
theorem dX1_cell_129 : decode cX1_cell 129 = .ok (.getfield 71, 3) := by decide +kernel
theorem dX1_cell_132 : decode cX1_cell 132 = .ok (.iload_n 1, 1) := by decide +kernel
theorem dX1_cell_133 : decode cX1_cell 133 = .ok (.invokestatic 74, 3) := by decide +kernel
theorem dX1_cell_136 : decode cX1_cell 136 = .ok (.ireturn, 1) := by decide +kernel
theorem dX1_cell_137 : decode cX1_cell 137 = .ok (.aload_n 0, 1) := by decide +kernel
theorem dX1_cell_138 : decode cX1_cell 138 = .ok (.getfield 10, 3) := by decide +kernel
theorem dX1_cell_141 : decode cX1_cell 141 = .ok (.getfield 89, 3) := by decide +kernel
theorem dX1_cell_144 : decode cX1_cell 144 = .ok (.iload_n 1, 1) := by decide +kernel
theorem dX1_cell_145 : decode cX1_cell 145 = .ok (.invokestatic 74, 3) := by decide +kernel
theorem dX1_cell_148 : decode cX1_cell 148 = .ok (.ireturn, 1) := by decide +kernel
theorem dX1_cell_149 : decode cX1_cell 149 = .ok (.ldc 45, 2) := by decide +kernel
theorem dX1_cell_151 : decode cX1_cell 151 = .ok (.ireturn, 1) := by decide +kernel
set_option maxRecDepth 20000 in
theorem ggX1_walker_X1_isWalker : GoodIn wsX1_walker wsX1_isWalker := goodIn_r _ [14, 2, 15, 33, 34, 35, 36, 37, 38, 39, 40, 41, 42, 43, 44, 45, 46, 47, 48, 49, 50, 51, 52, 53, 54] (by decide +kernel) (by decide +kernel)
set_option maxRecDepth 20000 in
theorem gX1_walker_X1_isWalker : GoodIn wsX1_walker (wsV RX1 92 RX1 yX1_isWalker wsX1_isWalker) := goodIn_app (goodIn_of _ (by decide +kernel)) ggX1_walker_X1_isWalker
set_option maxRecDepth 20000 in
theorem ggX1_walker_X1_isAboard : GoodIn wsX1_walker wsX1_isAboard := goodIn_r _ [19, 2, 4, 6, 10, 11, 12, 13, 14, 15, 33, 34, 35, 36, 37, 38, 39, 40, 41, 42, 43, 44, 45, 46, 47, 48, 49, 50, 51, 52, 53, 54] (by decide +kernel) (by decide +kernel)
set_option maxRecDepth 20000 in
theorem gX1_walker_X1_isAboard : GoodIn wsX1_walker (wsV RX1 95 RX1 yX1_isAboard wsX1_isAboard) := goodIn_app (goodIn_of _ (by decide +kernel)) ggX1_walker_X1_isAboard
set_option maxRecDepth 20000 in
theorem ggX1_walker_X1_billAmount : GoodIn wsX1_walker wsX1_billAmount := goodIn_r _ [23, 2, 9, 24, 10, 11, 12, 13, 14, 15, 25, 26, 27, 6, 33, 34, 35, 36, 37, 38, 39, 40, 41, 42, 43, 44, 45, 46, 47, 48, 49, 50, 51, 52, 53, 54] (by decide +kernel) (by decide +kernel)
set_option maxRecDepth 20000 in
theorem gX1_walker_X1_billAmount : GoodIn wsX1_walker (wsV RX1 171 RX1 yX1_billAmount wsX1_billAmount) := goodIn_app (goodIn_of _ (by decide +kernel)) ggX1_walker_X1_billAmount
set_option maxRecDepth 20000 in
theorem ggX1_walker_X1_backAmount : GoodIn wsX1_walker wsX1_backAmount := goodIn_r _ [31, 2, 32, 24, 10, 11, 12, 13, 14, 15, 25, 26, 27, 6, 33, 34, 35, 36, 37, 38, 39, 40, 41, 42, 43, 44, 45, 46, 47, 48, 49, 50, 51, 52, 53, 54] (by decide +kernel) (by decide +kernel)
set_option maxRecDepth 20000 in
theorem gX1_walker_X1_backAmount : GoodIn wsX1_walker (wsV RX1 135 RX1 yX1_backAmount wsX1_backAmount) := goodIn_app (goodIn_of _ (by decide +kernel)) ggX1_walker_X1_backAmount
theorem dX1_walker_0 : decode cX1_walker 0 = .ok (.aload_n 0, 1) := by decide +kernel
theorem dX1_walker_1 : decode cX1_walker 1 = .ok (.iload_n 1, 1) := by decide +kernel
theorem dX1_walker_2 : decode cX1_walker 2 = .ok (.invokevirtual 92, 3) := by decide +kernel
theorem dX1_walker_5 : decode cX1_walker 5 = .ok (.ifCond .ne 6, 3) := by decide +kernel
theorem dX1_walker_8 : decode cX1_walker 8 = .ok (.ldc 45, 2) := by decide +kernel
theorem dX1_walker_10 : decode cX1_walker 10 = .ok (.ireturn, 1) := by decide +kernel
theorem dX1_walker_11 : decode cX1_walker 11 = .ok (.iload_n 2, 1) := by decide +kernel
theorem dX1_walker_12 : decode cX1_walker 12 = .ok (.tableswitch 133 0 7 #[48, 58, 68, 91, 101, 111, 121, 127], 48) := by decide +kernel
theorem dX1_walker_60 : decode cX1_walker 60 = .ok (.aload_n 0, 1) := by decide +kernel
theorem dX1_walker_61 : decode cX1_walker 61 = .ok (.getfield 10, 3) := by decide +kernel
theorem dX1_walker_64 : decode cX1_walker 64 = .ok (.getfield 83, 3) := by decide +kernel
theorem dX1_walker_67 : decode cX1_walker 67 = .ok (.iload_n 1, 1) := by decide +kernel
theorem dX1_walker_68 : decode cX1_walker 68 = .ok (.iaload, 1) := by decide +kernel
theorem dX1_walker_69 : decode cX1_walker 69 = .ok (.ireturn, 1) := by decide +kernel
theorem dX1_walker_70 : decode cX1_walker 70 = .ok (.aload_n 0, 1) := by decide +kernel
theorem dX1_walker_71 : decode cX1_walker 71 = .ok (.getfield 10, 3) := by decide +kernel
theorem dX1_walker_74 : decode cX1_walker 74 = .ok (.getfield 71, 3) := by decide +kernel
theorem dX1_walker_77 : decode cX1_walker 77 = .ok (.iload_n 1, 1) := by decide +kernel
theorem dX1_walker_78 : decode cX1_walker 78 = .ok (.iaload, 1) := by decide +kernel
theorem dX1_walker_79 : decode cX1_walker 79 = .ok (.ireturn, 1) := by decide +kernel
theorem dX1_walker_80 : decode cX1_walker 80 = .ok (.aload_n 0, 1) := by decide +kernel
theorem dX1_walker_81 : decode cX1_walker 81 = .ok (.iload_n 1, 1) := by decide +kernel
theorem dX1_walker_82 : decode cX1_walker 82 = .ok (.invokevirtual 95, 3) := by decide +kernel
theorem dX1_walker_85 : decode cX1_walker 85 = .ok (.ifCond .eq 15, 3) := by decide +kernel
theorem dX1_walker_88 : decode cX1_walker 88 = .ok (.aload_n 0, 1) := by decide +kernel
theorem dX1_walker_89 : decode cX1_walker 89 = .ok (.getfield 10, 3) := by decide +kernel
theorem dX1_walker_92 : decode cX1_walker 92 = .ok (.getfield 86, 3) := by decide +kernel
theorem dX1_walker_95 : decode cX1_walker 95 = .ok (.iload_n 1, 1) := by decide +kernel
theorem dX1_walker_96 : decode cX1_walker 96 = .ok (.iaload, 1) := by decide +kernel
theorem dX1_walker_97 : decode cX1_walker 97 = .ok (.goto 5, 3) := by decide +kernel
theorem dX1_walker_100 : decode cX1_walker 100 = .ok (.ldc 78, 2) := by decide +kernel
theorem dX1_walker_102 : decode cX1_walker 102 = .ok (.ireturn, 1) := by decide +kernel
theorem dX1_walker_103 : decode cX1_walker 103 = .ok (.aload_n 0, 1) := by decide +kernel
theorem dX1_walker_104 : decode cX1_walker 104 = .ok (.getfield 10, 3) := by decide +kernel
theorem dX1_walker_107 : decode cX1_walker 107 = .ok (.getfield 89, 3) := by decide +kernel
theorem dX1_walker_110 : decode cX1_walker 110 = .ok (.iload_n 1, 1) := by decide +kernel
theorem dX1_walker_111 : decode cX1_walker 111 = .ok (.iaload, 1) := by decide +kernel
theorem dX1_walker_112 : decode cX1_walker 112 = .ok (.ireturn, 1) := by decide +kernel
theorem dX1_walker_113 : decode cX1_walker 113 = .ok (.aload_n 0, 1) := by decide +kernel
theorem dX1_walker_114 : decode cX1_walker 114 = .ok (.getfield 10, 3) := by decide +kernel
theorem dX1_walker_117 : decode cX1_walker 117 = .ok (.getfield 113, 3) := by decide +kernel
theorem dX1_walker_120 : decode cX1_walker 120 = .ok (.iload_n 1, 1) := by decide +kernel
theorem dX1_walker_121 : decode cX1_walker 121 = .ok (.iaload, 1) := by decide +kernel
theorem dX1_walker_122 : decode cX1_walker 122 = .ok (.ireturn, 1) := by decide +kernel
theorem dX1_walker_123 : decode cX1_walker 123 = .ok (.aload_n 0, 1) := by decide +kernel
theorem dX1_walker_124 : decode cX1_walker 124 = .ok (.getfield 10, 3) := by decide +kernel
theorem dX1_walker_127 : decode cX1_walker 127 = .ok (.getfield 116, 3) := by decide +kernel
theorem dX1_walker_130 : decode cX1_walker 130 = .ok (.iload_n 1, 1) := by decide +kernel
theorem dX1_walker_131 : decode cX1_walker 131 = .ok (.iaload, 1) := by decide +kernel
theorem dX1_walker_132 : decode cX1_walker 132 = .ok (.ireturn, 1) := by decide +kernel
theorem dX1_walker_133 : decode cX1_walker 133 = .ok (.aload_n 0, 1) := by decide +kernel
theorem dX1_walker_134 : decode cX1_walker 134 = .ok (.iload_n 1, 1) := by decide +kernel
theorem dX1_walker_135 : decode cX1_walker 135 = .ok (.invokevirtual 171, 3) := by decide +kernel
theorem dX1_walker_138 : decode cX1_walker 138 = .ok (.ireturn, 1) := by decide +kernel
theorem dX1_walker_139 : decode cX1_walker 139 = .ok (.aload_n 0, 1) := by decide +kernel
theorem dX1_walker_140 : decode cX1_walker 140 = .ok (.iload_n 1, 1) := by decide +kernel
theorem dX1_walker_141 : decode cX1_walker 141 = .ok (.invokevirtual 135, 3) := by decide +kernel
theorem dX1_walker_144 : decode cX1_walker 144 = .ok (.ireturn, 1) := by decide +kernel
theorem dX1_walker_145 : decode cX1_walker 145 = .ok (.ldc 45, 2) := by decide +kernel
theorem dX1_walker_147 : decode cX1_walker 147 = .ok (.ireturn, 1) := by decide +kernel
set_option maxRecDepth 20000 in
theorem ggX1_estimate_X1_isWalker : GoodIn wsX1_estimate wsX1_isWalker := goodIn_r _ [7, 8, 9, 61, 62, 63, 64, 65, 66, 67, 68, 69, 70, 71, 72, 73, 74, 75, 76, 77, 78, 79, 80, 81, 82] (by decide +kernel) (by decide +kernel)
set_option maxRecDepth 20000 in
theorem gX1_estimate_X1_isWalker : GoodIn wsX1_estimate (wsV RX1 92 RX1 yX1_isWalker wsX1_isWalker) := goodIn_app (goodIn_of _ (by decide +kernel)) ggX1_estimate_X1_isWalker
set_option maxRecDepth 20000 in
theorem ggX1_estimate_X1_isAboard : GoodIn wsX1_estimate wsX1_isAboard := goodIn_r _ [13, 8, 14, 15, 3, 4, 5, 6, 7, 9, 61, 62, 63, 64, 65, 66, 67, 68, 69, 70, 71, 72, 73, 74, 75, 76, 77, 78, 79, 80, 81, 82] (by decide +kernel) (by decide +kernel)
set_option maxRecDepth 20000 in
theorem gX1_estimate_X1_isAboard : GoodIn wsX1_estimate (wsV RX1 95 RX1 yX1_isAboard wsX1_isAboard) := goodIn_app (goodIn_of _ (by decide +kernel)) ggX1_estimate_X1_isAboard
set_option maxRecDepth 20000 in
theorem ggX1_estimate_X1_estimateFor : GoodIn wsX1_estimate wsX1_estimateFor := goodIn_r _ [19, 8, 20, 21, 22, 23, 24, 25, 26, 27, 10, 11, 12, 6, 13, 14, 15, 3, 4, 5, 7, 9, 28, 29, 30, 31, 32, 33, 34, 35, 36, 37, 38, 39, 40, 41, 42, 43, 44, 45, 46, 47, 48, 49, 50, 51, 52, 53, 54, 55, 56, 57, 58, 59, 60, 61, 62, 63, 64, 65, 66, 67, 68, 69, 70, 71, 72, 73, 74, 75, 76, 77, 78, 79, 80, 81, 82] (by decide +kernel) (by decide +kernel)
set_option maxRecDepth 20000 in
theorem gX1_estimate_X1_estimateFor : GoodIn wsX1_estimate (wsV RX1 174 RX1 yX1_estimateFor wsX1_estimateFor) := goodIn_app (goodIn_of _ (by decide +kernel)) ggX1_estimate_X1_estimateFor
theorem dX1_estimate_0 : decode cX1_estimate 0 = .ok (.aload_n 0, 1) := by decide +kernel
theorem dX1_estimate_1 : decode cX1_estimate 1 = .ok (.iload_n 1, 1) := by decide +kernel
theorem dX1_estimate_2 : decode cX1_estimate 2 = .ok (.invokevirtual 92, 3) := by decide +kernel
theorem dX1_estimate_5 : decode cX1_estimate 5 = .ok (.ifCond .ne 6, 3) := by decide +kernel
theorem dX1_estimate_8 : decode cX1_estimate 8 = .ok (.ldc 45, 2) := by decide +kernel
theorem dX1_estimate_10 : decode cX1_estimate 10 = .ok (.ireturn, 1) := by decide +kernel
theorem dX1_estimate_11 : decode cX1_estimate 11 = .ok (.aload_n 0, 1) := by decide +kernel
theorem dX1_estimate_12 : decode cX1_estimate 12 = .ok (.iload_n 1, 1) := by decide +kernel
theorem dX1_estimate_13 : decode cX1_estimate 13 = .ok (.invokevirtual 95, 3) := by decide +kernel
theorem dX1_estimate_16 : decode cX1_estimate 16 = .ok (.ifCond .ne 6, 3) := by decide +kernel
theorem dX1_estimate_19 : decode cX1_estimate 19 = .ok (.ldc 55, 2) := by decide +kernel
theorem dX1_estimate_21 : decode cX1_estimate 21 = .ok (.ireturn, 1) := by decide +kernel
theorem dX1_estimate_22 : decode cX1_estimate 22 = .ok (.aload_n 0, 1) := by decide +kernel
theorem dX1_estimate_23 : decode cX1_estimate 23 = .ok (.iload_n 1, 1) := by decide +kernel
theorem dX1_estimate_24 : decode cX1_estimate 24 = .ok (.invokevirtual 174, 3) := by decide +kernel
theorem dX1_estimate_27 : decode cX1_estimate 27 = .ok (.ireturn, 1) := by decide +kernel
set_option maxRecDepth 20000 in
theorem ggX1_certainty_X1_isWalker : GoodIn wsX1_certainty wsX1_isWalker := goodIn_r _ [7, 8, 9, 41, 42, 43, 44, 45, 46, 47, 48, 49, 50, 51, 52, 53, 54, 55, 56, 57, 58, 59, 60, 61, 62] (by decide +kernel) (by decide +kernel)
set_option maxRecDepth 20000 in
theorem gX1_certainty_X1_isWalker : GoodIn wsX1_certainty (wsV RX1 92 RX1 yX1_isWalker wsX1_isWalker) := goodIn_app (goodIn_of _ (by decide +kernel)) ggX1_certainty_X1_isWalker
set_option maxRecDepth 20000 in
theorem ggX1_certainty_X1_isAboard : GoodIn wsX1_certainty wsX1_isAboard := goodIn_r _ [13, 8, 14, 15, 3, 4, 5, 6, 7, 9, 41, 42, 43, 44, 45, 46, 47, 48, 49, 50, 51, 52, 53, 54, 55, 56, 57, 58, 59, 60, 61, 62] (by decide +kernel) (by decide +kernel)
set_option maxRecDepth 20000 in
theorem gX1_certainty_X1_isAboard : GoodIn wsX1_certainty (wsV RX1 95 RX1 yX1_isAboard wsX1_isAboard) := goodIn_app (goodIn_of _ (by decide +kernel)) ggX1_certainty_X1_isAboard
set_option maxRecDepth 20000 in
theorem ggX1_certainty_X1_certaintyFor : GoodIn wsX1_certainty wsX1_certaintyFor := goodIn_r _ [19, 8, 20, 21, 22, 23, 24, 25, 26, 10, 11, 12, 6, 13, 14, 15, 3, 4, 5, 7, 9, 27, 28, 29, 30, 31, 32, 33, 34, 35, 36, 37, 38, 39, 40, 41, 42, 43, 44, 45, 46, 47, 48, 49, 50, 51, 52, 53, 54, 55, 56, 57, 58, 59, 60, 61, 62] (by decide +kernel) (by decide +kernel)
set_option maxRecDepth 20000 in
theorem gX1_certainty_X1_certaintyFor : GoodIn wsX1_certainty (wsV RX1 177 RX1 yX1_certaintyFor wsX1_certaintyFor) := goodIn_app (goodIn_of _ (by decide +kernel)) ggX1_certainty_X1_certaintyFor
theorem dX1_certainty_0 : decode cX1_certainty 0 = .ok (.aload_n 0, 1) := by decide +kernel
theorem dX1_certainty_1 : decode cX1_certainty 1 = .ok (.iload_n 1, 1) := by decide +kernel
theorem dX1_certainty_2 : decode cX1_certainty 2 = .ok (.invokevirtual 92, 3) := by decide +kernel
theorem dX1_certainty_5 : decode cX1_certainty 5 = .ok (.ifCond .ne 6, 3) := by decide +kernel
theorem dX1_certainty_8 : decode cX1_certainty 8 = .ok (.ldc 45, 2) := by decide +kernel
theorem dX1_certainty_10 : decode cX1_certainty 10 = .ok (.ireturn, 1) := by decide +kernel
theorem dX1_certainty_11 : decode cX1_certainty 11 = .ok (.aload_n 0, 1) := by decide +kernel
theorem dX1_certainty_12 : decode cX1_certainty 12 = .ok (.iload_n 1, 1) := by decide +kernel
theorem dX1_certainty_13 : decode cX1_certainty 13 = .ok (.invokevirtual 95, 3) := by decide +kernel
theorem dX1_certainty_16 : decode cX1_certainty 16 = .ok (.ifCond .ne 6, 3) := by decide +kernel
theorem dX1_certainty_19 : decode cX1_certainty 19 = .ok (.ldc 55, 2) := by decide +kernel
theorem dX1_certainty_21 : decode cX1_certainty 21 = .ok (.ireturn, 1) := by decide +kernel
theorem dX1_certainty_22 : decode cX1_certainty 22 = .ok (.aload_n 0, 1) := by decide +kernel
theorem dX1_certainty_23 : decode cX1_certainty 23 = .ok (.iload_n 1, 1) := by decide +kernel
theorem dX1_certainty_24 : decode cX1_certainty 24 = .ok (.invokevirtual 177, 3) := by decide +kernel
theorem dX1_certainty_27 : decode cX1_certainty 27 = .ok (.ireturn, 1) := by decide +kernel
theorem dX1_isWithin_0 : decode cX1_isWithin 0 = .ok (.iload_n 0, 1) := by decide +kernel
theorem dX1_isWithin_1 : decode cX1_isWithin 1 = .ok (.iload_n 1, 1) := by decide +kernel
theorem dX1_isWithin_2 : decode cX1_isWithin 2 = .ok (.if_icmp .lt 12, 3) := by decide +kernel
theorem dX1_isWithin_5 : decode cX1_isWithin 5 = .ok (.iload_n 0, 1) := by decide +kernel
theorem dX1_isWithin_6 : decode cX1_isWithin 6 = .ok (.iload_n 2, 1) := by decide +kernel
theorem dX1_isWithin_7 : decode cX1_isWithin 7 = .ok (.if_icmp .gt 7, 3) := by decide +kernel
theorem dX1_isWithin_10 : decode cX1_isWithin 10 = .ok (.iconst 1, 1) := by decide +kernel
theorem dX1_isWithin_11 : decode cX1_isWithin 11 = .ok (.goto 4, 3) := by decide +kernel
theorem dX1_isWithin_14 : decode cX1_isWithin 14 = .ok (.iconst 0, 1) := by decide +kernel
theorem dX1_isWithin_15 : decode cX1_isWithin 15 = .ok (.ireturn, 1) := by decide +kernel
theorem dX1_isCell_0 : decode cX1_isCell 0 = .ok (.iload_n 0, 1) := by decide +kernel
theorem dX1_isCell_1 : decode cX1_isCell 1 = .ok (.ifCond .lt 13, 3) := by decide +kernel
theorem dX1_isCell_4 : decode cX1_isCell 4 = .ok (.iload_n 0, 1) := by decide +kernel
theorem dX1_isCell_5 : decode cX1_isCell 5 = .ok (.bipush 24, 2) := by decide +kernel
theorem dX1_isCell_7 : decode cX1_isCell 7 = .ok (.if_icmp .ge 7, 3) := by decide +kernel
theorem dX1_isCell_10 : decode cX1_isCell 10 = .ok (.iconst 1, 1) := by decide +kernel
theorem dX1_isCell_11 : decode cX1_isCell 11 = .ok (.goto 4, 3) := by decide +kernel
theorem dX1_isCell_14 : decode cX1_isCell 14 = .ok (.iconst 0, 1) := by decide +kernel
theorem dX1_isCell_15 : decode cX1_isCell 15 = .ok (.ireturn, 1) := by decide +kernel
set_option maxRecDepth 20000 in
theorem ggX1_isWeight_X1_isWithin : GoodIn wsX1_isWeight wsX1_isWithin := goodIn_r _ [4] (by decide +kernel) (by decide +kernel)
set_option maxRecDepth 20000 in
theorem gX1_isWeight_X1_isWithin : GoodIn wsX1_isWeight (va_wsS RX1 41 yX1_isWithin wsX1_isWithin) := goodIn_app (goodIn_of _ (by decide +kernel)) ggX1_isWeight_X1_isWithin
theorem dX1_isWeight_0 : decode cX1_isWeight 0 = .ok (.iload_n 0, 1) := by decide +kernel
theorem dX1_isWeight_1 : decode cX1_isWeight 1 = .ok (.bipush 20, 2) := by decide +kernel
theorem dX1_isWeight_3 : decode cX1_isWeight 3 = .ok (.sipush 150, 3) := by decide +kernel
theorem dX1_isWeight_6 : decode cX1_isWeight 6 = .ok (.invokestatic 41, 3) := by decide +kernel
theorem dX1_isWeight_9 : decode cX1_isWeight 9 = .ok (.ireturn, 1) := by decide +kernel
theorem dX1_isWalker_0 : decode cX1_isWalker 0 = .ok (.iload_n 1, 1) := by decide +kernel
theorem dX1_isWalker_1 : decode cX1_isWalker 1 = .ok (.ifCond .lt 24, 3) := by decide +kernel
theorem dX1_isWalker_4 : decode cX1_isWalker 4 = .ok (.iload_n 1, 1) := by decide +kernel
theorem dX1_isWalker_5 : decode cX1_isWalker 5 = .ok (.aload_n 0, 1) := by decide +kernel
theorem dX1_isWalker_6 : decode cX1_isWalker 6 = .ok (.getfield 10, 3) := by decide +kernel
theorem dX1_isWalker_9 : decode cX1_isWalker 9 = .ok (.getfield 79, 3) := by decide +kernel
theorem dX1_isWalker_12 : decode cX1_isWalker 12 = .ok (.if_icmp .ge 13, 3) := by decide +kernel
theorem dX1_isWalker_15 : decode cX1_isWalker 15 = .ok (.iload_n 1, 1) := by decide +kernel
theorem dX1_isWalker_16 : decode cX1_isWalker 16 = .ok (.bipush 8, 2) := by decide +kernel
theorem dX1_isWalker_18 : decode cX1_isWalker 18 = .ok (.if_icmp .ge 7, 3) := by decide +kernel
theorem dX1_isWalker_21 : decode cX1_isWalker 21 = .ok (.iconst 1, 1) := by decide +kernel
theorem dX1_isWalker_22 : decode cX1_isWalker 22 = .ok (.goto 4, 3) := by decide +kernel
theorem dX1_isWalker_25 : decode cX1_isWalker 25 = .ok (.iconst 0, 1) := by decide +kernel
theorem dX1_isWalker_26 : decode cX1_isWalker 26 = .ok (.ireturn, 1) := by decide +kernel
set_option maxRecDepth 20000 in
theorem ggX1_isPair_X1_isWalker : GoodIn wsX1_isPair wsX1_isWalker := goodIn_r _ [5, 6, 7, 8, 9, 10, 11, 12, 13, 14, 15, 16, 17, 18, 19, 20, 21, 22, 23, 24, 25, 26, 27, 28, 29] (by decide +kernel) (by decide +kernel)
set_option maxRecDepth 20000 in
theorem gX1_isPair_X1_isWalker : GoodIn wsX1_isPair (wsV RX1 92 RX1 yX1_isWalker wsX1_isWalker) := goodIn_app (goodIn_of _ (by decide +kernel)) ggX1_isPair_X1_isWalker
theorem dX1_isPair_0 : decode cX1_isPair 0 = .ok (.aload_n 0, 1) := by decide +kernel
theorem dX1_isPair_1 : decode cX1_isPair 1 = .ok (.iload_n 1, 1) := by decide +kernel
theorem dX1_isPair_2 : decode cX1_isPair 2 = .ok (.invokevirtual 92, 3) := by decide +kernel
theorem dX1_isPair_5 : decode cX1_isPair 5 = .ok (.ifCond .eq 20, 3) := by decide +kernel
theorem dX1_isPair_8 : decode cX1_isPair 8 = .ok (.aload_n 0, 1) := by decide +kernel
theorem dX1_isPair_9 : decode cX1_isPair 9 = .ok (.iload_n 2, 1) := by decide +kernel
theorem dX1_isPair_10 : decode cX1_isPair 10 = .ok (.invokevirtual 92, 3) := by decide +kernel
theorem dX1_isPair_13 : decode cX1_isPair 13 = .ok (.ifCond .eq 12, 3) := by decide +kernel
theorem dX1_isPair_16 : decode cX1_isPair 16 = .ok (.iload_n 1, 1) := by decide +kernel
theorem dX1_isPair_17 : decode cX1_isPair 17 = .ok (.iload_n 2, 1) := by decide +kernel
theorem dX1_isPair_18 : decode cX1_isPair 18 = .ok (.if_icmp .eq 7, 3) := by decide +kernel
theorem dX1_isPair_21 : decode cX1_isPair 21 = .ok (.iconst 1, 1) := by decide +kernel
theorem dX1_isPair_22 : decode cX1_isPair 22 = .ok (.goto 4, 3) := by decide +kernel
theorem dX1_isPair_25 : decode cX1_isPair 25 = .ok (.iconst 0, 1) := by decide +kernel
theorem dX1_isPair_26 : decode cX1_isPair 26 = .ok (.ireturn, 1) := by decide +kernel
set_option maxRecDepth 20000 in
theorem ggX1_isAboard_X1_isWalker : GoodIn wsX1_isAboard wsX1_isWalker := goodIn_r _ [8, 1, 9, 10, 11, 12, 13, 14, 15, 16, 17, 18, 19, 20, 21, 22, 23, 24, 25, 26, 27, 28, 29, 30, 31] (by decide +kernel) (by decide +kernel)
set_option maxRecDepth 20000 in
theorem gX1_isAboard_X1_isWalker : GoodIn wsX1_isAboard (wsV RX1 92 RX1 yX1_isWalker wsX1_isWalker) := goodIn_app (goodIn_of _ (by decide +kernel)) ggX1_isAboard_X1_isWalker
theorem dX1_isAboard_0 : decode cX1_isAboard 0 = .ok (.aload_n 0, 1) := by decide +kernel
theorem dX1_isAboard_1 : decode cX1_isAboard 1 = .ok (.iload_n 1, 1) := by decide +kernel
theorem dX1_isAboard_2 : decode cX1_isAboard 2 = .ok (.invokevirtual 92, 3) := by decide +kernel
theorem dX1_isAboard_5 : decode cX1_isAboard 5 = .ok (.ifCond .eq 21, 3) := by decide +kernel
theorem dX1_isAboard_8 : decode cX1_isAboard 8 = .ok (.aload_n 0, 1) := by decide +kernel
theorem dX1_isAboard_9 : decode cX1_isAboard 9 = .ok (.getfield 10, 3) := by decide +kernel
theorem dX1_isAboard_12 : decode cX1_isAboard 12 = .ok (.getfield 71, 3) := by decide +kernel
theorem dX1_isAboard_15 : decode cX1_isAboard 15 = .ok (.iload_n 1, 1) := by decide +kernel
theorem dX1_isAboard_16 : decode cX1_isAboard 16 = .ok (.iaload, 1) := by decide +kernel
theorem dX1_isAboard_17 : decode cX1_isAboard 17 = .ok (.ldc 78, 2) := by decide +kernel
theorem dX1_isAboard_19 : decode cX1_isAboard 19 = .ok (.if_icmp .eq 7, 3) := by decide +kernel
theorem dX1_isAboard_22 : decode cX1_isAboard 22 = .ok (.iconst 1, 1) := by decide +kernel
theorem dX1_isAboard_23 : decode cX1_isAboard 23 = .ok (.goto 4, 3) := by decide +kernel
theorem dX1_isAboard_26 : decode cX1_isAboard 26 = .ok (.iconst 0, 1) := by decide +kernel
theorem dX1_isAboard_27 : decode cX1_isAboard 27 = .ok (.ireturn, 1) := by decide +kernel
theorem dX1_nearCell_0 : decode cX1_nearCell 0 = .ok (.iload_n 0, 1) := by decide +kernel
theorem dX1_nearCell_1 : decode cX1_nearCell 1 = .ok (.bipush 6, 2) := by decide +kernel
theorem dX1_nearCell_3 : decode cX1_nearCell 3 = .ok (.irem, 1) := by decide +kernel
theorem dX1_nearCell_4 : decode cX1_nearCell 4 = .ok (.istore_n 2, 1) := by decide +kernel
theorem dX1_nearCell_5 : decode cX1_nearCell 5 = .ok (.iload_n 1, 1) := by decide +kernel
theorem dX1_nearCell_6 : decode cX1_nearCell 6 = .ok (.tableswitch 73 0 4 #[34, 36, 41, 46, 59], 34) := by decide +kernel
theorem dX1_nearCell_40 : decode cX1_nearCell 40 = .ok (.iload_n 0, 1) := by decide +kernel
theorem dX1_nearCell_41 : decode cX1_nearCell 41 = .ok (.ireturn, 1) := by decide +kernel
theorem dX1_nearCell_42 : decode cX1_nearCell 42 = .ok (.iload_n 0, 1) := by decide +kernel
theorem dX1_nearCell_43 : decode cX1_nearCell 43 = .ok (.bipush 6, 2) := by decide +kernel
theorem dX1_nearCell_45 : decode cX1_nearCell 45 = .ok (.isub, 1) := by decide +kernel
theorem dX1_nearCell_46 : decode cX1_nearCell 46 = .ok (.ireturn, 1) := by decide +kernel
theorem dX1_nearCell_47 : decode cX1_nearCell 47 = .ok (.iload_n 0, 1) := by decide +kernel
theorem dX1_nearCell_48 : decode cX1_nearCell 48 = .ok (.bipush 6, 2) := by decide +kernel
theorem dX1_nearCell_50 : decode cX1_nearCell 50 = .ok (.iadd, 1) := by decide +kernel
theorem dX1_nearCell_51 : decode cX1_nearCell 51 = .ok (.ireturn, 1) := by decide +kernel
theorem dX1_nearCell_52 : decode cX1_nearCell 52 = .ok (.iload_n 2, 1) := by decide +kernel
theorem dX1_nearCell_53 : decode cX1_nearCell 53 = .ok (.ifCond .ne 8, 3) := by decide +kernel
theorem dX1_nearCell_56 : decode cX1_nearCell 56 = .ok (.ldc 78, 2) := by decide +kernel
theorem dX1_nearCell_58 : decode cX1_nearCell 58 = .ok (.goto 6, 3) := by decide +kernel
theorem dX1_nearCell_61 : decode cX1_nearCell 61 = .ok (.iload_n 0, 1) := by decide +kernel
theorem dX1_nearCell_62 : decode cX1_nearCell 62 = .ok (.iconst 1, 1) := by decide +kernel
theorem dX1_nearCell_63 : decode cX1_nearCell 63 = .ok (.isub, 1) := by decide +kernel
theorem dX1_nearCell_64 : decode cX1_nearCell 64 = .ok (.ireturn, 1) := by decide +kernel
theorem dX1_nearCell_65 : decode cX1_nearCell 65 = .ok (.iload_n 2, 1) := by decide +kernel
theorem dX1_nearCell_66 : decode cX1_nearCell 66 = .ok (.iconst 5, 1) := by decide +kernel
theorem dX1_nearCell_67 : decode cX1_nearCell 67 = .ok (.if_icmp .ne 8, 3) := by decide +kernel
theorem dX1_nearCell_70 : decode cX1_nearCell 70 = .ok (.ldc 78, 2) := by decide +kernel
theorem dX1_nearCell_72 : decode cX1_nearCell 72 = .ok (.goto 6, 3) := by decide +kernel
theorem dX1_nearCell_75 : decode cX1_nearCell 75 = .ok (.iload_n 0, 1) := by decide +kernel
theorem dX1_nearCell_76 : decode cX1_nearCell 76 = .ok (.iconst 1, 1) := by decide +kernel
theorem dX1_nearCell_77 : decode cX1_nearCell 77 = .ok (.iadd, 1) := by decide +kernel
theorem dX1_nearCell_78 : decode cX1_nearCell 78 = .ok (.ireturn, 1) := by decide +kernel
theorem dX1_nearCell_79 : decode cX1_nearCell 79 = .ok (.ldc 78, 2) := by decide +kernel
theorem dX1_nearCell_81 : decode cX1_nearCell 81 = .ok (.ireturn, 1) := by decide +kernel
set_option maxRecDepth 20000 in
theorem ggX1_addShares_X1_isCell : GoodIn wsX1_addShares wsX1_isCell := goodIn_r _ [4] (by decide +kernel) (by decide +kernel)
set_option maxRecDepth 20000 in
theorem gX1_addShares_X1_isCell : GoodIn wsX1_addShares (va_wsS RX1 37 yX1_isCell wsX1_isCell) := goodIn_app (goodIn_of _ (by decide +kernel)) ggX1_addShares_X1_isCell
set_option maxRecDepth 20000 in
theorem ggX1_addShares_X1_nearCell : GoodIn wsX1_addShares wsX1_nearCell := goodIn_r _ [7, 8] (by decide +kernel) (by decide +kernel)
set_option maxRecDepth 20000 in
theorem gX1_addShares_X1_nearCell : GoodIn wsX1_addShares (va_wsS RX1 195 yX1_nearCell wsX1_nearCell) := goodIn_app (goodIn_of _ (by decide +kernel)) ggX1_addShares_X1_nearCell
theorem dX1_addShares_0 : decode cX1_addShares 0 = .ok (.iload_n 2, 1) := by decide +kernel
theorem dX1_addShares_1 : decode cX1_addShares 1 = .ok (.invokestatic 37, 3) := by decide +kernel
theorem dX1_addShares_4 : decode cX1_addShares 4 = .ok (.ifCond .ne 4, 3) := by decide +kernel
theorem dX1_addShares_7 : decode cX1_addShares 7 = .ok (.return_, 1) := by decide +kernel
theorem dX1_addShares_8 : decode cX1_addShares 8 = .ok (.iload_n 1, 1) := by decide +kernel
theorem dX1_addShares_9 : decode cX1_addShares 9 = .ok (.bipush 8, 2) := by decide +kernel
theorem dX1_addShares_11 : decode cX1_addShares 11 = .ok (.idiv, 1) := by decide +kernel
theorem dX1_addShares_12 : decode cX1_addShares 12 = .ok (.istore_n 3, 1) := by decide +kernel
theorem dX1_addShares_13 : decode cX1_addShares 13 = .ok (.iload_n 1, 1) := by decide +kernel
theorem dX1_addShares_14 : decode cX1_addShares 14 = .ok (.istore 4, 2) := by decide +kernel
theorem dX1_addShares_16 : decode cX1_addShares 16 = .ok (.iconst 1, 1) := by decide +kernel
theorem dX1_addShares_17 : decode cX1_addShares 17 = .ok (.istore 5, 2) := by decide +kernel
theorem dX1_addShares_19 : decode cX1_addShares 19 = .ok (.iload 5, 2) := by decide +kernel
theorem dX1_addShares_21 : decode cX1_addShares 21 = .ok (.iconst 5, 1) := by decide +kernel
theorem dX1_addShares_22 : decode cX1_addShares 22 = .ok (.if_icmp .ge 39, 3) := by decide +kernel
theorem dX1_addShares_25 : decode cX1_addShares 25 = .ok (.iload_n 2, 1) := by decide +kernel
theorem dX1_addShares_26 : decode cX1_addShares 26 = .ok (.iload 5, 2) := by decide +kernel
theorem dX1_addShares_28 : decode cX1_addShares 28 = .ok (.invokestatic 195, 3) := by decide +kernel
theorem dX1_addShares_31 : decode cX1_addShares 31 = .ok (.istore 6, 2) := by decide +kernel
theorem dX1_addShares_33 : decode cX1_addShares 33 = .ok (.iload 6, 2) := by decide +kernel
theorem dX1_addShares_35 : decode cX1_addShares 35 = .ok (.invokestatic 37, 3) := by decide +kernel
theorem dX1_addShares_38 : decode cX1_addShares 38 = .ok (.ifCond .eq 17, 3) := by decide +kernel
theorem dX1_addShares_41 : decode cX1_addShares 41 = .ok (.aload_n 0, 1) := by decide +kernel
theorem dX1_addShares_42 : decode cX1_addShares 42 = .ok (.iload 6, 2) := by decide +kernel
theorem dX1_addShares_44 : decode cX1_addShares 44 = .ok (.dup2, 1) := by decide +kernel
theorem dX1_addShares_45 : decode cX1_addShares 45 = .ok (.iaload, 1) := by decide +kernel
theorem dX1_addShares_46 : decode cX1_addShares 46 = .ok (.iload_n 3, 1) := by decide +kernel
theorem dX1_addShares_47 : decode cX1_addShares 47 = .ok (.iadd, 1) := by decide +kernel
theorem dX1_addShares_48 : decode cX1_addShares 48 = .ok (.iastore, 1) := by decide +kernel
theorem dX1_addShares_49 : decode cX1_addShares 49 = .ok (.iload 4, 2) := by decide +kernel
theorem dX1_addShares_51 : decode cX1_addShares 51 = .ok (.iload_n 3, 1) := by decide +kernel
theorem dX1_addShares_52 : decode cX1_addShares 52 = .ok (.isub, 1) := by decide +kernel
theorem dX1_addShares_53 : decode cX1_addShares 53 = .ok (.istore 4, 2) := by decide +kernel
theorem dX1_addShares_55 : decode cX1_addShares 55 = .ok (.iinc 5 1, 3) := by decide +kernel
theorem dX1_addShares_58 : decode cX1_addShares 58 = .ok (.goto (-39), 3) := by decide +kernel
theorem dX1_addShares_61 : decode cX1_addShares 61 = .ok (.aload_n 0, 1) := by decide +kernel
theorem dX1_addShares_62 : decode cX1_addShares 62 = .ok (.iload_n 2, 1) := by decide +kernel
theorem dX1_addShares_63 : decode cX1_addShares 63 = .ok (.dup2, 1) := by decide +kernel
theorem dX1_addShares_64 : decode cX1_addShares 64 = .ok (.iaload, 1) := by decide +kernel
theorem dX1_addShares_65 : decode cX1_addShares 65 = .ok (.iload 4, 2) := by decide +kernel
theorem dX1_addShares_67 : decode cX1_addShares 67 = .ok (.iadd, 1) := by decide +kernel
theorem dX1_addShares_68 : decode cX1_addShares 68 = .ok (.iastore, 1) := by decide +kernel
theorem dX1_addShares_69 : decode cX1_addShares 69 = .ok (.return_, 1) := by decide +kernel
set_option maxRecDepth 20000 in
theorem ggX1_addAllShares_X1_addShares : GoodIn wsX1_addAllShares wsX1_addShares := goodIn_r _ [4, 5, 6, 3, 7, 8, 9, 10, 11] (by decide +kernel) (by decide +kernel)
set_option maxRecDepth 20000 in
theorem gX1_addAllShares_X1_addShares : GoodIn wsX1_addAllShares (va_wsS RX1 198 yX1_addShares wsX1_addShares) := goodIn_app (goodIn_of _ (by decide +kernel)) ggX1_addAllShares_X1_addShares
theorem dX1_addAllShares_0 : decode cX1_addAllShares 0 = .ok (.iconst 0, 1) := by decide +kernel
theorem dX1_addAllShares_1 : decode cX1_addAllShares 1 = .ok (.istore_n 3, 1) := by decide +kernel
theorem dX1_addAllShares_2 : decode cX1_addAllShares 2 = .ok (.iload_n 3, 1) := by decide +kernel
theorem dX1_addAllShares_3 : decode cX1_addAllShares 3 = .ok (.bipush 8, 2) := by decide +kernel
theorem dX1_addAllShares_5 : decode cX1_addAllShares 5 = .ok (.if_icmp .ge 19, 3) := by decide +kernel
theorem dX1_addAllShares_8 : decode cX1_addAllShares 8 = .ok (.aload_n 0, 1) := by decide +kernel
theorem dX1_addAllShares_9 : decode cX1_addAllShares 9 = .ok (.aload_n 1, 1) := by decide +kernel
theorem dX1_addAllShares_10 : decode cX1_addAllShares 10 = .ok (.iload_n 3, 1) := by decide +kernel
theorem dX1_addAllShares_11 : decode cX1_addAllShares 11 = .ok (.iaload, 1) := by decide +kernel
theorem dX1_addAllShares_12 : decode cX1_addAllShares 12 = .ok (.aload_n 2, 1) := by decide +kernel
theorem dX1_addAllShares_13 : decode cX1_addAllShares 13 = .ok (.iload_n 3, 1) := by decide +kernel
theorem dX1_addAllShares_14 : decode cX1_addAllShares 14 = .ok (.iaload, 1) := by decide +kernel
theorem dX1_addAllShares_15 : decode cX1_addAllShares 15 = .ok (.invokestatic 198, 3) := by decide +kernel
theorem dX1_addAllShares_18 : decode cX1_addAllShares 18 = .ok (.iinc 3 1, 3) := by decide +kernel
theorem dX1_addAllShares_21 : decode cX1_addAllShares 21 = .ok (.goto (-19), 3) := by decide +kernel
theorem dX1_addAllShares_24 : decode cX1_addAllShares 24 = .ok (.return_, 1) := by decide +kernel
set_option maxRecDepth 20000 in
theorem ggX1_weighAll_X1_copyRow : GoodIn wsX1_weighAll wsX1_copyRow := goodIn_r _ [9, 10, 11, 12, 13, 14, 15, 16, 17] (by decide +kernel) (by decide +kernel)
set_option maxRecDepth 20000 in
theorem gX1_weighAll_X1_copyRow : GoodIn wsX1_weighAll (va_wsS RX1 180 yX1_copyRow wsX1_copyRow) := goodIn_app (goodIn_of _ (by decide +kernel)) ggX1_weighAll_X1_copyRow
set_option maxRecDepth 20000 in
theorem ggX1_weighAll_X1_addAllShares : GoodIn wsX1_weighAll wsX1_addAllShares := goodIn_r _ [20, 21, 22, 8, 23, 24, 25, 26, 27, 28, 29, 30] (by decide +kernel) (by decide +kernel)
set_option maxRecDepth 20000 in
theorem gX1_weighAll_X1_addAllShares : GoodIn wsX1_weighAll (va_wsS RX1 201 yX1_addAllShares wsX1_addAllShares) := goodIn_app (goodIn_of _ (by decide +kernel)) ggX1_weighAll_X1_addAllShares
theorem dX1_weighAll_0 : decode cX1_weighAll 0 = .ok (.aload_n 0, 1) := by decide +kernel
theorem dX1_weighAll_1 : decode cX1_weighAll 1 = .ok (.getfield 10, 3) := by decide +kernel
theorem dX1_weighAll_4 : decode cX1_weighAll 4 = .ok (.getfield 56, 3) := by decide +kernel
theorem dX1_weighAll_7 : decode cX1_weighAll 7 = .ok (.aload_n 0, 1) := by decide +kernel
theorem dX1_weighAll_8 : decode cX1_weighAll 8 = .ok (.getfield 27, 3) := by decide +kernel
theorem dX1_weighAll_11 : decode cX1_weighAll 11 = .ok (.invokestatic 180, 3) := by decide +kernel
theorem dX1_weighAll_14 : decode cX1_weighAll 14 = .ok (.aload_n 0, 1) := by decide +kernel
theorem dX1_weighAll_15 : decode cX1_weighAll 15 = .ok (.getfield 27, 3) := by decide +kernel
theorem dX1_weighAll_18 : decode cX1_weighAll 18 = .ok (.aload_n 0, 1) := by decide +kernel
theorem dX1_weighAll_19 : decode cX1_weighAll 19 = .ok (.getfield 10, 3) := by decide +kernel
theorem dX1_weighAll_22 : decode cX1_weighAll 22 = .ok (.getfield 83, 3) := by decide +kernel
theorem dX1_weighAll_25 : decode cX1_weighAll 25 = .ok (.aload_n 0, 1) := by decide +kernel
theorem dX1_weighAll_26 : decode cX1_weighAll 26 = .ok (.getfield 10, 3) := by decide +kernel
theorem dX1_weighAll_29 : decode cX1_weighAll 29 = .ok (.getfield 71, 3) := by decide +kernel
theorem dX1_weighAll_32 : decode cX1_weighAll 32 = .ok (.invokestatic 201, 3) := by decide +kernel
theorem dX1_weighAll_35 : decode cX1_weighAll 35 = .ok (.return_, 1) := by decide +kernel
set_option maxRecDepth 20000 in
theorem ggX1_expectAll_X1_copyRow : GoodIn wsX1_expectAll wsX1_copyRow := goodIn_r _ [8, 9, 10, 11, 12, 13, 14, 15, 16] (by decide +kernel) (by decide +kernel)
set_option maxRecDepth 20000 in
theorem gX1_expectAll_X1_copyRow : GoodIn wsX1_expectAll (va_wsS RX1 180 yX1_copyRow wsX1_copyRow) := goodIn_app (goodIn_of _ (by decide +kernel)) ggX1_expectAll_X1_copyRow
set_option maxRecDepth 20000 in
theorem ggX1_expectAll_X1_addAllShares : GoodIn wsX1_expectAll wsX1_addAllShares := goodIn_r _ [19, 20, 21, 7, 22, 23, 24, 25, 26, 27, 28, 29] (by decide +kernel) (by decide +kernel)
set_option maxRecDepth 20000 in
theorem gX1_expectAll_X1_addAllShares : GoodIn wsX1_expectAll (va_wsS RX1 201 yX1_addAllShares wsX1_addAllShares) := goodIn_app (goodIn_of _ (by decide +kernel)) ggX1_expectAll_X1_addAllShares
theorem dX1_expectAll_0 : decode cX1_expectAll 0 = .ok (.aload_n 0, 1) := by decide +kernel
theorem dX1_expectAll_1 : decode cX1_expectAll 1 = .ok (.getfield 10, 3) := by decide +kernel
theorem dX1_expectAll_4 : decode cX1_expectAll 4 = .ok (.getfield 62, 3) := by decide +kernel
theorem dX1_expectAll_7 : decode cX1_expectAll 7 = .ok (.aload_n 0, 1) := by decide +kernel
theorem dX1_expectAll_8 : decode cX1_expectAll 8 = .ok (.getfield 31, 3) := by decide +kernel
theorem dX1_expectAll_11 : decode cX1_expectAll 11 = .ok (.invokestatic 180, 3) := by decide +kernel
theorem dX1_expectAll_14 : decode cX1_expectAll 14 = .ok (.aload_n 0, 1) := by decide +kernel
theorem dX1_expectAll_15 : decode cX1_expectAll 15 = .ok (.getfield 31, 3) := by decide +kernel
theorem dX1_expectAll_18 : decode cX1_expectAll 18 = .ok (.aload_n 0, 1) := by decide +kernel
theorem dX1_expectAll_19 : decode cX1_expectAll 19 = .ok (.getfield 10, 3) := by decide +kernel
theorem dX1_expectAll_22 : decode cX1_expectAll 22 = .ok (.getfield 86, 3) := by decide +kernel
theorem dX1_expectAll_25 : decode cX1_expectAll 25 = .ok (.aload_n 1, 1) := by decide +kernel
theorem dX1_expectAll_26 : decode cX1_expectAll 26 = .ok (.invokestatic 201, 3) := by decide +kernel
theorem dX1_expectAll_29 : decode cX1_expectAll 29 = .ok (.return_, 1) := by decide +kernel
set_option maxRecDepth 20000 in
theorem ggX1_earliestTare_X1_nearCell : GoodIn wsX1_earliestTare wsX1_nearCell := goodIn_r _ [11, 12] (by decide +kernel) (by decide +kernel)
set_option maxRecDepth 20000 in
theorem gX1_earliestTare_X1_nearCell : GoodIn wsX1_earliestTare (va_wsS RX1 195 yX1_nearCell wsX1_nearCell) := goodIn_app (goodIn_of _ (by decide +kernel)) ggX1_earliestTare_X1_nearCell
set_option maxRecDepth 20000 in
theorem ggX1_earliestTare_X1_isCell : GoodIn wsX1_earliestTare wsX1_isCell := goodIn_r _ [15] (by decide +kernel) (by decide +kernel)
set_option maxRecDepth 20000 in
theorem gX1_earliestTare_X1_isCell : GoodIn wsX1_earliestTare (va_wsS RX1 37 yX1_isCell wsX1_isCell) := goodIn_app (goodIn_of _ (by decide +kernel)) ggX1_earliestTare_X1_isCell
theorem dX1_earliestTare_0 : decode cX1_earliestTare 0 = .ok (.aload_n 0, 1) := by decide +kernel
theorem dX1_earliestTare_1 : decode cX1_earliestTare 1 = .ok (.getfield 10, 3) := by decide +kernel
theorem dX1_earliestTare_4 : decode cX1_earliestTare 4 = .ok (.getfield 52, 3) := by decide +kernel
theorem dX1_earliestTare_7 : decode cX1_earliestTare 7 = .ok (.istore_n 2, 1) := by decide +kernel
theorem dX1_earliestTare_8 : decode cX1_earliestTare 8 = .ok (.iconst 0, 1) := by decide +kernel
theorem dX1_earliestTare_9 : decode cX1_earliestTare 9 = .ok (.istore_n 3, 1) := by decide +kernel
theorem dX1_earliestTare_10 : decode cX1_earliestTare 10 = .ok (.iload_n 3, 1) := by decide +kernel
theorem dX1_earliestTare_11 : decode cX1_earliestTare 11 = .ok (.iconst 5, 1) := by decide +kernel
theorem dX1_earliestTare_12 : decode cX1_earliestTare 12 = .ok (.if_icmp .ge 39, 3) := by decide +kernel
theorem dX1_earliestTare_15 : decode cX1_earliestTare 15 = .ok (.iload_n 1, 1) := by decide +kernel
theorem dX1_earliestTare_16 : decode cX1_earliestTare 16 = .ok (.iload_n 3, 1) := by decide +kernel
theorem dX1_earliestTare_17 : decode cX1_earliestTare 17 = .ok (.invokestatic 195, 3) := by decide +kernel
theorem dX1_earliestTare_20 : decode cX1_earliestTare 20 = .ok (.istore 4, 2) := by decide +kernel
theorem dX1_earliestTare_22 : decode cX1_earliestTare 22 = .ok (.iload 4, 2) := by decide +kernel
theorem dX1_earliestTare_24 : decode cX1_earliestTare 24 = .ok (.invokestatic 37, 3) := by decide +kernel
theorem dX1_earliestTare_27 : decode cX1_earliestTare 27 = .ok (.ifCond .eq 18, 3) := by decide +kernel
theorem dX1_earliestTare_30 : decode cX1_earliestTare 30 = .ok (.iload_n 2, 1) := by decide +kernel
theorem dX1_earliestTare_31 : decode cX1_earliestTare 31 = .ok (.aload_n 0, 1) := by decide +kernel
theorem dX1_earliestTare_32 : decode cX1_earliestTare 32 = .ok (.getfield 10, 3) := by decide +kernel
theorem dX1_earliestTare_35 : decode cX1_earliestTare 35 = .ok (.getfield 65, 3) := by decide +kernel
theorem dX1_earliestTare_38 : decode cX1_earliestTare 38 = .ok (.iload 4, 2) := by decide +kernel
theorem dX1_earliestTare_40 : decode cX1_earliestTare 40 = .ok (.iaload, 1) := by decide +kernel
theorem dX1_earliestTare_41 : decode cX1_earliestTare 41 = .ok (.invokestatic 205, 3) := by decide +kernel
theorem dX1_earliestTare_44 : decode cX1_earliestTare 44 = .ok (.istore_n 2, 1) := by decide +kernel
theorem dX1_earliestTare_45 : decode cX1_earliestTare 45 = .ok (.iinc 3 1, 3) := by decide +kernel
theorem dX1_earliestTare_48 : decode cX1_earliestTare 48 = .ok (.goto (-38), 3) := by decide +kernel
theorem dX1_earliestTare_51 : decode cX1_earliestTare 51 = .ok (.iload_n 2, 1) := by decide +kernel
theorem dX1_earliestTare_52 : decode cX1_earliestTare 52 = .ok (.ireturn, 1) := by decide +kernel
set_option maxRecDepth 20000 in
theorem ggX1_sumOfReadings_X1_weighAll : GoodIn wsX1_sumOfReadings wsX1_weighAll := goodIn_r _ [6, 7, 8, 1, 9, 10, 11, 12, 5, 13, 14, 15, 16, 17, 18, 19, 20, 21, 22, 23, 24, 25, 26, 27, 28, 29, 30, 31, 32, 33, 34, 38, 39, 40, 41, 42, 43, 44, 45, 46, 47, 48, 49, 50, 51, 52, 53, 54, 55, 56, 57, 58, 59] (by decide +kernel) (by decide +kernel)
set_option maxRecDepth 20000 in
theorem gX1_sumOfReadings_X1_weighAll : GoodIn wsX1_sumOfReadings (wsV RX1 59 RX1 yX1_weighAll wsX1_weighAll) := goodIn_app (goodIn_of _ (by decide +kernel)) ggX1_sumOfReadings_X1_weighAll
set_option maxRecDepth 20000 in
theorem ggX1_sumOfReadings_X1_sumOf : GoodIn wsX1_sumOfReadings wsX1_sumOf := goodIn_r _ [37] (by decide +kernel) (by decide +kernel)
set_option maxRecDepth 20000 in
theorem gX1_sumOfReadings_X1_sumOf : GoodIn wsX1_sumOfReadings (va_wsS RX1 152 yX1_sumOf wsX1_sumOf) := goodIn_app (goodIn_of _ (by decide +kernel)) ggX1_sumOfReadings_X1_sumOf
theorem dX1_sumOfReadings_0 : decode cX1_sumOfReadings 0 = .ok (.aload_n 0, 1) := by decide +kernel
theorem dX1_sumOfReadings_1 : decode cX1_sumOfReadings 1 = .ok (.invokevirtual 59, 3) := by decide +kernel
theorem dX1_sumOfReadings_4 : decode cX1_sumOfReadings 4 = .ok (.aload_n 0, 1) := by decide +kernel
theorem dX1_sumOfReadings_5 : decode cX1_sumOfReadings 5 = .ok (.getfield 27, 3) := by decide +kernel
theorem dX1_sumOfReadings_8 : decode cX1_sumOfReadings 8 = .ok (.invokestatic 152, 3) := by decide +kernel
theorem dX1_sumOfReadings_11 : decode cX1_sumOfReadings 11 = .ok (.ireturn, 1) := by decide +kernel
theorem dX1_whoIsOn_0 : decode cX1_whoIsOn 0 = .ok (.iconst 0, 1) := by decide +kernel
theorem dX1_whoIsOn_1 : decode cX1_whoIsOn 1 = .ok (.istore_n 2, 1) := by decide +kernel
theorem dX1_whoIsOn_2 : decode cX1_whoIsOn 2 = .ok (.iload_n 2, 1) := by decide +kernel
theorem dX1_whoIsOn_3 : decode cX1_whoIsOn 3 = .ok (.bipush 8, 2) := by decide +kernel
theorem dX1_whoIsOn_5 : decode cX1_whoIsOn 5 = .ok (.if_icmp .ge 18, 3) := by decide +kernel
theorem dX1_whoIsOn_8 : decode cX1_whoIsOn 8 = .ok (.aload_n 0, 1) := by decide +kernel
theorem dX1_whoIsOn_9 : decode cX1_whoIsOn 9 = .ok (.iload_n 2, 1) := by decide +kernel
theorem dX1_whoIsOn_10 : decode cX1_whoIsOn 10 = .ok (.iaload, 1) := by decide +kernel
theorem dX1_whoIsOn_11 : decode cX1_whoIsOn 11 = .ok (.iload_n 1, 1) := by decide +kernel
theorem dX1_whoIsOn_12 : decode cX1_whoIsOn 12 = .ok (.if_icmp .ne 5, 3) := by decide +kernel
theorem dX1_whoIsOn_15 : decode cX1_whoIsOn 15 = .ok (.iload_n 2, 1) := by decide +kernel
theorem dX1_whoIsOn_16 : decode cX1_whoIsOn 16 = .ok (.ireturn, 1) := by decide +kernel
theorem dX1_whoIsOn_17 : decode cX1_whoIsOn 17 = .ok (.iinc 2 1, 3) := by decide +kernel
theorem dX1_whoIsOn_20 : decode cX1_whoIsOn 20 = .ok (.goto (-18), 3) := by decide +kernel
theorem dX1_whoIsOn_23 : decode cX1_whoIsOn 23 = .ok (.ldc 78, 2) := by decide +kernel
theorem dX1_whoIsOn_25 : decode cX1_whoIsOn 25 = .ok (.ireturn, 1) := by decide +kernel
theorem dX1_exchange_0 : decode cX1_exchange 0 = .ok (.aload_n 0, 1) := by decide +kernel
theorem dX1_exchange_1 : decode cX1_exchange 1 = .ok (.iload_n 1, 1) := by decide +kernel
theorem dX1_exchange_2 : decode cX1_exchange 2 = .ok (.iaload, 1) := by decide +kernel
theorem dX1_exchange_3 : decode cX1_exchange 3 = .ok (.istore_n 3, 1) := by decide +kernel
theorem dX1_exchange_4 : decode cX1_exchange 4 = .ok (.aload_n 0, 1) := by decide +kernel
theorem dX1_exchange_5 : decode cX1_exchange 5 = .ok (.iload_n 1, 1) := by decide +kernel
theorem dX1_exchange_6 : decode cX1_exchange 6 = .ok (.aload_n 0, 1) := by decide +kernel
theorem dX1_exchange_7 : decode cX1_exchange 7 = .ok (.iload_n 2, 1) := by decide +kernel
theorem dX1_exchange_8 : decode cX1_exchange 8 = .ok (.iaload, 1) := by decide +kernel
theorem dX1_exchange_9 : decode cX1_exchange 9 = .ok (.iastore, 1) := by decide +kernel
theorem dX1_exchange_10 : decode cX1_exchange 10 = .ok (.aload_n 0, 1) := by decide +kernel
theorem dX1_exchange_11 : decode cX1_exchange 11 = .ok (.iload_n 2, 1) := by decide +kernel
theorem dX1_exchange_12 : decode cX1_exchange 12 = .ok (.iload_n 3, 1) := by decide +kernel
theorem dX1_exchange_13 : decode cX1_exchange 13 = .ok (.iastore, 1) := by decide +kernel
theorem dX1_exchange_14 : decode cX1_exchange 14 = .ok (.return_, 1) := by decide +kernel
set_option maxRecDepth 20000 in
theorem ggX1_errorWith_X1_weighAll : GoodIn wsX1_errorWith wsX1_weighAll := goodIn_r _ [11, 12, 13, 1, 14, 15, 16, 17, 10, 18, 19, 20, 5, 21, 22, 23, 24, 25, 26, 27, 28, 29, 30, 31, 32, 33, 34, 35, 36, 37, 38, 45, 46, 47, 48, 49, 50, 51, 52, 53, 54, 55, 56, 57, 58, 59, 60, 61, 62, 63, 64, 65, 66] (by decide +kernel) (by decide +kernel)
set_option maxRecDepth 20000 in
theorem gX1_errorWith_X1_weighAll : GoodIn wsX1_errorWith (wsV RX1 59 RX1 yX1_weighAll wsX1_weighAll) := goodIn_app (goodIn_of _ (by decide +kernel)) ggX1_errorWith_X1_weighAll
set_option maxRecDepth 20000 in
theorem ggX1_errorWith_X1_expectAll : GoodIn wsX1_errorWith wsX1_expectAll := goodIn_r _ [42, 12, 43, 2, 44, 16, 17, 10, 18, 19, 20, 5, 21, 22, 23, 24, 25, 26, 27, 28, 29, 30, 31, 32, 33, 34, 35, 36, 37, 38, 45, 46, 47, 48, 49, 50, 51, 52, 53, 54, 55, 56, 57, 58, 59, 60, 61, 62, 63, 64, 65, 66] (by decide +kernel) (by decide +kernel)
set_option maxRecDepth 20000 in
theorem gX1_errorWith_X1_expectAll : GoodIn wsX1_errorWith (wsV RX1 167 RX1 yX1_expectAll wsX1_expectAll) := goodIn_app (goodIn_of _ (by decide +kernel)) ggX1_errorWith_X1_expectAll
theorem dX1_errorWith_0 : decode cX1_errorWith 0 = .ok (.aload_n 0, 1) := by decide +kernel
theorem dX1_errorWith_1 : decode cX1_errorWith 1 = .ok (.invokevirtual 59, 3) := by decide +kernel
theorem dX1_errorWith_4 : decode cX1_errorWith 4 = .ok (.aload_n 0, 1) := by decide +kernel
theorem dX1_errorWith_5 : decode cX1_errorWith 5 = .ok (.aload_n 1, 1) := by decide +kernel
theorem dX1_errorWith_6 : decode cX1_errorWith 6 = .ok (.invokevirtual 167, 3) := by decide +kernel
theorem dX1_errorWith_9 : decode cX1_errorWith 9 = .ok (.iconst 0, 1) := by decide +kernel
theorem dX1_errorWith_10 : decode cX1_errorWith 10 = .ok (.istore_n 2, 1) := by decide +kernel
theorem dX1_errorWith_11 : decode cX1_errorWith 11 = .ok (.iconst 0, 1) := by decide +kernel
theorem dX1_errorWith_12 : decode cX1_errorWith 12 = .ok (.istore_n 3, 1) := by decide +kernel
theorem dX1_errorWith_13 : decode cX1_errorWith 13 = .ok (.iload_n 3, 1) := by decide +kernel
theorem dX1_errorWith_14 : decode cX1_errorWith 14 = .ok (.bipush 24, 2) := by decide +kernel
theorem dX1_errorWith_16 : decode cX1_errorWith 16 = .ok (.if_icmp .ge 28, 3) := by decide +kernel
theorem dX1_errorWith_19 : decode cX1_errorWith 19 = .ok (.iload_n 2, 1) := by decide +kernel
theorem dX1_errorWith_20 : decode cX1_errorWith 20 = .ok (.aload_n 0, 1) := by decide +kernel
theorem dX1_errorWith_21 : decode cX1_errorWith 21 = .ok (.getfield 27, 3) := by decide +kernel
theorem dX1_errorWith_24 : decode cX1_errorWith 24 = .ok (.iload_n 3, 1) := by decide +kernel
theorem dX1_errorWith_25 : decode cX1_errorWith 25 = .ok (.iaload, 1) := by decide +kernel
theorem dX1_errorWith_26 : decode cX1_errorWith 26 = .ok (.aload_n 0, 1) := by decide +kernel
theorem dX1_errorWith_27 : decode cX1_errorWith 27 = .ok (.getfield 31, 3) := by decide +kernel
theorem dX1_errorWith_30 : decode cX1_errorWith 30 = .ok (.iload_n 3, 1) := by decide +kernel
theorem dX1_errorWith_31 : decode cX1_errorWith 31 = .ok (.iaload, 1) := by decide +kernel
theorem dX1_errorWith_32 : decode cX1_errorWith 32 = .ok (.isub, 1) := by decide +kernel
theorem dX1_errorWith_33 : decode cX1_errorWith 33 = .ok (.invokestatic 208, 3) := by decide +kernel
theorem dX1_errorWith_36 : decode cX1_errorWith 36 = .ok (.iadd, 1) := by decide +kernel
theorem dX1_errorWith_37 : decode cX1_errorWith 37 = .ok (.istore_n 2, 1) := by decide +kernel
theorem dX1_errorWith_38 : decode cX1_errorWith 38 = .ok (.iinc 3 1, 3) := by decide +kernel
theorem dX1_errorWith_41 : decode cX1_errorWith 41 = .ok (.goto (-28), 3) := by decide +kernel
theorem dX1_errorWith_44 : decode cX1_errorWith 44 = .ok (.iload_n 2, 1) := by decide +kernel
theorem dX1_errorWith_45 : decode cX1_errorWith 45 = .ok (.ireturn, 1) := by decide +kernel
set_option maxRecDepth 20000 in
theorem ggX1_walkersAboard_X1_isAboard : GoodIn wsX1_walkersAboard wsX1_isAboard := goodIn_r _ [5, 6, 7, 8, 9, 10, 11, 4, 12, 13, 14, 15, 16, 17, 18, 19, 20, 21, 22, 23, 24, 25, 26, 27, 28, 29, 30, 31, 32, 33, 34, 35] (by decide +kernel) (by decide +kernel)
set_option maxRecDepth 20000 in
theorem gX1_walkersAboard_X1_isAboard : GoodIn wsX1_walkersAboard (wsV RX1 95 RX1 yX1_isAboard wsX1_isAboard) := goodIn_app (goodIn_of _ (by decide +kernel)) ggX1_walkersAboard_X1_isAboard
theorem dX1_walkersAboard_0 : decode cX1_walkersAboard 0 = .ok (.iconst 0, 1) := by decide +kernel
theorem dX1_walkersAboard_1 : decode cX1_walkersAboard 1 = .ok (.istore_n 1, 1) := by decide +kernel
theorem dX1_walkersAboard_2 : decode cX1_walkersAboard 2 = .ok (.iconst 0, 1) := by decide +kernel
theorem dX1_walkersAboard_3 : decode cX1_walkersAboard 3 = .ok (.istore_n 2, 1) := by decide +kernel
theorem dX1_walkersAboard_4 : decode cX1_walkersAboard 4 = .ok (.iload_n 2, 1) := by decide +kernel
theorem dX1_walkersAboard_5 : decode cX1_walkersAboard 5 = .ok (.bipush 8, 2) := by decide +kernel
theorem dX1_walkersAboard_7 : decode cX1_walkersAboard 7 = .ok (.if_icmp .ge 20, 3) := by decide +kernel
theorem dX1_walkersAboard_10 : decode cX1_walkersAboard 10 = .ok (.aload_n 0, 1) := by decide +kernel
theorem dX1_walkersAboard_11 : decode cX1_walkersAboard 11 = .ok (.iload_n 2, 1) := by decide +kernel
theorem dX1_walkersAboard_12 : decode cX1_walkersAboard 12 = .ok (.invokevirtual 95, 3) := by decide +kernel
theorem dX1_walkersAboard_15 : decode cX1_walkersAboard 15 = .ok (.ifCond .eq 6, 3) := by decide +kernel
theorem dX1_walkersAboard_18 : decode cX1_walkersAboard 18 = .ok (.iinc 1 1, 3) := by decide +kernel
theorem dX1_walkersAboard_21 : decode cX1_walkersAboard 21 = .ok (.iinc 2 1, 3) := by decide +kernel
theorem dX1_walkersAboard_24 : decode cX1_walkersAboard 24 = .ok (.goto (-20), 3) := by decide +kernel
theorem dX1_walkersAboard_27 : decode cX1_walkersAboard 27 = .ok (.iload_n 1, 1) := by decide +kernel
theorem dX1_walkersAboard_28 : decode cX1_walkersAboard 28 = .ok (.ireturn, 1) := by decide +kernel
theorem dX1_walkersMisplaced_0 : decode cX1_walkersMisplaced 0 = .ok (.iconst 0, 1) := by decide +kernel
theorem dX1_walkersMisplaced_1 : decode cX1_walkersMisplaced 1 = .ok (.istore_n 1, 1) := by decide +kernel
theorem dX1_walkersMisplaced_2 : decode cX1_walkersMisplaced 2 = .ok (.iconst 0, 1) := by decide +kernel
theorem dX1_walkersMisplaced_3 : decode cX1_walkersMisplaced 3 = .ok (.istore_n 2, 1) := by decide +kernel
theorem dX1_walkersMisplaced_4 : decode cX1_walkersMisplaced 4 = .ok (.iload_n 2, 1) := by decide +kernel
theorem dX1_walkersMisplaced_5 : decode cX1_walkersMisplaced 5 = .ok (.bipush 8, 2) := by decide +kernel
theorem dX1_walkersMisplaced_7 : decode cX1_walkersMisplaced 7 = .ok (.if_icmp .ge 33, 3) := by decide +kernel
theorem dX1_walkersMisplaced_10 : decode cX1_walkersMisplaced 10 = .ok (.aload_n 0, 1) := by decide +kernel
theorem dX1_walkersMisplaced_11 : decode cX1_walkersMisplaced 11 = .ok (.getfield 10, 3) := by decide +kernel
theorem dX1_walkersMisplaced_14 : decode cX1_walkersMisplaced 14 = .ok (.getfield 71, 3) := by decide +kernel
theorem dX1_walkersMisplaced_17 : decode cX1_walkersMisplaced 17 = .ok (.iload_n 2, 1) := by decide +kernel
theorem dX1_walkersMisplaced_18 : decode cX1_walkersMisplaced 18 = .ok (.iaload, 1) := by decide +kernel
theorem dX1_walkersMisplaced_19 : decode cX1_walkersMisplaced 19 = .ok (.aload_n 0, 1) := by decide +kernel
theorem dX1_walkersMisplaced_20 : decode cX1_walkersMisplaced 20 = .ok (.getfield 10, 3) := by decide +kernel
theorem dX1_walkersMisplaced_23 : decode cX1_walkersMisplaced 23 = .ok (.getfield 89, 3) := by decide +kernel
theorem dX1_walkersMisplaced_26 : decode cX1_walkersMisplaced 26 = .ok (.iload_n 2, 1) := by decide +kernel
theorem dX1_walkersMisplaced_27 : decode cX1_walkersMisplaced 27 = .ok (.iaload, 1) := by decide +kernel
theorem dX1_walkersMisplaced_28 : decode cX1_walkersMisplaced 28 = .ok (.if_icmp .eq 6, 3) := by decide +kernel
theorem dX1_walkersMisplaced_31 : decode cX1_walkersMisplaced 31 = .ok (.iinc 1 1, 3) := by decide +kernel
theorem dX1_walkersMisplaced_34 : decode cX1_walkersMisplaced 34 = .ok (.iinc 2 1, 3) := by decide +kernel
theorem dX1_walkersMisplaced_37 : decode cX1_walkersMisplaced 37 = .ok (.goto (-33), 3) := by decide +kernel
theorem dX1_walkersMisplaced_40 : decode cX1_walkersMisplaced 40 = .ok (.iload_n 1, 1) := by decide +kernel
theorem dX1_walkersMisplaced_41 : decode cX1_walkersMisplaced 41 = .ok (.ireturn, 1) := by decide +kernel
set_option maxRecDepth 20000 in
theorem ggX1_estimateFor_X1_isAboard : GoodIn wsX1_estimateFor wsX1_isAboard := goodIn_r _ [14, 1, 15, 16, 17, 18, 19, 13, 20, 21, 55, 56, 57, 58, 59, 60, 61, 62, 63, 64, 65, 66, 67, 68, 69, 70, 71, 72, 73, 74, 75, 76] (by decide +kernel) (by decide +kernel)
set_option maxRecDepth 20000 in
theorem gX1_estimateFor_X1_isAboard : GoodIn wsX1_estimateFor (wsV RX1 95 RX1 yX1_isAboard wsX1_isAboard) := goodIn_app (goodIn_of _ (by decide +kernel)) ggX1_estimateFor_X1_isAboard
set_option maxRecDepth 20000 in
theorem ggX1_estimateFor_X1_weighAll : GoodIn wsX1_estimateFor wsX1_weighAll := goodIn_r _ [25, 1, 26, 4, 27, 15, 28, 29, 13, 30, 31, 32, 8, 33, 34, 35, 36, 37, 38, 39, 40, 41, 42, 43, 44, 45, 46, 47, 48, 49, 16, 55, 56, 57, 58, 59, 60, 61, 62, 63, 64, 65, 66, 67, 68, 69, 70, 71, 72, 73, 74, 75, 76] (by decide +kernel) (by decide +kernel)
set_option maxRecDepth 20000 in
theorem gX1_estimateFor_X1_weighAll : GoodIn wsX1_estimateFor (wsV RX1 59 RX1 yX1_weighAll wsX1_weighAll) := goodIn_app (goodIn_of _ (by decide +kernel)) ggX1_estimateFor_X1_weighAll
set_option maxRecDepth 20000 in
theorem ggX1_estimateFor_X1_expectAll : GoodIn wsX1_estimateFor wsX1_expectAll := goodIn_r _ [53, 1, 54, 5, 3, 28, 29, 13, 30, 31, 32, 8, 33, 34, 35, 36, 37, 38, 39, 40, 41, 42, 43, 44, 45, 46, 47, 48, 49, 16, 55, 56, 57, 58, 59, 60, 61, 62, 63, 64, 65, 66, 67, 68, 69, 70, 71, 72, 73, 74, 75, 76] (by decide +kernel) (by decide +kernel)
set_option maxRecDepth 20000 in
theorem gX1_estimateFor_X1_expectAll : GoodIn wsX1_estimateFor (wsV RX1 167 RX1 yX1_expectAll wsX1_expectAll) := goodIn_app (goodIn_of _ (by decide +kernel)) ggX1_estimateFor_X1_expectAll
set_option maxRecDepth 20000 in
theorem ggX1_estimateFor_X1_nearCell : GoodIn wsX1_estimateFor wsX1_nearCell := goodIn_r _ [49, 16] (by decide +kernel) (by decide +kernel)
set_option maxRecDepth 20000 in
theorem gX1_estimateFor_X1_nearCell : GoodIn wsX1_estimateFor (va_wsS RX1 195 yX1_nearCell wsX1_nearCell) := goodIn_app (goodIn_of _ (by decide +kernel)) ggX1_estimateFor_X1_nearCell
set_option maxRecDepth 20000 in
theorem ggX1_estimateFor_X1_isCell : GoodIn wsX1_estimateFor wsX1_isCell := goodIn_r _ [46] (by decide +kernel) (by decide +kernel)
set_option maxRecDepth 20000 in
theorem gX1_estimateFor_X1_isCell : GoodIn wsX1_estimateFor (va_wsS RX1 37 yX1_isCell wsX1_isCell) := goodIn_app (goodIn_of _ (by decide +kernel)) ggX1_estimateFor_X1_isCell
theorem dX1_estimateFor_0 : decode cX1_estimateFor 0 = .ok (.aload_n 0, 1) := by decide +kernel
theorem dX1_estimateFor_1 : decode cX1_estimateFor 1 = .ok (.iload_n 1, 1) := by decide +kernel
theorem dX1_estimateFor_2 : decode cX1_estimateFor 2 = .ok (.invokevirtual 95, 3) := by decide +kernel
theorem dX1_estimateFor_5 : decode cX1_estimateFor 5 = .ok (.ifCond .ne 5, 3) := by decide +kernel
theorem dX1_estimateFor_8 : decode cX1_estimateFor 8 = .ok (.iconst 0, 1) := by decide +kernel
theorem dX1_estimateFor_9 : decode cX1_estimateFor 9 = .ok (.ireturn, 1) := by decide +kernel
theorem dX1_estimateFor_10 : decode cX1_estimateFor 10 = .ok (.aload_n 0, 1) := by decide +kernel
theorem dX1_estimateFor_11 : decode cX1_estimateFor 11 = .ok (.invokevirtual 59, 3) := by decide +kernel
theorem dX1_estimateFor_14 : decode cX1_estimateFor 14 = .ok (.aload_n 0, 1) := by decide +kernel
theorem dX1_estimateFor_15 : decode cX1_estimateFor 15 = .ok (.aload_n 0, 1) := by decide +kernel
theorem dX1_estimateFor_16 : decode cX1_estimateFor 16 = .ok (.getfield 10, 3) := by decide +kernel
theorem dX1_estimateFor_19 : decode cX1_estimateFor 19 = .ok (.getfield 89, 3) := by decide +kernel
theorem dX1_estimateFor_22 : decode cX1_estimateFor 22 = .ok (.invokevirtual 167, 3) := by decide +kernel
theorem dX1_estimateFor_25 : decode cX1_estimateFor 25 = .ok (.aload_n 0, 1) := by decide +kernel
theorem dX1_estimateFor_26 : decode cX1_estimateFor 26 = .ok (.getfield 10, 3) := by decide +kernel
theorem dX1_estimateFor_29 : decode cX1_estimateFor 29 = .ok (.getfield 89, 3) := by decide +kernel
theorem dX1_estimateFor_32 : decode cX1_estimateFor 32 = .ok (.iload_n 1, 1) := by decide +kernel
theorem dX1_estimateFor_33 : decode cX1_estimateFor 33 = .ok (.iaload, 1) := by decide +kernel
theorem dX1_estimateFor_34 : decode cX1_estimateFor 34 = .ok (.istore_n 2, 1) := by decide +kernel
theorem dX1_estimateFor_35 : decode cX1_estimateFor 35 = .ok (.aload_n 0, 1) := by decide +kernel
theorem dX1_estimateFor_36 : decode cX1_estimateFor 36 = .ok (.getfield 10, 3) := by decide +kernel
theorem dX1_estimateFor_39 : decode cX1_estimateFor 39 = .ok (.getfield 86, 3) := by decide +kernel
theorem dX1_estimateFor_42 : decode cX1_estimateFor 42 = .ok (.iload_n 1, 1) := by decide +kernel
theorem dX1_estimateFor_43 : decode cX1_estimateFor 43 = .ok (.iaload, 1) := by decide +kernel
theorem dX1_estimateFor_44 : decode cX1_estimateFor 44 = .ok (.istore_n 3, 1) := by decide +kernel
theorem dX1_estimateFor_45 : decode cX1_estimateFor 45 = .ok (.iconst 0, 1) := by decide +kernel
theorem dX1_estimateFor_46 : decode cX1_estimateFor 46 = .ok (.istore 4, 2) := by decide +kernel
theorem dX1_estimateFor_48 : decode cX1_estimateFor 48 = .ok (.iload 4, 2) := by decide +kernel
theorem dX1_estimateFor_50 : decode cX1_estimateFor 50 = .ok (.iconst 5, 1) := by decide +kernel
theorem dX1_estimateFor_51 : decode cX1_estimateFor 51 = .ok (.if_icmp .ge 43, 3) := by decide +kernel
theorem dX1_estimateFor_54 : decode cX1_estimateFor 54 = .ok (.iload_n 2, 1) := by decide +kernel
theorem dX1_estimateFor_55 : decode cX1_estimateFor 55 = .ok (.iload 4, 2) := by decide +kernel
theorem dX1_estimateFor_57 : decode cX1_estimateFor 57 = .ok (.invokestatic 195, 3) := by decide +kernel
theorem dX1_estimateFor_60 : decode cX1_estimateFor 60 = .ok (.istore 5, 2) := by decide +kernel
theorem dX1_estimateFor_62 : decode cX1_estimateFor 62 = .ok (.iload 5, 2) := by decide +kernel
theorem dX1_estimateFor_64 : decode cX1_estimateFor 64 = .ok (.invokestatic 37, 3) := by decide +kernel
theorem dX1_estimateFor_67 : decode cX1_estimateFor 67 = .ok (.ifCond .eq 21, 3) := by decide +kernel
theorem dX1_estimateFor_70 : decode cX1_estimateFor 70 = .ok (.iload_n 3, 1) := by decide +kernel
theorem dX1_estimateFor_71 : decode cX1_estimateFor 71 = .ok (.aload_n 0, 1) := by decide +kernel
theorem dX1_estimateFor_72 : decode cX1_estimateFor 72 = .ok (.getfield 27, 3) := by decide +kernel
theorem dX1_estimateFor_75 : decode cX1_estimateFor 75 = .ok (.iload 5, 2) := by decide +kernel
theorem dX1_estimateFor_77 : decode cX1_estimateFor 77 = .ok (.iaload, 1) := by decide +kernel
theorem dX1_estimateFor_78 : decode cX1_estimateFor 78 = .ok (.aload_n 0, 1) := by decide +kernel
theorem dX1_estimateFor_79 : decode cX1_estimateFor 79 = .ok (.getfield 31, 3) := by decide +kernel
theorem dX1_estimateFor_82 : decode cX1_estimateFor 82 = .ok (.iload 5, 2) := by decide +kernel
theorem dX1_estimateFor_84 : decode cX1_estimateFor 84 = .ok (.iaload, 1) := by decide +kernel
theorem dX1_estimateFor_85 : decode cX1_estimateFor 85 = .ok (.isub, 1) := by decide +kernel
theorem dX1_estimateFor_86 : decode cX1_estimateFor 86 = .ok (.iadd, 1) := by decide +kernel
theorem dX1_estimateFor_87 : decode cX1_estimateFor 87 = .ok (.istore_n 3, 1) := by decide +kernel
theorem dX1_estimateFor_88 : decode cX1_estimateFor 88 = .ok (.iinc 4 1, 3) := by decide +kernel
theorem dX1_estimateFor_91 : decode cX1_estimateFor 91 = .ok (.goto (-43), 3) := by decide +kernel
theorem dX1_estimateFor_94 : decode cX1_estimateFor 94 = .ok (.iconst 0, 1) := by decide +kernel
theorem dX1_estimateFor_95 : decode cX1_estimateFor 95 = .ok (.iload_n 3, 1) := by decide +kernel
theorem dX1_estimateFor_96 : decode cX1_estimateFor 96 = .ok (.invokestatic 129, 3) := by decide +kernel
theorem dX1_estimateFor_99 : decode cX1_estimateFor 99 = .ok (.ireturn, 1) := by decide +kernel
set_option maxRecDepth 20000 in
theorem ggX1_certaintyFor_X1_isAboard : GoodIn wsX1_certaintyFor wsX1_isAboard := goodIn_r _ [13, 1, 14, 15, 16, 17, 18, 12, 19, 20, 35, 36, 37, 38, 39, 40, 41, 42, 43, 44, 45, 46, 47, 48, 49, 50, 51, 52, 53, 54, 55, 56] (by decide +kernel) (by decide +kernel)
set_option maxRecDepth 20000 in
theorem gX1_certaintyFor_X1_isAboard : GoodIn wsX1_certaintyFor (wsV RX1 95 RX1 yX1_isAboard wsX1_isAboard) := goodIn_app (goodIn_of _ (by decide +kernel)) ggX1_certaintyFor_X1_isAboard
set_option maxRecDepth 20000 in
theorem ggX1_certaintyFor_X1_earliestTare : GoodIn wsX1_certaintyFor wsX1_earliestTare := goodIn_r _ [24, 1, 2, 25, 26, 27, 7, 28, 29, 30, 12, 31, 15, 32, 33, 34, 35, 36, 37, 38, 39, 40, 41, 42, 43, 44, 45, 46, 47, 48, 49, 50, 51, 52, 53, 54, 55, 56] (by decide +kernel) (by decide +kernel)
set_option maxRecDepth 20000 in
theorem gX1_certaintyFor_X1_earliestTare : GoodIn wsX1_certaintyFor (wsV RX1 192 RX1 yX1_earliestTare wsX1_earliestTare) := goodIn_app (goodIn_of _ (by decide +kernel)) ggX1_certaintyFor_X1_earliestTare
theorem dX1_certaintyFor_0 : decode cX1_certaintyFor 0 = .ok (.aload_n 0, 1) := by decide +kernel
theorem dX1_certaintyFor_1 : decode cX1_certaintyFor 1 = .ok (.iload_n 1, 1) := by decide +kernel
theorem dX1_certaintyFor_2 : decode cX1_certaintyFor 2 = .ok (.invokevirtual 95, 3) := by decide +kernel
theorem dX1_certaintyFor_5 : decode cX1_certaintyFor 5 = .ok (.ifCond .ne 5, 3) := by decide +kernel
theorem dX1_certaintyFor_8 : decode cX1_certaintyFor 8 = .ok (.iconst 0, 1) := by decide +kernel
theorem dX1_certaintyFor_9 : decode cX1_certaintyFor 9 = .ok (.ireturn, 1) := by decide +kernel
theorem dX1_certaintyFor_10 : decode cX1_certaintyFor 10 = .ok (.aload_n 0, 1) := by decide +kernel
theorem dX1_certaintyFor_11 : decode cX1_certaintyFor 11 = .ok (.getfield 10, 3) := by decide +kernel
theorem dX1_certaintyFor_14 : decode cX1_certaintyFor 14 = .ok (.getfield 52, 3) := by decide +kernel
theorem dX1_certaintyFor_17 : decode cX1_certaintyFor 17 = .ok (.aload_n 0, 1) := by decide +kernel
theorem dX1_certaintyFor_18 : decode cX1_certaintyFor 18 = .ok (.aload_n 0, 1) := by decide +kernel
theorem dX1_certaintyFor_19 : decode cX1_certaintyFor 19 = .ok (.getfield 10, 3) := by decide +kernel
theorem dX1_certaintyFor_22 : decode cX1_certaintyFor 22 = .ok (.getfield 89, 3) := by decide +kernel
theorem dX1_certaintyFor_25 : decode cX1_certaintyFor 25 = .ok (.iload_n 1, 1) := by decide +kernel
theorem dX1_certaintyFor_26 : decode cX1_certaintyFor 26 = .ok (.iaload, 1) := by decide +kernel
theorem dX1_certaintyFor_27 : decode cX1_certaintyFor 27 = .ok (.invokevirtual 192, 3) := by decide +kernel
theorem dX1_certaintyFor_30 : decode cX1_certaintyFor 30 = .ok (.isub, 1) := by decide +kernel
theorem dX1_certaintyFor_31 : decode cX1_certaintyFor 31 = .ok (.istore_n 2, 1) := by decide +kernel
theorem dX1_certaintyFor_32 : decode cX1_certaintyFor 32 = .ok (.iconst 5, 1) := by decide +kernel
theorem dX1_certaintyFor_33 : decode cX1_certaintyFor 33 = .ok (.iload_n 2, 1) := by decide +kernel
theorem dX1_certaintyFor_34 : decode cX1_certaintyFor 34 = .ok (.imul, 1) := by decide +kernel
theorem dX1_certaintyFor_35 : decode cX1_certaintyFor 35 = .ok (.bipush 10, 2) := by decide +kernel
theorem dX1_certaintyFor_37 : decode cX1_certaintyFor 37 = .ok (.aload_n 0, 1) := by decide +kernel
theorem dX1_certaintyFor_38 : decode cX1_certaintyFor 38 = .ok (.getfield 10, 3) := by decide +kernel
theorem dX1_certaintyFor_41 : decode cX1_certaintyFor 41 = .ok (.getfield 113, 3) := by decide +kernel
theorem dX1_certaintyFor_44 : decode cX1_certaintyFor 44 = .ok (.iload_n 1, 1) := by decide +kernel
theorem dX1_certaintyFor_45 : decode cX1_certaintyFor 45 = .ok (.iaload, 1) := by decide +kernel
theorem dX1_certaintyFor_46 : decode cX1_certaintyFor 46 = .ok (.imul, 1) := by decide +kernel
theorem dX1_certaintyFor_47 : decode cX1_certaintyFor 47 = .ok (.iadd, 1) := by decide +kernel
theorem dX1_certaintyFor_48 : decode cX1_certaintyFor 48 = .ok (.istore_n 3, 1) := by decide +kernel
theorem dX1_certaintyFor_49 : decode cX1_certaintyFor 49 = .ok (.iconst 0, 1) := by decide +kernel
theorem dX1_certaintyFor_50 : decode cX1_certaintyFor 50 = .ok (.bipush 100, 2) := by decide +kernel
theorem dX1_certaintyFor_52 : decode cX1_certaintyFor 52 = .ok (.iload_n 3, 1) := by decide +kernel
theorem dX1_certaintyFor_53 : decode cX1_certaintyFor 53 = .ok (.isub, 1) := by decide +kernel
theorem dX1_certaintyFor_54 : decode cX1_certaintyFor 54 = .ok (.invokestatic 129, 3) := by decide +kernel
theorem dX1_certaintyFor_57 : decode cX1_certaintyFor 57 = .ok (.ireturn, 1) := by decide +kernel
set_option maxRecDepth 20000 in
theorem ggX1_kilogramsToBill_X1_estimateFor : GoodIn wsX1_kilogramsToBill wsX1_estimateFor := goodIn_r _ [14, 1, 15, 16, 17, 18, 7, 8, 5, 9, 19, 20, 21, 13, 22, 23, 24, 25, 26, 27, 28, 29, 30, 31, 32, 33, 34, 35, 36, 37, 38, 3, 4, 6, 39, 40, 41, 42, 43, 44, 45, 46, 47, 48, 49, 50, 51, 52, 53, 54, 55, 56, 57, 58, 2, 86, 87, 88, 89, 90, 91, 92, 93, 94, 95, 96, 97, 98, 99, 100, 101, 102, 103, 104, 105, 106, 107] (by decide +kernel) (by decide +kernel)
set_option maxRecDepth 20000 in
theorem gX1_kilogramsToBill_X1_estimateFor : GoodIn wsX1_kilogramsToBill (wsV RX1 174 RX1 yX1_estimateFor wsX1_estimateFor) := goodIn_app (goodIn_of _ (by decide +kernel)) ggX1_kilogramsToBill_X1_estimateFor
set_option maxRecDepth 20000 in
theorem ggX1_kilogramsToBill_X1_certaintyFor : GoodIn wsX1_kilogramsToBill wsX1_certaintyFor := goodIn_r _ [62, 1, 63, 15, 64, 7, 8, 5, 9, 19, 20, 21, 13, 22, 23, 24, 25, 26, 27, 28, 29, 65, 66, 67, 68, 69, 3, 4, 6, 52, 53, 54, 49, 50, 51, 86, 87, 88, 89, 90, 91, 92, 93, 94, 95, 96, 97, 98, 99, 100, 101, 102, 103, 104, 105, 106, 107] (by decide +kernel) (by decide +kernel)
set_option maxRecDepth 20000 in
theorem gX1_kilogramsToBill_X1_certaintyFor : GoodIn wsX1_kilogramsToBill (wsV RX1 177 RX1 yX1_certaintyFor wsX1_certaintyFor) := goodIn_app (goodIn_of _ (by decide +kernel)) ggX1_kilogramsToBill_X1_certaintyFor
set_option maxRecDepth 20000 in
theorem ggX1_kilogramsToBill_X1_sumOfReadings : GoodIn wsX1_kilogramsToBill wsX1_sumOfReadings := goodIn_r _ [73, 17, 30, 31, 32, 13, 33, 1, 34, 35, 23, 36, 37, 38, 3, 4, 5, 6, 39, 40, 41, 42, 43, 44, 45, 46, 47, 48, 49, 50, 51, 52, 53, 54, 24, 74, 75, 76, 86, 87, 88, 89, 90, 91, 92, 93, 94, 95, 96, 97, 98, 99, 100, 101, 102, 103, 104, 105, 106, 107] (by decide +kernel) (by decide +kernel)
set_option maxRecDepth 20000 in
theorem gX1_kilogramsToBill_X1_sumOfReadings : GoodIn wsX1_kilogramsToBill (wsV RX1 149 RX1 yX1_sumOfReadings wsX1_sumOfReadings) := goodIn_app (goodIn_of _ (by decide +kernel)) ggX1_kilogramsToBill_X1_sumOfReadings
set_option maxRecDepth 20000 in
theorem ggX1_kilogramsToBill_X1_sumOf : GoodIn wsX1_kilogramsToBill wsX1_sumOf := goodIn_r _ [76] (by decide +kernel) (by decide +kernel)
set_option maxRecDepth 20000 in
theorem gX1_kilogramsToBill_X1_sumOf : GoodIn wsX1_kilogramsToBill (va_wsS RX1 152 yX1_sumOf wsX1_sumOf) := goodIn_app (goodIn_of _ (by decide +kernel)) ggX1_kilogramsToBill_X1_sumOf
set_option maxRecDepth 20000 in
theorem ggX1_kilogramsToBill_X1_kilogramsBilled : GoodIn wsX1_kilogramsToBill wsX1_kilogramsBilled := goodIn_r _ [80, 1, 81, 82, 83, 84, 13, 85, 24, 86, 87, 88, 89, 90, 91, 92, 93, 94, 95, 96, 97, 98, 99, 100, 101, 102, 103, 104, 105, 106, 107] (by decide +kernel) (by decide +kernel)
set_option maxRecDepth 20000 in
theorem gX1_kilogramsToBill_X1_kilogramsBilled : GoodIn wsX1_kilogramsToBill (wsV RX1 158 RX1 yX1_kilogramsBilled wsX1_kilogramsBilled) := goodIn_app (goodIn_of _ (by decide +kernel)) ggX1_kilogramsToBill_X1_kilogramsBilled
theorem dX1_kilogramsToBill_0 : decode cX1_kilogramsToBill 0 = .ok (.aload_n 0, 1) := by decide +kernel
theorem dX1_kilogramsToBill_1 : decode cX1_kilogramsToBill 1 = .ok (.iload_n 1, 1) := by decide +kernel
theorem dX1_kilogramsToBill_2 : decode cX1_kilogramsToBill 2 = .ok (.invokevirtual 174, 3) := by decide +kernel
theorem dX1_kilogramsToBill_5 : decode cX1_kilogramsToBill 5 = .ok (.aload_n 0, 1) := by decide +kernel
theorem dX1_kilogramsToBill_6 : decode cX1_kilogramsToBill 6 = .ok (.iload_n 1, 1) := by decide +kernel
theorem dX1_kilogramsToBill_7 : decode cX1_kilogramsToBill 7 = .ok (.invokevirtual 177, 3) := by decide +kernel
theorem dX1_kilogramsToBill_10 : decode cX1_kilogramsToBill 10 = .ok (.imul, 1) := by decide +kernel
end
section
theorem dX1_kilogramsToBill_11 : decode cX1_kilogramsToBill 11 = .ok (.bipush 100, 2) := by decide +kernel
theorem dX1_kilogramsToBill_13 : decode cX1_kilogramsToBill 13 = .ok (.idiv, 1) := by decide +kernel
theorem dX1_kilogramsToBill_14 : decode cX1_kilogramsToBill 14 = .ok (.istore_n 2, 1) := by decide +kernel
theorem dX1_kilogramsToBill_15 : decode cX1_kilogramsToBill 15 = .ok (.aload_n 0, 1) := by decide +kernel
theorem dX1_kilogramsToBill_16 : decode cX1_kilogramsToBill 16 = .ok (.invokevirtual 149, 3) := by decide +kernel
theorem dX1_kilogramsToBill_19 : decode cX1_kilogramsToBill 19 = .ok (.aload_n 0, 1) := by decide +kernel
theorem dX1_kilogramsToBill_20 : decode cX1_kilogramsToBill 20 = .ok (.getfield 10, 3) := by decide +kernel
theorem dX1_kilogramsToBill_23 : decode cX1_kilogramsToBill 23 = .ok (.getfield 62, 3) := by decide +kernel
theorem dX1_kilogramsToBill_26 : decode cX1_kilogramsToBill 26 = .ok (.invokestatic 152, 3) := by decide +kernel
theorem dX1_kilogramsToBill_29 : decode cX1_kilogramsToBill 29 = .ok (.isub, 1) := by decide +kernel
theorem dX1_kilogramsToBill_30 : decode cX1_kilogramsToBill 30 = .ok (.aload_n 0, 1) := by decide +kernel
theorem dX1_kilogramsToBill_31 : decode cX1_kilogramsToBill 31 = .ok (.invokevirtual 158, 3) := by decide +kernel
theorem dX1_kilogramsToBill_34 : decode cX1_kilogramsToBill 34 = .ok (.isub, 1) := by decide +kernel
theorem dX1_kilogramsToBill_35 : decode cX1_kilogramsToBill 35 = .ok (.istore_n 3, 1) := by decide +kernel
theorem dX1_kilogramsToBill_36 : decode cX1_kilogramsToBill 36 = .ok (.iconst 0, 1) := by decide +kernel
theorem dX1_kilogramsToBill_37 : decode cX1_kilogramsToBill 37 = .ok (.iload_n 2, 1) := by decide +kernel
theorem dX1_kilogramsToBill_38 : decode cX1_kilogramsToBill 38 = .ok (.iload_n 3, 1) := by decide +kernel
theorem dX1_kilogramsToBill_39 : decode cX1_kilogramsToBill 39 = .ok (.invokestatic 205, 3) := by decide +kernel
theorem dX1_kilogramsToBill_42 : decode cX1_kilogramsToBill 42 = .ok (.invokestatic 129, 3) := by decide +kernel
theorem dX1_kilogramsToBill_45 : decode cX1_kilogramsToBill 45 = .ok (.ireturn, 1) := by decide +kernel
set_option maxRecDepth 20000 in
theorem ggX1_kilogramsBilled_X1_orZero : GoodIn wsX1_kilogramsBilled wsX1_orZero := goodIn_r _ [7, 8] (by decide +kernel) (by decide +kernel)
set_option maxRecDepth 20000 in
theorem gX1_kilogramsBilled_X1_orZero : GoodIn wsX1_kilogramsBilled (va_wsS RX1 211 yX1_orZero wsX1_orZero) := goodIn_app (goodIn_of _ (by decide +kernel)) ggX1_kilogramsBilled_X1_orZero
theorem dX1_kilogramsBilled_0 : decode cX1_kilogramsBilled 0 = .ok (.iconst 0, 1) := by decide +kernel
theorem dX1_kilogramsBilled_1 : decode cX1_kilogramsBilled 1 = .ok (.istore_n 1, 1) := by decide +kernel
theorem dX1_kilogramsBilled_2 : decode cX1_kilogramsBilled 2 = .ok (.iconst 0, 1) := by decide +kernel
theorem dX1_kilogramsBilled_3 : decode cX1_kilogramsBilled 3 = .ok (.istore_n 2, 1) := by decide +kernel
theorem dX1_kilogramsBilled_4 : decode cX1_kilogramsBilled 4 = .ok (.iload_n 2, 1) := by decide +kernel
theorem dX1_kilogramsBilled_5 : decode cX1_kilogramsBilled 5 = .ok (.bipush 8, 2) := by decide +kernel
theorem dX1_kilogramsBilled_7 : decode cX1_kilogramsBilled 7 = .ok (.if_icmp .ge 37, 3) := by decide +kernel
theorem dX1_kilogramsBilled_10 : decode cX1_kilogramsBilled 10 = .ok (.iload_n 1, 1) := by decide +kernel
theorem dX1_kilogramsBilled_11 : decode cX1_kilogramsBilled 11 = .ok (.aload_n 0, 1) := by decide +kernel
theorem dX1_kilogramsBilled_12 : decode cX1_kilogramsBilled 12 = .ok (.getfield 10, 3) := by decide +kernel
theorem dX1_kilogramsBilled_15 : decode cX1_kilogramsBilled 15 = .ok (.getfield 116, 3) := by decide +kernel
theorem dX1_kilogramsBilled_18 : decode cX1_kilogramsBilled 18 = .ok (.iload_n 2, 1) := by decide +kernel
theorem dX1_kilogramsBilled_19 : decode cX1_kilogramsBilled 19 = .ok (.iaload, 1) := by decide +kernel
theorem dX1_kilogramsBilled_20 : decode cX1_kilogramsBilled 20 = .ok (.invokestatic 211, 3) := by decide +kernel
theorem dX1_kilogramsBilled_23 : decode cX1_kilogramsBilled 23 = .ok (.aload_n 0, 1) := by decide +kernel
theorem dX1_kilogramsBilled_24 : decode cX1_kilogramsBilled 24 = .ok (.getfield 10, 3) := by decide +kernel
theorem dX1_kilogramsBilled_27 : decode cX1_kilogramsBilled 27 = .ok (.getfield 126, 3) := by decide +kernel
theorem dX1_kilogramsBilled_30 : decode cX1_kilogramsBilled 30 = .ok (.iload_n 2, 1) := by decide +kernel
theorem dX1_kilogramsBilled_31 : decode cX1_kilogramsBilled 31 = .ok (.iaload, 1) := by decide +kernel
theorem dX1_kilogramsBilled_32 : decode cX1_kilogramsBilled 32 = .ok (.invokestatic 211, 3) := by decide +kernel
theorem dX1_kilogramsBilled_35 : decode cX1_kilogramsBilled 35 = .ok (.isub, 1) := by decide +kernel
theorem dX1_kilogramsBilled_36 : decode cX1_kilogramsBilled 36 = .ok (.iadd, 1) := by decide +kernel
theorem dX1_kilogramsBilled_37 : decode cX1_kilogramsBilled 37 = .ok (.istore_n 1, 1) := by decide +kernel
theorem dX1_kilogramsBilled_38 : decode cX1_kilogramsBilled 38 = .ok (.iinc 2 1, 3) := by decide +kernel
theorem dX1_kilogramsBilled_41 : decode cX1_kilogramsBilled 41 = .ok (.goto (-37), 3) := by decide +kernel
theorem dX1_kilogramsBilled_44 : decode cX1_kilogramsBilled 44 = .ok (.iload_n 1, 1) := by decide +kernel
theorem dX1_kilogramsBilled_45 : decode cX1_kilogramsBilled 45 = .ok (.ireturn, 1) := by decide +kernel
set_option maxRecDepth 20000 in
theorem ggX1_billAmount_X1_isWalker : GoodIn wsX1_billAmount wsX1_isWalker := goodIn_r _ [8, 1, 9, 14, 15, 16, 17, 18, 19, 20, 21, 22, 23, 24, 25, 26, 27, 28, 29, 30, 31, 32, 33, 34, 35] (by decide +kernel) (by decide +kernel)
set_option maxRecDepth 20000 in
theorem gX1_billAmount_X1_isWalker : GoodIn wsX1_billAmount (wsV RX1 92 RX1 yX1_isWalker wsX1_isWalker) := goodIn_app (goodIn_of _ (by decide +kernel)) ggX1_billAmount_X1_isWalker
set_option maxRecDepth 20000 in
theorem ggX1_billAmount_X1_orZero : GoodIn wsX1_billAmount wsX1_orZero := goodIn_r _ [12, 13] (by decide +kernel) (by decide +kernel)
set_option maxRecDepth 20000 in
theorem gX1_billAmount_X1_orZero : GoodIn wsX1_billAmount (va_wsS RX1 211 yX1_orZero wsX1_orZero) := goodIn_app (goodIn_of _ (by decide +kernel)) ggX1_billAmount_X1_orZero
theorem dX1_billAmount_0 : decode cX1_billAmount 0 = .ok (.aload_n 0, 1) := by decide +kernel
theorem dX1_billAmount_1 : decode cX1_billAmount 1 = .ok (.iload_n 1, 1) := by decide +kernel
theorem dX1_billAmount_2 : decode cX1_billAmount 2 = .ok (.invokevirtual 92, 3) := by decide +kernel
theorem dX1_billAmount_5 : decode cX1_billAmount 5 = .ok (.ifCond .eq 28, 3) := by decide +kernel
theorem dX1_billAmount_8 : decode cX1_billAmount 8 = .ok (.aload_n 0, 1) := by decide +kernel
theorem dX1_billAmount_9 : decode cX1_billAmount 9 = .ok (.getfield 10, 3) := by decide +kernel
theorem dX1_billAmount_12 : decode cX1_billAmount 12 = .ok (.getfield 116, 3) := by decide +kernel
theorem dX1_billAmount_15 : decode cX1_billAmount 15 = .ok (.iload_n 1, 1) := by decide +kernel
theorem dX1_billAmount_16 : decode cX1_billAmount 16 = .ok (.iaload, 1) := by decide +kernel
theorem dX1_billAmount_17 : decode cX1_billAmount 17 = .ok (.invokestatic 211, 3) := by decide +kernel
theorem dX1_billAmount_20 : decode cX1_billAmount 20 = .ok (.aload_n 0, 1) := by decide +kernel
theorem dX1_billAmount_21 : decode cX1_billAmount 21 = .ok (.getfield 10, 3) := by decide +kernel
theorem dX1_billAmount_24 : decode cX1_billAmount 24 = .ok (.getfield 123, 3) := by decide +kernel
theorem dX1_billAmount_27 : decode cX1_billAmount 27 = .ok (.iload_n 1, 1) := by decide +kernel
theorem dX1_billAmount_28 : decode cX1_billAmount 28 = .ok (.iaload, 1) := by decide +kernel
theorem dX1_billAmount_29 : decode cX1_billAmount 29 = .ok (.imul, 1) := by decide +kernel
theorem dX1_billAmount_30 : decode cX1_billAmount 30 = .ok (.goto 4, 3) := by decide +kernel
theorem dX1_billAmount_33 : decode cX1_billAmount 33 = .ok (.iconst 0, 1) := by decide +kernel
theorem dX1_billAmount_34 : decode cX1_billAmount 34 = .ok (.ireturn, 1) := by decide +kernel
set_option maxRecDepth 20000 in
theorem ggX1_backAmount_X1_isWalker : GoodIn wsX1_backAmount wsX1_isWalker := goodIn_r _ [8, 1, 9, 14, 15, 16, 17, 18, 19, 20, 21, 22, 23, 24, 25, 26, 27, 28, 29, 30, 31, 32, 33, 34, 35] (by decide +kernel) (by decide +kernel)
set_option maxRecDepth 20000 in
theorem gX1_backAmount_X1_isWalker : GoodIn wsX1_backAmount (wsV RX1 92 RX1 yX1_isWalker wsX1_isWalker) := goodIn_app (goodIn_of _ (by decide +kernel)) ggX1_backAmount_X1_isWalker
set_option maxRecDepth 20000 in
theorem ggX1_backAmount_X1_orZero : GoodIn wsX1_backAmount wsX1_orZero := goodIn_r _ [12, 13] (by decide +kernel) (by decide +kernel)
set_option maxRecDepth 20000 in
theorem gX1_backAmount_X1_orZero : GoodIn wsX1_backAmount (va_wsS RX1 211 yX1_orZero wsX1_orZero) := goodIn_app (goodIn_of _ (by decide +kernel)) ggX1_backAmount_X1_orZero
theorem dX1_backAmount_0 : decode cX1_backAmount 0 = .ok (.aload_n 0, 1) := by decide +kernel
theorem dX1_backAmount_1 : decode cX1_backAmount 1 = .ok (.iload_n 1, 1) := by decide +kernel
theorem dX1_backAmount_2 : decode cX1_backAmount 2 = .ok (.invokevirtual 92, 3) := by decide +kernel
theorem dX1_backAmount_5 : decode cX1_backAmount 5 = .ok (.ifCond .eq 28, 3) := by decide +kernel
theorem dX1_backAmount_8 : decode cX1_backAmount 8 = .ok (.aload_n 0, 1) := by decide +kernel
theorem dX1_backAmount_9 : decode cX1_backAmount 9 = .ok (.getfield 10, 3) := by decide +kernel
theorem dX1_backAmount_12 : decode cX1_backAmount 12 = .ok (.getfield 126, 3) := by decide +kernel
theorem dX1_backAmount_15 : decode cX1_backAmount 15 = .ok (.iload_n 1, 1) := by decide +kernel
theorem dX1_backAmount_16 : decode cX1_backAmount 16 = .ok (.iaload, 1) := by decide +kernel
theorem dX1_backAmount_17 : decode cX1_backAmount 17 = .ok (.invokestatic 211, 3) := by decide +kernel
theorem dX1_backAmount_20 : decode cX1_backAmount 20 = .ok (.aload_n 0, 1) := by decide +kernel
theorem dX1_backAmount_21 : decode cX1_backAmount 21 = .ok (.getfield 10, 3) := by decide +kernel
theorem dX1_backAmount_24 : decode cX1_backAmount 24 = .ok (.getfield 123, 3) := by decide +kernel
theorem dX1_backAmount_27 : decode cX1_backAmount 27 = .ok (.iload_n 1, 1) := by decide +kernel
theorem dX1_backAmount_28 : decode cX1_backAmount 28 = .ok (.iaload, 1) := by decide +kernel
theorem dX1_backAmount_29 : decode cX1_backAmount 29 = .ok (.imul, 1) := by decide +kernel
theorem dX1_backAmount_30 : decode cX1_backAmount 30 = .ok (.goto 4, 3) := by decide +kernel
theorem dX1_backAmount_33 : decode cX1_backAmount 33 = .ok (.iconst 0, 1) := by decide +kernel
theorem dX1_backAmount_34 : decode cX1_backAmount 34 = .ok (.ireturn, 1) := by decide +kernel
set_option maxRecDepth 20000 in
theorem ggX1_sumOfBillAmounts_X1_billAmount : GoodIn wsX1_sumOfBillAmounts wsX1_billAmount := goodIn_r _ [5, 6, 7, 8, 9, 10, 11, 4, 12, 13, 14, 15, 16, 17, 18, 19, 20, 21, 22, 23, 24, 25, 26, 27, 28, 29, 30, 31, 32, 33, 34, 35, 36, 37, 38, 39] (by decide +kernel) (by decide +kernel)
set_option maxRecDepth 20000 in
theorem gX1_sumOfBillAmounts_X1_billAmount : GoodIn wsX1_sumOfBillAmounts (wsV RX1 171 RX1 yX1_billAmount wsX1_billAmount) := goodIn_app (goodIn_of _ (by decide +kernel)) ggX1_sumOfBillAmounts_X1_billAmount
theorem dX1_sumOfBillAmounts_0 : decode cX1_sumOfBillAmounts 0 = .ok (.iconst 0, 1) := by decide +kernel
theorem dX1_sumOfBillAmounts_1 : decode cX1_sumOfBillAmounts 1 = .ok (.istore_n 1, 1) := by decide +kernel
theorem dX1_sumOfBillAmounts_2 : decode cX1_sumOfBillAmounts 2 = .ok (.iconst 0, 1) := by decide +kernel
theorem dX1_sumOfBillAmounts_3 : decode cX1_sumOfBillAmounts 3 = .ok (.istore_n 2, 1) := by decide +kernel
theorem dX1_sumOfBillAmounts_4 : decode cX1_sumOfBillAmounts 4 = .ok (.iload_n 2, 1) := by decide +kernel
theorem dX1_sumOfBillAmounts_5 : decode cX1_sumOfBillAmounts 5 = .ok (.bipush 8, 2) := by decide +kernel
theorem dX1_sumOfBillAmounts_7 : decode cX1_sumOfBillAmounts 7 = .ok (.if_icmp .ge 17, 3) := by decide +kernel
theorem dX1_sumOfBillAmounts_10 : decode cX1_sumOfBillAmounts 10 = .ok (.iload_n 1, 1) := by decide +kernel
theorem dX1_sumOfBillAmounts_11 : decode cX1_sumOfBillAmounts 11 = .ok (.aload_n 0, 1) := by decide +kernel
theorem dX1_sumOfBillAmounts_12 : decode cX1_sumOfBillAmounts 12 = .ok (.iload_n 2, 1) := by decide +kernel
theorem dX1_sumOfBillAmounts_13 : decode cX1_sumOfBillAmounts 13 = .ok (.invokevirtual 171, 3) := by decide +kernel
theorem dX1_sumOfBillAmounts_16 : decode cX1_sumOfBillAmounts 16 = .ok (.iadd, 1) := by decide +kernel
theorem dX1_sumOfBillAmounts_17 : decode cX1_sumOfBillAmounts 17 = .ok (.istore_n 1, 1) := by decide +kernel
theorem dX1_sumOfBillAmounts_18 : decode cX1_sumOfBillAmounts 18 = .ok (.iinc 2 1, 3) := by decide +kernel
theorem dX1_sumOfBillAmounts_21 : decode cX1_sumOfBillAmounts 21 = .ok (.goto (-17), 3) := by decide +kernel
theorem dX1_sumOfBillAmounts_24 : decode cX1_sumOfBillAmounts 24 = .ok (.iload_n 1, 1) := by decide +kernel
theorem dX1_sumOfBillAmounts_25 : decode cX1_sumOfBillAmounts 25 = .ok (.ireturn, 1) := by decide +kernel
set_option maxRecDepth 20000 in
theorem ggX1_sumOfBackAmounts_X1_backAmount : GoodIn wsX1_sumOfBackAmounts wsX1_backAmount := goodIn_r _ [5, 6, 7, 8, 9, 10, 11, 4, 12, 13, 14, 15, 16, 17, 18, 19, 20, 21, 22, 23, 24, 25, 26, 27, 28, 29, 30, 31, 32, 33, 34, 35, 36, 37, 38, 39] (by decide +kernel) (by decide +kernel)
set_option maxRecDepth 20000 in
theorem gX1_sumOfBackAmounts_X1_backAmount : GoodIn wsX1_sumOfBackAmounts (wsV RX1 135 RX1 yX1_backAmount wsX1_backAmount) := goodIn_app (goodIn_of _ (by decide +kernel)) ggX1_sumOfBackAmounts_X1_backAmount
theorem dX1_sumOfBackAmounts_0 : decode cX1_sumOfBackAmounts 0 = .ok (.iconst 0, 1) := by decide +kernel
theorem dX1_sumOfBackAmounts_1 : decode cX1_sumOfBackAmounts 1 = .ok (.istore_n 1, 1) := by decide +kernel
theorem dX1_sumOfBackAmounts_2 : decode cX1_sumOfBackAmounts 2 = .ok (.iconst 0, 1) := by decide +kernel
theorem dX1_sumOfBackAmounts_3 : decode cX1_sumOfBackAmounts 3 = .ok (.istore_n 2, 1) := by decide +kernel
theorem dX1_sumOfBackAmounts_4 : decode cX1_sumOfBackAmounts 4 = .ok (.iload_n 2, 1) := by decide +kernel
theorem dX1_sumOfBackAmounts_5 : decode cX1_sumOfBackAmounts 5 = .ok (.bipush 8, 2) := by decide +kernel
theorem dX1_sumOfBackAmounts_7 : decode cX1_sumOfBackAmounts 7 = .ok (.if_icmp .ge 17, 3) := by decide +kernel
theorem dX1_sumOfBackAmounts_10 : decode cX1_sumOfBackAmounts 10 = .ok (.iload_n 1, 1) := by decide +kernel
theorem dX1_sumOfBackAmounts_11 : decode cX1_sumOfBackAmounts 11 = .ok (.aload_n 0, 1) := by decide +kernel
theorem dX1_sumOfBackAmounts_12 : decode cX1_sumOfBackAmounts 12 = .ok (.iload_n 2, 1) := by decide +kernel
theorem dX1_sumOfBackAmounts_13 : decode cX1_sumOfBackAmounts 13 = .ok (.invokevirtual 135, 3) := by decide +kernel
theorem dX1_sumOfBackAmounts_16 : decode cX1_sumOfBackAmounts 16 = .ok (.iadd, 1) := by decide +kernel
theorem dX1_sumOfBackAmounts_17 : decode cX1_sumOfBackAmounts 17 = .ok (.istore_n 1, 1) := by decide +kernel
theorem dX1_sumOfBackAmounts_18 : decode cX1_sumOfBackAmounts 18 = .ok (.iinc 2 1, 3) := by decide +kernel
theorem dX1_sumOfBackAmounts_21 : decode cX1_sumOfBackAmounts 21 = .ok (.goto (-17), 3) := by decide +kernel
theorem dX1_sumOfBackAmounts_24 : decode cX1_sumOfBackAmounts 24 = .ok (.iload_n 1, 1) := by decide +kernel
theorem dX1_sumOfBackAmounts_25 : decode cX1_sumOfBackAmounts 25 = .ok (.ireturn, 1) := by decide +kernel
theorem dX1_orZero_0 : decode cX1_orZero 0 = .ok (.iload_n 0, 1) := by decide +kernel
theorem dX1_orZero_1 : decode cX1_orZero 1 = .ok (.ldc 78, 2) := by decide +kernel
theorem dX1_orZero_3 : decode cX1_orZero 3 = .ok (.if_icmp .ne 7, 3) := by decide +kernel
theorem dX1_orZero_6 : decode cX1_orZero 6 = .ok (.iconst 0, 1) := by decide +kernel
theorem dX1_orZero_7 : decode cX1_orZero 7 = .ok (.goto 4, 3) := by decide +kernel
theorem dX1_orZero_10 : decode cX1_orZero 10 = .ok (.iload_n 0, 1) := by decide +kernel
theorem dX1_orZero_11 : decode cX1_orZero 11 = .ok (.ireturn, 1) := by decide +kernel
set_option maxRecDepth 20000 in
theorem ggX1_remember_X1_slotAfter : GoodIn wsX1_remember wsX1_slotAfter := goodIn_r _ [9, 2, 10, 11, 12, 13, 44, 45, 46, 47, 48, 49, 50] (by decide +kernel) (by decide +kernel)
set_option maxRecDepth 20000 in
theorem gX1_remember_X1_slotAfter : GoodIn wsX1_remember (wsV RX1 138 RX1 yX1_slotAfter wsX1_slotAfter) := goodIn_app (goodIn_of _ (by decide +kernel)) ggX1_remember_X1_slotAfter
set_option maxRecDepth 20000 in
theorem ggX1_remember_X0_copyFrom : GoodIn wsX1_remember wsX0_copyFrom := goodIn_r _ [18, 19, 20, 21, 22, 23, 24, 25, 26, 27, 28, 29, 30, 31, 32, 33, 34, 8, 35, 36, 37, 38, 39, 40, 41, 42, 43, 51, 52, 53, 54, 55, 56, 57, 58, 59, 60, 61, 62, 63, 64, 65] (by decide +kernel) (by decide +kernel)
set_option maxRecDepth 20000 in
theorem gX1_remember_X0_copyFrom : GoodIn wsX1_remember (wsV RX1 141 RX0 yX0_copyFrom wsX0_copyFrom) := goodIn_app (goodIn_of _ (by decide +kernel)) ggX1_remember_X0_copyFrom
theorem dX1_remember_0 : decode cX1_remember 0 = .ok (.aload_n 0, 1) := by decide +kernel
theorem dX1_remember_1 : decode cX1_remember 1 = .ok (.getfield 24, 3) := by decide +kernel
theorem dX1_remember_4 : decode cX1_remember 4 = .ok (.iconst 5, 1) := by decide +kernel
theorem dX1_remember_5 : decode cX1_remember 5 = .ok (.if_icmp .ne 22, 3) := by decide +kernel
theorem dX1_remember_8 : decode cX1_remember 8 = .ok (.aload_n 0, 1) := by decide +kernel
theorem dX1_remember_9 : decode cX1_remember 9 = .ok (.aload_n 0, 1) := by decide +kernel
theorem dX1_remember_10 : decode cX1_remember 10 = .ok (.iconst 1, 1) := by decide +kernel
theorem dX1_remember_11 : decode cX1_remember 11 = .ok (.invokevirtual 138, 3) := by decide +kernel
theorem dX1_remember_14 : decode cX1_remember 14 = .ok (.putfield 20, 3) := by decide +kernel
theorem dX1_remember_17 : decode cX1_remember 17 = .ok (.aload_n 0, 1) := by decide +kernel
theorem dX1_remember_18 : decode cX1_remember 18 = .ok (.dup, 1) := by decide +kernel
theorem dX1_remember_19 : decode cX1_remember 19 = .ok (.getfield 24, 3) := by decide +kernel
theorem dX1_remember_22 : decode cX1_remember 22 = .ok (.iconst 1, 1) := by decide +kernel
theorem dX1_remember_23 : decode cX1_remember 23 = .ok (.isub, 1) := by decide +kernel
theorem dX1_remember_24 : decode cX1_remember 24 = .ok (.putfield 24, 3) := by decide +kernel
theorem dX1_remember_27 : decode cX1_remember 27 = .ok (.aload_n 0, 1) := by decide +kernel
theorem dX1_remember_28 : decode cX1_remember 28 = .ok (.getfield 16, 3) := by decide +kernel
theorem dX1_remember_31 : decode cX1_remember 31 = .ok (.aload_n 0, 1) := by decide +kernel
theorem dX1_remember_32 : decode cX1_remember 32 = .ok (.aload_n 0, 1) := by decide +kernel
theorem dX1_remember_33 : decode cX1_remember 33 = .ok (.getfield 24, 3) := by decide +kernel
theorem dX1_remember_36 : decode cX1_remember 36 = .ok (.invokevirtual 138, 3) := by decide +kernel
theorem dX1_remember_39 : decode cX1_remember 39 = .ok (.aaload, 1) := by decide +kernel
theorem dX1_remember_40 : decode cX1_remember 40 = .ok (.astore_n 1, 1) := by decide +kernel
theorem dX1_remember_41 : decode cX1_remember 41 = .ok (.aload_n 1, 1) := by decide +kernel
theorem dX1_remember_42 : decode cX1_remember 42 = .ok (.ifnull 11, 3) := by decide +kernel
theorem dX1_remember_45 : decode cX1_remember 45 = .ok (.aload_n 1, 1) := by decide +kernel
theorem dX1_remember_46 : decode cX1_remember 46 = .ok (.aload_n 0, 1) := by decide +kernel
theorem dX1_remember_47 : decode cX1_remember 47 = .ok (.getfield 10, 3) := by decide +kernel
theorem dX1_remember_50 : decode cX1_remember 50 = .ok (.invokevirtual 141, 3) := by decide +kernel
theorem dX1_remember_53 : decode cX1_remember 53 = .ok (.aload_n 0, 1) := by decide +kernel
theorem dX1_remember_54 : decode cX1_remember 54 = .ok (.dup, 1) := by decide +kernel
theorem dX1_remember_55 : decode cX1_remember 55 = .ok (.getfield 24, 3) := by decide +kernel
theorem dX1_remember_58 : decode cX1_remember 58 = .ok (.iconst 1, 1) := by decide +kernel
theorem dX1_remember_59 : decode cX1_remember 59 = .ok (.iadd, 1) := by decide +kernel
theorem dX1_remember_60 : decode cX1_remember 60 = .ok (.putfield 24, 3) := by decide +kernel
theorem dX1_remember_63 : decode cX1_remember 63 = .ok (.return_, 1) := by decide +kernel
set_option maxRecDepth 20000 in
theorem ggX1_slotAfter_J9_floorMod_7cf53 : GoodIn wsX1_slotAfter wsJ9_floorMod_7cf53 := goodIn_r _ [5] (by decide +kernel) (by decide +kernel)
set_option maxRecDepth 20000 in
theorem gX1_slotAfter_J9_floorMod_7cf53 : GoodIn wsX1_slotAfter (va_wsS RX1 214 yJ9_floorMod_7cf53 wsJ9_floorMod_7cf53) := goodIn_app (goodIn_of _ (by decide +kernel)) ggX1_slotAfter_J9_floorMod_7cf53
theorem dX1_slotAfter_0 : decode cX1_slotAfter 0 = .ok (.aload_n 0, 1) := by decide +kernel
theorem dX1_slotAfter_1 : decode cX1_slotAfter 1 = .ok (.getfield 20, 3) := by decide +kernel
theorem dX1_slotAfter_4 : decode cX1_slotAfter 4 = .ok (.iload_n 1, 1) := by decide +kernel
theorem dX1_slotAfter_5 : decode cX1_slotAfter 5 = .ok (.iadd, 1) := by decide +kernel
theorem dX1_slotAfter_6 : decode cX1_slotAfter 6 = .ok (.iconst 5, 1) := by decide +kernel
theorem dX1_slotAfter_7 : decode cX1_slotAfter 7 = .ok (.invokestatic 214, 3) := by decide +kernel
theorem dX1_slotAfter_10 : decode cX1_slotAfter 10 = .ok (.ireturn, 1) := by decide +kernel
theorem dX1_copyRow_0 : decode cX1_copyRow 0 = .ok (.aload_n 0, 1) := by decide +kernel
theorem dX1_copyRow_1 : decode cX1_copyRow 1 = .ok (.iconst 0, 1) := by decide +kernel
theorem dX1_copyRow_2 : decode cX1_copyRow 2 = .ok (.aload_n 1, 1) := by decide +kernel
theorem dX1_copyRow_3 : decode cX1_copyRow 3 = .ok (.iconst 0, 1) := by decide +kernel
theorem dX1_copyRow_4 : decode cX1_copyRow 4 = .ok (.aload_n 0, 1) := by decide +kernel
theorem dX1_copyRow_5 : decode cX1_copyRow 5 = .ok (.arraylength, 1) := by decide +kernel
theorem dX1_copyRow_6 : decode cX1_copyRow 6 = .ok (.aload_n 1, 1) := by decide +kernel
theorem dX1_copyRow_7 : decode cX1_copyRow 7 = .ok (.arraylength, 1) := by decide +kernel
theorem dX1_copyRow_8 : decode cX1_copyRow 8 = .ok (.invokestatic 205, 3) := by decide +kernel
theorem dX1_copyRow_11 : decode cX1_copyRow 11 = .ok (.invokestatic 217, 3) := by decide +kernel
theorem dX1_copyRow_14 : decode cX1_copyRow 14 = .ok (.return_, 1) := by decide +kernel
theorem dX1_fillRow_0 : decode cX1_fillRow 0 = .ok (.iconst 0, 1) := by decide +kernel
theorem dX1_fillRow_1 : decode cX1_fillRow 1 = .ok (.istore_n 2, 1) := by decide +kernel
theorem dX1_fillRow_2 : decode cX1_fillRow 2 = .ok (.iload_n 2, 1) := by decide +kernel
theorem dX1_fillRow_3 : decode cX1_fillRow 3 = .ok (.aload_n 0, 1) := by decide +kernel
theorem dX1_fillRow_4 : decode cX1_fillRow 4 = .ok (.arraylength, 1) := by decide +kernel
theorem dX1_fillRow_5 : decode cX1_fillRow 5 = .ok (.if_icmp .ge 13, 3) := by decide +kernel
theorem dX1_fillRow_8 : decode cX1_fillRow 8 = .ok (.aload_n 0, 1) := by decide +kernel
theorem dX1_fillRow_9 : decode cX1_fillRow 9 = .ok (.iload_n 2, 1) := by decide +kernel
theorem dX1_fillRow_10 : decode cX1_fillRow 10 = .ok (.iload_n 1, 1) := by decide +kernel
theorem dX1_fillRow_11 : decode cX1_fillRow 11 = .ok (.iastore, 1) := by decide +kernel
theorem dX1_fillRow_12 : decode cX1_fillRow 12 = .ok (.iinc 2 1, 3) := by decide +kernel
theorem dX1_fillRow_15 : decode cX1_fillRow 15 = .ok (.goto (-13), 3) := by decide +kernel
theorem dX1_fillRow_18 : decode cX1_fillRow 18 = .ok (.return_, 1) := by decide +kernel
theorem dX1_sumOf_0 : decode cX1_sumOf 0 = .ok (.iconst 0, 1) := by decide +kernel
theorem dX1_sumOf_1 : decode cX1_sumOf 1 = .ok (.istore_n 1, 1) := by decide +kernel
theorem dX1_sumOf_2 : decode cX1_sumOf 2 = .ok (.iconst 0, 1) := by decide +kernel
theorem dX1_sumOf_3 : decode cX1_sumOf 3 = .ok (.istore_n 2, 1) := by decide +kernel
theorem dX1_sumOf_4 : decode cX1_sumOf 4 = .ok (.iload_n 2, 1) := by decide +kernel
theorem dX1_sumOf_5 : decode cX1_sumOf 5 = .ok (.aload_n 0, 1) := by decide +kernel
theorem dX1_sumOf_6 : decode cX1_sumOf 6 = .ok (.arraylength, 1) := by decide +kernel
theorem dX1_sumOf_7 : decode cX1_sumOf 7 = .ok (.if_icmp .ge 15, 3) := by decide +kernel
theorem dX1_sumOf_10 : decode cX1_sumOf 10 = .ok (.iload_n 1, 1) := by decide +kernel
theorem dX1_sumOf_11 : decode cX1_sumOf 11 = .ok (.aload_n 0, 1) := by decide +kernel
theorem dX1_sumOf_12 : decode cX1_sumOf 12 = .ok (.iload_n 2, 1) := by decide +kernel
theorem dX1_sumOf_13 : decode cX1_sumOf 13 = .ok (.iaload, 1) := by decide +kernel
theorem dX1_sumOf_14 : decode cX1_sumOf 14 = .ok (.iadd, 1) := by decide +kernel
theorem dX1_sumOf_15 : decode cX1_sumOf 15 = .ok (.istore_n 1, 1) := by decide +kernel
theorem dX1_sumOf_16 : decode cX1_sumOf 16 = .ok (.iinc 2 1, 3) := by decide +kernel
theorem dX1_sumOf_19 : decode cX1_sumOf 19 = .ok (.goto (-15), 3) := by decide +kernel
theorem dX1_sumOf_22 : decode cX1_sumOf 22 = .ok (.iload_n 1, 1) := by decide +kernel
theorem dX1_sumOf_23 : decode cX1_sumOf 23 = .ok (.ireturn, 1) := by decide +kernel
theorem dJ9_floorMod_7cf53_0 : decode cJ9_floorMod_7cf53 0 = .ok (.iload_n 0, 1) := by decide +kernel
theorem dJ9_floorMod_7cf53_1 : decode cJ9_floorMod_7cf53 1 = .ok (.iload_n 1, 1) := by decide +kernel
theorem dJ9_floorMod_7cf53_2 : decode cJ9_floorMod_7cf53 2 = .ok (.irem, 1) := by decide +kernel
theorem dJ9_floorMod_7cf53_3 : decode cJ9_floorMod_7cf53 3 = .ok (.istore_n 2, 1) := by decide +kernel
theorem dJ9_floorMod_7cf53_4 : decode cJ9_floorMod_7cf53 4 = .ok (.iload_n 0, 1) := by decide +kernel
theorem dJ9_floorMod_7cf53_5 : decode cJ9_floorMod_7cf53 5 = .ok (.iload_n 1, 1) := by decide +kernel
theorem dJ9_floorMod_7cf53_6 : decode cJ9_floorMod_7cf53 6 = .ok (.ixor, 1) := by decide +kernel
theorem dJ9_floorMod_7cf53_7 : decode cJ9_floorMod_7cf53 7 = .ok (.ifCond .ge 11, 3) := by decide +kernel
theorem dJ9_floorMod_7cf53_10 : decode cJ9_floorMod_7cf53 10 = .ok (.iload_n 2, 1) := by decide +kernel
theorem dJ9_floorMod_7cf53_11 : decode cJ9_floorMod_7cf53 11 = .ok (.ifCond .eq 7, 3) := by decide +kernel
theorem dJ9_floorMod_7cf53_14 : decode cJ9_floorMod_7cf53 14 = .ok (.iload_n 2, 1) := by decide +kernel
theorem dJ9_floorMod_7cf53_15 : decode cJ9_floorMod_7cf53 15 = .ok (.iload_n 1, 1) := by decide +kernel
theorem dJ9_floorMod_7cf53_16 : decode cJ9_floorMod_7cf53 16 = .ok (.iadd, 1) := by decide +kernel
theorem dJ9_floorMod_7cf53_17 : decode cJ9_floorMod_7cf53 17 = .ok (.ireturn, 1) := by decide +kernel
theorem dJ9_floorMod_7cf53_18 : decode cJ9_floorMod_7cf53 18 = .ok (.iload_n 2, 1) := by decide +kernel
theorem dJ9_floorMod_7cf53_19 : decode cJ9_floorMod_7cf53 19 = .ok (.ireturn, 1) := by decide +kernel
theorem dJ9_abs_0f7a4_0 : decode cJ9_abs_0f7a4 0 = .ok (.iload_n 0, 1) := by decide +kernel
theorem dJ9_abs_0f7a4_1 : decode cJ9_abs_0f7a4 1 = .ok (.ifCond .ge 8, 3) := by decide +kernel
theorem dJ9_abs_0f7a4_4 : decode cJ9_abs_0f7a4 4 = .ok (.iload_n 0, 1) := by decide +kernel
theorem dJ9_abs_0f7a4_5 : decode cJ9_abs_0f7a4 5 = .ok (.ineg, 1) := by decide +kernel
theorem dJ9_abs_0f7a4_6 : decode cJ9_abs_0f7a4 6 = .ok (.goto 4, 3) := by decide +kernel
theorem dJ9_abs_0f7a4_9 : decode cJ9_abs_0f7a4 9 = .ok (.iload_n 0, 1) := by decide +kernel
theorem dJ9_abs_0f7a4_10 : decode cJ9_abs_0f7a4 10 = .ok (.ireturn, 1) := by decide +kernel
theorem dJ9_max_7cf53_0 : decode cJ9_max_7cf53 0 = .ok (.iload_n 0, 1) := by decide +kernel
theorem dJ9_max_7cf53_1 : decode cJ9_max_7cf53 1 = .ok (.iload_n 1, 1) := by decide +kernel
theorem dJ9_max_7cf53_2 : decode cJ9_max_7cf53 2 = .ok (.if_icmp .lt 7, 3) := by decide +kernel
theorem dJ9_max_7cf53_5 : decode cJ9_max_7cf53 5 = .ok (.iload_n 0, 1) := by decide +kernel
theorem dJ9_max_7cf53_6 : decode cJ9_max_7cf53 6 = .ok (.goto 4, 3) := by decide +kernel
theorem dJ9_max_7cf53_9 : decode cJ9_max_7cf53 9 = .ok (.iload_n 1, 1) := by decide +kernel
theorem dJ9_max_7cf53_10 : decode cJ9_max_7cf53 10 = .ok (.ireturn, 1) := by decide +kernel
theorem dJ9_min_7cf53_0 : decode cJ9_min_7cf53 0 = .ok (.iload_n 0, 1) := by decide +kernel
theorem dJ9_min_7cf53_1 : decode cJ9_min_7cf53 1 = .ok (.iload_n 1, 1) := by decide +kernel
theorem dJ9_min_7cf53_2 : decode cJ9_min_7cf53 2 = .ok (.if_icmp .gt 7, 3) := by decide +kernel
theorem dJ9_min_7cf53_5 : decode cJ9_min_7cf53 5 = .ok (.iload_n 0, 1) := by decide +kernel
theorem dJ9_min_7cf53_6 : decode cJ9_min_7cf53 6 = .ok (.goto 4, 3) := by decide +kernel
theorem dJ9_min_7cf53_9 : decode cJ9_min_7cf53 9 = .ok (.iload_n 1, 1) := by decide +kernel
theorem dJ9_min_7cf53_10 : decode cJ9_min_7cf53 10 = .ok (.ireturn, 1) := by decide +kernel
theorem dL_cell_0 : decode cL_cell 0 = .ok (.iload_n 1, 1) := by decide +kernel
theorem dL_cell_1 : decode cL_cell 1 = .ok (.aload_n 0, 1) := by decide +kernel
theorem dL_cell_2 : decode cL_cell 2 = .ok (.arraylength, 1) := by decide +kernel
theorem dL_cell_3 : decode cL_cell 3 = .ok (.if_icmp .ge 9, 3) := by decide +kernel
theorem dL_cell_6 : decode cL_cell 6 = .ok (.aload_n 0, 1) := by decide +kernel
theorem dL_cell_7 : decode cL_cell 7 = .ok (.iload_n 1, 1) := by decide +kernel
theorem dL_cell_8 : decode cL_cell 8 = .ok (.iaload, 1) := by decide +kernel
theorem dL_cell_9 : decode cL_cell 9 = .ok (.goto 9, 3) := by decide +kernel
theorem dL_cell_12 : decode cL_cell 12 = .ok (.ldc 7, 2) := by decide +kernel
theorem dL_cell_14 : decode cL_cell 14 = .ok (.iload_n 1, 1) := by decide +kernel
theorem dL_cell_15 : decode cL_cell 15 = .ok (.iconst 3, 1) := by decide +kernel
theorem dL_cell_16 : decode cL_cell 16 = .ok (.iadd, 1) := by decide +kernel
theorem dL_cell_17 : decode cL_cell 17 = .ok (.imul, 1) := by decide +kernel
theorem dL_cell_18 : decode cL_cell 18 = .ok (.ireturn, 1) := by decide +kernel
theorem dL_low_0 : decode cL_low 0 = .ok (.iload_n 0, 1) := by decide +kernel
theorem dL_low_1 : decode cL_low 1 = .ok (.ldc 8, 2) := by decide +kernel
theorem dL_low_3 : decode cL_low 3 = .ok (.iand, 1) := by decide +kernel
theorem dL_low_4 : decode cL_low 4 = .ok (.iload_n 1, 1) := by decide +kernel
theorem dL_low_5 : decode cL_low 5 = .ok (.irem, 1) := by decide +kernel
theorem dL_low_6 : decode cL_low 6 = .ok (.ireturn, 1) := by decide +kernel
theorem dL_share_0 : decode cL_share 0 = .ok (.iload_n 0, 1) := by decide +kernel
theorem dL_share_1 : decode cL_share 1 = .ok (.bipush 8, 2) := by decide +kernel
theorem dL_share_3 : decode cL_share 3 = .ok (.idiv, 1) := by decide +kernel
theorem dL_share_4 : decode cL_share 4 = .ok (.istore_n 3, 1) := by decide +kernel
theorem dL_share_5 : decode cL_share 5 = .ok (.iload_n 1, 1) := by decide +kernel
theorem dL_share_6 : decode cL_share 6 = .ok (.bipush 6, 2) := by decide +kernel
theorem dL_share_8 : decode cL_share 8 = .ok (.idiv, 1) := by decide +kernel
theorem dL_share_9 : decode cL_share 9 = .ok (.iload_n 2, 1) := by decide +kernel
theorem dL_share_10 : decode cL_share 10 = .ok (.bipush 6, 2) := by decide +kernel
theorem dL_share_12 : decode cL_share 12 = .ok (.idiv, 1) := by decide +kernel
theorem dL_share_13 : decode cL_share 13 = .ok (.isub, 1) := by decide +kernel
theorem dL_share_14 : decode cL_share 14 = .ok (.istore 4, 2) := by decide +kernel
theorem dL_share_16 : decode cL_share 16 = .ok (.iload_n 1, 1) := by decide +kernel
theorem dL_share_17 : decode cL_share 17 = .ok (.bipush 6, 2) := by decide +kernel
theorem dL_share_19 : decode cL_share 19 = .ok (.irem, 1) := by decide +kernel
theorem dL_share_20 : decode cL_share 20 = .ok (.iload_n 2, 1) := by decide +kernel
theorem dL_share_21 : decode cL_share 21 = .ok (.bipush 6, 2) := by decide +kernel
theorem dL_share_23 : decode cL_share 23 = .ok (.irem, 1) := by decide +kernel
theorem dL_share_24 : decode cL_share 24 = .ok (.isub, 1) := by decide +kernel
theorem dL_share_25 : decode cL_share 25 = .ok (.istore 5, 2) := by decide +kernel
theorem dL_share_27 : decode cL_share 27 = .ok (.iload 4, 2) := by decide +kernel
theorem dL_share_29 : decode cL_share 29 = .ok (.ifCond .ne 66, 3) := by decide +kernel
theorem dL_share_32 : decode cL_share 32 = .ok (.iload 5, 2) := by decide +kernel
theorem dL_share_34 : decode cL_share 34 = .ok (.ifCond .ne 61, 3) := by decide +kernel
theorem dL_share_37 : decode cL_share 37 = .ok (.iload_n 1, 1) := by decide +kernel
theorem dL_share_38 : decode cL_share 38 = .ok (.iconst 5, 1) := by decide +kernel
theorem dL_share_39 : decode cL_share 39 = .ok (.if_icmp .le 7, 3) := by decide +kernel
theorem dL_share_42 : decode cL_share 42 = .ok (.iconst 1, 1) := by decide +kernel
theorem dL_share_43 : decode cL_share 43 = .ok (.goto 4, 3) := by decide +kernel
theorem dL_share_46 : decode cL_share 46 = .ok (.iconst 0, 1) := by decide +kernel
theorem dL_share_47 : decode cL_share 47 = .ok (.iload_n 1, 1) := by decide +kernel
theorem dL_share_48 : decode cL_share 48 = .ok (.bipush 18, 2) := by decide +kernel
theorem dL_share_50 : decode cL_share 50 = .ok (.if_icmp .ge 7, 3) := by decide +kernel
theorem dL_share_53 : decode cL_share 53 = .ok (.iconst 1, 1) := by decide +kernel
theorem dL_share_54 : decode cL_share 54 = .ok (.goto 4, 3) := by decide +kernel
theorem dL_share_57 : decode cL_share 57 = .ok (.iconst 0, 1) := by decide +kernel
theorem dL_share_58 : decode cL_share 58 = .ok (.iadd, 1) := by decide +kernel
theorem dL_share_59 : decode cL_share 59 = .ok (.iload_n 1, 1) := by decide +kernel
theorem dL_share_60 : decode cL_share 60 = .ok (.bipush 6, 2) := by decide +kernel
theorem dL_share_62 : decode cL_share 62 = .ok (.irem, 1) := by decide +kernel
theorem dL_share_63 : decode cL_share 63 = .ok (.ifCond .le 7, 3) := by decide +kernel
theorem dL_share_66 : decode cL_share 66 = .ok (.iconst 1, 1) := by decide +kernel
theorem dL_share_67 : decode cL_share 67 = .ok (.goto 4, 3) := by decide +kernel
theorem dL_share_70 : decode cL_share 70 = .ok (.iconst 0, 1) := by decide +kernel
theorem dL_share_71 : decode cL_share 71 = .ok (.iadd, 1) := by decide +kernel
theorem dL_share_72 : decode cL_share 72 = .ok (.iload_n 1, 1) := by decide +kernel
theorem dL_share_73 : decode cL_share 73 = .ok (.bipush 6, 2) := by decide +kernel
theorem dL_share_75 : decode cL_share 75 = .ok (.irem, 1) := by decide +kernel
theorem dL_share_76 : decode cL_share 76 = .ok (.iconst 5, 1) := by decide +kernel
theorem dL_share_77 : decode cL_share 77 = .ok (.if_icmp .ge 7, 3) := by decide +kernel
theorem dL_share_80 : decode cL_share 80 = .ok (.iconst 1, 1) := by decide +kernel
theorem dL_share_81 : decode cL_share 81 = .ok (.goto 4, 3) := by decide +kernel
theorem dL_share_84 : decode cL_share 84 = .ok (.iconst 0, 1) := by decide +kernel
theorem dL_share_85 : decode cL_share 85 = .ok (.iadd, 1) := by decide +kernel
theorem dL_share_86 : decode cL_share 86 = .ok (.istore 6, 2) := by decide +kernel
theorem dL_share_88 : decode cL_share 88 = .ok (.iload_n 0, 1) := by decide +kernel
theorem dL_share_89 : decode cL_share 89 = .ok (.iload 6, 2) := by decide +kernel
theorem dL_share_91 : decode cL_share 91 = .ok (.iload_n 3, 1) := by decide +kernel
theorem dL_share_92 : decode cL_share 92 = .ok (.imul, 1) := by decide +kernel
theorem dL_share_93 : decode cL_share 93 = .ok (.isub, 1) := by decide +kernel
theorem dL_share_94 : decode cL_share 94 = .ok (.ireturn, 1) := by decide +kernel
theorem dL_share_95 : decode cL_share 95 = .ok (.iload 4, 2) := by decide +kernel
theorem dL_share_97 : decode cL_share 97 = .ok (.iload 4, 2) := by decide +kernel
theorem dL_share_99 : decode cL_share 99 = .ok (.imul, 1) := by decide +kernel
theorem dL_share_100 : decode cL_share 100 = .ok (.iload 5, 2) := by decide +kernel
theorem dL_share_102 : decode cL_share 102 = .ok (.iload 5, 2) := by decide +kernel
theorem dL_share_104 : decode cL_share 104 = .ok (.imul, 1) := by decide +kernel
theorem dL_share_105 : decode cL_share 105 = .ok (.iadd, 1) := by decide +kernel
theorem dL_share_106 : decode cL_share 106 = .ok (.iconst 1, 1) := by decide +kernel
theorem dL_share_107 : decode cL_share 107 = .ok (.if_icmp .ne 7, 3) := by decide +kernel
theorem dL_share_110 : decode cL_share 110 = .ok (.iload_n 3, 1) := by decide +kernel
theorem dL_share_111 : decode cL_share 111 = .ok (.goto 4, 3) := by decide +kernel
theorem dL_share_114 : decode cL_share 114 = .ok (.iconst 0, 1) := by decide +kernel
theorem dL_share_115 : decode cL_share 115 = .ok (.ireturn, 1) := by decide +kernel
set_option maxRecDepth 20000 in
theorem ggL_gets_L_share : GoodIn wsL_gets wsL_share := goodIn_r _ [4] (by decide +kernel) (by decide +kernel)
set_option maxRecDepth 20000 in
theorem gL_gets_L_share : GoodIn wsL_gets (va_wsS RL 9 yL_share wsL_share) := goodIn_app (goodIn_of _ (by decide +kernel)) ggL_gets_L_share
theorem dL_gets_0 : decode cL_gets 0 = .ok (.iconst 0, 1) := by decide +kernel
theorem dL_gets_1 : decode cL_gets 1 = .ok (.istore 5, 2) := by decide +kernel
theorem dL_gets_3 : decode cL_gets 3 = .ok (.iconst 0, 1) := by decide +kernel
theorem dL_gets_4 : decode cL_gets 4 = .ok (.istore 6, 2) := by decide +kernel
theorem dL_gets_6 : decode cL_gets 6 = .ok (.iload 6, 2) := by decide +kernel
theorem dL_gets_8 : decode cL_gets 8 = .ok (.aload_n 0, 1) := by decide +kernel
theorem dL_gets_9 : decode cL_gets 9 = .ok (.iconst 1, 1) := by decide +kernel
theorem dL_gets_10 : decode cL_gets 10 = .ok (.iaload, 1) := by decide +kernel
theorem dL_gets_11 : decode cL_gets 11 = .ok (.if_icmp .ge 58, 3) := by decide +kernel
theorem dL_gets_14 : decode cL_gets 14 = .ok (.iload 5, 2) := by decide +kernel
theorem dL_gets_16 : decode cL_gets 16 = .ok (.aload_n 1, 1) := by decide +kernel
theorem dL_gets_17 : decode cL_gets 17 = .ok (.iconst 5, 1) := by decide +kernel
theorem dL_gets_18 : decode cL_gets 18 = .ok (.iload 6, 2) := by decide +kernel
theorem dL_gets_20 : decode cL_gets 20 = .ok (.imul, 1) := by decide +kernel
theorem dL_gets_21 : decode cL_gets 21 = .ok (.iconst 1, 1) := by decide +kernel
theorem dL_gets_22 : decode cL_gets 22 = .ok (.iadd, 1) := by decide +kernel
theorem dL_gets_23 : decode cL_gets 23 = .ok (.iaload, 1) := by decide +kernel
theorem dL_gets_24 : decode cL_gets 24 = .ok (.ifCond .lt 35, 3) := by decide +kernel
theorem dL_gets_27 : decode cL_gets 27 = .ok (.iload 6, 2) := by decide +kernel
theorem dL_gets_29 : decode cL_gets 29 = .ok (.iload 4, 2) := by decide +kernel
theorem dL_gets_31 : decode cL_gets 31 = .ok (.if_icmp .eq 28, 3) := by decide +kernel
theorem dL_gets_34 : decode cL_gets 34 = .ok (.aload_n 1, 1) := by decide +kernel
theorem dL_gets_35 : decode cL_gets 35 = .ok (.iconst 5, 1) := by decide +kernel
theorem dL_gets_36 : decode cL_gets 36 = .ok (.iload 6, 2) := by decide +kernel
theorem dL_gets_38 : decode cL_gets 38 = .ok (.imul, 1) := by decide +kernel
theorem dL_gets_39 : decode cL_gets 39 = .ok (.iload_n 3, 1) := by decide +kernel
theorem dL_gets_40 : decode cL_gets 40 = .ok (.iadd, 1) := by decide +kernel
theorem dL_gets_41 : decode cL_gets 41 = .ok (.iaload, 1) := by decide +kernel
theorem dL_gets_42 : decode cL_gets 42 = .ok (.aload_n 1, 1) := by decide +kernel
theorem dL_gets_43 : decode cL_gets 43 = .ok (.iconst 5, 1) := by decide +kernel
theorem dL_gets_44 : decode cL_gets 44 = .ok (.iload 6, 2) := by decide +kernel
theorem dL_gets_46 : decode cL_gets 46 = .ok (.imul, 1) := by decide +kernel
theorem dL_gets_47 : decode cL_gets 47 = .ok (.iload_n 3, 1) := by decide +kernel
theorem dL_gets_48 : decode cL_gets 48 = .ok (.iadd, 1) := by decide +kernel
theorem dL_gets_49 : decode cL_gets 49 = .ok (.iconst 1, 1) := by decide +kernel
theorem dL_gets_50 : decode cL_gets 50 = .ok (.iadd, 1) := by decide +kernel
theorem dL_gets_51 : decode cL_gets 51 = .ok (.iaload, 1) := by decide +kernel
theorem dL_gets_52 : decode cL_gets 52 = .ok (.iload_n 2, 1) := by decide +kernel
theorem dL_gets_53 : decode cL_gets 53 = .ok (.invokestatic 9, 3) := by decide +kernel
theorem dL_gets_56 : decode cL_gets 56 = .ok (.goto 4, 3) := by decide +kernel
theorem dL_gets_59 : decode cL_gets 59 = .ok (.iconst 0, 1) := by decide +kernel
theorem dL_gets_60 : decode cL_gets 60 = .ok (.iadd, 1) := by decide +kernel
theorem dL_gets_61 : decode cL_gets 61 = .ok (.istore 5, 2) := by decide +kernel
theorem dL_gets_63 : decode cL_gets 63 = .ok (.iinc 6 1, 3) := by decide +kernel
theorem dL_gets_66 : decode cL_gets 66 = .ok (.goto (-60), 3) := by decide +kernel
theorem dL_gets_69 : decode cL_gets 69 = .ok (.iload 5, 2) := by decide +kernel
theorem dL_gets_71 : decode cL_gets 71 = .ok (.ireturn, 1) := by decide +kernel
set_option maxRecDepth 20000 in
theorem ggL_error_L_gets : GoodIn wsL_error wsL_gets := goodIn_r _ [4, 5, 6, 3, 7] (by decide +kernel) (by decide +kernel)
set_option maxRecDepth 20000 in
theorem gL_error_L_gets : GoodIn wsL_error (va_wsS RL 15 yL_gets wsL_gets) := goodIn_app (goodIn_of _ (by decide +kernel)) ggL_error_L_gets
theorem dL_error_0 : decode cL_error 0 = .ok (.iconst 0, 1) := by decide +kernel
theorem dL_error_1 : decode cL_error 1 = .ok (.istore 4, 2) := by decide +kernel
theorem dL_error_3 : decode cL_error 3 = .ok (.iconst 0, 1) := by decide +kernel
theorem dL_error_4 : decode cL_error 4 = .ok (.istore 5, 2) := by decide +kernel
theorem dL_error_6 : decode cL_error 6 = .ok (.iload 5, 2) := by decide +kernel
theorem dL_error_8 : decode cL_error 8 = .ok (.bipush 24, 2) := by decide +kernel
theorem dL_error_10 : decode cL_error 10 = .ok (.if_icmp .ge 58, 3) := by decide +kernel
theorem dL_error_13 : decode cL_error 13 = .ok (.aload_n 0, 1) := by decide +kernel
theorem dL_error_14 : decode cL_error 14 = .ok (.aload_n 3, 1) := by decide +kernel
theorem dL_error_15 : decode cL_error 15 = .ok (.iload 5, 2) := by decide +kernel
theorem dL_error_17 : decode cL_error 17 = .ok (.iconst 0, 1) := by decide +kernel
theorem dL_error_18 : decode cL_error 18 = .ok (.iconst (-1), 1) := by decide +kernel
theorem dL_error_19 : decode cL_error 19 = .ok (.invokestatic 15, 3) := by decide +kernel
theorem dL_error_22 : decode cL_error 22 = .ok (.aload_n 1, 1) := by decide +kernel
theorem dL_error_23 : decode cL_error 23 = .ok (.iload 5, 2) := by decide +kernel
theorem dL_error_25 : decode cL_error 25 = .ok (.iaload, 1) := by decide +kernel
theorem dL_error_26 : decode cL_error 26 = .ok (.iadd, 1) := by decide +kernel
theorem dL_error_27 : decode cL_error 27 = .ok (.aload_n 0, 1) := by decide +kernel
theorem dL_error_28 : decode cL_error 28 = .ok (.aload_n 3, 1) := by decide +kernel
theorem dL_error_29 : decode cL_error 29 = .ok (.iload 5, 2) := by decide +kernel
theorem dL_error_31 : decode cL_error 31 = .ok (.iconst 2, 1) := by decide +kernel
theorem dL_error_32 : decode cL_error 32 = .ok (.iconst (-1), 1) := by decide +kernel
theorem dL_error_33 : decode cL_error 33 = .ok (.invokestatic 15, 3) := by decide +kernel
theorem dL_error_36 : decode cL_error 36 = .ok (.isub, 1) := by decide +kernel
theorem dL_error_37 : decode cL_error 37 = .ok (.aload_n 2, 1) := by decide +kernel
theorem dL_error_38 : decode cL_error 38 = .ok (.iload 5, 2) := by decide +kernel
theorem dL_error_40 : decode cL_error 40 = .ok (.iaload, 1) := by decide +kernel
theorem dL_error_41 : decode cL_error 41 = .ok (.isub, 1) := by decide +kernel
theorem dL_error_42 : decode cL_error 42 = .ok (.istore 6, 2) := by decide +kernel
theorem dL_error_44 : decode cL_error 44 = .ok (.iload 4, 2) := by decide +kernel
theorem dL_error_46 : decode cL_error 46 = .ok (.iload 6, 2) := by decide +kernel
theorem dL_error_48 : decode cL_error 48 = .ok (.ifCond .ge 9, 3) := by decide +kernel
theorem dL_error_51 : decode cL_error 51 = .ok (.iload 6, 2) := by decide +kernel
theorem dL_error_53 : decode cL_error 53 = .ok (.ineg, 1) := by decide +kernel
theorem dL_error_54 : decode cL_error 54 = .ok (.goto 5, 3) := by decide +kernel
theorem dL_error_57 : decode cL_error 57 = .ok (.iload 6, 2) := by decide +kernel
theorem dL_error_59 : decode cL_error 59 = .ok (.iadd, 1) := by decide +kernel
theorem dL_error_60 : decode cL_error 60 = .ok (.istore 4, 2) := by decide +kernel
theorem dL_error_62 : decode cL_error 62 = .ok (.iinc 5 1, 3) := by decide +kernel
theorem dL_error_65 : decode cL_error 65 = .ok (.goto (-59), 3) := by decide +kernel
theorem dL_error_68 : decode cL_error 68 = .ok (.iload 4, 2) := by decide +kernel
theorem dL_error_70 : decode cL_error 70 = .ok (.ireturn, 1) := by decide +kernel
theorem dL_who_0 : decode cL_who 0 = .ok (.iconst (-1), 1) := by decide +kernel
theorem dL_who_1 : decode cL_who 1 = .ok (.istore 4, 2) := by decide +kernel
theorem dL_who_3 : decode cL_who 3 = .ok (.iconst 0, 1) := by decide +kernel
theorem dL_who_4 : decode cL_who 4 = .ok (.istore 5, 2) := by decide +kernel
theorem dL_who_6 : decode cL_who 6 = .ok (.iload 5, 2) := by decide +kernel
theorem dL_who_8 : decode cL_who 8 = .ok (.aload_n 0, 1) := by decide +kernel
theorem dL_who_9 : decode cL_who 9 = .ok (.iconst 1, 1) := by decide +kernel
theorem dL_who_10 : decode cL_who 10 = .ok (.iaload, 1) := by decide +kernel
theorem dL_who_11 : decode cL_who 11 = .ok (.if_icmp .ge 30, 3) := by decide +kernel
theorem dL_who_14 : decode cL_who 14 = .ok (.aload_n 1, 1) := by decide +kernel
theorem dL_who_15 : decode cL_who 15 = .ok (.iconst 5, 1) := by decide +kernel
theorem dL_who_16 : decode cL_who 16 = .ok (.iload 5, 2) := by decide +kernel
theorem dL_who_18 : decode cL_who 18 = .ok (.imul, 1) := by decide +kernel
theorem dL_who_19 : decode cL_who 19 = .ok (.iload_n 3, 1) := by decide +kernel
theorem dL_who_20 : decode cL_who 20 = .ok (.iadd, 1) := by decide +kernel
theorem dL_who_21 : decode cL_who 21 = .ok (.iaload, 1) := by decide +kernel
theorem dL_who_22 : decode cL_who 22 = .ok (.iload_n 2, 1) := by decide +kernel
theorem dL_who_23 : decode cL_who 23 = .ok (.if_icmp .ne 8, 3) := by decide +kernel
theorem dL_who_26 : decode cL_who 26 = .ok (.iload 5, 2) := by decide +kernel
theorem dL_who_28 : decode cL_who 28 = .ok (.goto 5, 3) := by decide +kernel
theorem dL_who_31 : decode cL_who 31 = .ok (.iload 4, 2) := by decide +kernel
theorem dL_who_33 : decode cL_who 33 = .ok (.istore 4, 2) := by decide +kernel
theorem dL_who_35 : decode cL_who 35 = .ok (.iinc 5 1, 3) := by decide +kernel
theorem dL_who_38 : decode cL_who 38 = .ok (.goto (-32), 3) := by decide +kernel
theorem dL_who_41 : decode cL_who 41 = .ok (.iload 4, 2) := by decide +kernel
theorem dL_who_43 : decode cL_who 43 = .ok (.ireturn, 1) := by decide +kernel
set_option maxRecDepth 20000 in
theorem ggL_estimate_L_share : GoodIn wsL_estimate wsL_share := goodIn_r _ [4] (by decide +kernel) (by decide +kernel)
set_option maxRecDepth 20000 in
theorem gL_estimate_L_share : GoodIn wsL_estimate (va_wsS RL 9 yL_share wsL_share) := goodIn_app (goodIn_of _ (by decide +kernel)) ggL_estimate_L_share
set_option maxRecDepth 20000 in
theorem ggL_estimate_L_gets : GoodIn wsL_estimate wsL_gets := goodIn_r _ [7, 1, 2, 3, 4] (by decide +kernel) (by decide +kernel)
set_option maxRecDepth 20000 in
theorem gL_estimate_L_gets : GoodIn wsL_estimate (va_wsS RL 15 yL_gets wsL_gets) := goodIn_app (goodIn_of _ (by decide +kernel)) ggL_estimate_L_gets
theorem dL_estimate_0 : decode cL_estimate 0 = .ok (.iconst 0, 1) := by decide +kernel
theorem dL_estimate_1 : decode cL_estimate 1 = .ok (.istore 5, 2) := by decide +kernel
theorem dL_estimate_3 : decode cL_estimate 3 = .ok (.iconst 0, 1) := by decide +kernel
theorem dL_estimate_4 : decode cL_estimate 4 = .ok (.istore 6, 2) := by decide +kernel
theorem dL_estimate_6 : decode cL_estimate 6 = .ok (.iload 6, 2) := by decide +kernel
theorem dL_estimate_8 : decode cL_estimate 8 = .ok (.bipush 24, 2) := by decide +kernel
theorem dL_estimate_10 : decode cL_estimate 10 = .ok (.if_icmp .ge 62, 3) := by decide +kernel
theorem dL_estimate_13 : decode cL_estimate 13 = .ok (.bipush 8, 2) := by decide +kernel
theorem dL_estimate_15 : decode cL_estimate 15 = .ok (.aload_n 3, 1) := by decide +kernel
theorem dL_estimate_16 : decode cL_estimate 16 = .ok (.iconst 5, 1) := by decide +kernel
theorem dL_estimate_17 : decode cL_estimate 17 = .ok (.iload 4, 2) := by decide +kernel
theorem dL_estimate_19 : decode cL_estimate 19 = .ok (.imul, 1) := by decide +kernel
theorem dL_estimate_20 : decode cL_estimate 20 = .ok (.iconst 3, 1) := by decide +kernel
theorem dL_estimate_21 : decode cL_estimate 21 = .ok (.iadd, 1) := by decide +kernel
theorem dL_estimate_22 : decode cL_estimate 22 = .ok (.iaload, 1) := by decide +kernel
theorem dL_estimate_23 : decode cL_estimate 23 = .ok (.iload 6, 2) := by decide +kernel
theorem dL_estimate_25 : decode cL_estimate 25 = .ok (.invokestatic 9, 3) := by decide +kernel
theorem dL_estimate_28 : decode cL_estimate 28 = .ok (.ifCond .le 38, 3) := by decide +kernel
theorem dL_estimate_31 : decode cL_estimate 31 = .ok (.iload 5, 2) := by decide +kernel
theorem dL_estimate_33 : decode cL_estimate 33 = .ok (.aload_n 0, 1) := by decide +kernel
theorem dL_estimate_34 : decode cL_estimate 34 = .ok (.aload_n 3, 1) := by decide +kernel
theorem dL_estimate_35 : decode cL_estimate 35 = .ok (.iload 6, 2) := by decide +kernel
theorem dL_estimate_37 : decode cL_estimate 37 = .ok (.iconst 0, 1) := by decide +kernel
theorem dL_estimate_38 : decode cL_estimate 38 = .ok (.iconst (-1), 1) := by decide +kernel
theorem dL_estimate_39 : decode cL_estimate 39 = .ok (.invokestatic 15, 3) := by decide +kernel
theorem dL_estimate_42 : decode cL_estimate 42 = .ok (.aload_n 1, 1) := by decide +kernel
theorem dL_estimate_43 : decode cL_estimate 43 = .ok (.iload 6, 2) := by decide +kernel
theorem dL_estimate_45 : decode cL_estimate 45 = .ok (.iaload, 1) := by decide +kernel
theorem dL_estimate_46 : decode cL_estimate 46 = .ok (.iadd, 1) := by decide +kernel
theorem dL_estimate_47 : decode cL_estimate 47 = .ok (.aload_n 2, 1) := by decide +kernel
theorem dL_estimate_48 : decode cL_estimate 48 = .ok (.iload 6, 2) := by decide +kernel
theorem dL_estimate_50 : decode cL_estimate 50 = .ok (.iaload, 1) := by decide +kernel
theorem dL_estimate_51 : decode cL_estimate 51 = .ok (.isub, 1) := by decide +kernel
theorem dL_estimate_52 : decode cL_estimate 52 = .ok (.aload_n 0, 1) := by decide +kernel
theorem dL_estimate_53 : decode cL_estimate 53 = .ok (.aload_n 3, 1) := by decide +kernel
theorem dL_estimate_54 : decode cL_estimate 54 = .ok (.iload 6, 2) := by decide +kernel
theorem dL_estimate_56 : decode cL_estimate 56 = .ok (.iconst 2, 1) := by decide +kernel
theorem dL_estimate_57 : decode cL_estimate 57 = .ok (.iload 4, 2) := by decide +kernel
theorem dL_estimate_59 : decode cL_estimate 59 = .ok (.invokestatic 15, 3) := by decide +kernel
theorem dL_estimate_62 : decode cL_estimate 62 = .ok (.isub, 1) := by decide +kernel
theorem dL_estimate_63 : decode cL_estimate 63 = .ok (.iadd, 1) := by decide +kernel
theorem dL_estimate_64 : decode cL_estimate 64 = .ok (.istore 5, 2) := by decide +kernel
theorem dL_estimate_66 : decode cL_estimate 66 = .ok (.iinc 6 1, 3) := by decide +kernel
theorem dL_estimate_69 : decode cL_estimate 69 = .ok (.goto (-63), 3) := by decide +kernel
theorem dL_estimate_72 : decode cL_estimate 72 = .ok (.iload 5, 2) := by decide +kernel
theorem dL_estimate_74 : decode cL_estimate 74 = .ok (.ifCond .le 8, 3) := by decide +kernel
theorem dL_estimate_77 : decode cL_estimate 77 = .ok (.iload 5, 2) := by decide +kernel
theorem dL_estimate_79 : decode cL_estimate 79 = .ok (.goto 4, 3) := by decide +kernel
theorem dL_estimate_82 : decode cL_estimate 82 = .ok (.iconst 0, 1) := by decide +kernel
theorem dL_estimate_83 : decode cL_estimate 83 = .ok (.ireturn, 1) := by decide +kernel
set_option maxRecDepth 20000 in
theorem ggL_oldest_L_share : GoodIn wsL_oldest wsL_share := goodIn_r _ [4] (by decide +kernel) (by decide +kernel)
set_option maxRecDepth 20000 in
theorem gL_oldest_L_share : GoodIn wsL_oldest (va_wsS RL 9 yL_share wsL_share) := goodIn_app (goodIn_of _ (by decide +kernel)) ggL_oldest_L_share
theorem dL_oldest_0 : decode cL_oldest 0 = .ok (.sipush 9999, 3) := by decide +kernel
theorem dL_oldest_3 : decode cL_oldest 3 = .ok (.istore_n 2, 1) := by decide +kernel
theorem dL_oldest_4 : decode cL_oldest 4 = .ok (.iconst 0, 1) := by decide +kernel
theorem dL_oldest_5 : decode cL_oldest 5 = .ok (.istore_n 3, 1) := by decide +kernel
theorem dL_oldest_6 : decode cL_oldest 6 = .ok (.iload_n 3, 1) := by decide +kernel
theorem dL_oldest_7 : decode cL_oldest 7 = .ok (.bipush 24, 2) := by decide +kernel
theorem dL_oldest_9 : decode cL_oldest 9 = .ok (.if_icmp .ge 34, 3) := by decide +kernel
theorem dL_oldest_12 : decode cL_oldest 12 = .ok (.bipush 8, 2) := by decide +kernel
theorem dL_oldest_14 : decode cL_oldest 14 = .ok (.iload_n 1, 1) := by decide +kernel
theorem dL_oldest_15 : decode cL_oldest 15 = .ok (.iload_n 3, 1) := by decide +kernel
theorem dL_oldest_16 : decode cL_oldest 16 = .ok (.invokestatic 9, 3) := by decide +kernel
theorem dL_oldest_19 : decode cL_oldest 19 = .ok (.ifCond .le 16, 3) := by decide +kernel
theorem dL_oldest_22 : decode cL_oldest 22 = .ok (.aload_n 0, 1) := by decide +kernel
theorem dL_oldest_23 : decode cL_oldest 23 = .ok (.iload_n 3, 1) := by decide +kernel
theorem dL_oldest_24 : decode cL_oldest 24 = .ok (.iaload, 1) := by decide +kernel
theorem dL_oldest_25 : decode cL_oldest 25 = .ok (.iload_n 2, 1) := by decide +kernel
theorem dL_oldest_26 : decode cL_oldest 26 = .ok (.if_icmp .ge 9, 3) := by decide +kernel
theorem dL_oldest_29 : decode cL_oldest 29 = .ok (.aload_n 0, 1) := by decide +kernel
theorem dL_oldest_30 : decode cL_oldest 30 = .ok (.iload_n 3, 1) := by decide +kernel
theorem dL_oldest_31 : decode cL_oldest 31 = .ok (.iaload, 1) := by decide +kernel
theorem dL_oldest_32 : decode cL_oldest 32 = .ok (.goto 4, 3) := by decide +kernel
theorem dL_oldest_35 : decode cL_oldest 35 = .ok (.iload_n 2, 1) := by decide +kernel
theorem dL_oldest_36 : decode cL_oldest 36 = .ok (.istore_n 2, 1) := by decide +kernel
theorem dL_oldest_37 : decode cL_oldest 37 = .ok (.iinc 3 1, 3) := by decide +kernel
theorem dL_oldest_40 : decode cL_oldest 40 = .ok (.goto (-34), 3) := by decide +kernel
theorem dL_oldest_43 : decode cL_oldest 43 = .ok (.iload_n 2, 1) := by decide +kernel
theorem dL_oldest_44 : decode cL_oldest 44 = .ok (.ireturn, 1) := by decide +kernel
set_option maxRecDepth 20000 in
theorem ggL_certainty_L_oldest : GoodIn wsL_certainty wsL_oldest := goodIn_r _ [4, 5, 6, 3, 7] (by decide +kernel) (by decide +kernel)
set_option maxRecDepth 20000 in
theorem gL_certainty_L_oldest : GoodIn wsL_certainty (va_wsS RL 19 yL_oldest wsL_oldest) := goodIn_app (goodIn_of _ (by decide +kernel)) ggL_certainty_L_oldest
theorem dL_certainty_0 : decode cL_certainty 0 = .ok (.bipush 100, 2) := by decide +kernel
theorem dL_certainty_2 : decode cL_certainty 2 = .ok (.aload_n 0, 1) := by decide +kernel
theorem dL_certainty_3 : decode cL_certainty 3 = .ok (.iconst 0, 1) := by decide +kernel
theorem dL_certainty_4 : decode cL_certainty 4 = .ok (.iaload, 1) := by decide +kernel
theorem dL_certainty_5 : decode cL_certainty 5 = .ok (.aload_n 1, 1) := by decide +kernel
theorem dL_certainty_6 : decode cL_certainty 6 = .ok (.aload_n 2, 1) := by decide +kernel
theorem dL_certainty_7 : decode cL_certainty 7 = .ok (.iconst 5, 1) := by decide +kernel
theorem dL_certainty_8 : decode cL_certainty 8 = .ok (.iload_n 3, 1) := by decide +kernel
theorem dL_certainty_9 : decode cL_certainty 9 = .ok (.imul, 1) := by decide +kernel
theorem dL_certainty_10 : decode cL_certainty 10 = .ok (.iconst 3, 1) := by decide +kernel
theorem dL_certainty_11 : decode cL_certainty 11 = .ok (.iadd, 1) := by decide +kernel
theorem dL_certainty_12 : decode cL_certainty 12 = .ok (.iaload, 1) := by decide +kernel
theorem dL_certainty_13 : decode cL_certainty 13 = .ok (.invokestatic 19, 3) := by decide +kernel
theorem dL_certainty_16 : decode cL_certainty 16 = .ok (.isub, 1) := by decide +kernel
theorem dL_certainty_17 : decode cL_certainty 17 = .ok (.iconst 5, 1) := by decide +kernel
theorem dL_certainty_18 : decode cL_certainty 18 = .ok (.imul, 1) := by decide +kernel
theorem dL_certainty_19 : decode cL_certainty 19 = .ok (.isub, 1) := by decide +kernel
theorem dL_certainty_20 : decode cL_certainty 20 = .ok (.aload_n 2, 1) := by decide +kernel
theorem dL_certainty_21 : decode cL_certainty 21 = .ok (.iconst 5, 1) := by decide +kernel
theorem dL_certainty_22 : decode cL_certainty 22 = .ok (.iload_n 3, 1) := by decide +kernel
theorem dL_certainty_23 : decode cL_certainty 23 = .ok (.imul, 1) := by decide +kernel
theorem dL_certainty_24 : decode cL_certainty 24 = .ok (.iconst 4, 1) := by decide +kernel
theorem dL_certainty_25 : decode cL_certainty 25 = .ok (.iadd, 1) := by decide +kernel
theorem dL_certainty_26 : decode cL_certainty 26 = .ok (.iaload, 1) := by decide +kernel
theorem dL_certainty_27 : decode cL_certainty 27 = .ok (.bipush 10, 2) := by decide +kernel
theorem dL_certainty_29 : decode cL_certainty 29 = .ok (.imul, 1) := by decide +kernel
theorem dL_certainty_30 : decode cL_certainty 30 = .ok (.isub, 1) := by decide +kernel
theorem dL_certainty_31 : decode cL_certainty 31 = .ok (.istore 4, 2) := by decide +kernel
theorem dL_certainty_33 : decode cL_certainty 33 = .ok (.iload 4, 2) := by decide +kernel
theorem dL_certainty_35 : decode cL_certainty 35 = .ok (.ifCond .le 8, 3) := by decide +kernel
theorem dL_certainty_38 : decode cL_certainty 38 = .ok (.iload 4, 2) := by decide +kernel
theorem dL_certainty_40 : decode cL_certainty 40 = .ok (.goto 4, 3) := by decide +kernel
theorem dL_certainty_43 : decode cL_certainty 43 = .ok (.iconst 0, 1) := by decide +kernel
theorem dL_certainty_44 : decode cL_certainty 44 = .ok (.ireturn, 1) := by decide +kernel
set_option maxRecDepth 20000 in
theorem ggL_two_X1_swap : GoodIn wsL_two wsX1_swap := goodIn_r _ [7, 8, 9, 10, 11, 12, 13, 14, 15, 6, 16, 17, 18, 19, 20, 21, 22, 23, 24, 25, 26, 27, 28, 29, 30, 31, 32, 33, 34, 35, 36, 37, 38, 39, 40, 41, 42, 43, 44, 45, 46, 47, 48, 49, 50, 51, 52, 53, 54, 55, 56, 57, 58, 59, 60, 61, 62, 63, 64, 65, 66, 67, 68, 69, 70, 71, 72, 73, 74, 75, 76, 77, 78, 79, 80, 81, 82, 83, 84, 85, 86, 87, 88, 89, 90, 91, 92, 93, 94, 95, 96, 97, 98, 99, 100, 101, 102, 103, 104, 105, 106, 107, 108, 124, 125, 126, 127, 128, 129, 130, 131, 132, 133, 134, 135, 136, 137, 138, 139, 140, 141, 142, 143, 144, 145] (by decide +kernel) (by decide +kernel)
set_option maxRecDepth 20000 in
theorem gL_two_X1_swap : GoodIn wsL_two (wsV RL 23 RX1 yX1_swap wsX1_swap) := goodIn_app (goodIn_of _ (by decide +kernel)) ggL_two_X1_swap
set_option maxRecDepth 20000 in
theorem ggL_two_X1_accuse : GoodIn wsL_two wsX1_accuse := goodIn_r _ [112, 8, 9, 10, 12, 113, 13, 14, 15, 6, 16, 17, 18, 19, 20, 21, 22, 23, 24, 25, 11, 26, 27, 28, 29, 30, 31, 32, 33, 34, 35, 36, 37, 38, 39, 40, 41, 42, 43, 44, 45, 46, 47, 48, 49, 50, 51, 52, 53, 54, 55, 56, 57, 58, 59, 60, 61, 62, 63, 64, 65, 66, 67, 68, 69, 70, 71, 72, 73, 74, 75, 76, 77, 78, 79, 80, 81, 82, 83, 84, 85, 86, 87, 88, 89, 90, 91, 92, 93, 94, 95, 96, 97, 98, 99, 100, 101, 102, 103, 104, 105, 106, 107, 108, 124, 125, 126, 127, 128, 129, 130, 131, 132, 133, 134, 135, 136, 137, 138, 139, 140, 141, 142, 143, 144, 145] (by decide +kernel) (by decide +kernel)
set_option maxRecDepth 20000 in
theorem gL_two_X1_accuse : GoodIn wsL_two (wsV RL 29 RX1 yX1_accuse wsX1_accuse) := goodIn_app (goodIn_of _ (by decide +kernel)) ggL_two_X1_accuse
set_option maxRecDepth 20000 in
theorem ggL_two_L_error : GoodIn wsL_two wsL_error := goodIn_r _ [117, 118, 119, 116, 120, 121, 122, 123] (by decide +kernel) (by decide +kernel)
set_option maxRecDepth 20000 in
theorem gL_two_L_error : GoodIn wsL_two (va_wsS RL 34 yL_error wsL_error) := goodIn_app (goodIn_of _ (by decide +kernel)) ggL_two_L_error
theorem dL_two_0 : decode cL_two 0 = .ok (.iload 5, 2) := by decide +kernel
theorem dL_two_2 : decode cL_two 2 = .ok (.aload_n 1, 1) := by decide +kernel
theorem dL_two_3 : decode cL_two 3 = .ok (.iconst 1, 1) := by decide +kernel
theorem dL_two_4 : decode cL_two 4 = .ok (.iaload, 1) := by decide +kernel
theorem dL_two_5 : decode cL_two 5 = .ok (.irem, 1) := by decide +kernel
theorem dL_two_6 : decode cL_two 6 = .ok (.istore 7, 2) := by decide +kernel
theorem dL_two_8 : decode cL_two 8 = .ok (.iload 5, 2) := by decide +kernel
theorem dL_two_10 : decode cL_two 10 = .ok (.bipush 8, 2) := by decide +kernel
theorem dL_two_12 : decode cL_two 12 = .ok (.idiv, 1) := by decide +kernel
theorem dL_two_13 : decode cL_two 13 = .ok (.aload_n 1, 1) := by decide +kernel
theorem dL_two_14 : decode cL_two 14 = .ok (.iconst 1, 1) := by decide +kernel
theorem dL_two_15 : decode cL_two 15 = .ok (.iaload, 1) := by decide +kernel
theorem dL_two_16 : decode cL_two 16 = .ok (.irem, 1) := by decide +kernel
theorem dL_two_17 : decode cL_two 17 = .ok (.istore 8, 2) := by decide +kernel
theorem dL_two_19 : decode cL_two 19 = .ok (.iload 7, 2) := by decide +kernel
theorem dL_two_21 : decode cL_two 21 = .ok (.iload 8, 2) := by decide +kernel
theorem dL_two_23 : decode cL_two 23 = .ok (.if_icmp .ne 38, 3) := by decide +kernel
theorem dL_two_26 : decode cL_two 26 = .ok (.iload 6, 2) := by decide +kernel
theorem dL_two_28 : decode cL_two 28 = .ok (.ifCond .eq 14, 3) := by decide +kernel
theorem dL_two_31 : decode cL_two 31 = .ok (.aload_n 0, 1) := by decide +kernel
theorem dL_two_32 : decode cL_two 32 = .ok (.iload 7, 2) := by decide +kernel
theorem dL_two_34 : decode cL_two 34 = .ok (.iload 8, 2) := by decide +kernel
theorem dL_two_36 : decode cL_two 36 = .ok (.invokevirtual 23, 3) := by decide +kernel
theorem dL_two_39 : decode cL_two 39 = .ok (.goto 11, 3) := by decide +kernel
theorem dL_two_42 : decode cL_two 42 = .ok (.aload_n 0, 1) := by decide +kernel
theorem dL_two_43 : decode cL_two 43 = .ok (.iload 7, 2) := by decide +kernel
theorem dL_two_45 : decode cL_two 45 = .ok (.iload 8, 2) := by decide +kernel
theorem dL_two_47 : decode cL_two 47 = .ok (.invokevirtual 29, 3) := by decide +kernel
theorem dL_two_50 : decode cL_two 50 = .ok (.ldc 32, 2) := by decide +kernel
theorem dL_two_52 : decode cL_two 52 = .ok (.if_icmp .ne 7, 3) := by decide +kernel
theorem dL_two_55 : decode cL_two 55 = .ok (.iconst 1, 1) := by decide +kernel
theorem dL_two_56 : decode cL_two 56 = .ok (.goto 4, 3) := by decide +kernel
theorem dL_two_59 : decode cL_two 59 = .ok (.iconst 0, 1) := by decide +kernel
theorem dL_two_60 : decode cL_two 60 = .ok (.ireturn, 1) := by decide +kernel
theorem dL_two_61 : decode cL_two 61 = .ok (.aload 4, 2) := by decide +kernel
theorem dL_two_63 : decode cL_two 63 = .ok (.iconst 5, 1) := by decide +kernel
theorem dL_two_64 : decode cL_two 64 = .ok (.iload 7, 2) := by decide +kernel
theorem dL_two_66 : decode cL_two 66 = .ok (.imul, 1) := by decide +kernel
theorem dL_two_67 : decode cL_two 67 = .ok (.iconst 1, 1) := by decide +kernel
theorem dL_two_68 : decode cL_two 68 = .ok (.iadd, 1) := by decide +kernel
theorem dL_two_69 : decode cL_two 69 = .ok (.iaload, 1) := by decide +kernel
theorem dL_two_70 : decode cL_two 70 = .ok (.ifCond .lt 15, 3) := by decide +kernel
theorem dL_two_73 : decode cL_two 73 = .ok (.aload 4, 2) := by decide +kernel
theorem dL_two_75 : decode cL_two 75 = .ok (.iconst 5, 1) := by decide +kernel
theorem dL_two_76 : decode cL_two 76 = .ok (.iload 8, 2) := by decide +kernel
theorem dL_two_78 : decode cL_two 78 = .ok (.imul, 1) := by decide +kernel
theorem dL_two_79 : decode cL_two 79 = .ok (.iconst 1, 1) := by decide +kernel
theorem dL_two_80 : decode cL_two 80 = .ok (.iadd, 1) := by decide +kernel
theorem dL_two_81 : decode cL_two 81 = .ok (.iaload, 1) := by decide +kernel
theorem dL_two_82 : decode cL_two 82 = .ok (.ifCond .ge 38, 3) := by decide +kernel
theorem dL_two_85 : decode cL_two 85 = .ok (.iload 6, 2) := by decide +kernel
theorem dL_two_87 : decode cL_two 87 = .ok (.ifCond .eq 14, 3) := by decide +kernel
theorem dL_two_90 : decode cL_two 90 = .ok (.aload_n 0, 1) := by decide +kernel
theorem dL_two_91 : decode cL_two 91 = .ok (.iload 7, 2) := by decide +kernel
theorem dL_two_93 : decode cL_two 93 = .ok (.iload 8, 2) := by decide +kernel
theorem dL_two_95 : decode cL_two 95 = .ok (.invokevirtual 23, 3) := by decide +kernel
theorem dL_two_98 : decode cL_two 98 = .ok (.goto 11, 3) := by decide +kernel
theorem dL_two_101 : decode cL_two 101 = .ok (.aload_n 0, 1) := by decide +kernel
theorem dL_two_102 : decode cL_two 102 = .ok (.iload 7, 2) := by decide +kernel
theorem dL_two_104 : decode cL_two 104 = .ok (.iload 8, 2) := by decide +kernel
theorem dL_two_106 : decode cL_two 106 = .ok (.invokevirtual 29, 3) := by decide +kernel
theorem dL_two_109 : decode cL_two 109 = .ok (.ldc 33, 2) := by decide +kernel
theorem dL_two_111 : decode cL_two 111 = .ok (.if_icmp .ne 7, 3) := by decide +kernel
theorem dL_two_114 : decode cL_two 114 = .ok (.iconst 1, 1) := by decide +kernel
theorem dL_two_115 : decode cL_two 115 = .ok (.goto 4, 3) := by decide +kernel
theorem dL_two_118 : decode cL_two 118 = .ok (.iconst 0, 1) := by decide +kernel
theorem dL_two_119 : decode cL_two 119 = .ok (.ireturn, 1) := by decide +kernel
theorem dL_two_120 : decode cL_two 120 = .ok (.iload 6, 2) := by decide +kernel
theorem dL_two_122 : decode cL_two 122 = .ok (.ifCond .eq 7, 3) := by decide +kernel
theorem dL_two_125 : decode cL_two 125 = .ok (.iconst 1, 1) := by decide +kernel
theorem dL_two_126 : decode cL_two 126 = .ok (.goto 4, 3) := by decide +kernel
theorem dL_two_129 : decode cL_two 129 = .ok (.iconst 3, 1) := by decide +kernel
theorem dL_two_130 : decode cL_two 130 = .ok (.istore 9, 2) := by decide +kernel
theorem dL_two_132 : decode cL_two 132 = .ok (.aload 4, 2) := by decide +kernel
theorem dL_two_134 : decode cL_two 134 = .ok (.iconst 5, 1) := by decide +kernel
theorem dL_two_135 : decode cL_two 135 = .ok (.iload 7, 2) := by decide +kernel
theorem dL_two_137 : decode cL_two 137 = .ok (.imul, 1) := by decide +kernel
theorem dL_two_138 : decode cL_two 138 = .ok (.iload 9, 2) := by decide +kernel
theorem dL_two_140 : decode cL_two 140 = .ok (.iadd, 1) := by decide +kernel
theorem dL_two_141 : decode cL_two 141 = .ok (.iaload, 1) := by decide +kernel
theorem dL_two_142 : decode cL_two 142 = .ok (.istore 10, 2) := by decide +kernel
theorem dL_two_144 : decode cL_two 144 = .ok (.aload 4, 2) := by decide +kernel
theorem dL_two_146 : decode cL_two 146 = .ok (.iconst 5, 1) := by decide +kernel
theorem dL_two_147 : decode cL_two 147 = .ok (.iload 7, 2) := by decide +kernel
theorem dL_two_149 : decode cL_two 149 = .ok (.imul, 1) := by decide +kernel
theorem dL_two_150 : decode cL_two 150 = .ok (.iload 9, 2) := by decide +kernel
theorem dL_two_152 : decode cL_two 152 = .ok (.iadd, 1) := by decide +kernel
theorem dL_two_153 : decode cL_two 153 = .ok (.aload 4, 2) := by decide +kernel
theorem dL_two_155 : decode cL_two 155 = .ok (.iconst 5, 1) := by decide +kernel
theorem dL_two_156 : decode cL_two 156 = .ok (.iload 8, 2) := by decide +kernel
theorem dL_two_158 : decode cL_two 158 = .ok (.imul, 1) := by decide +kernel
theorem dL_two_159 : decode cL_two 159 = .ok (.iload 9, 2) := by decide +kernel
theorem dL_two_161 : decode cL_two 161 = .ok (.iadd, 1) := by decide +kernel
theorem dL_two_162 : decode cL_two 162 = .ok (.iaload, 1) := by decide +kernel
theorem dL_two_163 : decode cL_two 163 = .ok (.iastore, 1) := by decide +kernel
theorem dL_two_164 : decode cL_two 164 = .ok (.aload 4, 2) := by decide +kernel
theorem dL_two_166 : decode cL_two 166 = .ok (.iconst 5, 1) := by decide +kernel
theorem dL_two_167 : decode cL_two 167 = .ok (.iload 8, 2) := by decide +kernel
theorem dL_two_169 : decode cL_two 169 = .ok (.imul, 1) := by decide +kernel
theorem dL_two_170 : decode cL_two 170 = .ok (.iload 9, 2) := by decide +kernel
theorem dL_two_172 : decode cL_two 172 = .ok (.iadd, 1) := by decide +kernel
theorem dL_two_173 : decode cL_two 173 = .ok (.iload 10, 2) := by decide +kernel
theorem dL_two_175 : decode cL_two 175 = .ok (.iastore, 1) := by decide +kernel
theorem dL_two_176 : decode cL_two 176 = .ok (.aload 4, 2) := by decide +kernel
theorem dL_two_178 : decode cL_two 178 = .ok (.iconst 5, 1) := by decide +kernel
theorem dL_two_179 : decode cL_two 179 = .ok (.iload 7, 2) := by decide +kernel
theorem dL_two_181 : decode cL_two 181 = .ok (.imul, 1) := by decide +kernel
theorem dL_two_182 : decode cL_two 182 = .ok (.iconst 4, 1) := by decide +kernel
theorem dL_two_183 : decode cL_two 183 = .ok (.iadd, 1) := by decide +kernel
theorem dL_two_184 : decode cL_two 184 = .ok (.dup2, 1) := by decide +kernel
theorem dL_two_185 : decode cL_two 185 = .ok (.iaload, 1) := by decide +kernel
theorem dL_two_186 : decode cL_two 186 = .ok (.iload 6, 2) := by decide +kernel
theorem dL_two_188 : decode cL_two 188 = .ok (.ifCond .eq 7, 3) := by decide +kernel
theorem dL_two_191 : decode cL_two 191 = .ok (.iconst 0, 1) := by decide +kernel
theorem dL_two_192 : decode cL_two 192 = .ok (.goto 4, 3) := by decide +kernel
theorem dL_two_195 : decode cL_two 195 = .ok (.iconst 1, 1) := by decide +kernel
theorem dL_two_196 : decode cL_two 196 = .ok (.iadd, 1) := by decide +kernel
theorem dL_two_197 : decode cL_two 197 = .ok (.iastore, 1) := by decide +kernel
theorem dL_two_198 : decode cL_two 198 = .ok (.aload 4, 2) := by decide +kernel
theorem dL_two_200 : decode cL_two 200 = .ok (.iconst 5, 1) := by decide +kernel
theorem dL_two_201 : decode cL_two 201 = .ok (.iload 8, 2) := by decide +kernel
theorem dL_two_203 : decode cL_two 203 = .ok (.imul, 1) := by decide +kernel
theorem dL_two_204 : decode cL_two 204 = .ok (.iconst 4, 1) := by decide +kernel
theorem dL_two_205 : decode cL_two 205 = .ok (.iadd, 1) := by decide +kernel
theorem dL_two_206 : decode cL_two 206 = .ok (.dup2, 1) := by decide +kernel
theorem dL_two_207 : decode cL_two 207 = .ok (.iaload, 1) := by decide +kernel
theorem dL_two_208 : decode cL_two 208 = .ok (.iload 6, 2) := by decide +kernel
theorem dL_two_210 : decode cL_two 210 = .ok (.ifCond .eq 7, 3) := by decide +kernel
theorem dL_two_213 : decode cL_two 213 = .ok (.iconst 0, 1) := by decide +kernel
theorem dL_two_214 : decode cL_two 214 = .ok (.goto 4, 3) := by decide +kernel
theorem dL_two_217 : decode cL_two 217 = .ok (.iconst 1, 1) := by decide +kernel
theorem dL_two_218 : decode cL_two 218 = .ok (.iadd, 1) := by decide +kernel
theorem dL_two_219 : decode cL_two 219 = .ok (.iastore, 1) := by decide +kernel
theorem dL_two_220 : decode cL_two 220 = .ok (.iload 6, 2) := by decide +kernel
theorem dL_two_222 : decode cL_two 222 = .ok (.ifCond .eq 14, 3) := by decide +kernel
theorem dL_two_225 : decode cL_two 225 = .ok (.aload_n 0, 1) := by decide +kernel
theorem dL_two_226 : decode cL_two 226 = .ok (.iload 7, 2) := by decide +kernel
theorem dL_two_228 : decode cL_two 228 = .ok (.iload 8, 2) := by decide +kernel
theorem dL_two_230 : decode cL_two 230 = .ok (.invokevirtual 23, 3) := by decide +kernel
theorem dL_two_233 : decode cL_two 233 = .ok (.goto 11, 3) := by decide +kernel
theorem dL_two_236 : decode cL_two 236 = .ok (.aload_n 0, 1) := by decide +kernel
theorem dL_two_237 : decode cL_two 237 = .ok (.iload 7, 2) := by decide +kernel
theorem dL_two_239 : decode cL_two 239 = .ok (.iload 8, 2) := by decide +kernel
theorem dL_two_241 : decode cL_two 241 = .ok (.invokevirtual 29, 3) := by decide +kernel
theorem dL_two_244 : decode cL_two 244 = .ok (.aload_n 1, 1) := by decide +kernel
theorem dL_two_245 : decode cL_two 245 = .ok (.aload_n 2, 1) := by decide +kernel
theorem dL_two_246 : decode cL_two 246 = .ok (.aload_n 3, 1) := by decide +kernel
theorem dL_two_247 : decode cL_two 247 = .ok (.aload 4, 2) := by decide +kernel
theorem dL_two_249 : decode cL_two 249 = .ok (.invokestatic 34, 3) := by decide +kernel
theorem dL_two_252 : decode cL_two 252 = .ok (.if_icmp .ne 7, 3) := by decide +kernel
theorem dL_two_255 : decode cL_two 255 = .ok (.iconst 1, 1) := by decide +kernel
theorem dL_two_256 : decode cL_two 256 = .ok (.goto 4, 3) := by decide +kernel
theorem dL_two_259 : decode cL_two 259 = .ok (.iconst 0, 1) := by decide +kernel
theorem dL_two_260 : decode cL_two 260 = .ok (.ireturn, 1) := by decide +kernel
set_option maxRecDepth 20000 in
theorem ggL_clerk_X1_bill : GoodIn wsL_clerk wsX1_bill := goodIn_r _ [6, 7, 8, 9, 10, 11, 12, 13, 14, 15, 16, 17, 5, 18, 19, 20, 21, 22, 23, 24, 25, 26, 27, 28, 29, 30, 31, 32, 33, 34, 35, 36, 37, 38, 39, 40, 41, 42, 43, 44, 45, 46, 47, 48, 49, 50, 51, 52, 53, 54, 55, 56, 57, 58, 59, 60, 61, 62, 63, 64, 65, 66, 67, 68, 69, 70, 71, 72, 73, 74, 75, 76, 77, 78, 79, 80, 81, 82, 83, 84, 85, 86, 87, 88, 89, 90, 91, 92, 93, 94, 95, 96, 97, 98, 99, 100, 101, 102, 103, 104, 105, 106, 107, 108, 109, 110, 111, 112, 113, 114, 115, 116, 117, 118, 119, 120, 121, 122, 123, 124, 125, 126, 127, 128, 129, 130, 131, 132, 133, 158, 159, 160, 161, 162, 163, 164, 165, 166, 167, 168, 169, 170, 171, 172, 173, 174, 175, 176, 177, 178, 179] (by decide +kernel) (by decide +kernel)
set_option maxRecDepth 20000 in
theorem gL_clerk_X1_bill : GoodIn wsL_clerk (wsV RL 38 RX1 yX1_bill wsX1_bill) := goodIn_app (goodIn_of _ (by decide +kernel)) ggL_clerk_X1_bill
set_option maxRecDepth 20000 in
theorem ggL_clerk_L_estimate : GoodIn wsL_clerk wsL_estimate := goodIn_r _ [137, 138, 139, 136, 140, 141, 142, 143] (by decide +kernel) (by decide +kernel)
set_option maxRecDepth 20000 in
theorem gL_clerk_L_estimate : GoodIn wsL_clerk (va_wsS RL 42 yL_estimate wsL_estimate) := goodIn_app (goodIn_of _ (by decide +kernel)) ggL_clerk_L_estimate
set_option maxRecDepth 20000 in
theorem ggL_clerk_L_certainty : GoodIn wsL_clerk wsL_certainty := goodIn_r _ [146, 147, 148, 136, 149, 138, 139, 140] (by decide +kernel) (by decide +kernel)
set_option maxRecDepth 20000 in
theorem gL_clerk_L_certainty : GoodIn wsL_clerk (va_wsS RL 46 yL_certainty wsL_certainty) := goodIn_app (goodIn_of _ (by decide +kernel)) ggL_clerk_L_certainty
set_option maxRecDepth 20000 in
theorem ggL_clerk_L_gets : GoodIn wsL_clerk wsL_gets := goodIn_r _ [143, 138, 139, 136, 140] (by decide +kernel) (by decide +kernel)
set_option maxRecDepth 20000 in
theorem gL_clerk_L_gets : GoodIn wsL_clerk (va_wsS RL 15 yL_gets wsL_gets) := goodIn_app (goodIn_of _ (by decide +kernel)) ggL_clerk_L_gets
set_option maxRecDepth 20000 in
theorem ggL_clerk_X1_complain : GoodIn wsL_clerk wsX1_complain := goodIn_r _ [153, 7, 8, 9, 10, 130, 11, 90, 75, 76, 64, 77, 15, 16, 17, 5, 18, 19, 20, 21, 22, 23, 24, 25, 26, 27, 28, 29, 30, 31, 32, 33, 34, 35, 36, 37, 38, 39, 40, 41, 42, 43, 44, 45, 46, 47, 48, 49, 50, 51, 52, 53, 54, 55, 56, 57, 58, 59, 60, 61, 62, 63, 65, 66, 67, 68, 69, 154, 155, 156, 157, 12, 131, 132, 133, 158, 159, 160, 161, 162, 163, 164, 165, 166, 167, 168, 169, 170, 171, 172, 173, 174, 175, 176, 177, 178, 179] (by decide +kernel) (by decide +kernel)
set_option maxRecDepth 20000 in
theorem gL_clerk_X1_complain : GoodIn wsL_clerk (wsV RL 50 RX1 yX1_complain wsX1_complain) := goodIn_app (goodIn_of _ (by decide +kernel)) ggL_clerk_X1_complain
theorem dL_clerk_0 : decode cL_clerk 0 = .ok (.iload 8, 2) := by decide +kernel
theorem dL_clerk_2 : decode cL_clerk 2 = .ok (.ifCond .eq 252, 3) := by decide +kernel
theorem dL_clerk_5 : decode cL_clerk 5 = .ok (.aload 5, 2) := by decide +kernel
theorem dL_clerk_7 : decode cL_clerk 7 = .ok (.iconst 5, 1) := by decide +kernel
theorem dL_clerk_8 : decode cL_clerk 8 = .ok (.iload 7, 2) := by decide +kernel
theorem dL_clerk_10 : decode cL_clerk 10 = .ok (.imul, 1) := by decide +kernel
theorem dL_clerk_11 : decode cL_clerk 11 = .ok (.iconst 1, 1) := by decide +kernel
theorem dL_clerk_12 : decode cL_clerk 12 = .ok (.iadd, 1) := by decide +kernel
theorem dL_clerk_13 : decode cL_clerk 13 = .ok (.iaload, 1) := by decide +kernel
theorem dL_clerk_14 : decode cL_clerk 14 = .ok (.ifCond .lt 13, 3) := by decide +kernel
theorem dL_clerk_17 : decode cL_clerk 17 = .ok (.aload 6, 2) := by decide +kernel
theorem dL_clerk_19 : decode cL_clerk 19 = .ok (.iconst 5, 1) := by decide +kernel
theorem dL_clerk_20 : decode cL_clerk 20 = .ok (.iload 7, 2) := by decide +kernel
theorem dL_clerk_22 : decode cL_clerk 22 = .ok (.imul, 1) := by decide +kernel
theorem dL_clerk_23 : decode cL_clerk 23 = .ok (.iaload, 1) := by decide +kernel
theorem dL_clerk_24 : decode cL_clerk 24 = .ok (.ifCond .lt 20, 3) := by decide +kernel
theorem dL_clerk_27 : decode cL_clerk 27 = .ok (.aload_n 0, 1) := by decide +kernel
theorem dL_clerk_28 : decode cL_clerk 28 = .ok (.iload 7, 2) := by decide +kernel
theorem dL_clerk_30 : decode cL_clerk 30 = .ok (.invokevirtual 38, 3) := by decide +kernel
theorem dL_clerk_33 : decode cL_clerk 33 = .ok (.ldc 33, 2) := by decide +kernel
theorem dL_clerk_35 : decode cL_clerk 35 = .ok (.if_icmp .ne 7, 3) := by decide +kernel
theorem dL_clerk_38 : decode cL_clerk 38 = .ok (.iconst 1, 1) := by decide +kernel
theorem dL_clerk_39 : decode cL_clerk 39 = .ok (.goto 4, 3) := by decide +kernel
theorem dL_clerk_42 : decode cL_clerk 42 = .ok (.iconst 0, 1) := by decide +kernel
theorem dL_clerk_43 : decode cL_clerk 43 = .ok (.ireturn, 1) := by decide +kernel
theorem dL_clerk_44 : decode cL_clerk 44 = .ok (.aload_n 1, 1) := by decide +kernel
theorem dL_clerk_45 : decode cL_clerk 45 = .ok (.aload_n 2, 1) := by decide +kernel
theorem dL_clerk_46 : decode cL_clerk 46 = .ok (.aload_n 3, 1) := by decide +kernel
theorem dL_clerk_47 : decode cL_clerk 47 = .ok (.aload 5, 2) := by decide +kernel
theorem dL_clerk_49 : decode cL_clerk 49 = .ok (.iload 7, 2) := by decide +kernel
theorem dL_clerk_51 : decode cL_clerk 51 = .ok (.invokestatic 42, 3) := by decide +kernel
theorem dL_clerk_54 : decode cL_clerk 54 = .ok (.aload_n 1, 1) := by decide +kernel
theorem dL_clerk_55 : decode cL_clerk 55 = .ok (.aload 4, 2) := by decide +kernel
theorem dL_clerk_57 : decode cL_clerk 57 = .ok (.aload 5, 2) := by decide +kernel
theorem dL_clerk_59 : decode cL_clerk 59 = .ok (.iload 7, 2) := by decide +kernel
theorem dL_clerk_61 : decode cL_clerk 61 = .ok (.invokestatic 46, 3) := by decide +kernel
theorem dL_clerk_64 : decode cL_clerk 64 = .ok (.imul, 1) := by decide +kernel
theorem dL_clerk_65 : decode cL_clerk 65 = .ok (.bipush 100, 2) := by decide +kernel
theorem dL_clerk_67 : decode cL_clerk 67 = .ok (.idiv, 1) := by decide +kernel
theorem dL_clerk_68 : decode cL_clerk 68 = .ok (.istore 9, 2) := by decide +kernel
theorem dL_clerk_70 : decode cL_clerk 70 = .ok (.iconst 0, 1) := by decide +kernel
theorem dL_clerk_71 : decode cL_clerk 71 = .ok (.istore 10, 2) := by decide +kernel
theorem dL_clerk_73 : decode cL_clerk 73 = .ok (.iconst 0, 1) := by decide +kernel
theorem dL_clerk_74 : decode cL_clerk 74 = .ok (.istore 11, 2) := by decide +kernel
theorem dL_clerk_76 : decode cL_clerk 76 = .ok (.iload 11, 2) := by decide +kernel
theorem dL_clerk_78 : decode cL_clerk 78 = .ok (.bipush 24, 2) := by decide +kernel
theorem dL_clerk_80 : decode cL_clerk 80 = .ok (.if_icmp .ge 34, 3) := by decide +kernel
theorem dL_clerk_83 : decode cL_clerk 83 = .ok (.iload 10, 2) := by decide +kernel
theorem dL_clerk_85 : decode cL_clerk 85 = .ok (.aload_n 1, 1) := by decide +kernel
theorem dL_clerk_86 : decode cL_clerk 86 = .ok (.aload 5, 2) := by decide +kernel
theorem dL_clerk_88 : decode cL_clerk 88 = .ok (.iload 11, 2) := by decide +kernel
theorem dL_clerk_90 : decode cL_clerk 90 = .ok (.iconst 0, 1) := by decide +kernel
theorem dL_clerk_91 : decode cL_clerk 91 = .ok (.iconst (-1), 1) := by decide +kernel
theorem dL_clerk_92 : decode cL_clerk 92 = .ok (.invokestatic 15, 3) := by decide +kernel
theorem dL_clerk_95 : decode cL_clerk 95 = .ok (.aload_n 2, 1) := by decide +kernel
theorem dL_clerk_96 : decode cL_clerk 96 = .ok (.iload 11, 2) := by decide +kernel
theorem dL_clerk_98 : decode cL_clerk 98 = .ok (.iaload, 1) := by decide +kernel
theorem dL_clerk_99 : decode cL_clerk 99 = .ok (.iadd, 1) := by decide +kernel
theorem dL_clerk_100 : decode cL_clerk 100 = .ok (.aload_n 3, 1) := by decide +kernel
theorem dL_clerk_101 : decode cL_clerk 101 = .ok (.iload 11, 2) := by decide +kernel
theorem dL_clerk_103 : decode cL_clerk 103 = .ok (.iaload, 1) := by decide +kernel
theorem dL_clerk_104 : decode cL_clerk 104 = .ok (.isub, 1) := by decide +kernel
theorem dL_clerk_105 : decode cL_clerk 105 = .ok (.iadd, 1) := by decide +kernel
theorem dL_clerk_106 : decode cL_clerk 106 = .ok (.istore 10, 2) := by decide +kernel
theorem dL_clerk_108 : decode cL_clerk 108 = .ok (.iinc 11 1, 3) := by decide +kernel
theorem dL_clerk_111 : decode cL_clerk 111 = .ok (.goto (-35), 3) := by decide +kernel
theorem dL_clerk_114 : decode cL_clerk 114 = .ok (.iload 10, 2) := by decide +kernel
theorem dL_clerk_116 : decode cL_clerk 116 = .ok (.aload_n 1, 1) := by decide +kernel
theorem dL_clerk_117 : decode cL_clerk 117 = .ok (.iconst 3, 1) := by decide +kernel
theorem dL_clerk_118 : decode cL_clerk 118 = .ok (.iaload, 1) := by decide +kernel
theorem dL_clerk_119 : decode cL_clerk 119 = .ok (.isub, 1) := by decide +kernel
theorem dL_clerk_120 : decode cL_clerk 120 = .ok (.istore 11, 2) := by decide +kernel
theorem dL_clerk_122 : decode cL_clerk 122 = .ok (.iload 9, 2) := by decide +kernel
theorem dL_clerk_124 : decode cL_clerk 124 = .ok (.iload 11, 2) := by decide +kernel
theorem dL_clerk_126 : decode cL_clerk 126 = .ok (.if_icmp .le 8, 3) := by decide +kernel
theorem dL_clerk_129 : decode cL_clerk 129 = .ok (.iload 11, 2) := by decide +kernel
theorem dL_clerk_131 : decode cL_clerk 131 = .ok (.goto 5, 3) := by decide +kernel
theorem dL_clerk_134 : decode cL_clerk 134 = .ok (.iload 9, 2) := by decide +kernel
theorem dL_clerk_136 : decode cL_clerk 136 = .ok (.istore 9, 2) := by decide +kernel
theorem dL_clerk_138 : decode cL_clerk 138 = .ok (.iload 9, 2) := by decide +kernel
theorem dL_clerk_140 : decode cL_clerk 140 = .ok (.ifCond .ge 7, 3) := by decide +kernel
theorem dL_clerk_143 : decode cL_clerk 143 = .ok (.iconst 0, 1) := by decide +kernel
theorem dL_clerk_144 : decode cL_clerk 144 = .ok (.goto 5, 3) := by decide +kernel
theorem dL_clerk_147 : decode cL_clerk 147 = .ok (.iload 9, 2) := by decide +kernel
theorem dL_clerk_149 : decode cL_clerk 149 = .ok (.istore 9, 2) := by decide +kernel
theorem dL_clerk_151 : decode cL_clerk 151 = .ok (.aload 6, 2) := by decide +kernel
theorem dL_clerk_153 : decode cL_clerk 153 = .ok (.iconst 5, 1) := by decide +kernel
theorem dL_clerk_154 : decode cL_clerk 154 = .ok (.iload 7, 2) := by decide +kernel
theorem dL_clerk_156 : decode cL_clerk 156 = .ok (.imul, 1) := by decide +kernel
theorem dL_clerk_157 : decode cL_clerk 157 = .ok (.iload 9, 2) := by decide +kernel
theorem dL_clerk_159 : decode cL_clerk 159 = .ok (.iastore, 1) := by decide +kernel
theorem dL_clerk_160 : decode cL_clerk 160 = .ok (.aload 6, 2) := by decide +kernel
theorem dL_clerk_162 : decode cL_clerk 162 = .ok (.iconst 5, 1) := by decide +kernel
theorem dL_clerk_163 : decode cL_clerk 163 = .ok (.iload 7, 2) := by decide +kernel
theorem dL_clerk_165 : decode cL_clerk 165 = .ok (.imul, 1) := by decide +kernel
theorem dL_clerk_166 : decode cL_clerk 166 = .ok (.iconst 1, 1) := by decide +kernel
theorem dL_clerk_167 : decode cL_clerk 167 = .ok (.iadd, 1) := by decide +kernel
theorem dL_clerk_168 : decode cL_clerk 168 = .ok (.iload 9, 2) := by decide +kernel
theorem dL_clerk_170 : decode cL_clerk 170 = .ok (.aload_n 1, 1) := by decide +kernel
theorem dL_clerk_171 : decode cL_clerk 171 = .ok (.iconst 2, 1) := by decide +kernel
theorem dL_clerk_172 : decode cL_clerk 172 = .ok (.iaload, 1) := by decide +kernel
theorem dL_clerk_173 : decode cL_clerk 173 = .ok (.imul, 1) := by decide +kernel
theorem dL_clerk_174 : decode cL_clerk 174 = .ok (.iastore, 1) := by decide +kernel
theorem dL_clerk_175 : decode cL_clerk 175 = .ok (.aload 6, 2) := by decide +kernel
theorem dL_clerk_177 : decode cL_clerk 177 = .ok (.iconst 5, 1) := by decide +kernel
theorem dL_clerk_178 : decode cL_clerk 178 = .ok (.iload 7, 2) := by decide +kernel
theorem dL_clerk_180 : decode cL_clerk 180 = .ok (.imul, 1) := by decide +kernel
theorem dL_clerk_181 : decode cL_clerk 181 = .ok (.iconst 3, 1) := by decide +kernel
theorem dL_clerk_182 : decode cL_clerk 182 = .ok (.iadd, 1) := by decide +kernel
theorem dL_clerk_183 : decode cL_clerk 183 = .ok (.aload_n 1, 1) := by decide +kernel
theorem dL_clerk_184 : decode cL_clerk 184 = .ok (.iconst 2, 1) := by decide +kernel
theorem dL_clerk_185 : decode cL_clerk 185 = .ok (.iaload, 1) := by decide +kernel
theorem dL_clerk_186 : decode cL_clerk 186 = .ok (.iastore, 1) := by decide +kernel
theorem dL_clerk_187 : decode cL_clerk 187 = .ok (.aload 5, 2) := by decide +kernel
theorem dL_clerk_189 : decode cL_clerk 189 = .ok (.iconst 5, 1) := by decide +kernel
theorem dL_clerk_190 : decode cL_clerk 190 = .ok (.iload 7, 2) := by decide +kernel
theorem dL_clerk_192 : decode cL_clerk 192 = .ok (.imul, 1) := by decide +kernel
theorem dL_clerk_193 : decode cL_clerk 193 = .ok (.iconst 2, 1) := by decide +kernel
theorem dL_clerk_194 : decode cL_clerk 194 = .ok (.iadd, 1) := by decide +kernel
theorem dL_clerk_195 : decode cL_clerk 195 = .ok (.iload 9, 2) := by decide +kernel
theorem dL_clerk_197 : decode cL_clerk 197 = .ok (.bipush 19, 2) := by decide +kernel
theorem dL_clerk_199 : decode cL_clerk 199 = .ok (.if_icmp .le 8, 3) := by decide +kernel
theorem dL_clerk_202 : decode cL_clerk 202 = .ok (.iload 9, 2) := by decide +kernel
theorem dL_clerk_204 : decode cL_clerk 204 = .ok (.goto 12, 3) := by decide +kernel
theorem dL_clerk_207 : decode cL_clerk 207 = .ok (.aload 5, 2) := by decide +kernel
theorem dL_clerk_209 : decode cL_clerk 209 = .ok (.iconst 5, 1) := by decide +kernel
theorem dL_clerk_210 : decode cL_clerk 210 = .ok (.iload 7, 2) := by decide +kernel
theorem dL_clerk_212 : decode cL_clerk 212 = .ok (.imul, 1) := by decide +kernel
theorem dL_clerk_213 : decode cL_clerk 213 = .ok (.iconst 2, 1) := by decide +kernel
theorem dL_clerk_214 : decode cL_clerk 214 = .ok (.iadd, 1) := by decide +kernel
theorem dL_clerk_215 : decode cL_clerk 215 = .ok (.iaload, 1) := by decide +kernel
theorem dL_clerk_216 : decode cL_clerk 216 = .ok (.iastore, 1) := by decide +kernel
theorem dL_clerk_217 : decode cL_clerk 217 = .ok (.aload_n 1, 1) := by decide +kernel
theorem dL_clerk_218 : decode cL_clerk 218 = .ok (.iconst 3, 1) := by decide +kernel
theorem dL_clerk_219 : decode cL_clerk 219 = .ok (.dup2, 1) := by decide +kernel
theorem dL_clerk_220 : decode cL_clerk 220 = .ok (.iaload, 1) := by decide +kernel
theorem dL_clerk_221 : decode cL_clerk 221 = .ok (.iload 9, 2) := by decide +kernel
theorem dL_clerk_223 : decode cL_clerk 223 = .ok (.iadd, 1) := by decide +kernel
theorem dL_clerk_224 : decode cL_clerk 224 = .ok (.iastore, 1) := by decide +kernel
theorem dL_clerk_225 : decode cL_clerk 225 = .ok (.aload_n 1, 1) := by decide +kernel
theorem dL_clerk_226 : decode cL_clerk 226 = .ok (.iconst 4, 1) := by decide +kernel
theorem dL_clerk_227 : decode cL_clerk 227 = .ok (.dup2, 1) := by decide +kernel
theorem dL_clerk_228 : decode cL_clerk 228 = .ok (.iaload, 1) := by decide +kernel
theorem dL_clerk_229 : decode cL_clerk 229 = .ok (.iload 9, 2) := by decide +kernel
theorem dL_clerk_231 : decode cL_clerk 231 = .ok (.aload_n 1, 1) := by decide +kernel
theorem dL_clerk_232 : decode cL_clerk 232 = .ok (.iconst 2, 1) := by decide +kernel
theorem dL_clerk_233 : decode cL_clerk 233 = .ok (.iaload, 1) := by decide +kernel
theorem dL_clerk_234 : decode cL_clerk 234 = .ok (.imul, 1) := by decide +kernel
theorem dL_clerk_235 : decode cL_clerk 235 = .ok (.iadd, 1) := by decide +kernel
theorem dL_clerk_236 : decode cL_clerk 236 = .ok (.iastore, 1) := by decide +kernel
theorem dL_clerk_237 : decode cL_clerk 237 = .ok (.aload_n 0, 1) := by decide +kernel
theorem dL_clerk_238 : decode cL_clerk 238 = .ok (.iload 7, 2) := by decide +kernel
theorem dL_clerk_240 : decode cL_clerk 240 = .ok (.invokevirtual 38, 3) := by decide +kernel
theorem dL_clerk_243 : decode cL_clerk 243 = .ok (.iload 9, 2) := by decide +kernel
theorem dL_clerk_245 : decode cL_clerk 245 = .ok (.if_icmp .ne 7, 3) := by decide +kernel
theorem dL_clerk_248 : decode cL_clerk 248 = .ok (.iconst 1, 1) := by decide +kernel
theorem dL_clerk_249 : decode cL_clerk 249 = .ok (.goto 4, 3) := by decide +kernel
theorem dL_clerk_252 : decode cL_clerk 252 = .ok (.iconst 0, 1) := by decide +kernel
theorem dL_clerk_253 : decode cL_clerk 253 = .ok (.ireturn, 1) := by decide +kernel
theorem dL_clerk_254 : decode cL_clerk 254 = .ok (.aload 5, 2) := by decide +kernel
theorem dL_clerk_256 : decode cL_clerk 256 = .ok (.iconst 5, 1) := by decide +kernel
theorem dL_clerk_257 : decode cL_clerk 257 = .ok (.iload 7, 2) := by decide +kernel
theorem dL_clerk_259 : decode cL_clerk 259 = .ok (.imul, 1) := by decide +kernel
theorem dL_clerk_260 : decode cL_clerk 260 = .ok (.iconst 1, 1) := by decide +kernel
theorem dL_clerk_261 : decode cL_clerk 261 = .ok (.iadd, 1) := by decide +kernel
theorem dL_clerk_262 : decode cL_clerk 262 = .ok (.iaload, 1) := by decide +kernel
theorem dL_clerk_263 : decode cL_clerk 263 = .ok (.ifCond .ge 26, 3) := by decide +kernel
theorem dL_clerk_266 : decode cL_clerk 266 = .ok (.aload 6, 2) := by decide +kernel
theorem dL_clerk_268 : decode cL_clerk 268 = .ok (.iconst 5, 1) := by decide +kernel
theorem dL_clerk_269 : decode cL_clerk 269 = .ok (.iload 7, 2) := by decide +kernel
theorem dL_clerk_271 : decode cL_clerk 271 = .ok (.imul, 1) := by decide +kernel
theorem dL_clerk_272 : decode cL_clerk 272 = .ok (.iaload, 1) := by decide +kernel
theorem dL_clerk_273 : decode cL_clerk 273 = .ok (.ifCond .lt 16, 3) := by decide +kernel
theorem dL_clerk_276 : decode cL_clerk 276 = .ok (.aload 6, 2) := by decide +kernel
theorem dL_clerk_278 : decode cL_clerk 278 = .ok (.iconst 5, 1) := by decide +kernel
theorem dL_clerk_279 : decode cL_clerk 279 = .ok (.iload 7, 2) := by decide +kernel
theorem dL_clerk_281 : decode cL_clerk 281 = .ok (.imul, 1) := by decide +kernel
theorem dL_clerk_282 : decode cL_clerk 282 = .ok (.iconst 4, 1) := by decide +kernel
theorem dL_clerk_283 : decode cL_clerk 283 = .ok (.iadd, 1) := by decide +kernel
theorem dL_clerk_284 : decode cL_clerk 284 = .ok (.iaload, 1) := by decide +kernel
theorem dL_clerk_285 : decode cL_clerk 285 = .ok (.iconst 1, 1) := by decide +kernel
theorem dL_clerk_286 : decode cL_clerk 286 = .ok (.if_icmp .ne 20, 3) := by decide +kernel
theorem dL_clerk_289 : decode cL_clerk 289 = .ok (.aload_n 0, 1) := by decide +kernel
theorem dL_clerk_290 : decode cL_clerk 290 = .ok (.iload 7, 2) := by decide +kernel
theorem dL_clerk_292 : decode cL_clerk 292 = .ok (.invokevirtual 50, 3) := by decide +kernel
theorem dL_clerk_295 : decode cL_clerk 295 = .ok (.ldc 33, 2) := by decide +kernel
theorem dL_clerk_297 : decode cL_clerk 297 = .ok (.if_icmp .ne 7, 3) := by decide +kernel
theorem dL_clerk_300 : decode cL_clerk 300 = .ok (.iconst 1, 1) := by decide +kernel
theorem dL_clerk_301 : decode cL_clerk 301 = .ok (.goto 4, 3) := by decide +kernel
theorem dL_clerk_304 : decode cL_clerk 304 = .ok (.iconst 0, 1) := by decide +kernel
theorem dL_clerk_305 : decode cL_clerk 305 = .ok (.ireturn, 1) := by decide +kernel
theorem dL_clerk_306 : decode cL_clerk 306 = .ok (.aload 6, 2) := by decide +kernel
theorem dL_clerk_308 : decode cL_clerk 308 = .ok (.iconst 5, 1) := by decide +kernel
theorem dL_clerk_309 : decode cL_clerk 309 = .ok (.iload 7, 2) := by decide +kernel
theorem dL_clerk_311 : decode cL_clerk 311 = .ok (.imul, 1) := by decide +kernel
theorem dL_clerk_312 : decode cL_clerk 312 = .ok (.iaload, 1) := by decide +kernel
theorem dL_clerk_313 : decode cL_clerk 313 = .ok (.aload 5, 2) := by decide +kernel
theorem dL_clerk_315 : decode cL_clerk 315 = .ok (.iconst 5, 1) := by decide +kernel
theorem dL_clerk_316 : decode cL_clerk 316 = .ok (.iload 7, 2) := by decide +kernel
theorem dL_clerk_318 : decode cL_clerk 318 = .ok (.imul, 1) := by decide +kernel
theorem dL_clerk_319 : decode cL_clerk 319 = .ok (.iaload, 1) := by decide +kernel
theorem dL_clerk_320 : decode cL_clerk 320 = .ok (.if_icmp .le 21, 3) := by decide +kernel
theorem dL_clerk_323 : decode cL_clerk 323 = .ok (.aload 6, 2) := by decide +kernel
theorem dL_clerk_325 : decode cL_clerk 325 = .ok (.iconst 5, 1) := by decide +kernel
theorem dL_clerk_326 : decode cL_clerk 326 = .ok (.iload 7, 2) := by decide +kernel
theorem dL_clerk_328 : decode cL_clerk 328 = .ok (.imul, 1) := by decide +kernel
theorem dL_clerk_329 : decode cL_clerk 329 = .ok (.iaload, 1) := by decide +kernel
theorem dL_clerk_330 : decode cL_clerk 330 = .ok (.aload 5, 2) := by decide +kernel
theorem dL_clerk_332 : decode cL_clerk 332 = .ok (.iconst 5, 1) := by decide +kernel
theorem dL_clerk_333 : decode cL_clerk 333 = .ok (.iload 7, 2) := by decide +kernel
theorem dL_clerk_335 : decode cL_clerk 335 = .ok (.imul, 1) := by decide +kernel
theorem dL_clerk_336 : decode cL_clerk 336 = .ok (.iaload, 1) := by decide +kernel
theorem dL_clerk_337 : decode cL_clerk 337 = .ok (.isub, 1) := by decide +kernel
theorem dL_clerk_338 : decode cL_clerk 338 = .ok (.goto 4, 3) := by decide +kernel
theorem dL_clerk_341 : decode cL_clerk 341 = .ok (.iconst 0, 1) := by decide +kernel
theorem dL_clerk_342 : decode cL_clerk 342 = .ok (.istore 9, 2) := by decide +kernel
theorem dL_clerk_344 : decode cL_clerk 344 = .ok (.aload 6, 2) := by decide +kernel
theorem dL_clerk_346 : decode cL_clerk 346 = .ok (.iconst 5, 1) := by decide +kernel
theorem dL_clerk_347 : decode cL_clerk 347 = .ok (.iload 7, 2) := by decide +kernel
theorem dL_clerk_349 : decode cL_clerk 349 = .ok (.imul, 1) := by decide +kernel
theorem dL_clerk_350 : decode cL_clerk 350 = .ok (.iconst 4, 1) := by decide +kernel
theorem dL_clerk_351 : decode cL_clerk 351 = .ok (.iadd, 1) := by decide +kernel
theorem dL_clerk_352 : decode cL_clerk 352 = .ok (.iconst 1, 1) := by decide +kernel
theorem dL_clerk_353 : decode cL_clerk 353 = .ok (.iastore, 1) := by decide +kernel
theorem dL_clerk_354 : decode cL_clerk 354 = .ok (.aload 6, 2) := by decide +kernel
theorem dL_clerk_356 : decode cL_clerk 356 = .ok (.iconst 5, 1) := by decide +kernel
theorem dL_clerk_357 : decode cL_clerk 357 = .ok (.iload 7, 2) := by decide +kernel
theorem dL_clerk_359 : decode cL_clerk 359 = .ok (.imul, 1) := by decide +kernel
theorem dL_clerk_360 : decode cL_clerk 360 = .ok (.iconst 2, 1) := by decide +kernel
theorem dL_clerk_361 : decode cL_clerk 361 = .ok (.iadd, 1) := by decide +kernel
theorem dL_clerk_362 : decode cL_clerk 362 = .ok (.iload 9, 2) := by decide +kernel
theorem dL_clerk_364 : decode cL_clerk 364 = .ok (.aload 6, 2) := by decide +kernel
theorem dL_clerk_366 : decode cL_clerk 366 = .ok (.iconst 5, 1) := by decide +kernel
theorem dL_clerk_367 : decode cL_clerk 367 = .ok (.iload 7, 2) := by decide +kernel
theorem dL_clerk_369 : decode cL_clerk 369 = .ok (.imul, 1) := by decide +kernel
theorem dL_clerk_370 : decode cL_clerk 370 = .ok (.iconst 3, 1) := by decide +kernel
theorem dL_clerk_371 : decode cL_clerk 371 = .ok (.iadd, 1) := by decide +kernel
theorem dL_clerk_372 : decode cL_clerk 372 = .ok (.iaload, 1) := by decide +kernel
theorem dL_clerk_373 : decode cL_clerk 373 = .ok (.imul, 1) := by decide +kernel
theorem dL_clerk_374 : decode cL_clerk 374 = .ok (.iastore, 1) := by decide +kernel
theorem dL_clerk_375 : decode cL_clerk 375 = .ok (.aload_n 1, 1) := by decide +kernel
theorem dL_clerk_376 : decode cL_clerk 376 = .ok (.iconst 3, 1) := by decide +kernel
theorem dL_clerk_377 : decode cL_clerk 377 = .ok (.dup2, 1) := by decide +kernel
theorem dL_clerk_378 : decode cL_clerk 378 = .ok (.iaload, 1) := by decide +kernel
theorem dL_clerk_379 : decode cL_clerk 379 = .ok (.iload 9, 2) := by decide +kernel
theorem dL_clerk_381 : decode cL_clerk 381 = .ok (.isub, 1) := by decide +kernel
theorem dL_clerk_382 : decode cL_clerk 382 = .ok (.iastore, 1) := by decide +kernel
theorem dL_clerk_383 : decode cL_clerk 383 = .ok (.aload_n 1, 1) := by decide +kernel
theorem dL_clerk_384 : decode cL_clerk 384 = .ok (.iconst 5, 1) := by decide +kernel
theorem dL_clerk_385 : decode cL_clerk 385 = .ok (.dup2, 1) := by decide +kernel
theorem dL_clerk_386 : decode cL_clerk 386 = .ok (.iaload, 1) := by decide +kernel
theorem dL_clerk_387 : decode cL_clerk 387 = .ok (.aload 6, 2) := by decide +kernel
theorem dL_clerk_389 : decode cL_clerk 389 = .ok (.iconst 5, 1) := by decide +kernel
theorem dL_clerk_390 : decode cL_clerk 390 = .ok (.iload 7, 2) := by decide +kernel
theorem dL_clerk_392 : decode cL_clerk 392 = .ok (.imul, 1) := by decide +kernel
theorem dL_clerk_393 : decode cL_clerk 393 = .ok (.iconst 2, 1) := by decide +kernel
theorem dL_clerk_394 : decode cL_clerk 394 = .ok (.iadd, 1) := by decide +kernel
theorem dL_clerk_395 : decode cL_clerk 395 = .ok (.iaload, 1) := by decide +kernel
theorem dL_clerk_396 : decode cL_clerk 396 = .ok (.iadd, 1) := by decide +kernel
theorem dL_clerk_397 : decode cL_clerk 397 = .ok (.iastore, 1) := by decide +kernel
theorem dL_clerk_398 : decode cL_clerk 398 = .ok (.aload_n 0, 1) := by decide +kernel
theorem dL_clerk_399 : decode cL_clerk 399 = .ok (.iload 7, 2) := by decide +kernel
theorem dL_clerk_401 : decode cL_clerk 401 = .ok (.invokevirtual 50, 3) := by decide +kernel
theorem dL_clerk_404 : decode cL_clerk 404 = .ok (.aload 6, 2) := by decide +kernel
theorem dL_clerk_406 : decode cL_clerk 406 = .ok (.iconst 5, 1) := by decide +kernel
theorem dL_clerk_407 : decode cL_clerk 407 = .ok (.iload 7, 2) := by decide +kernel
theorem dL_clerk_409 : decode cL_clerk 409 = .ok (.imul, 1) := by decide +kernel
theorem dL_clerk_410 : decode cL_clerk 410 = .ok (.iconst 2, 1) := by decide +kernel
theorem dL_clerk_411 : decode cL_clerk 411 = .ok (.iadd, 1) := by decide +kernel
theorem dL_clerk_412 : decode cL_clerk 412 = .ok (.iaload, 1) := by decide +kernel
theorem dL_clerk_413 : decode cL_clerk 413 = .ok (.if_icmp .ne 7, 3) := by decide +kernel
theorem dL_clerk_416 : decode cL_clerk 416 = .ok (.iconst 1, 1) := by decide +kernel
theorem dL_clerk_417 : decode cL_clerk 417 = .ok (.goto 4, 3) := by decide +kernel
theorem dL_clerk_420 : decode cL_clerk 420 = .ok (.iconst 0, 1) := by decide +kernel
theorem dL_clerk_421 : decode cL_clerk 421 = .ok (.ireturn, 1) := by decide +kernel
set_option maxRecDepth 20000 in
theorem ggL_acts_L_low : GoodIn wsL_acts wsL_low := goodIn_r _ [8, 9] (by decide +kernel) (by decide +kernel)
set_option maxRecDepth 20000 in
theorem gL_acts_L_low : GoodIn wsL_acts (va_wsS RL 54 yL_low wsL_low) := goodIn_app (goodIn_of _ (by decide +kernel)) ggL_acts_L_low
set_option maxRecDepth 20000 in
theorem ggL_acts_X1_setDrift : GoodIn wsL_acts wsX1_setDrift := goodIn_r _ [14, 15, 16, 17, 18, 19, 13, 20, 21, 22, 23, 24, 25, 26, 27, 28, 29, 30, 31, 32, 33, 34, 35, 36, 37, 38, 39, 40, 41, 42, 43, 44, 45, 46, 47, 48, 49, 50, 51, 52, 53, 54, 55, 56, 57, 58, 59, 60, 61, 62, 63, 64, 65, 66, 67, 68, 238, 239, 240, 241, 242, 243, 244, 245, 246, 247, 248, 249, 250, 251, 252, 253, 254, 255, 256, 257, 258, 259] (by decide +kernel) (by decide +kernel)
set_option maxRecDepth 20000 in
theorem gL_acts_X1_setDrift : GoodIn wsL_acts (wsV RL 57 RX1 yX1_setDrift wsX1_setDrift) := goodIn_app (goodIn_of _ (by decide +kernel)) ggL_acts_X1_setDrift
set_option maxRecDepth 20000 in
theorem ggL_acts_X1_setPrice : GoodIn wsL_acts wsX1_setPrice := goodIn_r _ [72, 15, 16, 73, 21, 22, 13, 23, 24, 25, 26, 27, 28, 29, 30, 31, 32, 33, 34, 35, 36, 37, 38, 39, 40, 41, 42, 43, 44, 45, 46, 47, 48, 49, 50, 51, 52, 53, 54, 55, 56, 57, 58, 59, 60, 61, 62, 63, 64, 65, 66, 67, 68, 238, 239, 240, 241, 242, 243, 244, 245, 246, 247, 248, 249, 250, 251, 252, 253, 254, 255, 256, 257, 258, 259] (by decide +kernel) (by decide +kernel)
set_option maxRecDepth 20000 in
theorem gL_acts_X1_setPrice : GoodIn wsL_acts (wsV RL 60 RX1 yX1_setPrice wsX1_setPrice) := goodIn_app (goodIn_of _ (by decide +kernel)) ggL_acts_X1_setPrice
set_option maxRecDepth 20000 in
theorem ggL_acts_L_who : GoodIn wsL_acts wsL_who := goodIn_r _ [76] (by decide +kernel) (by decide +kernel)
set_option maxRecDepth 20000 in
theorem gL_acts_L_who : GoodIn wsL_acts (va_wsS RL 63 yL_who wsL_who) := goodIn_app (goodIn_of _ (by decide +kernel)) ggL_acts_L_who
set_option maxRecDepth 20000 in
theorem ggL_acts_X1_board : GoodIn wsL_acts wsX1_board := goodIn_r _ [80, 15, 16, 81, 82, 83, 84, 85, 86, 87, 88, 89, 90, 13, 91, 21, 22, 23, 18, 19, 20, 92, 93, 94, 24, 25, 26, 27, 28, 29, 30, 31, 32, 33, 34, 35, 36, 37, 38, 39, 40, 41, 42, 43, 44, 45, 46, 47, 48, 49, 50, 51, 52, 53, 54, 55, 56, 57, 58, 59, 60, 61, 62, 63, 64, 65, 66, 67, 68, 238, 239, 240, 241, 242, 243, 244, 245, 246, 247, 248, 249, 250, 251, 252, 253, 254, 255, 256, 257, 258, 259] (by decide +kernel) (by decide +kernel)
set_option maxRecDepth 20000 in
theorem gL_acts_X1_board : GoodIn wsL_acts (wsV RL 67 RX1 yX1_board wsX1_board) := goodIn_app (goodIn_of _ (by decide +kernel)) ggL_acts_X1_board
set_option maxRecDepth 20000 in
theorem ggL_acts_X1_walk : GoodIn wsL_acts wsX1_walk := goodIn_r _ [98, 15, 16, 81, 82, 83, 88, 99, 100, 101, 13, 102, 84, 18, 19, 20, 103, 104, 105, 106, 92, 93, 94, 24, 25, 26, 27, 28, 29, 30, 31, 32, 33, 34, 35, 36, 37, 38, 39, 40, 41, 42, 43, 44, 45, 46, 47, 48, 49, 50, 51, 52, 53, 54, 55, 56, 57, 58, 59, 60, 61, 62, 63, 64, 65, 66, 67, 68, 238, 239, 240, 241, 242, 243, 244, 245, 246, 247, 248, 249, 250, 251, 252, 253, 254, 255, 256, 257, 258, 259] (by decide +kernel) (by decide +kernel)
set_option maxRecDepth 20000 in
theorem gL_acts_X1_walk : GoodIn wsL_acts (wsV RL 71 RX1 yX1_walk wsX1_walk) := goodIn_app (goodIn_of _ (by decide +kernel)) ggL_acts_X1_walk
set_option maxRecDepth 20000 in
theorem ggL_acts_X1_leave : GoodIn wsL_acts wsX1_leave := goodIn_r _ [110, 15, 83, 16, 81, 88, 82, 99, 100, 101, 13, 102, 84, 103, 104, 105, 106, 24, 25, 26, 27, 28, 29, 30, 31, 32, 33, 34, 35, 36, 37, 38, 39, 40, 41, 42, 43, 44, 45, 46, 47, 48, 49, 50, 51, 52, 53, 54, 55, 56, 57, 58, 59, 60, 61, 62, 63, 64, 65, 66, 67, 68, 92, 93, 94, 238, 239, 240, 241, 242, 243, 244, 245, 246, 247, 248, 249, 250, 251, 252, 253, 254, 255, 256, 257, 258, 259] (by decide +kernel) (by decide +kernel)
set_option maxRecDepth 20000 in
theorem gL_acts_X1_leave : GoodIn wsL_acts (wsV RL 74 RX1 yX1_leave wsX1_leave) := goodIn_app (goodIn_of _ (by decide +kernel)) ggL_acts_X1_leave
set_option maxRecDepth 20000 in
theorem ggL_acts_X1_bill : GoodIn wsL_acts wsX1_bill := goodIn_r _ [114, 15, 16, 115, 82, 83, 116, 73, 87, 99, 100, 101, 13, 102, 84, 103, 104, 105, 106, 81, 24, 25, 26, 27, 28, 29, 30, 31, 32, 33, 34, 35, 36, 37, 38, 39, 40, 41, 42, 43, 44, 45, 46, 47, 48, 49, 50, 51, 52, 53, 54, 55, 56, 57, 58, 59, 60, 61, 62, 63, 64, 65, 66, 67, 68, 117, 118, 119, 120, 121, 122, 123, 124, 125, 126, 127, 128, 88, 129, 130, 131, 132, 133, 134, 135, 86, 136, 137, 138, 139, 140, 141, 142, 18, 19, 20, 143, 144, 145, 146, 147, 148, 149, 150, 151, 152, 153, 154, 155, 156, 157, 158, 159, 160, 161, 162, 163, 164, 165, 166, 167, 168, 169, 170, 171, 172, 173, 174, 175, 238, 239, 240, 241, 242, 243, 244, 245, 246, 247, 248, 249, 250, 251, 252, 253, 254, 255, 256, 257, 258, 259] (by decide +kernel) (by decide +kernel)
set_option maxRecDepth 20000 in
theorem gL_acts_X1_bill : GoodIn wsL_acts (wsV RL 38 RX1 yX1_bill wsX1_bill) := goodIn_app (goodIn_of _ (by decide +kernel)) ggL_acts_X1_bill
set_option maxRecDepth 20000 in
theorem ggL_acts_X1_complain : GoodIn wsL_acts wsX1_complain := goodIn_r _ [179, 15, 16, 115, 82, 172, 83, 86, 122, 123, 63, 124, 99, 100, 101, 13, 102, 84, 103, 104, 105, 106, 81, 24, 25, 26, 27, 28, 29, 30, 31, 32, 33, 34, 35, 36, 37, 38, 39, 40, 41, 42, 43, 44, 45, 46, 47, 48, 49, 50, 51, 52, 53, 54, 55, 56, 57, 58, 59, 60, 61, 62, 64, 65, 66, 67, 68, 180, 181, 182, 183, 116, 173, 174, 175, 238, 239, 240, 241, 242, 243, 244, 245, 246, 247, 248, 249, 250, 251, 252, 253, 254, 255, 256, 257, 258, 259] (by decide +kernel) (by decide +kernel)
set_option maxRecDepth 20000 in
theorem gL_acts_X1_complain : GoodIn wsL_acts (wsV RL 50 RX1 yX1_complain wsX1_complain) := goodIn_app (goodIn_of _ (by decide +kernel)) ggL_acts_X1_complain
set_option maxRecDepth 20000 in
theorem ggL_acts_X1_swap : GoodIn wsL_acts wsX1_swap := goodIn_r _ [187, 15, 83, 16, 81, 88, 188, 189, 190, 13, 191, 99, 100, 101, 102, 84, 103, 104, 105, 106, 82, 24, 25, 26, 27, 28, 29, 30, 31, 32, 33, 34, 35, 36, 37, 38, 39, 40, 41, 42, 43, 44, 45, 46, 47, 48, 49, 50, 51, 52, 53, 54, 55, 56, 57, 58, 59, 60, 61, 62, 63, 64, 65, 66, 67, 68, 192, 193, 194, 195, 196, 197, 198, 129, 130, 199, 200, 201, 131, 132, 133, 134, 135, 86, 136, 137, 138, 139, 140, 141, 142, 18, 19, 20, 143, 144, 145, 146, 147, 148, 149, 121, 87, 238, 239, 240, 241, 242, 243, 244, 245, 246, 247, 248, 249, 250, 251, 252, 253, 254, 255, 256, 257, 258, 259] (by decide +kernel) (by decide +kernel)
set_option maxRecDepth 20000 in
theorem gL_acts_X1_swap : GoodIn wsL_acts (wsV RL 23 RX1 yX1_swap wsX1_swap) := goodIn_app (goodIn_of _ (by decide +kernel)) ggL_acts_X1_swap
set_option maxRecDepth 20000 in
theorem ggL_acts_L_two : GoodIn wsL_acts wsL_two := goodIn_r _ [204, 4, 2, 184, 185, 186, 13, 187, 15, 83, 16, 81, 88, 188, 189, 190, 191, 99, 100, 101, 102, 84, 103, 104, 105, 106, 82, 24, 25, 26, 27, 28, 29, 30, 31, 32, 33, 34, 35, 36, 37, 38, 39, 40, 41, 42, 43, 44, 45, 46, 47, 48, 49, 50, 51, 52, 53, 54, 55, 56, 57, 58, 59, 60, 61, 62, 63, 64, 65, 66, 67, 68, 192, 193, 194, 195, 196, 197, 198, 129, 130, 199, 200, 201, 131, 132, 133, 134, 135, 86, 136, 137, 138, 139, 140, 141, 142, 18, 19, 20, 143, 144, 145, 146, 147, 148, 149, 121, 87, 205, 206, 207, 208, 155, 209, 210, 7, 211, 212, 213, 214, 215, 216, 217, 238, 239, 240, 241, 242, 243, 244, 245, 246, 247, 248, 249, 250, 251, 252, 253, 254, 255, 256, 257, 258, 259] (by decide +kernel) (by decide +kernel)
set_option maxRecDepth 20000 in
theorem gL_acts_L_two : GoodIn wsL_acts (va_wsS RL 77 yL_two wsL_two) := goodIn_app (goodIn_of _ (by decide +kernel)) ggL_acts_L_two
set_option maxRecDepth 20000 in
theorem ggL_acts_L_clerk : GoodIn wsL_acts wsL_clerk := goodIn_r _ [220, 2, 111, 112, 113, 13, 114, 15, 16, 115, 82, 83, 116, 73, 87, 99, 100, 101, 102, 84, 103, 104, 105, 106, 81, 24, 25, 26, 27, 28, 29, 30, 31, 32, 33, 34, 35, 36, 37, 38, 39, 40, 41, 42, 43, 44, 45, 46, 47, 48, 49, 50, 51, 52, 53, 54, 55, 56, 57, 58, 59, 60, 61, 62, 63, 64, 65, 66, 67, 68, 117, 118, 119, 120, 121, 122, 123, 124, 125, 126, 127, 128, 88, 129, 130, 131, 132, 133, 134, 135, 86, 136, 137, 138, 139, 140, 141, 142, 18, 19, 20, 143, 144, 145, 146, 147, 148, 149, 150, 151, 152, 153, 154, 155, 156, 157, 158, 159, 160, 161, 162, 163, 164, 165, 166, 167, 168, 169, 170, 171, 172, 173, 174, 175, 221, 222, 7, 223, 215, 216, 217, 212, 213, 214, 224, 225, 226, 227, 228, 229, 176, 177, 178, 179, 180, 181, 182, 183, 238, 239, 240, 241, 242, 243, 244, 245, 246, 247, 248, 249, 250, 251, 252, 253, 254, 255, 256, 257, 258, 259] (by decide +kernel) (by decide +kernel)
set_option maxRecDepth 20000 in
theorem gL_acts_L_clerk : GoodIn wsL_acts (va_wsS RL 81 yL_clerk wsL_clerk) := goodIn_app (goodIn_of _ (by decide +kernel)) ggL_acts_L_clerk
set_option maxRecDepth 20000 in
theorem ggL_acts_L_share : GoodIn wsL_acts wsL_share := goodIn_r _ [217] (by decide +kernel) (by decide +kernel)
set_option maxRecDepth 20000 in
theorem gL_acts_L_share : GoodIn wsL_acts (va_wsS RL 9 yL_share wsL_share) := goodIn_app (goodIn_of _ (by decide +kernel)) ggL_acts_L_share
set_option maxRecDepth 20000 in
theorem ggL_acts_X1_tare : GoodIn wsL_acts wsX1_tare := goodIn_r _ [233, 15, 129, 16, 135, 83, 121, 160, 154, 18, 19, 13, 20, 131, 132, 133, 134, 86, 81, 136, 59, 60, 61, 62, 63, 64, 65, 66, 67, 68, 137, 138, 139, 140, 141, 142, 143, 144, 145, 82, 24, 25, 26, 27, 28, 29, 30, 31, 32, 33, 34, 35, 36, 37, 38, 39, 40, 41, 42, 43, 44, 45, 46, 47, 48, 49, 50, 51, 52, 53, 54, 55, 56, 57, 58, 238, 239, 240, 241, 242, 243, 244, 245, 246, 247, 248, 249, 250, 251, 252, 253, 254, 255, 256, 257, 258, 259] (by decide +kernel) (by decide +kernel)
set_option maxRecDepth 20000 in
theorem gL_acts_X1_tare : GoodIn wsL_acts (wsV RL 85 RX1 yX1_tare wsX1_tare) := goodIn_app (goodIn_of _ (by decide +kernel)) ggL_acts_X1_tare
set_option maxRecDepth 20000 in
theorem ggL_acts_X1_pass : GoodIn wsL_acts wsX1_pass := goodIn_r _ [237, 15, 16, 154, 83, 135, 17, 21, 22, 13, 23, 24, 25, 26, 27, 28, 29, 30, 31, 32, 33, 34, 35, 36, 37, 38, 39, 40, 41, 42, 43, 44, 45, 46, 47, 48, 49, 50, 51, 52, 53, 54, 55, 56, 57, 58, 59, 60, 61, 62, 63, 64, 65, 66, 67, 68, 238, 239, 240, 241, 242, 243, 244, 245, 246, 247, 248, 249, 250, 251, 252, 253, 254, 255, 256, 257, 258, 259] (by decide +kernel) (by decide +kernel)
set_option maxRecDepth 20000 in
theorem gL_acts_X1_pass : GoodIn wsL_acts (wsV RL 88 RX1 yX1_pass wsX1_pass) := goodIn_app (goodIn_of _ (by decide +kernel)) ggL_acts_X1_pass
theorem dL_acts_0 : decode cL_acts 0 = .ok (.iload 8, 2) := by decide +kernel
theorem dL_acts_2 : decode cL_acts 2 = .ok (.iconst 5, 1) := by decide +kernel
theorem dL_acts_3 : decode cL_acts 3 = .ok (.ishr, 1) := by decide +kernel
theorem dL_acts_4 : decode cL_acts 4 = .ok (.ldc 53, 2) := by decide +kernel
theorem dL_acts_6 : decode cL_acts 6 = .ok (.invokestatic 54, 3) := by decide +kernel
theorem dL_acts_9 : decode cL_acts 9 = .ok (.istore 9, 2) := by decide +kernel
theorem dL_acts_11 : decode cL_acts 11 = .ok (.iload 8, 2) := by decide +kernel
theorem dL_acts_13 : decode cL_acts 13 = .ok (.bipush 26, 2) := by decide +kernel
theorem dL_acts_15 : decode cL_acts 15 = .ok (.invokestatic 54, 3) := by decide +kernel
theorem dL_acts_18 : decode cL_acts 18 = .ok (.istore 10, 2) := by decide +kernel
theorem dL_acts_20 : decode cL_acts 20 = .ok (.iload 9, 2) := by decide +kernel
theorem dL_acts_22 : decode cL_acts 22 = .ok (.bipush 24, 2) := by decide +kernel
theorem dL_acts_24 : decode cL_acts 24 = .ok (.irem, 1) := by decide +kernel
theorem dL_acts_25 : decode cL_acts 25 = .ok (.istore 11, 2) := by decide +kernel
theorem dL_acts_27 : decode cL_acts 27 = .ok (.iload 10, 2) := by decide +kernel
theorem dL_acts_29 : decode cL_acts 29 = .ok (.ifCond .ne 44, 3) := by decide +kernel
theorem dL_acts_32 : decode cL_acts 32 = .ok (.aload_n 3, 1) := by decide +kernel
theorem dL_acts_33 : decode cL_acts 33 = .ok (.iload 11, 2) := by decide +kernel
theorem dL_acts_35 : decode cL_acts 35 = .ok (.iaload, 1) := by decide +kernel
theorem dL_acts_36 : decode cL_acts 36 = .ok (.istore 12, 2) := by decide +kernel
theorem dL_acts_38 : decode cL_acts 38 = .ok (.aload_n 3, 1) := by decide +kernel
theorem dL_acts_39 : decode cL_acts 39 = .ok (.iload 11, 2) := by decide +kernel
theorem dL_acts_41 : decode cL_acts 41 = .ok (.iload 9, 2) := by decide +kernel
theorem dL_acts_43 : decode cL_acts 43 = .ok (.bipush 24, 2) := by decide +kernel
theorem dL_acts_45 : decode cL_acts 45 = .ok (.idiv, 1) := by decide +kernel
theorem dL_acts_46 : decode cL_acts 46 = .ok (.bipush 7, 2) := by decide +kernel
theorem dL_acts_48 : decode cL_acts 48 = .ok (.irem, 1) := by decide +kernel
theorem dL_acts_49 : decode cL_acts 49 = .ok (.iconst 3, 1) := by decide +kernel
theorem dL_acts_50 : decode cL_acts 50 = .ok (.isub, 1) := by decide +kernel
theorem dL_acts_51 : decode cL_acts 51 = .ok (.iastore, 1) := by decide +kernel
theorem dL_acts_52 : decode cL_acts 52 = .ok (.aload_n 0, 1) := by decide +kernel
theorem dL_acts_53 : decode cL_acts 53 = .ok (.iload 11, 2) := by decide +kernel
theorem dL_acts_55 : decode cL_acts 55 = .ok (.aload_n 3, 1) := by decide +kernel
theorem dL_acts_56 : decode cL_acts 56 = .ok (.iload 11, 2) := by decide +kernel
theorem dL_acts_58 : decode cL_acts 58 = .ok (.iaload, 1) := by decide +kernel
theorem dL_acts_59 : decode cL_acts 59 = .ok (.invokevirtual 57, 3) := by decide +kernel
theorem dL_acts_62 : decode cL_acts 62 = .ok (.iload 12, 2) := by decide +kernel
theorem dL_acts_64 : decode cL_acts 64 = .ok (.if_icmp .ne 7, 3) := by decide +kernel
theorem dL_acts_67 : decode cL_acts 67 = .ok (.iconst 1, 1) := by decide +kernel
theorem dL_acts_68 : decode cL_acts 68 = .ok (.goto 4, 3) := by decide +kernel
theorem dL_acts_71 : decode cL_acts 71 = .ok (.iconst 0, 1) := by decide +kernel
theorem dL_acts_72 : decode cL_acts 72 = .ok (.ireturn, 1) := by decide +kernel
theorem dL_acts_73 : decode cL_acts 73 = .ok (.iload 10, 2) := by decide +kernel
theorem dL_acts_75 : decode cL_acts 75 = .ok (.iconst 1, 1) := by decide +kernel
theorem dL_acts_76 : decode cL_acts 76 = .ok (.if_icmp .ne 36, 3) := by decide +kernel
theorem dL_acts_79 : decode cL_acts 79 = .ok (.aload_n 1, 1) := by decide +kernel
theorem dL_acts_80 : decode cL_acts 80 = .ok (.iconst 2, 1) := by decide +kernel
theorem dL_acts_81 : decode cL_acts 81 = .ok (.iaload, 1) := by decide +kernel
theorem dL_acts_82 : decode cL_acts 82 = .ok (.istore 12, 2) := by decide +kernel
theorem dL_acts_84 : decode cL_acts 84 = .ok (.aload_n 1, 1) := by decide +kernel
theorem dL_acts_85 : decode cL_acts 85 = .ok (.iconst 2, 1) := by decide +kernel
theorem dL_acts_86 : decode cL_acts 86 = .ok (.iload 9, 2) := by decide +kernel
theorem dL_acts_88 : decode cL_acts 88 = .ok (.bipush 101, 2) := by decide +kernel
theorem dL_acts_90 : decode cL_acts 90 = .ok (.irem, 1) := by decide +kernel
theorem dL_acts_91 : decode cL_acts 91 = .ok (.iastore, 1) := by decide +kernel
theorem dL_acts_92 : decode cL_acts 92 = .ok (.aload_n 0, 1) := by decide +kernel
theorem dL_acts_93 : decode cL_acts 93 = .ok (.iload 9, 2) := by decide +kernel
theorem dL_acts_95 : decode cL_acts 95 = .ok (.bipush 101, 2) := by decide +kernel
theorem dL_acts_97 : decode cL_acts 97 = .ok (.irem, 1) := by decide +kernel
theorem dL_acts_98 : decode cL_acts 98 = .ok (.invokevirtual 60, 3) := by decide +kernel
theorem dL_acts_101 : decode cL_acts 101 = .ok (.iload 12, 2) := by decide +kernel
theorem dL_acts_103 : decode cL_acts 103 = .ok (.if_icmp .ne 7, 3) := by decide +kernel
theorem dL_acts_106 : decode cL_acts 106 = .ok (.iconst 1, 1) := by decide +kernel
theorem dL_acts_107 : decode cL_acts 107 = .ok (.goto 4, 3) := by decide +kernel
theorem dL_acts_110 : decode cL_acts 110 = .ok (.iconst 0, 1) := by decide +kernel
theorem dL_acts_111 : decode cL_acts 111 = .ok (.ireturn, 1) := by decide +kernel
theorem dL_acts_112 : decode cL_acts 112 = .ok (.iload 10, 2) := by decide +kernel
theorem dL_acts_114 : decode cL_acts 114 = .ok (.bipush 7, 2) := by decide +kernel
theorem dL_acts_116 : decode cL_acts 116 = .ok (.if_icmp .ge 217, 3) := by decide +kernel
theorem dL_acts_119 : decode cL_acts 119 = .ok (.bipush 20, 2) := by decide +kernel
theorem dL_acts_121 : decode cL_acts 121 = .ok (.iload 9, 2) := by decide +kernel
theorem dL_acts_123 : decode cL_acts 123 = .ok (.bipush 24, 2) := by decide +kernel
theorem dL_acts_125 : decode cL_acts 125 = .ok (.idiv, 1) := by decide +kernel
theorem dL_acts_126 : decode cL_acts 126 = .ok (.sipush 131, 3) := by decide +kernel
theorem dL_acts_129 : decode cL_acts 129 = .ok (.irem, 1) := by decide +kernel
theorem dL_acts_130 : decode cL_acts 130 = .ok (.iadd, 1) := by decide +kernel
theorem dL_acts_131 : decode cL_acts 131 = .ok (.istore 12, 2) := by decide +kernel
theorem dL_acts_133 : decode cL_acts 133 = .ok (.iload 9, 2) := by decide +kernel
theorem dL_acts_135 : decode cL_acts 135 = .ok (.iconst 4, 1) := by decide +kernel
theorem dL_acts_136 : decode cL_acts 136 = .ok (.irem, 1) := by decide +kernel
theorem dL_acts_137 : decode cL_acts 137 = .ok (.ifCond .ne 18, 3) := by decide +kernel
theorem dL_acts_140 : decode cL_acts 140 = .ok (.bipush 20, 2) := by decide +kernel
theorem dL_acts_142 : decode cL_acts 142 = .ok (.iload 9, 2) := by decide +kernel
theorem dL_acts_144 : decode cL_acts 144 = .ok (.bipush 7, 2) := by decide +kernel
theorem dL_acts_146 : decode cL_acts 146 = .ok (.idiv, 1) := by decide +kernel
theorem dL_acts_147 : decode cL_acts 147 = .ok (.sipush 131, 3) := by decide +kernel
theorem dL_acts_150 : decode cL_acts 150 = .ok (.irem, 1) := by decide +kernel
theorem dL_acts_151 : decode cL_acts 151 = .ok (.iadd, 1) := by decide +kernel
theorem dL_acts_152 : decode cL_acts 152 = .ok (.goto 5, 3) := by decide +kernel
theorem dL_acts_155 : decode cL_acts 155 = .ok (.iload 12, 2) := by decide +kernel
theorem dL_acts_157 : decode cL_acts 157 = .ok (.istore 13, 2) := by decide +kernel
theorem dL_acts_159 : decode cL_acts 159 = .ok (.aload_n 1, 1) := by decide +kernel
theorem dL_acts_160 : decode cL_acts 160 = .ok (.aload 6, 2) := by decide +kernel
theorem dL_acts_162 : decode cL_acts 162 = .ok (.iload 11, 2) := by decide +kernel
theorem dL_acts_164 : decode cL_acts 164 = .ok (.iconst 1, 1) := by decide +kernel
theorem dL_acts_165 : decode cL_acts 165 = .ok (.invokestatic 63, 3) := by decide +kernel
theorem dL_acts_168 : decode cL_acts 168 = .ok (.ifCond .lt 24, 3) := by decide +kernel
theorem dL_acts_171 : decode cL_acts 171 = .ok (.aload_n 0, 1) := by decide +kernel
theorem dL_acts_172 : decode cL_acts 172 = .ok (.iload 12, 2) := by decide +kernel
theorem dL_acts_174 : decode cL_acts 174 = .ok (.iload 13, 2) := by decide +kernel
theorem dL_acts_176 : decode cL_acts 176 = .ok (.iload 11, 2) := by decide +kernel
theorem dL_acts_178 : decode cL_acts 178 = .ok (.invokevirtual 67, 3) := by decide +kernel
theorem dL_acts_181 : decode cL_acts 181 = .ok (.ldc 33, 2) := by decide +kernel
theorem dL_acts_183 : decode cL_acts 183 = .ok (.if_icmp .ne 7, 3) := by decide +kernel
theorem dL_acts_186 : decode cL_acts 186 = .ok (.iconst 1, 1) := by decide +kernel
theorem dL_acts_187 : decode cL_acts 187 = .ok (.goto 4, 3) := by decide +kernel
theorem dL_acts_190 : decode cL_acts 190 = .ok (.iconst 0, 1) := by decide +kernel
theorem dL_acts_191 : decode cL_acts 191 = .ok (.ireturn, 1) := by decide +kernel
theorem dL_acts_192 : decode cL_acts 192 = .ok (.aload_n 1, 1) := by decide +kernel
theorem dL_acts_193 : decode cL_acts 193 = .ok (.iconst 1, 1) := by decide +kernel
theorem dL_acts_194 : decode cL_acts 194 = .ok (.iaload, 1) := by decide +kernel
theorem dL_acts_195 : decode cL_acts 195 = .ok (.bipush 8, 2) := by decide +kernel
theorem dL_acts_197 : decode cL_acts 197 = .ok (.if_icmp .ne 24, 3) := by decide +kernel
theorem dL_acts_200 : decode cL_acts 200 = .ok (.aload_n 0, 1) := by decide +kernel
theorem dL_acts_201 : decode cL_acts 201 = .ok (.iload 12, 2) := by decide +kernel
theorem dL_acts_203 : decode cL_acts 203 = .ok (.iload 13, 2) := by decide +kernel
theorem dL_acts_205 : decode cL_acts 205 = .ok (.iload 11, 2) := by decide +kernel
theorem dL_acts_207 : decode cL_acts 207 = .ok (.invokevirtual 67, 3) := by decide +kernel
theorem dL_acts_210 : decode cL_acts 210 = .ok (.ldc 70, 2) := by decide +kernel
theorem dL_acts_212 : decode cL_acts 212 = .ok (.if_icmp .ne 7, 3) := by decide +kernel
theorem dL_acts_215 : decode cL_acts 215 = .ok (.iconst 1, 1) := by decide +kernel
theorem dL_acts_216 : decode cL_acts 216 = .ok (.goto 4, 3) := by decide +kernel
theorem dL_acts_219 : decode cL_acts 219 = .ok (.iconst 0, 1) := by decide +kernel
theorem dL_acts_220 : decode cL_acts 220 = .ok (.ireturn, 1) := by decide +kernel
theorem dL_acts_221 : decode cL_acts 221 = .ok (.iconst 5, 1) := by decide +kernel
theorem dL_acts_222 : decode cL_acts 222 = .ok (.aload_n 1, 1) := by decide +kernel
theorem dL_acts_223 : decode cL_acts 223 = .ok (.iconst 1, 1) := by decide +kernel
theorem dL_acts_224 : decode cL_acts 224 = .ok (.iaload, 1) := by decide +kernel
theorem dL_acts_225 : decode cL_acts 225 = .ok (.imul, 1) := by decide +kernel
theorem dL_acts_226 : decode cL_acts 226 = .ok (.istore 14, 2) := by decide +kernel
theorem dL_acts_228 : decode cL_acts 228 = .ok (.iconst 0, 1) := by decide +kernel
theorem dL_acts_229 : decode cL_acts 229 = .ok (.istore 15, 2) := by decide +kernel
theorem dL_acts_231 : decode cL_acts 231 = .ok (.iload 15, 2) := by decide +kernel
theorem dL_acts_233 : decode cL_acts 233 = .ok (.iconst 5, 1) := by decide +kernel
theorem dL_acts_234 : decode cL_acts 234 = .ok (.if_icmp .ge 68, 3) := by decide +kernel
theorem dL_acts_237 : decode cL_acts 237 = .ok (.aload 6, 2) := by decide +kernel
theorem dL_acts_239 : decode cL_acts 239 = .ok (.iload 14, 2) := by decide +kernel
theorem dL_acts_241 : decode cL_acts 241 = .ok (.iload 15, 2) := by decide +kernel
theorem dL_acts_243 : decode cL_acts 243 = .ok (.iadd, 1) := by decide +kernel
theorem dL_acts_244 : decode cL_acts 244 = .ok (.iload 15, 2) := by decide +kernel
theorem dL_acts_246 : decode cL_acts 246 = .ok (.ifCond .ne 8, 3) := by decide +kernel
theorem dL_acts_249 : decode cL_acts 249 = .ok (.iload 12, 2) := by decide +kernel
theorem dL_acts_251 : decode cL_acts 251 = .ok (.goto 26, 3) := by decide +kernel
theorem dL_acts_254 : decode cL_acts 254 = .ok (.iload 15, 2) := by decide +kernel
theorem dL_acts_256 : decode cL_acts 256 = .ok (.iconst 2, 1) := by decide +kernel
theorem dL_acts_257 : decode cL_acts 257 = .ok (.if_icmp .ne 8, 3) := by decide +kernel
theorem dL_acts_260 : decode cL_acts 260 = .ok (.iload 13, 2) := by decide +kernel
theorem dL_acts_262 : decode cL_acts 262 = .ok (.goto 15, 3) := by decide +kernel
theorem dL_acts_265 : decode cL_acts 265 = .ok (.iload 15, 2) := by decide +kernel
theorem dL_acts_267 : decode cL_acts 267 = .ok (.iconst 4, 1) := by decide +kernel
theorem dL_acts_268 : decode cL_acts 268 = .ok (.if_icmp .ne 7, 3) := by decide +kernel
theorem dL_acts_271 : decode cL_acts 271 = .ok (.iconst 0, 1) := by decide +kernel
theorem dL_acts_272 : decode cL_acts 272 = .ok (.goto 5, 3) := by decide +kernel
theorem dL_acts_275 : decode cL_acts 275 = .ok (.iload 11, 2) := by decide +kernel
theorem dL_acts_277 : decode cL_acts 277 = .ok (.iastore, 1) := by decide +kernel
theorem dL_acts_278 : decode cL_acts 278 = .ok (.aload 7, 2) := by decide +kernel
theorem dL_acts_280 : decode cL_acts 280 = .ok (.iload 14, 2) := by decide +kernel
theorem dL_acts_282 : decode cL_acts 282 = .ok (.iload 15, 2) := by decide +kernel
theorem dL_acts_284 : decode cL_acts 284 = .ok (.iadd, 1) := by decide +kernel
theorem dL_acts_285 : decode cL_acts 285 = .ok (.iload 15, 2) := by decide +kernel
theorem dL_acts_287 : decode cL_acts 287 = .ok (.ifCond .ne 7, 3) := by decide +kernel
theorem dL_acts_290 : decode cL_acts 290 = .ok (.iconst (-1), 1) := by decide +kernel
theorem dL_acts_291 : decode cL_acts 291 = .ok (.goto 4, 3) := by decide +kernel
theorem dL_acts_294 : decode cL_acts 294 = .ok (.iconst 0, 1) := by decide +kernel
theorem dL_acts_295 : decode cL_acts 295 = .ok (.iastore, 1) := by decide +kernel
theorem dL_acts_296 : decode cL_acts 296 = .ok (.iinc 15 1, 3) := by decide +kernel
theorem dL_acts_299 : decode cL_acts 299 = .ok (.goto (-68), 3) := by decide +kernel
theorem dL_acts_302 : decode cL_acts 302 = .ok (.aload_n 1, 1) := by decide +kernel
theorem dL_acts_303 : decode cL_acts 303 = .ok (.iconst 1, 1) := by decide +kernel
theorem dL_acts_304 : decode cL_acts 304 = .ok (.dup2, 1) := by decide +kernel
theorem dL_acts_305 : decode cL_acts 305 = .ok (.iaload, 1) := by decide +kernel
theorem dL_acts_306 : decode cL_acts 306 = .ok (.iconst 1, 1) := by decide +kernel
theorem dL_acts_307 : decode cL_acts 307 = .ok (.iadd, 1) := by decide +kernel
theorem dL_acts_308 : decode cL_acts 308 = .ok (.iastore, 1) := by decide +kernel
theorem dL_acts_309 : decode cL_acts 309 = .ok (.aload_n 0, 1) := by decide +kernel
theorem dL_acts_310 : decode cL_acts 310 = .ok (.iload 12, 2) := by decide +kernel
theorem dL_acts_312 : decode cL_acts 312 = .ok (.iload 13, 2) := by decide +kernel
theorem dL_acts_314 : decode cL_acts 314 = .ok (.iload 11, 2) := by decide +kernel
theorem dL_acts_316 : decode cL_acts 316 = .ok (.invokevirtual 67, 3) := by decide +kernel
theorem dL_acts_319 : decode cL_acts 319 = .ok (.aload_n 1, 1) := by decide +kernel
theorem dL_acts_320 : decode cL_acts 320 = .ok (.iconst 1, 1) := by decide +kernel
theorem dL_acts_321 : decode cL_acts 321 = .ok (.iaload, 1) := by decide +kernel
theorem dL_acts_322 : decode cL_acts 322 = .ok (.iconst 1, 1) := by decide +kernel
theorem dL_acts_323 : decode cL_acts 323 = .ok (.isub, 1) := by decide +kernel
theorem dL_acts_324 : decode cL_acts 324 = .ok (.if_icmp .ne 7, 3) := by decide +kernel
theorem dL_acts_327 : decode cL_acts 327 = .ok (.iconst 1, 1) := by decide +kernel
theorem dL_acts_328 : decode cL_acts 328 = .ok (.goto 4, 3) := by decide +kernel
theorem dL_acts_331 : decode cL_acts 331 = .ok (.iconst 0, 1) := by decide +kernel
theorem dL_acts_332 : decode cL_acts 332 = .ok (.ireturn, 1) := by decide +kernel
theorem dL_acts_333 : decode cL_acts 333 = .ok (.iload 10, 2) := by decide +kernel
theorem dL_acts_335 : decode cL_acts 335 = .ok (.bipush 20, 2) := by decide +kernel
theorem dL_acts_337 : decode cL_acts 337 = .ok (.if_icmp .ge 67, 3) := by decide +kernel
theorem dL_acts_340 : decode cL_acts 340 = .ok (.aload_n 1, 1) := by decide +kernel
theorem dL_acts_341 : decode cL_acts 341 = .ok (.iconst 1, 1) := by decide +kernel
theorem dL_acts_342 : decode cL_acts 342 = .ok (.iaload, 1) := by decide +kernel
theorem dL_acts_343 : decode cL_acts 343 = .ok (.ifCond .ne 61, 3) := by decide +kernel
theorem dL_acts_346 : decode cL_acts 346 = .ok (.aload_n 0, 1) := by decide +kernel
theorem dL_acts_347 : decode cL_acts 347 = .ok (.iconst 0, 1) := by decide +kernel
theorem dL_acts_348 : decode cL_acts 348 = .ok (.iconst 0, 1) := by decide +kernel
theorem dL_acts_349 : decode cL_acts 349 = .ok (.invokevirtual 71, 3) := by decide +kernel
theorem dL_acts_352 : decode cL_acts 352 = .ok (.ldc 32, 2) := by decide +kernel
theorem dL_acts_354 : decode cL_acts 354 = .ok (.if_icmp .ne 48, 3) := by decide +kernel
theorem dL_acts_357 : decode cL_acts 357 = .ok (.aload_n 0, 1) := by decide +kernel
theorem dL_acts_358 : decode cL_acts 358 = .ok (.iconst 0, 1) := by decide +kernel
theorem dL_acts_359 : decode cL_acts 359 = .ok (.invokevirtual 74, 3) := by decide +kernel
theorem dL_acts_362 : decode cL_acts 362 = .ok (.ldc 32, 2) := by decide +kernel
theorem dL_acts_364 : decode cL_acts 364 = .ok (.if_icmp .ne 38, 3) := by decide +kernel
theorem dL_acts_367 : decode cL_acts 367 = .ok (.aload_n 0, 1) := by decide +kernel
theorem dL_acts_368 : decode cL_acts 368 = .ok (.iconst 0, 1) := by decide +kernel
theorem dL_acts_369 : decode cL_acts 369 = .ok (.invokevirtual 38, 3) := by decide +kernel
theorem dL_acts_372 : decode cL_acts 372 = .ok (.ldc 32, 2) := by decide +kernel
theorem dL_acts_374 : decode cL_acts 374 = .ok (.if_icmp .ne 28, 3) := by decide +kernel
theorem dL_acts_377 : decode cL_acts 377 = .ok (.aload_n 0, 1) := by decide +kernel
theorem dL_acts_378 : decode cL_acts 378 = .ok (.iconst 0, 1) := by decide +kernel
theorem dL_acts_379 : decode cL_acts 379 = .ok (.invokevirtual 50, 3) := by decide +kernel
theorem dL_acts_382 : decode cL_acts 382 = .ok (.ldc 32, 2) := by decide +kernel
theorem dL_acts_384 : decode cL_acts 384 = .ok (.if_icmp .ne 18, 3) := by decide +kernel
theorem dL_acts_387 : decode cL_acts 387 = .ok (.aload_n 0, 1) := by decide +kernel
theorem dL_acts_388 : decode cL_acts 388 = .ok (.iconst 0, 1) := by decide +kernel
theorem dL_acts_389 : decode cL_acts 389 = .ok (.iconst 1, 1) := by decide +kernel
theorem dL_acts_390 : decode cL_acts 390 = .ok (.invokevirtual 23, 3) := by decide +kernel
theorem dL_acts_393 : decode cL_acts 393 = .ok (.ldc 32, 2) := by decide +kernel
theorem dL_acts_395 : decode cL_acts 395 = .ok (.if_icmp .ne 7, 3) := by decide +kernel
theorem dL_acts_398 : decode cL_acts 398 = .ok (.iconst 1, 1) := by decide +kernel
theorem dL_acts_399 : decode cL_acts 399 = .ok (.goto 4, 3) := by decide +kernel
theorem dL_acts_402 : decode cL_acts 402 = .ok (.iconst 0, 1) := by decide +kernel
theorem dL_acts_403 : decode cL_acts 403 = .ok (.ireturn, 1) := by decide +kernel
theorem dL_acts_404 : decode cL_acts 404 = .ok (.aload_n 1, 1) := by decide +kernel
theorem dL_acts_405 : decode cL_acts 405 = .ok (.iconst 1, 1) := by decide +kernel
theorem dL_acts_406 : decode cL_acts 406 = .ok (.iaload, 1) := by decide +kernel
theorem dL_acts_407 : decode cL_acts 407 = .ok (.ifCond .ne 7, 3) := by decide +kernel
theorem dL_acts_410 : decode cL_acts 410 = .ok (.iconst 0, 1) := by decide +kernel
theorem dL_acts_411 : decode cL_acts 411 = .ok (.goto 12, 3) := by decide +kernel
theorem dL_acts_414 : decode cL_acts 414 = .ok (.iload 9, 2) := by decide +kernel
theorem dL_acts_416 : decode cL_acts 416 = .ok (.bipush 24, 2) := by decide +kernel
theorem dL_acts_418 : decode cL_acts 418 = .ok (.idiv, 1) := by decide +kernel
theorem dL_acts_419 : decode cL_acts 419 = .ok (.aload_n 1, 1) := by decide +kernel
theorem dL_acts_420 : decode cL_acts 420 = .ok (.iconst 1, 1) := by decide +kernel
theorem dL_acts_421 : decode cL_acts 421 = .ok (.iaload, 1) := by decide +kernel
theorem dL_acts_422 : decode cL_acts 422 = .ok (.irem, 1) := by decide +kernel
theorem dL_acts_423 : decode cL_acts 423 = .ok (.istore 12, 2) := by decide +kernel
theorem dL_acts_425 : decode cL_acts 425 = .ok (.iload 10, 2) := by decide +kernel
theorem dL_acts_427 : decode cL_acts 427 = .ok (.bipush 10, 2) := by decide +kernel
theorem dL_acts_429 : decode cL_acts 429 = .ok (.if_icmp .ge 105, 3) := by decide +kernel
theorem dL_acts_432 : decode cL_acts 432 = .ok (.aload 6, 2) := by decide +kernel
theorem dL_acts_434 : decode cL_acts 434 = .ok (.iconst 5, 1) := by decide +kernel
theorem dL_acts_435 : decode cL_acts 435 = .ok (.iload 12, 2) := by decide +kernel
theorem dL_acts_437 : decode cL_acts 437 = .ok (.imul, 1) := by decide +kernel
theorem dL_acts_438 : decode cL_acts 438 = .ok (.iconst 1, 1) := by decide +kernel
theorem dL_acts_439 : decode cL_acts 439 = .ok (.iadd, 1) := by decide +kernel
theorem dL_acts_440 : decode cL_acts 440 = .ok (.iaload, 1) := by decide +kernel
theorem dL_acts_441 : decode cL_acts 441 = .ok (.ifCond .lt 15, 3) := by decide +kernel
theorem dL_acts_444 : decode cL_acts 444 = .ok (.aload_n 1, 1) := by decide +kernel
theorem dL_acts_445 : decode cL_acts 445 = .ok (.aload 6, 2) := by decide +kernel
theorem dL_acts_447 : decode cL_acts 447 = .ok (.iload 11, 2) := by decide +kernel
theorem dL_acts_449 : decode cL_acts 449 = .ok (.iconst 1, 1) := by decide +kernel
theorem dL_acts_450 : decode cL_acts 450 = .ok (.invokestatic 63, 3) := by decide +kernel
theorem dL_acts_453 : decode cL_acts 453 = .ok (.ifCond .lt 22, 3) := by decide +kernel
theorem dL_acts_456 : decode cL_acts 456 = .ok (.aload_n 0, 1) := by decide +kernel
theorem dL_acts_457 : decode cL_acts 457 = .ok (.iload 12, 2) := by decide +kernel
theorem dL_acts_459 : decode cL_acts 459 = .ok (.iload 11, 2) := by decide +kernel
theorem dL_acts_461 : decode cL_acts 461 = .ok (.invokevirtual 71, 3) := by decide +kernel
theorem dL_acts_464 : decode cL_acts 464 = .ok (.ldc 33, 2) := by decide +kernel
theorem dL_acts_466 : decode cL_acts 466 = .ok (.if_icmp .ne 7, 3) := by decide +kernel
theorem dL_acts_469 : decode cL_acts 469 = .ok (.iconst 1, 1) := by decide +kernel
theorem dL_acts_470 : decode cL_acts 470 = .ok (.goto 4, 3) := by decide +kernel
theorem dL_acts_473 : decode cL_acts 473 = .ok (.iconst 0, 1) := by decide +kernel
theorem dL_acts_474 : decode cL_acts 474 = .ok (.ireturn, 1) := by decide +kernel
theorem dL_acts_475 : decode cL_acts 475 = .ok (.aload_n 1, 1) := by decide +kernel
theorem dL_acts_476 : decode cL_acts 476 = .ok (.aload 6, 2) := by decide +kernel
theorem dL_acts_478 : decode cL_acts 478 = .ok (.aload 6, 2) := by decide +kernel
theorem dL_acts_480 : decode cL_acts 480 = .ok (.iconst 5, 1) := by decide +kernel
theorem dL_acts_481 : decode cL_acts 481 = .ok (.iload 12, 2) := by decide +kernel
theorem dL_acts_483 : decode cL_acts 483 = .ok (.imul, 1) := by decide +kernel
theorem dL_acts_484 : decode cL_acts 484 = .ok (.iconst 1, 1) := by decide +kernel
theorem dL_acts_485 : decode cL_acts 485 = .ok (.iadd, 1) := by decide +kernel
theorem dL_acts_486 : decode cL_acts 486 = .ok (.iaload, 1) := by decide +kernel
theorem dL_acts_487 : decode cL_acts 487 = .ok (.iconst 3, 1) := by decide +kernel
theorem dL_acts_488 : decode cL_acts 488 = .ok (.invokestatic 63, 3) := by decide +kernel
theorem dL_acts_491 : decode cL_acts 491 = .ok (.istore 13, 2) := by decide +kernel
theorem dL_acts_493 : decode cL_acts 493 = .ok (.aload 6, 2) := by decide +kernel
theorem dL_acts_495 : decode cL_acts 495 = .ok (.iconst 5, 1) := by decide +kernel
theorem dL_acts_496 : decode cL_acts 496 = .ok (.iload 12, 2) := by decide +kernel
theorem dL_acts_498 : decode cL_acts 498 = .ok (.imul, 1) := by decide +kernel
theorem dL_acts_499 : decode cL_acts 499 = .ok (.iconst 1, 1) := by decide +kernel
theorem dL_acts_500 : decode cL_acts 500 = .ok (.iadd, 1) := by decide +kernel
theorem dL_acts_501 : decode cL_acts 501 = .ok (.iload 11, 2) := by decide +kernel
theorem dL_acts_503 : decode cL_acts 503 = .ok (.iastore, 1) := by decide +kernel
theorem dL_acts_504 : decode cL_acts 504 = .ok (.aload 6, 2) := by decide +kernel
theorem dL_acts_506 : decode cL_acts 506 = .ok (.iconst 5, 1) := by decide +kernel
theorem dL_acts_507 : decode cL_acts 507 = .ok (.iload 13, 2) := by decide +kernel
theorem dL_acts_509 : decode cL_acts 509 = .ok (.imul, 1) := by decide +kernel
theorem dL_acts_510 : decode cL_acts 510 = .ok (.iconst 3, 1) := by decide +kernel
theorem dL_acts_511 : decode cL_acts 511 = .ok (.iadd, 1) := by decide +kernel
theorem dL_acts_512 : decode cL_acts 512 = .ok (.iload 11, 2) := by decide +kernel
theorem dL_acts_514 : decode cL_acts 514 = .ok (.iastore, 1) := by decide +kernel
theorem dL_acts_515 : decode cL_acts 515 = .ok (.aload_n 0, 1) := by decide +kernel
theorem dL_acts_516 : decode cL_acts 516 = .ok (.iload 12, 2) := by decide +kernel
theorem dL_acts_518 : decode cL_acts 518 = .ok (.iload 11, 2) := by decide +kernel
theorem dL_acts_520 : decode cL_acts 520 = .ok (.invokevirtual 71, 3) := by decide +kernel
theorem dL_acts_523 : decode cL_acts 523 = .ok (.iload 13, 2) := by decide +kernel
theorem dL_acts_525 : decode cL_acts 525 = .ok (.if_icmp .ne 7, 3) := by decide +kernel
theorem dL_acts_528 : decode cL_acts 528 = .ok (.iconst 1, 1) := by decide +kernel
theorem dL_acts_529 : decode cL_acts 529 = .ok (.goto 4, 3) := by decide +kernel
theorem dL_acts_532 : decode cL_acts 532 = .ok (.iconst 0, 1) := by decide +kernel
theorem dL_acts_533 : decode cL_acts 533 = .ok (.ireturn, 1) := by decide +kernel
theorem dL_acts_534 : decode cL_acts 534 = .ok (.iload 10, 2) := by decide +kernel
theorem dL_acts_536 : decode cL_acts 536 = .ok (.bipush 14, 2) := by decide +kernel
theorem dL_acts_538 : decode cL_acts 538 = .ok (.if_icmp .ge 28, 3) := by decide +kernel
theorem dL_acts_541 : decode cL_acts 541 = .ok (.aload_n 0, 1) := by decide +kernel
theorem dL_acts_542 : decode cL_acts 542 = .ok (.aload_n 1, 1) := by decide +kernel
theorem dL_acts_543 : decode cL_acts 543 = .ok (.aload_n 2, 1) := by decide +kernel
theorem dL_acts_544 : decode cL_acts 544 = .ok (.aload 4, 2) := by decide +kernel
theorem dL_acts_546 : decode cL_acts 546 = .ok (.aload 6, 2) := by decide +kernel
theorem dL_acts_548 : decode cL_acts 548 = .ok (.iload 9, 2) := by decide +kernel
theorem dL_acts_550 : decode cL_acts 550 = .ok (.iload 10, 2) := by decide +kernel
theorem dL_acts_552 : decode cL_acts 552 = .ok (.bipush 12, 2) := by decide +kernel
theorem dL_acts_554 : decode cL_acts 554 = .ok (.if_icmp .ge 7, 3) := by decide +kernel
theorem dL_acts_557 : decode cL_acts 557 = .ok (.iconst 1, 1) := by decide +kernel
theorem dL_acts_558 : decode cL_acts 558 = .ok (.goto 4, 3) := by decide +kernel
theorem dL_acts_561 : decode cL_acts 561 = .ok (.iconst 0, 1) := by decide +kernel
theorem dL_acts_562 : decode cL_acts 562 = .ok (.invokestatic 77, 3) := by decide +kernel
theorem dL_acts_565 : decode cL_acts 565 = .ok (.ireturn, 1) := by decide +kernel
theorem dL_acts_566 : decode cL_acts 566 = .ok (.iload 10, 2) := by decide +kernel
theorem dL_acts_568 : decode cL_acts 568 = .ok (.bipush 14, 2) := by decide +kernel
theorem dL_acts_570 : decode cL_acts 570 = .ok (.if_icmp .ne 125, 3) := by decide +kernel
theorem dL_acts_573 : decode cL_acts 573 = .ok (.aload 6, 2) := by decide +kernel
theorem dL_acts_575 : decode cL_acts 575 = .ok (.iconst 5, 1) := by decide +kernel
theorem dL_acts_576 : decode cL_acts 576 = .ok (.iload 12, 2) := by decide +kernel
theorem dL_acts_578 : decode cL_acts 578 = .ok (.imul, 1) := by decide +kernel
theorem dL_acts_579 : decode cL_acts 579 = .ok (.iconst 1, 1) := by decide +kernel
theorem dL_acts_580 : decode cL_acts 580 = .ok (.iadd, 1) := by decide +kernel
theorem dL_acts_581 : decode cL_acts 581 = .ok (.iaload, 1) := by decide +kernel
theorem dL_acts_582 : decode cL_acts 582 = .ok (.ifCond .ge 20, 3) := by decide +kernel
theorem dL_acts_585 : decode cL_acts 585 = .ok (.aload_n 0, 1) := by decide +kernel
theorem dL_acts_586 : decode cL_acts 586 = .ok (.iload 12, 2) := by decide +kernel
theorem dL_acts_588 : decode cL_acts 588 = .ok (.invokevirtual 74, 3) := by decide +kernel
theorem dL_acts_591 : decode cL_acts 591 = .ok (.ldc 33, 2) := by decide +kernel
theorem dL_acts_593 : decode cL_acts 593 = .ok (.if_icmp .ne 7, 3) := by decide +kernel
theorem dL_acts_596 : decode cL_acts 596 = .ok (.iconst 1, 1) := by decide +kernel
theorem dL_acts_597 : decode cL_acts 597 = .ok (.goto 4, 3) := by decide +kernel
theorem dL_acts_600 : decode cL_acts 600 = .ok (.iconst 0, 1) := by decide +kernel
theorem dL_acts_601 : decode cL_acts 601 = .ok (.ireturn, 1) := by decide +kernel
theorem dL_acts_602 : decode cL_acts 602 = .ok (.aload_n 1, 1) := by decide +kernel
theorem dL_acts_603 : decode cL_acts 603 = .ok (.aload 6, 2) := by decide +kernel
theorem dL_acts_605 : decode cL_acts 605 = .ok (.aload 6, 2) := by decide +kernel
theorem dL_acts_607 : decode cL_acts 607 = .ok (.iconst 5, 1) := by decide +kernel
theorem dL_acts_608 : decode cL_acts 608 = .ok (.iload 12, 2) := by decide +kernel
theorem dL_acts_610 : decode cL_acts 610 = .ok (.imul, 1) := by decide +kernel
theorem dL_acts_611 : decode cL_acts 611 = .ok (.iconst 1, 1) := by decide +kernel
theorem dL_acts_612 : decode cL_acts 612 = .ok (.iadd, 1) := by decide +kernel
theorem dL_acts_613 : decode cL_acts 613 = .ok (.iaload, 1) := by decide +kernel
theorem dL_acts_614 : decode cL_acts 614 = .ok (.iconst 3, 1) := by decide +kernel
theorem dL_acts_615 : decode cL_acts 615 = .ok (.invokestatic 63, 3) := by decide +kernel
theorem dL_acts_618 : decode cL_acts 618 = .ok (.istore 13, 2) := by decide +kernel
theorem dL_acts_620 : decode cL_acts 620 = .ok (.aload 6, 2) := by decide +kernel
theorem dL_acts_622 : decode cL_acts 622 = .ok (.iconst 5, 1) := by decide +kernel
theorem dL_acts_623 : decode cL_acts 623 = .ok (.iload 13, 2) := by decide +kernel
theorem dL_acts_625 : decode cL_acts 625 = .ok (.imul, 1) := by decide +kernel
theorem dL_acts_626 : decode cL_acts 626 = .ok (.iconst 3, 1) := by decide +kernel
theorem dL_acts_627 : decode cL_acts 627 = .ok (.iadd, 1) := by decide +kernel
theorem dL_acts_628 : decode cL_acts 628 = .ok (.aload 6, 2) := by decide +kernel
theorem dL_acts_630 : decode cL_acts 630 = .ok (.iconst 5, 1) := by decide +kernel
theorem dL_acts_631 : decode cL_acts 631 = .ok (.iload 12, 2) := by decide +kernel
theorem dL_acts_633 : decode cL_acts 633 = .ok (.imul, 1) := by decide +kernel
theorem dL_acts_634 : decode cL_acts 634 = .ok (.iconst 3, 1) := by decide +kernel
theorem dL_acts_635 : decode cL_acts 635 = .ok (.iadd, 1) := by decide +kernel
theorem dL_acts_636 : decode cL_acts 636 = .ok (.iaload, 1) := by decide +kernel
theorem dL_acts_637 : decode cL_acts 637 = .ok (.iastore, 1) := by decide +kernel
theorem dL_acts_638 : decode cL_acts 638 = .ok (.aload 6, 2) := by decide +kernel
theorem dL_acts_640 : decode cL_acts 640 = .ok (.iconst 5, 1) := by decide +kernel
theorem dL_acts_641 : decode cL_acts 641 = .ok (.iload 12, 2) := by decide +kernel
theorem dL_acts_643 : decode cL_acts 643 = .ok (.imul, 1) := by decide +kernel
theorem dL_acts_644 : decode cL_acts 644 = .ok (.iconst 1, 1) := by decide +kernel
theorem dL_acts_645 : decode cL_acts 645 = .ok (.iadd, 1) := by decide +kernel
theorem dL_acts_646 : decode cL_acts 646 = .ok (.iconst (-1), 1) := by decide +kernel
theorem dL_acts_647 : decode cL_acts 647 = .ok (.iastore, 1) := by decide +kernel
theorem dL_acts_648 : decode cL_acts 648 = .ok (.aload 6, 2) := by decide +kernel
theorem dL_acts_650 : decode cL_acts 650 = .ok (.iconst 5, 1) := by decide +kernel
theorem dL_acts_651 : decode cL_acts 651 = .ok (.iload 12, 2) := by decide +kernel
theorem dL_acts_653 : decode cL_acts 653 = .ok (.imul, 1) := by decide +kernel
theorem dL_acts_654 : decode cL_acts 654 = .ok (.iconst 2, 1) := by decide +kernel
theorem dL_acts_655 : decode cL_acts 655 = .ok (.iadd, 1) := by decide +kernel
theorem dL_acts_656 : decode cL_acts 656 = .ok (.iconst (-1), 1) := by decide +kernel
theorem dL_acts_657 : decode cL_acts 657 = .ok (.iastore, 1) := by decide +kernel
theorem dL_acts_658 : decode cL_acts 658 = .ok (.aload 6, 2) := by decide +kernel
theorem dL_acts_660 : decode cL_acts 660 = .ok (.iconst 5, 1) := by decide +kernel
theorem dL_acts_661 : decode cL_acts 661 = .ok (.iload 12, 2) := by decide +kernel
theorem dL_acts_663 : decode cL_acts 663 = .ok (.imul, 1) := by decide +kernel
theorem dL_acts_664 : decode cL_acts 664 = .ok (.iconst 3, 1) := by decide +kernel
theorem dL_acts_665 : decode cL_acts 665 = .ok (.iadd, 1) := by decide +kernel
theorem dL_acts_666 : decode cL_acts 666 = .ok (.iconst (-1), 1) := by decide +kernel
theorem dL_acts_667 : decode cL_acts 667 = .ok (.iastore, 1) := by decide +kernel
theorem dL_acts_668 : decode cL_acts 668 = .ok (.aload_n 0, 1) := by decide +kernel
theorem dL_acts_669 : decode cL_acts 669 = .ok (.iload 12, 2) := by decide +kernel
theorem dL_acts_671 : decode cL_acts 671 = .ok (.invokevirtual 74, 3) := by decide +kernel
theorem dL_acts_674 : decode cL_acts 674 = .ok (.iload 13, 2) := by decide +kernel
theorem dL_acts_676 : decode cL_acts 676 = .ok (.iload 12, 2) := by decide +kernel
theorem dL_acts_678 : decode cL_acts 678 = .ok (.if_icmp .ne 7, 3) := by decide +kernel
theorem dL_acts_681 : decode cL_acts 681 = .ok (.iconst 1, 1) := by decide +kernel
theorem dL_acts_682 : decode cL_acts 682 = .ok (.goto 4, 3) := by decide +kernel
theorem dL_acts_685 : decode cL_acts 685 = .ok (.iconst 0, 1) := by decide +kernel
theorem dL_acts_686 : decode cL_acts 686 = .ok (.if_icmp .ne 7, 3) := by decide +kernel
theorem dL_acts_689 : decode cL_acts 689 = .ok (.iconst 1, 1) := by decide +kernel
theorem dL_acts_690 : decode cL_acts 690 = .ok (.goto 4, 3) := by decide +kernel
theorem dL_acts_693 : decode cL_acts 693 = .ok (.iconst 0, 1) := by decide +kernel
theorem dL_acts_694 : decode cL_acts 694 = .ok (.ireturn, 1) := by decide +kernel
theorem dL_acts_695 : decode cL_acts 695 = .ok (.iload 10, 2) := by decide +kernel
theorem dL_acts_697 : decode cL_acts 697 = .ok (.bipush 20, 2) := by decide +kernel
theorem dL_acts_699 : decode cL_acts 699 = .ok (.if_icmp .ge 32, 3) := by decide +kernel
theorem dL_acts_702 : decode cL_acts 702 = .ok (.aload_n 0, 1) := by decide +kernel
theorem dL_acts_703 : decode cL_acts 703 = .ok (.aload_n 1, 1) := by decide +kernel
theorem dL_acts_704 : decode cL_acts 704 = .ok (.aload_n 2, 1) := by decide +kernel
theorem dL_acts_705 : decode cL_acts 705 = .ok (.aload 4, 2) := by decide +kernel
theorem dL_acts_707 : decode cL_acts 707 = .ok (.aload 5, 2) := by decide +kernel
theorem dL_acts_709 : decode cL_acts 709 = .ok (.aload 6, 2) := by decide +kernel
theorem dL_acts_711 : decode cL_acts 711 = .ok (.aload 7, 2) := by decide +kernel
theorem dL_acts_713 : decode cL_acts 713 = .ok (.iload 12, 2) := by decide +kernel
theorem dL_acts_715 : decode cL_acts 715 = .ok (.iload 10, 2) := by decide +kernel
theorem dL_acts_717 : decode cL_acts 717 = .ok (.bipush 18, 2) := by decide +kernel
theorem dL_acts_719 : decode cL_acts 719 = .ok (.if_icmp .ge 7, 3) := by decide +kernel
theorem dL_acts_722 : decode cL_acts 722 = .ok (.iconst 1, 1) := by decide +kernel
theorem dL_acts_723 : decode cL_acts 723 = .ok (.goto 4, 3) := by decide +kernel
theorem dL_acts_726 : decode cL_acts 726 = .ok (.iconst 0, 1) := by decide +kernel
theorem dL_acts_727 : decode cL_acts 727 = .ok (.invokestatic 81, 3) := by decide +kernel
theorem dL_acts_730 : decode cL_acts 730 = .ok (.ireturn, 1) := by decide +kernel
theorem dL_acts_731 : decode cL_acts 731 = .ok (.iload 10, 2) := by decide +kernel
theorem dL_acts_733 : decode cL_acts 733 = .ok (.bipush 23, 2) := by decide +kernel
theorem dL_acts_735 : decode cL_acts 735 = .ok (.if_icmp .ge 124, 3) := by decide +kernel
theorem dL_acts_738 : decode cL_acts 738 = .ok (.iconst 1, 1) := by decide +kernel
theorem dL_acts_739 : decode cL_acts 739 = .ok (.istore 13, 2) := by decide +kernel
theorem dL_acts_741 : decode cL_acts 741 = .ok (.iconst 0, 1) := by decide +kernel
theorem dL_acts_742 : decode cL_acts 742 = .ok (.istore 14, 2) := by decide +kernel
theorem dL_acts_744 : decode cL_acts 744 = .ok (.iload 14, 2) := by decide +kernel
theorem dL_acts_746 : decode cL_acts 746 = .ok (.aload_n 1, 1) := by decide +kernel
theorem dL_acts_747 : decode cL_acts 747 = .ok (.iconst 1, 1) := by decide +kernel
theorem dL_acts_748 : decode cL_acts 748 = .ok (.iaload, 1) := by decide +kernel
theorem dL_acts_749 : decode cL_acts 749 = .ok (.if_icmp .ge 52, 3) := by decide +kernel
theorem dL_acts_752 : decode cL_acts 752 = .ok (.iload 13, 2) := by decide +kernel
theorem dL_acts_754 : decode cL_acts 754 = .ok (.ifCond .eq 38, 3) := by decide +kernel
theorem dL_acts_757 : decode cL_acts 757 = .ok (.aload 6, 2) := by decide +kernel
theorem dL_acts_759 : decode cL_acts 759 = .ok (.iconst 5, 1) := by decide +kernel
theorem dL_acts_760 : decode cL_acts 760 = .ok (.iload 14, 2) := by decide +kernel
theorem dL_acts_762 : decode cL_acts 762 = .ok (.imul, 1) := by decide +kernel
theorem dL_acts_763 : decode cL_acts 763 = .ok (.iconst 1, 1) := by decide +kernel
theorem dL_acts_764 : decode cL_acts 764 = .ok (.iadd, 1) := by decide +kernel
theorem dL_acts_765 : decode cL_acts 765 = .ok (.iaload, 1) := by decide +kernel
theorem dL_acts_766 : decode cL_acts 766 = .ok (.ifCond .lt 22, 3) := by decide +kernel
theorem dL_acts_769 : decode cL_acts 769 = .ok (.bipush 8, 2) := by decide +kernel
theorem dL_acts_771 : decode cL_acts 771 = .ok (.aload 6, 2) := by decide +kernel
theorem dL_acts_773 : decode cL_acts 773 = .ok (.iconst 5, 1) := by decide +kernel
theorem dL_acts_774 : decode cL_acts 774 = .ok (.iload 14, 2) := by decide +kernel
theorem dL_acts_776 : decode cL_acts 776 = .ok (.imul, 1) := by decide +kernel
theorem dL_acts_777 : decode cL_acts 777 = .ok (.iconst 1, 1) := by decide +kernel
theorem dL_acts_778 : decode cL_acts 778 = .ok (.iadd, 1) := by decide +kernel
theorem dL_acts_779 : decode cL_acts 779 = .ok (.iaload, 1) := by decide +kernel
theorem dL_acts_780 : decode cL_acts 780 = .ok (.iload 11, 2) := by decide +kernel
theorem dL_acts_782 : decode cL_acts 782 = .ok (.invokestatic 9, 3) := by decide +kernel
theorem dL_acts_785 : decode cL_acts 785 = .ok (.ifCond .ne 7, 3) := by decide +kernel
theorem dL_acts_788 : decode cL_acts 788 = .ok (.iconst 1, 1) := by decide +kernel
theorem dL_acts_789 : decode cL_acts 789 = .ok (.goto 4, 3) := by decide +kernel
theorem dL_acts_792 : decode cL_acts 792 = .ok (.iconst 0, 1) := by decide +kernel
theorem dL_acts_793 : decode cL_acts 793 = .ok (.istore 13, 2) := by decide +kernel
theorem dL_acts_795 : decode cL_acts 795 = .ok (.iinc 14 1, 3) := by decide +kernel
theorem dL_acts_798 : decode cL_acts 798 = .ok (.goto (-54), 3) := by decide +kernel
theorem dL_acts_801 : decode cL_acts 801 = .ok (.iload 13, 2) := by decide +kernel
theorem dL_acts_803 : decode cL_acts 803 = .ok (.ifCond .ne 20, 3) := by decide +kernel
theorem dL_acts_806 : decode cL_acts 806 = .ok (.aload_n 0, 1) := by decide +kernel
theorem dL_acts_807 : decode cL_acts 807 = .ok (.iload 11, 2) := by decide +kernel
theorem dL_acts_809 : decode cL_acts 809 = .ok (.invokevirtual 85, 3) := by decide +kernel
theorem dL_acts_812 : decode cL_acts 812 = .ok (.ldc 33, 2) := by decide +kernel
theorem dL_acts_814 : decode cL_acts 814 = .ok (.if_icmp .ne 7, 3) := by decide +kernel
theorem dL_acts_817 : decode cL_acts 817 = .ok (.iconst 1, 1) := by decide +kernel
theorem dL_acts_818 : decode cL_acts 818 = .ok (.goto 4, 3) := by decide +kernel
theorem dL_acts_821 : decode cL_acts 821 = .ok (.iconst 0, 1) := by decide +kernel
theorem dL_acts_822 : decode cL_acts 822 = .ok (.ireturn, 1) := by decide +kernel
theorem dL_acts_823 : decode cL_acts 823 = .ok (.aload 4, 2) := by decide +kernel
theorem dL_acts_825 : decode cL_acts 825 = .ok (.iload 11, 2) := by decide +kernel
theorem dL_acts_827 : decode cL_acts 827 = .ok (.aload_n 2, 1) := by decide +kernel
theorem dL_acts_828 : decode cL_acts 828 = .ok (.iload 11, 2) := by decide +kernel
theorem dL_acts_830 : decode cL_acts 830 = .ok (.iaload, 1) := by decide +kernel
theorem dL_acts_831 : decode cL_acts 831 = .ok (.iastore, 1) := by decide +kernel
theorem dL_acts_832 : decode cL_acts 832 = .ok (.aload 5, 2) := by decide +kernel
theorem dL_acts_834 : decode cL_acts 834 = .ok (.iload 11, 2) := by decide +kernel
theorem dL_acts_836 : decode cL_acts 836 = .ok (.aload_n 1, 1) := by decide +kernel
theorem dL_acts_837 : decode cL_acts 837 = .ok (.iconst 0, 1) := by decide +kernel
theorem dL_acts_838 : decode cL_acts 838 = .ok (.iaload, 1) := by decide +kernel
theorem dL_acts_839 : decode cL_acts 839 = .ok (.iastore, 1) := by decide +kernel
theorem dL_acts_840 : decode cL_acts 840 = .ok (.aload_n 0, 1) := by decide +kernel
theorem dL_acts_841 : decode cL_acts 841 = .ok (.iload 11, 2) := by decide +kernel
theorem dL_acts_843 : decode cL_acts 843 = .ok (.invokevirtual 85, 3) := by decide +kernel
theorem dL_acts_846 : decode cL_acts 846 = .ok (.aload_n 2, 1) := by decide +kernel
theorem dL_acts_847 : decode cL_acts 847 = .ok (.iload 11, 2) := by decide +kernel
theorem dL_acts_849 : decode cL_acts 849 = .ok (.iaload, 1) := by decide +kernel
theorem dL_acts_850 : decode cL_acts 850 = .ok (.if_icmp .ne 7, 3) := by decide +kernel
theorem dL_acts_853 : decode cL_acts 853 = .ok (.iconst 1, 1) := by decide +kernel
theorem dL_acts_854 : decode cL_acts 854 = .ok (.goto 4, 3) := by decide +kernel
theorem dL_acts_857 : decode cL_acts 857 = .ok (.iconst 0, 1) := by decide +kernel
theorem dL_acts_858 : decode cL_acts 858 = .ok (.ireturn, 1) := by decide +kernel
theorem dL_acts_859 : decode cL_acts 859 = .ok (.iconst 1, 1) := by decide +kernel
theorem dL_acts_860 : decode cL_acts 860 = .ok (.iload 9, 2) := by decide +kernel
theorem dL_acts_862 : decode cL_acts 862 = .ok (.iload 9, 2) := by decide +kernel
theorem dL_acts_864 : decode cL_acts 864 = .ok (.bipush 9, 2) := by decide +kernel
theorem dL_acts_866 : decode cL_acts 866 = .ok (.irem, 1) := by decide +kernel
theorem dL_acts_867 : decode cL_acts 867 = .ok (.ifCond .ne 8, 3) := by decide +kernel
theorem dL_acts_870 : decode cL_acts 870 = .ok (.bipush 60, 2) := by decide +kernel
theorem dL_acts_872 : decode cL_acts 872 = .ok (.goto 4, 3) := by decide +kernel
theorem dL_acts_875 : decode cL_acts 875 = .ok (.iconst 4, 1) := by decide +kernel
theorem dL_acts_876 : decode cL_acts 876 = .ok (.irem, 1) := by decide +kernel
theorem dL_acts_877 : decode cL_acts 877 = .ok (.iadd, 1) := by decide +kernel
theorem dL_acts_878 : decode cL_acts 878 = .ok (.istore 13, 2) := by decide +kernel
theorem dL_acts_880 : decode cL_acts 880 = .ok (.aload_n 1, 1) := by decide +kernel
theorem dL_acts_881 : decode cL_acts 881 = .ok (.iconst 0, 1) := by decide +kernel
theorem dL_acts_882 : decode cL_acts 882 = .ok (.iaload, 1) := by decide +kernel
theorem dL_acts_883 : decode cL_acts 883 = .ok (.iload 13, 2) := by decide +kernel
theorem dL_acts_885 : decode cL_acts 885 = .ok (.iadd, 1) := by decide +kernel
theorem dL_acts_886 : decode cL_acts 886 = .ok (.sipush 2000, 3) := by decide +kernel
theorem dL_acts_889 : decode cL_acts 889 = .ok (.if_icmp .le 20, 3) := by decide +kernel
theorem dL_acts_892 : decode cL_acts 892 = .ok (.aload_n 0, 1) := by decide +kernel
theorem dL_acts_893 : decode cL_acts 893 = .ok (.iload 13, 2) := by decide +kernel
theorem dL_acts_895 : decode cL_acts 895 = .ok (.invokevirtual 88, 3) := by decide +kernel
theorem dL_acts_898 : decode cL_acts 898 = .ok (.ldc 33, 2) := by decide +kernel
theorem dL_acts_900 : decode cL_acts 900 = .ok (.if_icmp .ne 7, 3) := by decide +kernel
theorem dL_acts_903 : decode cL_acts 903 = .ok (.iconst 1, 1) := by decide +kernel
theorem dL_acts_904 : decode cL_acts 904 = .ok (.goto 4, 3) := by decide +kernel
theorem dL_acts_907 : decode cL_acts 907 = .ok (.iconst 0, 1) := by decide +kernel
theorem dL_acts_908 : decode cL_acts 908 = .ok (.ireturn, 1) := by decide +kernel
theorem dL_acts_909 : decode cL_acts 909 = .ok (.aload_n 1, 1) := by decide +kernel
theorem dL_acts_910 : decode cL_acts 910 = .ok (.iconst 0, 1) := by decide +kernel
theorem dL_acts_911 : decode cL_acts 911 = .ok (.dup2, 1) := by decide +kernel
theorem dL_acts_912 : decode cL_acts 912 = .ok (.iaload, 1) := by decide +kernel
theorem dL_acts_913 : decode cL_acts 913 = .ok (.iload 13, 2) := by decide +kernel
theorem dL_acts_915 : decode cL_acts 915 = .ok (.iadd, 1) := by decide +kernel
theorem dL_acts_916 : decode cL_acts 916 = .ok (.iastore, 1) := by decide +kernel
theorem dL_acts_917 : decode cL_acts 917 = .ok (.iconst 0, 1) := by decide +kernel
theorem dL_acts_918 : decode cL_acts 918 = .ok (.istore 14, 2) := by decide +kernel
theorem dL_acts_920 : decode cL_acts 920 = .ok (.iload 14, 2) := by decide +kernel
theorem dL_acts_922 : decode cL_acts 922 = .ok (.bipush 24, 2) := by decide +kernel
theorem dL_acts_924 : decode cL_acts 924 = .ok (.if_icmp .ge 23, 3) := by decide +kernel
theorem dL_acts_927 : decode cL_acts 927 = .ok (.aload_n 2, 1) := by decide +kernel
theorem dL_acts_928 : decode cL_acts 928 = .ok (.iload 14, 2) := by decide +kernel
theorem dL_acts_930 : decode cL_acts 930 = .ok (.dup2, 1) := by decide +kernel
theorem dL_acts_931 : decode cL_acts 931 = .ok (.iaload, 1) := by decide +kernel
theorem dL_acts_932 : decode cL_acts 932 = .ok (.aload_n 3, 1) := by decide +kernel
theorem dL_acts_933 : decode cL_acts 933 = .ok (.iload 14, 2) := by decide +kernel
theorem dL_acts_935 : decode cL_acts 935 = .ok (.iaload, 1) := by decide +kernel
theorem dL_acts_936 : decode cL_acts 936 = .ok (.iload 13, 2) := by decide +kernel
theorem dL_acts_938 : decode cL_acts 938 = .ok (.imul, 1) := by decide +kernel
end
section
theorem dL_acts_939 : decode cL_acts 939 = .ok (.iadd, 1) := by decide +kernel
theorem dL_acts_940 : decode cL_acts 940 = .ok (.iastore, 1) := by decide +kernel
theorem dL_acts_941 : decode cL_acts 941 = .ok (.iinc 14 1, 3) := by decide +kernel
theorem dL_acts_944 : decode cL_acts 944 = .ok (.goto (-24), 3) := by decide +kernel
theorem dL_acts_947 : decode cL_acts 947 = .ok (.aload_n 0, 1) := by decide +kernel
theorem dL_acts_948 : decode cL_acts 948 = .ok (.iload 13, 2) := by decide +kernel
theorem dL_acts_950 : decode cL_acts 950 = .ok (.invokevirtual 88, 3) := by decide +kernel
theorem dL_acts_953 : decode cL_acts 953 = .ok (.aload_n 1, 1) := by decide +kernel
theorem dL_acts_954 : decode cL_acts 954 = .ok (.iconst 0, 1) := by decide +kernel
theorem dL_acts_955 : decode cL_acts 955 = .ok (.iaload, 1) := by decide +kernel
theorem dL_acts_956 : decode cL_acts 956 = .ok (.if_icmp .ne 7, 3) := by decide +kernel
theorem dL_acts_959 : decode cL_acts 959 = .ok (.iconst 1, 1) := by decide +kernel
theorem dL_acts_960 : decode cL_acts 960 = .ok (.goto 4, 3) := by decide +kernel
theorem dL_acts_963 : decode cL_acts 963 = .ok (.iconst 0, 1) := by decide +kernel
theorem dL_acts_964 : decode cL_acts 964 = .ok (.ireturn, 1) := by decide +kernel
set_option maxRecDepth 20000 in
theorem ggL_isSo_L_gets : GoodIn wsL_isSo wsL_gets := goodIn_r _ [7, 8, 9, 6, 10] (by decide +kernel) (by decide +kernel)
set_option maxRecDepth 20000 in
theorem gL_isSo_L_gets : GoodIn wsL_isSo (va_wsS RL 15 yL_gets wsL_gets) := goodIn_app (goodIn_of _ (by decide +kernel)) ggL_isSo_L_gets
set_option maxRecDepth 20000 in
theorem ggL_isSo_L_who : GoodIn wsL_isSo wsL_who := goodIn_r _ [13] (by decide +kernel) (by decide +kernel)
set_option maxRecDepth 20000 in
theorem gL_isSo_L_who : GoodIn wsL_isSo (va_wsS RL 63 yL_who wsL_who) := goodIn_app (goodIn_of _ (by decide +kernel)) ggL_isSo_L_who
set_option maxRecDepth 20000 in
theorem ggL_isSo_X1_cell : GoodIn wsL_isSo wsX1_cell := goodIn_r _ [18, 19, 20, 21, 22, 23, 24, 25, 26, 27, 28, 29, 30, 17, 31, 32, 33, 34, 35, 36, 37, 38, 39, 40, 41, 42, 43, 44, 45, 46, 47, 48, 49, 50, 51, 52, 53, 54, 55, 56, 57, 58, 59, 60, 61, 62, 63, 64, 65, 171, 172, 173, 174, 175, 176, 177, 178, 179, 180, 181, 182, 183, 184, 185, 186, 187, 188, 189, 190, 191, 192] (by decide +kernel) (by decide +kernel)
set_option maxRecDepth 20000 in
theorem gL_isSo_X1_cell : GoodIn wsL_isSo (wsV RL 91 RX1 yX1_cell wsX1_cell) := goodIn_app (goodIn_of _ (by decide +kernel)) ggL_isSo_X1_cell
set_option maxRecDepth 20000 in
theorem ggL_isSo_X1_walker : GoodIn wsL_isSo wsX1_walker := goodIn_r _ [69, 19, 21, 36, 28, 62, 57, 26, 70, 71, 72, 73, 74, 17, 75, 76, 77, 78, 79, 80, 81, 82, 83, 84, 85, 86, 87, 88, 89, 90, 91, 92, 93, 171, 172, 173, 174, 175, 176, 177, 178, 179, 180, 181, 182, 183, 184, 185, 186, 187, 188, 189, 190, 191, 192] (by decide +kernel) (by decide +kernel)
set_option maxRecDepth 20000 in
theorem gL_isSo_X1_walker : GoodIn wsL_isSo (wsV RL 95 RX1 yX1_walker wsX1_walker) := goodIn_app (goodIn_of _ (by decide +kernel)) ggL_isSo_X1_walker
set_option maxRecDepth 20000 in
theorem ggL_isSo_X1_estimate : GoodIn wsL_isSo wsX1_estimate := goodIn_r _ [97, 19, 98, 72, 73, 74, 17, 75, 21, 76, 77, 78, 79, 80, 28, 57, 99, 100, 101, 102, 26, 62, 20, 27, 103, 104, 42, 105, 32, 33, 34, 35, 22, 36, 37, 38, 39, 40, 41, 43, 44, 45, 46, 47, 48, 49, 50, 51, 52, 53, 29, 30, 31, 54, 55, 56, 58, 59, 60, 61, 24, 171, 172, 173, 174, 175, 176, 177, 178, 179, 180, 181, 182, 183, 184, 185, 186, 187, 188, 189, 190, 191, 192] (by decide +kernel) (by decide +kernel)
set_option maxRecDepth 20000 in
theorem gL_isSo_X1_estimate : GoodIn wsL_isSo (wsV RL 98 RX1 yX1_estimate wsX1_estimate) := goodIn_app (goodIn_of _ (by decide +kernel)) ggL_isSo_X1_estimate
set_option maxRecDepth 20000 in
theorem ggL_isSo_L_estimate : GoodIn wsL_isSo wsL_estimate := goodIn_r _ [108, 8, 9, 6, 10, 4, 5, 7] (by decide +kernel) (by decide +kernel)
set_option maxRecDepth 20000 in
theorem gL_isSo_L_estimate : GoodIn wsL_isSo (va_wsS RL 42 yL_estimate wsL_estimate) := goodIn_app (goodIn_of _ (by decide +kernel)) ggL_isSo_L_estimate
set_option maxRecDepth 20000 in
theorem ggL_isSo_X1_certainty : GoodIn wsL_isSo wsX1_certainty := goodIn_r _ [112, 19, 98, 72, 73, 74, 17, 75, 21, 76, 77, 78, 79, 80, 28, 57, 113, 114, 115, 116, 117, 26, 70, 103, 104, 42, 105, 118, 119, 120, 121, 25, 40, 41, 43, 54, 55, 56, 29, 30, 31, 171, 172, 173, 174, 175, 176, 177, 178, 179, 180, 181, 182, 183, 184, 185, 186, 187, 188, 189, 190, 191, 192] (by decide +kernel) (by decide +kernel)
set_option maxRecDepth 20000 in
theorem gL_isSo_X1_certainty : GoodIn wsL_isSo (wsV RL 100 RX1 yX1_certainty wsX1_certainty) := goodIn_app (goodIn_of _ (by decide +kernel)) ggL_isSo_X1_certainty
set_option maxRecDepth 20000 in
theorem ggL_isSo_L_certainty : GoodIn wsL_isSo wsL_certainty := goodIn_r _ [124, 125, 126, 6, 127, 8, 9, 10] (by decide +kernel) (by decide +kernel)
set_option maxRecDepth 20000 in
theorem gL_isSo_L_certainty : GoodIn wsL_isSo (va_wsS RL 46 yL_certainty wsL_certainty) := goodIn_app (goodIn_of _ (by decide +kernel)) ggL_isSo_L_certainty
set_option maxRecDepth 20000 in
theorem ggL_isSo_X1_count : GoodIn wsL_isSo wsX1_count := goodIn_r _ [131, 21, 117, 76, 132, 26, 24, 133, 19, 134, 135, 136, 17, 137, 77, 78, 79, 80, 28, 57, 72, 73, 74, 75, 138, 139, 140, 141, 20, 27, 142, 143, 42, 144, 32, 33, 34, 35, 22, 36, 37, 38, 39, 40, 41, 43, 44, 45, 46, 47, 48, 49, 50, 51, 52, 53, 29, 30, 31, 54, 55, 56, 58, 59, 60, 61, 62, 145, 146, 147, 148, 149, 150, 151, 152, 153, 154, 155, 156, 157, 158, 159, 71, 93, 86, 87, 88, 160, 161, 162, 163, 81, 82, 83, 84, 85, 164, 165, 166, 167, 89, 90, 91, 92, 171, 172, 173, 174, 175, 176, 177, 178, 179, 180, 181, 182, 183, 184, 185, 186, 187, 188, 189, 190, 191, 192] (by decide +kernel) (by decide +kernel)
set_option maxRecDepth 20000 in
theorem gL_isSo_X1_count : GoodIn wsL_isSo (wsV RL 102 RX1 yX1_count wsX1_count) := goodIn_app (goodIn_of _ (by decide +kernel)) ggL_isSo_X1_count
set_option maxRecDepth 20000 in
theorem ggL_isSo_L_error : GoodIn wsL_isSo wsL_error := goodIn_r _ [170, 4, 5, 6, 7, 8, 9, 10] (by decide +kernel) (by decide +kernel)
set_option maxRecDepth 20000 in
theorem gL_isSo_L_error : GoodIn wsL_isSo (va_wsS RL 34 yL_error wsL_error) := goodIn_app (goodIn_of _ (by decide +kernel)) ggL_isSo_L_error
theorem dL_isSo_0 : decode cL_isSo 0 = .ok (.iconst 0, 1) := by decide +kernel
theorem dL_isSo_1 : decode cL_isSo 1 = .ok (.istore 8, 2) := by decide +kernel
theorem dL_isSo_3 : decode cL_isSo 3 = .ok (.iconst 0, 1) := by decide +kernel
theorem dL_isSo_4 : decode cL_isSo 4 = .ok (.istore 9, 2) := by decide +kernel
theorem dL_isSo_6 : decode cL_isSo 6 = .ok (.iconst 0, 1) := by decide +kernel
theorem dL_isSo_7 : decode cL_isSo 7 = .ok (.istore 10, 2) := by decide +kernel
theorem dL_isSo_9 : decode cL_isSo 9 = .ok (.iconst 0, 1) := by decide +kernel
theorem dL_isSo_10 : decode cL_isSo 10 = .ok (.istore 11, 2) := by decide +kernel
theorem dL_isSo_12 : decode cL_isSo 12 = .ok (.iconst 0, 1) := by decide +kernel
theorem dL_isSo_13 : decode cL_isSo 13 = .ok (.istore 12, 2) := by decide +kernel
theorem dL_isSo_15 : decode cL_isSo 15 = .ok (.iconst 0, 1) := by decide +kernel
theorem dL_isSo_16 : decode cL_isSo 16 = .ok (.istore 13, 2) := by decide +kernel
theorem dL_isSo_18 : decode cL_isSo 18 = .ok (.iconst 1, 1) := by decide +kernel
theorem dL_isSo_19 : decode cL_isSo 19 = .ok (.istore 14, 2) := by decide +kernel
theorem dL_isSo_21 : decode cL_isSo 21 = .ok (.iconst 0, 1) := by decide +kernel
theorem dL_isSo_22 : decode cL_isSo 22 = .ok (.istore 15, 2) := by decide +kernel
theorem dL_isSo_24 : decode cL_isSo 24 = .ok (.iload 15, 2) := by decide +kernel
theorem dL_isSo_26 : decode cL_isSo 26 = .ok (.bipush 24, 2) := by decide +kernel
theorem dL_isSo_28 : decode cL_isSo 28 = .ok (.if_icmp .ge 251, 3) := by decide +kernel
theorem dL_isSo_31 : decode cL_isSo 31 = .ok (.iload 14, 2) := by decide +kernel
theorem dL_isSo_33 : decode cL_isSo 33 = .ok (.ifCond .eq 246, 3) := by decide +kernel
theorem dL_isSo_36 : decode cL_isSo 36 = .ok (.aload_n 1, 1) := by decide +kernel
theorem dL_isSo_37 : decode cL_isSo 37 = .ok (.aload 6, 2) := by decide +kernel
theorem dL_isSo_39 : decode cL_isSo 39 = .ok (.iload 15, 2) := by decide +kernel
theorem dL_isSo_41 : decode cL_isSo 41 = .ok (.iconst 0, 1) := by decide +kernel
theorem dL_isSo_42 : decode cL_isSo 42 = .ok (.iconst (-1), 1) := by decide +kernel
theorem dL_isSo_43 : decode cL_isSo 43 = .ok (.invokestatic 15, 3) := by decide +kernel
theorem dL_isSo_46 : decode cL_isSo 46 = .ok (.aload_n 2, 1) := by decide +kernel
theorem dL_isSo_47 : decode cL_isSo 47 = .ok (.iload 15, 2) := by decide +kernel
theorem dL_isSo_49 : decode cL_isSo 49 = .ok (.iaload, 1) := by decide +kernel
theorem dL_isSo_50 : decode cL_isSo 50 = .ok (.iadd, 1) := by decide +kernel
theorem dL_isSo_51 : decode cL_isSo 51 = .ok (.istore 16, 2) := by decide +kernel
theorem dL_isSo_53 : decode cL_isSo 53 = .ok (.aload_n 1, 1) := by decide +kernel
theorem dL_isSo_54 : decode cL_isSo 54 = .ok (.aload 6, 2) := by decide +kernel
theorem dL_isSo_56 : decode cL_isSo 56 = .ok (.iload 15, 2) := by decide +kernel
theorem dL_isSo_58 : decode cL_isSo 58 = .ok (.iconst 1, 1) := by decide +kernel
theorem dL_isSo_59 : decode cL_isSo 59 = .ok (.invokestatic 63, 3) := by decide +kernel
theorem dL_isSo_62 : decode cL_isSo 62 = .ok (.istore 17, 2) := by decide +kernel
theorem dL_isSo_64 : decode cL_isSo 64 = .ok (.aload_n 1, 1) := by decide +kernel
theorem dL_isSo_65 : decode cL_isSo 65 = .ok (.aload 6, 2) := by decide +kernel
theorem dL_isSo_67 : decode cL_isSo 67 = .ok (.iload 15, 2) := by decide +kernel
theorem dL_isSo_69 : decode cL_isSo 69 = .ok (.iconst 3, 1) := by decide +kernel
theorem dL_isSo_70 : decode cL_isSo 70 = .ok (.invokestatic 63, 3) := by decide +kernel
theorem dL_isSo_73 : decode cL_isSo 73 = .ok (.istore 18, 2) := by decide +kernel
theorem dL_isSo_75 : decode cL_isSo 75 = .ok (.iload 8, 2) := by decide +kernel
theorem dL_isSo_77 : decode cL_isSo 77 = .ok (.iload 16, 2) := by decide +kernel
theorem dL_isSo_79 : decode cL_isSo 79 = .ok (.iadd, 1) := by decide +kernel
theorem dL_isSo_80 : decode cL_isSo 80 = .ok (.istore 8, 2) := by decide +kernel
theorem dL_isSo_82 : decode cL_isSo 82 = .ok (.iload 9, 2) := by decide +kernel
theorem dL_isSo_84 : decode cL_isSo 84 = .ok (.aload 4, 2) := by decide +kernel
theorem dL_isSo_86 : decode cL_isSo 86 = .ok (.iload 15, 2) := by decide +kernel
theorem dL_isSo_88 : decode cL_isSo 88 = .ok (.iaload, 1) := by decide +kernel
theorem dL_isSo_89 : decode cL_isSo 89 = .ok (.iadd, 1) := by decide +kernel
theorem dL_isSo_90 : decode cL_isSo 90 = .ok (.istore 9, 2) := by decide +kernel
theorem dL_isSo_92 : decode cL_isSo 92 = .ok (.iload 10, 2) := by decide +kernel
theorem dL_isSo_94 : decode cL_isSo 94 = .ok (.aload_n 2, 1) := by decide +kernel
theorem dL_isSo_95 : decode cL_isSo 95 = .ok (.iload 15, 2) := by decide +kernel
theorem dL_isSo_97 : decode cL_isSo 97 = .ok (.iaload, 1) := by decide +kernel
theorem dL_isSo_98 : decode cL_isSo 98 = .ok (.iadd, 1) := by decide +kernel
theorem dL_isSo_99 : decode cL_isSo 99 = .ok (.istore 10, 2) := by decide +kernel
theorem dL_isSo_101 : decode cL_isSo 101 = .ok (.aload_n 0, 1) := by decide +kernel
theorem dL_isSo_102 : decode cL_isSo 102 = .ok (.iload 15, 2) := by decide +kernel
theorem dL_isSo_104 : decode cL_isSo 104 = .ok (.iconst 0, 1) := by decide +kernel
theorem dL_isSo_105 : decode cL_isSo 105 = .ok (.invokevirtual 91, 3) := by decide +kernel
theorem dL_isSo_108 : decode cL_isSo 108 = .ok (.iload 16, 2) := by decide +kernel
theorem dL_isSo_110 : decode cL_isSo 110 = .ok (.if_icmp .ne 160, 3) := by decide +kernel
theorem dL_isSo_113 : decode cL_isSo 113 = .ok (.aload_n 0, 1) := by decide +kernel
theorem dL_isSo_114 : decode cL_isSo 114 = .ok (.iload 15, 2) := by decide +kernel
theorem dL_isSo_116 : decode cL_isSo 116 = .ok (.iconst 1, 1) := by decide +kernel
theorem dL_isSo_117 : decode cL_isSo 117 = .ok (.invokevirtual 91, 3) := by decide +kernel
theorem dL_isSo_120 : decode cL_isSo 120 = .ok (.aload_n 2, 1) := by decide +kernel
theorem dL_isSo_121 : decode cL_isSo 121 = .ok (.iload 15, 2) := by decide +kernel
theorem dL_isSo_123 : decode cL_isSo 123 = .ok (.iaload, 1) := by decide +kernel
theorem dL_isSo_124 : decode cL_isSo 124 = .ok (.if_icmp .ne 146, 3) := by decide +kernel
theorem dL_isSo_127 : decode cL_isSo 127 = .ok (.aload_n 0, 1) := by decide +kernel
theorem dL_isSo_128 : decode cL_isSo 128 = .ok (.iload 15, 2) := by decide +kernel
theorem dL_isSo_130 : decode cL_isSo 130 = .ok (.iconst 2, 1) := by decide +kernel
theorem dL_isSo_131 : decode cL_isSo 131 = .ok (.invokevirtual 91, 3) := by decide +kernel
theorem dL_isSo_134 : decode cL_isSo 134 = .ok (.aload_n 3, 1) := by decide +kernel
theorem dL_isSo_135 : decode cL_isSo 135 = .ok (.iload 15, 2) := by decide +kernel
theorem dL_isSo_137 : decode cL_isSo 137 = .ok (.iaload, 1) := by decide +kernel
theorem dL_isSo_138 : decode cL_isSo 138 = .ok (.if_icmp .ne 132, 3) := by decide +kernel
theorem dL_isSo_141 : decode cL_isSo 141 = .ok (.aload_n 0, 1) := by decide +kernel
theorem dL_isSo_142 : decode cL_isSo 142 = .ok (.iload 15, 2) := by decide +kernel
theorem dL_isSo_144 : decode cL_isSo 144 = .ok (.iconst 3, 1) := by decide +kernel
theorem dL_isSo_145 : decode cL_isSo 145 = .ok (.invokevirtual 91, 3) := by decide +kernel
theorem dL_isSo_148 : decode cL_isSo 148 = .ok (.aload 4, 2) := by decide +kernel
theorem dL_isSo_150 : decode cL_isSo 150 = .ok (.iload 15, 2) := by decide +kernel
theorem dL_isSo_152 : decode cL_isSo 152 = .ok (.iaload, 1) := by decide +kernel
theorem dL_isSo_153 : decode cL_isSo 153 = .ok (.if_icmp .ne 117, 3) := by decide +kernel
theorem dL_isSo_156 : decode cL_isSo 156 = .ok (.aload_n 0, 1) := by decide +kernel
theorem dL_isSo_157 : decode cL_isSo 157 = .ok (.iload 15, 2) := by decide +kernel
theorem dL_isSo_159 : decode cL_isSo 159 = .ok (.iconst 4, 1) := by decide +kernel
theorem dL_isSo_160 : decode cL_isSo 160 = .ok (.invokevirtual 91, 3) := by decide +kernel
theorem dL_isSo_163 : decode cL_isSo 163 = .ok (.aload 5, 2) := by decide +kernel
theorem dL_isSo_165 : decode cL_isSo 165 = .ok (.iload 15, 2) := by decide +kernel
theorem dL_isSo_167 : decode cL_isSo 167 = .ok (.iaload, 1) := by decide +kernel
theorem dL_isSo_168 : decode cL_isSo 168 = .ok (.if_icmp .ne 102, 3) := by decide +kernel
theorem dL_isSo_171 : decode cL_isSo 171 = .ok (.aload_n 0, 1) := by decide +kernel
theorem dL_isSo_172 : decode cL_isSo 172 = .ok (.iload 15, 2) := by decide +kernel
theorem dL_isSo_174 : decode cL_isSo 174 = .ok (.iconst 5, 1) := by decide +kernel
theorem dL_isSo_175 : decode cL_isSo 175 = .ok (.invokevirtual 91, 3) := by decide +kernel
theorem dL_isSo_178 : decode cL_isSo 178 = .ok (.aload_n 1, 1) := by decide +kernel
theorem dL_isSo_179 : decode cL_isSo 179 = .ok (.aload 6, 2) := by decide +kernel
theorem dL_isSo_181 : decode cL_isSo 181 = .ok (.iload 15, 2) := by decide +kernel
theorem dL_isSo_183 : decode cL_isSo 183 = .ok (.iconst 2, 1) := by decide +kernel
theorem dL_isSo_184 : decode cL_isSo 184 = .ok (.iconst (-1), 1) := by decide +kernel
theorem dL_isSo_185 : decode cL_isSo 185 = .ok (.invokestatic 15, 3) := by decide +kernel
theorem dL_isSo_188 : decode cL_isSo 188 = .ok (.aload 4, 2) := by decide +kernel
theorem dL_isSo_190 : decode cL_isSo 190 = .ok (.iload 15, 2) := by decide +kernel
theorem dL_isSo_192 : decode cL_isSo 192 = .ok (.iaload, 1) := by decide +kernel
theorem dL_isSo_193 : decode cL_isSo 193 = .ok (.iadd, 1) := by decide +kernel
theorem dL_isSo_194 : decode cL_isSo 194 = .ok (.if_icmp .ne 76, 3) := by decide +kernel
theorem dL_isSo_197 : decode cL_isSo 197 = .ok (.aload_n 0, 1) := by decide +kernel
theorem dL_isSo_198 : decode cL_isSo 198 = .ok (.iload 15, 2) := by decide +kernel
theorem dL_isSo_200 : decode cL_isSo 200 = .ok (.bipush 6, 2) := by decide +kernel
theorem dL_isSo_202 : decode cL_isSo 202 = .ok (.invokevirtual 91, 3) := by decide +kernel
theorem dL_isSo_205 : decode cL_isSo 205 = .ok (.iload 17, 2) := by decide +kernel
theorem dL_isSo_207 : decode cL_isSo 207 = .ok (.ifCond .ge 8, 3) := by decide +kernel
theorem dL_isSo_210 : decode cL_isSo 210 = .ok (.ldc 94, 2) := by decide +kernel
theorem dL_isSo_212 : decode cL_isSo 212 = .ok (.goto 5, 3) := by decide +kernel
theorem dL_isSo_215 : decode cL_isSo 215 = .ok (.iload 17, 2) := by decide +kernel
theorem dL_isSo_217 : decode cL_isSo 217 = .ok (.if_icmp .ne 53, 3) := by decide +kernel
theorem dL_isSo_220 : decode cL_isSo 220 = .ok (.aload_n 0, 1) := by decide +kernel
theorem dL_isSo_221 : decode cL_isSo 221 = .ok (.iload 15, 2) := by decide +kernel
theorem dL_isSo_223 : decode cL_isSo 223 = .ok (.bipush 7, 2) := by decide +kernel
theorem dL_isSo_225 : decode cL_isSo 225 = .ok (.invokevirtual 91, 3) := by decide +kernel
theorem dL_isSo_228 : decode cL_isSo 228 = .ok (.iload 18, 2) := by decide +kernel
theorem dL_isSo_230 : decode cL_isSo 230 = .ok (.ifCond .ge 8, 3) := by decide +kernel
theorem dL_isSo_233 : decode cL_isSo 233 = .ok (.ldc 94, 2) := by decide +kernel
theorem dL_isSo_235 : decode cL_isSo 235 = .ok (.goto 5, 3) := by decide +kernel
theorem dL_isSo_238 : decode cL_isSo 238 = .ok (.iload 18, 2) := by decide +kernel
theorem dL_isSo_240 : decode cL_isSo 240 = .ok (.if_icmp .ne 30, 3) := by decide +kernel
theorem dL_isSo_243 : decode cL_isSo 243 = .ok (.iload 17, 2) := by decide +kernel
theorem dL_isSo_245 : decode cL_isSo 245 = .ok (.ifCond .ge 7, 3) := by decide +kernel
theorem dL_isSo_248 : decode cL_isSo 248 = .ok (.iconst 1, 1) := by decide +kernel
theorem dL_isSo_249 : decode cL_isSo 249 = .ok (.goto 4, 3) := by decide +kernel
theorem dL_isSo_252 : decode cL_isSo 252 = .ok (.iconst 0, 1) := by decide +kernel
theorem dL_isSo_253 : decode cL_isSo 253 = .ok (.iload 18, 2) := by decide +kernel
theorem dL_isSo_255 : decode cL_isSo 255 = .ok (.ifCond .ge 7, 3) := by decide +kernel
theorem dL_isSo_258 : decode cL_isSo 258 = .ok (.iconst 1, 1) := by decide +kernel
theorem dL_isSo_259 : decode cL_isSo 259 = .ok (.goto 4, 3) := by decide +kernel
theorem dL_isSo_262 : decode cL_isSo 262 = .ok (.iconst 0, 1) := by decide +kernel
theorem dL_isSo_263 : decode cL_isSo 263 = .ok (.if_icmp .ne 7, 3) := by decide +kernel
theorem dL_isSo_266 : decode cL_isSo 266 = .ok (.iconst 1, 1) := by decide +kernel
theorem dL_isSo_267 : decode cL_isSo 267 = .ok (.goto 4, 3) := by decide +kernel
theorem dL_isSo_270 : decode cL_isSo 270 = .ok (.iconst 0, 1) := by decide +kernel
theorem dL_isSo_271 : decode cL_isSo 271 = .ok (.istore 14, 2) := by decide +kernel
theorem dL_isSo_273 : decode cL_isSo 273 = .ok (.iinc 15 1, 3) := by decide +kernel
theorem dL_isSo_276 : decode cL_isSo 276 = .ok (.goto (-252), 3) := by decide +kernel
theorem dL_isSo_279 : decode cL_isSo 279 = .ok (.iconst 0, 1) := by decide +kernel
theorem dL_isSo_280 : decode cL_isSo 280 = .ok (.istore 15, 2) := by decide +kernel
theorem dL_isSo_282 : decode cL_isSo 282 = .ok (.iload 15, 2) := by decide +kernel
theorem dL_isSo_284 : decode cL_isSo 284 = .ok (.aload_n 1, 1) := by decide +kernel
theorem dL_isSo_285 : decode cL_isSo 285 = .ok (.iconst 1, 1) := by decide +kernel
theorem dL_isSo_286 : decode cL_isSo 286 = .ok (.iaload, 1) := by decide +kernel
theorem dL_isSo_287 : decode cL_isSo 287 = .ok (.if_icmp .ge 373, 3) := by decide +kernel
theorem dL_isSo_290 : decode cL_isSo 290 = .ok (.iload 14, 2) := by decide +kernel
theorem dL_isSo_292 : decode cL_isSo 292 = .ok (.ifCond .eq 368, 3) := by decide +kernel
theorem dL_isSo_295 : decode cL_isSo 295 = .ok (.aload 6, 2) := by decide +kernel
theorem dL_isSo_297 : decode cL_isSo 297 = .ok (.iconst 5, 1) := by decide +kernel
theorem dL_isSo_298 : decode cL_isSo 298 = .ok (.iload 15, 2) := by decide +kernel
theorem dL_isSo_300 : decode cL_isSo 300 = .ok (.imul, 1) := by decide +kernel
theorem dL_isSo_301 : decode cL_isSo 301 = .ok (.iconst 1, 1) := by decide +kernel
theorem dL_isSo_302 : decode cL_isSo 302 = .ok (.iadd, 1) := by decide +kernel
theorem dL_isSo_303 : decode cL_isSo 303 = .ok (.iaload, 1) := by decide +kernel
theorem dL_isSo_304 : decode cL_isSo 304 = .ok (.ifCond .lt 7, 3) := by decide +kernel
theorem dL_isSo_307 : decode cL_isSo 307 = .ok (.iconst 1, 1) := by decide +kernel
theorem dL_isSo_308 : decode cL_isSo 308 = .ok (.goto 4, 3) := by decide +kernel
theorem dL_isSo_311 : decode cL_isSo 311 = .ok (.iconst 0, 1) := by decide +kernel
theorem dL_isSo_312 : decode cL_isSo 312 = .ok (.istore 16, 2) := by decide +kernel
theorem dL_isSo_314 : decode cL_isSo 314 = .ok (.iload 12, 2) := by decide +kernel
theorem dL_isSo_316 : decode cL_isSo 316 = .ok (.iload 16, 2) := by decide +kernel
theorem dL_isSo_318 : decode cL_isSo 318 = .ok (.ifCond .eq 7, 3) := by decide +kernel
theorem dL_isSo_321 : decode cL_isSo 321 = .ok (.iconst 1, 1) := by decide +kernel
theorem dL_isSo_322 : decode cL_isSo 322 = .ok (.goto 4, 3) := by decide +kernel
theorem dL_isSo_325 : decode cL_isSo 325 = .ok (.iconst 0, 1) := by decide +kernel
theorem dL_isSo_326 : decode cL_isSo 326 = .ok (.iadd, 1) := by decide +kernel
theorem dL_isSo_327 : decode cL_isSo 327 = .ok (.istore 12, 2) := by decide +kernel
theorem dL_isSo_329 : decode cL_isSo 329 = .ok (.iload 13, 2) := by decide +kernel
theorem dL_isSo_331 : decode cL_isSo 331 = .ok (.aload 6, 2) := by decide +kernel
theorem dL_isSo_333 : decode cL_isSo 333 = .ok (.iconst 5, 1) := by decide +kernel
theorem dL_isSo_334 : decode cL_isSo 334 = .ok (.iload 15, 2) := by decide +kernel
theorem dL_isSo_336 : decode cL_isSo 336 = .ok (.imul, 1) := by decide +kernel
theorem dL_isSo_337 : decode cL_isSo 337 = .ok (.iconst 1, 1) := by decide +kernel
theorem dL_isSo_338 : decode cL_isSo 338 = .ok (.iadd, 1) := by decide +kernel
theorem dL_isSo_339 : decode cL_isSo 339 = .ok (.iaload, 1) := by decide +kernel
theorem dL_isSo_340 : decode cL_isSo 340 = .ok (.aload 6, 2) := by decide +kernel
theorem dL_isSo_342 : decode cL_isSo 342 = .ok (.iconst 5, 1) := by decide +kernel
theorem dL_isSo_343 : decode cL_isSo 343 = .ok (.iload 15, 2) := by decide +kernel
theorem dL_isSo_345 : decode cL_isSo 345 = .ok (.imul, 1) := by decide +kernel
theorem dL_isSo_346 : decode cL_isSo 346 = .ok (.iconst 3, 1) := by decide +kernel
theorem dL_isSo_347 : decode cL_isSo 347 = .ok (.iadd, 1) := by decide +kernel
theorem dL_isSo_348 : decode cL_isSo 348 = .ok (.iaload, 1) := by decide +kernel
theorem dL_isSo_349 : decode cL_isSo 349 = .ok (.if_icmp .eq 7, 3) := by decide +kernel
theorem dL_isSo_352 : decode cL_isSo 352 = .ok (.iconst 1, 1) := by decide +kernel
theorem dL_isSo_353 : decode cL_isSo 353 = .ok (.goto 4, 3) := by decide +kernel
theorem dL_isSo_356 : decode cL_isSo 356 = .ok (.iconst 0, 1) := by decide +kernel
theorem dL_isSo_357 : decode cL_isSo 357 = .ok (.iadd, 1) := by decide +kernel
theorem dL_isSo_358 : decode cL_isSo 358 = .ok (.istore 13, 2) := by decide +kernel
theorem dL_isSo_360 : decode cL_isSo 360 = .ok (.iload 11, 2) := by decide +kernel
theorem dL_isSo_362 : decode cL_isSo 362 = .ok (.iload 16, 2) := by decide +kernel
theorem dL_isSo_364 : decode cL_isSo 364 = .ok (.ifCond .eq 13, 3) := by decide +kernel
theorem dL_isSo_367 : decode cL_isSo 367 = .ok (.aload 6, 2) := by decide +kernel
theorem dL_isSo_369 : decode cL_isSo 369 = .ok (.iconst 5, 1) := by decide +kernel
theorem dL_isSo_370 : decode cL_isSo 370 = .ok (.iload 15, 2) := by decide +kernel
theorem dL_isSo_372 : decode cL_isSo 372 = .ok (.imul, 1) := by decide +kernel
theorem dL_isSo_373 : decode cL_isSo 373 = .ok (.iaload, 1) := by decide +kernel
theorem dL_isSo_374 : decode cL_isSo 374 = .ok (.goto 4, 3) := by decide +kernel
theorem dL_isSo_377 : decode cL_isSo 377 = .ok (.iconst 0, 1) := by decide +kernel
theorem dL_isSo_378 : decode cL_isSo 378 = .ok (.iadd, 1) := by decide +kernel
theorem dL_isSo_379 : decode cL_isSo 379 = .ok (.istore 11, 2) := by decide +kernel
theorem dL_isSo_381 : decode cL_isSo 381 = .ok (.aload_n 0, 1) := by decide +kernel
theorem dL_isSo_382 : decode cL_isSo 382 = .ok (.iload 15, 2) := by decide +kernel
theorem dL_isSo_384 : decode cL_isSo 384 = .ok (.iconst 0, 1) := by decide +kernel
theorem dL_isSo_385 : decode cL_isSo 385 = .ok (.invokevirtual 95, 3) := by decide +kernel
theorem dL_isSo_388 : decode cL_isSo 388 = .ok (.aload 6, 2) := by decide +kernel
theorem dL_isSo_390 : decode cL_isSo 390 = .ok (.iconst 5, 1) := by decide +kernel
theorem dL_isSo_391 : decode cL_isSo 391 = .ok (.iload 15, 2) := by decide +kernel
theorem dL_isSo_393 : decode cL_isSo 393 = .ok (.imul, 1) := by decide +kernel
theorem dL_isSo_394 : decode cL_isSo 394 = .ok (.iaload, 1) := by decide +kernel
theorem dL_isSo_395 : decode cL_isSo 395 = .ok (.if_icmp .ne 185, 3) := by decide +kernel
theorem dL_isSo_398 : decode cL_isSo 398 = .ok (.aload_n 0, 1) := by decide +kernel
theorem dL_isSo_399 : decode cL_isSo 399 = .ok (.iload 15, 2) := by decide +kernel
theorem dL_isSo_401 : decode cL_isSo 401 = .ok (.iconst 1, 1) := by decide +kernel
theorem dL_isSo_402 : decode cL_isSo 402 = .ok (.invokevirtual 95, 3) := by decide +kernel
theorem dL_isSo_405 : decode cL_isSo 405 = .ok (.iload 16, 2) := by decide +kernel
theorem dL_isSo_407 : decode cL_isSo 407 = .ok (.ifCond .eq 15, 3) := by decide +kernel
theorem dL_isSo_410 : decode cL_isSo 410 = .ok (.aload 6, 2) := by decide +kernel
theorem dL_isSo_412 : decode cL_isSo 412 = .ok (.iconst 5, 1) := by decide +kernel
theorem dL_isSo_413 : decode cL_isSo 413 = .ok (.iload 15, 2) := by decide +kernel
theorem dL_isSo_415 : decode cL_isSo 415 = .ok (.imul, 1) := by decide +kernel
theorem dL_isSo_416 : decode cL_isSo 416 = .ok (.iconst 1, 1) := by decide +kernel
theorem dL_isSo_417 : decode cL_isSo 417 = .ok (.iadd, 1) := by decide +kernel
theorem dL_isSo_418 : decode cL_isSo 418 = .ok (.iaload, 1) := by decide +kernel
theorem dL_isSo_419 : decode cL_isSo 419 = .ok (.goto 5, 3) := by decide +kernel
theorem dL_isSo_422 : decode cL_isSo 422 = .ok (.ldc 94, 2) := by decide +kernel
theorem dL_isSo_424 : decode cL_isSo 424 = .ok (.if_icmp .ne 156, 3) := by decide +kernel
theorem dL_isSo_427 : decode cL_isSo 427 = .ok (.aload_n 0, 1) := by decide +kernel
theorem dL_isSo_428 : decode cL_isSo 428 = .ok (.iload 15, 2) := by decide +kernel
theorem dL_isSo_430 : decode cL_isSo 430 = .ok (.iconst 2, 1) := by decide +kernel
theorem dL_isSo_431 : decode cL_isSo 431 = .ok (.invokevirtual 95, 3) := by decide +kernel
theorem dL_isSo_434 : decode cL_isSo 434 = .ok (.iload 16, 2) := by decide +kernel
theorem dL_isSo_436 : decode cL_isSo 436 = .ok (.ifCond .eq 15, 3) := by decide +kernel
theorem dL_isSo_439 : decode cL_isSo 439 = .ok (.aload 6, 2) := by decide +kernel
theorem dL_isSo_441 : decode cL_isSo 441 = .ok (.iconst 5, 1) := by decide +kernel
theorem dL_isSo_442 : decode cL_isSo 442 = .ok (.iload 15, 2) := by decide +kernel
theorem dL_isSo_444 : decode cL_isSo 444 = .ok (.imul, 1) := by decide +kernel
theorem dL_isSo_445 : decode cL_isSo 445 = .ok (.iconst 2, 1) := by decide +kernel
theorem dL_isSo_446 : decode cL_isSo 446 = .ok (.iadd, 1) := by decide +kernel
theorem dL_isSo_447 : decode cL_isSo 447 = .ok (.iaload, 1) := by decide +kernel
theorem dL_isSo_448 : decode cL_isSo 448 = .ok (.goto 5, 3) := by decide +kernel
theorem dL_isSo_451 : decode cL_isSo 451 = .ok (.ldc 94, 2) := by decide +kernel
theorem dL_isSo_453 : decode cL_isSo 453 = .ok (.if_icmp .ne 127, 3) := by decide +kernel
theorem dL_isSo_456 : decode cL_isSo 456 = .ok (.aload_n 0, 1) := by decide +kernel
theorem dL_isSo_457 : decode cL_isSo 457 = .ok (.iload 15, 2) := by decide +kernel
theorem dL_isSo_459 : decode cL_isSo 459 = .ok (.iconst 3, 1) := by decide +kernel
theorem dL_isSo_460 : decode cL_isSo 460 = .ok (.invokevirtual 95, 3) := by decide +kernel
theorem dL_isSo_463 : decode cL_isSo 463 = .ok (.iload 16, 2) := by decide +kernel
theorem dL_isSo_465 : decode cL_isSo 465 = .ok (.ifCond .eq 15, 3) := by decide +kernel
theorem dL_isSo_468 : decode cL_isSo 468 = .ok (.aload 6, 2) := by decide +kernel
theorem dL_isSo_470 : decode cL_isSo 470 = .ok (.iconst 5, 1) := by decide +kernel
theorem dL_isSo_471 : decode cL_isSo 471 = .ok (.iload 15, 2) := by decide +kernel
theorem dL_isSo_473 : decode cL_isSo 473 = .ok (.imul, 1) := by decide +kernel
theorem dL_isSo_474 : decode cL_isSo 474 = .ok (.iconst 3, 1) := by decide +kernel
theorem dL_isSo_475 : decode cL_isSo 475 = .ok (.iadd, 1) := by decide +kernel
theorem dL_isSo_476 : decode cL_isSo 476 = .ok (.iaload, 1) := by decide +kernel
theorem dL_isSo_477 : decode cL_isSo 477 = .ok (.goto 5, 3) := by decide +kernel
theorem dL_isSo_480 : decode cL_isSo 480 = .ok (.ldc 94, 2) := by decide +kernel
theorem dL_isSo_482 : decode cL_isSo 482 = .ok (.if_icmp .ne 98, 3) := by decide +kernel
theorem dL_isSo_485 : decode cL_isSo 485 = .ok (.aload_n 0, 1) := by decide +kernel
theorem dL_isSo_486 : decode cL_isSo 486 = .ok (.iload 15, 2) := by decide +kernel
theorem dL_isSo_488 : decode cL_isSo 488 = .ok (.iconst 4, 1) := by decide +kernel
theorem dL_isSo_489 : decode cL_isSo 489 = .ok (.invokevirtual 95, 3) := by decide +kernel
theorem dL_isSo_492 : decode cL_isSo 492 = .ok (.aload 6, 2) := by decide +kernel
theorem dL_isSo_494 : decode cL_isSo 494 = .ok (.iconst 5, 1) := by decide +kernel
theorem dL_isSo_495 : decode cL_isSo 495 = .ok (.iload 15, 2) := by decide +kernel
theorem dL_isSo_497 : decode cL_isSo 497 = .ok (.imul, 1) := by decide +kernel
theorem dL_isSo_498 : decode cL_isSo 498 = .ok (.iconst 4, 1) := by decide +kernel
theorem dL_isSo_499 : decode cL_isSo 499 = .ok (.iadd, 1) := by decide +kernel
theorem dL_isSo_500 : decode cL_isSo 500 = .ok (.iaload, 1) := by decide +kernel
theorem dL_isSo_501 : decode cL_isSo 501 = .ok (.if_icmp .ne 79, 3) := by decide +kernel
theorem dL_isSo_504 : decode cL_isSo 504 = .ok (.aload_n 0, 1) := by decide +kernel
theorem dL_isSo_505 : decode cL_isSo 505 = .ok (.iload 15, 2) := by decide +kernel
theorem dL_isSo_507 : decode cL_isSo 507 = .ok (.iconst 5, 1) := by decide +kernel
theorem dL_isSo_508 : decode cL_isSo 508 = .ok (.invokevirtual 95, 3) := by decide +kernel
theorem dL_isSo_511 : decode cL_isSo 511 = .ok (.aload 7, 2) := by decide +kernel
theorem dL_isSo_513 : decode cL_isSo 513 = .ok (.iconst 5, 1) := by decide +kernel
theorem dL_isSo_514 : decode cL_isSo 514 = .ok (.iload 15, 2) := by decide +kernel
theorem dL_isSo_516 : decode cL_isSo 516 = .ok (.imul, 1) := by decide +kernel
theorem dL_isSo_517 : decode cL_isSo 517 = .ok (.iaload, 1) := by decide +kernel
theorem dL_isSo_518 : decode cL_isSo 518 = .ok (.ifCond .ge 8, 3) := by decide +kernel
theorem dL_isSo_521 : decode cL_isSo 521 = .ok (.ldc 94, 2) := by decide +kernel
theorem dL_isSo_523 : decode cL_isSo 523 = .ok (.goto 10, 3) := by decide +kernel
theorem dL_isSo_526 : decode cL_isSo 526 = .ok (.aload 7, 2) := by decide +kernel
theorem dL_isSo_528 : decode cL_isSo 528 = .ok (.iconst 5, 1) := by decide +kernel
theorem dL_isSo_529 : decode cL_isSo 529 = .ok (.iload 15, 2) := by decide +kernel
theorem dL_isSo_531 : decode cL_isSo 531 = .ok (.imul, 1) := by decide +kernel
theorem dL_isSo_532 : decode cL_isSo 532 = .ok (.iaload, 1) := by decide +kernel
theorem dL_isSo_533 : decode cL_isSo 533 = .ok (.if_icmp .ne 47, 3) := by decide +kernel
theorem dL_isSo_536 : decode cL_isSo 536 = .ok (.aload_n 0, 1) := by decide +kernel
theorem dL_isSo_537 : decode cL_isSo 537 = .ok (.iload 15, 2) := by decide +kernel
theorem dL_isSo_539 : decode cL_isSo 539 = .ok (.bipush 6, 2) := by decide +kernel
theorem dL_isSo_541 : decode cL_isSo 541 = .ok (.invokevirtual 95, 3) := by decide +kernel
theorem dL_isSo_544 : decode cL_isSo 544 = .ok (.aload 7, 2) := by decide +kernel
theorem dL_isSo_546 : decode cL_isSo 546 = .ok (.iconst 5, 1) := by decide +kernel
theorem dL_isSo_547 : decode cL_isSo 547 = .ok (.iload 15, 2) := by decide +kernel
theorem dL_isSo_549 : decode cL_isSo 549 = .ok (.imul, 1) := by decide +kernel
theorem dL_isSo_550 : decode cL_isSo 550 = .ok (.iconst 1, 1) := by decide +kernel
theorem dL_isSo_551 : decode cL_isSo 551 = .ok (.iadd, 1) := by decide +kernel
theorem dL_isSo_552 : decode cL_isSo 552 = .ok (.iaload, 1) := by decide +kernel
theorem dL_isSo_553 : decode cL_isSo 553 = .ok (.if_icmp .ne 27, 3) := by decide +kernel
theorem dL_isSo_556 : decode cL_isSo 556 = .ok (.aload_n 0, 1) := by decide +kernel
theorem dL_isSo_557 : decode cL_isSo 557 = .ok (.iload 15, 2) := by decide +kernel
theorem dL_isSo_559 : decode cL_isSo 559 = .ok (.bipush 7, 2) := by decide +kernel
theorem dL_isSo_561 : decode cL_isSo 561 = .ok (.invokevirtual 95, 3) := by decide +kernel
theorem dL_isSo_564 : decode cL_isSo 564 = .ok (.aload 7, 2) := by decide +kernel
theorem dL_isSo_566 : decode cL_isSo 566 = .ok (.iconst 5, 1) := by decide +kernel
theorem dL_isSo_567 : decode cL_isSo 567 = .ok (.iload 15, 2) := by decide +kernel
theorem dL_isSo_569 : decode cL_isSo 569 = .ok (.imul, 1) := by decide +kernel
theorem dL_isSo_570 : decode cL_isSo 570 = .ok (.iconst 2, 1) := by decide +kernel
theorem dL_isSo_571 : decode cL_isSo 571 = .ok (.iadd, 1) := by decide +kernel
theorem dL_isSo_572 : decode cL_isSo 572 = .ok (.iaload, 1) := by decide +kernel
theorem dL_isSo_573 : decode cL_isSo 573 = .ok (.if_icmp .ne 7, 3) := by decide +kernel
theorem dL_isSo_576 : decode cL_isSo 576 = .ok (.iconst 1, 1) := by decide +kernel
theorem dL_isSo_577 : decode cL_isSo 577 = .ok (.goto 4, 3) := by decide +kernel
theorem dL_isSo_580 : decode cL_isSo 580 = .ok (.iconst 0, 1) := by decide +kernel
theorem dL_isSo_581 : decode cL_isSo 581 = .ok (.istore 14, 2) := by decide +kernel
theorem dL_isSo_583 : decode cL_isSo 583 = .ok (.iload 14, 2) := by decide +kernel
theorem dL_isSo_585 : decode cL_isSo 585 = .ok (.ifCond .eq 66, 3) := by decide +kernel
theorem dL_isSo_588 : decode cL_isSo 588 = .ok (.aload_n 0, 1) := by decide +kernel
theorem dL_isSo_589 : decode cL_isSo 589 = .ok (.iload 15, 2) := by decide +kernel
theorem dL_isSo_591 : decode cL_isSo 591 = .ok (.invokevirtual 98, 3) := by decide +kernel
theorem dL_isSo_594 : decode cL_isSo 594 = .ok (.iload 16, 2) := by decide +kernel
theorem dL_isSo_596 : decode cL_isSo 596 = .ok (.ifCond .eq 17, 3) := by decide +kernel
theorem dL_isSo_599 : decode cL_isSo 599 = .ok (.aload_n 1, 1) := by decide +kernel
theorem dL_isSo_600 : decode cL_isSo 600 = .ok (.aload_n 2, 1) := by decide +kernel
theorem dL_isSo_601 : decode cL_isSo 601 = .ok (.aload 4, 2) := by decide +kernel
theorem dL_isSo_603 : decode cL_isSo 603 = .ok (.aload 6, 2) := by decide +kernel
theorem dL_isSo_605 : decode cL_isSo 605 = .ok (.iload 15, 2) := by decide +kernel
theorem dL_isSo_607 : decode cL_isSo 607 = .ok (.invokestatic 42, 3) := by decide +kernel
theorem dL_isSo_610 : decode cL_isSo 610 = .ok (.goto 5, 3) := by decide +kernel
theorem dL_isSo_613 : decode cL_isSo 613 = .ok (.ldc 33, 2) := by decide +kernel
theorem dL_isSo_615 : decode cL_isSo 615 = .ok (.if_icmp .ne 36, 3) := by decide +kernel
theorem dL_isSo_618 : decode cL_isSo 618 = .ok (.aload_n 0, 1) := by decide +kernel
theorem dL_isSo_619 : decode cL_isSo 619 = .ok (.iload 15, 2) := by decide +kernel
theorem dL_isSo_621 : decode cL_isSo 621 = .ok (.invokevirtual 100, 3) := by decide +kernel
theorem dL_isSo_624 : decode cL_isSo 624 = .ok (.iload 16, 2) := by decide +kernel
theorem dL_isSo_626 : decode cL_isSo 626 = .ok (.ifCond .eq 16, 3) := by decide +kernel
theorem dL_isSo_629 : decode cL_isSo 629 = .ok (.aload_n 1, 1) := by decide +kernel
theorem dL_isSo_630 : decode cL_isSo 630 = .ok (.aload 5, 2) := by decide +kernel
theorem dL_isSo_632 : decode cL_isSo 632 = .ok (.aload 6, 2) := by decide +kernel
theorem dL_isSo_634 : decode cL_isSo 634 = .ok (.iload 15, 2) := by decide +kernel
theorem dL_isSo_636 : decode cL_isSo 636 = .ok (.invokestatic 46, 3) := by decide +kernel
theorem dL_isSo_639 : decode cL_isSo 639 = .ok (.goto 5, 3) := by decide +kernel
theorem dL_isSo_642 : decode cL_isSo 642 = .ok (.ldc 33, 2) := by decide +kernel
theorem dL_isSo_644 : decode cL_isSo 644 = .ok (.if_icmp .ne 7, 3) := by decide +kernel
theorem dL_isSo_647 : decode cL_isSo 647 = .ok (.iconst 1, 1) := by decide +kernel
theorem dL_isSo_648 : decode cL_isSo 648 = .ok (.goto 4, 3) := by decide +kernel
theorem dL_isSo_651 : decode cL_isSo 651 = .ok (.iconst 0, 1) := by decide +kernel
theorem dL_isSo_652 : decode cL_isSo 652 = .ok (.istore 14, 2) := by decide +kernel
theorem dL_isSo_654 : decode cL_isSo 654 = .ok (.iinc 15 1, 3) := by decide +kernel
theorem dL_isSo_657 : decode cL_isSo 657 = .ok (.goto (-375), 3) := by decide +kernel
theorem dL_isSo_660 : decode cL_isSo 660 = .ok (.iload 14, 2) := by decide +kernel
theorem dL_isSo_662 : decode cL_isSo 662 = .ok (.ifCond .eq 17, 3) := by decide +kernel
theorem dL_isSo_665 : decode cL_isSo 665 = .ok (.iload 8, 2) := by decide +kernel
theorem dL_isSo_667 : decode cL_isSo 667 = .ok (.iload 11, 2) := by decide +kernel
theorem dL_isSo_669 : decode cL_isSo 669 = .ok (.iload 10, 2) := by decide +kernel
theorem dL_isSo_671 : decode cL_isSo 671 = .ok (.iadd, 1) := by decide +kernel
theorem dL_isSo_672 : decode cL_isSo 672 = .ok (.if_icmp .ne 7, 3) := by decide +kernel
theorem dL_isSo_675 : decode cL_isSo 675 = .ok (.iconst 1, 1) := by decide +kernel
theorem dL_isSo_676 : decode cL_isSo 676 = .ok (.goto 4, 3) := by decide +kernel
theorem dL_isSo_679 : decode cL_isSo 679 = .ok (.iconst 0, 1) := by decide +kernel
theorem dL_isSo_680 : decode cL_isSo 680 = .ok (.istore 14, 2) := by decide +kernel
theorem dL_isSo_682 : decode cL_isSo 682 = .ok (.iload 14, 2) := by decide +kernel
theorem dL_isSo_684 : decode cL_isSo 684 = .ok (.ifCond .eq 171, 3) := by decide +kernel
theorem dL_isSo_687 : decode cL_isSo 687 = .ok (.aload_n 0, 1) := by decide +kernel
theorem dL_isSo_688 : decode cL_isSo 688 = .ok (.iconst 0, 1) := by decide +kernel
theorem dL_isSo_689 : decode cL_isSo 689 = .ok (.invokevirtual 102, 3) := by decide +kernel
theorem dL_isSo_692 : decode cL_isSo 692 = .ok (.aload_n 1, 1) := by decide +kernel
theorem dL_isSo_693 : decode cL_isSo 693 = .ok (.iconst 0, 1) := by decide +kernel
theorem dL_isSo_694 : decode cL_isSo 694 = .ok (.iaload, 1) := by decide +kernel
theorem dL_isSo_695 : decode cL_isSo 695 = .ok (.if_icmp .ne 160, 3) := by decide +kernel
theorem dL_isSo_698 : decode cL_isSo 698 = .ok (.aload_n 0, 1) := by decide +kernel
theorem dL_isSo_699 : decode cL_isSo 699 = .ok (.iconst 1, 1) := by decide +kernel
theorem dL_isSo_700 : decode cL_isSo 700 = .ok (.invokevirtual 102, 3) := by decide +kernel
theorem dL_isSo_703 : decode cL_isSo 703 = .ok (.aload_n 1, 1) := by decide +kernel
theorem dL_isSo_704 : decode cL_isSo 704 = .ok (.iconst 1, 1) := by decide +kernel
theorem dL_isSo_705 : decode cL_isSo 705 = .ok (.iaload, 1) := by decide +kernel
theorem dL_isSo_706 : decode cL_isSo 706 = .ok (.if_icmp .ne 149, 3) := by decide +kernel
theorem dL_isSo_709 : decode cL_isSo 709 = .ok (.aload_n 0, 1) := by decide +kernel
theorem dL_isSo_710 : decode cL_isSo 710 = .ok (.iconst 2, 1) := by decide +kernel
theorem dL_isSo_711 : decode cL_isSo 711 = .ok (.invokevirtual 102, 3) := by decide +kernel
theorem dL_isSo_714 : decode cL_isSo 714 = .ok (.iload 12, 2) := by decide +kernel
theorem dL_isSo_716 : decode cL_isSo 716 = .ok (.if_icmp .ne 139, 3) := by decide +kernel
theorem dL_isSo_719 : decode cL_isSo 719 = .ok (.aload_n 0, 1) := by decide +kernel
theorem dL_isSo_720 : decode cL_isSo 720 = .ok (.iconst 4, 1) := by decide +kernel
theorem dL_isSo_721 : decode cL_isSo 721 = .ok (.invokevirtual 102, 3) := by decide +kernel
theorem dL_isSo_724 : decode cL_isSo 724 = .ok (.aload_n 1, 1) := by decide +kernel
theorem dL_isSo_725 : decode cL_isSo 725 = .ok (.aload_n 2, 1) := by decide +kernel
theorem dL_isSo_726 : decode cL_isSo 726 = .ok (.aload 4, 2) := by decide +kernel
theorem dL_isSo_728 : decode cL_isSo 728 = .ok (.aload 6, 2) := by decide +kernel
theorem dL_isSo_730 : decode cL_isSo 730 = .ok (.invokestatic 34, 3) := by decide +kernel
theorem dL_isSo_733 : decode cL_isSo 733 = .ok (.if_icmp .ne 122, 3) := by decide +kernel
theorem dL_isSo_736 : decode cL_isSo 736 = .ok (.aload_n 0, 1) := by decide +kernel
theorem dL_isSo_737 : decode cL_isSo 737 = .ok (.iconst 5, 1) := by decide +kernel
theorem dL_isSo_738 : decode cL_isSo 738 = .ok (.invokevirtual 102, 3) := by decide +kernel
theorem dL_isSo_741 : decode cL_isSo 741 = .ok (.iload 8, 2) := by decide +kernel
theorem dL_isSo_743 : decode cL_isSo 743 = .ok (.if_icmp .ne 112, 3) := by decide +kernel
theorem dL_isSo_746 : decode cL_isSo 746 = .ok (.aload_n 0, 1) := by decide +kernel
theorem dL_isSo_747 : decode cL_isSo 747 = .ok (.bipush 6, 2) := by decide +kernel
theorem dL_isSo_749 : decode cL_isSo 749 = .ok (.invokevirtual 102, 3) := by decide +kernel
theorem dL_isSo_752 : decode cL_isSo 752 = .ok (.iload 9, 2) := by decide +kernel
theorem dL_isSo_754 : decode cL_isSo 754 = .ok (.if_icmp .ne 101, 3) := by decide +kernel
theorem dL_isSo_757 : decode cL_isSo 757 = .ok (.aload_n 0, 1) := by decide +kernel
theorem dL_isSo_758 : decode cL_isSo 758 = .ok (.bipush 7, 2) := by decide +kernel
theorem dL_isSo_760 : decode cL_isSo 760 = .ok (.invokevirtual 102, 3) := by decide +kernel
theorem dL_isSo_763 : decode cL_isSo 763 = .ok (.iload 13, 2) := by decide +kernel
theorem dL_isSo_765 : decode cL_isSo 765 = .ok (.if_icmp .ne 90, 3) := by decide +kernel
theorem dL_isSo_768 : decode cL_isSo 768 = .ok (.aload_n 0, 1) := by decide +kernel
theorem dL_isSo_769 : decode cL_isSo 769 = .ok (.bipush 8, 2) := by decide +kernel
theorem dL_isSo_771 : decode cL_isSo 771 = .ok (.invokevirtual 102, 3) := by decide +kernel
theorem dL_isSo_774 : decode cL_isSo 774 = .ok (.aload_n 1, 1) := by decide +kernel
theorem dL_isSo_775 : decode cL_isSo 775 = .ok (.iconst 2, 1) := by decide +kernel
theorem dL_isSo_776 : decode cL_isSo 776 = .ok (.iaload, 1) := by decide +kernel
theorem dL_isSo_777 : decode cL_isSo 777 = .ok (.if_icmp .ne 78, 3) := by decide +kernel
theorem dL_isSo_780 : decode cL_isSo 780 = .ok (.aload_n 0, 1) := by decide +kernel
theorem dL_isSo_781 : decode cL_isSo 781 = .ok (.bipush 9, 2) := by decide +kernel
theorem dL_isSo_783 : decode cL_isSo 783 = .ok (.invokevirtual 102, 3) := by decide +kernel
theorem dL_isSo_786 : decode cL_isSo 786 = .ok (.aload_n 1, 1) := by decide +kernel
theorem dL_isSo_787 : decode cL_isSo 787 = .ok (.iconst 3, 1) := by decide +kernel
theorem dL_isSo_788 : decode cL_isSo 788 = .ok (.iaload, 1) := by decide +kernel
theorem dL_isSo_789 : decode cL_isSo 789 = .ok (.if_icmp .ne 66, 3) := by decide +kernel
theorem dL_isSo_792 : decode cL_isSo 792 = .ok (.aload_n 0, 1) := by decide +kernel
theorem dL_isSo_793 : decode cL_isSo 793 = .ok (.bipush 10, 2) := by decide +kernel
theorem dL_isSo_795 : decode cL_isSo 795 = .ok (.invokevirtual 102, 3) := by decide +kernel
theorem dL_isSo_798 : decode cL_isSo 798 = .ok (.aload_n 1, 1) := by decide +kernel
theorem dL_isSo_799 : decode cL_isSo 799 = .ok (.iconst 4, 1) := by decide +kernel
theorem dL_isSo_800 : decode cL_isSo 800 = .ok (.iaload, 1) := by decide +kernel
theorem dL_isSo_801 : decode cL_isSo 801 = .ok (.if_icmp .ne 54, 3) := by decide +kernel
theorem dL_isSo_804 : decode cL_isSo 804 = .ok (.aload_n 0, 1) := by decide +kernel
theorem dL_isSo_805 : decode cL_isSo 805 = .ok (.bipush 11, 2) := by decide +kernel
theorem dL_isSo_807 : decode cL_isSo 807 = .ok (.invokevirtual 102, 3) := by decide +kernel
theorem dL_isSo_810 : decode cL_isSo 810 = .ok (.aload_n 1, 1) := by decide +kernel
theorem dL_isSo_811 : decode cL_isSo 811 = .ok (.iconst 5, 1) := by decide +kernel
theorem dL_isSo_812 : decode cL_isSo 812 = .ok (.iaload, 1) := by decide +kernel
theorem dL_isSo_813 : decode cL_isSo 813 = .ok (.if_icmp .ne 42, 3) := by decide +kernel
theorem dL_isSo_816 : decode cL_isSo 816 = .ok (.aload_n 0, 1) := by decide +kernel
theorem dL_isSo_817 : decode cL_isSo 817 = .ok (.aload_n 1, 1) := by decide +kernel
theorem dL_isSo_818 : decode cL_isSo 818 = .ok (.iconst 1, 1) := by decide +kernel
theorem dL_isSo_819 : decode cL_isSo 819 = .ok (.iaload, 1) := by decide +kernel
theorem dL_isSo_820 : decode cL_isSo 820 = .ok (.iconst 0, 1) := by decide +kernel
theorem dL_isSo_821 : decode cL_isSo 821 = .ok (.invokevirtual 95, 3) := by decide +kernel
theorem dL_isSo_824 : decode cL_isSo 824 = .ok (.ldc 32, 2) := by decide +kernel
theorem dL_isSo_826 : decode cL_isSo 826 = .ok (.if_icmp .ne 29, 3) := by decide +kernel
theorem dL_isSo_829 : decode cL_isSo 829 = .ok (.aload_n 0, 1) := by decide +kernel
theorem dL_isSo_830 : decode cL_isSo 830 = .ok (.aload_n 1, 1) := by decide +kernel
theorem dL_isSo_831 : decode cL_isSo 831 = .ok (.iconst 1, 1) := by decide +kernel
theorem dL_isSo_832 : decode cL_isSo 832 = .ok (.iaload, 1) := by decide +kernel
theorem dL_isSo_833 : decode cL_isSo 833 = .ok (.invokevirtual 98, 3) := by decide +kernel
theorem dL_isSo_836 : decode cL_isSo 836 = .ok (.ldc 32, 2) := by decide +kernel
theorem dL_isSo_838 : decode cL_isSo 838 = .ok (.if_icmp .ne 17, 3) := by decide +kernel
theorem dL_isSo_841 : decode cL_isSo 841 = .ok (.aload_n 0, 1) := by decide +kernel
theorem dL_isSo_842 : decode cL_isSo 842 = .ok (.iconst (-1), 1) := by decide +kernel
theorem dL_isSo_843 : decode cL_isSo 843 = .ok (.invokevirtual 100, 3) := by decide +kernel
theorem dL_isSo_846 : decode cL_isSo 846 = .ok (.ldc 32, 2) := by decide +kernel
theorem dL_isSo_848 : decode cL_isSo 848 = .ok (.if_icmp .ne 7, 3) := by decide +kernel
theorem dL_isSo_851 : decode cL_isSo 851 = .ok (.iconst 1, 1) := by decide +kernel
theorem dL_isSo_852 : decode cL_isSo 852 = .ok (.goto 4, 3) := by decide +kernel
theorem dL_isSo_855 : decode cL_isSo 855 = .ok (.iconst 0, 1) := by decide +kernel
theorem dL_isSo_856 : decode cL_isSo 856 = .ok (.ireturn, 1) := by decide +kernel
set_option maxRecDepth 20000 in
theorem ggL_law_X1_init : GoodIn wsL_law wsX1_init := goodIn_r _ [8, 9, 10, 11, 12, 13, 14, 15, 16, 17, 18, 3, 19, 20, 21, 22, 23, 24, 25, 26, 27, 28, 29, 30, 31, 32, 33, 34, 35, 36, 37, 38, 39, 40, 41, 42, 2, 43, 314, 315, 316, 317, 318, 319, 320, 321, 322, 323, 324, 325, 326, 327, 328, 307, 308, 309, 310, 311, 312, 313] (by decide +kernel) (by decide +kernel)
set_option maxRecDepth 20000 in
theorem gL_law_X1_init : GoodIn wsL_law (wsX1_init) := ggL_law_X1_init
set_option maxRecDepth 20000 in
theorem ggL_law_L_isSo : GoodIn wsL_law wsL_isSo := goodIn_r _ [47, 48, 49, 5, 50, 51, 46, 52, 53, 54, 55, 56, 57, 58, 59, 60, 61, 2, 62, 63, 19, 15, 64, 65, 66, 67, 68, 20, 69, 70, 71, 72, 73, 74, 75, 76, 77, 78, 79, 80, 81, 82, 83, 84, 85, 86, 87, 88, 89, 90, 91, 92, 93, 94, 95, 96, 97, 98, 99, 100, 101, 102, 103, 104, 105, 106, 107, 108, 109, 110, 111, 112, 113, 114, 115, 116, 117, 118, 119, 120, 121, 122, 123, 124, 125, 126, 127, 128, 129, 130, 131, 132, 133, 134, 135, 136, 137, 138, 139, 140, 141, 142, 143, 144, 145, 146, 147, 148, 149, 150, 151, 152, 153, 154, 155, 156, 157, 158, 159, 160, 161, 162, 163, 164, 165, 166, 167, 168, 169, 170, 171, 172, 18, 173, 174, 175, 176, 177, 178, 179, 180, 181, 182, 183, 184, 185, 186, 187, 188, 189, 190, 191, 192, 193, 194, 195, 196, 197, 198, 199, 200, 201, 202, 203, 204, 205, 206, 207, 208, 209, 210, 307, 308, 309, 310, 311, 312, 313, 314, 315, 316, 317, 318, 319, 320, 321, 322, 323, 324, 325, 326, 327, 328] (by decide +kernel) (by decide +kernel)
set_option maxRecDepth 20000 in
theorem gL_law_L_isSo : GoodIn wsL_law (va_wsS RL 106 yL_isSo wsL_isSo) := goodIn_app (goodIn_of _ (by decide +kernel)) ggL_law_L_isSo
set_option maxRecDepth 20000 in
theorem ggL_law_L_cell : GoodIn wsL_law wsL_cell := goodIn_r _ [213, 214] (by decide +kernel) (by decide +kernel)
set_option maxRecDepth 20000 in
theorem gL_law_L_cell : GoodIn wsL_law (va_wsS RL 110 yL_cell wsL_cell) := goodIn_app (goodIn_of _ (by decide +kernel)) ggL_law_L_cell
set_option maxRecDepth 20000 in
theorem ggL_law_L_acts : GoodIn wsL_law wsL_acts := goodIn_r _ [217, 218, 49, 219, 5, 220, 221, 46, 222, 4, 223, 224, 225, 2, 226, 63, 15, 65, 70, 71, 72, 227, 228, 229, 230, 231, 232, 233, 18, 17, 16, 234, 235, 236, 237, 238, 239, 240, 241, 242, 243, 244, 14, 245, 26, 27, 28, 29, 30, 31, 32, 33, 34, 35, 36, 37, 38, 39, 40, 79, 80, 81, 82, 83, 84, 85, 86, 87, 88, 246, 247, 248, 249, 173, 56, 57, 58, 250, 251, 252, 253, 69, 98, 139, 117, 254, 77, 103, 68, 255, 256, 257, 104, 105, 106, 258, 259, 260, 261, 113, 114, 115, 116, 118, 119, 120, 121, 262, 263, 264, 265, 266, 267, 268, 269, 112, 126, 270, 271, 272, 273, 66, 144, 145, 146, 140, 141, 142, 143, 19, 20, 73, 74, 75, 76, 64, 78, 89, 90, 91, 92, 93, 94, 95, 96, 97, 99, 100, 101, 102, 154, 155, 156, 157, 158, 111, 159, 160, 161, 162, 67, 185, 186, 187, 188, 189, 190, 191, 196, 197, 198, 199, 134, 127, 128, 129, 274, 275, 276, 277, 130, 131, 132, 133, 278, 279, 280, 281, 282, 283, 284, 285, 286, 287, 288, 178, 179, 180, 181, 182, 183, 184, 289, 290, 291, 292, 293, 294, 295, 208, 209, 210, 50, 51, 52, 53, 54, 55, 296, 297, 298, 147, 148, 149, 163, 164, 165, 166, 167, 168, 299, 300, 301, 302, 303, 304, 305, 306, 307, 308, 309, 310, 311, 312, 313, 314, 315, 316, 317, 318, 319, 320, 321, 322, 323, 324, 325, 326, 327, 328] (by decide +kernel) (by decide +kernel)
set_option maxRecDepth 20000 in
theorem gL_law_L_acts : GoodIn wsL_law (va_wsS RL 112 yL_acts wsL_acts) := goodIn_app (goodIn_of _ (by decide +kernel)) ggL_law_L_acts
set_option maxRecDepth 20000 in
theorem ggL_law_L_low : GoodIn wsL_law wsL_low := goodIn_r _ [222, 4] (by decide +kernel) (by decide +kernel)
set_option maxRecDepth 20000 in
theorem gL_law_L_low : GoodIn wsL_law (va_wsS RL 54 yL_low wsL_low) := goodIn_app (goodIn_of _ (by decide +kernel)) ggL_law_L_low
set_option maxRecDepth 20000 in
theorem ggL_law_X1_count : GoodIn wsL_law wsX1_count := goodIn_r _ [172, 15, 158, 117, 18, 68, 66, 173, 63, 174, 175, 176, 2, 177, 118, 119, 120, 121, 69, 98, 113, 114, 115, 116, 178, 179, 180, 181, 19, 20, 182, 183, 83, 184, 73, 74, 75, 76, 64, 77, 78, 79, 80, 81, 82, 84, 85, 86, 87, 88, 89, 90, 91, 92, 93, 94, 70, 71, 72, 95, 96, 97, 99, 100, 101, 102, 103, 185, 186, 187, 188, 189, 190, 191, 192, 193, 194, 195, 196, 197, 198, 199, 112, 134, 127, 128, 129, 200, 201, 202, 203, 122, 123, 124, 125, 126, 204, 205, 206, 207, 130, 131, 132, 133, 307, 308, 309, 310, 311, 312, 313, 314, 315, 316, 317, 318, 319, 320, 321, 322, 323, 324, 325, 326, 327, 328] (by decide +kernel) (by decide +kernel)
set_option maxRecDepth 20000 in
theorem gL_law_X1_count : GoodIn wsL_law (wsV RL 102 RX1 yX1_count wsX1_count) := goodIn_app (goodIn_of _ (by decide +kernel)) ggL_law_X1_count
set_option maxRecDepth 20000 in
theorem ggL_law_X1_cell : GoodIn wsL_law wsX1_cell := goodIn_r _ [62, 63, 19, 15, 64, 65, 66, 67, 68, 20, 69, 70, 71, 2, 72, 73, 74, 75, 76, 77, 78, 79, 80, 81, 82, 83, 84, 85, 86, 87, 88, 89, 90, 91, 92, 93, 94, 95, 96, 97, 98, 99, 100, 101, 102, 103, 104, 105, 106, 307, 308, 309, 310, 311, 312, 313, 314, 315, 316, 317, 318, 319, 320, 321, 322, 323, 324, 325, 326, 327, 328] (by decide +kernel) (by decide +kernel)
set_option maxRecDepth 20000 in
theorem gL_law_X1_cell : GoodIn wsL_law (wsV RL 91 RX1 yX1_cell wsX1_cell) := goodIn_app (goodIn_of _ (by decide +kernel)) ggL_law_X1_cell
theorem dL_law_0 : decode cL_law 0 = .ok (.new 24, 3) := by decide +kernel
theorem dL_law_3 : decode cL_law 3 = .ok (.dup, 1) := by decide +kernel
theorem dL_law_4 : decode cL_law 4 = .ok (.invokespecial 105, 3) := by decide +kernel
theorem dL_law_7 : decode cL_law 7 = .ok (.astore_n 1, 1) := by decide +kernel
theorem dL_law_8 : decode cL_law 8 = .ok (.bipush 6, 2) := by decide +kernel
theorem dL_law_10 : decode cL_law 10 = .ok (.newarray .int, 2) := by decide +kernel
theorem dL_law_12 : decode cL_law 12 = .ok (.astore_n 2, 1) := by decide +kernel
theorem dL_law_13 : decode cL_law 13 = .ok (.bipush 24, 2) := by decide +kernel
theorem dL_law_15 : decode cL_law 15 = .ok (.newarray .int, 2) := by decide +kernel
theorem dL_law_17 : decode cL_law 17 = .ok (.astore_n 3, 1) := by decide +kernel
theorem dL_law_18 : decode cL_law 18 = .ok (.bipush 24, 2) := by decide +kernel
theorem dL_law_20 : decode cL_law 20 = .ok (.newarray .int, 2) := by decide +kernel
theorem dL_law_22 : decode cL_law 22 = .ok (.astore 4, 2) := by decide +kernel
theorem dL_law_24 : decode cL_law 24 = .ok (.bipush 24, 2) := by decide +kernel
theorem dL_law_26 : decode cL_law 26 = .ok (.newarray .int, 2) := by decide +kernel
theorem dL_law_28 : decode cL_law 28 = .ok (.astore 5, 2) := by decide +kernel
theorem dL_law_30 : decode cL_law 30 = .ok (.bipush 24, 2) := by decide +kernel
theorem dL_law_32 : decode cL_law 32 = .ok (.newarray .int, 2) := by decide +kernel
theorem dL_law_34 : decode cL_law 34 = .ok (.astore 6, 2) := by decide +kernel
theorem dL_law_36 : decode cL_law 36 = .ok (.bipush 40, 2) := by decide +kernel
theorem dL_law_38 : decode cL_law 38 = .ok (.newarray .int, 2) := by decide +kernel
theorem dL_law_40 : decode cL_law 40 = .ok (.astore 7, 2) := by decide +kernel
theorem dL_law_42 : decode cL_law 42 = .ok (.bipush 40, 2) := by decide +kernel
theorem dL_law_44 : decode cL_law 44 = .ok (.newarray .int, 2) := by decide +kernel
theorem dL_law_46 : decode cL_law 46 = .ok (.astore 8, 2) := by decide +kernel
theorem dL_law_48 : decode cL_law 48 = .ok (.aload_n 2, 1) := by decide +kernel
theorem dL_law_49 : decode cL_law 49 = .ok (.iconst 2, 1) := by decide +kernel
theorem dL_law_50 : decode cL_law 50 = .ok (.bipush 10, 2) := by decide +kernel
theorem dL_law_52 : decode cL_law 52 = .ok (.iastore, 1) := by decide +kernel
theorem dL_law_53 : decode cL_law 53 = .ok (.aload_n 1, 1) := by decide +kernel
theorem dL_law_54 : decode cL_law 54 = .ok (.aload_n 2, 1) := by decide +kernel
theorem dL_law_55 : decode cL_law 55 = .ok (.aload_n 3, 1) := by decide +kernel
theorem dL_law_56 : decode cL_law 56 = .ok (.aload 4, 2) := by decide +kernel
theorem dL_law_58 : decode cL_law 58 = .ok (.aload 5, 2) := by decide +kernel
theorem dL_law_60 : decode cL_law 60 = .ok (.aload 6, 2) := by decide +kernel
theorem dL_law_62 : decode cL_law 62 = .ok (.aload 7, 2) := by decide +kernel
theorem dL_law_64 : decode cL_law 64 = .ok (.aload 8, 2) := by decide +kernel
theorem dL_law_66 : decode cL_law 66 = .ok (.invokestatic 106, 3) := by decide +kernel
theorem dL_law_69 : decode cL_law 69 = .ok (.istore 9, 2) := by decide +kernel
theorem dL_law_71 : decode cL_law 71 = .ok (.iconst 0, 1) := by decide +kernel
theorem dL_law_72 : decode cL_law 72 = .ok (.istore 10, 2) := by decide +kernel
theorem dL_law_74 : decode cL_law 74 = .ok (.iload 10, 2) := by decide +kernel
theorem dL_law_76 : decode cL_law 76 = .ok (.bipush 8, 2) := by decide +kernel
theorem dL_law_78 : decode cL_law 78 = .ok (.if_icmp .ge 63, 3) := by decide +kernel
theorem dL_law_81 : decode cL_law 81 = .ok (.iload 9, 2) := by decide +kernel
theorem dL_law_83 : decode cL_law 83 = .ok (.ifCond .eq 58, 3) := by decide +kernel
theorem dL_law_86 : decode cL_law 86 = .ok (.aload_n 1, 1) := by decide +kernel
theorem dL_law_87 : decode cL_law 87 = .ok (.aload_n 2, 1) := by decide +kernel
theorem dL_law_88 : decode cL_law 88 = .ok (.aload_n 3, 1) := by decide +kernel
theorem dL_law_89 : decode cL_law 89 = .ok (.aload 4, 2) := by decide +kernel
theorem dL_law_91 : decode cL_law 91 = .ok (.aload 5, 2) := by decide +kernel
theorem dL_law_93 : decode cL_law 93 = .ok (.aload 6, 2) := by decide +kernel
theorem dL_law_95 : decode cL_law 95 = .ok (.aload 7, 2) := by decide +kernel
theorem dL_law_97 : decode cL_law 97 = .ok (.aload 8, 2) := by decide +kernel
theorem dL_law_99 : decode cL_law 99 = .ok (.aload_n 0, 1) := by decide +kernel
theorem dL_law_100 : decode cL_law 100 = .ok (.iconst 1, 1) := by decide +kernel
theorem dL_law_101 : decode cL_law 101 = .ok (.iload 10, 2) := by decide +kernel
theorem dL_law_103 : decode cL_law 103 = .ok (.iadd, 1) := by decide +kernel
theorem dL_law_104 : decode cL_law 104 = .ok (.invokestatic 110, 3) := by decide +kernel
theorem dL_law_107 : decode cL_law 107 = .ok (.ldc 8, 2) := by decide +kernel
theorem dL_law_109 : decode cL_law 109 = .ok (.iand, 1) := by decide +kernel
theorem dL_law_110 : decode cL_law 110 = .ok (.sipush 832, 3) := by decide +kernel
theorem dL_law_113 : decode cL_law 113 = .ok (.idiv, 1) := by decide +kernel
theorem dL_law_114 : decode cL_law 114 = .ok (.sipush 832, 3) := by decide +kernel
theorem dL_law_117 : decode cL_law 117 = .ok (.imul, 1) := by decide +kernel
theorem dL_law_118 : decode cL_law 118 = .ok (.iload 10, 2) := by decide +kernel
theorem dL_law_120 : decode cL_law 120 = .ok (.iconst 2, 1) := by decide +kernel
theorem dL_law_121 : decode cL_law 121 = .ok (.if_icmp .ge 7, 3) := by decide +kernel
theorem dL_law_124 : decode cL_law 124 = .ok (.iconst 0, 1) := by decide +kernel
theorem dL_law_125 : decode cL_law 125 = .ok (.goto 4, 3) := by decide +kernel
theorem dL_law_128 : decode cL_law 128 = .ok (.iconst 2, 1) := by decide +kernel
theorem dL_law_129 : decode cL_law 129 = .ok (.iadd, 1) := by decide +kernel
theorem dL_law_130 : decode cL_law 130 = .ok (.invokestatic 112, 3) := by decide +kernel
theorem dL_law_133 : decode cL_law 133 = .ok (.istore 9, 2) := by decide +kernel
theorem dL_law_135 : decode cL_law 135 = .ok (.iinc 10 1, 3) := by decide +kernel
theorem dL_law_138 : decode cL_law 138 = .ok (.goto (-64), 3) := by decide +kernel
theorem dL_law_141 : decode cL_law 141 = .ok (.bipush 8, 2) := by decide +kernel
theorem dL_law_143 : decode cL_law 143 = .ok (.aload_n 0, 1) := by decide +kernel
theorem dL_law_144 : decode cL_law 144 = .ok (.iconst 0, 1) := by decide +kernel
theorem dL_law_145 : decode cL_law 145 = .ok (.invokestatic 110, 3) := by decide +kernel
theorem dL_law_148 : decode cL_law 148 = .ok (.bipush 50, 2) := by decide +kernel
theorem dL_law_150 : decode cL_law 150 = .ok (.invokestatic 54, 3) := by decide +kernel
theorem dL_law_153 : decode cL_law 153 = .ok (.iadd, 1) := by decide +kernel
theorem dL_law_154 : decode cL_law 154 = .ok (.istore 10, 2) := by decide +kernel
theorem dL_law_156 : decode cL_law 156 = .ok (.iconst 0, 1) := by decide +kernel
theorem dL_law_157 : decode cL_law 157 = .ok (.istore 11, 2) := by decide +kernel
theorem dL_law_159 : decode cL_law 159 = .ok (.iload 11, 2) := by decide +kernel
theorem dL_law_161 : decode cL_law 161 = .ok (.iload 10, 2) := by decide +kernel
theorem dL_law_163 : decode cL_law 163 = .ok (.if_icmp .ge 75, 3) := by decide +kernel
theorem dL_law_166 : decode cL_law 166 = .ok (.iload 9, 2) := by decide +kernel
theorem dL_law_168 : decode cL_law 168 = .ok (.ifCond .eq 70, 3) := by decide +kernel
theorem dL_law_171 : decode cL_law 171 = .ok (.aload_n 1, 1) := by decide +kernel
theorem dL_law_172 : decode cL_law 172 = .ok (.aload_n 2, 1) := by decide +kernel
theorem dL_law_173 : decode cL_law 173 = .ok (.aload_n 3, 1) := by decide +kernel
theorem dL_law_174 : decode cL_law 174 = .ok (.aload 4, 2) := by decide +kernel
theorem dL_law_176 : decode cL_law 176 = .ok (.aload 5, 2) := by decide +kernel
theorem dL_law_178 : decode cL_law 178 = .ok (.aload 6, 2) := by decide +kernel
theorem dL_law_180 : decode cL_law 180 = .ok (.aload 7, 2) := by decide +kernel
theorem dL_law_182 : decode cL_law 182 = .ok (.aload 8, 2) := by decide +kernel
theorem dL_law_184 : decode cL_law 184 = .ok (.aload_n 0, 1) := by decide +kernel
theorem dL_law_185 : decode cL_law 185 = .ok (.bipush 9, 2) := by decide +kernel
theorem dL_law_187 : decode cL_law 187 = .ok (.iload 11, 2) := by decide +kernel
theorem dL_law_189 : decode cL_law 189 = .ok (.iadd, 1) := by decide +kernel
theorem dL_law_190 : decode cL_law 190 = .ok (.invokestatic 110, 3) := by decide +kernel
theorem dL_law_193 : decode cL_law 193 = .ok (.sipush 7919, 3) := by decide +kernel
theorem dL_law_196 : decode cL_law 196 = .ok (.iload 11, 2) := by decide +kernel
theorem dL_law_198 : decode cL_law 198 = .ok (.imul, 1) := by decide +kernel
theorem dL_law_199 : decode cL_law 199 = .ok (.ixor, 1) := by decide +kernel
theorem dL_law_200 : decode cL_law 200 = .ok (.invokestatic 112, 3) := by decide +kernel
theorem dL_law_203 : decode cL_law 203 = .ok (.ifCond .eq 26, 3) := by decide +kernel
theorem dL_law_206 : decode cL_law 206 = .ok (.aload_n 1, 1) := by decide +kernel
theorem dL_law_207 : decode cL_law 207 = .ok (.aload_n 2, 1) := by decide +kernel
theorem dL_law_208 : decode cL_law 208 = .ok (.aload_n 3, 1) := by decide +kernel
theorem dL_law_209 : decode cL_law 209 = .ok (.aload 4, 2) := by decide +kernel
theorem dL_law_211 : decode cL_law 211 = .ok (.aload 5, 2) := by decide +kernel
theorem dL_law_213 : decode cL_law 213 = .ok (.aload 6, 2) := by decide +kernel
theorem dL_law_215 : decode cL_law 215 = .ok (.aload 7, 2) := by decide +kernel
theorem dL_law_217 : decode cL_law 217 = .ok (.aload 8, 2) := by decide +kernel
theorem dL_law_219 : decode cL_law 219 = .ok (.invokestatic 106, 3) := by decide +kernel
theorem dL_law_222 : decode cL_law 222 = .ok (.ifCond .eq 7, 3) := by decide +kernel
theorem dL_law_225 : decode cL_law 225 = .ok (.iconst 1, 1) := by decide +kernel
theorem dL_law_226 : decode cL_law 226 = .ok (.goto 4, 3) := by decide +kernel
theorem dL_law_229 : decode cL_law 229 = .ok (.iconst 0, 1) := by decide +kernel
theorem dL_law_230 : decode cL_law 230 = .ok (.istore 9, 2) := by decide +kernel
theorem dL_law_232 : decode cL_law 232 = .ok (.iinc 11 1, 3) := by decide +kernel
theorem dL_law_235 : decode cL_law 235 = .ok (.goto (-76), 3) := by decide +kernel
theorem dL_law_238 : decode cL_law 238 = .ok (.iload 9, 2) := by decide +kernel
theorem dL_law_240 : decode cL_law 240 = .ok (.ifCond .eq 52, 3) := by decide +kernel
theorem dL_law_243 : decode cL_law 243 = .ok (.aload_n 1, 1) := by decide +kernel
theorem dL_law_244 : decode cL_law 244 = .ok (.bipush 12, 2) := by decide +kernel
theorem dL_law_246 : decode cL_law 246 = .ok (.invokevirtual 102, 3) := by decide +kernel
theorem dL_law_249 : decode cL_law 249 = .ok (.ldc 32, 2) := by decide +kernel
theorem dL_law_251 : decode cL_law 251 = .ok (.if_icmp .ne 41, 3) := by decide +kernel
theorem dL_law_254 : decode cL_law 254 = .ok (.aload_n 1, 1) := by decide +kernel
theorem dL_law_255 : decode cL_law 255 = .ok (.iconst (-1), 1) := by decide +kernel
theorem dL_law_256 : decode cL_law 256 = .ok (.invokevirtual 102, 3) := by decide +kernel
theorem dL_law_259 : decode cL_law 259 = .ok (.ldc 32, 2) := by decide +kernel
theorem dL_law_261 : decode cL_law 261 = .ok (.if_icmp .ne 31, 3) := by decide +kernel
theorem dL_law_264 : decode cL_law 264 = .ok (.aload_n 1, 1) := by decide +kernel
theorem dL_law_265 : decode cL_law 265 = .ok (.bipush 24, 2) := by decide +kernel
theorem dL_law_267 : decode cL_law 267 = .ok (.iconst 0, 1) := by decide +kernel
theorem dL_law_268 : decode cL_law 268 = .ok (.invokevirtual 91, 3) := by decide +kernel
theorem dL_law_271 : decode cL_law 271 = .ok (.ldc 32, 2) := by decide +kernel
theorem dL_law_273 : decode cL_law 273 = .ok (.if_icmp .ne 19, 3) := by decide +kernel
theorem dL_law_276 : decode cL_law 276 = .ok (.aload_n 1, 1) := by decide +kernel
theorem dL_law_277 : decode cL_law 277 = .ok (.iconst 0, 1) := by decide +kernel
theorem dL_law_278 : decode cL_law 278 = .ok (.bipush 8, 2) := by decide +kernel
theorem dL_law_280 : decode cL_law 280 = .ok (.invokevirtual 91, 3) := by decide +kernel
theorem dL_law_283 : decode cL_law 283 = .ok (.ldc 32, 2) := by decide +kernel
theorem dL_law_285 : decode cL_law 285 = .ok (.if_icmp .ne 7, 3) := by decide +kernel
theorem dL_law_288 : decode cL_law 288 = .ok (.iconst 1, 1) := by decide +kernel
theorem dL_law_289 : decode cL_law 289 = .ok (.goto 4, 3) := by decide +kernel
theorem dL_law_292 : decode cL_law 292 = .ok (.iconst 0, 1) := by decide +kernel
theorem dL_law_293 : decode cL_law 293 = .ok (.ireturn, 1) := by decide +kernel
end
section
/-! THE WORLD: 90 cells at addresses ad 0 .. ad 89, apart. 0 the FerryFloor, 1 its state now (rows 2 to 13), 14 the history, 15 readings, 16 expected, 17 trial, 18 + 13 k the k-th kept state (rows 19 + 13 k to 30 + 13 k), 83 to 89 the rows of the law: g z d t u a b. R i: what the row i holds; F i: the whole numbers of the object i. -/
def wl (ad : Nat → Nat) (C : Nat → va_E) : va_W := (List.range 90).map (fun i => (ad i, C i))
def AA (ad : Nat → Nat) : Nat → Prop := fun q => ∃ i, i < 90 ∧ ad i = q
def Inj (ad : Nat → Nat) : Prop := ∀ i j, i < 90 → j < 90 → ad i = ad j → i = j
theorem wl_at {ad : Nat → Nat} {C : Nat → va_E} {i : Nat} (h : i < 90) : (wl ad C)[i]? = some (ad i, C i) := by
  unfold wl
  rw [List.getElem?_map, List.getElem?_range h]
  rfl
theorem wl_len {ad : Nat → Nat} {C : Nat → va_E} : (wl ad C).length = 90 := by simp [wl]
theorem wl_lt {ad : Nat → Nat} {C : Nat → va_E} {i : Nat} {q : Nat × va_E} (h : (wl ad C)[i]? = some q) : i < 90 ∧ q = (ad i, C i) := by
  have h1 : i < 90 := by
    have := (List.getElem?_eq_some_iff.mp h).1
    rw [wl_len] at this
    exact this
  rw [wl_at h1] at h
  exact ⟨h1, (Option.some.inj h).symm⟩
theorem wl_set {ad : Nat → Nat} {C : Nat → va_E} {i : Nat} (h : i < 90) (e : va_E) : (wl ad C).set i (ad i, e) = wl ad (va_up C i e) := by
  apply List.ext_getElem?
  intro j
  by_cases hj : j = i
  · subst hj
    rw [List.getElem?_set_self (by rw [wl_len]; exact h), wl_at h]
    simp [va_up]
  · rw [List.getElem?_set_ne (Ne.symm hj)]
    by_cases hl : j < 90
    · rw [wl_at hl, wl_at hl]
      simp [va_up, hj]
    · rw [List.getElem?_eq_none (by rw [wl_len]; omega), List.getElem?_eq_none (by rw [wl_len]; omega)]
theorem wl_D {ad : Nat → Nat} {C : Nat → va_E} (hI : Inj ad) : va_D (AA ad) (wl ad C) := by
  refine ⟨fun i j p q hi hj hpq => ?_, fun k q hk => ?_⟩
  · obtain ⟨a1, rfl⟩ := wl_lt hi
    obtain ⟨b1, rfl⟩ := wl_lt hj
    exact hI i j a1 b1 hpq
  · obtain ⟨a1, rfl⟩ := wl_lt hk
    exact ⟨k, a1, rfl⟩
def St (i : Nat) : Bool := i == 1 || i == 18 || i == 31 || i == 44 || i == 57 || i == 70
def ln (i : Nat) : Nat := if i = 83 then 6 else if i = 88 ∨ i = 89 then 40 else if 84 ≤ i then 24 else if i = 17 then 8 else if i = 15 ∨ i = 16 then 24 else if (if i < 14 then i - 1 else (i - 18) % 13) ≤ 4 then 24 else 8
def isA (i : Nat) : Bool := decide (i < 90) && (!(i == 0) && (!(i == 14) && !(St i)))
def fsF (ad : Nat → Nat) (F : Nat → Nat → Int32) : List Value := [.ref (ad 1), .ref (ad 14), .int (F 0 0), .int (F 0 1), .ref (ad 15), .ref (ad 16), .ref (ad 17)]
def fsS (ad : Nat → Nat) (F : Nat → Nat → Int32) (i : Nat) : List Value := [.int (F i 0), .int (F i 1), .int (F i 2), .ref (ad (i + 1)), .ref (ad (i + 2)), .ref (ad (i + 3)), .ref (ad (i + 4)), .ref (ad (i + 5)), .ref (ad (i + 6)), .ref (ad (i + 7)), .ref (ad (i + 8)), .ref (ad (i + 9)), .ref (ad (i + 10)), .ref (ad (i + 11)), .ref (ad (i + 12))]
def CC (cI cS : ClassId) (ad : Nat → Nat) (R F : Nat → Nat → Int32) (i : Nat) : va_E :=
  if isA i = true then .inl (cI, ln i, .inl (R i))
  else if St i = true then .inr (0, fsS ad F i)
  else if i = 0 then .inr (1, fsF ad F)
  else .inl (cS, 5, .inr (.inr (.inr (.inr (fun k => some (ad (18 + 13 * k)))))))
def Ar (i n : Nat) : Prop := isA i = true ∧ ln i = n
theorem isA_lt {i : Nat} (h : isA i = true) : i < 90 := by
  unfold isA at h
  simp only [Bool.and_eq_true, decide_eq_true_eq] at h
  exact h.1
theorem St_lt {i : Nat} (h : St i = true) : i < 90 := by
  simp only [St, Bool.or_eq_true, beq_iff_eq] at h
  omega
theorem St_A {i : Nat} (h : St i = true) : isA i = false := by
  unfold isA
  rw [h]
  simp
theorem CC_A {cI cS : ClassId} {ad : Nat → Nat} {R F : Nat → Nat → Int32} {i n : Nat} (h : Ar i n) : CC cI cS ad R F i = .inl (cI, n, .inl (R i)) := by
  obtain ⟨h1, rfl⟩ := h
  unfold CC
  rw [if_pos h1]
theorem CC_S {cI cS : ClassId} {ad : Nat → Nat} {R F : Nat → Nat → Int32} {i : Nat} (h : St i = true) : CC cI cS ad R F i = .inr (0, fsS ad F i) := by
  unfold CC
  rw [if_neg (by rw [St_A h]; decide), if_pos h]
theorem CC_0 {cI cS : ClassId} {ad : Nat → Nat} {R F : Nat → Nat → Int32} : CC cI cS ad R F 0 = .inr (1, fsF ad F) := by
  unfold CC
  rw [if_neg (by decide), if_neg (by decide), if_pos rfl]
theorem CC_14 {cI cS : ClassId} {ad : Nat → Nat} {R F : Nat → Nat → Int32} : CC cI cS ad R F 14 = .inl (cS, 5, .inr (.inr (.inr (.inr (fun k => some (ad (18 + 13 * k))))))) := by
  unfold CC
  rw [if_neg (by decide), if_neg (by decide), if_neg (by decide)]
theorem CC_cong {cI cS : ClassId} {ad : Nat → Nat} {R F R' F' : Nat → Nat → Int32} {i : Nat} (hR : R' i = R i) (hF : F' i = F i) : CC cI cS ad R' F' i = CC cI cS ad R F i := by
  have h1 : fsS ad F' i = fsS ad F i := by unfold fsS; rw [hF]
  unfold CC
  rw [hR, h1]
  by_cases h0 : i = 0
  · subst h0
    have h2 : fsF ad F' = fsF ad F := by unfold fsF; rw [hF]
    rw [h2]
    rfl
  · simp only [if_neg h0]
theorem up_same {α : Type} (f : Nat → α) (k : Nat) (v : α) : va_up f k v k = v := by simp [va_up]
theorem up_ne {α : Type} (f : Nat → α) {k j : Nat} (v : α) (h : j ≠ k) : va_up f k v j = f j := by simp [va_up, h]
theorem CC_upA {cI cS : ClassId} {ad : Nat → Nat} {R F : Nat → Nat → Int32} {i n : Nat} (h : Ar i n) (f : Nat → Int32) : va_up (CC cI cS ad R F) i (.inl (cI, n, .inl f)) = CC cI cS ad (va_up R i f) F := by
  funext j
  by_cases hj : j = i
  · subst hj
    rw [up_same, CC_A h, up_same]
  · rw [up_ne _ _ hj]
    exact (CC_cong (up_ne _ _ hj) rfl).symm
theorem CC_upO {cI cS : ClassId} {ad : Nat → Nat} {R F : Nat → Nat → Int32} {i : Nat} {f : Nat → Int32} {e : va_E} (h : CC cI cS ad R (va_up F i f) i = e) : va_up (CC cI cS ad R F) i e = CC cI cS ad R (va_up F i f) := by
  funext j
  by_cases hj : j = i
  · subst hj
    rw [up_same, h]
  · rw [up_ne _ _ hj]
    exact (CC_cong rfl (up_ne _ _ hj)).symm
def WP (D : va_G) (cI cS : ClassId) (ad : Nat → Nat) (R F : Nat → Nat → Int32) (H : Heap) : Prop := va_P D vwCl (wl ad (CC cI cS ad R F)) H
/-- the classes, the rows' classes, and the two links from State to FerryFloor's own methods -/
def KK (D : va_G) (cI cS : ClassId) (s : State) : Prop := va_K D vwCl [(cI, .int), (cS, .object "FerryFloor$State")] s ∧ va_Nw (.methodLinkNest RX0 59 yX1_fillRow RX1) s ∧ va_Nw (.methodLinkNest RX0 63 yX1_copyRow RX1) s
theorem KK.warm {D : va_G} {cI cS : ClassId} {s U : State} (hW : s.WarmedH U.vm) (h : KK D cI cS s) : KK D cI cS U := ⟨va_K.moved hW.alike h.1, va_Nw.warmM hW h.2.1, va_Nw.warmM hW h.2.2⟩
def PW (D : va_G) (cI cS : ClassId) (ad : Nat → Nat) (R F : Nat → Nat → Int32) (av : List Value) : Array Value → State → Prop := va_Pc av (fun U => WP D cI cS ad R F U.heap ∧ KK D cI cS U)
def QS (r : Int32) : Array Value → State → Outcome → State → Prop := fun _ st o t => o = .returned (some (.int r)) ∧ t.heap = st.heap
def QI (D : va_G) (cI cS : ClassId) (ad : Nat → Nat) (r : Int32) (R' F' : Nat → Nat → Int32) : Array Value → State → Outcome → State → Prop := fun _ st o t => o = .returned (some (.int r)) ∧ WP D cI cS ad R' F' t.heap ∧ va_F (AA ad) st t
def QV (D : va_G) (cI cS : ClassId) (ad : Nat → Nat) (R' F' : Nat → Nat → Int32) : Array Value → State → Outcome → State → Prop := fun _ st o t => o = .returned none ∧ WP D cI cS ad R' F' t.heap ∧ va_F (AA ad) st t
theorem PW_blind {D : va_G} {cI cS : ClassId} {ad : Nat → Nat} {R F : Nat → Nat → Int32} {av : List Value} : FrameBlind (PW D cI cS ad R F av) := fun a U g mk q => ⟨q.1, q.2.1, va_K.moved (u := U) (U := U.calling g mk a) (Vm.Alike.refl U.vm) q.2.2.1, va_Nw.same (u := U) (U := U.calling g mk a) rfl rfl q.2.2.2.1, va_Nw.same (u := U) (U := U.calling g mk a) rfl rfl q.2.2.2.2⟩
theorem PW_preS {D : va_G} {cI cS : ClassId} {ad : Nat → Nat} {R F : Nat → Nat → Int32} {As : List Value} {s : State} {H : Heap} (hK : KK D cI cS s) (hP : WP D cI cS ad R F H) : PreS s H (PW D cI cS ad R F As) As := ⟨PW_blind, fun U hU hW => ⟨rfl, by rw [hU]; exact hP, hK.warm hW⟩⟩
theorem PW_preV {D : va_G} {cI cS : ClassId} {ad : Nat → Nat} {R F : Nat → Nat → Int32} {As : List Value} {s : State} {H : Heap} {C : String} {i ci : Nat} {fs : List Value} {q : vw_C} (hi : i < 90) (he : CC cI cS ad R F i = .inr (ci, fs)) (hc : vwCl[ci]? = some q) (hC : q.1 = C) (hK : KK D cI cS s) (hP : WP D cI cS ad R F H) : PreV s H C (ad i) (PW D cI cS ad R F (.ref (ad i) :: As)) As :=
  ⟨PW_blind, by rw [← hC]; exact va_recv hK.1 hP hc ((wl_at hi).trans (by rw [he])), fun U hU hW => ⟨rfl, by rw [hU]; exact hP, hK.warm hW⟩⟩
theorem Ar_hist {k j n : Nat} (hk : k < 5) (hj : Ar (1 + j) n) (h1 : 1 ≤ j) (h2 : j ≤ 12) : Ar (18 + 13 * k + j) n := by
  have h : ∀ k, k < 5 → ∀ j, j < 13 → 1 ≤ j → isA (18 + 13 * k + j) = true ∧ ln (18 + 13 * k + j) = ln (1 + j) := by decide
  obtain ⟨a, b⟩ := h k hk j (by omega) h1
  exact ⟨a, b.trans hj.2⟩
theorem St_hist {k : Nat} (hk : k < 5) : St (18 + 13 * k) = true := by
  have h : ∀ k, k < 5 → St (18 + 13 * k) = true := by decide
  exact h k hk
/-- one place of a row (or one number of an object) gets another value -/
def sR (R : Nat → Nat → Int32) (i k : Nat) (v : Int32) : Nat → Nat → Int32 := va_up R i (upd (R i) k v)
end
section
/-! ROWS over the world of 02 -/
section
variable {p : Program} {l : Launch} {e : Env} {rm : Room} {s : State} {m : MethodId} {args : Array Value} {below : List Frame} {meth : Method} {c : Code} {H H0 : Heap} {locs : List Loc} {cells slots : Nat} {Q : State → Prop} {cc : ByteArray} {pc : Nat} {ls : Array Slot} {rest st0 : List Value} {D : va_G} {cI cS : ClassId} {ad : Nat → Nat} {R F : Nat → Nat → Int32} {own : String} {index : Nat} {Ts : List Cond}
theorem q_ild (hx : p.tables.exec = Jvm.exec) (hb : c.code = cc) (hK : KK D cI cS s) (hP : WP D cI cS ad R F H) (i n : Nat) (ha : Ar i n) {x : Int32} (hdg : decode cc pc = .ok (.iaload, 1)) (hin : vp_in x n)
    (kk : W p l e rm s m args below meth c H locs cells slots Q (F0 m (pc + 1) ls (.int (R i x.toNatClampNeg) :: rest))) : W p l e rm s m args below meth c H locs cells slots Q (F0 m pc ls (.int x :: .ref (ad i) :: rest)) :=
  va_iald hx hb hK.1 hP i 0 ((wl_at (isA_lt ha.1)).trans (by rw [CC_A ha])) rfl hin hdg kk
theorem q_ist (hx : p.tables.exec = Jvm.exec) (hb : c.code = cc) (hK : KK D cI cS s) (hI : Inj ad) (hP : WP D cI cS ad R F H) (hS : va_S (AA ad) H0 H locs) (i n : Nat) (ha : Ar i n) {x v : Int32} (hdg : decode cc pc = .ok (.iastore, 1)) (hin : vp_in x n)
    (kk : ∀ (H1 : Heap) (locs1 : List Loc), WP D cI cS ad (sR R i x.toNatClampNeg v) F H1 → va_S (AA ad) H0 H1 locs1 → W p l e rm s m args below meth c H1 locs1 cells slots Q (F0 m (pc + 1) ls rest)) : W p l e rm s m args below meth c H locs cells slots Q (F0 m pc ls (.int v :: .int x :: .ref (ad i) :: rest)) := by
  have hi := isA_lt ha.1
  refine va_iast hx hb hK.1 hP (wl_D hI) hS i 0 ((wl_at hi).trans (by rw [CC_A ha])) rfl hin hdg (fun H1 locs1 hP1 _ hS1 => kk H1 locs1 ?_ hS1)
  rw [wl_set hi, CC_upA ha] at hP1
  exact hP1
theorem q_len (hx : p.tables.exec = Jvm.exec) (hb : c.code = cc) (hK : KK D cI cS s) (hP : WP D cI cS ad R F H) (i n : Nat) (ha : Ar i n) (hdg : decode cc pc = .ok (.arraylength, 1))
    (kk : W p l e rm s m args below meth c H locs cells slots Q (F0 m (pc + 1) ls (.int (nI n) :: rest))) : W p l e rm s m args below meth c H locs cells slots Q (F0 m pc ls (.ref (ad i) :: rest)) :=
  va_alen hx hb hK.1 hP i 0 (x := (n, .inl (R i))) (ty := .int) ((wl_at (isA_lt ha.1)).trans (by rw [CC_A ha])) rfl rfl hdg kk
theorem q_getF (hx : p.tables.exec = Jvm.exec) (hb : c.code = cc) (hts : ∀ w ∈ Ts, w.before args s = true) (hin : ∀ w ∈ u_ws RX1 TX1 7, w ∈ Ts) (hown : s.vm.findClass own = some m.cls) (hK : KK D cI cS s) (hP : WP D cI cS ad R F H) (k : Nat) (hk : k < 7) {ref : String} (hlink : (Cond.fieldLink own index ref (TX1 k).2.1 (TX1 k).2.2.1).before args s = true) (hsame : ∀ x, s.fieldFound? (TX1 k).1 (TX1 k).2.1 (TX1 k).2.2.1 = some x → s.fieldFound? ref (TX1 k).2.1 (TX1 k).2.2.1 = some x) {v : Value} (hv : (fsF ad F)[k]? = some v) (hdg : decode cc pc = .ok (.getfield index, 3))
    (kk : W p l e rm s m args below meth c H locs cells slots Q (F0 m (pc + 3) ls (v :: rest))) : W p l e rm s m args below meth c H locs cells slots Q (F0 m pc ls (.ref (ad 0) :: rest)) :=
  va_get (D := D) (ci := 1) (C := RX1) (T := TX1) (N := 7) hx hb hts hin hown hK.1 hP 0 ((wl_at (by decide)).trans (by rw [CC_0])) rfl k hk hlink hsame hv hdg kk
theorem q_getS (hx : p.tables.exec = Jvm.exec) (hb : c.code = cc) (hts : ∀ w ∈ Ts, w.before args s = true) (hin : ∀ w ∈ u_ws RX0 TX0 15, w ∈ Ts) (hown : s.vm.findClass own = some m.cls) (hK : KK D cI cS s) (hP : WP D cI cS ad R F H) (i : Nat) (hi : St i = true) (k : Nat) (hk : k < 15) {ref : String} (hlink : (Cond.fieldLink own index ref (TX0 k).2.1 (TX0 k).2.2.1).before args s = true) (hsame : ∀ x, s.fieldFound? (TX0 k).1 (TX0 k).2.1 (TX0 k).2.2.1 = some x → s.fieldFound? ref (TX0 k).2.1 (TX0 k).2.2.1 = some x) {v : Value} (hv : (fsS ad F i)[k]? = some v) (hdg : decode cc pc = .ok (.getfield index, 3))
    (kk : W p l e rm s m args below meth c H locs cells slots Q (F0 m (pc + 3) ls (v :: rest))) : W p l e rm s m args below meth c H locs cells slots Q (F0 m pc ls (.ref (ad i) :: rest)) :=
  va_get (D := D) (ci := 0) (C := RX0) (T := TX0) (N := 15) hx hb hts hin hown hK.1 hP i ((wl_at (St_lt hi)).trans (by rw [CC_S hi])) rfl k hk hlink hsame hv hdg kk
/-- a whole number's field: of the FerryFloor (k = 2, 3), of the model (2, 3), of a state (0, 1, 2) -/
theorem q_putF (hx : p.tables.exec = Jvm.exec) (hb : c.code = cc) (hts : ∀ w ∈ Ts, w.before args s = true) (hin : ∀ w ∈ u_ws RX1 TX1 7, w ∈ Ts) (hown : s.vm.findClass own = some m.cls) (hK : KK D cI cS s) (hI : Inj ad) (hP : WP D cI cS ad R F H) (hS : va_S (AA ad) H0 H locs) (k : Nat) (hk : k = 2 ∨ k = 3) {ref : String} (hlink : (Cond.fieldLink own index ref (TX1 k).2.1 (TX1 k).2.2.1).before args s = true) (hsame : ∀ x, s.fieldFound? (TX1 k).1 (TX1 k).2.1 (TX1 k).2.2.1 = some x → s.fieldFound? ref (TX1 k).2.1 (TX1 k).2.2.1 = some x) {v : Int32} (hdg : decode cc pc = .ok (.putfield index, 3))
    (kk : ∀ (H1 : Heap) (locs1 : List Loc), WP D cI cS ad R (sR F 0 (k - 2) v) H1 → va_S (AA ad) H0 H1 locs1 → W p l e rm s m args below meth c H1 locs1 cells slots Q (F0 m (pc + 3) ls rest)) : W p l e rm s m args below meth c H locs cells slots Q (F0 m pc ls (.int v :: .ref (ad 0) :: rest)) := by
  have hk7 : k < 7 := by omega
  refine va_put (D := D) (ci := 1) (fs := fsF ad F) (v := .int v) (ty := .int) (C := RX1) (T := TX1) (N := 7) hx hb hts hin tyX1 tyX1_ok nmX1 hown hK.1 hP (wl_D hI) hS 0 ((wl_at (by decide)).trans (by rw [CC_0])) rfl k hk7 hlink hsame (by rcases hk with rfl | rfl <;> rfl) (by rcases hk with rfl | rfl <;> decide +kernel) rfl rfl hk7 hdg (fun H1 locs1 hP1 _ hS1 => kk H1 locs1 ?_ hS1)
  rw [wl_set (by decide), CC_upO (f := upd (F 0) (k - 2) v) (by rw [CC_0]; rcases hk with rfl | rfl <;> rfl)] at hP1
  exact hP1
theorem q_putS (hx : p.tables.exec = Jvm.exec) (hb : c.code = cc) (hts : ∀ w ∈ Ts, w.before args s = true) (hin : ∀ w ∈ u_ws RX0 TX0 15, w ∈ Ts) (hown : s.vm.findClass own = some m.cls) (hK : KK D cI cS s) (hI : Inj ad) (hP : WP D cI cS ad R F H) (hS : va_S (AA ad) H0 H locs) (i : Nat) (hi : St i = true) (k : Nat) (hk : k = 0 ∨ k = 1 ∨ k = 2) {ref : String} (hlink : (Cond.fieldLink own index ref (TX0 k).2.1 (TX0 k).2.2.1).before args s = true) (hsame : ∀ x, s.fieldFound? (TX0 k).1 (TX0 k).2.1 (TX0 k).2.2.1 = some x → s.fieldFound? ref (TX0 k).2.1 (TX0 k).2.2.1 = some x) {v : Int32} (hdg : decode cc pc = .ok (.putfield index, 3))
    (kk : ∀ (H1 : Heap) (locs1 : List Loc), WP D cI cS ad R (sR F i k v) H1 → va_S (AA ad) H0 H1 locs1 → W p l e rm s m args below meth c H1 locs1 cells slots Q (F0 m (pc + 3) ls rest)) : W p l e rm s m args below meth c H locs cells slots Q (F0 m pc ls (.int v :: .ref (ad i) :: rest)) := by
  have hk7 : k < 15 := by omega
  refine va_put (D := D) (ci := 0) (fs := fsS ad F i) (v := .int v) (ty := .int) (C := RX0) (T := TX0) (N := 15) hx hb hts hin tyX0 tyX0_ok nmX0 hown hK.1 hP (wl_D hI) hS i ((wl_at (St_lt hi)).trans (by rw [CC_S hi])) rfl k hk7 hlink hsame (by rcases hk with rfl | rfl | rfl <;> rfl) (by rcases hk with rfl | rfl | rfl <;> decide +kernel) rfl rfl hk7 hdg (fun H1 locs1 hP1 _ hS1 => kk H1 locs1 ?_ hS1)
  rw [wl_set (St_lt hi), CC_upO (f := upd (F i) k v) (by rw [CC_S hi]; rcases hk with rfl | rfl | rfl <;> simp [fsS, va_up, upd])] at hP1
  exact hP1
theorem q_callS {r : Int32} {a : Array Value} (hr : va_Run p l e rm s m args below meth c H locs cells slots 0 0 (F0 m pc ls st0) rest (QS r a) (fun _ => False))
    (kk : W p l e rm s m args below meth c H locs cells slots Q (F0 m (pc + 3) ls (.int r :: rest))) : W p l e rm s m args below meth c H locs cells slots Q (F0 m pc ls st0) := by
  intro T hT X
  obtain ⟨v, st₀, t, T', L, h0, X', hL, e1, e2, ⟨hv, hh⟩, st⟩ := hr T hT X
  cases hv
  have hnil : L = [] := by
    cases L with
    | nil => rfl
    | cons q L => exact (hL q List.mem_cons_self).elim
  subst hnil
  rw [List.append_nil] at X'
  obtain ⟨t2, a1, b1⟩ := kk T' (by rw [e1, hh, h0]) X'
  exact ⟨t2, st t2 a1, b1⟩
theorem q_callI {r : Int32} {R' F' : Nat → Nat → Int32} {a : Array Value} (hr : va_Run p l e rm s m args below meth c H locs cells slots 0 0 (F0 m pc ls st0) rest (QI D cI cS ad r R' F' a) (AA ad)) (hS : va_S (AA ad) H0 H locs)
    (kk : ∀ (H1 : Heap) (locs1 : List Loc), WP D cI cS ad R' F' H1 → va_S (AA ad) H0 H1 locs1 → W p l e rm s m args below meth c H1 locs1 cells slots Q (F0 m (pc + 3) ls (.int r :: rest))) : W p l e rm s m args below meth c H locs cells slots Q (F0 m pc ls st0) := by
  intro T hT X
  obtain ⟨v, st₀, t, T', L, h0, X', hL, e1, e2, ⟨hv, hp, hz, hk⟩, st⟩ := hr T hT X
  cases hv
  rw [h0] at hz hk
  obtain ⟨t2, a1, b1⟩ := kk T'.heap (locs ++ L) (by rw [e1]; exact hp)
    ⟨Nat.le_trans hS.1 (by rw [e1]; exact hz), fun q h1 h2 => by rw [e1, hk q (Nat.lt_of_lt_of_le h1 hS.1) h2]; exact hS.2.1 q h1 h2, fun q hq => by
      rcases List.mem_append.mp hq with h | h
      · exact hS.2.2 q h
      · exact hL q h⟩ T' rfl X'
  exact ⟨t2, st t2 a1, b1⟩
theorem q_callV {R' F' : Nat → Nat → Int32} {a : Array Value} (hr : va_Run p l e rm s m args below meth c H locs cells slots 0 0 (F0 m pc ls st0) rest (QV D cI cS ad R' F' a) (AA ad)) (hS : va_S (AA ad) H0 H locs)
    (kk : ∀ (H1 : Heap) (locs1 : List Loc), WP D cI cS ad R' F' H1 → va_S (AA ad) H0 H1 locs1 → W p l e rm s m args below meth c H1 locs1 cells slots Q (F0 m (pc + 3) ls rest)) : W p l e rm s m args below meth c H locs cells slots Q (F0 m pc ls st0) := by
  intro T hT X
  obtain ⟨v, st₀, t, T', L, h0, X', hL, e1, e2, ⟨hv, hp, hz, hk⟩, st⟩ := hr T hT X
  cases hv
  rw [h0] at hz hk
  obtain ⟨t2, a1, b1⟩ := kk T'.heap (locs ++ L) (by rw [e1]; exact hp)
    ⟨Nat.le_trans hS.1 (by rw [e1]; exact hz), fun q h1 h2 => by rw [e1, hk q (Nat.lt_of_lt_of_le h1 hS.1) h2]; exact hS.2.1 q h1 h2, fun q hq => by
      rcases List.mem_append.mp hq with h | h
      · exact hS.2.2 q h
      · exact hL q h⟩ T' rfl X'
  exact ⟨t2, st t2 a1, b1⟩
/-- a loop: n rounds are left -/
theorem q_loop {pc0 : Nat} {st : List Value} (I : Nat → Heap → List Loc → Array Slot → Prop) (n : Nat) (h0 : I n H locs ls)
    (hz : ∀ (H : Heap) (locs : List Loc) (ls : Array Slot), I 0 H locs ls → W p l e rm s m args below meth c H locs cells slots Q (F0 m pc0 ls st))
    (hs : ∀ n : Nat, (∀ (H : Heap) (locs : List Loc) (ls : Array Slot), I n H locs ls → W p l e rm s m args below meth c H locs cells slots Q (F0 m pc0 ls st)) → ∀ (H : Heap) (locs : List Loc) (ls : Array Slot), I (n + 1) H locs ls → W p l e rm s m args below meth c H locs cells slots Q (F0 m pc0 ls st)) :
    W p l e rm s m args below meth c H locs cells slots Q (F0 m pc0 ls st) := by
  have key : ∀ (n : Nat) (H : Heap) (locs : List Loc) (ls : Array Slot), I n H locs ls → W p l e rm s m args below meth c H locs cells slots Q (F0 m pc0 ls st) := by
    intro n
    induction n with
    | zero => exact hz
    | succ n ih => exact hs n ih
  exact key n H locs ls h0
end
end
section
/-! more rows: places, indices that are numbers, switches -/
theorem ar_2 : Ar 2 24 := ⟨by decide, by decide⟩
theorem ar_3 : Ar 3 24 := ⟨by decide, by decide⟩
theorem ar_4 : Ar 4 24 := ⟨by decide, by decide⟩
theorem ar_5 : Ar 5 24 := ⟨by decide, by decide⟩
theorem ar_6 : Ar 6 8 := ⟨by decide, by decide⟩
theorem ar_7 : Ar 7 8 := ⟨by decide, by decide⟩
theorem ar_8 : Ar 8 8 := ⟨by decide, by decide⟩
theorem ar_9 : Ar 9 8 := ⟨by decide, by decide⟩
theorem ar_10 : Ar 10 8 := ⟨by decide, by decide⟩
theorem ar_11 : Ar 11 8 := ⟨by decide, by decide⟩
theorem ar_12 : Ar 12 8 := ⟨by decide, by decide⟩
theorem ar_13 : Ar 13 8 := ⟨by decide, by decide⟩
theorem ar_15 : Ar 15 24 := ⟨by decide, by decide⟩
theorem ar_16 : Ar 16 24 := ⟨by decide, by decide⟩
theorem ar_17 : Ar 17 8 := ⟨by decide, by decide⟩
theorem ar_83 : Ar 83 6 := ⟨by decide, by decide⟩
theorem ar_84 : Ar 84 24 := ⟨by decide, by decide⟩
theorem ar_85 : Ar 85 24 := ⟨by decide, by decide⟩
theorem ar_86 : Ar 86 24 := ⟨by decide, by decide⟩
theorem ar_87 : Ar 87 24 := ⟨by decide, by decide⟩
theorem ar_88 : Ar 88 40 := ⟨by decide, by decide⟩
theorem ar_89 : Ar 89 40 := ⟨by decide, by decide⟩
theorem st_1 : St 1 = true := by decide
theorem St_cases {i : Nat} (h : St i = true) : i = 1 ∨ ∃ k, k < 5 ∧ i = 18 + 13 * k := by
  simp only [St, Bool.or_eq_true, beq_iff_eq] at h
  rcases h with ((((h | h) | h) | h) | h) | h
  · exact Or.inl h
  · exact Or.inr ⟨0, by omega, by omega⟩
  · exact Or.inr ⟨1, by omega, by omega⟩
  · exact Or.inr ⟨2, by omega, by omega⟩
  · exact Or.inr ⟨3, by omega, by omega⟩
  · exact Or.inr ⟨4, by omega, by omega⟩
theorem Ar_S1 {i : Nat} (h : St i = true) : Ar (i + 1) 24 := by
  rcases St_cases h with rfl | ⟨k, hk, rfl⟩
  · exact ar_2
  · exact Ar_hist (j := 1) hk ar_2 (by decide) (by decide)
theorem Ar_S2 {i : Nat} (h : St i = true) : Ar (i + 2) 24 := by
  rcases St_cases h with rfl | ⟨k, hk, rfl⟩
  · exact ar_3
  · exact Ar_hist (j := 2) hk ar_3 (by decide) (by decide)
theorem Ar_S3 {i : Nat} (h : St i = true) : Ar (i + 3) 24 := by
  rcases St_cases h with rfl | ⟨k, hk, rfl⟩
  · exact ar_4
  · exact Ar_hist (j := 3) hk ar_4 (by decide) (by decide)
theorem Ar_S4 {i : Nat} (h : St i = true) : Ar (i + 4) 24 := by
  rcases St_cases h with rfl | ⟨k, hk, rfl⟩
  · exact ar_5
  · exact Ar_hist (j := 4) hk ar_5 (by decide) (by decide)
theorem Ar_S5 {i : Nat} (h : St i = true) : Ar (i + 5) 8 := by
  rcases St_cases h with rfl | ⟨k, hk, rfl⟩
  · exact ar_6
  · exact Ar_hist (j := 5) hk ar_6 (by decide) (by decide)
theorem Ar_S6 {i : Nat} (h : St i = true) : Ar (i + 6) 8 := by
  rcases St_cases h with rfl | ⟨k, hk, rfl⟩
  · exact ar_7
  · exact Ar_hist (j := 6) hk ar_7 (by decide) (by decide)
theorem Ar_S7 {i : Nat} (h : St i = true) : Ar (i + 7) 8 := by
  rcases St_cases h with rfl | ⟨k, hk, rfl⟩
  · exact ar_8
  · exact Ar_hist (j := 7) hk ar_8 (by decide) (by decide)
theorem Ar_S8 {i : Nat} (h : St i = true) : Ar (i + 8) 8 := by
  rcases St_cases h with rfl | ⟨k, hk, rfl⟩
  · exact ar_9
  · exact Ar_hist (j := 8) hk ar_9 (by decide) (by decide)
theorem Ar_S9 {i : Nat} (h : St i = true) : Ar (i + 9) 8 := by
  rcases St_cases h with rfl | ⟨k, hk, rfl⟩
  · exact ar_10
  · exact Ar_hist (j := 9) hk ar_10 (by decide) (by decide)
theorem Ar_S10 {i : Nat} (h : St i = true) : Ar (i + 10) 8 := by
  rcases St_cases h with rfl | ⟨k, hk, rfl⟩
  · exact ar_11
  · exact Ar_hist (j := 10) hk ar_11 (by decide) (by decide)
theorem Ar_S11 {i : Nat} (h : St i = true) : Ar (i + 11) 8 := by
  rcases St_cases h with rfl | ⟨k, hk, rfl⟩
  · exact ar_12
  · exact Ar_hist (j := 11) hk ar_12 (by decide) (by decide)
theorem Ar_S12 {i : Nat} (h : St i = true) : Ar (i + 12) 8 := by
  rcases St_cases h with rfl | ⟨k, hk, rfl⟩
  · exact ar_13
  · exact Ar_hist (j := 12) hk ar_13 (by decide) (by decide)
section
variable {p : Program} {l : Launch} {e : Env} {rm : Room} {s : State} {m : MethodId} {args : Array Value} {below : List Frame} {meth : Method} {c : Code} {H H0 : Heap} {locs : List Loc} {cells slots : Nat} {Q : State → Prop} {cc : ByteArray} {pc : Nat} {ls : Array Slot} {rest st0 : List Value} {D : va_G} {cI cS : ClassId} {ad : Nat → Nat} {R F : Nat → Nat → Int32} {own : String} {index : Nat} {Ts : List Cond}
theorem q_top {x y : Int32} (h : x = y) (kk : W p l e rm s m args below meth c H locs cells slots Q (F0 m pc ls (.int y :: rest))) : W p l e rm s m args below meth c H locs cells slots Q (F0 m pc ls (.int x :: rest)) := h ▸ kk
theorem q_ildN (hx : p.tables.exec = Jvm.exec) (hb : c.code = cc) (hK : KK D cI cS s) (hP : WP D cI cS ad R F H) (i n : Nat) (ha : Ar i n) (k : Nat) {x : Int32} (hdg : decode cc pc = .ok (.iaload, 1)) (hxk : x = nI k) (hk : k < n) (hn : n < 2 ^ 31)
    (kk : W p l e rm s m args below meth c H locs cells slots Q (F0 m (pc + 1) ls (.int (R i k) :: rest))) : W p l e rm s m args below meth c H locs cells slots Q (F0 m pc ls (.int x :: .ref (ad i) :: rest)) := by
  subst hxk
  refine q_ild hx hb hK hP i n ha hdg (vp_in_nI hk hn) ?_
  rw [nI_clamp (by omega)]
  exact kk
theorem q_istN (hx : p.tables.exec = Jvm.exec) (hb : c.code = cc) (hK : KK D cI cS s) (hI : Inj ad) (hP : WP D cI cS ad R F H) (hS : va_S (AA ad) H0 H locs) (i n : Nat) (ha : Ar i n) (k : Nat) {x v : Int32} (hdg : decode cc pc = .ok (.iastore, 1)) (hxk : x = nI k) (hk : k < n) (hn : n < 2 ^ 31)
    (kk : ∀ (H1 : Heap) (locs1 : List Loc), WP D cI cS ad (sR R i k v) F H1 → va_S (AA ad) H0 H1 locs1 → W p l e rm s m args below meth c H1 locs1 cells slots Q (F0 m (pc + 1) ls rest)) : W p l e rm s m args below meth c H locs cells slots Q (F0 m pc ls (.int v :: .int x :: .ref (ad i) :: rest)) := by
  subst hxk
  refine q_ist hx hb hK hI hP hS i n ha hdg (vp_in_nI hk hn) ?_
  rw [nI_clamp (by omega)]
  exact kk
theorem q_copy (hx : p.tables.exec = Jvm.exec) (hb : c.code = cc) (hml : c.maxLocals = ls.size) (hown : s.vm.findClass own = some m.cls) (hlink : (Cond.methodLink own index arraycopyName).before args s = true) (hnat : (Cond.native arraycopyName).before args s = true) (hstat : (Cond.static arraycopyName).before args s = true) (hini : (Cond.initialized "java/lang/System").before args s = true) (hK : KK D cI cS s) (hI : Inj ad) (hP : WP D cI cS ad R F H) (hS : va_S (AA ad) H0 H locs) (i j n : Nat) (hi : Ar i n) (hj : Ar j n) (hn : n < 2 ^ 31) (hframes : 1 ≤ rm.frames) (hlocals : (rest.map fun v => v.category).sum + (nativeFrameWords "java/lang/System" "arraycopy" 5 + 11) ≤ rm.locals) (hdg : decode cc pc = .ok (.invokestatic index, 3))
    (kk : ∀ (H1 : Heap) (locs1 : List Loc), WP D cI cS ad (va_up R j (va_cpy (R i) (R j) 0 0 n)) F H1 → va_S (AA ad) H0 H1 locs1 → W p l e rm s m args below meth c H1 locs1 cells slots Q (F0 m (pc + 3) ls rest)) : W p l e rm s m args below meth c H locs cells slots Q (F0 m pc ls (.int (nI n) :: .int 0 :: .ref (ad j) :: .int 0 :: .ref (ad i) :: rest)) := by
  have hcl : (nI n).toNatClampNeg = n := nI_clamp hn
  have h0 : (0 : Int32).toNatClampNeg = 0 := rfl
  refine va_copyi hx hb hml hown hlink hnat hstat hini hK.1 hP (wl_D hI) hS i j 0 0 ((wl_at (isA_lt hi.1)).trans (by rw [CC_A hi])) ((wl_at (isA_lt hj.1)).trans (by rw [CC_A hj])) rfl rfl rfl (by decide) (by decide) (nI_pos hn) (by rw [hcl, h0]; omega) (by rw [hcl, h0]; omega) (fun _ _ => rfl) hframes hlocals hdg (fun H1 locs1 hP1 _ hS1 => kk H1 locs1 ?_ hS1)
  rw [wl_set (isA_lt hj.1), CC_upA hj, hcl, h0] at hP1
  exact hP1
theorem q_hld (hx : p.tables.exec = Jvm.exec) (hb : c.code = cc) (hK : KK D cI cS s) (hP : WP D cI cS ad R F H) (k : Nat) {x : Int32} (hdg : decode cc pc = .ok (.aaload, 1)) (hxk : x = nI k) (hk : k < 5)
    (kk : W p l e rm s m args below meth c H locs cells slots Q (F0 m (pc + 1) ls (.ref (ad (18 + 13 * k)) :: rest))) : W p l e rm s m args below meth c H locs cells slots Q (F0 m pc ls (.int x :: .ref (ad 14) :: rest)) := by
  subst hxk
  refine va_aldq hx hb hK.1 hP 14 1 ((wl_at (by decide)).trans (by rw [CC_14])) rfl (vp_in_nI hk (by decide)) hdg ?_
  rw [nI_clamp (by omega)]
  exact kk
end
theorem ne_toInt {x : Int32} {v : Int32} {n : Int} (hn : v.toInt = n) (h : ¬ x = v) : x.toInt ≠ n := fun e => h (Int32.toInt_inj.mp (e.trans hn.symm))
theorem sw_out5 {x : Int32} (h0 : ¬ x = (0 : Int32)) (h1 : ¬ x = (1 : Int32)) (h2 : ¬ x = (2 : Int32)) (h3 : ¬ x = (3 : Int32)) (h4 : ¬ x = (4 : Int32)) : x.toInt < 0 ∨ 4 < x.toInt := by
  have g0 := ne_toInt (n := 0) (by decide) h0
  have g1 := ne_toInt (n := 1) (by decide) h1
  have g2 := ne_toInt (n := 2) (by decide) h2
  have g3 := ne_toInt (n := 3) (by decide) h3
  have g4 := ne_toInt (n := 4) (by decide) h4
  omega
theorem sw_out8 {x : Int32} (h0 : ¬ x = (0 : Int32)) (h1 : ¬ x = (1 : Int32)) (h2 : ¬ x = (2 : Int32)) (h3 : ¬ x = (3 : Int32)) (h4 : ¬ x = (4 : Int32)) (h5 : ¬ x = (5 : Int32)) (h6 : ¬ x = (6 : Int32)) (h7 : ¬ x = (7 : Int32)) : x.toInt < 0 ∨ 7 < x.toInt := by
  have g0 := ne_toInt (n := 0) (by decide) h0
  have g1 := ne_toInt (n := 1) (by decide) h1
  have g2 := ne_toInt (n := 2) (by decide) h2
  have g3 := ne_toInt (n := 3) (by decide) h3
  have g4 := ne_toInt (n := 4) (by decide) h4
  have g5 := ne_toInt (n := 5) (by decide) h5
  have g6 := ne_toInt (n := 6) (by decide) h6
  have g7 := ne_toInt (n := 7) (by decide) h7
  omega
theorem sw_out12 {x : Int32} (h0 : ¬ x = (0 : Int32)) (h1 : ¬ x = (1 : Int32)) (h2 : ¬ x = (2 : Int32)) (h3 : ¬ x = (3 : Int32)) (h4 : ¬ x = (4 : Int32)) (h5 : ¬ x = (5 : Int32)) (h6 : ¬ x = (6 : Int32)) (h7 : ¬ x = (7 : Int32)) (h8 : ¬ x = (8 : Int32)) (h9 : ¬ x = (9 : Int32)) (h10 : ¬ x = (10 : Int32)) (h11 : ¬ x = (11 : Int32)) : x.toInt < 0 ∨ 11 < x.toInt := by
  have g0 := ne_toInt (n := 0) (by decide) h0
  have g1 := ne_toInt (n := 1) (by decide) h1
  have g2 := ne_toInt (n := 2) (by decide) h2
  have g3 := ne_toInt (n := 3) (by decide) h3
  have g4 := ne_toInt (n := 4) (by decide) h4
  have g5 := ne_toInt (n := 5) (by decide) h5
  have g6 := ne_toInt (n := 6) (by decide) h6
  have g7 := ne_toInt (n := 7) (by decide) h7
  have g8 := ne_toInt (n := 8) (by decide) h8
  have g9 := ne_toInt (n := 9) (by decide) h9
  have g10 := ne_toInt (n := 10) (by decide) h10
  have g11 := ne_toInt (n := 11) (by decide) h11
  omega
theorem Met.ofWF {l : Launch} {y : MethodName} {ws ws' : List Cond} {rm : Room} {Pc : Array Value → State → Prop} {Qc : Array Value → State → Outcome → State → Prop} {mc ms : Nat} {free : Addr → Prop} {cc : ByteArray} {maxL : Nat} {ret : Option FieldType}
    (hy : plainFor y = true) (hw : ws = Cond.code y cc maxL ret :: ws')
    (body : ∀ p e s m args below meth c s₁, BodyLoose p l y (headSpec ws rm) cc maxL ret e s m args below meth c s₁ → c.maxLocals = maxL → Pc args s →
      W p l e (headSpec ws rm).room s m args below meth c s.heap [] 0 0 (MQ below Qc args s mc ms free) (entryFrame m args maxL)) : Met l y ws rm Pc Qc mc ms free := by
  refine MetFree.of_bodySF (code := cc) (maxLocals := maxL) (ret := ret) hy ?_ ?_
  · intro args s m h hn
    obtain ⟨meth, c, h1, h2, h3, h4, h5, h6, -, -⟩ := Cond.code_spec hn (atoms_spec (ws := ws) h _ (by rw [hw]; exact List.mem_cons_self))
    exact ⟨meth, c, h1, h2, h3, h4, h5, h6⟩
  · intro p e s m args below meth c s₁ B hml hP _
    have hh0 : s₁.heap = s.heap := by rw [B.state]; rfl
    obtain ⟨t, a1, o, b1, b2, b3⟩ := body p e s m args below meth c s₁ B hml hP s₁ hh0 (Stand.of_body B)
    exact ⟨t, o, a1, b1, b2, ⟨b3.1, b3.2⟩⟩
end
section
theorem i_nlt {a b : Int32} (h : ¬ a < b) : b.toInt ≤ a.toInt := by
  rw [Int32.lt_iff_toInt_lt] at h
  omega
theorem i_nle {a b : Int32} (h : ¬ a ≤ b) : b.toInt < a.toInt := by
  rw [Int32.le_iff_toInt_le] at h
  omega
theorem i_0 : (0 : Int32).toInt = 0 := rfl
theorem i_7 : (7 : Int32).toInt = 7 := rfl
theorem i_8 : (8 : Int32).toInt = 8 := rfl
theorem i_24 : (24 : Int32).toInt = 24 := rfl
def xJ9_floorMod_7cf53 (p1 : Int32) (p2 : Int32) : Int32 :=
  (if (0 : Int32) ≤ (p1 ^^^ p2) then (p1 - p1 / p2 * p2) else (if (p1 - p1 / p2 * p2) = (0 : Int32) then (p1 - p1 / p2 * p2) else ((p1 - p1 / p2 * p2) + p2)))
set_option maxHeartbeats 4000000 in
set_option maxRecDepth 100000 in
theorem mJ9_floorMod_7cf53 (l : Launch) (D : va_G) (cI cS : ClassId) (ad : Nat → Nat) (hI : Inj ad) (R F : Nat → Nat → Int32) (p1 : Int32) (p2 : Int32) (hne : ¬ p2 = 0) : Met l yJ9_floorMod_7cf53 wsJ9_floorMod_7cf53 ({ frames := 0, cells := 0, slots := 0, locals := 0 }) (PW D cI cS ad R F [.int p1, .int p2]) (QS (xJ9_floorMod_7cf53 p1 p2)) 0 0 (fun _ => False) := by
  refine Met.ofWF (cc := cJ9_floorMod_7cf53) (maxL := 3) (ret := (some .int)) (by decide +kernel) rfl ?_
  intro p e s m args below meth c s₁ B hml hv
  obtain ⟨rfl, hP, hK⟩ := hv
  have hx := B.exec
  have hb := B.bytes
  have hr := B.returns
  have hts := atoms_spec (ws := wsJ9_floorMod_7cf53) B.pre
  have hown : s.vm.findClass RJ9 = some m.cls := findClass_of_methodNamed B.named
  have hlocks := B.notSynchronized
  have hS : va_S (AA ad) s.heap s.heap [] := va_S.rf
  have hl := lv_entry ([.int p1, .int p2]) (n := 3) (Nat.le_of_ble_eq_true rfl)
  rw [lg_entry_eq]
  generalize (lg_sl ([.int p1, .int p2]) ++ List.replicate (3 - (lg_sl ([.int p1, .int p2])).length) Slot.unset).toArray = ls at hl ⊢
  have hl : lv_has ls 3 [(0, .int p1), (1, .int p2)] := hl
  refine lv_iload_n hx hb dJ9_floorMod_7cf53_0 rfl (lv_at hl 0 rfl) ?_
  refine lv_iload_n hx hb dJ9_floorMod_7cf53_1 rfl (lv_at hl 1 rfl) ?_
  refine lv_irem hx hb dJ9_floorMod_7cf53_2 hne ?_
  refine lv_istore_n (lv' := [(2, .int (p1 - p1 / p2 * p2)), (0, .int p1), (1, .int p2)]) hx hb dJ9_floorMod_7cf53_3 rfl hl (by decide) rfl (fun ls hl => ?_)
  refine lv_iload_n hx hb dJ9_floorMod_7cf53_4 rfl (lv_at hl 1 rfl) ?_
  refine lv_iload_n hx hb dJ9_floorMod_7cf53_5 rfl (lv_at hl 2 rfl) ?_
  refine lv_ixor hx hb dJ9_floorMod_7cf53_6 ?_
  refine lv_if_ge (tgt := 18) hx hb dJ9_floorMod_7cf53_7 (by decide) (fun c_7 => ?_) (fun c_7 => ?_)
  · refine lv_iload_n hx hb dJ9_floorMod_7cf53_18 rfl (lv_at hl 0 rfl) ?_
    have hX : (xJ9_floorMod_7cf53 p1 p2) = (p1 - p1 / p2 * p2) := by unfold xJ9_floorMod_7cf53; rw [if_pos c_7]
    exact W.iret (v := (p1 - p1 / p2 * p2)) hx hb hr (fun t ht hW => ⟨by rw [hX], ht⟩) (fun _ h => by cases h) dJ9_floorMod_7cf53_19
  · refine lv_iload_n hx hb dJ9_floorMod_7cf53_10 rfl (lv_at hl 0 rfl) ?_
    refine lv_if_eq (tgt := 18) hx hb dJ9_floorMod_7cf53_11 (by decide) (fun c_11 => ?_) (fun c_11 => ?_)
    · refine lv_iload_n hx hb dJ9_floorMod_7cf53_18 rfl (lv_at hl 0 rfl) ?_
      have hX : (xJ9_floorMod_7cf53 p1 p2) = (p1 - p1 / p2 * p2) := by unfold xJ9_floorMod_7cf53; rw [if_neg c_7, if_pos c_11]
      exact W.iret (v := (p1 - p1 / p2 * p2)) hx hb hr (fun t ht hW => ⟨by rw [hX], ht⟩) (fun _ h => by cases h) dJ9_floorMod_7cf53_19
    · refine lv_iload_n hx hb dJ9_floorMod_7cf53_14 rfl (lv_at hl 0 rfl) ?_
      refine lv_iload_n hx hb dJ9_floorMod_7cf53_15 rfl (lv_at hl 2 rfl) ?_
      refine lv_iadd hx hb dJ9_floorMod_7cf53_16 ?_
      have hX : (xJ9_floorMod_7cf53 p1 p2) = ((p1 - p1 / p2 * p2) + p2) := by unfold xJ9_floorMod_7cf53; rw [if_neg c_7, if_neg c_11]
      exact W.iret (v := ((p1 - p1 / p2 * p2) + p2)) hx hb hr (fun t ht hW => ⟨by rw [hX], ht⟩) (fun _ h => by cases h) dJ9_floorMod_7cf53_17

def xX1_isWithin (p1 : Int32) (p2 : Int32) (p3 : Int32) : Int32 :=
  (if p1 < p2 then (0 : Int32) else (if p3 < p1 then (0 : Int32) else (1 : Int32)))
set_option maxHeartbeats 4000000 in
set_option maxRecDepth 100000 in
theorem mX1_isWithin (l : Launch) (D : va_G) (cI cS : ClassId) (ad : Nat → Nat) (hI : Inj ad) (R F : Nat → Nat → Int32) (p1 : Int32) (p2 : Int32) (p3 : Int32) : Met l yX1_isWithin wsX1_isWithin ({ frames := 0, cells := 0, slots := 0, locals := 0 }) (PW D cI cS ad R F [.int p1, .int p2, .int p3]) (QS (xX1_isWithin p1 p2 p3)) 0 0 (fun _ => False) := by
  refine Met.ofW (cc := cX1_isWithin) (maxL := 3) (ret := (some .boolean)) (by decide) rfl ?_
  intro p e s m args below meth c s₁ B hml hv
  obtain ⟨rfl, hP, hK⟩ := hv
  have hx := B.exec
  have hb := B.bytes
  have hr := B.returns
  have hts := atoms_spec (ws := wsX1_isWithin) B.pre
  have hown : s.vm.findClass RX1 = some m.cls := findClass_of_methodNamed B.named
  have hlocks := B.notSynchronized
  have hS : va_S (AA ad) s.heap s.heap [] := va_S.rf
  have hl := lv_entry ([.int p1, .int p2, .int p3]) (n := 3) (Nat.le_of_ble_eq_true rfl)
  rw [lg_entry_eq]
  generalize (lg_sl ([.int p1, .int p2, .int p3]) ++ List.replicate (3 - (lg_sl ([.int p1, .int p2, .int p3])).length) Slot.unset).toArray = ls at hl ⊢
  have hl : lv_has ls 3 [(0, .int p1), (1, .int p2), (2, .int p3)] := hl
  refine lv_iload_n hx hb dX1_isWithin_0 rfl (lv_at hl 0 rfl) ?_
  refine lv_iload_n hx hb dX1_isWithin_1 rfl (lv_at hl 1 rfl) ?_
  refine lv_icmp_lt (tgt := 14) hx hb dX1_isWithin_2 (by decide) (fun c_2 => ?_) (fun c_2 => ?_)
  · refine lv_iconst (v := 0) hx hb dX1_isWithin_14 (by decide) ?_
    have hX : (xX1_isWithin p1 p2 p3) = (0 : Int32) := by unfold xX1_isWithin; rw [if_pos c_2]
    exact W.zret (v := (0 : Int32)) hx hb hr rfl (fun t ht hW => ⟨by rw [hX], ht⟩) (fun _ h => by cases h) dX1_isWithin_15
  · refine lv_iload_n hx hb dX1_isWithin_5 rfl (lv_at hl 0 rfl) ?_
    refine lv_iload_n hx hb dX1_isWithin_6 rfl (lv_at hl 2 rfl) ?_
    refine lv_icmp_gt (tgt := 14) hx hb dX1_isWithin_7 (by decide) (fun c_7 => ?_) (fun c_7 => ?_)
    · refine lv_iconst (v := 0) hx hb dX1_isWithin_14 (by decide) ?_
      have hX : (xX1_isWithin p1 p2 p3) = (0 : Int32) := by unfold xX1_isWithin; rw [if_neg c_2, if_pos c_7]
      exact W.zret (v := (0 : Int32)) hx hb hr rfl (fun t ht hW => ⟨by rw [hX], ht⟩) (fun _ h => by cases h) dX1_isWithin_15
    · refine lv_iconst (v := 1) hx hb dX1_isWithin_10 (by decide) ?_
      refine lv_goto (tgt := 15) hx hb dX1_isWithin_11 (by decide) ?_
      have hX : (xX1_isWithin p1 p2 p3) = (1 : Int32) := by unfold xX1_isWithin; rw [if_neg c_2, if_neg c_7]
      exact W.zret (v := (1 : Int32)) hx hb hr rfl (fun t ht hW => ⟨by rw [hX], ht⟩) (fun _ h => by cases h) dX1_isWithin_15

theorem nz_X1_isWithin (a b c : Int32) : narrow .boolean (.int (xX1_isWithin a b c)) = .int (xX1_isWithin a b c) := by
  unfold xX1_isWithin
  split
  · rfl
  · split <;> rfl
def xX1_isCell (p1 : Int32) : Int32 :=
  (if p1 < (0 : Int32) then (0 : Int32) else (if (24 : Int32) ≤ p1 then (0 : Int32) else (1 : Int32)))
set_option maxHeartbeats 4000000 in
set_option maxRecDepth 100000 in
theorem mX1_isCell (l : Launch) (D : va_G) (cI cS : ClassId) (ad : Nat → Nat) (hI : Inj ad) (R F : Nat → Nat → Int32) (p1 : Int32) : Met l yX1_isCell wsX1_isCell ({ frames := 0, cells := 0, slots := 0, locals := 0 }) (PW D cI cS ad R F [.int p1]) (QS (xX1_isCell p1)) 0 0 (fun _ => False) := by
  refine Met.ofW (cc := cX1_isCell) (maxL := 1) (ret := (some .boolean)) (by decide) rfl ?_
  intro p e s m args below meth c s₁ B hml hv
  obtain ⟨rfl, hP, hK⟩ := hv
  have hx := B.exec
  have hb := B.bytes
  have hr := B.returns
  have hts := atoms_spec (ws := wsX1_isCell) B.pre
  have hown : s.vm.findClass RX1 = some m.cls := findClass_of_methodNamed B.named
  have hlocks := B.notSynchronized
  have hS : va_S (AA ad) s.heap s.heap [] := va_S.rf
  have hl := lv_entry ([.int p1]) (n := 1) (Nat.le_of_ble_eq_true rfl)
  rw [lg_entry_eq]
  generalize (lg_sl ([.int p1]) ++ List.replicate (1 - (lg_sl ([.int p1])).length) Slot.unset).toArray = ls at hl ⊢
  have hl : lv_has ls 1 [(0, .int p1)] := hl
  refine lv_iload_n hx hb dX1_isCell_0 rfl (lv_at hl 0 rfl) ?_
  refine lv_if_lt (tgt := 14) hx hb dX1_isCell_1 (by decide) (fun c_1 => ?_) (fun c_1 => ?_)
  · refine lv_iconst (v := 0) hx hb dX1_isCell_14 (by decide) ?_
    have hX : (xX1_isCell p1) = (0 : Int32) := by unfold xX1_isCell; rw [if_pos c_1]
    exact W.zret (v := (0 : Int32)) hx hb hr rfl (fun t ht hW => ⟨by rw [hX], ht⟩) (fun _ h => by cases h) dX1_isCell_15
  · refine lv_iload_n hx hb dX1_isCell_4 rfl (lv_at hl 0 rfl) ?_
    refine lv_bipush (v := 24) hx hb dX1_isCell_5 (by decide) ?_
    refine lv_icmp_ge (tgt := 14) hx hb dX1_isCell_7 (by decide) (fun c_7 => ?_) (fun c_7 => ?_)
    · refine lv_iconst (v := 0) hx hb dX1_isCell_14 (by decide) ?_
      have hX : (xX1_isCell p1) = (0 : Int32) := by unfold xX1_isCell; rw [if_neg c_1, if_pos c_7]
      exact W.zret (v := (0 : Int32)) hx hb hr rfl (fun t ht hW => ⟨by rw [hX], ht⟩) (fun _ h => by cases h) dX1_isCell_15
    · refine lv_iconst (v := 1) hx hb dX1_isCell_10 (by decide) ?_
      refine lv_goto (tgt := 15) hx hb dX1_isCell_11 (by decide) ?_
      have hX : (xX1_isCell p1) = (1 : Int32) := by unfold xX1_isCell; rw [if_neg c_1, if_neg c_7]
      exact W.zret (v := (1 : Int32)) hx hb hr rfl (fun t ht hW => ⟨by rw [hX], ht⟩) (fun _ h => by cases h) dX1_isCell_15

def xX1_isWeight (p1 : Int32) : Int32 :=
  (xX1_isWithin p1 (20 : Int32) (150 : Int32))
set_option maxHeartbeats 4000000 in
set_option maxRecDepth 100000 in
theorem mX1_isWeight (l : Launch) (D : va_G) (cI cS : ClassId) (ad : Nat → Nat) (hI : Inj ad) (R F : Nat → Nat → Int32) (p1 : Int32) : Met l yX1_isWeight wsX1_isWeight ({ frames := 1, cells := 0, slots := 0, locals := 22 }) (PW D cI cS ad R F [.int p1]) (QS (xX1_isWeight p1)) 0 0 (fun _ => False) := by
  refine Met.ofW (cc := cX1_isWeight) (maxL := 1) (ret := (some .boolean)) (by decide) rfl ?_
  intro p e s m args below meth c s₁ B hml hv
  obtain ⟨rfl, hP, hK⟩ := hv
  have hx := B.exec
  have hb := B.bytes
  have hr := B.returns
  have hts := atoms_spec (ws := wsX1_isWeight) B.pre
  have hown : s.vm.findClass RX1 = some m.cls := findClass_of_methodNamed B.named
  have hlocks := B.notSynchronized
  have hS : va_S (AA ad) s.heap s.heap [] := va_S.rf
  have hl := lv_entry ([.int p1]) (n := 1) (Nat.le_of_ble_eq_true rfl)
  rw [lg_entry_eq]
  generalize (lg_sl ([.int p1]) ++ List.replicate (1 - (lg_sl ([.int p1])).length) Slot.unset).toArray = ls at hl ⊢
  have hl : lv_has ls 1 [(0, .int p1)] := hl
  refine lv_iload_n hx hb dX1_isWeight_0 rfl (lv_at hl 0 rfl) ?_
  refine lv_bipush (v := 20) hx hb dX1_isWeight_1 (by decide) ?_
  refine lv_sipush (v := 150) hx hb dX1_isWeight_3 (by decide) ?_
  refine q_callS (va_runS (As := [.int p1, .int (20 : Int32), .int (150 : Int32)]) (rest := []) ⟨hx, hb, hml, hown, hts⟩ (mX1_isWithin l D cI cS ad hI R F p1 (20 : Int32) (150 : Int32)) (va_cwS 3 hts gX1_isWeight_X1_isWithin rfl rfl rfl (by decide +kernel) ⟨Nat.le_of_ble_eq_true rfl, Nat.le_of_ble_eq_true rfl⟩) (PW_preS hK hP) rfl rfl hl.1 rfl (lv_room (Nat.le_of_ble_eq_true rfl)) dX1_isWeight_6 ⟨Nat.zero_le _, Nat.zero_le _⟩) ?_
  have hX : (xX1_isWeight p1) = (xX1_isWithin p1 (20 : Int32) (150 : Int32)) := by unfold xX1_isWeight; rfl
  exact W.zret (v := (xX1_isWithin p1 (20 : Int32) (150 : Int32))) hx hb hr (nz_X1_isWithin _ _ _) (fun t ht hW => ⟨by rw [hX], ht⟩) (fun _ h => by cases h) dX1_isWeight_9

def xX1_isWalker (R F : Nat → Nat → Int32) (p1 : Int32) : Int32 :=
  (if p1 < (0 : Int32) then (0 : Int32) else (if (F 1 2) ≤ p1 then (0 : Int32) else (if (8 : Int32) ≤ p1 then (0 : Int32) else (1 : Int32))))
set_option maxHeartbeats 4000000 in
set_option maxRecDepth 100000 in
theorem mX1_isWalker (l : Launch) (D : va_G) (cI cS : ClassId) (ad : Nat → Nat) (hI : Inj ad) (R F : Nat → Nat → Int32) (p1 : Int32) : Met l yX1_isWalker wsX1_isWalker ({ frames := 0, cells := 0, slots := 0, locals := 0 }) (PW D cI cS ad R F [.ref (ad 0), .int p1]) (QS (xX1_isWalker R F p1)) 0 0 (fun _ => False) := by
  refine Met.ofW (cc := cX1_isWalker) (maxL := 2) (ret := (some .boolean)) (by decide) rfl ?_
  intro p e s m args below meth c s₁ B hml hv
  obtain ⟨rfl, hP, hK⟩ := hv
  have hx := B.exec
  have hb := B.bytes
  have hr := B.returns
  have hts := atoms_spec (ws := wsX1_isWalker) B.pre
  have hown : s.vm.findClass RX1 = some m.cls := findClass_of_methodNamed B.named
  have hlocks := B.notSynchronized
  have hS : va_S (AA ad) s.heap s.heap [] := va_S.rf
  have hl := lv_entry ([.ref (ad 0), .int p1]) (n := 2) (Nat.le_of_ble_eq_true rfl)
  rw [lg_entry_eq]
  generalize (lg_sl ([.ref (ad 0), .int p1]) ++ List.replicate (2 - (lg_sl ([.ref (ad 0), .int p1])).length) Slot.unset).toArray = ls at hl ⊢
  have hl : lv_has ls 2 [(0, .ref (ad 0)), (1, .int p1)] := hl
  have lk10 := hts (.fieldLink RX1 10 "FerryFloor" "now" "LFerryFloor$State;") (by decide +kernel)
  have lk79 := hts (.fieldLink RX1 79 "FerryFloor$State" "walkers" "I") (by decide +kernel)
  have hin1 : ∀ w ∈ u_ws RX1 TX1 7, w ∈ wsX1_isWalker := by decide +kernel
  have hin0 : ∀ w ∈ u_ws RX0 TX0 15, w ∈ wsX1_isWalker := by decide +kernel
  refine lv_iload_n hx hb dX1_isWalker_0 rfl (lv_at hl 1 rfl) ?_
  refine lv_if_lt (tgt := 25) hx hb dX1_isWalker_1 (by decide) (fun c_1 => ?_) (fun c_1 => ?_)
  · refine lv_iconst (v := 0) hx hb dX1_isWalker_25 (by decide) ?_
    have hX : (xX1_isWalker R F p1) = (0 : Int32) := by unfold xX1_isWalker; rw [if_pos c_1]
    exact W.zret (v := (0 : Int32)) hx hb hr rfl (fun t ht hW => ⟨by rw [hX], ht⟩) (fun _ h => by cases h) dX1_isWalker_26
  · refine lv_iload_n hx hb dX1_isWalker_4 rfl (lv_at hl 1 rfl) ?_
    refine lv_aload_n hx hb dX1_isWalker_5 rfl (lv_at hl 0 rfl) ?_
    refine q_getF (v := .ref (ad 1)) hx hb hts hin1 hown hK hP 0 (by decide) lk10 (fun _ h => h) rfl dX1_isWalker_6 ?_
    refine q_getS (v := .int (F 1 2)) hx hb hts hin0 hown hK hP 1 st_1 2 (by decide) lk79 (fun _ h => h) rfl dX1_isWalker_9 ?_
    refine lv_icmp_ge (tgt := 25) hx hb dX1_isWalker_12 (by decide) (fun c_12 => ?_) (fun c_12 => ?_)
    · refine lv_iconst (v := 0) hx hb dX1_isWalker_25 (by decide) ?_
      have hX : (xX1_isWalker R F p1) = (0 : Int32) := by unfold xX1_isWalker; rw [if_neg c_1, if_pos c_12]
      exact W.zret (v := (0 : Int32)) hx hb hr rfl (fun t ht hW => ⟨by rw [hX], ht⟩) (fun _ h => by cases h) dX1_isWalker_26
    · refine lv_iload_n hx hb dX1_isWalker_15 rfl (lv_at hl 1 rfl) ?_
      refine lv_bipush (v := 8) hx hb dX1_isWalker_16 (by decide) ?_
      refine lv_icmp_ge (tgt := 25) hx hb dX1_isWalker_18 (by decide) (fun c_18 => ?_) (fun c_18 => ?_)
      · refine lv_iconst (v := 0) hx hb dX1_isWalker_25 (by decide) ?_
        have hX : (xX1_isWalker R F p1) = (0 : Int32) := by unfold xX1_isWalker; rw [if_neg c_1, if_neg c_12, if_pos c_18]
        exact W.zret (v := (0 : Int32)) hx hb hr rfl (fun t ht hW => ⟨by rw [hX], ht⟩) (fun _ h => by cases h) dX1_isWalker_26
      · refine lv_iconst (v := 1) hx hb dX1_isWalker_21 (by decide) ?_
        refine lv_goto (tgt := 26) hx hb dX1_isWalker_22 (by decide) ?_
        have hX : (xX1_isWalker R F p1) = (1 : Int32) := by unfold xX1_isWalker; rw [if_neg c_1, if_neg c_12, if_neg c_18]
        exact W.zret (v := (1 : Int32)) hx hb hr rfl (fun t ht hW => ⟨by rw [hX], ht⟩) (fun _ h => by cases h) dX1_isWalker_26

theorem isCell_in {p : Int32} (h : ¬ xX1_isCell p = 0) : vp_in p 24 := by
  unfold xX1_isCell at h
  split at h
  · exact absurd rfl h
  · next h1 =>
    split at h
    · exact absurd rfl h
    · next h2 =>
      have a := i_nlt h1
      have b := i_nle h2
      rw [i_0] at a
      rw [i_24] at b
      exact vp_in_iff.mpr ⟨a, b⟩
theorem isWalker_in {R F : Nat → Nat → Int32} {p : Int32} (h : ¬ xX1_isWalker R F p = 0) : vp_in p 8 := by
  unfold xX1_isWalker at h
  split at h
  · exact absurd rfl h
  · next h1 =>
    split at h
    · exact absurd rfl h
    · split at h
      · exact absurd rfl h
      · next h2 =>
        have a := i_nlt h1
        have b := i_nle h2
        rw [i_0] at a
        rw [i_8] at b
        exact vp_in_iff.mpr ⟨a, b⟩
def xX1_isPair (R F : Nat → Nat → Int32) (p1 : Int32) (p2 : Int32) : Int32 :=
  (if (xX1_isWalker R F p1) = (0 : Int32) then (0 : Int32) else (if (xX1_isWalker R F p2) = (0 : Int32) then (0 : Int32) else (if p1 = p2 then (0 : Int32) else (1 : Int32))))
set_option maxHeartbeats 4000000 in
set_option maxRecDepth 100000 in
theorem mX1_isPair (l : Launch) (D : va_G) (cI cS : ClassId) (ad : Nat → Nat) (hI : Inj ad) (R F : Nat → Nat → Int32) (p1 : Int32) (p2 : Int32) : Met l yX1_isPair wsX1_isPair ({ frames := 1, cells := 0, slots := 0, locals := 21 }) (PW D cI cS ad R F [.ref (ad 0), .int p1, .int p2]) (QS (xX1_isPair R F p1 p2)) 0 0 (fun _ => False) := by
  refine Met.ofW (cc := cX1_isPair) (maxL := 3) (ret := (some .boolean)) (by decide) rfl ?_
  intro p e s m args below meth c s₁ B hml hv
  obtain ⟨rfl, hP, hK⟩ := hv
  have hx := B.exec
  have hb := B.bytes
  have hr := B.returns
  have hts := atoms_spec (ws := wsX1_isPair) B.pre
  have hown : s.vm.findClass RX1 = some m.cls := findClass_of_methodNamed B.named
  have hlocks := B.notSynchronized
  have hS : va_S (AA ad) s.heap s.heap [] := va_S.rf
  have hl := lv_entry ([.ref (ad 0), .int p1, .int p2]) (n := 3) (Nat.le_of_ble_eq_true rfl)
  rw [lg_entry_eq]
  generalize (lg_sl ([.ref (ad 0), .int p1, .int p2]) ++ List.replicate (3 - (lg_sl ([.ref (ad 0), .int p1, .int p2])).length) Slot.unset).toArray = ls at hl ⊢
  have hl : lv_has ls 3 [(0, .ref (ad 0)), (1, .int p1), (2, .int p2)] := hl
  refine lv_aload_n hx hb dX1_isPair_0 rfl (lv_at hl 0 rfl) ?_
  refine lv_iload_n hx hb dX1_isPair_1 rfl (lv_at hl 1 rfl) ?_
  refine q_callS (va_runV (As := [.int p1]) (rest := []) ⟨hx, hb, hml, hown, hts⟩ (mX1_isWalker l D cI cS ad hI R F p1) (cwV 1 hts gX1_isPair_X1_isWalker rfl rfl rfl (by decide +kernel) ⟨Nat.le_of_ble_eq_true rfl, Nat.le_of_ble_eq_true rfl⟩) (PW_preV (i := 0) (by decide) CC_0 rfl rfl hK hP) rfl rfl hl.1 rfl (lv_room (Nat.le_of_ble_eq_true rfl)) dX1_isPair_2 ⟨Nat.zero_le _, Nat.zero_le _⟩) ?_
  refine lv_if_eq (tgt := 25) hx hb dX1_isPair_5 (by decide) (fun c_5 => ?_) (fun c_5 => ?_)
  · refine lv_iconst (v := 0) hx hb dX1_isPair_25 (by decide) ?_
    have hX : (xX1_isPair R F p1 p2) = (0 : Int32) := by unfold xX1_isPair; rw [if_pos c_5]
    exact W.zret (v := (0 : Int32)) hx hb hr rfl (fun t ht hW => ⟨by rw [hX], ht⟩) (fun _ h => by cases h) dX1_isPair_26
  · refine lv_aload_n hx hb dX1_isPair_8 rfl (lv_at hl 0 rfl) ?_
    refine lv_iload_n hx hb dX1_isPair_9 rfl (lv_at hl 2 rfl) ?_
    refine q_callS (va_runV (As := [.int p2]) (rest := []) ⟨hx, hb, hml, hown, hts⟩ (mX1_isWalker l D cI cS ad hI R F p2) (cwV 1 hts gX1_isPair_X1_isWalker rfl rfl rfl (by decide +kernel) ⟨Nat.le_of_ble_eq_true rfl, Nat.le_of_ble_eq_true rfl⟩) (PW_preV (i := 0) (by decide) CC_0 rfl rfl hK hP) rfl rfl hl.1 rfl (lv_room (Nat.le_of_ble_eq_true rfl)) dX1_isPair_10 ⟨Nat.zero_le _, Nat.zero_le _⟩) ?_
    refine lv_if_eq (tgt := 25) hx hb dX1_isPair_13 (by decide) (fun c_13 => ?_) (fun c_13 => ?_)
    · refine lv_iconst (v := 0) hx hb dX1_isPair_25 (by decide) ?_
      have hX : (xX1_isPair R F p1 p2) = (0 : Int32) := by unfold xX1_isPair; rw [if_neg c_5, if_pos c_13]
      exact W.zret (v := (0 : Int32)) hx hb hr rfl (fun t ht hW => ⟨by rw [hX], ht⟩) (fun _ h => by cases h) dX1_isPair_26
    · refine lv_iload_n hx hb dX1_isPair_16 rfl (lv_at hl 1 rfl) ?_
      refine lv_iload_n hx hb dX1_isPair_17 rfl (lv_at hl 2 rfl) ?_
      refine lv_icmp_eq (tgt := 25) hx hb dX1_isPair_18 (by decide) (fun c_18 => ?_) (fun c_18 => ?_)
      · refine lv_iconst (v := 0) hx hb dX1_isPair_25 (by decide) ?_
        have hX : (xX1_isPair R F p1 p2) = (0 : Int32) := by unfold xX1_isPair; rw [if_neg c_5, if_neg c_13, if_pos c_18]
        exact W.zret (v := (0 : Int32)) hx hb hr rfl (fun t ht hW => ⟨by rw [hX], ht⟩) (fun _ h => by cases h) dX1_isPair_26
      · refine lv_iconst (v := 1) hx hb dX1_isPair_21 (by decide) ?_
        refine lv_goto (tgt := 26) hx hb dX1_isPair_22 (by decide) ?_
        have hX : (xX1_isPair R F p1 p2) = (1 : Int32) := by unfold xX1_isPair; rw [if_neg c_5, if_neg c_13, if_neg c_18]
        exact W.zret (v := (1 : Int32)) hx hb hr rfl (fun t ht hW => ⟨by rw [hX], ht⟩) (fun _ h => by cases h) dX1_isPair_26

def xX1_isAboard (R F : Nat → Nat → Int32) (p1 : Int32) : Int32 :=
  (if (xX1_isWalker R F p1) = (0 : Int32) then (0 : Int32) else (if (R 7 (p1).toNatClampNeg) = (-100009 : Int32) then (0 : Int32) else (1 : Int32)))
set_option maxHeartbeats 4000000 in
set_option maxRecDepth 100000 in
theorem mX1_isAboard (l : Launch) (D : va_G) (cI cS : ClassId) (ad : Nat → Nat) (hI : Inj ad) (R F : Nat → Nat → Int32) (p1 : Int32) : Met l yX1_isAboard wsX1_isAboard ({ frames := 1, cells := 0, slots := 0, locals := 21 }) (PW D cI cS ad R F [.ref (ad 0), .int p1]) (QS (xX1_isAboard R F p1)) 0 0 (fun _ => False) := by
  refine Met.ofW (cc := cX1_isAboard) (maxL := 2) (ret := (some .boolean)) (by decide) rfl ?_
  intro p e s m args below meth c s₁ B hml hv
  obtain ⟨rfl, hP, hK⟩ := hv
  have hx := B.exec
  have hb := B.bytes
  have hr := B.returns
  have hts := atoms_spec (ws := wsX1_isAboard) B.pre
  have hown : s.vm.findClass RX1 = some m.cls := findClass_of_methodNamed B.named
  have hlocks := B.notSynchronized
  have hS : va_S (AA ad) s.heap s.heap [] := va_S.rf
  have hl := lv_entry ([.ref (ad 0), .int p1]) (n := 2) (Nat.le_of_ble_eq_true rfl)
  rw [lg_entry_eq]
  generalize (lg_sl ([.ref (ad 0), .int p1]) ++ List.replicate (2 - (lg_sl ([.ref (ad 0), .int p1])).length) Slot.unset).toArray = ls at hl ⊢
  have hl : lv_has ls 2 [(0, .ref (ad 0)), (1, .int p1)] := hl
  have lk10 := hts (.fieldLink RX1 10 "FerryFloor" "now" "LFerryFloor$State;") (by decide +kernel)
  have lk71 := hts (.fieldLink RX1 71 "FerryFloor$State" "places" "[I") (by decide +kernel)
  have lk78 := hts (.constant RX1 78 (-100009)) (by decide +kernel)
  have hin1 : ∀ w ∈ u_ws RX1 TX1 7, w ∈ wsX1_isAboard := by decide +kernel
  have hin0 : ∀ w ∈ u_ws RX0 TX0 15, w ∈ wsX1_isAboard := by decide +kernel
  refine lv_aload_n hx hb dX1_isAboard_0 rfl (lv_at hl 0 rfl) ?_
  refine lv_iload_n hx hb dX1_isAboard_1 rfl (lv_at hl 1 rfl) ?_
  refine q_callS (va_runV (As := [.int p1]) (rest := []) ⟨hx, hb, hml, hown, hts⟩ (mX1_isWalker l D cI cS ad hI R F p1) (cwV 1 hts gX1_isAboard_X1_isWalker rfl rfl rfl (by decide +kernel) ⟨Nat.le_of_ble_eq_true rfl, Nat.le_of_ble_eq_true rfl⟩) (PW_preV (i := 0) (by decide) CC_0 rfl rfl hK hP) rfl rfl hl.1 rfl (lv_room (Nat.le_of_ble_eq_true rfl)) dX1_isAboard_2 ⟨Nat.zero_le _, Nat.zero_le _⟩) ?_
  refine lv_if_eq (tgt := 26) hx hb dX1_isAboard_5 (by decide) (fun c_5 => ?_) (fun c_5 => ?_)
  · refine lv_iconst (v := 0) hx hb dX1_isAboard_26 (by decide) ?_
    have hX : (xX1_isAboard R F p1) = (0 : Int32) := by unfold xX1_isAboard; rw [if_pos c_5]
    exact W.zret (v := (0 : Int32)) hx hb hr rfl (fun t ht hW => ⟨by rw [hX], ht⟩) (fun _ h => by cases h) dX1_isAboard_27
  · refine lv_aload_n hx hb dX1_isAboard_8 rfl (lv_at hl 0 rfl) ?_
    refine q_getF (v := .ref (ad 1)) hx hb hts hin1 hown hK hP 0 (by decide) lk10 (fun _ h => h) rfl dX1_isAboard_9 ?_
    refine q_getS (v := .ref (ad 7)) hx hb hts hin0 hown hK hP 1 st_1 8 (by decide) lk71 (fun _ h => h) rfl dX1_isAboard_12 ?_
    refine lv_iload_n hx hb dX1_isAboard_15 rfl (lv_at hl 1 rfl) ?_
    refine q_ild hx hb hK hP 7 8 (ar_7) dX1_isAboard_16 (by first | assumption | exact isCell_in (by assumption) | exact isWalker_in (by assumption) | exact isAboard_in (by assumption) | exact isPair_in1 (by assumption) | exact isPair_in2 (by assumption) | exact isWithin7_in (by assumption) | exact vp_in_nI (by omega) (by decide)) ?_
    refine lv_ldc (v := -100009) hx hb hown lk78 dX1_isAboard_17 ?_
    refine lv_icmp_eq (tgt := 26) hx hb dX1_isAboard_19 (by decide) (fun c_19 => ?_) (fun c_19 => ?_)
    · refine lv_iconst (v := 0) hx hb dX1_isAboard_26 (by decide) ?_
      have hX : (xX1_isAboard R F p1) = (0 : Int32) := by unfold xX1_isAboard; rw [if_neg c_5, if_pos c_19]
      exact W.zret (v := (0 : Int32)) hx hb hr rfl (fun t ht hW => ⟨by rw [hX], ht⟩) (fun _ h => by cases h) dX1_isAboard_27
    · refine lv_iconst (v := 1) hx hb dX1_isAboard_22 (by decide) ?_
      refine lv_goto (tgt := 27) hx hb dX1_isAboard_23 (by decide) ?_
      have hX : (xX1_isAboard R F p1) = (1 : Int32) := by unfold xX1_isAboard; rw [if_neg c_5, if_neg c_19]
      exact W.zret (v := (1 : Int32)) hx hb hr rfl (fun t ht hW => ⟨by rw [hX], ht⟩) (fun _ h => by cases h) dX1_isAboard_27

theorem isAboard_in {R F : Nat → Nat → Int32} {p : Int32} (h : ¬ xX1_isAboard R F p = 0) : vp_in p 8 := by
  unfold xX1_isAboard at h
  split at h
  · exact absurd rfl h
  · next h1 => exact isWalker_in h1
theorem isPair_in1 {R F : Nat → Nat → Int32} {p r : Int32} (h : ¬ xX1_isPair R F p r = 0) : vp_in p 8 := by
  unfold xX1_isPair at h
  split at h
  · exact absurd rfl h
  · next h1 => exact isWalker_in h1
theorem isPair_in2 {R F : Nat → Nat → Int32} {p r : Int32} (h : ¬ xX1_isPair R F p r = 0) : vp_in r 8 := by
  unfold xX1_isPair at h
  split at h
  · exact absurd rfl h
  · split at h
    · exact absurd rfl h
    · next h1 => exact isWalker_in h1
theorem isWithin7_in {p : Int32} (h : ¬ xX1_isWithin p 0 7 = 0) : vp_in p 8 := by
  unfold xX1_isWithin at h
  split at h
  · exact absurd rfl h
  · next h1 =>
    split at h
    · exact absurd rfl h
    · next h2 =>
      have a := i_nlt h1
      have b := i_nlt h2
      rw [i_0] at a
      rw [i_7] at b
      exact vp_in_iff.mpr ⟨a, by omega⟩
end
section
def xX1_nearCell (p1 : Int32) (p2 : Int32) : Int32 :=
  (if p2 = (0 : Int32) then p1 else (if p2 = (1 : Int32) then (p1 - (6 : Int32)) else (if p2 = (2 : Int32) then (p1 + (6 : Int32)) else (if p2 = (3 : Int32) then (if (p1 - p1 / (6 : Int32) * (6 : Int32)) = (0 : Int32) then (-100009 : Int32) else (p1 - (1 : Int32))) else (if p2 = (4 : Int32) then (if (p1 - p1 / (6 : Int32) * (6 : Int32)) = (5 : Int32) then (-100009 : Int32) else (p1 + (1 : Int32))) else (-100009 : Int32))))))
set_option maxHeartbeats 4000000 in
set_option maxRecDepth 100000 in
theorem mX1_nearCell (l : Launch) (D : va_G) (cI cS : ClassId) (ad : Nat → Nat) (hI : Inj ad) (R F : Nat → Nat → Int32) (p1 : Int32) (p2 : Int32) : Met l yX1_nearCell wsX1_nearCell ({ frames := 0, cells := 0, slots := 0, locals := 0 }) (PW D cI cS ad R F [.int p1, .int p2]) (QS (xX1_nearCell p1 p2)) 0 0 (fun _ => False) := by
  refine Met.ofW (cc := cX1_nearCell) (maxL := 3) (ret := (some .int)) (by decide) rfl ?_
  intro p e s m args below meth c s₁ B hml hv
  obtain ⟨rfl, hP, hK⟩ := hv
  have hx := B.exec
  have hb := B.bytes
  have hr := B.returns
  have hts := atoms_spec (ws := wsX1_nearCell) B.pre
  have hown : s.vm.findClass RX1 = some m.cls := findClass_of_methodNamed B.named
  have hlocks := B.notSynchronized
  have hS : va_S (AA ad) s.heap s.heap [] := va_S.rf
  have hl := lv_entry ([.int p1, .int p2]) (n := 3) (Nat.le_of_ble_eq_true rfl)
  rw [lg_entry_eq]
  generalize (lg_sl ([.int p1, .int p2]) ++ List.replicate (3 - (lg_sl ([.int p1, .int p2])).length) Slot.unset).toArray = ls at hl ⊢
  have hl : lv_has ls 3 [(0, .int p1), (1, .int p2)] := hl
  have lk78 := hts (.constant RX1 78 (-100009)) (by decide +kernel)
  refine lv_iload_n hx hb dX1_nearCell_0 rfl (lv_at hl 0 rfl) ?_
  refine lv_bipush (v := 6) hx hb dX1_nearCell_1 (by decide) ?_
  refine lv_irem hx hb dX1_nearCell_3 (by decide) ?_
  refine lv_istore_n (lv' := [(2, .int (p1 - p1 / (6 : Int32) * (6 : Int32))), (0, .int p1), (1, .int p2)]) hx hb dX1_nearCell_4 rfl hl (by decide) rfl (fun ls hl => ?_)
  refine lv_iload_n hx hb dX1_nearCell_5 rfl (lv_at hl 2 rfl) ?_
  by_cases c_6_0 : p2 = (0 : Int32)
  · refine lv_tableIn (x := p2) (off := 34) (tgt := 40) hx hb dX1_nearCell_6 (by rw [c_6_0]; decide) (by rw [c_6_0]; decide) (by rw [c_6_0]; rfl) (by decide) ?_
    refine lv_iload_n hx hb dX1_nearCell_40 rfl (lv_at hl 1 rfl) ?_
    have hX : (xX1_nearCell p1 p2) = p1 := by unfold xX1_nearCell; rw [if_pos c_6_0]
    exact W.iret (v := p1) hx hb hr (fun t ht hW => ⟨by rw [hX], ht⟩) (fun _ h => by cases h) dX1_nearCell_41
  by_cases c_6_1 : p2 = (1 : Int32)
  · refine lv_tableIn (x := p2) (off := 36) (tgt := 42) hx hb dX1_nearCell_6 (by rw [c_6_1]; decide) (by rw [c_6_1]; decide) (by rw [c_6_1]; rfl) (by decide) ?_
    refine lv_iload_n hx hb dX1_nearCell_42 rfl (lv_at hl 1 rfl) ?_
    refine lv_bipush (v := 6) hx hb dX1_nearCell_43 (by decide) ?_
    refine lv_isub hx hb dX1_nearCell_45 ?_
    have hX : (xX1_nearCell p1 p2) = (p1 - (6 : Int32)) := by unfold xX1_nearCell; rw [if_neg c_6_0, if_pos c_6_1]
    exact W.iret (v := (p1 - (6 : Int32))) hx hb hr (fun t ht hW => ⟨by rw [hX], ht⟩) (fun _ h => by cases h) dX1_nearCell_46
  by_cases c_6_2 : p2 = (2 : Int32)
  · refine lv_tableIn (x := p2) (off := 41) (tgt := 47) hx hb dX1_nearCell_6 (by rw [c_6_2]; decide) (by rw [c_6_2]; decide) (by rw [c_6_2]; rfl) (by decide) ?_
    refine lv_iload_n hx hb dX1_nearCell_47 rfl (lv_at hl 1 rfl) ?_
    refine lv_bipush (v := 6) hx hb dX1_nearCell_48 (by decide) ?_
    refine lv_iadd hx hb dX1_nearCell_50 ?_
    have hX : (xX1_nearCell p1 p2) = (p1 + (6 : Int32)) := by unfold xX1_nearCell; rw [if_neg c_6_0, if_neg c_6_1, if_pos c_6_2]
    exact W.iret (v := (p1 + (6 : Int32))) hx hb hr (fun t ht hW => ⟨by rw [hX], ht⟩) (fun _ h => by cases h) dX1_nearCell_51
  by_cases c_6_3 : p2 = (3 : Int32)
  · refine lv_tableIn (x := p2) (off := 46) (tgt := 52) hx hb dX1_nearCell_6 (by rw [c_6_3]; decide) (by rw [c_6_3]; decide) (by rw [c_6_3]; rfl) (by decide) ?_
    refine lv_iload_n hx hb dX1_nearCell_52 rfl (lv_at hl 0 rfl) ?_
    refine lv_if_ne (tgt := 61) hx hb dX1_nearCell_53 (by decide) (fun c_53 => ?_) (fun c_53 => ?_)
    · refine lv_iload_n hx hb dX1_nearCell_61 rfl (lv_at hl 1 rfl) ?_
      refine lv_iconst (v := 1) hx hb dX1_nearCell_62 (by decide) ?_
      refine lv_isub hx hb dX1_nearCell_63 ?_
      have hX : (xX1_nearCell p1 p2) = (p1 - (1 : Int32)) := by unfold xX1_nearCell; rw [if_neg c_6_0, if_neg c_6_1, if_neg c_6_2, if_pos c_6_3, if_neg c_53]
      exact W.iret (v := (p1 - (1 : Int32))) hx hb hr (fun t ht hW => ⟨by rw [hX], ht⟩) (fun _ h => by cases h) dX1_nearCell_64
    · refine lv_ldc (v := -100009) hx hb hown lk78 dX1_nearCell_56 ?_
      refine lv_goto (tgt := 64) hx hb dX1_nearCell_58 (by decide) ?_
      have hX : (xX1_nearCell p1 p2) = (-100009 : Int32) := by unfold xX1_nearCell; rw [if_neg c_6_0, if_neg c_6_1, if_neg c_6_2, if_pos c_6_3, if_pos c_53]
      exact W.iret (v := (-100009 : Int32)) hx hb hr (fun t ht hW => ⟨by rw [hX], ht⟩) (fun _ h => by cases h) dX1_nearCell_64
  by_cases c_6_4 : p2 = (4 : Int32)
  · refine lv_tableIn (x := p2) (off := 59) (tgt := 65) hx hb dX1_nearCell_6 (by rw [c_6_4]; decide) (by rw [c_6_4]; decide) (by rw [c_6_4]; rfl) (by decide) ?_
    refine lv_iload_n hx hb dX1_nearCell_65 rfl (lv_at hl 0 rfl) ?_
    refine lv_iconst (v := 5) hx hb dX1_nearCell_66 (by decide) ?_
    refine lv_icmp_ne (tgt := 75) hx hb dX1_nearCell_67 (by decide) (fun c_67 => ?_) (fun c_67 => ?_)
    · refine lv_iload_n hx hb dX1_nearCell_75 rfl (lv_at hl 1 rfl) ?_
      refine lv_iconst (v := 1) hx hb dX1_nearCell_76 (by decide) ?_
      refine lv_iadd hx hb dX1_nearCell_77 ?_
      have hX : (xX1_nearCell p1 p2) = (p1 + (1 : Int32)) := by unfold xX1_nearCell; rw [if_neg c_6_0, if_neg c_6_1, if_neg c_6_2, if_neg c_6_3, if_pos c_6_4, if_neg c_67]
      exact W.iret (v := (p1 + (1 : Int32))) hx hb hr (fun t ht hW => ⟨by rw [hX], ht⟩) (fun _ h => by cases h) dX1_nearCell_78
    · refine lv_ldc (v := -100009) hx hb hown lk78 dX1_nearCell_70 ?_
      refine lv_goto (tgt := 78) hx hb dX1_nearCell_72 (by decide) ?_
      have hX : (xX1_nearCell p1 p2) = (-100009 : Int32) := by unfold xX1_nearCell; rw [if_neg c_6_0, if_neg c_6_1, if_neg c_6_2, if_neg c_6_3, if_pos c_6_4, if_pos c_67]
      exact W.iret (v := (-100009 : Int32)) hx hb hr (fun t ht hW => ⟨by rw [hX], ht⟩) (fun _ h => by cases h) dX1_nearCell_78
  refine lv_tableOut (x := p2) (tgt := 79) hx hb dX1_nearCell_6 (sw_out5 c_6_0 c_6_1 c_6_2 c_6_3 c_6_4) (by decide) ?_
  refine lv_ldc (v := -100009) hx hb hown lk78 dX1_nearCell_79 ?_
  have hX : (xX1_nearCell p1 p2) = (-100009 : Int32) := by unfold xX1_nearCell; rw [if_neg c_6_0, if_neg c_6_1, if_neg c_6_2, if_neg c_6_3, if_neg c_6_4]
  exact W.iret (v := (-100009 : Int32)) hx hb hr (fun t ht hW => ⟨by rw [hX], ht⟩) (fun _ h => by cases h) dX1_nearCell_81

def hX1_whoIsOn_2 (R F : Nat → Nat → Int32) (i1 : Nat) (p2 : Int32) : Nat → Nat → Int32
  | 0, k => (-100009 : Int32)
  | n + 1, k => (if (R i1 k) = p2 then (nI k) else (hX1_whoIsOn_2 R F i1 p2 n (k + 1)))
theorem hX1_whoIsOn_2_z (R F : Nat → Nat → Int32) (i1 : Nat) (p2 : Int32) (k : Nat) : hX1_whoIsOn_2 R F i1 p2 0 k = (-100009 : Int32) := rfl
theorem hX1_whoIsOn_2_s (R F : Nat → Nat → Int32) (i1 : Nat) (p2 : Int32) (n : Nat) (k : Nat) : hX1_whoIsOn_2 R F i1 p2 (n + 1) k = (if (R i1 k) = p2 then (nI k) else (hX1_whoIsOn_2 R F i1 p2 n (k + 1))) := rfl
def xX1_whoIsOn (R F : Nat → Nat → Int32) (i1 : Nat) (p2 : Int32) : Int32 :=
  (hX1_whoIsOn_2 R F i1 p2 8 0)
set_option maxHeartbeats 4000000 in
set_option maxRecDepth 100000 in
theorem mX1_whoIsOn (l : Launch) (D : va_G) (cI cS : ClassId) (ad : Nat → Nat) (hI : Inj ad) (R F : Nat → Nat → Int32) (i1 : Nat) (p2 : Int32) (hi1 : Ar i1 8) : Met l yX1_whoIsOn wsX1_whoIsOn ({ frames := 0, cells := 0, slots := 0, locals := 0 }) (PW D cI cS ad R F [.ref (ad i1), .int p2]) (QS (xX1_whoIsOn R F i1 p2)) 0 0 (fun _ => False) := by
  refine Met.ofW (cc := cX1_whoIsOn) (maxL := 3) (ret := (some .int)) (by decide) rfl ?_
  intro p e s m args below meth c s₁ B hml hv
  obtain ⟨rfl, hP, hK⟩ := hv
  have hx := B.exec
  have hb := B.bytes
  have hr := B.returns
  have hts := atoms_spec (ws := wsX1_whoIsOn) B.pre
  have hown : s.vm.findClass RX1 = some m.cls := findClass_of_methodNamed B.named
  have hlocks := B.notSynchronized
  have hS : va_S (AA ad) s.heap s.heap [] := va_S.rf
  have hl := lv_entry ([.ref (ad i1), .int p2]) (n := 3) (Nat.le_of_ble_eq_true rfl)
  rw [lg_entry_eq]
  generalize (lg_sl ([.ref (ad i1), .int p2]) ++ List.replicate (3 - (lg_sl ([.ref (ad i1), .int p2])).length) Slot.unset).toArray = ls at hl ⊢
  have hl : lv_has ls 3 [(0, .ref (ad i1)), (1, .int p2)] := hl
  have lk78 := hts (.constant RX1 78 (-100009)) (by decide +kernel)
  refine lv_iconst (v := 0) hx hb dX1_whoIsOn_0 (by decide) ?_
  refine lv_istore_n (lv' := [(2, .int (0 : Int32)), (0, .ref (ad i1)), (1, .int p2)]) hx hb dX1_whoIsOn_1 rfl hl (by decide) rfl (fun ls hl => ?_)
  refine q_loop (fun nn H locs ls => ∃ (k : Nat), k + nn = 8 ∧ hX1_whoIsOn_2 R F i1 p2 nn k = (xX1_whoIsOn R F i1 p2) ∧ WP D cI cS ad R F H ∧ locs = [] ∧ H = s.heap ∧ lv_has ls 3 [(2, .int (nI k)), (0, .ref (ad i1)), (1, .int p2)]) 8 ⟨0, by omega, by unfold xX1_whoIsOn; rfl, hP, rfl, rfl, lv_sub hl [0, 1, 2] rfl⟩ ?_ ?_
  · intro H locs ls hz
    obtain ⟨k, hkn, hsp, hP, rfl, rfl, hl⟩ := hz
    refine lv_iload_n hx hb dX1_whoIsOn_2 rfl (lv_at hl 0 rfl) ?_
    refine lv_bipush (v := 8) hx hb dX1_whoIsOn_3 (by decide) ?_
    refine lv_icmp_ge (tgt := 23) hx hb dX1_whoIsOn_5 (by decide) (fun c_5 => ?_) (fun c_5 => ?_)
    · refine lv_ldc (v := -100009) hx hb hown lk78 dX1_whoIsOn_23 ?_
      have hX : (xX1_whoIsOn R F i1 p2) = (-100009 : Int32) := by rw [← hsp, hX1_whoIsOn_2_z]
      exact W.iret (v := (-100009 : Int32)) hx hb hr (fun t ht hW => ⟨by rw [hX], ht⟩) (fun _ h => by cases h) dX1_whoIsOn_25
    · exact absurd (nI_le (a := 8) (b := k) (by omega) (by omega)) c_5
  · intro n ih H locs ls hz
    obtain ⟨k, hkn, hsp, hP, rfl, rfl, hl⟩ := hz
    refine lv_iload_n hx hb dX1_whoIsOn_2 rfl (lv_at hl 0 rfl) ?_
    refine lv_bipush (v := 8) hx hb dX1_whoIsOn_3 (by decide) ?_
    refine lv_icmp_ge (tgt := 23) hx hb dX1_whoIsOn_5 (by decide) (fun c_5 => ?_) (fun c_5 => ?_)
    · exact absurd c_5 (nI_ge (a := k) (b := 8) (by omega) (by omega))
    · refine lv_aload_n hx hb dX1_whoIsOn_8 rfl (lv_at hl 1 rfl) ?_
      refine lv_iload_n hx hb dX1_whoIsOn_9 rfl (lv_at hl 0 rfl) ?_
      refine q_ildN hx hb hK hP i1 8 hi1 k dX1_whoIsOn_10 rfl (by omega) (by decide) ?_
      refine lv_iload_n hx hb dX1_whoIsOn_11 rfl (lv_at hl 2 rfl) ?_
      refine lv_icmp_ne (tgt := 17) hx hb dX1_whoIsOn_12 (by decide) (fun c_12 => ?_) (fun c_12 => ?_)
      · refine lv_iinc (v := (nI (k + 1))) (lv' := [(2, .int (nI (k + 1))), (0, .ref (ad i1)), (1, .int p2)]) hx hb dX1_whoIsOn_17 hl (k := 0) rfl (nI_1 k) (by decide) rfl (fun ls hl => ?_)
        refine lv_goto (tgt := 2) hx hb dX1_whoIsOn_20 (by decide) ?_
        exact ih _ _ _ ⟨(k + 1), by omega, by rw [← hsp, hX1_whoIsOn_2_s, if_neg c_12], hP, rfl, rfl, lv_sub hl [0, 1, 2] rfl⟩
      · refine lv_iload_n hx hb dX1_whoIsOn_15 rfl (lv_at hl 0 rfl) ?_
        have hX : (xX1_whoIsOn R F i1 p2) = (nI k) := by rw [← hsp, hX1_whoIsOn_2_s, if_pos c_12]
        exact W.iret (v := (nI k)) hx hb hr (fun t ht hW => ⟨by rw [hX], ht⟩) (fun _ h => by cases h) dX1_whoIsOn_16

def xX1_exchange (R F : Nat → Nat → Int32) (i1 : Nat) (p2 : Int32) (p3 : Int32) : (Nat → Nat → Int32) :=
  (sR (sR R i1 ((p2).toNatClampNeg) (R i1 (p3).toNatClampNeg)) i1 ((p3).toNatClampNeg) (R i1 (p2).toNatClampNeg))
set_option maxHeartbeats 4000000 in
set_option maxRecDepth 100000 in
theorem mX1_exchange (l : Launch) (D : va_G) (cI cS : ClassId) (ad : Nat → Nat) (hI : Inj ad) (R F : Nat → Nat → Int32) (i1 : Nat) (p2 : Int32) (p3 : Int32) (hi1 : Ar i1 8) (h2 : vp_in p2 8) (h3 : vp_in p3 8) : Met l yX1_exchange wsX1_exchange ({ frames := 0, cells := 0, slots := 0, locals := 0 }) (PW D cI cS ad R F [.ref (ad i1), .int p2, .int p3]) (QV D cI cS ad (xX1_exchange R F i1 p2 p3) F) 0 0 (AA ad) := by
  refine Met.ofW (cc := cX1_exchange) (maxL := 4) (ret := none) (by decide) rfl ?_
  intro p e s m args below meth c s₁ B hml hv
  obtain ⟨rfl, hP, hK⟩ := hv
  have hx := B.exec
  have hb := B.bytes
  have hr := B.returns
  have hts := atoms_spec (ws := wsX1_exchange) B.pre
  have hown : s.vm.findClass RX1 = some m.cls := findClass_of_methodNamed B.named
  have hlocks := B.notSynchronized
  have hS : va_S (AA ad) s.heap s.heap [] := va_S.rf
  have hl := lv_entry ([.ref (ad i1), .int p2, .int p3]) (n := 4) (Nat.le_of_ble_eq_true rfl)
  rw [lg_entry_eq]
  generalize (lg_sl ([.ref (ad i1), .int p2, .int p3]) ++ List.replicate (4 - (lg_sl ([.ref (ad i1), .int p2, .int p3])).length) Slot.unset).toArray = ls at hl ⊢
  have hl : lv_has ls 4 [(0, .ref (ad i1)), (1, .int p2), (2, .int p3)] := hl
  refine lv_aload_n hx hb dX1_exchange_0 rfl (lv_at hl 0 rfl) ?_
  refine lv_iload_n hx hb dX1_exchange_1 rfl (lv_at hl 1 rfl) ?_
  refine q_ild hx hb hK hP i1 8 hi1 dX1_exchange_2 (by first | assumption | exact isCell_in (by assumption) | exact isWalker_in (by assumption) | exact isAboard_in (by assumption) | exact isPair_in1 (by assumption) | exact isPair_in2 (by assumption) | exact isWithin7_in (by assumption) | exact vp_in_nI (by omega) (by decide)) ?_
  refine lv_istore_n (lv' := [(3, .int (R i1 (p2).toNatClampNeg)), (0, .ref (ad i1)), (1, .int p2), (2, .int p3)]) hx hb dX1_exchange_3 rfl hl (by decide) rfl (fun ls hl => ?_)
  refine lv_aload_n hx hb dX1_exchange_4 rfl (lv_at hl 1 rfl) ?_
  refine lv_iload_n hx hb dX1_exchange_5 rfl (lv_at hl 2 rfl) ?_
  refine lv_aload_n hx hb dX1_exchange_6 rfl (lv_at hl 1 rfl) ?_
  refine lv_iload_n hx hb dX1_exchange_7 rfl (lv_at hl 3 rfl) ?_
  refine q_ild hx hb hK hP i1 8 hi1 dX1_exchange_8 (by first | assumption | exact isCell_in (by assumption) | exact isWalker_in (by assumption) | exact isAboard_in (by assumption) | exact isPair_in1 (by assumption) | exact isPair_in2 (by assumption) | exact isWithin7_in (by assumption) | exact vp_in_nI (by omega) (by decide)) ?_
  refine q_ist hx hb hK hI hP hS i1 8 hi1 dX1_exchange_9 (by first | assumption | exact isCell_in (by assumption) | exact isWalker_in (by assumption) | exact isAboard_in (by assumption) | exact isPair_in1 (by assumption) | exact isPair_in2 (by assumption) | exact isWithin7_in (by assumption) | exact vp_in_nI (by omega) (by decide)) (fun H locs hP hS => ?_)
  have hP : WP D cI cS ad (sR R i1 ((p2).toNatClampNeg) (R i1 (p3).toNatClampNeg)) F H := hP
  refine lv_aload_n hx hb dX1_exchange_10 rfl (lv_at hl 1 rfl) ?_
  refine lv_iload_n hx hb dX1_exchange_11 rfl (lv_at hl 3 rfl) ?_
  refine lv_iload_n hx hb dX1_exchange_12 rfl (lv_at hl 0 rfl) ?_
  refine q_ist hx hb hK hI hP hS i1 8 hi1 dX1_exchange_13 (by first | assumption | exact isCell_in (by assumption) | exact isWalker_in (by assumption) | exact isAboard_in (by assumption) | exact isPair_in1 (by assumption) | exact isPair_in2 (by assumption) | exact isWithin7_in (by assumption) | exact vp_in_nI (by omega) (by decide)) (fun H locs hP hS => ?_)
  have hP : WP D cI cS ad (sR (sR R i1 ((p2).toNatClampNeg) (R i1 (p3).toNatClampNeg)) i1 ((p3).toNatClampNeg) (R i1 (p2).toNatClampNeg)) F H := hP
  have hX : (xX1_exchange R F i1 p2 p3) = (sR (sR R i1 ((p2).toNatClampNeg) (R i1 (p3).toNatClampNeg)) i1 ((p3).toNatClampNeg) (R i1 (p2).toNatClampNeg)) := by unfold xX1_exchange; rfl
  exact W.vret hx hb hr (fun t ht hW => ⟨rfl, by rw [hX, ht]; with_reducible exact hP, hS.F ht⟩) hS.2.2 dX1_exchange_14

def xX1_orZero (p1 : Int32) : Int32 :=
  (if p1 = (-100009 : Int32) then (0 : Int32) else p1)
set_option maxHeartbeats 4000000 in
set_option maxRecDepth 100000 in
theorem mX1_orZero (l : Launch) (D : va_G) (cI cS : ClassId) (ad : Nat → Nat) (hI : Inj ad) (R F : Nat → Nat → Int32) (p1 : Int32) : Met l yX1_orZero wsX1_orZero ({ frames := 0, cells := 0, slots := 0, locals := 0 }) (PW D cI cS ad R F [.int p1]) (QS (xX1_orZero p1)) 0 0 (fun _ => False) := by
  refine Met.ofW (cc := cX1_orZero) (maxL := 1) (ret := (some .int)) (by decide) rfl ?_
  intro p e s m args below meth c s₁ B hml hv
  obtain ⟨rfl, hP, hK⟩ := hv
  have hx := B.exec
  have hb := B.bytes
  have hr := B.returns
  have hts := atoms_spec (ws := wsX1_orZero) B.pre
  have hown : s.vm.findClass RX1 = some m.cls := findClass_of_methodNamed B.named
  have hlocks := B.notSynchronized
  have hS : va_S (AA ad) s.heap s.heap [] := va_S.rf
  have hl := lv_entry ([.int p1]) (n := 1) (Nat.le_of_ble_eq_true rfl)
  rw [lg_entry_eq]
  generalize (lg_sl ([.int p1]) ++ List.replicate (1 - (lg_sl ([.int p1])).length) Slot.unset).toArray = ls at hl ⊢
  have hl : lv_has ls 1 [(0, .int p1)] := hl
  have lk78 := hts (.constant RX1 78 (-100009)) (by decide +kernel)
  refine lv_iload_n hx hb dX1_orZero_0 rfl (lv_at hl 0 rfl) ?_
  refine lv_ldc (v := -100009) hx hb hown lk78 dX1_orZero_1 ?_
  refine lv_icmp_ne (tgt := 10) hx hb dX1_orZero_3 (by decide) (fun c_3 => ?_) (fun c_3 => ?_)
  · refine lv_iload_n hx hb dX1_orZero_10 rfl (lv_at hl 0 rfl) ?_
    have hX : (xX1_orZero p1) = p1 := by unfold xX1_orZero; rw [if_neg c_3]
    exact W.iret (v := p1) hx hb hr (fun t ht hW => ⟨by rw [hX], ht⟩) (fun _ h => by cases h) dX1_orZero_11
  · refine lv_iconst (v := 0) hx hb dX1_orZero_6 (by decide) ?_
    refine lv_goto (tgt := 11) hx hb dX1_orZero_7 (by decide) ?_
    have hX : (xX1_orZero p1) = (0 : Int32) := by unfold xX1_orZero; rw [if_pos c_3]
    exact W.iret (v := (0 : Int32)) hx hb hr (fun t ht hW => ⟨by rw [hX], ht⟩) (fun _ h => by cases h) dX1_orZero_11

def xX1_slotAfter (R F : Nat → Nat → Int32) (p1 : Int32) : Int32 :=
  (xJ9_floorMod_7cf53 ((F 0 0) + p1) (5 : Int32))
set_option maxHeartbeats 4000000 in
set_option maxRecDepth 100000 in
theorem mX1_slotAfter (l : Launch) (D : va_G) (cI cS : ClassId) (ad : Nat → Nat) (hI : Inj ad) (R F : Nat → Nat → Int32) (p1 : Int32) : Met l yX1_slotAfter wsX1_slotAfter ({ frames := 1, cells := 0, slots := 0, locals := 22 }) (PW D cI cS ad R F [.ref (ad 0), .int p1]) (QS (xX1_slotAfter R F p1)) 0 0 (fun _ => False) := by
  refine Met.ofW (cc := cX1_slotAfter) (maxL := 2) (ret := (some .int)) (by decide) rfl ?_
  intro p e s m args below meth c s₁ B hml hv
  obtain ⟨rfl, hP, hK⟩ := hv
  have hx := B.exec
  have hb := B.bytes
  have hr := B.returns
  have hts := atoms_spec (ws := wsX1_slotAfter) B.pre
  have hown : s.vm.findClass RX1 = some m.cls := findClass_of_methodNamed B.named
  have hlocks := B.notSynchronized
  have hS : va_S (AA ad) s.heap s.heap [] := va_S.rf
  have hl := lv_entry ([.ref (ad 0), .int p1]) (n := 2) (Nat.le_of_ble_eq_true rfl)
  rw [lg_entry_eq]
  generalize (lg_sl ([.ref (ad 0), .int p1]) ++ List.replicate (2 - (lg_sl ([.ref (ad 0), .int p1])).length) Slot.unset).toArray = ls at hl ⊢
  have hl : lv_has ls 2 [(0, .ref (ad 0)), (1, .int p1)] := hl
  have lk20 := hts (.fieldLink RX1 20 "FerryFloor" "oldest" "I") (by decide +kernel)
  have hin1 : ∀ w ∈ u_ws RX1 TX1 7, w ∈ wsX1_slotAfter := by decide +kernel
  refine lv_aload_n hx hb dX1_slotAfter_0 rfl (lv_at hl 0 rfl) ?_
  refine q_getF (v := .int (F 0 0)) hx hb hts hin1 hown hK hP 2 (by decide) lk20 (fun _ h => h) rfl dX1_slotAfter_1 ?_
  refine lv_iload_n hx hb dX1_slotAfter_4 rfl (lv_at hl 1 rfl) ?_
  refine lv_iadd hx hb dX1_slotAfter_5 ?_
  refine lv_iconst (v := 5) hx hb dX1_slotAfter_6 (by decide) ?_
  refine q_callS (va_runS (As := [.int ((F 0 0) + p1), .int (5 : Int32)]) (rest := []) ⟨hx, hb, hml, hown, hts⟩ (mJ9_floorMod_7cf53 l D cI cS ad hI R F ((F 0 0) + p1) (5 : Int32) (by decide)) (va_cwS 2 hts gX1_slotAfter_J9_floorMod_7cf53 rfl rfl rfl (by decide +kernel) ⟨Nat.le_of_ble_eq_true rfl, Nat.le_of_ble_eq_true rfl⟩) (PW_preS hK hP) rfl rfl hl.1 rfl (lv_room (Nat.le_of_ble_eq_true rfl)) dX1_slotAfter_7 ⟨Nat.zero_le _, Nat.zero_le _⟩) ?_
  have hX : (xX1_slotAfter R F p1) = (xJ9_floorMod_7cf53 ((F 0 0) + p1) (5 : Int32)) := by unfold xX1_slotAfter; rfl
  exact W.iret (v := (xJ9_floorMod_7cf53 ((F 0 0) + p1) (5 : Int32))) hx hb hr (fun t ht hW => ⟨by rw [hX], ht⟩) (fun _ h => by cases h) dX1_slotAfter_10

def xX1_copyRow (R F : Nat → Nat → Int32) (i1 : Nat) (i2 : Nat) (n0 : Nat) : (Nat → Nat → Int32) :=
  (va_up R i2 (va_cpy (R i1) (R i2) 0 0 n0))
set_option maxHeartbeats 4000000 in
set_option maxRecDepth 100000 in
theorem mX1_copyRow (l : Launch) (D : va_G) (cI cS : ClassId) (ad : Nat → Nat) (hI : Inj ad) (R F : Nat → Nat → Int32) (i1 : Nat) (i2 : Nat) (n0 : Nat) (hi1 : Ar i1 n0) (hi2 : Ar i2 n0) (hn : n0 < 2 ^ 31) : Met l yX1_copyRow wsX1_copyRow ({ frames := 1, cells := 0, slots := 0, locals := 48 }) (PW D cI cS ad R F [.ref (ad i1), .ref (ad i2)]) (QV D cI cS ad (xX1_copyRow R F i1 i2 n0) F) 0 0 (AA ad) := by
  refine Met.ofW (cc := cX1_copyRow) (maxL := 2) (ret := none) (by decide) rfl ?_
  intro p e s m args below meth c s₁ B hml hv
  obtain ⟨rfl, hP, hK⟩ := hv
  have hx := B.exec
  have hb := B.bytes
  have hr := B.returns
  have hts := atoms_spec (ws := wsX1_copyRow) B.pre
  have hown : s.vm.findClass RX1 = some m.cls := findClass_of_methodNamed B.named
  have hlocks := B.notSynchronized
  have hS : va_S (AA ad) s.heap s.heap [] := va_S.rf
  have hl := lv_entry ([.ref (ad i1), .ref (ad i2)]) (n := 2) (Nat.le_of_ble_eq_true rfl)
  rw [lg_entry_eq]
  generalize (lg_sl ([.ref (ad i1), .ref (ad i2)]) ++ List.replicate (2 - (lg_sl ([.ref (ad i1), .ref (ad i2)])).length) Slot.unset).toArray = ls at hl ⊢
  have hl : lv_has ls 2 [(0, .ref (ad i1)), (1, .ref (ad i2))] := hl
  refine lv_aload_n hx hb dX1_copyRow_0 rfl (lv_at hl 0 rfl) ?_
  refine lv_iconst (v := 0) hx hb dX1_copyRow_1 (by decide) ?_
  refine lv_aload_n hx hb dX1_copyRow_2 rfl (lv_at hl 1 rfl) ?_
  refine lv_iconst (v := 0) hx hb dX1_copyRow_3 (by decide) ?_
  refine lv_aload_n hx hb dX1_copyRow_4 rfl (lv_at hl 0 rfl) ?_
  refine q_len hx hb hK hP i1 n0 hi1 dX1_copyRow_5 ?_
  refine lv_aload_n hx hb dX1_copyRow_6 rfl (lv_at hl 1 rfl) ?_
  refine q_len hx hb hK hP i2 n0 hi2 dX1_copyRow_7 ?_
  refine va_mmin hx hb (hml.trans hl.1.symm) hown (hts (.methodLink RX1 205 Lib.Math.min.name) (by decide +kernel)) (hts (.static Lib.Math.min.name) (by decide +kernel)) (hts (.initialized "java/lang/Math") (by decide +kernel)) (hts (.code Lib.Math.min.name Lib.Math.min.code 2 (some .int)) (by decide +kernel)) (Nat.le_of_ble_eq_true rfl) (Nat.le_of_ble_eq_true rfl) (Nat.zero_le _) (Nat.zero_le _) dX1_copyRow_8 ?_
  refine q_top (y := (nI n0)) (by split <;> rfl) ?_
  refine q_copy hx hb (hml.trans hl.1.symm) hown (hts (.methodLink RX1 217 arraycopyName) (by decide +kernel)) (hts (.native arraycopyName) (by decide +kernel)) (hts (.static arraycopyName) (by decide +kernel)) (hts (.initialized "java/lang/System") (by decide +kernel)) hK hI hP hS i1 i2 n0 hi1 hi2 hn (Nat.le_of_ble_eq_true rfl) (by decide) dX1_copyRow_11 (fun H locs hP hS => ?_)
  have hX : (xX1_copyRow R F i1 i2 n0) = (va_up R i2 (va_cpy (R i1) (R i2) 0 0 n0)) := by unfold xX1_copyRow; rfl
  exact W.vret hx hb hr (fun t ht hW => ⟨rfl, by rw [hX, ht]; with_reducible exact hP, hS.F ht⟩) hS.2.2 dX1_copyRow_14

def hX1_sumOf_4 (R F : Nat → Nat → Int32) (i1 : Nat) : Nat → Nat → Int32 → Int32
  | 0, k, x1 => x1
  | n + 1, k, x1 => (hX1_sumOf_4 R F i1 n (k + 1) (x1 + (R i1 k)))
theorem hX1_sumOf_4_z (R F : Nat → Nat → Int32) (i1 : Nat) (k : Nat) (x1 : Int32) : hX1_sumOf_4 R F i1 0 k x1 = x1 := rfl
theorem hX1_sumOf_4_s (R F : Nat → Nat → Int32) (i1 : Nat) (n : Nat) (k : Nat) (x1 : Int32) : hX1_sumOf_4 R F i1 (n + 1) k x1 = (hX1_sumOf_4 R F i1 n (k + 1) (x1 + (R i1 k))) := rfl
def xX1_sumOf (R F : Nat → Nat → Int32) (i1 : Nat) : Int32 :=
  (hX1_sumOf_4 R F i1 24 0 (0 : Int32))
set_option maxHeartbeats 4000000 in
set_option maxRecDepth 100000 in
theorem mX1_sumOf (l : Launch) (D : va_G) (cI cS : ClassId) (ad : Nat → Nat) (hI : Inj ad) (R F : Nat → Nat → Int32) (i1 : Nat) (hi1 : Ar i1 24) : Met l yX1_sumOf wsX1_sumOf ({ frames := 0, cells := 0, slots := 0, locals := 0 }) (PW D cI cS ad R F [.ref (ad i1)]) (QS (xX1_sumOf R F i1)) 0 0 (fun _ => False) := by
  refine Met.ofW (cc := cX1_sumOf) (maxL := 3) (ret := (some .int)) (by decide) rfl ?_
  intro p e s m args below meth c s₁ B hml hv
  obtain ⟨rfl, hP, hK⟩ := hv
  have hx := B.exec
  have hb := B.bytes
  have hr := B.returns
  have hts := atoms_spec (ws := wsX1_sumOf) B.pre
  have hown : s.vm.findClass RX1 = some m.cls := findClass_of_methodNamed B.named
  have hlocks := B.notSynchronized
  have hS : va_S (AA ad) s.heap s.heap [] := va_S.rf
  have hl := lv_entry ([.ref (ad i1)]) (n := 3) (Nat.le_of_ble_eq_true rfl)
  rw [lg_entry_eq]
  generalize (lg_sl ([.ref (ad i1)]) ++ List.replicate (3 - (lg_sl ([.ref (ad i1)])).length) Slot.unset).toArray = ls at hl ⊢
  have hl : lv_has ls 3 [(0, .ref (ad i1))] := hl
  refine lv_iconst (v := 0) hx hb dX1_sumOf_0 (by decide) ?_
  refine lv_istore_n (lv' := [(1, .int (0 : Int32)), (0, .ref (ad i1))]) hx hb dX1_sumOf_1 rfl hl (by decide) rfl (fun ls hl => ?_)
  refine lv_iconst (v := 0) hx hb dX1_sumOf_2 (by decide) ?_
  refine lv_istore_n (lv' := [(2, .int (0 : Int32)), (1, .int (0 : Int32)), (0, .ref (ad i1))]) hx hb dX1_sumOf_3 rfl hl (by decide) rfl (fun ls hl => ?_)
  refine q_loop (fun nn H locs ls => ∃ (k : Nat) (x1 : Int32), k + nn = 24 ∧ hX1_sumOf_4 R F i1 nn k x1 = (xX1_sumOf R F i1) ∧ WP D cI cS ad R F H ∧ locs = [] ∧ H = s.heap ∧ lv_has ls 3 [(2, .int (nI k)), (1, .int x1), (0, .ref (ad i1))]) 24 ⟨0, (0 : Int32), by omega, by unfold xX1_sumOf; rfl, hP, rfl, rfl, lv_sub hl [0, 1, 2] rfl⟩ ?_ ?_
  · intro H locs ls hz
    obtain ⟨k, x1, hkn, hsp, hP, rfl, rfl, hl⟩ := hz
    refine lv_iload_n hx hb dX1_sumOf_4 rfl (lv_at hl 0 rfl) ?_
    refine lv_aload_n hx hb dX1_sumOf_5 rfl (lv_at hl 2 rfl) ?_
    refine q_len hx hb hK hP i1 24 hi1 dX1_sumOf_6 ?_
    refine lv_icmp_ge (tgt := 22) hx hb dX1_sumOf_7 (by decide) (fun c_7 => ?_) (fun c_7 => ?_)
    · refine lv_iload_n hx hb dX1_sumOf_22 rfl (lv_at hl 1 rfl) ?_
      have hX : (xX1_sumOf R F i1) = x1 := by rw [← hsp, hX1_sumOf_4_z]
      exact W.iret (v := x1) hx hb hr (fun t ht hW => ⟨by rw [hX], ht⟩) (fun _ h => by cases h) dX1_sumOf_23
    · exact absurd (nI_le (a := 24) (b := k) (by omega) (by omega)) c_7
  · intro n ih H locs ls hz
    obtain ⟨k, x1, hkn, hsp, hP, rfl, rfl, hl⟩ := hz
    refine lv_iload_n hx hb dX1_sumOf_4 rfl (lv_at hl 0 rfl) ?_
    refine lv_aload_n hx hb dX1_sumOf_5 rfl (lv_at hl 2 rfl) ?_
    refine q_len hx hb hK hP i1 24 hi1 dX1_sumOf_6 ?_
    refine lv_icmp_ge (tgt := 22) hx hb dX1_sumOf_7 (by decide) (fun c_7 => ?_) (fun c_7 => ?_)
    · exact absurd c_7 (nI_ge (a := k) (b := 24) (by omega) (by omega))
    · refine lv_iload_n hx hb dX1_sumOf_10 rfl (lv_at hl 1 rfl) ?_
      refine lv_aload_n hx hb dX1_sumOf_11 rfl (lv_at hl 2 rfl) ?_
      refine lv_iload_n hx hb dX1_sumOf_12 rfl (lv_at hl 0 rfl) ?_
      refine q_ildN hx hb hK hP i1 24 hi1 k dX1_sumOf_13 rfl (by omega) (by decide) ?_
      refine lv_iadd hx hb dX1_sumOf_14 ?_
      refine lv_istore_n (lv' := [(1, .int (x1 + (R i1 k))), (2, .int (nI k)), (0, .ref (ad i1))]) hx hb dX1_sumOf_15 rfl hl (by decide) rfl (fun ls hl => ?_)
      refine lv_iinc (v := (nI (k + 1))) (lv' := [(2, .int (nI (k + 1))), (1, .int (x1 + (R i1 k))), (0, .ref (ad i1))]) hx hb dX1_sumOf_16 hl (k := 1) rfl (nI_1 k) (by decide) rfl (fun ls hl => ?_)
      refine lv_goto (tgt := 4) hx hb dX1_sumOf_19 (by decide) ?_
      exact ih _ _ _ ⟨(k + 1), (x1 + (R i1 k)), by omega, by rw [← hsp, hX1_sumOf_4_s], hP, rfl, rfl, lv_sub hl [0, 1, 2] rfl⟩

theorem nx_xor (a b : Nat) : nI a ^^^ nI b = nI (a ^^^ b) := by
  apply Int32.toBitVec_inj.1
  show BitVec.ofNat 32 a ^^^ BitVec.ofNat 32 b = BitVec.ofNat 32 (a ^^^ b)
  apply BitVec.eq_of_getLsbD_eq
  intro i hi
  simp [hi]
theorem fm_eq {a : Nat} (h : a < 2 ^ 31) : xJ9_floorMod_7cf53 (nI a) 5 = nI (a % 5) := by
  have e : nI a - nI a / 5 * 5 = nI (a % 5) := pk_rem (d := 5) h (by decide) (by decide)
  unfold xJ9_floorMod_7cf53
  rw [e]
  split
  · rfl
  · next h1 =>
    exfalso
    apply h1
    rw [show nI a ^^^ (5 : Int32) = nI (a ^^^ 5) from nx_xor a 5]
    exact nI_pos' (Nat.xor_lt_two_pow h (by decide))
theorem slot_eq {R F : Nat → Nat → Int32} {a b : Nat} {p : Int32} (h0 : F 0 0 = nI a) (hp : p = nI b) (h : a + b < 2 ^ 31) : xX1_slotAfter R F p = nI ((a + b) % 5) := by
  unfold xX1_slotAfter
  rw [h0, hp, nI_add]
  exact fm_eq h
end
section
def hX1_addShares_19 (R F : Nat → Nat → Int32) (i1 : Nat) (p2 : Int32) (p3 : Int32) : Nat → Nat → Int32 → (Nat → Nat → Int32) → (Nat → Nat → Int32)
  | 0, k, x4, R1 => (sR R1 i1 ((p3).toNatClampNeg) ((R1 i1 (p3).toNatClampNeg) + x4))
  | n + 1, k, x4, R1 => (if (xX1_isCell (xX1_nearCell p3 (nI k))) = (0 : Int32) then (hX1_addShares_19 R F i1 p2 p3 n (k + 1) x4 R1) else (hX1_addShares_19 R F i1 p2 p3 n (k + 1) (x4 - (p2 / (8 : Int32))) (sR R1 i1 (((xX1_nearCell p3 (nI k))).toNatClampNeg) ((R1 i1 ((xX1_nearCell p3 (nI k))).toNatClampNeg) + (p2 / (8 : Int32))))))
theorem hX1_addShares_19_z (R F : Nat → Nat → Int32) (i1 : Nat) (p2 : Int32) (p3 : Int32) (k : Nat) (x4 : Int32) (R1 : Nat → Nat → Int32) : hX1_addShares_19 R F i1 p2 p3 0 k x4 R1 = (sR R1 i1 ((p3).toNatClampNeg) ((R1 i1 (p3).toNatClampNeg) + x4)) := rfl
theorem hX1_addShares_19_s (R F : Nat → Nat → Int32) (i1 : Nat) (p2 : Int32) (p3 : Int32) (n : Nat) (k : Nat) (x4 : Int32) (R1 : Nat → Nat → Int32) : hX1_addShares_19 R F i1 p2 p3 (n + 1) k x4 R1 = (if (xX1_isCell (xX1_nearCell p3 (nI k))) = (0 : Int32) then (hX1_addShares_19 R F i1 p2 p3 n (k + 1) x4 R1) else (hX1_addShares_19 R F i1 p2 p3 n (k + 1) (x4 - (p2 / (8 : Int32))) (sR R1 i1 (((xX1_nearCell p3 (nI k))).toNatClampNeg) ((R1 i1 ((xX1_nearCell p3 (nI k))).toNatClampNeg) + (p2 / (8 : Int32)))))) := rfl
def xX1_addShares (R F : Nat → Nat → Int32) (i1 : Nat) (p2 : Int32) (p3 : Int32) : (Nat → Nat → Int32) :=
  (if (xX1_isCell p3) = (0 : Int32) then R else (hX1_addShares_19 R F i1 p2 p3 (5 - 1) 1 p2 R))
set_option maxHeartbeats 4000000 in
set_option maxRecDepth 100000 in
theorem mX1_addShares (l : Launch) (D : va_G) (cI cS : ClassId) (ad : Nat → Nat) (hI : Inj ad) (R F : Nat → Nat → Int32) (i1 : Nat) (p2 : Int32) (p3 : Int32) (hi1 : Ar i1 24) : Met l yX1_addShares wsX1_addShares ({ frames := 1, cells := 0, slots := 0, locals := 22 }) (PW D cI cS ad R F [.ref (ad i1), .int p2, .int p3]) (QV D cI cS ad (xX1_addShares R F i1 p2 p3) F) 0 0 (AA ad) := by
  refine Met.ofW (cc := cX1_addShares) (maxL := 7) (ret := none) (by decide) rfl ?_
  intro p e s m args below meth c s₁ B hml hv
  obtain ⟨rfl, hP, hK⟩ := hv
  have hx := B.exec
  have hb := B.bytes
  have hr := B.returns
  have hts := atoms_spec (ws := wsX1_addShares) B.pre
  have hown : s.vm.findClass RX1 = some m.cls := findClass_of_methodNamed B.named
  have hlocks := B.notSynchronized
  have hS : va_S (AA ad) s.heap s.heap [] := va_S.rf
  have hl := lv_entry ([.ref (ad i1), .int p2, .int p3]) (n := 7) (Nat.le_of_ble_eq_true rfl)
  rw [lg_entry_eq]
  generalize (lg_sl ([.ref (ad i1), .int p2, .int p3]) ++ List.replicate (7 - (lg_sl ([.ref (ad i1), .int p2, .int p3])).length) Slot.unset).toArray = ls at hl ⊢
  have hl : lv_has ls 7 [(0, .ref (ad i1)), (1, .int p2), (2, .int p3)] := hl
  refine lv_iload_n hx hb dX1_addShares_0 rfl (lv_at hl 2 rfl) ?_
  refine q_callS (va_runS (As := [.int p3]) (rest := []) ⟨hx, hb, hml, hown, hts⟩ (mX1_isCell l D cI cS ad hI R F p3) (va_cwS 1 hts gX1_addShares_X1_isCell rfl rfl rfl (by decide +kernel) ⟨Nat.le_of_ble_eq_true rfl, Nat.le_of_ble_eq_true rfl⟩) (PW_preS hK hP) rfl rfl hl.1 rfl (lv_room (Nat.le_of_ble_eq_true rfl)) dX1_addShares_1 ⟨Nat.zero_le _, Nat.zero_le _⟩) ?_
  refine lv_if_ne (tgt := 8) hx hb dX1_addShares_4 (by decide) (fun c_4 => ?_) (fun c_4 => ?_)
  · refine lv_iload_n hx hb dX1_addShares_8 rfl (lv_at hl 1 rfl) ?_
    refine lv_bipush (v := 8) hx hb dX1_addShares_9 (by decide) ?_
    refine lv_idiv hx hb dX1_addShares_11 (by decide) ?_
    refine lv_istore_n (lv' := [(3, .int (p2 / (8 : Int32))), (0, .ref (ad i1)), (1, .int p2), (2, .int p3)]) hx hb dX1_addShares_12 rfl hl (by decide) rfl (fun ls hl => ?_)
    refine lv_iload_n hx hb dX1_addShares_13 rfl (lv_at hl 2 rfl) ?_
    refine lv_istore (lv' := [(4, .int p2), (3, .int (p2 / (8 : Int32))), (0, .ref (ad i1)), (1, .int p2), (2, .int p3)]) hx hb dX1_addShares_14 hl (by decide) rfl (fun ls hl => ?_)
    refine lv_iconst (v := 1) hx hb dX1_addShares_16 (by decide) ?_
    refine lv_istore (lv' := [(5, .int (1 : Int32)), (4, .int p2), (3, .int (p2 / (8 : Int32))), (0, .ref (ad i1)), (1, .int p2), (2, .int p3)]) hx hb dX1_addShares_17 hl (by decide) rfl (fun ls hl => ?_)
    refine q_loop (fun nn H locs ls => ∃ (k : Nat) (x4 : Int32) (R1 : Nat → Nat → Int32), k + nn = 5 ∧ hX1_addShares_19 R F i1 p2 p3 nn k x4 R1 = (xX1_addShares R F i1 p2 p3) ∧ WP D cI cS ad R1 F H ∧ va_S (AA ad) s.heap H locs ∧ lv_has ls 7 [(5, .int (nI k)), (4, .int x4), (3, .int (p2 / (8 : Int32))), (0, .ref (ad i1)), (1, .int p2), (2, .int p3)]) (5 - 1) ⟨1, p2, R, by omega, by unfold xX1_addShares; rw [if_neg c_4], hP, hS, lv_sub hl [0, 1, 2, 3, 4, 5] rfl⟩ ?_ ?_
    · intro H locs ls hz
      obtain ⟨k, x4, R1, hkn, hsp, hP, hS, hl⟩ := hz
      refine lv_iload hx hb dX1_addShares_19 (lv_at hl 0 rfl) ?_
      refine lv_iconst (v := 5) hx hb dX1_addShares_21 (by decide) ?_
      refine lv_icmp_ge (tgt := 61) hx hb dX1_addShares_22 (by decide) (fun c_22 => ?_) (fun c_22 => ?_)
      · refine lv_aload_n hx hb dX1_addShares_61 rfl (lv_at hl 3 rfl) ?_
        refine lv_iload_n hx hb dX1_addShares_62 rfl (lv_at hl 5 rfl) ?_
        refine lv_dup2_11 hx hb dX1_addShares_63 rfl rfl ?_
        refine q_ild hx hb hK hP i1 24 hi1 dX1_addShares_64 (by first | assumption | exact isCell_in (by assumption) | exact isWalker_in (by assumption) | exact isAboard_in (by assumption) | exact isPair_in1 (by assumption) | exact isPair_in2 (by assumption) | exact isWithin7_in (by assumption) | exact vp_in_nI (by omega) (by decide)) ?_
        refine lv_iload hx hb dX1_addShares_65 (lv_at hl 1 rfl) ?_
        refine lv_iadd hx hb dX1_addShares_67 ?_
        refine q_ist hx hb hK hI hP hS i1 24 hi1 dX1_addShares_68 (by first | assumption | exact isCell_in (by assumption) | exact isWalker_in (by assumption) | exact isAboard_in (by assumption) | exact isPair_in1 (by assumption) | exact isPair_in2 (by assumption) | exact isWithin7_in (by assumption) | exact vp_in_nI (by omega) (by decide)) (fun H locs hP hS => ?_)
        have hP : WP D cI cS ad (sR R1 i1 ((p3).toNatClampNeg) ((R1 i1 (p3).toNatClampNeg) + x4)) F H := hP
        have hX : (xX1_addShares R F i1 p2 p3) = (sR R1 i1 ((p3).toNatClampNeg) ((R1 i1 (p3).toNatClampNeg) + x4)) := by rw [← hsp, hX1_addShares_19_z]
        exact W.vret hx hb hr (fun t ht hW => ⟨rfl, by rw [hX, ht]; with_reducible exact hP, hS.F ht⟩) hS.2.2 dX1_addShares_69
      · exact absurd (nI_le (a := 5) (b := k) (by omega) (by omega)) c_22
    · intro n ih H locs ls hz
      obtain ⟨k, x4, R1, hkn, hsp, hP, hS, hl⟩ := hz
      refine lv_iload hx hb dX1_addShares_19 (lv_at hl 0 rfl) ?_
      refine lv_iconst (v := 5) hx hb dX1_addShares_21 (by decide) ?_
      refine lv_icmp_ge (tgt := 61) hx hb dX1_addShares_22 (by decide) (fun c_22 => ?_) (fun c_22 => ?_)
      · exact absurd c_22 (nI_ge (a := k) (b := 5) (by omega) (by omega))
      · refine lv_iload_n hx hb dX1_addShares_25 rfl (lv_at hl 5 rfl) ?_
        refine lv_iload hx hb dX1_addShares_26 (lv_at hl 0 rfl) ?_
        refine q_callS (va_runS (As := [.int p3, .int (nI k)]) (rest := []) ⟨hx, hb, hml, hown, hts⟩ (mX1_nearCell l D cI cS ad hI R1 F p3 (nI k)) (va_cwS 2 hts gX1_addShares_X1_nearCell rfl rfl rfl (by decide +kernel) ⟨Nat.le_of_ble_eq_true rfl, Nat.le_of_ble_eq_true rfl⟩) (PW_preS hK hP) rfl rfl hl.1 rfl (lv_room (Nat.le_of_ble_eq_true rfl)) dX1_addShares_28 ⟨Nat.zero_le _, Nat.zero_le _⟩) ?_
        refine lv_istore (lv' := [(6, .int (xX1_nearCell p3 (nI k))), (5, .int (nI k)), (4, .int x4), (3, .int (p2 / (8 : Int32))), (0, .ref (ad i1)), (1, .int p2), (2, .int p3)]) hx hb dX1_addShares_31 hl (by decide) rfl (fun ls hl => ?_)
        refine lv_iload hx hb dX1_addShares_33 (lv_at hl 0 rfl) ?_
        refine q_callS (va_runS (As := [.int (xX1_nearCell p3 (nI k))]) (rest := []) ⟨hx, hb, hml, hown, hts⟩ (mX1_isCell l D cI cS ad hI R1 F (xX1_nearCell p3 (nI k))) (va_cwS 1 hts gX1_addShares_X1_isCell rfl rfl rfl (by decide +kernel) ⟨Nat.le_of_ble_eq_true rfl, Nat.le_of_ble_eq_true rfl⟩) (PW_preS hK hP) rfl rfl hl.1 rfl (lv_room (Nat.le_of_ble_eq_true rfl)) dX1_addShares_35 ⟨Nat.zero_le _, Nat.zero_le _⟩) ?_
        refine lv_if_eq (tgt := 55) hx hb dX1_addShares_38 (by decide) (fun c_38 => ?_) (fun c_38 => ?_)
        · refine lv_iinc (v := (nI (k + 1))) (lv' := [(5, .int (nI (k + 1))), (6, .int (xX1_nearCell p3 (nI k))), (4, .int x4), (3, .int (p2 / (8 : Int32))), (0, .ref (ad i1)), (1, .int p2), (2, .int p3)]) hx hb dX1_addShares_55 hl (k := 1) rfl (nI_1 k) (by decide) rfl (fun ls hl => ?_)
          refine lv_goto (tgt := 19) hx hb dX1_addShares_58 (by decide) ?_
          exact ih _ _ _ ⟨(k + 1), x4, R1, by omega, by rw [← hsp, hX1_addShares_19_s, if_pos c_38], hP, hS, lv_sub hl [0, 2, 3, 4, 5, 6] rfl⟩
        · refine lv_aload_n hx hb dX1_addShares_41 rfl (lv_at hl 4 rfl) ?_
          refine lv_iload hx hb dX1_addShares_42 (lv_at hl 0 rfl) ?_
          refine lv_dup2_11 hx hb dX1_addShares_44 rfl rfl ?_
          refine q_ild hx hb hK hP i1 24 hi1 dX1_addShares_45 (by first | assumption | exact isCell_in (by assumption) | exact isWalker_in (by assumption) | exact isAboard_in (by assumption) | exact isPair_in1 (by assumption) | exact isPair_in2 (by assumption) | exact isWithin7_in (by assumption) | exact vp_in_nI (by omega) (by decide)) ?_
          refine lv_iload_n hx hb dX1_addShares_46 rfl (lv_at hl 3 rfl) ?_
          refine lv_iadd hx hb dX1_addShares_47 ?_
          refine q_ist hx hb hK hI hP hS i1 24 hi1 dX1_addShares_48 (by first | assumption | exact isCell_in (by assumption) | exact isWalker_in (by assumption) | exact isAboard_in (by assumption) | exact isPair_in1 (by assumption) | exact isPair_in2 (by assumption) | exact isWithin7_in (by assumption) | exact vp_in_nI (by omega) (by decide)) (fun H locs hP hS => ?_)
          have hP : WP D cI cS ad (sR R1 i1 (((xX1_nearCell p3 (nI k))).toNatClampNeg) ((R1 i1 ((xX1_nearCell p3 (nI k))).toNatClampNeg) + (p2 / (8 : Int32)))) F H := hP
          refine lv_iload hx hb dX1_addShares_49 (lv_at hl 2 rfl) ?_
          refine lv_iload_n hx hb dX1_addShares_51 rfl (lv_at hl 3 rfl) ?_
          refine lv_isub hx hb dX1_addShares_52 ?_
          refine lv_istore (lv' := [(4, .int (x4 - (p2 / (8 : Int32)))), (6, .int (xX1_nearCell p3 (nI k))), (5, .int (nI k)), (3, .int (p2 / (8 : Int32))), (0, .ref (ad i1)), (1, .int p2), (2, .int p3)]) hx hb dX1_addShares_53 hl (by decide) rfl (fun ls hl => ?_)
          refine lv_iinc (v := (nI (k + 1))) (lv' := [(5, .int (nI (k + 1))), (4, .int (x4 - (p2 / (8 : Int32)))), (6, .int (xX1_nearCell p3 (nI k))), (3, .int (p2 / (8 : Int32))), (0, .ref (ad i1)), (1, .int p2), (2, .int p3)]) hx hb dX1_addShares_55 hl (k := 2) rfl (nI_1 k) (by decide) rfl (fun ls hl => ?_)
          refine lv_goto (tgt := 19) hx hb dX1_addShares_58 (by decide) ?_
          exact ih _ _ _ ⟨(k + 1), (x4 - (p2 / (8 : Int32))), (sR R1 i1 (((xX1_nearCell p3 (nI k))).toNatClampNeg) ((R1 i1 ((xX1_nearCell p3 (nI k))).toNatClampNeg) + (p2 / (8 : Int32)))), by omega, by rw [← hsp, hX1_addShares_19_s, if_neg c_38], hP, hS, lv_sub hl [0, 1, 3, 4, 5, 6] rfl⟩
  · have hX : (xX1_addShares R F i1 p2 p3) = R := by unfold xX1_addShares; rw [if_pos c_4]
    exact W.vret hx hb hr (fun t ht hW => ⟨rfl, by rw [hX, ht]; with_reducible exact hP, hS.F ht⟩) hS.2.2 dX1_addShares_7

def hX1_addAllShares_2 (R F : Nat → Nat → Int32) (i1 : Nat) (i2 : Nat) (i3 : Nat) : Nat → Nat → (Nat → Nat → Int32) → (Nat → Nat → Int32)
  | 0, k, R1 => R1
  | n + 1, k, R1 => (hX1_addAllShares_2 R F i1 i2 i3 n (k + 1) (xX1_addShares R1 F i1 (R1 i2 k) (R1 i3 k)))
theorem hX1_addAllShares_2_z (R F : Nat → Nat → Int32) (i1 : Nat) (i2 : Nat) (i3 : Nat) (k : Nat) (R1 : Nat → Nat → Int32) : hX1_addAllShares_2 R F i1 i2 i3 0 k R1 = R1 := rfl
theorem hX1_addAllShares_2_s (R F : Nat → Nat → Int32) (i1 : Nat) (i2 : Nat) (i3 : Nat) (n : Nat) (k : Nat) (R1 : Nat → Nat → Int32) : hX1_addAllShares_2 R F i1 i2 i3 (n + 1) k R1 = (hX1_addAllShares_2 R F i1 i2 i3 n (k + 1) (xX1_addShares R1 F i1 (R1 i2 k) (R1 i3 k))) := rfl
def xX1_addAllShares (R F : Nat → Nat → Int32) (i1 : Nat) (i2 : Nat) (i3 : Nat) : (Nat → Nat → Int32) :=
  (hX1_addAllShares_2 R F i1 i2 i3 8 0 R)
set_option maxHeartbeats 4000000 in
set_option maxRecDepth 100000 in
theorem mX1_addAllShares (l : Launch) (D : va_G) (cI cS : ClassId) (ad : Nat → Nat) (hI : Inj ad) (R F : Nat → Nat → Int32) (i1 : Nat) (i2 : Nat) (i3 : Nat) (hi1 : Ar i1 24) (hi2 : Ar i2 8) (hi3 : Ar i3 8) : Met l yX1_addAllShares wsX1_addAllShares ({ frames := 2, cells := 0, slots := 0, locals := 48 }) (PW D cI cS ad R F [.ref (ad i1), .ref (ad i2), .ref (ad i3)]) (QV D cI cS ad (xX1_addAllShares R F i1 i2 i3) F) 0 0 (AA ad) := by
  refine Met.ofW (cc := cX1_addAllShares) (maxL := 4) (ret := none) (by decide) rfl ?_
  intro p e s m args below meth c s₁ B hml hv
  obtain ⟨rfl, hP, hK⟩ := hv
  have hx := B.exec
  have hb := B.bytes
  have hr := B.returns
  have hts := atoms_spec (ws := wsX1_addAllShares) B.pre
  have hown : s.vm.findClass RX1 = some m.cls := findClass_of_methodNamed B.named
  have hlocks := B.notSynchronized
  have hS : va_S (AA ad) s.heap s.heap [] := va_S.rf
  have hl := lv_entry ([.ref (ad i1), .ref (ad i2), .ref (ad i3)]) (n := 4) (Nat.le_of_ble_eq_true rfl)
  rw [lg_entry_eq]
  generalize (lg_sl ([.ref (ad i1), .ref (ad i2), .ref (ad i3)]) ++ List.replicate (4 - (lg_sl ([.ref (ad i1), .ref (ad i2), .ref (ad i3)])).length) Slot.unset).toArray = ls at hl ⊢
  have hl : lv_has ls 4 [(0, .ref (ad i1)), (1, .ref (ad i2)), (2, .ref (ad i3))] := hl
  refine lv_iconst (v := 0) hx hb dX1_addAllShares_0 (by decide) ?_
  refine lv_istore_n (lv' := [(3, .int (0 : Int32)), (0, .ref (ad i1)), (1, .ref (ad i2)), (2, .ref (ad i3))]) hx hb dX1_addAllShares_1 rfl hl (by decide) rfl (fun ls hl => ?_)
  refine q_loop (fun nn H locs ls => ∃ (k : Nat) (R1 : Nat → Nat → Int32), k + nn = 8 ∧ hX1_addAllShares_2 R F i1 i2 i3 nn k R1 = (xX1_addAllShares R F i1 i2 i3) ∧ WP D cI cS ad R1 F H ∧ va_S (AA ad) s.heap H locs ∧ lv_has ls 4 [(3, .int (nI k)), (0, .ref (ad i1)), (1, .ref (ad i2)), (2, .ref (ad i3))]) 8 ⟨0, R, by omega, by unfold xX1_addAllShares; rfl, hP, hS, lv_sub hl [0, 1, 2, 3] rfl⟩ ?_ ?_
  · intro H locs ls hz
    obtain ⟨k, R1, hkn, hsp, hP, hS, hl⟩ := hz
    refine lv_iload_n hx hb dX1_addAllShares_2 rfl (lv_at hl 0 rfl) ?_
    refine lv_bipush (v := 8) hx hb dX1_addAllShares_3 (by decide) ?_
    refine lv_icmp_ge (tgt := 24) hx hb dX1_addAllShares_5 (by decide) (fun c_5 => ?_) (fun c_5 => ?_)
    · have hX : (xX1_addAllShares R F i1 i2 i3) = R1 := by rw [← hsp, hX1_addAllShares_2_z]
      exact W.vret hx hb hr (fun t ht hW => ⟨rfl, by rw [hX, ht]; with_reducible exact hP, hS.F ht⟩) hS.2.2 dX1_addAllShares_24
    · exact absurd (nI_le (a := 8) (b := k) (by omega) (by omega)) c_5
  · intro n ih H locs ls hz
    obtain ⟨k, R1, hkn, hsp, hP, hS, hl⟩ := hz
    refine lv_iload_n hx hb dX1_addAllShares_2 rfl (lv_at hl 0 rfl) ?_
    refine lv_bipush (v := 8) hx hb dX1_addAllShares_3 (by decide) ?_
    refine lv_icmp_ge (tgt := 24) hx hb dX1_addAllShares_5 (by decide) (fun c_5 => ?_) (fun c_5 => ?_)
    · exact absurd c_5 (nI_ge (a := k) (b := 8) (by omega) (by omega))
    · refine lv_aload_n hx hb dX1_addAllShares_8 rfl (lv_at hl 1 rfl) ?_
      refine lv_aload_n hx hb dX1_addAllShares_9 rfl (lv_at hl 2 rfl) ?_
      refine lv_iload_n hx hb dX1_addAllShares_10 rfl (lv_at hl 0 rfl) ?_
      refine q_ildN hx hb hK hP i2 8 hi2 k dX1_addAllShares_11 rfl (by omega) (by decide) ?_
      refine lv_aload_n hx hb dX1_addAllShares_12 rfl (lv_at hl 3 rfl) ?_
      refine lv_iload_n hx hb dX1_addAllShares_13 rfl (lv_at hl 0 rfl) ?_
      refine q_ildN hx hb hK hP i3 8 hi3 k dX1_addAllShares_14 rfl (by omega) (by decide) ?_
      refine q_callV (va_runS (As := [.ref (ad i1), .int (R1 i2 k), .int (R1 i3 k)]) (rest := []) ⟨hx, hb, hml, hown, hts⟩ (mX1_addShares l D cI cS ad hI R1 F i1 (R1 i2 k) (R1 i3 k) hi1) (va_cwS 3 hts gX1_addAllShares_X1_addShares rfl rfl rfl (by decide +kernel) ⟨Nat.le_of_ble_eq_true rfl, Nat.le_of_ble_eq_true rfl⟩) (PW_preS hK hP) rfl rfl hl.1 rfl (lv_room (Nat.le_of_ble_eq_true rfl)) dX1_addAllShares_15 ⟨Nat.zero_le _, Nat.zero_le _⟩) hS (fun H locs hP hS => ?_)
      refine lv_iinc (v := (nI (k + 1))) (lv' := [(3, .int (nI (k + 1))), (0, .ref (ad i1)), (1, .ref (ad i2)), (2, .ref (ad i3))]) hx hb dX1_addAllShares_18 hl (k := 0) rfl (nI_1 k) (by decide) rfl (fun ls hl => ?_)
      refine lv_goto (tgt := 2) hx hb dX1_addAllShares_21 (by decide) ?_
      exact ih _ _ _ ⟨(k + 1), (xX1_addShares R1 F i1 (R1 i2 k) (R1 i3 k)), by omega, by rw [← hsp, hX1_addAllShares_2_s], hP, hS, lv_sub hl [0, 1, 2, 3] rfl⟩

def xX1_weighAll (R F : Nat → Nat → Int32) : (Nat → Nat → Int32) :=
  (xX1_addAllShares (xX1_copyRow R F 2 15 24) F 15 6 7)
set_option maxHeartbeats 4000000 in
set_option maxRecDepth 100000 in
theorem mX1_weighAll (l : Launch) (D : va_G) (cI cS : ClassId) (ad : Nat → Nat) (hI : Inj ad) (R F : Nat → Nat → Int32)  : Met l yX1_weighAll wsX1_weighAll ({ frames := 3, cells := 0, slots := 0, locals := 71 }) (PW D cI cS ad R F [.ref (ad 0)]) (QV D cI cS ad (xX1_weighAll R F) F) 0 0 (AA ad) := by
  refine Met.ofW (cc := cX1_weighAll) (maxL := 1) (ret := none) (by decide) rfl ?_
  intro p e s m args below meth c s₁ B hml hv
  obtain ⟨rfl, hP, hK⟩ := hv
  have hx := B.exec
  have hb := B.bytes
  have hr := B.returns
  have hts := atoms_spec (ws := wsX1_weighAll) B.pre
  have hown : s.vm.findClass RX1 = some m.cls := findClass_of_methodNamed B.named
  have hlocks := B.notSynchronized
  have hS : va_S (AA ad) s.heap s.heap [] := va_S.rf
  have hl := lv_entry ([.ref (ad 0)]) (n := 1) (Nat.le_of_ble_eq_true rfl)
  rw [lg_entry_eq]
  generalize (lg_sl ([.ref (ad 0)]) ++ List.replicate (1 - (lg_sl ([.ref (ad 0)])).length) Slot.unset).toArray = ls at hl ⊢
  have hl : lv_has ls 1 [(0, .ref (ad 0))] := hl
  have lk10 := hts (.fieldLink RX1 10 "FerryFloor" "now" "LFerryFloor$State;") (by decide +kernel)
  have lk56 := hts (.fieldLink RX1 56 "FerryFloor$State" "zeros" "[I") (by decide +kernel)
  have lk27 := hts (.fieldLink RX1 27 "FerryFloor" "readings" "[I") (by decide +kernel)
  have lk83 := hts (.fieldLink RX1 83 "FerryFloor$State" "weights" "[I") (by decide +kernel)
  have lk71 := hts (.fieldLink RX1 71 "FerryFloor$State" "places" "[I") (by decide +kernel)
  have hin1 : ∀ w ∈ u_ws RX1 TX1 7, w ∈ wsX1_weighAll := by decide +kernel
  have hin0 : ∀ w ∈ u_ws RX0 TX0 15, w ∈ wsX1_weighAll := by decide +kernel
  refine lv_aload_n hx hb dX1_weighAll_0 rfl (lv_at hl 0 rfl) ?_
  refine q_getF (v := .ref (ad 1)) hx hb hts hin1 hown hK hP 0 (by decide) lk10 (fun _ h => h) rfl dX1_weighAll_1 ?_
  refine q_getS (v := .ref (ad 2)) hx hb hts hin0 hown hK hP 1 st_1 3 (by decide) lk56 (fun _ h => h) rfl dX1_weighAll_4 ?_
  refine lv_aload_n hx hb dX1_weighAll_7 rfl (lv_at hl 0 rfl) ?_
  refine q_getF (v := .ref (ad 15)) hx hb hts hin1 hown hK hP 4 (by decide) lk27 (fun _ h => h) rfl dX1_weighAll_8 ?_
  refine q_callV (va_runS (As := [.ref (ad 2), .ref (ad 15)]) (rest := []) ⟨hx, hb, hml, hown, hts⟩ (mX1_copyRow l D cI cS ad hI R F 2 15 24 (ar_2) (ar_15) (by decide)) (va_cwS 2 hts gX1_weighAll_X1_copyRow rfl rfl rfl (by decide +kernel) ⟨Nat.le_of_ble_eq_true rfl, Nat.le_of_ble_eq_true rfl⟩) (PW_preS hK hP) rfl rfl hl.1 rfl (lv_room (Nat.le_of_ble_eq_true rfl)) dX1_weighAll_11 ⟨Nat.zero_le _, Nat.zero_le _⟩) hS (fun H locs hP hS => ?_)
  refine lv_aload_n hx hb dX1_weighAll_14 rfl (lv_at hl 0 rfl) ?_
  refine q_getF (v := .ref (ad 15)) hx hb hts hin1 hown hK hP 4 (by decide) lk27 (fun _ h => h) rfl dX1_weighAll_15 ?_
  refine lv_aload_n hx hb dX1_weighAll_18 rfl (lv_at hl 0 rfl) ?_
  refine q_getF (v := .ref (ad 1)) hx hb hts hin1 hown hK hP 0 (by decide) lk10 (fun _ h => h) rfl dX1_weighAll_19 ?_
  refine q_getS (v := .ref (ad 6)) hx hb hts hin0 hown hK hP 1 st_1 7 (by decide) lk83 (fun _ h => h) rfl dX1_weighAll_22 ?_
  refine lv_aload_n hx hb dX1_weighAll_25 rfl (lv_at hl 0 rfl) ?_
  refine q_getF (v := .ref (ad 1)) hx hb hts hin1 hown hK hP 0 (by decide) lk10 (fun _ h => h) rfl dX1_weighAll_26 ?_
  refine q_getS (v := .ref (ad 7)) hx hb hts hin0 hown hK hP 1 st_1 8 (by decide) lk71 (fun _ h => h) rfl dX1_weighAll_29 ?_
  refine q_callV (va_runS (As := [.ref (ad 15), .ref (ad 6), .ref (ad 7)]) (rest := []) ⟨hx, hb, hml, hown, hts⟩ (mX1_addAllShares l D cI cS ad hI (xX1_copyRow R F 2 15 24) F 15 6 7 (ar_15) (ar_6) (ar_7)) (va_cwS 3 hts gX1_weighAll_X1_addAllShares rfl rfl rfl (by decide +kernel) ⟨Nat.le_of_ble_eq_true rfl, Nat.le_of_ble_eq_true rfl⟩) (PW_preS hK hP) rfl rfl hl.1 rfl (lv_room (Nat.le_of_ble_eq_true rfl)) dX1_weighAll_32 ⟨Nat.zero_le _, Nat.zero_le _⟩) hS (fun H locs hP hS => ?_)
  have hX : (xX1_weighAll R F) = (xX1_addAllShares (xX1_copyRow R F 2 15 24) F 15 6 7) := by unfold xX1_weighAll; rfl
  exact W.vret hx hb hr (fun t ht hW => ⟨rfl, by rw [hX, ht]; with_reducible exact hP, hS.F ht⟩) hS.2.2 dX1_weighAll_35

def xX1_expectAll (R F : Nat → Nat → Int32) (i1 : Nat) : (Nat → Nat → Int32) :=
  (xX1_addAllShares (xX1_copyRow R F 4 16 24) F 16 8 i1)
set_option maxHeartbeats 4000000 in
set_option maxRecDepth 100000 in
theorem mX1_expectAll (l : Launch) (D : va_G) (cI cS : ClassId) (ad : Nat → Nat) (hI : Inj ad) (R F : Nat → Nat → Int32) (i1 : Nat) (hi1 : Ar i1 8) : Met l yX1_expectAll wsX1_expectAll ({ frames := 3, cells := 0, slots := 0, locals := 71 }) (PW D cI cS ad R F [.ref (ad 0), .ref (ad i1)]) (QV D cI cS ad (xX1_expectAll R F i1) F) 0 0 (AA ad) := by
  refine Met.ofW (cc := cX1_expectAll) (maxL := 2) (ret := none) (by decide) rfl ?_
  intro p e s m args below meth c s₁ B hml hv
  obtain ⟨rfl, hP, hK⟩ := hv
  have hx := B.exec
  have hb := B.bytes
  have hr := B.returns
  have hts := atoms_spec (ws := wsX1_expectAll) B.pre
  have hown : s.vm.findClass RX1 = some m.cls := findClass_of_methodNamed B.named
  have hlocks := B.notSynchronized
  have hS : va_S (AA ad) s.heap s.heap [] := va_S.rf
  have hl := lv_entry ([.ref (ad 0), .ref (ad i1)]) (n := 2) (Nat.le_of_ble_eq_true rfl)
  rw [lg_entry_eq]
  generalize (lg_sl ([.ref (ad 0), .ref (ad i1)]) ++ List.replicate (2 - (lg_sl ([.ref (ad 0), .ref (ad i1)])).length) Slot.unset).toArray = ls at hl ⊢
  have hl : lv_has ls 2 [(0, .ref (ad 0)), (1, .ref (ad i1))] := hl
  have lk10 := hts (.fieldLink RX1 10 "FerryFloor" "now" "LFerryFloor$State;") (by decide +kernel)
  have lk62 := hts (.fieldLink RX1 62 "FerryFloor$State" "tares" "[I") (by decide +kernel)
  have lk31 := hts (.fieldLink RX1 31 "FerryFloor" "expected" "[I") (by decide +kernel)
  have lk86 := hts (.fieldLink RX1 86 "FerryFloor$State" "bookWeights" "[I") (by decide +kernel)
  have hin1 : ∀ w ∈ u_ws RX1 TX1 7, w ∈ wsX1_expectAll := by decide +kernel
  have hin0 : ∀ w ∈ u_ws RX0 TX0 15, w ∈ wsX1_expectAll := by decide +kernel
  refine lv_aload_n hx hb dX1_expectAll_0 rfl (lv_at hl 0 rfl) ?_
  refine q_getF (v := .ref (ad 1)) hx hb hts hin1 hown hK hP 0 (by decide) lk10 (fun _ h => h) rfl dX1_expectAll_1 ?_
  refine q_getS (v := .ref (ad 4)) hx hb hts hin0 hown hK hP 1 st_1 5 (by decide) lk62 (fun _ h => h) rfl dX1_expectAll_4 ?_
  refine lv_aload_n hx hb dX1_expectAll_7 rfl (lv_at hl 0 rfl) ?_
  refine q_getF (v := .ref (ad 16)) hx hb hts hin1 hown hK hP 5 (by decide) lk31 (fun _ h => h) rfl dX1_expectAll_8 ?_
  refine q_callV (va_runS (As := [.ref (ad 4), .ref (ad 16)]) (rest := []) ⟨hx, hb, hml, hown, hts⟩ (mX1_copyRow l D cI cS ad hI R F 4 16 24 (ar_4) (ar_16) (by decide)) (va_cwS 2 hts gX1_expectAll_X1_copyRow rfl rfl rfl (by decide +kernel) ⟨Nat.le_of_ble_eq_true rfl, Nat.le_of_ble_eq_true rfl⟩) (PW_preS hK hP) rfl rfl hl.1 rfl (lv_room (Nat.le_of_ble_eq_true rfl)) dX1_expectAll_11 ⟨Nat.zero_le _, Nat.zero_le _⟩) hS (fun H locs hP hS => ?_)
  refine lv_aload_n hx hb dX1_expectAll_14 rfl (lv_at hl 0 rfl) ?_
  refine q_getF (v := .ref (ad 16)) hx hb hts hin1 hown hK hP 5 (by decide) lk31 (fun _ h => h) rfl dX1_expectAll_15 ?_
  refine lv_aload_n hx hb dX1_expectAll_18 rfl (lv_at hl 0 rfl) ?_
  refine q_getF (v := .ref (ad 1)) hx hb hts hin1 hown hK hP 0 (by decide) lk10 (fun _ h => h) rfl dX1_expectAll_19 ?_
  refine q_getS (v := .ref (ad 8)) hx hb hts hin0 hown hK hP 1 st_1 9 (by decide) lk86 (fun _ h => h) rfl dX1_expectAll_22 ?_
  refine lv_aload_n hx hb dX1_expectAll_25 rfl (lv_at hl 1 rfl) ?_
  refine q_callV (va_runS (As := [.ref (ad 16), .ref (ad 8), .ref (ad i1)]) (rest := []) ⟨hx, hb, hml, hown, hts⟩ (mX1_addAllShares l D cI cS ad hI (xX1_copyRow R F 4 16 24) F 16 8 i1 (ar_16) (ar_8) hi1) (va_cwS 3 hts gX1_expectAll_X1_addAllShares rfl rfl rfl (by decide +kernel) ⟨Nat.le_of_ble_eq_true rfl, Nat.le_of_ble_eq_true rfl⟩) (PW_preS hK hP) rfl rfl hl.1 rfl (lv_room (Nat.le_of_ble_eq_true rfl)) dX1_expectAll_26 ⟨Nat.zero_le _, Nat.zero_le _⟩) hS (fun H locs hP hS => ?_)
  have hX : (xX1_expectAll R F i1) = (xX1_addAllShares (xX1_copyRow R F 4 16 24) F 16 8 i1) := by unfold xX1_expectAll; rfl
  exact W.vret hx hb hr (fun t ht hW => ⟨rfl, by rw [hX, ht]; with_reducible exact hP, hS.F ht⟩) hS.2.2 dX1_expectAll_29

def hX1_earliestTare_10 (R F : Nat → Nat → Int32) (p1 : Int32) : Nat → Nat → Int32 → Int32
  | 0, k, x2 => x2
  | n + 1, k, x2 => (if (xX1_isCell (xX1_nearCell p1 (nI k))) = (0 : Int32) then (hX1_earliestTare_10 R F p1 n (k + 1) x2) else (hX1_earliestTare_10 R F p1 n (k + 1) (if (R 5 ((xX1_nearCell p1 (nI k))).toNatClampNeg) < x2 then (R 5 ((xX1_nearCell p1 (nI k))).toNatClampNeg) else x2)))
theorem hX1_earliestTare_10_z (R F : Nat → Nat → Int32) (p1 : Int32) (k : Nat) (x2 : Int32) : hX1_earliestTare_10 R F p1 0 k x2 = x2 := rfl
theorem hX1_earliestTare_10_s (R F : Nat → Nat → Int32) (p1 : Int32) (n : Nat) (k : Nat) (x2 : Int32) : hX1_earliestTare_10 R F p1 (n + 1) k x2 = (if (xX1_isCell (xX1_nearCell p1 (nI k))) = (0 : Int32) then (hX1_earliestTare_10 R F p1 n (k + 1) x2) else (hX1_earliestTare_10 R F p1 n (k + 1) (if (R 5 ((xX1_nearCell p1 (nI k))).toNatClampNeg) < x2 then (R 5 ((xX1_nearCell p1 (nI k))).toNatClampNeg) else x2))) := rfl
def xX1_earliestTare (R F : Nat → Nat → Int32) (p1 : Int32) : Int32 :=
  (hX1_earliestTare_10 R F p1 5 0 (F 1 0))
set_option maxHeartbeats 4000000 in
set_option maxRecDepth 100000 in
theorem mX1_earliestTare (l : Launch) (D : va_G) (cI cS : ClassId) (ad : Nat → Nat) (hI : Inj ad) (R F : Nat → Nat → Int32) (p1 : Int32) : Met l yX1_earliestTare wsX1_earliestTare ({ frames := 1, cells := 0, slots := 0, locals := 22 }) (PW D cI cS ad R F [.ref (ad 0), .int p1]) (QS (xX1_earliestTare R F p1)) 0 0 (fun _ => False) := by
  refine Met.ofW (cc := cX1_earliestTare) (maxL := 5) (ret := (some .int)) (by decide) rfl ?_
  intro p e s m args below meth c s₁ B hml hv
  obtain ⟨rfl, hP, hK⟩ := hv
  have hx := B.exec
  have hb := B.bytes
  have hr := B.returns
  have hts := atoms_spec (ws := wsX1_earliestTare) B.pre
  have hown : s.vm.findClass RX1 = some m.cls := findClass_of_methodNamed B.named
  have hlocks := B.notSynchronized
  have hS : va_S (AA ad) s.heap s.heap [] := va_S.rf
  have hl := lv_entry ([.ref (ad 0), .int p1]) (n := 5) (Nat.le_of_ble_eq_true rfl)
  rw [lg_entry_eq]
  generalize (lg_sl ([.ref (ad 0), .int p1]) ++ List.replicate (5 - (lg_sl ([.ref (ad 0), .int p1])).length) Slot.unset).toArray = ls at hl ⊢
  have hl : lv_has ls 5 [(0, .ref (ad 0)), (1, .int p1)] := hl
  have lk10 := hts (.fieldLink RX1 10 "FerryFloor" "now" "LFerryFloor$State;") (by decide +kernel)
  have lk52 := hts (.fieldLink RX1 52 "FerryFloor$State" "minute" "I") (by decide +kernel)
  have lk65 := hts (.fieldLink RX1 65 "FerryFloor$State" "tareMinutes" "[I") (by decide +kernel)
  have hin1 : ∀ w ∈ u_ws RX1 TX1 7, w ∈ wsX1_earliestTare := by decide +kernel
  have hin0 : ∀ w ∈ u_ws RX0 TX0 15, w ∈ wsX1_earliestTare := by decide +kernel
  refine lv_aload_n hx hb dX1_earliestTare_0 rfl (lv_at hl 0 rfl) ?_
  refine q_getF (v := .ref (ad 1)) hx hb hts hin1 hown hK hP 0 (by decide) lk10 (fun _ h => h) rfl dX1_earliestTare_1 ?_
  refine q_getS (v := .int (F 1 0)) hx hb hts hin0 hown hK hP 1 st_1 0 (by decide) lk52 (fun _ h => h) rfl dX1_earliestTare_4 ?_
  refine lv_istore_n (lv' := [(2, .int (F 1 0)), (0, .ref (ad 0)), (1, .int p1)]) hx hb dX1_earliestTare_7 rfl hl (by decide) rfl (fun ls hl => ?_)
  refine lv_iconst (v := 0) hx hb dX1_earliestTare_8 (by decide) ?_
  refine lv_istore_n (lv' := [(3, .int (0 : Int32)), (2, .int (F 1 0)), (0, .ref (ad 0)), (1, .int p1)]) hx hb dX1_earliestTare_9 rfl hl (by decide) rfl (fun ls hl => ?_)
  refine q_loop (fun nn H locs ls => ∃ (k : Nat) (x2 : Int32), k + nn = 5 ∧ hX1_earliestTare_10 R F p1 nn k x2 = (xX1_earliestTare R F p1) ∧ WP D cI cS ad R F H ∧ locs = [] ∧ H = s.heap ∧ lv_has ls 5 [(3, .int (nI k)), (2, .int x2), (0, .ref (ad 0)), (1, .int p1)]) 5 ⟨0, (F 1 0), by omega, by unfold xX1_earliestTare; rfl, hP, rfl, rfl, lv_sub hl [0, 1, 2, 3] rfl⟩ ?_ ?_
  · intro H locs ls hz
    obtain ⟨k, x2, hkn, hsp, hP, rfl, rfl, hl⟩ := hz
    refine lv_iload_n hx hb dX1_earliestTare_10 rfl (lv_at hl 0 rfl) ?_
    refine lv_iconst (v := 5) hx hb dX1_earliestTare_11 (by decide) ?_
    refine lv_icmp_ge (tgt := 51) hx hb dX1_earliestTare_12 (by decide) (fun c_12 => ?_) (fun c_12 => ?_)
    · refine lv_iload_n hx hb dX1_earliestTare_51 rfl (lv_at hl 1 rfl) ?_
      have hX : (xX1_earliestTare R F p1) = x2 := by rw [← hsp, hX1_earliestTare_10_z]
      exact W.iret (v := x2) hx hb hr (fun t ht hW => ⟨by rw [hX], ht⟩) (fun _ h => by cases h) dX1_earliestTare_52
    · exact absurd (nI_le (a := 5) (b := k) (by omega) (by omega)) c_12
  · intro n ih H locs ls hz
    obtain ⟨k, x2, hkn, hsp, hP, rfl, rfl, hl⟩ := hz
    refine lv_iload_n hx hb dX1_earliestTare_10 rfl (lv_at hl 0 rfl) ?_
    refine lv_iconst (v := 5) hx hb dX1_earliestTare_11 (by decide) ?_
    refine lv_icmp_ge (tgt := 51) hx hb dX1_earliestTare_12 (by decide) (fun c_12 => ?_) (fun c_12 => ?_)
    · exact absurd c_12 (nI_ge (a := k) (b := 5) (by omega) (by omega))
    · refine lv_iload_n hx hb dX1_earliestTare_15 rfl (lv_at hl 3 rfl) ?_
      refine lv_iload_n hx hb dX1_earliestTare_16 rfl (lv_at hl 0 rfl) ?_
      refine q_callS (va_runS (As := [.int p1, .int (nI k)]) (rest := []) ⟨hx, hb, hml, hown, hts⟩ (mX1_nearCell l D cI cS ad hI R F p1 (nI k)) (va_cwS 2 hts gX1_earliestTare_X1_nearCell rfl rfl rfl (by decide +kernel) ⟨Nat.le_of_ble_eq_true rfl, Nat.le_of_ble_eq_true rfl⟩) (PW_preS hK hP) rfl rfl hl.1 rfl (lv_room (Nat.le_of_ble_eq_true rfl)) dX1_earliestTare_17 ⟨Nat.zero_le _, Nat.zero_le _⟩) ?_
      refine lv_istore (lv' := [(4, .int (xX1_nearCell p1 (nI k))), (3, .int (nI k)), (2, .int x2), (0, .ref (ad 0)), (1, .int p1)]) hx hb dX1_earliestTare_20 hl (by decide) rfl (fun ls hl => ?_)
      refine lv_iload hx hb dX1_earliestTare_22 (lv_at hl 0 rfl) ?_
      refine q_callS (va_runS (As := [.int (xX1_nearCell p1 (nI k))]) (rest := []) ⟨hx, hb, hml, hown, hts⟩ (mX1_isCell l D cI cS ad hI R F (xX1_nearCell p1 (nI k))) (va_cwS 1 hts gX1_earliestTare_X1_isCell rfl rfl rfl (by decide +kernel) ⟨Nat.le_of_ble_eq_true rfl, Nat.le_of_ble_eq_true rfl⟩) (PW_preS hK hP) rfl rfl hl.1 rfl (lv_room (Nat.le_of_ble_eq_true rfl)) dX1_earliestTare_24 ⟨Nat.zero_le _, Nat.zero_le _⟩) ?_
      refine lv_if_eq (tgt := 45) hx hb dX1_earliestTare_27 (by decide) (fun c_27 => ?_) (fun c_27 => ?_)
      · refine lv_iinc (v := (nI (k + 1))) (lv' := [(3, .int (nI (k + 1))), (4, .int (xX1_nearCell p1 (nI k))), (2, .int x2), (0, .ref (ad 0)), (1, .int p1)]) hx hb dX1_earliestTare_45 hl (k := 1) rfl (nI_1 k) (by decide) rfl (fun ls hl => ?_)
        refine lv_goto (tgt := 10) hx hb dX1_earliestTare_48 (by decide) ?_
        exact ih _ _ _ ⟨(k + 1), x2, by omega, by rw [← hsp, hX1_earliestTare_10_s, if_pos c_27], hP, rfl, rfl, lv_sub hl [0, 2, 3, 4] rfl⟩
      · refine lv_iload_n hx hb dX1_earliestTare_30 rfl (lv_at hl 2 rfl) ?_
        refine lv_aload_n hx hb dX1_earliestTare_31 rfl (lv_at hl 3 rfl) ?_
        refine q_getF (v := .ref (ad 1)) hx hb hts hin1 hown hK hP 0 (by decide) lk10 (fun _ h => h) rfl dX1_earliestTare_32 ?_
        refine q_getS (v := .ref (ad 5)) hx hb hts hin0 hown hK hP 1 st_1 6 (by decide) lk65 (fun _ h => h) rfl dX1_earliestTare_35 ?_
        refine lv_iload hx hb dX1_earliestTare_38 (lv_at hl 0 rfl) ?_
        refine q_ild hx hb hK hP 5 24 (ar_5) dX1_earliestTare_40 (by first | assumption | exact isCell_in (by assumption) | exact isWalker_in (by assumption) | exact isAboard_in (by assumption) | exact isPair_in1 (by assumption) | exact isPair_in2 (by assumption) | exact isWithin7_in (by assumption) | exact vp_in_nI (by omega) (by decide)) ?_
        refine va_mmin hx hb (hml.trans hl.1.symm) hown (hts (.methodLink RX1 205 Lib.Math.min.name) (by decide +kernel)) (hts (.static Lib.Math.min.name) (by decide +kernel)) (hts (.initialized "java/lang/Math") (by decide +kernel)) (hts (.code Lib.Math.min.name Lib.Math.min.code 2 (some .int)) (by decide +kernel)) (Nat.le_of_ble_eq_true rfl) (Nat.le_of_ble_eq_true rfl) (Nat.zero_le _) (Nat.zero_le _) dX1_earliestTare_41 ?_
        refine lv_istore_n (lv' := [(2, .int (if (R 5 ((xX1_nearCell p1 (nI k))).toNatClampNeg) < x2 then (R 5 ((xX1_nearCell p1 (nI k))).toNatClampNeg) else x2)), (4, .int (xX1_nearCell p1 (nI k))), (3, .int (nI k)), (0, .ref (ad 0)), (1, .int p1)]) hx hb dX1_earliestTare_44 rfl hl (by decide) rfl (fun ls hl => ?_)
        refine lv_iinc (v := (nI (k + 1))) (lv' := [(3, .int (nI (k + 1))), (2, .int (if (R 5 ((xX1_nearCell p1 (nI k))).toNatClampNeg) < x2 then (R 5 ((xX1_nearCell p1 (nI k))).toNatClampNeg) else x2)), (4, .int (xX1_nearCell p1 (nI k))), (0, .ref (ad 0)), (1, .int p1)]) hx hb dX1_earliestTare_45 hl (k := 2) rfl (nI_1 k) (by decide) rfl (fun ls hl => ?_)
        refine lv_goto (tgt := 10) hx hb dX1_earliestTare_48 (by decide) ?_
        exact ih _ _ _ ⟨(k + 1), (if (R 5 ((xX1_nearCell p1 (nI k))).toNatClampNeg) < x2 then (R 5 ((xX1_nearCell p1 (nI k))).toNatClampNeg) else x2), by omega, by rw [← hsp, hX1_earliestTare_10_s, if_neg c_27], hP, rfl, rfl, lv_sub hl [0, 1, 3, 4] rfl⟩

def hX1_errorWith_13 (R F : Nat → Nat → Int32) (i1 : Nat) : Nat → Nat → Int32 → Int32 × (Nat → Nat → Int32)
  | 0, k, x2 => (x2, (xX1_expectAll (xX1_weighAll R F) F i1))
  | n + 1, k, x2 => (hX1_errorWith_13 R F i1 n (k + 1) (x2 + (if (0 : Int32) ≤ (((xX1_expectAll (xX1_weighAll R F) F i1) 15 k) - ((xX1_expectAll (xX1_weighAll R F) F i1) 16 k)) then (((xX1_expectAll (xX1_weighAll R F) F i1) 15 k) - ((xX1_expectAll (xX1_weighAll R F) F i1) 16 k)) else (0 : Int32) - (((xX1_expectAll (xX1_weighAll R F) F i1) 15 k) - ((xX1_expectAll (xX1_weighAll R F) F i1) 16 k)))))
theorem hX1_errorWith_13_z (R F : Nat → Nat → Int32) (i1 : Nat) (k : Nat) (x2 : Int32) : hX1_errorWith_13 R F i1 0 k x2 = (x2, (xX1_expectAll (xX1_weighAll R F) F i1)) := rfl
theorem hX1_errorWith_13_s (R F : Nat → Nat → Int32) (i1 : Nat) (n : Nat) (k : Nat) (x2 : Int32) : hX1_errorWith_13 R F i1 (n + 1) k x2 = (hX1_errorWith_13 R F i1 n (k + 1) (x2 + (if (0 : Int32) ≤ (((xX1_expectAll (xX1_weighAll R F) F i1) 15 k) - ((xX1_expectAll (xX1_weighAll R F) F i1) 16 k)) then (((xX1_expectAll (xX1_weighAll R F) F i1) 15 k) - ((xX1_expectAll (xX1_weighAll R F) F i1) 16 k)) else (0 : Int32) - (((xX1_expectAll (xX1_weighAll R F) F i1) 15 k) - ((xX1_expectAll (xX1_weighAll R F) F i1) 16 k))))) := rfl
def xX1_errorWith (R F : Nat → Nat → Int32) (i1 : Nat) : Int32 × (Nat → Nat → Int32) :=
  (hX1_errorWith_13 R F i1 24 0 (0 : Int32))
set_option maxHeartbeats 4000000 in
set_option maxRecDepth 100000 in
theorem mX1_errorWith (l : Launch) (D : va_G) (cI cS : ClassId) (ad : Nat → Nat) (hI : Inj ad) (R F : Nat → Nat → Int32) (i1 : Nat) (hi1 : Ar i1 8) : Met l yX1_errorWith wsX1_errorWith ({ frames := 4, cells := 0, slots := 0, locals := 92 }) (PW D cI cS ad R F [.ref (ad 0), .ref (ad i1)]) (QI D cI cS ad ((xX1_errorWith R F i1).1) ((xX1_errorWith R F i1).2) F) 0 0 (AA ad) := by
  refine Met.ofW (cc := cX1_errorWith) (maxL := 4) (ret := (some .int)) (by decide) rfl ?_
  intro p e s m args below meth c s₁ B hml hv
  obtain ⟨rfl, hP, hK⟩ := hv
  have hx := B.exec
  have hb := B.bytes
  have hr := B.returns
  have hts := atoms_spec (ws := wsX1_errorWith) B.pre
  have hown : s.vm.findClass RX1 = some m.cls := findClass_of_methodNamed B.named
  have hlocks := B.notSynchronized
  have hS : va_S (AA ad) s.heap s.heap [] := va_S.rf
  have hl := lv_entry ([.ref (ad 0), .ref (ad i1)]) (n := 4) (Nat.le_of_ble_eq_true rfl)
  rw [lg_entry_eq]
  generalize (lg_sl ([.ref (ad 0), .ref (ad i1)]) ++ List.replicate (4 - (lg_sl ([.ref (ad 0), .ref (ad i1)])).length) Slot.unset).toArray = ls at hl ⊢
  have hl : lv_has ls 4 [(0, .ref (ad 0)), (1, .ref (ad i1))] := hl
  have lk27 := hts (.fieldLink RX1 27 "FerryFloor" "readings" "[I") (by decide +kernel)
  have lk31 := hts (.fieldLink RX1 31 "FerryFloor" "expected" "[I") (by decide +kernel)
  have hin1 : ∀ w ∈ u_ws RX1 TX1 7, w ∈ wsX1_errorWith := by decide +kernel
  refine lv_aload_n hx hb dX1_errorWith_0 rfl (lv_at hl 0 rfl) ?_
  refine q_callV (va_runV (As := []) (rest := []) ⟨hx, hb, hml, hown, hts⟩ (mX1_weighAll l D cI cS ad hI R F) (cwV 0 hts gX1_errorWith_X1_weighAll rfl rfl rfl (by decide +kernel) ⟨Nat.le_of_ble_eq_true rfl, Nat.le_of_ble_eq_true rfl⟩) (PW_preV (i := 0) (by decide) CC_0 rfl rfl hK hP) rfl rfl hl.1 rfl (lv_room (Nat.le_of_ble_eq_true rfl)) dX1_errorWith_1 ⟨Nat.zero_le _, Nat.zero_le _⟩) hS (fun H locs hP hS => ?_)
  refine lv_aload_n hx hb dX1_errorWith_4 rfl (lv_at hl 0 rfl) ?_
  refine lv_aload_n hx hb dX1_errorWith_5 rfl (lv_at hl 1 rfl) ?_
  refine q_callV (va_runV (As := [.ref (ad i1)]) (rest := []) ⟨hx, hb, hml, hown, hts⟩ (mX1_expectAll l D cI cS ad hI (xX1_weighAll R F) F i1 hi1) (cwV 1 hts gX1_errorWith_X1_expectAll rfl rfl rfl (by decide +kernel) ⟨Nat.le_of_ble_eq_true rfl, Nat.le_of_ble_eq_true rfl⟩) (PW_preV (i := 0) (by decide) CC_0 rfl rfl hK hP) rfl rfl hl.1 rfl (lv_room (Nat.le_of_ble_eq_true rfl)) dX1_errorWith_6 ⟨Nat.zero_le _, Nat.zero_le _⟩) hS (fun H locs hP hS => ?_)
  refine lv_iconst (v := 0) hx hb dX1_errorWith_9 (by decide) ?_
  refine lv_istore_n (lv' := [(2, .int (0 : Int32)), (0, .ref (ad 0)), (1, .ref (ad i1))]) hx hb dX1_errorWith_10 rfl hl (by decide) rfl (fun ls hl => ?_)
  refine lv_iconst (v := 0) hx hb dX1_errorWith_11 (by decide) ?_
  refine lv_istore_n (lv' := [(3, .int (0 : Int32)), (2, .int (0 : Int32)), (0, .ref (ad 0)), (1, .ref (ad i1))]) hx hb dX1_errorWith_12 rfl hl (by decide) rfl (fun ls hl => ?_)
  refine q_loop (fun nn H locs ls => ∃ (k : Nat) (x2 : Int32), k + nn = 24 ∧ hX1_errorWith_13 R F i1 nn k x2 = (xX1_errorWith R F i1) ∧ WP D cI cS ad (xX1_expectAll (xX1_weighAll R F) F i1) F H ∧ va_S (AA ad) s.heap H locs ∧ lv_has ls 4 [(3, .int (nI k)), (2, .int x2), (0, .ref (ad 0)), (1, .ref (ad i1))]) 24 ⟨0, (0 : Int32), by omega, by unfold xX1_errorWith; rfl, hP, hS, lv_sub hl [0, 1, 2, 3] rfl⟩ ?_ ?_
  · intro H locs ls hz
    obtain ⟨k, x2, hkn, hsp, hP, hS, hl⟩ := hz
    refine lv_iload_n hx hb dX1_errorWith_13 rfl (lv_at hl 0 rfl) ?_
    refine lv_bipush (v := 24) hx hb dX1_errorWith_14 (by decide) ?_
    refine lv_icmp_ge (tgt := 44) hx hb dX1_errorWith_16 (by decide) (fun c_16 => ?_) (fun c_16 => ?_)
    · refine lv_iload_n hx hb dX1_errorWith_44 rfl (lv_at hl 1 rfl) ?_
      have hX : (xX1_errorWith R F i1) = (x2, (xX1_expectAll (xX1_weighAll R F) F i1)) := by rw [← hsp, hX1_errorWith_13_z]
      exact W.iret (v := x2) hx hb hr (fun t ht hW => ⟨by rw [hX], by rw [hX, ht]; with_reducible exact hP, hS.F ht⟩) hS.2.2 dX1_errorWith_45
    · exact absurd (nI_le (a := 24) (b := k) (by omega) (by omega)) c_16
  · intro n ih H locs ls hz
    obtain ⟨k, x2, hkn, hsp, hP, hS, hl⟩ := hz
    refine lv_iload_n hx hb dX1_errorWith_13 rfl (lv_at hl 0 rfl) ?_
    refine lv_bipush (v := 24) hx hb dX1_errorWith_14 (by decide) ?_
    refine lv_icmp_ge (tgt := 44) hx hb dX1_errorWith_16 (by decide) (fun c_16 => ?_) (fun c_16 => ?_)
    · exact absurd c_16 (nI_ge (a := k) (b := 24) (by omega) (by omega))
    · refine lv_iload_n hx hb dX1_errorWith_19 rfl (lv_at hl 1 rfl) ?_
      refine lv_aload_n hx hb dX1_errorWith_20 rfl (lv_at hl 2 rfl) ?_
      refine q_getF (v := .ref (ad 15)) hx hb hts hin1 hown hK hP 4 (by decide) lk27 (fun _ h => h) rfl dX1_errorWith_21 ?_
      refine lv_iload_n hx hb dX1_errorWith_24 rfl (lv_at hl 0 rfl) ?_
      refine q_ildN hx hb hK hP 15 24 (ar_15) k dX1_errorWith_25 rfl (by omega) (by decide) ?_
      refine lv_aload_n hx hb dX1_errorWith_26 rfl (lv_at hl 2 rfl) ?_
      refine q_getF (v := .ref (ad 16)) hx hb hts hin1 hown hK hP 5 (by decide) lk31 (fun _ h => h) rfl dX1_errorWith_27 ?_
      refine lv_iload_n hx hb dX1_errorWith_30 rfl (lv_at hl 0 rfl) ?_
      refine q_ildN hx hb hK hP 16 24 (ar_16) k dX1_errorWith_31 rfl (by omega) (by decide) ?_
      refine lv_isub hx hb dX1_errorWith_32 ?_
      refine va_mabs hx hb (hml.trans hl.1.symm) hown (hts (.methodLink RX1 208 Lib.Math.abs.name) (by decide +kernel)) (hts (.static Lib.Math.abs.name) (by decide +kernel)) (hts (.initialized "java/lang/Math") (by decide +kernel)) (hts (.code Lib.Math.abs.name Lib.Math.abs.code 1 (some .int)) (by decide +kernel)) (Nat.le_of_ble_eq_true rfl) (Nat.le_of_ble_eq_true rfl) (Nat.zero_le _) (Nat.zero_le _) dX1_errorWith_33 ?_
      refine lv_iadd hx hb dX1_errorWith_36 ?_
      refine lv_istore_n (lv' := [(2, .int (x2 + (if (0 : Int32) ≤ (((xX1_expectAll (xX1_weighAll R F) F i1) 15 k) - ((xX1_expectAll (xX1_weighAll R F) F i1) 16 k)) then (((xX1_expectAll (xX1_weighAll R F) F i1) 15 k) - ((xX1_expectAll (xX1_weighAll R F) F i1) 16 k)) else (0 : Int32) - (((xX1_expectAll (xX1_weighAll R F) F i1) 15 k) - ((xX1_expectAll (xX1_weighAll R F) F i1) 16 k))))), (3, .int (nI k)), (0, .ref (ad 0)), (1, .ref (ad i1))]) hx hb dX1_errorWith_37 rfl hl (by decide) rfl (fun ls hl => ?_)
      refine lv_iinc (v := (nI (k + 1))) (lv' := [(3, .int (nI (k + 1))), (2, .int (x2 + (if (0 : Int32) ≤ (((xX1_expectAll (xX1_weighAll R F) F i1) 15 k) - ((xX1_expectAll (xX1_weighAll R F) F i1) 16 k)) then (((xX1_expectAll (xX1_weighAll R F) F i1) 15 k) - ((xX1_expectAll (xX1_weighAll R F) F i1) 16 k)) else (0 : Int32) - (((xX1_expectAll (xX1_weighAll R F) F i1) 15 k) - ((xX1_expectAll (xX1_weighAll R F) F i1) 16 k))))), (0, .ref (ad 0)), (1, .ref (ad i1))]) hx hb dX1_errorWith_38 hl (k := 1) rfl (nI_1 k) (by decide) rfl (fun ls hl => ?_)
      refine lv_goto (tgt := 13) hx hb dX1_errorWith_41 (by decide) ?_
      exact ih _ _ _ ⟨(k + 1), (x2 + (if (0 : Int32) ≤ (((xX1_expectAll (xX1_weighAll R F) F i1) 15 k) - ((xX1_expectAll (xX1_weighAll R F) F i1) 16 k)) then (((xX1_expectAll (xX1_weighAll R F) F i1) 15 k) - ((xX1_expectAll (xX1_weighAll R F) F i1) 16 k)) else (0 : Int32) - (((xX1_expectAll (xX1_weighAll R F) F i1) 15 k) - ((xX1_expectAll (xX1_weighAll R F) F i1) 16 k)))), by omega, by rw [← hsp, hX1_errorWith_13_s], hP, hS, lv_sub hl [0, 1, 2, 3] rfl⟩
end
section
def xX0_copyFrom (R F : Nat → Nat → Int32) (i0 : Nat) (i1 : Nat) : (Nat → Nat → Int32) × (Nat → Nat → Int32) :=
  ((xX1_copyRow (xX1_copyRow (xX1_copyRow (xX1_copyRow (xX1_copyRow (xX1_copyRow (xX1_copyRow (xX1_copyRow (xX1_copyRow (xX1_copyRow (xX1_copyRow (xX1_copyRow R (sR (sR (sR F i0 0 (F i1 0)) i0 1 ((sR F i0 0 (F i1 0)) i1 1)) i0 2 ((sR (sR F i0 0 (F i1 0)) i0 1 ((sR F i0 0 (F i1 0)) i1 1)) i1 2)) (i1 + 1) (i0 + 1) 24) (sR (sR (sR F i0 0 (F i1 0)) i0 1 ((sR F i0 0 (F i1 0)) i1 1)) i0 2 ((sR (sR F i0 0 (F i1 0)) i0 1 ((sR F i0 0 (F i1 0)) i1 1)) i1 2)) (i1 + 2) (i0 + 2) 24) (sR (sR (sR F i0 0 (F i1 0)) i0 1 ((sR F i0 0 (F i1 0)) i1 1)) i0 2 ((sR (sR F i0 0 (F i1 0)) i0 1 ((sR F i0 0 (F i1 0)) i1 1)) i1 2)) (i1 + 3) (i0 + 3) 24) (sR (sR (sR F i0 0 (F i1 0)) i0 1 ((sR F i0 0 (F i1 0)) i1 1)) i0 2 ((sR (sR F i0 0 (F i1 0)) i0 1 ((sR F i0 0 (F i1 0)) i1 1)) i1 2)) (i1 + 4) (i0 + 4) 24) (sR (sR (sR F i0 0 (F i1 0)) i0 1 ((sR F i0 0 (F i1 0)) i1 1)) i0 2 ((sR (sR F i0 0 (F i1 0)) i0 1 ((sR F i0 0 (F i1 0)) i1 1)) i1 2)) (i1 + 5) (i0 + 5) 8) (sR (sR (sR F i0 0 (F i1 0)) i0 1 ((sR F i0 0 (F i1 0)) i1 1)) i0 2 ((sR (sR F i0 0 (F i1 0)) i0 1 ((sR F i0 0 (F i1 0)) i1 1)) i1 2)) (i1 + 6) (i0 + 6) 8) (sR (sR (sR F i0 0 (F i1 0)) i0 1 ((sR F i0 0 (F i1 0)) i1 1)) i0 2 ((sR (sR F i0 0 (F i1 0)) i0 1 ((sR F i0 0 (F i1 0)) i1 1)) i1 2)) (i1 + 7) (i0 + 7) 8) (sR (sR (sR F i0 0 (F i1 0)) i0 1 ((sR F i0 0 (F i1 0)) i1 1)) i0 2 ((sR (sR F i0 0 (F i1 0)) i0 1 ((sR F i0 0 (F i1 0)) i1 1)) i1 2)) (i1 + 8) (i0 + 8) 8) (sR (sR (sR F i0 0 (F i1 0)) i0 1 ((sR F i0 0 (F i1 0)) i1 1)) i0 2 ((sR (sR F i0 0 (F i1 0)) i0 1 ((sR F i0 0 (F i1 0)) i1 1)) i1 2)) (i1 + 9) (i0 + 9) 8) (sR (sR (sR F i0 0 (F i1 0)) i0 1 ((sR F i0 0 (F i1 0)) i1 1)) i0 2 ((sR (sR F i0 0 (F i1 0)) i0 1 ((sR F i0 0 (F i1 0)) i1 1)) i1 2)) (i1 + 10) (i0 + 10) 8) (sR (sR (sR F i0 0 (F i1 0)) i0 1 ((sR F i0 0 (F i1 0)) i1 1)) i0 2 ((sR (sR F i0 0 (F i1 0)) i0 1 ((sR F i0 0 (F i1 0)) i1 1)) i1 2)) (i1 + 11) (i0 + 11) 8) (sR (sR (sR F i0 0 (F i1 0)) i0 1 ((sR F i0 0 (F i1 0)) i1 1)) i0 2 ((sR (sR F i0 0 (F i1 0)) i0 1 ((sR F i0 0 (F i1 0)) i1 1)) i1 2)) (i1 + 12) (i0 + 12) 8), (sR (sR (sR F i0 0 (F i1 0)) i0 1 ((sR F i0 0 (F i1 0)) i1 1)) i0 2 ((sR (sR F i0 0 (F i1 0)) i0 1 ((sR F i0 0 (F i1 0)) i1 1)) i1 2)))
set_option maxHeartbeats 4000000 in
set_option maxRecDepth 100000 in
theorem mX0_copyFrom (l : Launch) (D : va_G) (cI cS : ClassId) (ad : Nat → Nat) (hI : Inj ad) (R F : Nat → Nat → Int32) (i0 : Nat) (i1 : Nat) (hi0 : St i0 = true) (hi1 : St i1 = true) : Met l yX0_copyFrom wsX0_copyFrom ({ frames := 2, cells := 0, slots := 0, locals := 69 }) (PW D cI cS ad R F [.ref (ad i0), .ref (ad i1)]) (QV D cI cS ad ((xX0_copyFrom R F i0 i1).1) ((xX0_copyFrom R F i0 i1).2)) 0 0 (AA ad) := by
  refine Met.ofW (cc := cX0_copyFrom) (maxL := 2) (ret := none) (by decide) rfl ?_
  intro p e s m args below meth c s₁ B hml hv
  obtain ⟨rfl, hP, hK⟩ := hv
  have hx := B.exec
  have hb := B.bytes
  have hr := B.returns
  have hts := atoms_spec (ws := wsX0_copyFrom) B.pre
  have hown : s.vm.findClass RX0 = some m.cls := findClass_of_methodNamed B.named
  have hlocks := B.notSynchronized
  have hS : va_S (AA ad) s.heap s.heap [] := va_S.rf
  have hl := lv_entry ([.ref (ad i0), .ref (ad i1)]) (n := 2) (Nat.le_of_ble_eq_true rfl)
  rw [lg_entry_eq]
  generalize (lg_sl ([.ref (ad i0), .ref (ad i1)]) ++ List.replicate (2 - (lg_sl ([.ref (ad i0), .ref (ad i1)])).length) Slot.unset).toArray = ls at hl ⊢
  have hl : lv_has ls 2 [(0, .ref (ad i0)), (1, .ref (ad i1))] := hl
  have lk9 := hts (.fieldLink RX0 9 "FerryFloor$State" "minute" "I") (by decide +kernel)
  have lk15 := hts (.fieldLink RX0 15 "FerryFloor$State" "price" "I") (by decide +kernel)
  have lk18 := hts (.fieldLink RX0 18 "FerryFloor$State" "walkers" "I") (by decide +kernel)
  have lk21 := hts (.fieldLink RX0 21 "FerryFloor$State" "zeros" "[I") (by decide +kernel)
  have lk25 := hts (.fieldLink RX0 25 "FerryFloor$State" "drifts" "[I") (by decide +kernel)
  have lk28 := hts (.fieldLink RX0 28 "FerryFloor$State" "tares" "[I") (by decide +kernel)
  have lk31 := hts (.fieldLink RX0 31 "FerryFloor$State" "tareMinutes" "[I") (by decide +kernel)
  have lk34 := hts (.fieldLink RX0 34 "FerryFloor$State" "weights" "[I") (by decide +kernel)
  have lk37 := hts (.fieldLink RX0 37 "FerryFloor$State" "places" "[I") (by decide +kernel)
  have lk40 := hts (.fieldLink RX0 40 "FerryFloor$State" "bookWeights" "[I") (by decide +kernel)
  have lk43 := hts (.fieldLink RX0 43 "FerryFloor$State" "bookPlaces" "[I") (by decide +kernel)
  have lk46 := hts (.fieldLink RX0 46 "FerryFloor$State" "accusations" "[I") (by decide +kernel)
  have lk49 := hts (.fieldLink RX0 49 "FerryFloor$State" "billKilograms" "[I") (by decide +kernel)
  have lk52 := hts (.fieldLink RX0 52 "FerryFloor$State" "billPrices" "[I") (by decide +kernel)
  have lk55 := hts (.fieldLink RX0 55 "FerryFloor$State" "backKilograms" "[I") (by decide +kernel)
  have hin0 : ∀ w ∈ u_ws RX0 TX0 15, w ∈ wsX0_copyFrom := by decide +kernel
  refine lv_aload_n hx hb dX0_copyFrom_0 rfl (lv_at hl 0 rfl) ?_
  refine lv_aload_n hx hb dX0_copyFrom_1 rfl (lv_at hl 1 rfl) ?_
  refine q_getS (v := .int (F i1 0)) hx hb hts hin0 hown hK hP i1 hi1 0 (by decide) lk9 (fun _ h => h) rfl dX0_copyFrom_2 ?_
  refine q_putS hx hb hts hin0 hown hK hI hP hS i0 hi0 0 (by decide) lk9 (fun _ h => h) dX0_copyFrom_5 (fun H locs hP hS => ?_)
  have hP : WP D cI cS ad R (sR F i0 0 (F i1 0)) H := hP
  refine lv_aload_n hx hb dX0_copyFrom_8 rfl (lv_at hl 0 rfl) ?_
  refine lv_aload_n hx hb dX0_copyFrom_9 rfl (lv_at hl 1 rfl) ?_
  refine q_getS (v := .int ((sR F i0 0 (F i1 0)) i1 1)) hx hb hts hin0 hown hK hP i1 hi1 1 (by decide) lk15 (fun _ h => h) rfl dX0_copyFrom_10 ?_
  refine q_putS hx hb hts hin0 hown hK hI hP hS i0 hi0 1 (by decide) lk15 (fun _ h => h) dX0_copyFrom_13 (fun H locs hP hS => ?_)
  have hP : WP D cI cS ad R (sR (sR F i0 0 (F i1 0)) i0 1 ((sR F i0 0 (F i1 0)) i1 1)) H := hP
  refine lv_aload_n hx hb dX0_copyFrom_16 rfl (lv_at hl 0 rfl) ?_
  refine lv_aload_n hx hb dX0_copyFrom_17 rfl (lv_at hl 1 rfl) ?_
  refine q_getS (v := .int ((sR (sR F i0 0 (F i1 0)) i0 1 ((sR F i0 0 (F i1 0)) i1 1)) i1 2)) hx hb hts hin0 hown hK hP i1 hi1 2 (by decide) lk18 (fun _ h => h) rfl dX0_copyFrom_18 ?_
  refine q_putS hx hb hts hin0 hown hK hI hP hS i0 hi0 2 (by decide) lk18 (fun _ h => h) dX0_copyFrom_21 (fun H locs hP hS => ?_)
  have hP : WP D cI cS ad R (sR (sR (sR F i0 0 (F i1 0)) i0 1 ((sR F i0 0 (F i1 0)) i1 1)) i0 2 ((sR (sR F i0 0 (F i1 0)) i0 1 ((sR F i0 0 (F i1 0)) i1 1)) i1 2)) H := hP
  refine lv_aload_n hx hb dX0_copyFrom_24 rfl (lv_at hl 1 rfl) ?_
  refine q_getS (v := .ref (ad (i1 + 1))) hx hb hts hin0 hown hK hP i1 hi1 3 (by decide) lk21 (fun _ h => h) rfl dX0_copyFrom_25 ?_
  refine lv_aload_n hx hb dX0_copyFrom_28 rfl (lv_at hl 0 rfl) ?_
  refine q_getS (v := .ref (ad (i0 + 1))) hx hb hts hin0 hown hK hP i0 hi0 3 (by decide) lk21 (fun _ h => h) rfl dX0_copyFrom_29 ?_
  refine q_callV (va_runSN (As := [.ref (ad (i1 + 1)), .ref (ad (i0 + 1))]) (rest := []) ⟨hx, hb, hml, hown, hts⟩ (mX1_copyRow l D cI cS ad hI R (sR (sR (sR F i0 0 (F i1 0)) i0 1 ((sR F i0 0 (F i1 0)) i1 1)) i0 2 ((sR (sR F i0 0 (F i1 0)) i0 1 ((sR F i0 0 (F i1 0)) i1 1)) i1 2)) (i1 + 1) (i0 + 1) 24 (Ar_S1 hi1) (Ar_S1 hi0) (by decide)) ⟨va_cnB 2 hts gX0_copyFrom_X1_copyRow_n63 rfl rfl rfl hK.2.2 (hts (.initialized RX1) (by decide +kernel)) (by decide +kernel) ⟨Nat.le_of_ble_eq_true rfl, Nat.le_of_ble_eq_true rfl⟩, hts (.static yX1_copyRow) (by decide +kernel), trivial⟩ (PW_preS hK hP) rfl rfl hl.1 rfl (lv_room (Nat.le_of_ble_eq_true rfl)) dX0_copyFrom_32 ⟨Nat.zero_le _, Nat.zero_le _⟩) hS (fun H locs hP hS => ?_)
  refine lv_aload_n hx hb dX0_copyFrom_35 rfl (lv_at hl 1 rfl) ?_
  refine q_getS (v := .ref (ad (i1 + 2))) hx hb hts hin0 hown hK hP i1 hi1 4 (by decide) lk25 (fun _ h => h) rfl dX0_copyFrom_36 ?_
  refine lv_aload_n hx hb dX0_copyFrom_39 rfl (lv_at hl 0 rfl) ?_
  refine q_getS (v := .ref (ad (i0 + 2))) hx hb hts hin0 hown hK hP i0 hi0 4 (by decide) lk25 (fun _ h => h) rfl dX0_copyFrom_40 ?_
  refine q_callV (va_runSN (As := [.ref (ad (i1 + 2)), .ref (ad (i0 + 2))]) (rest := []) ⟨hx, hb, hml, hown, hts⟩ (mX1_copyRow l D cI cS ad hI (xX1_copyRow R (sR (sR (sR F i0 0 (F i1 0)) i0 1 ((sR F i0 0 (F i1 0)) i1 1)) i0 2 ((sR (sR F i0 0 (F i1 0)) i0 1 ((sR F i0 0 (F i1 0)) i1 1)) i1 2)) (i1 + 1) (i0 + 1) 24) (sR (sR (sR F i0 0 (F i1 0)) i0 1 ((sR F i0 0 (F i1 0)) i1 1)) i0 2 ((sR (sR F i0 0 (F i1 0)) i0 1 ((sR F i0 0 (F i1 0)) i1 1)) i1 2)) (i1 + 2) (i0 + 2) 24 (Ar_S2 hi1) (Ar_S2 hi0) (by decide)) ⟨va_cnB 2 hts gX0_copyFrom_X1_copyRow_n63 rfl rfl rfl hK.2.2 (hts (.initialized RX1) (by decide +kernel)) (by decide +kernel) ⟨Nat.le_of_ble_eq_true rfl, Nat.le_of_ble_eq_true rfl⟩, hts (.static yX1_copyRow) (by decide +kernel), trivial⟩ (PW_preS hK hP) rfl rfl hl.1 rfl (lv_room (Nat.le_of_ble_eq_true rfl)) dX0_copyFrom_43 ⟨Nat.zero_le _, Nat.zero_le _⟩) hS (fun H locs hP hS => ?_)
  refine lv_aload_n hx hb dX0_copyFrom_46 rfl (lv_at hl 1 rfl) ?_
  refine q_getS (v := .ref (ad (i1 + 3))) hx hb hts hin0 hown hK hP i1 hi1 5 (by decide) lk28 (fun _ h => h) rfl dX0_copyFrom_47 ?_
  refine lv_aload_n hx hb dX0_copyFrom_50 rfl (lv_at hl 0 rfl) ?_
  refine q_getS (v := .ref (ad (i0 + 3))) hx hb hts hin0 hown hK hP i0 hi0 5 (by decide) lk28 (fun _ h => h) rfl dX0_copyFrom_51 ?_
  refine q_callV (va_runSN (As := [.ref (ad (i1 + 3)), .ref (ad (i0 + 3))]) (rest := []) ⟨hx, hb, hml, hown, hts⟩ (mX1_copyRow l D cI cS ad hI (xX1_copyRow (xX1_copyRow R (sR (sR (sR F i0 0 (F i1 0)) i0 1 ((sR F i0 0 (F i1 0)) i1 1)) i0 2 ((sR (sR F i0 0 (F i1 0)) i0 1 ((sR F i0 0 (F i1 0)) i1 1)) i1 2)) (i1 + 1) (i0 + 1) 24) (sR (sR (sR F i0 0 (F i1 0)) i0 1 ((sR F i0 0 (F i1 0)) i1 1)) i0 2 ((sR (sR F i0 0 (F i1 0)) i0 1 ((sR F i0 0 (F i1 0)) i1 1)) i1 2)) (i1 + 2) (i0 + 2) 24) (sR (sR (sR F i0 0 (F i1 0)) i0 1 ((sR F i0 0 (F i1 0)) i1 1)) i0 2 ((sR (sR F i0 0 (F i1 0)) i0 1 ((sR F i0 0 (F i1 0)) i1 1)) i1 2)) (i1 + 3) (i0 + 3) 24 (Ar_S3 hi1) (Ar_S3 hi0) (by decide)) ⟨va_cnB 2 hts gX0_copyFrom_X1_copyRow_n63 rfl rfl rfl hK.2.2 (hts (.initialized RX1) (by decide +kernel)) (by decide +kernel) ⟨Nat.le_of_ble_eq_true rfl, Nat.le_of_ble_eq_true rfl⟩, hts (.static yX1_copyRow) (by decide +kernel), trivial⟩ (PW_preS hK hP) rfl rfl hl.1 rfl (lv_room (Nat.le_of_ble_eq_true rfl)) dX0_copyFrom_54 ⟨Nat.zero_le _, Nat.zero_le _⟩) hS (fun H locs hP hS => ?_)
  refine lv_aload_n hx hb dX0_copyFrom_57 rfl (lv_at hl 1 rfl) ?_
  refine q_getS (v := .ref (ad (i1 + 4))) hx hb hts hin0 hown hK hP i1 hi1 6 (by decide) lk31 (fun _ h => h) rfl dX0_copyFrom_58 ?_
  refine lv_aload_n hx hb dX0_copyFrom_61 rfl (lv_at hl 0 rfl) ?_
  refine q_getS (v := .ref (ad (i0 + 4))) hx hb hts hin0 hown hK hP i0 hi0 6 (by decide) lk31 (fun _ h => h) rfl dX0_copyFrom_62 ?_
  refine q_callV (va_runSN (As := [.ref (ad (i1 + 4)), .ref (ad (i0 + 4))]) (rest := []) ⟨hx, hb, hml, hown, hts⟩ (mX1_copyRow l D cI cS ad hI (xX1_copyRow (xX1_copyRow (xX1_copyRow R (sR (sR (sR F i0 0 (F i1 0)) i0 1 ((sR F i0 0 (F i1 0)) i1 1)) i0 2 ((sR (sR F i0 0 (F i1 0)) i0 1 ((sR F i0 0 (F i1 0)) i1 1)) i1 2)) (i1 + 1) (i0 + 1) 24) (sR (sR (sR F i0 0 (F i1 0)) i0 1 ((sR F i0 0 (F i1 0)) i1 1)) i0 2 ((sR (sR F i0 0 (F i1 0)) i0 1 ((sR F i0 0 (F i1 0)) i1 1)) i1 2)) (i1 + 2) (i0 + 2) 24) (sR (sR (sR F i0 0 (F i1 0)) i0 1 ((sR F i0 0 (F i1 0)) i1 1)) i0 2 ((sR (sR F i0 0 (F i1 0)) i0 1 ((sR F i0 0 (F i1 0)) i1 1)) i1 2)) (i1 + 3) (i0 + 3) 24) (sR (sR (sR F i0 0 (F i1 0)) i0 1 ((sR F i0 0 (F i1 0)) i1 1)) i0 2 ((sR (sR F i0 0 (F i1 0)) i0 1 ((sR F i0 0 (F i1 0)) i1 1)) i1 2)) (i1 + 4) (i0 + 4) 24 (Ar_S4 hi1) (Ar_S4 hi0) (by decide)) ⟨va_cnB 2 hts gX0_copyFrom_X1_copyRow_n63 rfl rfl rfl hK.2.2 (hts (.initialized RX1) (by decide +kernel)) (by decide +kernel) ⟨Nat.le_of_ble_eq_true rfl, Nat.le_of_ble_eq_true rfl⟩, hts (.static yX1_copyRow) (by decide +kernel), trivial⟩ (PW_preS hK hP) rfl rfl hl.1 rfl (lv_room (Nat.le_of_ble_eq_true rfl)) dX0_copyFrom_65 ⟨Nat.zero_le _, Nat.zero_le _⟩) hS (fun H locs hP hS => ?_)
  refine lv_aload_n hx hb dX0_copyFrom_68 rfl (lv_at hl 1 rfl) ?_
  refine q_getS (v := .ref (ad (i1 + 5))) hx hb hts hin0 hown hK hP i1 hi1 7 (by decide) lk34 (fun _ h => h) rfl dX0_copyFrom_69 ?_
  refine lv_aload_n hx hb dX0_copyFrom_72 rfl (lv_at hl 0 rfl) ?_
  refine q_getS (v := .ref (ad (i0 + 5))) hx hb hts hin0 hown hK hP i0 hi0 7 (by decide) lk34 (fun _ h => h) rfl dX0_copyFrom_73 ?_
  refine q_callV (va_runSN (As := [.ref (ad (i1 + 5)), .ref (ad (i0 + 5))]) (rest := []) ⟨hx, hb, hml, hown, hts⟩ (mX1_copyRow l D cI cS ad hI (xX1_copyRow (xX1_copyRow (xX1_copyRow (xX1_copyRow R (sR (sR (sR F i0 0 (F i1 0)) i0 1 ((sR F i0 0 (F i1 0)) i1 1)) i0 2 ((sR (sR F i0 0 (F i1 0)) i0 1 ((sR F i0 0 (F i1 0)) i1 1)) i1 2)) (i1 + 1) (i0 + 1) 24) (sR (sR (sR F i0 0 (F i1 0)) i0 1 ((sR F i0 0 (F i1 0)) i1 1)) i0 2 ((sR (sR F i0 0 (F i1 0)) i0 1 ((sR F i0 0 (F i1 0)) i1 1)) i1 2)) (i1 + 2) (i0 + 2) 24) (sR (sR (sR F i0 0 (F i1 0)) i0 1 ((sR F i0 0 (F i1 0)) i1 1)) i0 2 ((sR (sR F i0 0 (F i1 0)) i0 1 ((sR F i0 0 (F i1 0)) i1 1)) i1 2)) (i1 + 3) (i0 + 3) 24) (sR (sR (sR F i0 0 (F i1 0)) i0 1 ((sR F i0 0 (F i1 0)) i1 1)) i0 2 ((sR (sR F i0 0 (F i1 0)) i0 1 ((sR F i0 0 (F i1 0)) i1 1)) i1 2)) (i1 + 4) (i0 + 4) 24) (sR (sR (sR F i0 0 (F i1 0)) i0 1 ((sR F i0 0 (F i1 0)) i1 1)) i0 2 ((sR (sR F i0 0 (F i1 0)) i0 1 ((sR F i0 0 (F i1 0)) i1 1)) i1 2)) (i1 + 5) (i0 + 5) 8 (Ar_S5 hi1) (Ar_S5 hi0) (by decide)) ⟨va_cnB 2 hts gX0_copyFrom_X1_copyRow_n63 rfl rfl rfl hK.2.2 (hts (.initialized RX1) (by decide +kernel)) (by decide +kernel) ⟨Nat.le_of_ble_eq_true rfl, Nat.le_of_ble_eq_true rfl⟩, hts (.static yX1_copyRow) (by decide +kernel), trivial⟩ (PW_preS hK hP) rfl rfl hl.1 rfl (lv_room (Nat.le_of_ble_eq_true rfl)) dX0_copyFrom_76 ⟨Nat.zero_le _, Nat.zero_le _⟩) hS (fun H locs hP hS => ?_)
  refine lv_aload_n hx hb dX0_copyFrom_79 rfl (lv_at hl 1 rfl) ?_
  refine q_getS (v := .ref (ad (i1 + 6))) hx hb hts hin0 hown hK hP i1 hi1 8 (by decide) lk37 (fun _ h => h) rfl dX0_copyFrom_80 ?_
  refine lv_aload_n hx hb dX0_copyFrom_83 rfl (lv_at hl 0 rfl) ?_
  refine q_getS (v := .ref (ad (i0 + 6))) hx hb hts hin0 hown hK hP i0 hi0 8 (by decide) lk37 (fun _ h => h) rfl dX0_copyFrom_84 ?_
  refine q_callV (va_runSN (As := [.ref (ad (i1 + 6)), .ref (ad (i0 + 6))]) (rest := []) ⟨hx, hb, hml, hown, hts⟩ (mX1_copyRow l D cI cS ad hI (xX1_copyRow (xX1_copyRow (xX1_copyRow (xX1_copyRow (xX1_copyRow R (sR (sR (sR F i0 0 (F i1 0)) i0 1 ((sR F i0 0 (F i1 0)) i1 1)) i0 2 ((sR (sR F i0 0 (F i1 0)) i0 1 ((sR F i0 0 (F i1 0)) i1 1)) i1 2)) (i1 + 1) (i0 + 1) 24) (sR (sR (sR F i0 0 (F i1 0)) i0 1 ((sR F i0 0 (F i1 0)) i1 1)) i0 2 ((sR (sR F i0 0 (F i1 0)) i0 1 ((sR F i0 0 (F i1 0)) i1 1)) i1 2)) (i1 + 2) (i0 + 2) 24) (sR (sR (sR F i0 0 (F i1 0)) i0 1 ((sR F i0 0 (F i1 0)) i1 1)) i0 2 ((sR (sR F i0 0 (F i1 0)) i0 1 ((sR F i0 0 (F i1 0)) i1 1)) i1 2)) (i1 + 3) (i0 + 3) 24) (sR (sR (sR F i0 0 (F i1 0)) i0 1 ((sR F i0 0 (F i1 0)) i1 1)) i0 2 ((sR (sR F i0 0 (F i1 0)) i0 1 ((sR F i0 0 (F i1 0)) i1 1)) i1 2)) (i1 + 4) (i0 + 4) 24) (sR (sR (sR F i0 0 (F i1 0)) i0 1 ((sR F i0 0 (F i1 0)) i1 1)) i0 2 ((sR (sR F i0 0 (F i1 0)) i0 1 ((sR F i0 0 (F i1 0)) i1 1)) i1 2)) (i1 + 5) (i0 + 5) 8) (sR (sR (sR F i0 0 (F i1 0)) i0 1 ((sR F i0 0 (F i1 0)) i1 1)) i0 2 ((sR (sR F i0 0 (F i1 0)) i0 1 ((sR F i0 0 (F i1 0)) i1 1)) i1 2)) (i1 + 6) (i0 + 6) 8 (Ar_S6 hi1) (Ar_S6 hi0) (by decide)) ⟨va_cnB 2 hts gX0_copyFrom_X1_copyRow_n63 rfl rfl rfl hK.2.2 (hts (.initialized RX1) (by decide +kernel)) (by decide +kernel) ⟨Nat.le_of_ble_eq_true rfl, Nat.le_of_ble_eq_true rfl⟩, hts (.static yX1_copyRow) (by decide +kernel), trivial⟩ (PW_preS hK hP) rfl rfl hl.1 rfl (lv_room (Nat.le_of_ble_eq_true rfl)) dX0_copyFrom_87 ⟨Nat.zero_le _, Nat.zero_le _⟩) hS (fun H locs hP hS => ?_)
  refine lv_aload_n hx hb dX0_copyFrom_90 rfl (lv_at hl 1 rfl) ?_
  refine q_getS (v := .ref (ad (i1 + 7))) hx hb hts hin0 hown hK hP i1 hi1 9 (by decide) lk40 (fun _ h => h) rfl dX0_copyFrom_91 ?_
  refine lv_aload_n hx hb dX0_copyFrom_94 rfl (lv_at hl 0 rfl) ?_
  refine q_getS (v := .ref (ad (i0 + 7))) hx hb hts hin0 hown hK hP i0 hi0 9 (by decide) lk40 (fun _ h => h) rfl dX0_copyFrom_95 ?_
  refine q_callV (va_runSN (As := [.ref (ad (i1 + 7)), .ref (ad (i0 + 7))]) (rest := []) ⟨hx, hb, hml, hown, hts⟩ (mX1_copyRow l D cI cS ad hI (xX1_copyRow (xX1_copyRow (xX1_copyRow (xX1_copyRow (xX1_copyRow (xX1_copyRow R (sR (sR (sR F i0 0 (F i1 0)) i0 1 ((sR F i0 0 (F i1 0)) i1 1)) i0 2 ((sR (sR F i0 0 (F i1 0)) i0 1 ((sR F i0 0 (F i1 0)) i1 1)) i1 2)) (i1 + 1) (i0 + 1) 24) (sR (sR (sR F i0 0 (F i1 0)) i0 1 ((sR F i0 0 (F i1 0)) i1 1)) i0 2 ((sR (sR F i0 0 (F i1 0)) i0 1 ((sR F i0 0 (F i1 0)) i1 1)) i1 2)) (i1 + 2) (i0 + 2) 24) (sR (sR (sR F i0 0 (F i1 0)) i0 1 ((sR F i0 0 (F i1 0)) i1 1)) i0 2 ((sR (sR F i0 0 (F i1 0)) i0 1 ((sR F i0 0 (F i1 0)) i1 1)) i1 2)) (i1 + 3) (i0 + 3) 24) (sR (sR (sR F i0 0 (F i1 0)) i0 1 ((sR F i0 0 (F i1 0)) i1 1)) i0 2 ((sR (sR F i0 0 (F i1 0)) i0 1 ((sR F i0 0 (F i1 0)) i1 1)) i1 2)) (i1 + 4) (i0 + 4) 24) (sR (sR (sR F i0 0 (F i1 0)) i0 1 ((sR F i0 0 (F i1 0)) i1 1)) i0 2 ((sR (sR F i0 0 (F i1 0)) i0 1 ((sR F i0 0 (F i1 0)) i1 1)) i1 2)) (i1 + 5) (i0 + 5) 8) (sR (sR (sR F i0 0 (F i1 0)) i0 1 ((sR F i0 0 (F i1 0)) i1 1)) i0 2 ((sR (sR F i0 0 (F i1 0)) i0 1 ((sR F i0 0 (F i1 0)) i1 1)) i1 2)) (i1 + 6) (i0 + 6) 8) (sR (sR (sR F i0 0 (F i1 0)) i0 1 ((sR F i0 0 (F i1 0)) i1 1)) i0 2 ((sR (sR F i0 0 (F i1 0)) i0 1 ((sR F i0 0 (F i1 0)) i1 1)) i1 2)) (i1 + 7) (i0 + 7) 8 (Ar_S7 hi1) (Ar_S7 hi0) (by decide)) ⟨va_cnB 2 hts gX0_copyFrom_X1_copyRow_n63 rfl rfl rfl hK.2.2 (hts (.initialized RX1) (by decide +kernel)) (by decide +kernel) ⟨Nat.le_of_ble_eq_true rfl, Nat.le_of_ble_eq_true rfl⟩, hts (.static yX1_copyRow) (by decide +kernel), trivial⟩ (PW_preS hK hP) rfl rfl hl.1 rfl (lv_room (Nat.le_of_ble_eq_true rfl)) dX0_copyFrom_98 ⟨Nat.zero_le _, Nat.zero_le _⟩) hS (fun H locs hP hS => ?_)
  refine lv_aload_n hx hb dX0_copyFrom_101 rfl (lv_at hl 1 rfl) ?_
  refine q_getS (v := .ref (ad (i1 + 8))) hx hb hts hin0 hown hK hP i1 hi1 10 (by decide) lk43 (fun _ h => h) rfl dX0_copyFrom_102 ?_
  refine lv_aload_n hx hb dX0_copyFrom_105 rfl (lv_at hl 0 rfl) ?_
  refine q_getS (v := .ref (ad (i0 + 8))) hx hb hts hin0 hown hK hP i0 hi0 10 (by decide) lk43 (fun _ h => h) rfl dX0_copyFrom_106 ?_
  refine q_callV (va_runSN (As := [.ref (ad (i1 + 8)), .ref (ad (i0 + 8))]) (rest := []) ⟨hx, hb, hml, hown, hts⟩ (mX1_copyRow l D cI cS ad hI (xX1_copyRow (xX1_copyRow (xX1_copyRow (xX1_copyRow (xX1_copyRow (xX1_copyRow (xX1_copyRow R (sR (sR (sR F i0 0 (F i1 0)) i0 1 ((sR F i0 0 (F i1 0)) i1 1)) i0 2 ((sR (sR F i0 0 (F i1 0)) i0 1 ((sR F i0 0 (F i1 0)) i1 1)) i1 2)) (i1 + 1) (i0 + 1) 24) (sR (sR (sR F i0 0 (F i1 0)) i0 1 ((sR F i0 0 (F i1 0)) i1 1)) i0 2 ((sR (sR F i0 0 (F i1 0)) i0 1 ((sR F i0 0 (F i1 0)) i1 1)) i1 2)) (i1 + 2) (i0 + 2) 24) (sR (sR (sR F i0 0 (F i1 0)) i0 1 ((sR F i0 0 (F i1 0)) i1 1)) i0 2 ((sR (sR F i0 0 (F i1 0)) i0 1 ((sR F i0 0 (F i1 0)) i1 1)) i1 2)) (i1 + 3) (i0 + 3) 24) (sR (sR (sR F i0 0 (F i1 0)) i0 1 ((sR F i0 0 (F i1 0)) i1 1)) i0 2 ((sR (sR F i0 0 (F i1 0)) i0 1 ((sR F i0 0 (F i1 0)) i1 1)) i1 2)) (i1 + 4) (i0 + 4) 24) (sR (sR (sR F i0 0 (F i1 0)) i0 1 ((sR F i0 0 (F i1 0)) i1 1)) i0 2 ((sR (sR F i0 0 (F i1 0)) i0 1 ((sR F i0 0 (F i1 0)) i1 1)) i1 2)) (i1 + 5) (i0 + 5) 8) (sR (sR (sR F i0 0 (F i1 0)) i0 1 ((sR F i0 0 (F i1 0)) i1 1)) i0 2 ((sR (sR F i0 0 (F i1 0)) i0 1 ((sR F i0 0 (F i1 0)) i1 1)) i1 2)) (i1 + 6) (i0 + 6) 8) (sR (sR (sR F i0 0 (F i1 0)) i0 1 ((sR F i0 0 (F i1 0)) i1 1)) i0 2 ((sR (sR F i0 0 (F i1 0)) i0 1 ((sR F i0 0 (F i1 0)) i1 1)) i1 2)) (i1 + 7) (i0 + 7) 8) (sR (sR (sR F i0 0 (F i1 0)) i0 1 ((sR F i0 0 (F i1 0)) i1 1)) i0 2 ((sR (sR F i0 0 (F i1 0)) i0 1 ((sR F i0 0 (F i1 0)) i1 1)) i1 2)) (i1 + 8) (i0 + 8) 8 (Ar_S8 hi1) (Ar_S8 hi0) (by decide)) ⟨va_cnB 2 hts gX0_copyFrom_X1_copyRow_n63 rfl rfl rfl hK.2.2 (hts (.initialized RX1) (by decide +kernel)) (by decide +kernel) ⟨Nat.le_of_ble_eq_true rfl, Nat.le_of_ble_eq_true rfl⟩, hts (.static yX1_copyRow) (by decide +kernel), trivial⟩ (PW_preS hK hP) rfl rfl hl.1 rfl (lv_room (Nat.le_of_ble_eq_true rfl)) dX0_copyFrom_109 ⟨Nat.zero_le _, Nat.zero_le _⟩) hS (fun H locs hP hS => ?_)
  refine lv_aload_n hx hb dX0_copyFrom_112 rfl (lv_at hl 1 rfl) ?_
  refine q_getS (v := .ref (ad (i1 + 9))) hx hb hts hin0 hown hK hP i1 hi1 11 (by decide) lk46 (fun _ h => h) rfl dX0_copyFrom_113 ?_
  refine lv_aload_n hx hb dX0_copyFrom_116 rfl (lv_at hl 0 rfl) ?_
  refine q_getS (v := .ref (ad (i0 + 9))) hx hb hts hin0 hown hK hP i0 hi0 11 (by decide) lk46 (fun _ h => h) rfl dX0_copyFrom_117 ?_
  refine q_callV (va_runSN (As := [.ref (ad (i1 + 9)), .ref (ad (i0 + 9))]) (rest := []) ⟨hx, hb, hml, hown, hts⟩ (mX1_copyRow l D cI cS ad hI (xX1_copyRow (xX1_copyRow (xX1_copyRow (xX1_copyRow (xX1_copyRow (xX1_copyRow (xX1_copyRow (xX1_copyRow R (sR (sR (sR F i0 0 (F i1 0)) i0 1 ((sR F i0 0 (F i1 0)) i1 1)) i0 2 ((sR (sR F i0 0 (F i1 0)) i0 1 ((sR F i0 0 (F i1 0)) i1 1)) i1 2)) (i1 + 1) (i0 + 1) 24) (sR (sR (sR F i0 0 (F i1 0)) i0 1 ((sR F i0 0 (F i1 0)) i1 1)) i0 2 ((sR (sR F i0 0 (F i1 0)) i0 1 ((sR F i0 0 (F i1 0)) i1 1)) i1 2)) (i1 + 2) (i0 + 2) 24) (sR (sR (sR F i0 0 (F i1 0)) i0 1 ((sR F i0 0 (F i1 0)) i1 1)) i0 2 ((sR (sR F i0 0 (F i1 0)) i0 1 ((sR F i0 0 (F i1 0)) i1 1)) i1 2)) (i1 + 3) (i0 + 3) 24) (sR (sR (sR F i0 0 (F i1 0)) i0 1 ((sR F i0 0 (F i1 0)) i1 1)) i0 2 ((sR (sR F i0 0 (F i1 0)) i0 1 ((sR F i0 0 (F i1 0)) i1 1)) i1 2)) (i1 + 4) (i0 + 4) 24) (sR (sR (sR F i0 0 (F i1 0)) i0 1 ((sR F i0 0 (F i1 0)) i1 1)) i0 2 ((sR (sR F i0 0 (F i1 0)) i0 1 ((sR F i0 0 (F i1 0)) i1 1)) i1 2)) (i1 + 5) (i0 + 5) 8) (sR (sR (sR F i0 0 (F i1 0)) i0 1 ((sR F i0 0 (F i1 0)) i1 1)) i0 2 ((sR (sR F i0 0 (F i1 0)) i0 1 ((sR F i0 0 (F i1 0)) i1 1)) i1 2)) (i1 + 6) (i0 + 6) 8) (sR (sR (sR F i0 0 (F i1 0)) i0 1 ((sR F i0 0 (F i1 0)) i1 1)) i0 2 ((sR (sR F i0 0 (F i1 0)) i0 1 ((sR F i0 0 (F i1 0)) i1 1)) i1 2)) (i1 + 7) (i0 + 7) 8) (sR (sR (sR F i0 0 (F i1 0)) i0 1 ((sR F i0 0 (F i1 0)) i1 1)) i0 2 ((sR (sR F i0 0 (F i1 0)) i0 1 ((sR F i0 0 (F i1 0)) i1 1)) i1 2)) (i1 + 8) (i0 + 8) 8) (sR (sR (sR F i0 0 (F i1 0)) i0 1 ((sR F i0 0 (F i1 0)) i1 1)) i0 2 ((sR (sR F i0 0 (F i1 0)) i0 1 ((sR F i0 0 (F i1 0)) i1 1)) i1 2)) (i1 + 9) (i0 + 9) 8 (Ar_S9 hi1) (Ar_S9 hi0) (by decide)) ⟨va_cnB 2 hts gX0_copyFrom_X1_copyRow_n63 rfl rfl rfl hK.2.2 (hts (.initialized RX1) (by decide +kernel)) (by decide +kernel) ⟨Nat.le_of_ble_eq_true rfl, Nat.le_of_ble_eq_true rfl⟩, hts (.static yX1_copyRow) (by decide +kernel), trivial⟩ (PW_preS hK hP) rfl rfl hl.1 rfl (lv_room (Nat.le_of_ble_eq_true rfl)) dX0_copyFrom_120 ⟨Nat.zero_le _, Nat.zero_le _⟩) hS (fun H locs hP hS => ?_)
  refine lv_aload_n hx hb dX0_copyFrom_123 rfl (lv_at hl 1 rfl) ?_
  refine q_getS (v := .ref (ad (i1 + 10))) hx hb hts hin0 hown hK hP i1 hi1 12 (by decide) lk49 (fun _ h => h) rfl dX0_copyFrom_124 ?_
  refine lv_aload_n hx hb dX0_copyFrom_127 rfl (lv_at hl 0 rfl) ?_
  refine q_getS (v := .ref (ad (i0 + 10))) hx hb hts hin0 hown hK hP i0 hi0 12 (by decide) lk49 (fun _ h => h) rfl dX0_copyFrom_128 ?_
  refine q_callV (va_runSN (As := [.ref (ad (i1 + 10)), .ref (ad (i0 + 10))]) (rest := []) ⟨hx, hb, hml, hown, hts⟩ (mX1_copyRow l D cI cS ad hI (xX1_copyRow (xX1_copyRow (xX1_copyRow (xX1_copyRow (xX1_copyRow (xX1_copyRow (xX1_copyRow (xX1_copyRow (xX1_copyRow R (sR (sR (sR F i0 0 (F i1 0)) i0 1 ((sR F i0 0 (F i1 0)) i1 1)) i0 2 ((sR (sR F i0 0 (F i1 0)) i0 1 ((sR F i0 0 (F i1 0)) i1 1)) i1 2)) (i1 + 1) (i0 + 1) 24) (sR (sR (sR F i0 0 (F i1 0)) i0 1 ((sR F i0 0 (F i1 0)) i1 1)) i0 2 ((sR (sR F i0 0 (F i1 0)) i0 1 ((sR F i0 0 (F i1 0)) i1 1)) i1 2)) (i1 + 2) (i0 + 2) 24) (sR (sR (sR F i0 0 (F i1 0)) i0 1 ((sR F i0 0 (F i1 0)) i1 1)) i0 2 ((sR (sR F i0 0 (F i1 0)) i0 1 ((sR F i0 0 (F i1 0)) i1 1)) i1 2)) (i1 + 3) (i0 + 3) 24) (sR (sR (sR F i0 0 (F i1 0)) i0 1 ((sR F i0 0 (F i1 0)) i1 1)) i0 2 ((sR (sR F i0 0 (F i1 0)) i0 1 ((sR F i0 0 (F i1 0)) i1 1)) i1 2)) (i1 + 4) (i0 + 4) 24) (sR (sR (sR F i0 0 (F i1 0)) i0 1 ((sR F i0 0 (F i1 0)) i1 1)) i0 2 ((sR (sR F i0 0 (F i1 0)) i0 1 ((sR F i0 0 (F i1 0)) i1 1)) i1 2)) (i1 + 5) (i0 + 5) 8) (sR (sR (sR F i0 0 (F i1 0)) i0 1 ((sR F i0 0 (F i1 0)) i1 1)) i0 2 ((sR (sR F i0 0 (F i1 0)) i0 1 ((sR F i0 0 (F i1 0)) i1 1)) i1 2)) (i1 + 6) (i0 + 6) 8) (sR (sR (sR F i0 0 (F i1 0)) i0 1 ((sR F i0 0 (F i1 0)) i1 1)) i0 2 ((sR (sR F i0 0 (F i1 0)) i0 1 ((sR F i0 0 (F i1 0)) i1 1)) i1 2)) (i1 + 7) (i0 + 7) 8) (sR (sR (sR F i0 0 (F i1 0)) i0 1 ((sR F i0 0 (F i1 0)) i1 1)) i0 2 ((sR (sR F i0 0 (F i1 0)) i0 1 ((sR F i0 0 (F i1 0)) i1 1)) i1 2)) (i1 + 8) (i0 + 8) 8) (sR (sR (sR F i0 0 (F i1 0)) i0 1 ((sR F i0 0 (F i1 0)) i1 1)) i0 2 ((sR (sR F i0 0 (F i1 0)) i0 1 ((sR F i0 0 (F i1 0)) i1 1)) i1 2)) (i1 + 9) (i0 + 9) 8) (sR (sR (sR F i0 0 (F i1 0)) i0 1 ((sR F i0 0 (F i1 0)) i1 1)) i0 2 ((sR (sR F i0 0 (F i1 0)) i0 1 ((sR F i0 0 (F i1 0)) i1 1)) i1 2)) (i1 + 10) (i0 + 10) 8 (Ar_S10 hi1) (Ar_S10 hi0) (by decide)) ⟨va_cnB 2 hts gX0_copyFrom_X1_copyRow_n63 rfl rfl rfl hK.2.2 (hts (.initialized RX1) (by decide +kernel)) (by decide +kernel) ⟨Nat.le_of_ble_eq_true rfl, Nat.le_of_ble_eq_true rfl⟩, hts (.static yX1_copyRow) (by decide +kernel), trivial⟩ (PW_preS hK hP) rfl rfl hl.1 rfl (lv_room (Nat.le_of_ble_eq_true rfl)) dX0_copyFrom_131 ⟨Nat.zero_le _, Nat.zero_le _⟩) hS (fun H locs hP hS => ?_)
  refine lv_aload_n hx hb dX0_copyFrom_134 rfl (lv_at hl 1 rfl) ?_
  refine q_getS (v := .ref (ad (i1 + 11))) hx hb hts hin0 hown hK hP i1 hi1 13 (by decide) lk52 (fun _ h => h) rfl dX0_copyFrom_135 ?_
  refine lv_aload_n hx hb dX0_copyFrom_138 rfl (lv_at hl 0 rfl) ?_
  refine q_getS (v := .ref (ad (i0 + 11))) hx hb hts hin0 hown hK hP i0 hi0 13 (by decide) lk52 (fun _ h => h) rfl dX0_copyFrom_139 ?_
  refine q_callV (va_runSN (As := [.ref (ad (i1 + 11)), .ref (ad (i0 + 11))]) (rest := []) ⟨hx, hb, hml, hown, hts⟩ (mX1_copyRow l D cI cS ad hI (xX1_copyRow (xX1_copyRow (xX1_copyRow (xX1_copyRow (xX1_copyRow (xX1_copyRow (xX1_copyRow (xX1_copyRow (xX1_copyRow (xX1_copyRow R (sR (sR (sR F i0 0 (F i1 0)) i0 1 ((sR F i0 0 (F i1 0)) i1 1)) i0 2 ((sR (sR F i0 0 (F i1 0)) i0 1 ((sR F i0 0 (F i1 0)) i1 1)) i1 2)) (i1 + 1) (i0 + 1) 24) (sR (sR (sR F i0 0 (F i1 0)) i0 1 ((sR F i0 0 (F i1 0)) i1 1)) i0 2 ((sR (sR F i0 0 (F i1 0)) i0 1 ((sR F i0 0 (F i1 0)) i1 1)) i1 2)) (i1 + 2) (i0 + 2) 24) (sR (sR (sR F i0 0 (F i1 0)) i0 1 ((sR F i0 0 (F i1 0)) i1 1)) i0 2 ((sR (sR F i0 0 (F i1 0)) i0 1 ((sR F i0 0 (F i1 0)) i1 1)) i1 2)) (i1 + 3) (i0 + 3) 24) (sR (sR (sR F i0 0 (F i1 0)) i0 1 ((sR F i0 0 (F i1 0)) i1 1)) i0 2 ((sR (sR F i0 0 (F i1 0)) i0 1 ((sR F i0 0 (F i1 0)) i1 1)) i1 2)) (i1 + 4) (i0 + 4) 24) (sR (sR (sR F i0 0 (F i1 0)) i0 1 ((sR F i0 0 (F i1 0)) i1 1)) i0 2 ((sR (sR F i0 0 (F i1 0)) i0 1 ((sR F i0 0 (F i1 0)) i1 1)) i1 2)) (i1 + 5) (i0 + 5) 8) (sR (sR (sR F i0 0 (F i1 0)) i0 1 ((sR F i0 0 (F i1 0)) i1 1)) i0 2 ((sR (sR F i0 0 (F i1 0)) i0 1 ((sR F i0 0 (F i1 0)) i1 1)) i1 2)) (i1 + 6) (i0 + 6) 8) (sR (sR (sR F i0 0 (F i1 0)) i0 1 ((sR F i0 0 (F i1 0)) i1 1)) i0 2 ((sR (sR F i0 0 (F i1 0)) i0 1 ((sR F i0 0 (F i1 0)) i1 1)) i1 2)) (i1 + 7) (i0 + 7) 8) (sR (sR (sR F i0 0 (F i1 0)) i0 1 ((sR F i0 0 (F i1 0)) i1 1)) i0 2 ((sR (sR F i0 0 (F i1 0)) i0 1 ((sR F i0 0 (F i1 0)) i1 1)) i1 2)) (i1 + 8) (i0 + 8) 8) (sR (sR (sR F i0 0 (F i1 0)) i0 1 ((sR F i0 0 (F i1 0)) i1 1)) i0 2 ((sR (sR F i0 0 (F i1 0)) i0 1 ((sR F i0 0 (F i1 0)) i1 1)) i1 2)) (i1 + 9) (i0 + 9) 8) (sR (sR (sR F i0 0 (F i1 0)) i0 1 ((sR F i0 0 (F i1 0)) i1 1)) i0 2 ((sR (sR F i0 0 (F i1 0)) i0 1 ((sR F i0 0 (F i1 0)) i1 1)) i1 2)) (i1 + 10) (i0 + 10) 8) (sR (sR (sR F i0 0 (F i1 0)) i0 1 ((sR F i0 0 (F i1 0)) i1 1)) i0 2 ((sR (sR F i0 0 (F i1 0)) i0 1 ((sR F i0 0 (F i1 0)) i1 1)) i1 2)) (i1 + 11) (i0 + 11) 8 (Ar_S11 hi1) (Ar_S11 hi0) (by decide)) ⟨va_cnB 2 hts gX0_copyFrom_X1_copyRow_n63 rfl rfl rfl hK.2.2 (hts (.initialized RX1) (by decide +kernel)) (by decide +kernel) ⟨Nat.le_of_ble_eq_true rfl, Nat.le_of_ble_eq_true rfl⟩, hts (.static yX1_copyRow) (by decide +kernel), trivial⟩ (PW_preS hK hP) rfl rfl hl.1 rfl (lv_room (Nat.le_of_ble_eq_true rfl)) dX0_copyFrom_142 ⟨Nat.zero_le _, Nat.zero_le _⟩) hS (fun H locs hP hS => ?_)
  refine lv_aload_n hx hb dX0_copyFrom_145 rfl (lv_at hl 1 rfl) ?_
  refine q_getS (v := .ref (ad (i1 + 12))) hx hb hts hin0 hown hK hP i1 hi1 14 (by decide) lk55 (fun _ h => h) rfl dX0_copyFrom_146 ?_
  refine lv_aload_n hx hb dX0_copyFrom_149 rfl (lv_at hl 0 rfl) ?_
  refine q_getS (v := .ref (ad (i0 + 12))) hx hb hts hin0 hown hK hP i0 hi0 14 (by decide) lk55 (fun _ h => h) rfl dX0_copyFrom_150 ?_
  refine q_callV (va_runSN (As := [.ref (ad (i1 + 12)), .ref (ad (i0 + 12))]) (rest := []) ⟨hx, hb, hml, hown, hts⟩ (mX1_copyRow l D cI cS ad hI (xX1_copyRow (xX1_copyRow (xX1_copyRow (xX1_copyRow (xX1_copyRow (xX1_copyRow (xX1_copyRow (xX1_copyRow (xX1_copyRow (xX1_copyRow (xX1_copyRow R (sR (sR (sR F i0 0 (F i1 0)) i0 1 ((sR F i0 0 (F i1 0)) i1 1)) i0 2 ((sR (sR F i0 0 (F i1 0)) i0 1 ((sR F i0 0 (F i1 0)) i1 1)) i1 2)) (i1 + 1) (i0 + 1) 24) (sR (sR (sR F i0 0 (F i1 0)) i0 1 ((sR F i0 0 (F i1 0)) i1 1)) i0 2 ((sR (sR F i0 0 (F i1 0)) i0 1 ((sR F i0 0 (F i1 0)) i1 1)) i1 2)) (i1 + 2) (i0 + 2) 24) (sR (sR (sR F i0 0 (F i1 0)) i0 1 ((sR F i0 0 (F i1 0)) i1 1)) i0 2 ((sR (sR F i0 0 (F i1 0)) i0 1 ((sR F i0 0 (F i1 0)) i1 1)) i1 2)) (i1 + 3) (i0 + 3) 24) (sR (sR (sR F i0 0 (F i1 0)) i0 1 ((sR F i0 0 (F i1 0)) i1 1)) i0 2 ((sR (sR F i0 0 (F i1 0)) i0 1 ((sR F i0 0 (F i1 0)) i1 1)) i1 2)) (i1 + 4) (i0 + 4) 24) (sR (sR (sR F i0 0 (F i1 0)) i0 1 ((sR F i0 0 (F i1 0)) i1 1)) i0 2 ((sR (sR F i0 0 (F i1 0)) i0 1 ((sR F i0 0 (F i1 0)) i1 1)) i1 2)) (i1 + 5) (i0 + 5) 8) (sR (sR (sR F i0 0 (F i1 0)) i0 1 ((sR F i0 0 (F i1 0)) i1 1)) i0 2 ((sR (sR F i0 0 (F i1 0)) i0 1 ((sR F i0 0 (F i1 0)) i1 1)) i1 2)) (i1 + 6) (i0 + 6) 8) (sR (sR (sR F i0 0 (F i1 0)) i0 1 ((sR F i0 0 (F i1 0)) i1 1)) i0 2 ((sR (sR F i0 0 (F i1 0)) i0 1 ((sR F i0 0 (F i1 0)) i1 1)) i1 2)) (i1 + 7) (i0 + 7) 8) (sR (sR (sR F i0 0 (F i1 0)) i0 1 ((sR F i0 0 (F i1 0)) i1 1)) i0 2 ((sR (sR F i0 0 (F i1 0)) i0 1 ((sR F i0 0 (F i1 0)) i1 1)) i1 2)) (i1 + 8) (i0 + 8) 8) (sR (sR (sR F i0 0 (F i1 0)) i0 1 ((sR F i0 0 (F i1 0)) i1 1)) i0 2 ((sR (sR F i0 0 (F i1 0)) i0 1 ((sR F i0 0 (F i1 0)) i1 1)) i1 2)) (i1 + 9) (i0 + 9) 8) (sR (sR (sR F i0 0 (F i1 0)) i0 1 ((sR F i0 0 (F i1 0)) i1 1)) i0 2 ((sR (sR F i0 0 (F i1 0)) i0 1 ((sR F i0 0 (F i1 0)) i1 1)) i1 2)) (i1 + 10) (i0 + 10) 8) (sR (sR (sR F i0 0 (F i1 0)) i0 1 ((sR F i0 0 (F i1 0)) i1 1)) i0 2 ((sR (sR F i0 0 (F i1 0)) i0 1 ((sR F i0 0 (F i1 0)) i1 1)) i1 2)) (i1 + 11) (i0 + 11) 8) (sR (sR (sR F i0 0 (F i1 0)) i0 1 ((sR F i0 0 (F i1 0)) i1 1)) i0 2 ((sR (sR F i0 0 (F i1 0)) i0 1 ((sR F i0 0 (F i1 0)) i1 1)) i1 2)) (i1 + 12) (i0 + 12) 8 (Ar_S12 hi1) (Ar_S12 hi0) (by decide)) ⟨va_cnB 2 hts gX0_copyFrom_X1_copyRow_n63 rfl rfl rfl hK.2.2 (hts (.initialized RX1) (by decide +kernel)) (by decide +kernel) ⟨Nat.le_of_ble_eq_true rfl, Nat.le_of_ble_eq_true rfl⟩, hts (.static yX1_copyRow) (by decide +kernel), trivial⟩ (PW_preS hK hP) rfl rfl hl.1 rfl (lv_room (Nat.le_of_ble_eq_true rfl)) dX0_copyFrom_153 ⟨Nat.zero_le _, Nat.zero_le _⟩) hS (fun H locs hP hS => ?_)
  have hX : (xX0_copyFrom R F i0 i1) = ((xX1_copyRow (xX1_copyRow (xX1_copyRow (xX1_copyRow (xX1_copyRow (xX1_copyRow (xX1_copyRow (xX1_copyRow (xX1_copyRow (xX1_copyRow (xX1_copyRow (xX1_copyRow R (sR (sR (sR F i0 0 (F i1 0)) i0 1 ((sR F i0 0 (F i1 0)) i1 1)) i0 2 ((sR (sR F i0 0 (F i1 0)) i0 1 ((sR F i0 0 (F i1 0)) i1 1)) i1 2)) (i1 + 1) (i0 + 1) 24) (sR (sR (sR F i0 0 (F i1 0)) i0 1 ((sR F i0 0 (F i1 0)) i1 1)) i0 2 ((sR (sR F i0 0 (F i1 0)) i0 1 ((sR F i0 0 (F i1 0)) i1 1)) i1 2)) (i1 + 2) (i0 + 2) 24) (sR (sR (sR F i0 0 (F i1 0)) i0 1 ((sR F i0 0 (F i1 0)) i1 1)) i0 2 ((sR (sR F i0 0 (F i1 0)) i0 1 ((sR F i0 0 (F i1 0)) i1 1)) i1 2)) (i1 + 3) (i0 + 3) 24) (sR (sR (sR F i0 0 (F i1 0)) i0 1 ((sR F i0 0 (F i1 0)) i1 1)) i0 2 ((sR (sR F i0 0 (F i1 0)) i0 1 ((sR F i0 0 (F i1 0)) i1 1)) i1 2)) (i1 + 4) (i0 + 4) 24) (sR (sR (sR F i0 0 (F i1 0)) i0 1 ((sR F i0 0 (F i1 0)) i1 1)) i0 2 ((sR (sR F i0 0 (F i1 0)) i0 1 ((sR F i0 0 (F i1 0)) i1 1)) i1 2)) (i1 + 5) (i0 + 5) 8) (sR (sR (sR F i0 0 (F i1 0)) i0 1 ((sR F i0 0 (F i1 0)) i1 1)) i0 2 ((sR (sR F i0 0 (F i1 0)) i0 1 ((sR F i0 0 (F i1 0)) i1 1)) i1 2)) (i1 + 6) (i0 + 6) 8) (sR (sR (sR F i0 0 (F i1 0)) i0 1 ((sR F i0 0 (F i1 0)) i1 1)) i0 2 ((sR (sR F i0 0 (F i1 0)) i0 1 ((sR F i0 0 (F i1 0)) i1 1)) i1 2)) (i1 + 7) (i0 + 7) 8) (sR (sR (sR F i0 0 (F i1 0)) i0 1 ((sR F i0 0 (F i1 0)) i1 1)) i0 2 ((sR (sR F i0 0 (F i1 0)) i0 1 ((sR F i0 0 (F i1 0)) i1 1)) i1 2)) (i1 + 8) (i0 + 8) 8) (sR (sR (sR F i0 0 (F i1 0)) i0 1 ((sR F i0 0 (F i1 0)) i1 1)) i0 2 ((sR (sR F i0 0 (F i1 0)) i0 1 ((sR F i0 0 (F i1 0)) i1 1)) i1 2)) (i1 + 9) (i0 + 9) 8) (sR (sR (sR F i0 0 (F i1 0)) i0 1 ((sR F i0 0 (F i1 0)) i1 1)) i0 2 ((sR (sR F i0 0 (F i1 0)) i0 1 ((sR F i0 0 (F i1 0)) i1 1)) i1 2)) (i1 + 10) (i0 + 10) 8) (sR (sR (sR F i0 0 (F i1 0)) i0 1 ((sR F i0 0 (F i1 0)) i1 1)) i0 2 ((sR (sR F i0 0 (F i1 0)) i0 1 ((sR F i0 0 (F i1 0)) i1 1)) i1 2)) (i1 + 11) (i0 + 11) 8) (sR (sR (sR F i0 0 (F i1 0)) i0 1 ((sR F i0 0 (F i1 0)) i1 1)) i0 2 ((sR (sR F i0 0 (F i1 0)) i0 1 ((sR F i0 0 (F i1 0)) i1 1)) i1 2)) (i1 + 12) (i0 + 12) 8), (sR (sR (sR F i0 0 (F i1 0)) i0 1 ((sR F i0 0 (F i1 0)) i1 1)) i0 2 ((sR (sR F i0 0 (F i1 0)) i0 1 ((sR F i0 0 (F i1 0)) i1 1)) i1 2))) := by unfold xX0_copyFrom; rfl
  exact W.vret hx hb hr (fun t ht hW => ⟨rfl, by rw [hX, ht]; with_reducible exact hP, hS.F ht⟩) hS.2.2 dX0_copyFrom_156

theorem sR_ne {R : Nat → Nat → Int32} {i j : Nat} (h : j ≠ i) (k : Nat) (v : Int32) : sR R i k v j = R j := by
  unfold sR
  exact up_ne _ _ h
theorem sR_same {R : Nat → Nat → Int32} {i k : Nat} {v : Int32} : sR R i k v i k = v := by
  unfold sR
  rw [up_same]
  exact pk_us
theorem sR_same_ne {R : Nat → Nat → Int32} {i k j : Nat} {v : Int32} (h : j ≠ k) : sR R i k v i j = R i j := by
  unfold sR
  rw [up_same]
  exact pk_un h
theorem cf_F0 {R F : Nat → Nat → Int32} {i j : Nat} (h : i ≠ 0) : (xX0_copyFrom R F i j).2 0 = F 0 := by
  unfold xX0_copyFrom
  show sR (sR (sR F _ _ _) _ _ _) _ _ _ 0 = F 0
  rw [sR_ne (Ne.symm h), sR_ne (Ne.symm h), sR_ne (Ne.symm h)]
def xX1_remember (R F : Nat → Nat → Int32) (o : Nat) (q : Nat) : (Nat → Nat → Int32) × (Nat → Nat → Int32) :=
  (if (F 0 1) = (5 : Int32) then (((xX0_copyFrom R (sR (sR F 0 0 (nI ((o + 1) % 5))) 0 1 (nI 4)) (18 + 13 * (((o + 1) % 5 + 4) % 5)) 1).1), (sR ((xX0_copyFrom R (sR (sR F 0 0 (nI ((o + 1) % 5))) 0 1 (nI 4)) (18 + 13 * (((o + 1) % 5 + 4) % 5)) 1).2) 0 1 (nI (4 + 1)))) else (((xX0_copyFrom R F (18 + 13 * ((o + q) % 5)) 1).1), (sR ((xX0_copyFrom R F (18 + 13 * ((o + q) % 5)) 1).2) 0 1 (nI (q + 1)))))
set_option maxHeartbeats 4000000 in
set_option maxRecDepth 100000 in
theorem mX1_remember (l : Launch) (D : va_G) (cI cS : ClassId) (ad : Nat → Nat) (hI : Inj ad) (R F : Nat → Nat → Int32) (o : Nat) (q : Nat) (ho : o < 5) (hq : q ≤ 5) (hF0 : F 0 0 = nI o) (hF1 : F 0 1 = nI q) : Met l yX1_remember wsX1_remember ({ frames := 3, cells := 0, slots := 0, locals := 90 }) (PW D cI cS ad R F [.ref (ad 0)]) (QV D cI cS ad ((xX1_remember R F o q).1) ((xX1_remember R F o q).2)) 0 0 (AA ad) := by
  refine Met.ofW (cc := cX1_remember) (maxL := 2) (ret := none) (by decide) rfl ?_
  intro p e s m args below meth c s₁ B hml hv
  obtain ⟨rfl, hP, hK⟩ := hv
  have hx := B.exec
  have hb := B.bytes
  have hr := B.returns
  have hts := atoms_spec (ws := wsX1_remember) B.pre
  have hown : s.vm.findClass RX1 = some m.cls := findClass_of_methodNamed B.named
  have hlocks := B.notSynchronized
  have hS : va_S (AA ad) s.heap s.heap [] := va_S.rf
  have hl := lv_entry ([.ref (ad 0)]) (n := 2) (Nat.le_of_ble_eq_true rfl)
  rw [lg_entry_eq]
  generalize (lg_sl ([.ref (ad 0)]) ++ List.replicate (2 - (lg_sl ([.ref (ad 0)])).length) Slot.unset).toArray = ls at hl ⊢
  have hl : lv_has ls 2 [(0, .ref (ad 0))] := hl
  have lk24 := hts (.fieldLink RX1 24 "FerryFloor" "kept" "I") (by decide +kernel)
  have lk20 := hts (.fieldLink RX1 20 "FerryFloor" "oldest" "I") (by decide +kernel)
  have lk16 := hts (.fieldLink RX1 16 "FerryFloor" "history" "[LFerryFloor$State;") (by decide +kernel)
  have lk10 := hts (.fieldLink RX1 10 "FerryFloor" "now" "LFerryFloor$State;") (by decide +kernel)
  have hin1 : ∀ w ∈ u_ws RX1 TX1 7, w ∈ wsX1_remember := by decide +kernel
  refine lv_aload_n hx hb dX1_remember_0 rfl (lv_at hl 0 rfl) ?_
  refine q_getF (v := .int (F 0 1)) hx hb hts hin1 hown hK hP 3 (by decide) lk24 (fun _ h => h) rfl dX1_remember_1 ?_
  refine lv_iconst (v := 5) hx hb dX1_remember_4 (by decide) ?_
  refine lv_icmp_ne (tgt := 27) hx hb dX1_remember_5 (by decide) (fun c_5 => ?_) (fun c_5 => ?_)
  · refine lv_aload_n hx hb dX1_remember_27 rfl (lv_at hl 0 rfl) ?_
    refine q_getF (v := .ref (ad 14)) hx hb hts hin1 hown hK hP 1 (by decide) lk16 (fun _ h => h) rfl dX1_remember_28 ?_
    refine lv_aload_n hx hb dX1_remember_31 rfl (lv_at hl 0 rfl) ?_
    refine lv_aload_n hx hb dX1_remember_32 rfl (lv_at hl 0 rfl) ?_
    refine q_getF (v := .int (F 0 1)) hx hb hts hin1 hown hK hP 3 (by decide) lk24 (fun _ h => h) rfl dX1_remember_33 ?_
    refine q_top (y := (nI q)) hF1 ?_
    refine q_callS (va_runV (As := [.int (nI q)]) (rest := [.ref (ad 14)]) ⟨hx, hb, hml, hown, hts⟩ (mX1_slotAfter l D cI cS ad hI R F (nI q)) (cwV 1 hts gX1_remember_X1_slotAfter rfl rfl rfl (by decide +kernel) ⟨Nat.le_of_ble_eq_true rfl, Nat.le_of_ble_eq_true rfl⟩) (PW_preV (i := 0) (by decide) CC_0 rfl rfl hK hP) rfl rfl hl.1 rfl (lv_room (Nat.le_of_ble_eq_true rfl)) dX1_remember_36 ⟨Nat.zero_le _, Nat.zero_le _⟩) ?_
    refine q_top (y := (nI ((o + q) % 5))) (slot_eq hF0 rfl (by omega)) ?_
    refine q_hld hx hb hK hP ((o + q) % 5) dX1_remember_39 rfl (by omega) ?_
    refine lv_astore_n (lv' := [(1, .ref (ad (18 + 13 * ((o + q) % 5)))), (0, .ref (ad 0))]) hx hb dX1_remember_40 rfl hl (by decide) rfl (fun ls hl => ?_)
    refine lv_aload_n hx hb dX1_remember_41 rfl (lv_at hl 0 rfl) ?_
    refine lv_ifnull hx hb dX1_remember_42 ?_
    refine lv_aload_n hx hb dX1_remember_45 rfl (lv_at hl 0 rfl) ?_
    refine lv_aload_n hx hb dX1_remember_46 rfl (lv_at hl 1 rfl) ?_
    refine q_getF (v := .ref (ad 1)) hx hb hts hin1 hown hK hP 0 (by decide) lk10 (fun _ h => h) rfl dX1_remember_47 ?_
    refine q_callV (va_runV (As := [.ref (ad 1)]) (rest := []) ⟨hx, hb, hml, hown, hts⟩ (mX0_copyFrom l D cI cS ad hI R F (18 + 13 * ((o + q) % 5)) 1 (St_hist (k := ((o + q) % 5)) (by omega)) st_1) (cwV 1 hts gX1_remember_X0_copyFrom rfl rfl rfl (by decide +kernel) ⟨Nat.le_of_ble_eq_true rfl, Nat.le_of_ble_eq_true rfl⟩) (PW_preV (i := (18 + 13 * ((o + q) % 5))) (St_lt (St_hist (k := ((o + q) % 5)) (by omega))) (CC_S (St_hist (k := ((o + q) % 5)) (by omega))) rfl rfl hK hP) rfl rfl hl.1 rfl (lv_room (Nat.le_of_ble_eq_true rfl)) dX1_remember_50 ⟨Nat.zero_le _, Nat.zero_le _⟩) hS (fun H locs hP hS => ?_)
    refine lv_aload_n hx hb dX1_remember_53 rfl (lv_at hl 1 rfl) ?_
    refine lv_dup hx hb dX1_remember_54 rfl ?_
    refine q_getF (v := .int (((xX0_copyFrom R F (18 + 13 * ((o + q) % 5)) 1).2) 0 1)) hx hb hts hin1 hown hK hP 3 (by decide) lk24 (fun _ h => h) rfl dX1_remember_55 ?_
    refine q_top (y := (nI q)) ((congrFun (cf_F0 (by omega)) 1).trans hF1) ?_
    refine lv_iconst (v := 1) hx hb dX1_remember_58 (by decide) ?_
    refine lv_iadd hx hb dX1_remember_59 ?_
    refine q_top (y := (nI (q + 1))) (nI_add q 1) ?_
    refine q_putF hx hb hts hin1 hown hK hI hP hS 3 (by decide) lk24 (fun _ h => h) dX1_remember_60 (fun H locs hP hS => ?_)
    have hP : WP D cI cS ad ((xX0_copyFrom R F (18 + 13 * ((o + q) % 5)) 1).1) (sR ((xX0_copyFrom R F (18 + 13 * ((o + q) % 5)) 1).2) 0 1 (nI (q + 1))) H := hP
    have hX : (xX1_remember R F o q) = (((xX0_copyFrom R F (18 + 13 * ((o + q) % 5)) 1).1), (sR ((xX0_copyFrom R F (18 + 13 * ((o + q) % 5)) 1).2) 0 1 (nI (q + 1)))) := by unfold xX1_remember; rw [if_neg c_5]
    exact W.vret hx hb hr (fun t ht hW => ⟨rfl, by rw [hX, ht]; with_reducible exact hP, hS.F ht⟩) hS.2.2 dX1_remember_63
  · refine lv_aload_n hx hb dX1_remember_8 rfl (lv_at hl 0 rfl) ?_
    refine lv_aload_n hx hb dX1_remember_9 rfl (lv_at hl 0 rfl) ?_
    refine lv_iconst (v := 1) hx hb dX1_remember_10 (by decide) ?_
    refine q_callS (va_runV (As := [.int (1 : Int32)]) (rest := [.ref (ad 0)]) ⟨hx, hb, hml, hown, hts⟩ (mX1_slotAfter l D cI cS ad hI R F (1 : Int32)) (cwV 1 hts gX1_remember_X1_slotAfter rfl rfl rfl (by decide +kernel) ⟨Nat.le_of_ble_eq_true rfl, Nat.le_of_ble_eq_true rfl⟩) (PW_preV (i := 0) (by decide) CC_0 rfl rfl hK hP) rfl rfl hl.1 rfl (lv_room (Nat.le_of_ble_eq_true rfl)) dX1_remember_11 ⟨Nat.zero_le _, Nat.zero_le _⟩) ?_
    refine q_top (y := (nI ((o + 1) % 5))) (slot_eq hF0 rfl (by omega)) ?_
    refine q_putF hx hb hts hin1 hown hK hI hP hS 2 (by decide) lk20 (fun _ h => h) dX1_remember_14 (fun H locs hP hS => ?_)
    have hP : WP D cI cS ad R (sR F 0 0 (nI ((o + 1) % 5))) H := hP
    refine lv_aload_n hx hb dX1_remember_17 rfl (lv_at hl 0 rfl) ?_
    refine lv_dup hx hb dX1_remember_18 rfl ?_
    refine q_getF (v := .int ((sR F 0 0 (nI ((o + 1) % 5))) 0 1)) hx hb hts hin1 hown hK hP 3 (by decide) lk24 (fun _ h => h) rfl dX1_remember_19 ?_
    refine q_top (y := (5 : Int32)) c_5 ?_
    refine lv_iconst (v := 1) hx hb dX1_remember_22 (by decide) ?_
    refine lv_isub hx hb dX1_remember_23 ?_
    refine q_top (y := (nI 4)) (by decide) ?_
    refine q_putF hx hb hts hin1 hown hK hI hP hS 3 (by decide) lk24 (fun _ h => h) dX1_remember_24 (fun H locs hP hS => ?_)
    have hP : WP D cI cS ad R (sR (sR F 0 0 (nI ((o + 1) % 5))) 0 1 (nI 4)) H := hP
    refine lv_aload_n hx hb dX1_remember_27 rfl (lv_at hl 0 rfl) ?_
    refine q_getF (v := .ref (ad 14)) hx hb hts hin1 hown hK hP 1 (by decide) lk16 (fun _ h => h) rfl dX1_remember_28 ?_
    refine lv_aload_n hx hb dX1_remember_31 rfl (lv_at hl 0 rfl) ?_
    refine lv_aload_n hx hb dX1_remember_32 rfl (lv_at hl 0 rfl) ?_
    refine q_getF (v := .int ((sR (sR F 0 0 (nI ((o + 1) % 5))) 0 1 (nI 4)) 0 1)) hx hb hts hin1 hown hK hP 3 (by decide) lk24 (fun _ h => h) rfl dX1_remember_33 ?_
    refine q_top (y := (nI 4)) rfl ?_
    refine q_callS (va_runV (As := [.int (nI 4)]) (rest := [.ref (ad 14)]) ⟨hx, hb, hml, hown, hts⟩ (mX1_slotAfter l D cI cS ad hI R (sR (sR F 0 0 (nI ((o + 1) % 5))) 0 1 (nI 4)) (nI 4)) (cwV 1 hts gX1_remember_X1_slotAfter rfl rfl rfl (by decide +kernel) ⟨Nat.le_of_ble_eq_true rfl, Nat.le_of_ble_eq_true rfl⟩) (PW_preV (i := 0) (by decide) CC_0 rfl rfl hK hP) rfl rfl hl.1 rfl (lv_room (Nat.le_of_ble_eq_true rfl)) dX1_remember_36 ⟨Nat.zero_le _, Nat.zero_le _⟩) ?_
    refine q_top (y := (nI (((o + 1) % 5 + 4) % 5))) (slot_eq (a := (o + 1) % 5) rfl rfl (by omega)) ?_
    refine q_hld hx hb hK hP (((o + 1) % 5 + 4) % 5) dX1_remember_39 rfl (by omega) ?_
    refine lv_astore_n (lv' := [(1, .ref (ad (18 + 13 * (((o + 1) % 5 + 4) % 5)))), (0, .ref (ad 0))]) hx hb dX1_remember_40 rfl hl (by decide) rfl (fun ls hl => ?_)
    refine lv_aload_n hx hb dX1_remember_41 rfl (lv_at hl 0 rfl) ?_
    refine lv_ifnull hx hb dX1_remember_42 ?_
    refine lv_aload_n hx hb dX1_remember_45 rfl (lv_at hl 0 rfl) ?_
    refine lv_aload_n hx hb dX1_remember_46 rfl (lv_at hl 1 rfl) ?_
    refine q_getF (v := .ref (ad 1)) hx hb hts hin1 hown hK hP 0 (by decide) lk10 (fun _ h => h) rfl dX1_remember_47 ?_
    refine q_callV (va_runV (As := [.ref (ad 1)]) (rest := []) ⟨hx, hb, hml, hown, hts⟩ (mX0_copyFrom l D cI cS ad hI R (sR (sR F 0 0 (nI ((o + 1) % 5))) 0 1 (nI 4)) (18 + 13 * (((o + 1) % 5 + 4) % 5)) 1 (St_hist (k := (((o + 1) % 5 + 4) % 5)) (by omega)) st_1) (cwV 1 hts gX1_remember_X0_copyFrom rfl rfl rfl (by decide +kernel) ⟨Nat.le_of_ble_eq_true rfl, Nat.le_of_ble_eq_true rfl⟩) (PW_preV (i := (18 + 13 * (((o + 1) % 5 + 4) % 5))) (St_lt (St_hist (k := (((o + 1) % 5 + 4) % 5)) (by omega))) (CC_S (St_hist (k := (((o + 1) % 5 + 4) % 5)) (by omega))) rfl rfl hK hP) rfl rfl hl.1 rfl (lv_room (Nat.le_of_ble_eq_true rfl)) dX1_remember_50 ⟨Nat.zero_le _, Nat.zero_le _⟩) hS (fun H locs hP hS => ?_)
    refine lv_aload_n hx hb dX1_remember_53 rfl (lv_at hl 1 rfl) ?_
    refine lv_dup hx hb dX1_remember_54 rfl ?_
    refine q_getF (v := .int (((xX0_copyFrom R (sR (sR F 0 0 (nI ((o + 1) % 5))) 0 1 (nI 4)) (18 + 13 * (((o + 1) % 5 + 4) % 5)) 1).2) 0 1)) hx hb hts hin1 hown hK hP 3 (by decide) lk24 (fun _ h => h) rfl dX1_remember_55 ?_
    refine q_top (y := (nI 4)) ((congrFun (cf_F0 (by omega)) 1).trans rfl) ?_
    refine lv_iconst (v := 1) hx hb dX1_remember_58 (by decide) ?_
    refine lv_iadd hx hb dX1_remember_59 ?_
    refine q_top (y := (nI (4 + 1))) (nI_add 4 1) ?_
    refine q_putF hx hb hts hin1 hown hK hI hP hS 3 (by decide) lk24 (fun _ h => h) dX1_remember_60 (fun H locs hP hS => ?_)
    have hP : WP D cI cS ad ((xX0_copyFrom R (sR (sR F 0 0 (nI ((o + 1) % 5))) 0 1 (nI 4)) (18 + 13 * (((o + 1) % 5 + 4) % 5)) 1).1) (sR ((xX0_copyFrom R (sR (sR F 0 0 (nI ((o + 1) % 5))) 0 1 (nI 4)) (18 + 13 * (((o + 1) % 5 + 4) % 5)) 1).2) 0 1 (nI (4 + 1))) H := hP
    have hX : (xX1_remember R F o q) = (((xX0_copyFrom R (sR (sR F 0 0 (nI ((o + 1) % 5))) 0 1 (nI 4)) (18 + 13 * (((o + 1) % 5 + 4) % 5)) 1).1), (sR ((xX0_copyFrom R (sR (sR F 0 0 (nI ((o + 1) % 5))) 0 1 (nI 4)) (18 + 13 * (((o + 1) % 5 + 4) % 5)) 1).2) 0 1 (nI (4 + 1)))) := by unfold xX1_remember; rw [if_pos c_5]
    exact W.vret hx hb hr (fun t ht hW => ⟨rfl, by rw [hX, ht]; with_reducible exact hP, hS.F ht⟩) hS.2.2 dX1_remember_63
end
section
def hX1_walkersAboard_4 (R F : Nat → Nat → Int32) : Nat → Nat → Int32 → Int32
  | 0, k, x1 => x1
  | n + 1, k, x1 => (if (xX1_isAboard R F (nI k)) = (0 : Int32) then (hX1_walkersAboard_4 R F n (k + 1) x1) else (hX1_walkersAboard_4 R F n (k + 1) (x1 + (1 : Int32))))
theorem hX1_walkersAboard_4_z (R F : Nat → Nat → Int32) (k : Nat) (x1 : Int32) : hX1_walkersAboard_4 R F 0 k x1 = x1 := rfl
theorem hX1_walkersAboard_4_s (R F : Nat → Nat → Int32) (n : Nat) (k : Nat) (x1 : Int32) : hX1_walkersAboard_4 R F (n + 1) k x1 = (if (xX1_isAboard R F (nI k)) = (0 : Int32) then (hX1_walkersAboard_4 R F n (k + 1) x1) else (hX1_walkersAboard_4 R F n (k + 1) (x1 + (1 : Int32)))) := rfl
def xX1_walkersAboard (R F : Nat → Nat → Int32) : Int32 :=
  (hX1_walkersAboard_4 R F 8 0 (0 : Int32))
set_option maxHeartbeats 4000000 in
set_option maxRecDepth 100000 in
theorem mX1_walkersAboard (l : Launch) (D : va_G) (cI cS : ClassId) (ad : Nat → Nat) (hI : Inj ad) (R F : Nat → Nat → Int32)  : Met l yX1_walkersAboard wsX1_walkersAboard ({ frames := 2, cells := 0, slots := 0, locals := 42 }) (PW D cI cS ad R F [.ref (ad 0)]) (QS (xX1_walkersAboard R F)) 0 0 (fun _ => False) := by
  refine Met.ofW (cc := cX1_walkersAboard) (maxL := 3) (ret := (some .int)) (by decide) rfl ?_
  intro p e s m args below meth c s₁ B hml hv
  obtain ⟨rfl, hP, hK⟩ := hv
  have hx := B.exec
  have hb := B.bytes
  have hr := B.returns
  have hts := atoms_spec (ws := wsX1_walkersAboard) B.pre
  have hown : s.vm.findClass RX1 = some m.cls := findClass_of_methodNamed B.named
  have hlocks := B.notSynchronized
  have hS : va_S (AA ad) s.heap s.heap [] := va_S.rf
  have hl := lv_entry ([.ref (ad 0)]) (n := 3) (Nat.le_of_ble_eq_true rfl)
  rw [lg_entry_eq]
  generalize (lg_sl ([.ref (ad 0)]) ++ List.replicate (3 - (lg_sl ([.ref (ad 0)])).length) Slot.unset).toArray = ls at hl ⊢
  have hl : lv_has ls 3 [(0, .ref (ad 0))] := hl
  refine lv_iconst (v := 0) hx hb dX1_walkersAboard_0 (by decide) ?_
  refine lv_istore_n (lv' := [(1, .int (0 : Int32)), (0, .ref (ad 0))]) hx hb dX1_walkersAboard_1 rfl hl (by decide) rfl (fun ls hl => ?_)
  refine lv_iconst (v := 0) hx hb dX1_walkersAboard_2 (by decide) ?_
  refine lv_istore_n (lv' := [(2, .int (0 : Int32)), (1, .int (0 : Int32)), (0, .ref (ad 0))]) hx hb dX1_walkersAboard_3 rfl hl (by decide) rfl (fun ls hl => ?_)
  refine q_loop (fun nn H locs ls => ∃ (k : Nat) (x1 : Int32), k + nn = 8 ∧ hX1_walkersAboard_4 R F nn k x1 = (xX1_walkersAboard R F) ∧ WP D cI cS ad R F H ∧ locs = [] ∧ H = s.heap ∧ lv_has ls 3 [(2, .int (nI k)), (1, .int x1), (0, .ref (ad 0))]) 8 ⟨0, (0 : Int32), by omega, by unfold xX1_walkersAboard; rfl, hP, rfl, rfl, lv_sub hl [0, 1, 2] rfl⟩ ?_ ?_
  · intro H locs ls hz
    obtain ⟨k, x1, hkn, hsp, hP, rfl, rfl, hl⟩ := hz
    refine lv_iload_n hx hb dX1_walkersAboard_4 rfl (lv_at hl 0 rfl) ?_
    refine lv_bipush (v := 8) hx hb dX1_walkersAboard_5 (by decide) ?_
    refine lv_icmp_ge (tgt := 27) hx hb dX1_walkersAboard_7 (by decide) (fun c_7 => ?_) (fun c_7 => ?_)
    · refine lv_iload_n hx hb dX1_walkersAboard_27 rfl (lv_at hl 1 rfl) ?_
      have hX : (xX1_walkersAboard R F) = x1 := by rw [← hsp, hX1_walkersAboard_4_z]
      exact W.iret (v := x1) hx hb hr (fun t ht hW => ⟨by rw [hX], ht⟩) (fun _ h => by cases h) dX1_walkersAboard_28
    · exact absurd (nI_le (a := 8) (b := k) (by omega) (by omega)) c_7
  · intro n ih H locs ls hz
    obtain ⟨k, x1, hkn, hsp, hP, rfl, rfl, hl⟩ := hz
    refine lv_iload_n hx hb dX1_walkersAboard_4 rfl (lv_at hl 0 rfl) ?_
    refine lv_bipush (v := 8) hx hb dX1_walkersAboard_5 (by decide) ?_
    refine lv_icmp_ge (tgt := 27) hx hb dX1_walkersAboard_7 (by decide) (fun c_7 => ?_) (fun c_7 => ?_)
    · exact absurd c_7 (nI_ge (a := k) (b := 8) (by omega) (by omega))
    · refine lv_aload_n hx hb dX1_walkersAboard_10 rfl (lv_at hl 2 rfl) ?_
      refine lv_iload_n hx hb dX1_walkersAboard_11 rfl (lv_at hl 0 rfl) ?_
      refine q_callS (va_runV (As := [.int (nI k)]) (rest := []) ⟨hx, hb, hml, hown, hts⟩ (mX1_isAboard l D cI cS ad hI R F (nI k)) (cwV 1 hts gX1_walkersAboard_X1_isAboard rfl rfl rfl (by decide +kernel) ⟨Nat.le_of_ble_eq_true rfl, Nat.le_of_ble_eq_true rfl⟩) (PW_preV (i := 0) (by decide) CC_0 rfl rfl hK hP) rfl rfl hl.1 rfl (lv_room (Nat.le_of_ble_eq_true rfl)) dX1_walkersAboard_12 ⟨Nat.zero_le _, Nat.zero_le _⟩) ?_
      refine lv_if_eq (tgt := 21) hx hb dX1_walkersAboard_15 (by decide) (fun c_15 => ?_) (fun c_15 => ?_)
      · refine lv_iinc (v := (nI (k + 1))) (lv' := [(2, .int (nI (k + 1))), (1, .int x1), (0, .ref (ad 0))]) hx hb dX1_walkersAboard_21 hl (k := 0) rfl (nI_1 k) (by decide) rfl (fun ls hl => ?_)
        refine lv_goto (tgt := 4) hx hb dX1_walkersAboard_24 (by decide) ?_
        exact ih _ _ _ ⟨(k + 1), x1, by omega, by rw [← hsp, hX1_walkersAboard_4_s, if_pos c_15], hP, rfl, rfl, lv_sub hl [0, 1, 2] rfl⟩
      · refine lv_iinc (v := (x1 + (1 : Int32))) (lv' := [(1, .int (x1 + (1 : Int32))), (2, .int (nI k)), (0, .ref (ad 0))]) hx hb dX1_walkersAboard_18 hl (k := 1) rfl rfl (by decide) rfl (fun ls hl => ?_)
        refine lv_iinc (v := (nI (k + 1))) (lv' := [(2, .int (nI (k + 1))), (1, .int (x1 + (1 : Int32))), (0, .ref (ad 0))]) hx hb dX1_walkersAboard_21 hl (k := 1) rfl (nI_1 k) (by decide) rfl (fun ls hl => ?_)
        refine lv_goto (tgt := 4) hx hb dX1_walkersAboard_24 (by decide) ?_
        exact ih _ _ _ ⟨(k + 1), (x1 + (1 : Int32)), by omega, by rw [← hsp, hX1_walkersAboard_4_s, if_neg c_15], hP, rfl, rfl, lv_sub hl [0, 1, 2] rfl⟩

def hX1_walkersMisplaced_4 (R F : Nat → Nat → Int32) : Nat → Nat → Int32 → Int32
  | 0, k, x1 => x1
  | n + 1, k, x1 => (if (R 7 k) = (R 9 k) then (hX1_walkersMisplaced_4 R F n (k + 1) x1) else (hX1_walkersMisplaced_4 R F n (k + 1) (x1 + (1 : Int32))))
theorem hX1_walkersMisplaced_4_z (R F : Nat → Nat → Int32) (k : Nat) (x1 : Int32) : hX1_walkersMisplaced_4 R F 0 k x1 = x1 := rfl
theorem hX1_walkersMisplaced_4_s (R F : Nat → Nat → Int32) (n : Nat) (k : Nat) (x1 : Int32) : hX1_walkersMisplaced_4 R F (n + 1) k x1 = (if (R 7 k) = (R 9 k) then (hX1_walkersMisplaced_4 R F n (k + 1) x1) else (hX1_walkersMisplaced_4 R F n (k + 1) (x1 + (1 : Int32)))) := rfl
def xX1_walkersMisplaced (R F : Nat → Nat → Int32) : Int32 :=
  (hX1_walkersMisplaced_4 R F 8 0 (0 : Int32))
set_option maxHeartbeats 4000000 in
set_option maxRecDepth 100000 in
theorem mX1_walkersMisplaced (l : Launch) (D : va_G) (cI cS : ClassId) (ad : Nat → Nat) (hI : Inj ad) (R F : Nat → Nat → Int32)  : Met l yX1_walkersMisplaced wsX1_walkersMisplaced ({ frames := 0, cells := 0, slots := 0, locals := 0 }) (PW D cI cS ad R F [.ref (ad 0)]) (QS (xX1_walkersMisplaced R F)) 0 0 (fun _ => False) := by
  refine Met.ofW (cc := cX1_walkersMisplaced) (maxL := 3) (ret := (some .int)) (by decide) rfl ?_
  intro p e s m args below meth c s₁ B hml hv
  obtain ⟨rfl, hP, hK⟩ := hv
  have hx := B.exec
  have hb := B.bytes
  have hr := B.returns
  have hts := atoms_spec (ws := wsX1_walkersMisplaced) B.pre
  have hown : s.vm.findClass RX1 = some m.cls := findClass_of_methodNamed B.named
  have hlocks := B.notSynchronized
  have hS : va_S (AA ad) s.heap s.heap [] := va_S.rf
  have hl := lv_entry ([.ref (ad 0)]) (n := 3) (Nat.le_of_ble_eq_true rfl)
  rw [lg_entry_eq]
  generalize (lg_sl ([.ref (ad 0)]) ++ List.replicate (3 - (lg_sl ([.ref (ad 0)])).length) Slot.unset).toArray = ls at hl ⊢
  have hl : lv_has ls 3 [(0, .ref (ad 0))] := hl
  have lk10 := hts (.fieldLink RX1 10 "FerryFloor" "now" "LFerryFloor$State;") (by decide +kernel)
  have lk71 := hts (.fieldLink RX1 71 "FerryFloor$State" "places" "[I") (by decide +kernel)
  have lk89 := hts (.fieldLink RX1 89 "FerryFloor$State" "bookPlaces" "[I") (by decide +kernel)
  have hin1 : ∀ w ∈ u_ws RX1 TX1 7, w ∈ wsX1_walkersMisplaced := by decide +kernel
  have hin0 : ∀ w ∈ u_ws RX0 TX0 15, w ∈ wsX1_walkersMisplaced := by decide +kernel
  refine lv_iconst (v := 0) hx hb dX1_walkersMisplaced_0 (by decide) ?_
  refine lv_istore_n (lv' := [(1, .int (0 : Int32)), (0, .ref (ad 0))]) hx hb dX1_walkersMisplaced_1 rfl hl (by decide) rfl (fun ls hl => ?_)
  refine lv_iconst (v := 0) hx hb dX1_walkersMisplaced_2 (by decide) ?_
  refine lv_istore_n (lv' := [(2, .int (0 : Int32)), (1, .int (0 : Int32)), (0, .ref (ad 0))]) hx hb dX1_walkersMisplaced_3 rfl hl (by decide) rfl (fun ls hl => ?_)
  refine q_loop (fun nn H locs ls => ∃ (k : Nat) (x1 : Int32), k + nn = 8 ∧ hX1_walkersMisplaced_4 R F nn k x1 = (xX1_walkersMisplaced R F) ∧ WP D cI cS ad R F H ∧ locs = [] ∧ H = s.heap ∧ lv_has ls 3 [(2, .int (nI k)), (1, .int x1), (0, .ref (ad 0))]) 8 ⟨0, (0 : Int32), by omega, by unfold xX1_walkersMisplaced; rfl, hP, rfl, rfl, lv_sub hl [0, 1, 2] rfl⟩ ?_ ?_
  · intro H locs ls hz
    obtain ⟨k, x1, hkn, hsp, hP, rfl, rfl, hl⟩ := hz
    refine lv_iload_n hx hb dX1_walkersMisplaced_4 rfl (lv_at hl 0 rfl) ?_
    refine lv_bipush (v := 8) hx hb dX1_walkersMisplaced_5 (by decide) ?_
    refine lv_icmp_ge (tgt := 40) hx hb dX1_walkersMisplaced_7 (by decide) (fun c_7 => ?_) (fun c_7 => ?_)
    · refine lv_iload_n hx hb dX1_walkersMisplaced_40 rfl (lv_at hl 1 rfl) ?_
      have hX : (xX1_walkersMisplaced R F) = x1 := by rw [← hsp, hX1_walkersMisplaced_4_z]
      exact W.iret (v := x1) hx hb hr (fun t ht hW => ⟨by rw [hX], ht⟩) (fun _ h => by cases h) dX1_walkersMisplaced_41
    · exact absurd (nI_le (a := 8) (b := k) (by omega) (by omega)) c_7
  · intro n ih H locs ls hz
    obtain ⟨k, x1, hkn, hsp, hP, rfl, rfl, hl⟩ := hz
    refine lv_iload_n hx hb dX1_walkersMisplaced_4 rfl (lv_at hl 0 rfl) ?_
    refine lv_bipush (v := 8) hx hb dX1_walkersMisplaced_5 (by decide) ?_
    refine lv_icmp_ge (tgt := 40) hx hb dX1_walkersMisplaced_7 (by decide) (fun c_7 => ?_) (fun c_7 => ?_)
    · exact absurd c_7 (nI_ge (a := k) (b := 8) (by omega) (by omega))
    · refine lv_aload_n hx hb dX1_walkersMisplaced_10 rfl (lv_at hl 2 rfl) ?_
      refine q_getF (v := .ref (ad 1)) hx hb hts hin1 hown hK hP 0 (by decide) lk10 (fun _ h => h) rfl dX1_walkersMisplaced_11 ?_
      refine q_getS (v := .ref (ad 7)) hx hb hts hin0 hown hK hP 1 st_1 8 (by decide) lk71 (fun _ h => h) rfl dX1_walkersMisplaced_14 ?_
      refine lv_iload_n hx hb dX1_walkersMisplaced_17 rfl (lv_at hl 0 rfl) ?_
      refine q_ildN hx hb hK hP 7 8 (ar_7) k dX1_walkersMisplaced_18 rfl (by omega) (by decide) ?_
      refine lv_aload_n hx hb dX1_walkersMisplaced_19 rfl (lv_at hl 2 rfl) ?_
      refine q_getF (v := .ref (ad 1)) hx hb hts hin1 hown hK hP 0 (by decide) lk10 (fun _ h => h) rfl dX1_walkersMisplaced_20 ?_
      refine q_getS (v := .ref (ad 9)) hx hb hts hin0 hown hK hP 1 st_1 10 (by decide) lk89 (fun _ h => h) rfl dX1_walkersMisplaced_23 ?_
      refine lv_iload_n hx hb dX1_walkersMisplaced_26 rfl (lv_at hl 0 rfl) ?_
      refine q_ildN hx hb hK hP 9 8 (ar_9) k dX1_walkersMisplaced_27 rfl (by omega) (by decide) ?_
      refine lv_icmp_eq (tgt := 34) hx hb dX1_walkersMisplaced_28 (by decide) (fun c_28 => ?_) (fun c_28 => ?_)
      · refine lv_iinc (v := (nI (k + 1))) (lv' := [(2, .int (nI (k + 1))), (1, .int x1), (0, .ref (ad 0))]) hx hb dX1_walkersMisplaced_34 hl (k := 0) rfl (nI_1 k) (by decide) rfl (fun ls hl => ?_)
        refine lv_goto (tgt := 4) hx hb dX1_walkersMisplaced_37 (by decide) ?_
        exact ih _ _ _ ⟨(k + 1), x1, by omega, by rw [← hsp, hX1_walkersMisplaced_4_s, if_pos c_28], hP, rfl, rfl, lv_sub hl [0, 1, 2] rfl⟩
      · refine lv_iinc (v := (x1 + (1 : Int32))) (lv' := [(1, .int (x1 + (1 : Int32))), (2, .int (nI k)), (0, .ref (ad 0))]) hx hb dX1_walkersMisplaced_31 hl (k := 1) rfl rfl (by decide) rfl (fun ls hl => ?_)
        refine lv_iinc (v := (nI (k + 1))) (lv' := [(2, .int (nI (k + 1))), (1, .int (x1 + (1 : Int32))), (0, .ref (ad 0))]) hx hb dX1_walkersMisplaced_34 hl (k := 1) rfl (nI_1 k) (by decide) rfl (fun ls hl => ?_)
        refine lv_goto (tgt := 4) hx hb dX1_walkersMisplaced_37 (by decide) ?_
        exact ih _ _ _ ⟨(k + 1), (x1 + (1 : Int32)), by omega, by rw [← hsp, hX1_walkersMisplaced_4_s, if_neg c_28], hP, rfl, rfl, lv_sub hl [0, 1, 2] rfl⟩

def hX1_estimateFor_48 (R F : Nat → Nat → Int32) (p1 : Int32) : Nat → Nat → Int32 → Int32 × (Nat → Nat → Int32)
  | 0, k, x3 => ((if (0 : Int32) < x3 then x3 else (0 : Int32)), (xX1_expectAll (xX1_weighAll R F) F 9))
  | n + 1, k, x3 => (if (xX1_isCell (xX1_nearCell ((xX1_expectAll (xX1_weighAll R F) F 9) 9 (p1).toNatClampNeg) (nI k))) = (0 : Int32) then (hX1_estimateFor_48 R F p1 n (k + 1) x3) else (hX1_estimateFor_48 R F p1 n (k + 1) (x3 + (((xX1_expectAll (xX1_weighAll R F) F 9) 15 ((xX1_nearCell ((xX1_expectAll (xX1_weighAll R F) F 9) 9 (p1).toNatClampNeg) (nI k))).toNatClampNeg) - ((xX1_expectAll (xX1_weighAll R F) F 9) 16 ((xX1_nearCell ((xX1_expectAll (xX1_weighAll R F) F 9) 9 (p1).toNatClampNeg) (nI k))).toNatClampNeg)))))
theorem hX1_estimateFor_48_z (R F : Nat → Nat → Int32) (p1 : Int32) (k : Nat) (x3 : Int32) : hX1_estimateFor_48 R F p1 0 k x3 = ((if (0 : Int32) < x3 then x3 else (0 : Int32)), (xX1_expectAll (xX1_weighAll R F) F 9)) := rfl
theorem hX1_estimateFor_48_s (R F : Nat → Nat → Int32) (p1 : Int32) (n : Nat) (k : Nat) (x3 : Int32) : hX1_estimateFor_48 R F p1 (n + 1) k x3 = (if (xX1_isCell (xX1_nearCell ((xX1_expectAll (xX1_weighAll R F) F 9) 9 (p1).toNatClampNeg) (nI k))) = (0 : Int32) then (hX1_estimateFor_48 R F p1 n (k + 1) x3) else (hX1_estimateFor_48 R F p1 n (k + 1) (x3 + (((xX1_expectAll (xX1_weighAll R F) F 9) 15 ((xX1_nearCell ((xX1_expectAll (xX1_weighAll R F) F 9) 9 (p1).toNatClampNeg) (nI k))).toNatClampNeg) - ((xX1_expectAll (xX1_weighAll R F) F 9) 16 ((xX1_nearCell ((xX1_expectAll (xX1_weighAll R F) F 9) 9 (p1).toNatClampNeg) (nI k))).toNatClampNeg))))) := rfl
def xX1_estimateFor (R F : Nat → Nat → Int32) (p1 : Int32) : Int32 × (Nat → Nat → Int32) :=
  (if (xX1_isAboard R F p1) = (0 : Int32) then ((0 : Int32), R) else (hX1_estimateFor_48 R F p1 5 0 ((xX1_expectAll (xX1_weighAll R F) F 9) 8 (p1).toNatClampNeg)))
set_option maxHeartbeats 4000000 in
set_option maxRecDepth 100000 in
theorem mX1_estimateFor (l : Launch) (D : va_G) (cI cS : ClassId) (ad : Nat → Nat) (hI : Inj ad) (R F : Nat → Nat → Int32) (p1 : Int32) : Met l yX1_estimateFor wsX1_estimateFor ({ frames := 4, cells := 0, slots := 0, locals := 92 }) (PW D cI cS ad R F [.ref (ad 0), .int p1]) (QI D cI cS ad ((xX1_estimateFor R F p1).1) ((xX1_estimateFor R F p1).2) F) 0 0 (AA ad) := by
  refine Met.ofW (cc := cX1_estimateFor) (maxL := 6) (ret := (some .int)) (by decide) rfl ?_
  intro p e s m args below meth c s₁ B hml hv
  obtain ⟨rfl, hP, hK⟩ := hv
  have hx := B.exec
  have hb := B.bytes
  have hr := B.returns
  have hts := atoms_spec (ws := wsX1_estimateFor) B.pre
  have hown : s.vm.findClass RX1 = some m.cls := findClass_of_methodNamed B.named
  have hlocks := B.notSynchronized
  have hS : va_S (AA ad) s.heap s.heap [] := va_S.rf
  have hl := lv_entry ([.ref (ad 0), .int p1]) (n := 6) (Nat.le_of_ble_eq_true rfl)
  rw [lg_entry_eq]
  generalize (lg_sl ([.ref (ad 0), .int p1]) ++ List.replicate (6 - (lg_sl ([.ref (ad 0), .int p1])).length) Slot.unset).toArray = ls at hl ⊢
  have hl : lv_has ls 6 [(0, .ref (ad 0)), (1, .int p1)] := hl
  have lk10 := hts (.fieldLink RX1 10 "FerryFloor" "now" "LFerryFloor$State;") (by decide +kernel)
  have lk89 := hts (.fieldLink RX1 89 "FerryFloor$State" "bookPlaces" "[I") (by decide +kernel)
  have lk86 := hts (.fieldLink RX1 86 "FerryFloor$State" "bookWeights" "[I") (by decide +kernel)
  have lk27 := hts (.fieldLink RX1 27 "FerryFloor" "readings" "[I") (by decide +kernel)
  have lk31 := hts (.fieldLink RX1 31 "FerryFloor" "expected" "[I") (by decide +kernel)
  have hin1 : ∀ w ∈ u_ws RX1 TX1 7, w ∈ wsX1_estimateFor := by decide +kernel
  have hin0 : ∀ w ∈ u_ws RX0 TX0 15, w ∈ wsX1_estimateFor := by decide +kernel
  refine lv_aload_n hx hb dX1_estimateFor_0 rfl (lv_at hl 0 rfl) ?_
  refine lv_iload_n hx hb dX1_estimateFor_1 rfl (lv_at hl 1 rfl) ?_
  refine q_callS (va_runV (As := [.int p1]) (rest := []) ⟨hx, hb, hml, hown, hts⟩ (mX1_isAboard l D cI cS ad hI R F p1) (cwV 1 hts gX1_estimateFor_X1_isAboard rfl rfl rfl (by decide +kernel) ⟨Nat.le_of_ble_eq_true rfl, Nat.le_of_ble_eq_true rfl⟩) (PW_preV (i := 0) (by decide) CC_0 rfl rfl hK hP) rfl rfl hl.1 rfl (lv_room (Nat.le_of_ble_eq_true rfl)) dX1_estimateFor_2 ⟨Nat.zero_le _, Nat.zero_le _⟩) ?_
  refine lv_if_ne (tgt := 10) hx hb dX1_estimateFor_5 (by decide) (fun c_5 => ?_) (fun c_5 => ?_)
  · refine lv_aload_n hx hb dX1_estimateFor_10 rfl (lv_at hl 0 rfl) ?_
    refine q_callV (va_runV (As := []) (rest := []) ⟨hx, hb, hml, hown, hts⟩ (mX1_weighAll l D cI cS ad hI R F) (cwV 0 hts gX1_estimateFor_X1_weighAll rfl rfl rfl (by decide +kernel) ⟨Nat.le_of_ble_eq_true rfl, Nat.le_of_ble_eq_true rfl⟩) (PW_preV (i := 0) (by decide) CC_0 rfl rfl hK hP) rfl rfl hl.1 rfl (lv_room (Nat.le_of_ble_eq_true rfl)) dX1_estimateFor_11 ⟨Nat.zero_le _, Nat.zero_le _⟩) hS (fun H locs hP hS => ?_)
    refine lv_aload_n hx hb dX1_estimateFor_14 rfl (lv_at hl 0 rfl) ?_
    refine lv_aload_n hx hb dX1_estimateFor_15 rfl (lv_at hl 0 rfl) ?_
    refine q_getF (v := .ref (ad 1)) hx hb hts hin1 hown hK hP 0 (by decide) lk10 (fun _ h => h) rfl dX1_estimateFor_16 ?_
    refine q_getS (v := .ref (ad 9)) hx hb hts hin0 hown hK hP 1 st_1 10 (by decide) lk89 (fun _ h => h) rfl dX1_estimateFor_19 ?_
    refine q_callV (va_runV (As := [.ref (ad 9)]) (rest := []) ⟨hx, hb, hml, hown, hts⟩ (mX1_expectAll l D cI cS ad hI (xX1_weighAll R F) F 9 (ar_9)) (cwV 1 hts gX1_estimateFor_X1_expectAll rfl rfl rfl (by decide +kernel) ⟨Nat.le_of_ble_eq_true rfl, Nat.le_of_ble_eq_true rfl⟩) (PW_preV (i := 0) (by decide) CC_0 rfl rfl hK hP) rfl rfl hl.1 rfl (lv_room (Nat.le_of_ble_eq_true rfl)) dX1_estimateFor_22 ⟨Nat.zero_le _, Nat.zero_le _⟩) hS (fun H locs hP hS => ?_)
    refine lv_aload_n hx hb dX1_estimateFor_25 rfl (lv_at hl 0 rfl) ?_
    refine q_getF (v := .ref (ad 1)) hx hb hts hin1 hown hK hP 0 (by decide) lk10 (fun _ h => h) rfl dX1_estimateFor_26 ?_
    refine q_getS (v := .ref (ad 9)) hx hb hts hin0 hown hK hP 1 st_1 10 (by decide) lk89 (fun _ h => h) rfl dX1_estimateFor_29 ?_
    refine lv_iload_n hx hb dX1_estimateFor_32 rfl (lv_at hl 1 rfl) ?_
    refine q_ild hx hb hK hP 9 8 (ar_9) dX1_estimateFor_33 (by first | assumption | exact isCell_in (by assumption) | exact isWalker_in (by assumption) | exact isAboard_in (by assumption) | exact isPair_in1 (by assumption) | exact isPair_in2 (by assumption) | exact isWithin7_in (by assumption) | exact vp_in_nI (by omega) (by decide)) ?_
    refine lv_istore_n (lv' := [(2, .int ((xX1_expectAll (xX1_weighAll R F) F 9) 9 (p1).toNatClampNeg)), (0, .ref (ad 0)), (1, .int p1)]) hx hb dX1_estimateFor_34 rfl hl (by decide) rfl (fun ls hl => ?_)
    refine lv_aload_n hx hb dX1_estimateFor_35 rfl (lv_at hl 1 rfl) ?_
    refine q_getF (v := .ref (ad 1)) hx hb hts hin1 hown hK hP 0 (by decide) lk10 (fun _ h => h) rfl dX1_estimateFor_36 ?_
    refine q_getS (v := .ref (ad 8)) hx hb hts hin0 hown hK hP 1 st_1 9 (by decide) lk86 (fun _ h => h) rfl dX1_estimateFor_39 ?_
    refine lv_iload_n hx hb dX1_estimateFor_42 rfl (lv_at hl 2 rfl) ?_
    refine q_ild hx hb hK hP 8 8 (ar_8) dX1_estimateFor_43 (by first | assumption | exact isCell_in (by assumption) | exact isWalker_in (by assumption) | exact isAboard_in (by assumption) | exact isPair_in1 (by assumption) | exact isPair_in2 (by assumption) | exact isWithin7_in (by assumption) | exact vp_in_nI (by omega) (by decide)) ?_
    refine lv_istore_n (lv' := [(3, .int ((xX1_expectAll (xX1_weighAll R F) F 9) 8 (p1).toNatClampNeg)), (2, .int ((xX1_expectAll (xX1_weighAll R F) F 9) 9 (p1).toNatClampNeg)), (0, .ref (ad 0)), (1, .int p1)]) hx hb dX1_estimateFor_44 rfl hl (by decide) rfl (fun ls hl => ?_)
    refine lv_iconst (v := 0) hx hb dX1_estimateFor_45 (by decide) ?_
    refine lv_istore (lv' := [(4, .int (0 : Int32)), (3, .int ((xX1_expectAll (xX1_weighAll R F) F 9) 8 (p1).toNatClampNeg)), (2, .int ((xX1_expectAll (xX1_weighAll R F) F 9) 9 (p1).toNatClampNeg)), (0, .ref (ad 0)), (1, .int p1)]) hx hb dX1_estimateFor_46 hl (by decide) rfl (fun ls hl => ?_)
    refine q_loop (fun nn H locs ls => ∃ (k : Nat) (x3 : Int32), k + nn = 5 ∧ hX1_estimateFor_48 R F p1 nn k x3 = (xX1_estimateFor R F p1) ∧ WP D cI cS ad (xX1_expectAll (xX1_weighAll R F) F 9) F H ∧ va_S (AA ad) s.heap H locs ∧ lv_has ls 6 [(4, .int (nI k)), (3, .int x3), (2, .int ((xX1_expectAll (xX1_weighAll R F) F 9) 9 (p1).toNatClampNeg)), (0, .ref (ad 0)), (1, .int p1)]) 5 ⟨0, ((xX1_expectAll (xX1_weighAll R F) F 9) 8 (p1).toNatClampNeg), by omega, by unfold xX1_estimateFor; rw [if_neg c_5], hP, hS, lv_sub hl [0, 1, 2, 3, 4] rfl⟩ ?_ ?_
    · intro H locs ls hz
      obtain ⟨k, x3, hkn, hsp, hP, hS, hl⟩ := hz
      refine lv_iload hx hb dX1_estimateFor_48 (lv_at hl 0 rfl) ?_
      refine lv_iconst (v := 5) hx hb dX1_estimateFor_50 (by decide) ?_
      refine lv_icmp_ge (tgt := 94) hx hb dX1_estimateFor_51 (by decide) (fun c_51 => ?_) (fun c_51 => ?_)
      · refine lv_iconst (v := 0) hx hb dX1_estimateFor_94 (by decide) ?_
        refine lv_iload_n hx hb dX1_estimateFor_95 rfl (lv_at hl 1 rfl) ?_
        refine va_mmax hx hb (hml.trans hl.1.symm) hown (hts (.methodLink RX1 129 Lib.Math.max.name) (by decide +kernel)) (hts (.static Lib.Math.max.name) (by decide +kernel)) (hts (.initialized "java/lang/Math") (by decide +kernel)) (hts (.code Lib.Math.max.name Lib.Math.max.code 2 (some .int)) (by decide +kernel)) (Nat.le_of_ble_eq_true rfl) (Nat.le_of_ble_eq_true rfl) (Nat.zero_le _) (Nat.zero_le _) dX1_estimateFor_96 ?_
        have hX : (xX1_estimateFor R F p1) = ((if (0 : Int32) < x3 then x3 else (0 : Int32)), (xX1_expectAll (xX1_weighAll R F) F 9)) := by rw [← hsp, hX1_estimateFor_48_z]
        exact W.iret (v := (if (0 : Int32) < x3 then x3 else (0 : Int32))) hx hb hr (fun t ht hW => ⟨by rw [hX], by rw [hX, ht]; with_reducible exact hP, hS.F ht⟩) hS.2.2 dX1_estimateFor_99
      · exact absurd (nI_le (a := 5) (b := k) (by omega) (by omega)) c_51
    · intro n ih H locs ls hz
      obtain ⟨k, x3, hkn, hsp, hP, hS, hl⟩ := hz
      refine lv_iload hx hb dX1_estimateFor_48 (lv_at hl 0 rfl) ?_
      refine lv_iconst (v := 5) hx hb dX1_estimateFor_50 (by decide) ?_
      refine lv_icmp_ge (tgt := 94) hx hb dX1_estimateFor_51 (by decide) (fun c_51 => ?_) (fun c_51 => ?_)
      · exact absurd c_51 (nI_ge (a := k) (b := 5) (by omega) (by omega))
      · refine lv_iload_n hx hb dX1_estimateFor_54 rfl (lv_at hl 2 rfl) ?_
        refine lv_iload hx hb dX1_estimateFor_55 (lv_at hl 0 rfl) ?_
        refine q_callS (va_runS (As := [.int ((xX1_expectAll (xX1_weighAll R F) F 9) 9 (p1).toNatClampNeg), .int (nI k)]) (rest := []) ⟨hx, hb, hml, hown, hts⟩ (mX1_nearCell l D cI cS ad hI (xX1_expectAll (xX1_weighAll R F) F 9) F ((xX1_expectAll (xX1_weighAll R F) F 9) 9 (p1).toNatClampNeg) (nI k)) (va_cwS 2 hts gX1_estimateFor_X1_nearCell rfl rfl rfl (by decide +kernel) ⟨Nat.le_of_ble_eq_true rfl, Nat.le_of_ble_eq_true rfl⟩) (PW_preS hK hP) rfl rfl hl.1 rfl (lv_room (Nat.le_of_ble_eq_true rfl)) dX1_estimateFor_57 ⟨Nat.zero_le _, Nat.zero_le _⟩) ?_
        refine lv_istore (lv' := [(5, .int (xX1_nearCell ((xX1_expectAll (xX1_weighAll R F) F 9) 9 (p1).toNatClampNeg) (nI k))), (4, .int (nI k)), (3, .int x3), (2, .int ((xX1_expectAll (xX1_weighAll R F) F 9) 9 (p1).toNatClampNeg)), (0, .ref (ad 0)), (1, .int p1)]) hx hb dX1_estimateFor_60 hl (by decide) rfl (fun ls hl => ?_)
        refine lv_iload hx hb dX1_estimateFor_62 (lv_at hl 0 rfl) ?_
        refine q_callS (va_runS (As := [.int (xX1_nearCell ((xX1_expectAll (xX1_weighAll R F) F 9) 9 (p1).toNatClampNeg) (nI k))]) (rest := []) ⟨hx, hb, hml, hown, hts⟩ (mX1_isCell l D cI cS ad hI (xX1_expectAll (xX1_weighAll R F) F 9) F (xX1_nearCell ((xX1_expectAll (xX1_weighAll R F) F 9) 9 (p1).toNatClampNeg) (nI k))) (va_cwS 1 hts gX1_estimateFor_X1_isCell rfl rfl rfl (by decide +kernel) ⟨Nat.le_of_ble_eq_true rfl, Nat.le_of_ble_eq_true rfl⟩) (PW_preS hK hP) rfl rfl hl.1 rfl (lv_room (Nat.le_of_ble_eq_true rfl)) dX1_estimateFor_64 ⟨Nat.zero_le _, Nat.zero_le _⟩) ?_
        refine lv_if_eq (tgt := 88) hx hb dX1_estimateFor_67 (by decide) (fun c_67 => ?_) (fun c_67 => ?_)
        · refine lv_iinc (v := (nI (k + 1))) (lv' := [(4, .int (nI (k + 1))), (5, .int (xX1_nearCell ((xX1_expectAll (xX1_weighAll R F) F 9) 9 (p1).toNatClampNeg) (nI k))), (3, .int x3), (2, .int ((xX1_expectAll (xX1_weighAll R F) F 9) 9 (p1).toNatClampNeg)), (0, .ref (ad 0)), (1, .int p1)]) hx hb dX1_estimateFor_88 hl (k := 1) rfl (nI_1 k) (by decide) rfl (fun ls hl => ?_)
          refine lv_goto (tgt := 48) hx hb dX1_estimateFor_91 (by decide) ?_
          exact ih _ _ _ ⟨(k + 1), x3, by omega, by rw [← hsp, hX1_estimateFor_48_s, if_pos c_67], hP, hS, lv_sub hl [0, 2, 3, 4, 5] rfl⟩
        · refine lv_iload_n hx hb dX1_estimateFor_70 rfl (lv_at hl 2 rfl) ?_
          refine lv_aload_n hx hb dX1_estimateFor_71 rfl (lv_at hl 4 rfl) ?_
          refine q_getF (v := .ref (ad 15)) hx hb hts hin1 hown hK hP 4 (by decide) lk27 (fun _ h => h) rfl dX1_estimateFor_72 ?_
          refine lv_iload hx hb dX1_estimateFor_75 (lv_at hl 0 rfl) ?_
          refine q_ild hx hb hK hP 15 24 (ar_15) dX1_estimateFor_77 (by first | assumption | exact isCell_in (by assumption) | exact isWalker_in (by assumption) | exact isAboard_in (by assumption) | exact isPair_in1 (by assumption) | exact isPair_in2 (by assumption) | exact isWithin7_in (by assumption) | exact vp_in_nI (by omega) (by decide)) ?_
          refine lv_aload_n hx hb dX1_estimateFor_78 rfl (lv_at hl 4 rfl) ?_
          refine q_getF (v := .ref (ad 16)) hx hb hts hin1 hown hK hP 5 (by decide) lk31 (fun _ h => h) rfl dX1_estimateFor_79 ?_
          refine lv_iload hx hb dX1_estimateFor_82 (lv_at hl 0 rfl) ?_
          refine q_ild hx hb hK hP 16 24 (ar_16) dX1_estimateFor_84 (by first | assumption | exact isCell_in (by assumption) | exact isWalker_in (by assumption) | exact isAboard_in (by assumption) | exact isPair_in1 (by assumption) | exact isPair_in2 (by assumption) | exact isWithin7_in (by assumption) | exact vp_in_nI (by omega) (by decide)) ?_
          refine lv_isub hx hb dX1_estimateFor_85 ?_
          refine lv_iadd hx hb dX1_estimateFor_86 ?_
          refine lv_istore_n (lv' := [(3, .int (x3 + (((xX1_expectAll (xX1_weighAll R F) F 9) 15 ((xX1_nearCell ((xX1_expectAll (xX1_weighAll R F) F 9) 9 (p1).toNatClampNeg) (nI k))).toNatClampNeg) - ((xX1_expectAll (xX1_weighAll R F) F 9) 16 ((xX1_nearCell ((xX1_expectAll (xX1_weighAll R F) F 9) 9 (p1).toNatClampNeg) (nI k))).toNatClampNeg)))), (5, .int (xX1_nearCell ((xX1_expectAll (xX1_weighAll R F) F 9) 9 (p1).toNatClampNeg) (nI k))), (4, .int (nI k)), (2, .int ((xX1_expectAll (xX1_weighAll R F) F 9) 9 (p1).toNatClampNeg)), (0, .ref (ad 0)), (1, .int p1)]) hx hb dX1_estimateFor_87 rfl hl (by decide) rfl (fun ls hl => ?_)
          refine lv_iinc (v := (nI (k + 1))) (lv' := [(4, .int (nI (k + 1))), (3, .int (x3 + (((xX1_expectAll (xX1_weighAll R F) F 9) 15 ((xX1_nearCell ((xX1_expectAll (xX1_weighAll R F) F 9) 9 (p1).toNatClampNeg) (nI k))).toNatClampNeg) - ((xX1_expectAll (xX1_weighAll R F) F 9) 16 ((xX1_nearCell ((xX1_expectAll (xX1_weighAll R F) F 9) 9 (p1).toNatClampNeg) (nI k))).toNatClampNeg)))), (5, .int (xX1_nearCell ((xX1_expectAll (xX1_weighAll R F) F 9) 9 (p1).toNatClampNeg) (nI k))), (2, .int ((xX1_expectAll (xX1_weighAll R F) F 9) 9 (p1).toNatClampNeg)), (0, .ref (ad 0)), (1, .int p1)]) hx hb dX1_estimateFor_88 hl (k := 2) rfl (nI_1 k) (by decide) rfl (fun ls hl => ?_)
          refine lv_goto (tgt := 48) hx hb dX1_estimateFor_91 (by decide) ?_
          exact ih _ _ _ ⟨(k + 1), (x3 + (((xX1_expectAll (xX1_weighAll R F) F 9) 15 ((xX1_nearCell ((xX1_expectAll (xX1_weighAll R F) F 9) 9 (p1).toNatClampNeg) (nI k))).toNatClampNeg) - ((xX1_expectAll (xX1_weighAll R F) F 9) 16 ((xX1_nearCell ((xX1_expectAll (xX1_weighAll R F) F 9) 9 (p1).toNatClampNeg) (nI k))).toNatClampNeg))), by omega, by rw [← hsp, hX1_estimateFor_48_s, if_neg c_67], hP, hS, lv_sub hl [0, 1, 3, 4, 5] rfl⟩
  · refine lv_iconst (v := 0) hx hb dX1_estimateFor_8 (by decide) ?_
    have hX : (xX1_estimateFor R F p1) = ((0 : Int32), R) := by unfold xX1_estimateFor; rw [if_pos c_5]
    exact W.iret (v := (0 : Int32)) hx hb hr (fun t ht hW => ⟨by rw [hX], by rw [hX, ht]; with_reducible exact hP, hS.F ht⟩) hS.2.2 dX1_estimateFor_9

def xX1_certaintyFor (R F : Nat → Nat → Int32) (p1 : Int32) : Int32 :=
  (if (xX1_isAboard R F p1) = (0 : Int32) then (0 : Int32) else (if (0 : Int32) < ((100 : Int32) - (((5 : Int32) * ((F 1 0) - (xX1_earliestTare R F (R 9 (p1).toNatClampNeg)))) + ((10 : Int32) * (R 10 (p1).toNatClampNeg)))) then ((100 : Int32) - (((5 : Int32) * ((F 1 0) - (xX1_earliestTare R F (R 9 (p1).toNatClampNeg)))) + ((10 : Int32) * (R 10 (p1).toNatClampNeg)))) else (0 : Int32)))
set_option maxHeartbeats 4000000 in
set_option maxRecDepth 100000 in
theorem mX1_certaintyFor (l : Launch) (D : va_G) (cI cS : ClassId) (ad : Nat → Nat) (hI : Inj ad) (R F : Nat → Nat → Int32) (p1 : Int32) : Met l yX1_certaintyFor wsX1_certaintyFor ({ frames := 2, cells := 0, slots := 0, locals := 46 }) (PW D cI cS ad R F [.ref (ad 0), .int p1]) (QS (xX1_certaintyFor R F p1)) 0 0 (fun _ => False) := by
  refine Met.ofW (cc := cX1_certaintyFor) (maxL := 4) (ret := (some .int)) (by decide) rfl ?_
  intro p e s m args below meth c s₁ B hml hv
  obtain ⟨rfl, hP, hK⟩ := hv
  have hx := B.exec
  have hb := B.bytes
  have hr := B.returns
  have hts := atoms_spec (ws := wsX1_certaintyFor) B.pre
  have hown : s.vm.findClass RX1 = some m.cls := findClass_of_methodNamed B.named
  have hlocks := B.notSynchronized
  have hS : va_S (AA ad) s.heap s.heap [] := va_S.rf
  have hl := lv_entry ([.ref (ad 0), .int p1]) (n := 4) (Nat.le_of_ble_eq_true rfl)
  rw [lg_entry_eq]
  generalize (lg_sl ([.ref (ad 0), .int p1]) ++ List.replicate (4 - (lg_sl ([.ref (ad 0), .int p1])).length) Slot.unset).toArray = ls at hl ⊢
  have hl : lv_has ls 4 [(0, .ref (ad 0)), (1, .int p1)] := hl
  have lk10 := hts (.fieldLink RX1 10 "FerryFloor" "now" "LFerryFloor$State;") (by decide +kernel)
  have lk52 := hts (.fieldLink RX1 52 "FerryFloor$State" "minute" "I") (by decide +kernel)
  have lk89 := hts (.fieldLink RX1 89 "FerryFloor$State" "bookPlaces" "[I") (by decide +kernel)
  have lk113 := hts (.fieldLink RX1 113 "FerryFloor$State" "accusations" "[I") (by decide +kernel)
  have hin1 : ∀ w ∈ u_ws RX1 TX1 7, w ∈ wsX1_certaintyFor := by decide +kernel
  have hin0 : ∀ w ∈ u_ws RX0 TX0 15, w ∈ wsX1_certaintyFor := by decide +kernel
  refine lv_aload_n hx hb dX1_certaintyFor_0 rfl (lv_at hl 0 rfl) ?_
  refine lv_iload_n hx hb dX1_certaintyFor_1 rfl (lv_at hl 1 rfl) ?_
  refine q_callS (va_runV (As := [.int p1]) (rest := []) ⟨hx, hb, hml, hown, hts⟩ (mX1_isAboard l D cI cS ad hI R F p1) (cwV 1 hts gX1_certaintyFor_X1_isAboard rfl rfl rfl (by decide +kernel) ⟨Nat.le_of_ble_eq_true rfl, Nat.le_of_ble_eq_true rfl⟩) (PW_preV (i := 0) (by decide) CC_0 rfl rfl hK hP) rfl rfl hl.1 rfl (lv_room (Nat.le_of_ble_eq_true rfl)) dX1_certaintyFor_2 ⟨Nat.zero_le _, Nat.zero_le _⟩) ?_
  refine lv_if_ne (tgt := 10) hx hb dX1_certaintyFor_5 (by decide) (fun c_5 => ?_) (fun c_5 => ?_)
  · refine lv_aload_n hx hb dX1_certaintyFor_10 rfl (lv_at hl 0 rfl) ?_
    refine q_getF (v := .ref (ad 1)) hx hb hts hin1 hown hK hP 0 (by decide) lk10 (fun _ h => h) rfl dX1_certaintyFor_11 ?_
    refine q_getS (v := .int (F 1 0)) hx hb hts hin0 hown hK hP 1 st_1 0 (by decide) lk52 (fun _ h => h) rfl dX1_certaintyFor_14 ?_
    refine lv_aload_n hx hb dX1_certaintyFor_17 rfl (lv_at hl 0 rfl) ?_
    refine lv_aload_n hx hb dX1_certaintyFor_18 rfl (lv_at hl 0 rfl) ?_
    refine q_getF (v := .ref (ad 1)) hx hb hts hin1 hown hK hP 0 (by decide) lk10 (fun _ h => h) rfl dX1_certaintyFor_19 ?_
    refine q_getS (v := .ref (ad 9)) hx hb hts hin0 hown hK hP 1 st_1 10 (by decide) lk89 (fun _ h => h) rfl dX1_certaintyFor_22 ?_
    refine lv_iload_n hx hb dX1_certaintyFor_25 rfl (lv_at hl 1 rfl) ?_
    refine q_ild hx hb hK hP 9 8 (ar_9) dX1_certaintyFor_26 (by first | assumption | exact isCell_in (by assumption) | exact isWalker_in (by assumption) | exact isAboard_in (by assumption) | exact isPair_in1 (by assumption) | exact isPair_in2 (by assumption) | exact isWithin7_in (by assumption) | exact vp_in_nI (by omega) (by decide)) ?_
    refine q_callS (va_runV (As := [.int (R 9 (p1).toNatClampNeg)]) (rest := [.int (F 1 0)]) ⟨hx, hb, hml, hown, hts⟩ (mX1_earliestTare l D cI cS ad hI R F (R 9 (p1).toNatClampNeg)) (cwV 1 hts gX1_certaintyFor_X1_earliestTare rfl rfl rfl (by decide +kernel) ⟨Nat.le_of_ble_eq_true rfl, Nat.le_of_ble_eq_true rfl⟩) (PW_preV (i := 0) (by decide) CC_0 rfl rfl hK hP) rfl rfl hl.1 rfl (lv_room (Nat.le_of_ble_eq_true rfl)) dX1_certaintyFor_27 ⟨Nat.zero_le _, Nat.zero_le _⟩) ?_
    refine lv_isub hx hb dX1_certaintyFor_30 ?_
    refine lv_istore_n (lv' := [(2, .int ((F 1 0) - (xX1_earliestTare R F (R 9 (p1).toNatClampNeg)))), (0, .ref (ad 0)), (1, .int p1)]) hx hb dX1_certaintyFor_31 rfl hl (by decide) rfl (fun ls hl => ?_)
    refine lv_iconst (v := 5) hx hb dX1_certaintyFor_32 (by decide) ?_
    refine lv_iload_n hx hb dX1_certaintyFor_33 rfl (lv_at hl 0 rfl) ?_
    refine lv_imul hx hb dX1_certaintyFor_34 ?_
    refine lv_bipush (v := 10) hx hb dX1_certaintyFor_35 (by decide) ?_
    refine lv_aload_n hx hb dX1_certaintyFor_37 rfl (lv_at hl 1 rfl) ?_
    refine q_getF (v := .ref (ad 1)) hx hb hts hin1 hown hK hP 0 (by decide) lk10 (fun _ h => h) rfl dX1_certaintyFor_38 ?_
    refine q_getS (v := .ref (ad 10)) hx hb hts hin0 hown hK hP 1 st_1 11 (by decide) lk113 (fun _ h => h) rfl dX1_certaintyFor_41 ?_
    refine lv_iload_n hx hb dX1_certaintyFor_44 rfl (lv_at hl 2 rfl) ?_
    refine q_ild hx hb hK hP 10 8 (ar_10) dX1_certaintyFor_45 (by first | assumption | exact isCell_in (by assumption) | exact isWalker_in (by assumption) | exact isAboard_in (by assumption) | exact isPair_in1 (by assumption) | exact isPair_in2 (by assumption) | exact isWithin7_in (by assumption) | exact vp_in_nI (by omega) (by decide)) ?_
    refine lv_imul hx hb dX1_certaintyFor_46 ?_
    refine lv_iadd hx hb dX1_certaintyFor_47 ?_
    refine lv_istore_n (lv' := [(3, .int (((5 : Int32) * ((F 1 0) - (xX1_earliestTare R F (R 9 (p1).toNatClampNeg)))) + ((10 : Int32) * (R 10 (p1).toNatClampNeg)))), (2, .int ((F 1 0) - (xX1_earliestTare R F (R 9 (p1).toNatClampNeg)))), (0, .ref (ad 0)), (1, .int p1)]) hx hb dX1_certaintyFor_48 rfl hl (by decide) rfl (fun ls hl => ?_)
    refine lv_iconst (v := 0) hx hb dX1_certaintyFor_49 (by decide) ?_
    refine lv_bipush (v := 100) hx hb dX1_certaintyFor_50 (by decide) ?_
    refine lv_iload_n hx hb dX1_certaintyFor_52 rfl (lv_at hl 0 rfl) ?_
    refine lv_isub hx hb dX1_certaintyFor_53 ?_
    refine va_mmax hx hb (hml.trans hl.1.symm) hown (hts (.methodLink RX1 129 Lib.Math.max.name) (by decide +kernel)) (hts (.static Lib.Math.max.name) (by decide +kernel)) (hts (.initialized "java/lang/Math") (by decide +kernel)) (hts (.code Lib.Math.max.name Lib.Math.max.code 2 (some .int)) (by decide +kernel)) (Nat.le_of_ble_eq_true rfl) (Nat.le_of_ble_eq_true rfl) (Nat.zero_le _) (Nat.zero_le _) dX1_certaintyFor_54 ?_
    have hX : (xX1_certaintyFor R F p1) = (if (0 : Int32) < ((100 : Int32) - (((5 : Int32) * ((F 1 0) - (xX1_earliestTare R F (R 9 (p1).toNatClampNeg)))) + ((10 : Int32) * (R 10 (p1).toNatClampNeg)))) then ((100 : Int32) - (((5 : Int32) * ((F 1 0) - (xX1_earliestTare R F (R 9 (p1).toNatClampNeg)))) + ((10 : Int32) * (R 10 (p1).toNatClampNeg)))) else (0 : Int32)) := by unfold xX1_certaintyFor; rw [if_neg c_5]
    exact W.iret (v := (if (0 : Int32) < ((100 : Int32) - (((5 : Int32) * ((F 1 0) - (xX1_earliestTare R F (R 9 (p1).toNatClampNeg)))) + ((10 : Int32) * (R 10 (p1).toNatClampNeg)))) then ((100 : Int32) - (((5 : Int32) * ((F 1 0) - (xX1_earliestTare R F (R 9 (p1).toNatClampNeg)))) + ((10 : Int32) * (R 10 (p1).toNatClampNeg)))) else (0 : Int32))) hx hb hr (fun t ht hW => ⟨by rw [hX], ht⟩) (fun _ h => by cases h) dX1_certaintyFor_57
  · refine lv_iconst (v := 0) hx hb dX1_certaintyFor_8 (by decide) ?_
    have hX : (xX1_certaintyFor R F p1) = (0 : Int32) := by unfold xX1_certaintyFor; rw [if_pos c_5]
    exact W.iret (v := (0 : Int32)) hx hb hr (fun t ht hW => ⟨by rw [hX], ht⟩) (fun _ h => by cases h) dX1_certaintyFor_9

def xX1_sumOfReadings (R F : Nat → Nat → Int32) : Int32 × (Nat → Nat → Int32) :=
  ((xX1_sumOf (xX1_weighAll R F) F 15), (xX1_weighAll R F))
set_option maxHeartbeats 4000000 in
set_option maxRecDepth 100000 in
theorem mX1_sumOfReadings (l : Launch) (D : va_G) (cI cS : ClassId) (ad : Nat → Nat) (hI : Inj ad) (R F : Nat → Nat → Int32)  : Met l yX1_sumOfReadings wsX1_sumOfReadings ({ frames := 4, cells := 0, slots := 0, locals := 91 }) (PW D cI cS ad R F [.ref (ad 0)]) (QI D cI cS ad ((xX1_sumOfReadings R F).1) ((xX1_sumOfReadings R F).2) F) 0 0 (AA ad) := by
  refine Met.ofW (cc := cX1_sumOfReadings) (maxL := 1) (ret := (some .int)) (by decide) rfl ?_
  intro p e s m args below meth c s₁ B hml hv
  obtain ⟨rfl, hP, hK⟩ := hv
  have hx := B.exec
  have hb := B.bytes
  have hr := B.returns
  have hts := atoms_spec (ws := wsX1_sumOfReadings) B.pre
  have hown : s.vm.findClass RX1 = some m.cls := findClass_of_methodNamed B.named
  have hlocks := B.notSynchronized
  have hS : va_S (AA ad) s.heap s.heap [] := va_S.rf
  have hl := lv_entry ([.ref (ad 0)]) (n := 1) (Nat.le_of_ble_eq_true rfl)
  rw [lg_entry_eq]
  generalize (lg_sl ([.ref (ad 0)]) ++ List.replicate (1 - (lg_sl ([.ref (ad 0)])).length) Slot.unset).toArray = ls at hl ⊢
  have hl : lv_has ls 1 [(0, .ref (ad 0))] := hl
  have lk27 := hts (.fieldLink RX1 27 "FerryFloor" "readings" "[I") (by decide +kernel)
  have hin1 : ∀ w ∈ u_ws RX1 TX1 7, w ∈ wsX1_sumOfReadings := by decide +kernel
  refine lv_aload_n hx hb dX1_sumOfReadings_0 rfl (lv_at hl 0 rfl) ?_
  refine q_callV (va_runV (As := []) (rest := []) ⟨hx, hb, hml, hown, hts⟩ (mX1_weighAll l D cI cS ad hI R F) (cwV 0 hts gX1_sumOfReadings_X1_weighAll rfl rfl rfl (by decide +kernel) ⟨Nat.le_of_ble_eq_true rfl, Nat.le_of_ble_eq_true rfl⟩) (PW_preV (i := 0) (by decide) CC_0 rfl rfl hK hP) rfl rfl hl.1 rfl (lv_room (Nat.le_of_ble_eq_true rfl)) dX1_sumOfReadings_1 ⟨Nat.zero_le _, Nat.zero_le _⟩) hS (fun H locs hP hS => ?_)
  refine lv_aload_n hx hb dX1_sumOfReadings_4 rfl (lv_at hl 0 rfl) ?_
  refine q_getF (v := .ref (ad 15)) hx hb hts hin1 hown hK hP 4 (by decide) lk27 (fun _ h => h) rfl dX1_sumOfReadings_5 ?_
  refine q_callS (va_runS (As := [.ref (ad 15)]) (rest := []) ⟨hx, hb, hml, hown, hts⟩ (mX1_sumOf l D cI cS ad hI (xX1_weighAll R F) F 15 (ar_15)) (va_cwS 1 hts gX1_sumOfReadings_X1_sumOf rfl rfl rfl (by decide +kernel) ⟨Nat.le_of_ble_eq_true rfl, Nat.le_of_ble_eq_true rfl⟩) (PW_preS hK hP) rfl rfl hl.1 rfl (lv_room (Nat.le_of_ble_eq_true rfl)) dX1_sumOfReadings_8 ⟨Nat.zero_le _, Nat.zero_le _⟩) ?_
  have hX : (xX1_sumOfReadings R F) = ((xX1_sumOf (xX1_weighAll R F) F 15), (xX1_weighAll R F)) := by unfold xX1_sumOfReadings; rfl
  exact W.iret (v := (xX1_sumOf (xX1_weighAll R F) F 15)) hx hb hr (fun t ht hW => ⟨by rw [hX], by rw [hX, ht]; with_reducible exact hP, hS.F ht⟩) hS.2.2 dX1_sumOfReadings_11

def hX1_kilogramsBilled_4 (R F : Nat → Nat → Int32) : Nat → Nat → Int32 → Int32
  | 0, k, x1 => x1
  | n + 1, k, x1 => (hX1_kilogramsBilled_4 R F n (k + 1) (x1 + ((xX1_orZero (R 11 k)) - (xX1_orZero (R 13 k)))))
theorem hX1_kilogramsBilled_4_z (R F : Nat → Nat → Int32) (k : Nat) (x1 : Int32) : hX1_kilogramsBilled_4 R F 0 k x1 = x1 := rfl
theorem hX1_kilogramsBilled_4_s (R F : Nat → Nat → Int32) (n : Nat) (k : Nat) (x1 : Int32) : hX1_kilogramsBilled_4 R F (n + 1) k x1 = (hX1_kilogramsBilled_4 R F n (k + 1) (x1 + ((xX1_orZero (R 11 k)) - (xX1_orZero (R 13 k))))) := rfl
def xX1_kilogramsBilled (R F : Nat → Nat → Int32) : Int32 :=
  (hX1_kilogramsBilled_4 R F 8 0 (0 : Int32))
set_option maxHeartbeats 4000000 in
set_option maxRecDepth 100000 in
theorem mX1_kilogramsBilled (l : Launch) (D : va_G) (cI cS : ClassId) (ad : Nat → Nat) (hI : Inj ad) (R F : Nat → Nat → Int32)  : Met l yX1_kilogramsBilled wsX1_kilogramsBilled ({ frames := 1, cells := 0, slots := 0, locals := 20 }) (PW D cI cS ad R F [.ref (ad 0)]) (QS (xX1_kilogramsBilled R F)) 0 0 (fun _ => False) := by
  refine Met.ofW (cc := cX1_kilogramsBilled) (maxL := 3) (ret := (some .int)) (by decide) rfl ?_
  intro p e s m args below meth c s₁ B hml hv
  obtain ⟨rfl, hP, hK⟩ := hv
  have hx := B.exec
  have hb := B.bytes
  have hr := B.returns
  have hts := atoms_spec (ws := wsX1_kilogramsBilled) B.pre
  have hown : s.vm.findClass RX1 = some m.cls := findClass_of_methodNamed B.named
  have hlocks := B.notSynchronized
  have hS : va_S (AA ad) s.heap s.heap [] := va_S.rf
  have hl := lv_entry ([.ref (ad 0)]) (n := 3) (Nat.le_of_ble_eq_true rfl)
  rw [lg_entry_eq]
  generalize (lg_sl ([.ref (ad 0)]) ++ List.replicate (3 - (lg_sl ([.ref (ad 0)])).length) Slot.unset).toArray = ls at hl ⊢
  have hl : lv_has ls 3 [(0, .ref (ad 0))] := hl
  have lk10 := hts (.fieldLink RX1 10 "FerryFloor" "now" "LFerryFloor$State;") (by decide +kernel)
  have lk116 := hts (.fieldLink RX1 116 "FerryFloor$State" "billKilograms" "[I") (by decide +kernel)
  have lk126 := hts (.fieldLink RX1 126 "FerryFloor$State" "backKilograms" "[I") (by decide +kernel)
  have hin1 : ∀ w ∈ u_ws RX1 TX1 7, w ∈ wsX1_kilogramsBilled := by decide +kernel
  have hin0 : ∀ w ∈ u_ws RX0 TX0 15, w ∈ wsX1_kilogramsBilled := by decide +kernel
  refine lv_iconst (v := 0) hx hb dX1_kilogramsBilled_0 (by decide) ?_
  refine lv_istore_n (lv' := [(1, .int (0 : Int32)), (0, .ref (ad 0))]) hx hb dX1_kilogramsBilled_1 rfl hl (by decide) rfl (fun ls hl => ?_)
  refine lv_iconst (v := 0) hx hb dX1_kilogramsBilled_2 (by decide) ?_
  refine lv_istore_n (lv' := [(2, .int (0 : Int32)), (1, .int (0 : Int32)), (0, .ref (ad 0))]) hx hb dX1_kilogramsBilled_3 rfl hl (by decide) rfl (fun ls hl => ?_)
  refine q_loop (fun nn H locs ls => ∃ (k : Nat) (x1 : Int32), k + nn = 8 ∧ hX1_kilogramsBilled_4 R F nn k x1 = (xX1_kilogramsBilled R F) ∧ WP D cI cS ad R F H ∧ locs = [] ∧ H = s.heap ∧ lv_has ls 3 [(2, .int (nI k)), (1, .int x1), (0, .ref (ad 0))]) 8 ⟨0, (0 : Int32), by omega, by unfold xX1_kilogramsBilled; rfl, hP, rfl, rfl, lv_sub hl [0, 1, 2] rfl⟩ ?_ ?_
  · intro H locs ls hz
    obtain ⟨k, x1, hkn, hsp, hP, rfl, rfl, hl⟩ := hz
    refine lv_iload_n hx hb dX1_kilogramsBilled_4 rfl (lv_at hl 0 rfl) ?_
    refine lv_bipush (v := 8) hx hb dX1_kilogramsBilled_5 (by decide) ?_
    refine lv_icmp_ge (tgt := 44) hx hb dX1_kilogramsBilled_7 (by decide) (fun c_7 => ?_) (fun c_7 => ?_)
    · refine lv_iload_n hx hb dX1_kilogramsBilled_44 rfl (lv_at hl 1 rfl) ?_
      have hX : (xX1_kilogramsBilled R F) = x1 := by rw [← hsp, hX1_kilogramsBilled_4_z]
      exact W.iret (v := x1) hx hb hr (fun t ht hW => ⟨by rw [hX], ht⟩) (fun _ h => by cases h) dX1_kilogramsBilled_45
    · exact absurd (nI_le (a := 8) (b := k) (by omega) (by omega)) c_7
  · intro n ih H locs ls hz
    obtain ⟨k, x1, hkn, hsp, hP, rfl, rfl, hl⟩ := hz
    refine lv_iload_n hx hb dX1_kilogramsBilled_4 rfl (lv_at hl 0 rfl) ?_
    refine lv_bipush (v := 8) hx hb dX1_kilogramsBilled_5 (by decide) ?_
    refine lv_icmp_ge (tgt := 44) hx hb dX1_kilogramsBilled_7 (by decide) (fun c_7 => ?_) (fun c_7 => ?_)
    · exact absurd c_7 (nI_ge (a := k) (b := 8) (by omega) (by omega))
    · refine lv_iload_n hx hb dX1_kilogramsBilled_10 rfl (lv_at hl 1 rfl) ?_
      refine lv_aload_n hx hb dX1_kilogramsBilled_11 rfl (lv_at hl 2 rfl) ?_
      refine q_getF (v := .ref (ad 1)) hx hb hts hin1 hown hK hP 0 (by decide) lk10 (fun _ h => h) rfl dX1_kilogramsBilled_12 ?_
      refine q_getS (v := .ref (ad 11)) hx hb hts hin0 hown hK hP 1 st_1 12 (by decide) lk116 (fun _ h => h) rfl dX1_kilogramsBilled_15 ?_
      refine lv_iload_n hx hb dX1_kilogramsBilled_18 rfl (lv_at hl 0 rfl) ?_
      refine q_ildN hx hb hK hP 11 8 (ar_11) k dX1_kilogramsBilled_19 rfl (by omega) (by decide) ?_
      refine q_callS (va_runS (As := [.int (R 11 k)]) (rest := [.int x1]) ⟨hx, hb, hml, hown, hts⟩ (mX1_orZero l D cI cS ad hI R F (R 11 k)) (va_cwS 1 hts gX1_kilogramsBilled_X1_orZero rfl rfl rfl (by decide +kernel) ⟨Nat.le_of_ble_eq_true rfl, Nat.le_of_ble_eq_true rfl⟩) (PW_preS hK hP) rfl rfl hl.1 rfl (lv_room (Nat.le_of_ble_eq_true rfl)) dX1_kilogramsBilled_20 ⟨Nat.zero_le _, Nat.zero_le _⟩) ?_
      refine lv_aload_n hx hb dX1_kilogramsBilled_23 rfl (lv_at hl 2 rfl) ?_
      refine q_getF (v := .ref (ad 1)) hx hb hts hin1 hown hK hP 0 (by decide) lk10 (fun _ h => h) rfl dX1_kilogramsBilled_24 ?_
      refine q_getS (v := .ref (ad 13)) hx hb hts hin0 hown hK hP 1 st_1 14 (by decide) lk126 (fun _ h => h) rfl dX1_kilogramsBilled_27 ?_
      refine lv_iload_n hx hb dX1_kilogramsBilled_30 rfl (lv_at hl 0 rfl) ?_
      refine q_ildN hx hb hK hP 13 8 (ar_13) k dX1_kilogramsBilled_31 rfl (by omega) (by decide) ?_
      refine q_callS (va_runS (As := [.int (R 13 k)]) (rest := [.int (xX1_orZero (R 11 k)), .int x1]) ⟨hx, hb, hml, hown, hts⟩ (mX1_orZero l D cI cS ad hI R F (R 13 k)) (va_cwS 1 hts gX1_kilogramsBilled_X1_orZero rfl rfl rfl (by decide +kernel) ⟨Nat.le_of_ble_eq_true rfl, Nat.le_of_ble_eq_true rfl⟩) (PW_preS hK hP) rfl rfl hl.1 rfl (lv_room (Nat.le_of_ble_eq_true rfl)) dX1_kilogramsBilled_32 ⟨Nat.zero_le _, Nat.zero_le _⟩) ?_
      refine lv_isub hx hb dX1_kilogramsBilled_35 ?_
      refine lv_iadd hx hb dX1_kilogramsBilled_36 ?_
      refine lv_istore_n (lv' := [(1, .int (x1 + ((xX1_orZero (R 11 k)) - (xX1_orZero (R 13 k))))), (2, .int (nI k)), (0, .ref (ad 0))]) hx hb dX1_kilogramsBilled_37 rfl hl (by decide) rfl (fun ls hl => ?_)
      refine lv_iinc (v := (nI (k + 1))) (lv' := [(2, .int (nI (k + 1))), (1, .int (x1 + ((xX1_orZero (R 11 k)) - (xX1_orZero (R 13 k))))), (0, .ref (ad 0))]) hx hb dX1_kilogramsBilled_38 hl (k := 1) rfl (nI_1 k) (by decide) rfl (fun ls hl => ?_)
      refine lv_goto (tgt := 4) hx hb dX1_kilogramsBilled_41 (by decide) ?_
      exact ih _ _ _ ⟨(k + 1), (x1 + ((xX1_orZero (R 11 k)) - (xX1_orZero (R 13 k)))), by omega, by rw [← hsp, hX1_kilogramsBilled_4_s], hP, rfl, rfl, lv_sub hl [0, 1, 2] rfl⟩

def xX1_kilogramsToBill (R F : Nat → Nat → Int32) (p1 : Int32) : Int32 × (Nat → Nat → Int32) :=
  ((if (0 : Int32) < (if ((((xX1_sumOfReadings ((xX1_estimateFor R F p1).2) F).1) - (xX1_sumOf ((xX1_sumOfReadings ((xX1_estimateFor R F p1).2) F).2) F 4)) - (xX1_kilogramsBilled ((xX1_sumOfReadings ((xX1_estimateFor R F p1).2) F).2) F)) < ((((xX1_estimateFor R F p1).1) * (xX1_certaintyFor ((xX1_estimateFor R F p1).2) F p1)) / (100 : Int32)) then ((((xX1_sumOfReadings ((xX1_estimateFor R F p1).2) F).1) - (xX1_sumOf ((xX1_sumOfReadings ((xX1_estimateFor R F p1).2) F).2) F 4)) - (xX1_kilogramsBilled ((xX1_sumOfReadings ((xX1_estimateFor R F p1).2) F).2) F)) else ((((xX1_estimateFor R F p1).1) * (xX1_certaintyFor ((xX1_estimateFor R F p1).2) F p1)) / (100 : Int32))) then (if ((((xX1_sumOfReadings ((xX1_estimateFor R F p1).2) F).1) - (xX1_sumOf ((xX1_sumOfReadings ((xX1_estimateFor R F p1).2) F).2) F 4)) - (xX1_kilogramsBilled ((xX1_sumOfReadings ((xX1_estimateFor R F p1).2) F).2) F)) < ((((xX1_estimateFor R F p1).1) * (xX1_certaintyFor ((xX1_estimateFor R F p1).2) F p1)) / (100 : Int32)) then ((((xX1_sumOfReadings ((xX1_estimateFor R F p1).2) F).1) - (xX1_sumOf ((xX1_sumOfReadings ((xX1_estimateFor R F p1).2) F).2) F 4)) - (xX1_kilogramsBilled ((xX1_sumOfReadings ((xX1_estimateFor R F p1).2) F).2) F)) else ((((xX1_estimateFor R F p1).1) * (xX1_certaintyFor ((xX1_estimateFor R F p1).2) F p1)) / (100 : Int32))) else (0 : Int32)), ((xX1_sumOfReadings ((xX1_estimateFor R F p1).2) F).2))
set_option maxHeartbeats 4000000 in
set_option maxRecDepth 100000 in
theorem mX1_kilogramsToBill (l : Launch) (D : va_G) (cI cS : ClassId) (ad : Nat → Nat) (hI : Inj ad) (R F : Nat → Nat → Int32) (p1 : Int32) : Met l yX1_kilogramsToBill wsX1_kilogramsToBill ({ frames := 5, cells := 0, slots := 0, locals := 117 }) (PW D cI cS ad R F [.ref (ad 0), .int p1]) (QI D cI cS ad ((xX1_kilogramsToBill R F p1).1) ((xX1_kilogramsToBill R F p1).2) F) 0 0 (AA ad) := by
  refine Met.ofW (cc := cX1_kilogramsToBill) (maxL := 4) (ret := (some .int)) (by decide) rfl ?_
  intro p e s m args below meth c s₁ B hml hv
  obtain ⟨rfl, hP, hK⟩ := hv
  have hx := B.exec
  have hb := B.bytes
  have hr := B.returns
  have hts := atoms_spec (ws := wsX1_kilogramsToBill) B.pre
  have hown : s.vm.findClass RX1 = some m.cls := findClass_of_methodNamed B.named
  have hlocks := B.notSynchronized
  have hS : va_S (AA ad) s.heap s.heap [] := va_S.rf
  have hl := lv_entry ([.ref (ad 0), .int p1]) (n := 4) (Nat.le_of_ble_eq_true rfl)
  rw [lg_entry_eq]
  generalize (lg_sl ([.ref (ad 0), .int p1]) ++ List.replicate (4 - (lg_sl ([.ref (ad 0), .int p1])).length) Slot.unset).toArray = ls at hl ⊢
  have hl : lv_has ls 4 [(0, .ref (ad 0)), (1, .int p1)] := hl
  have lk10 := hts (.fieldLink RX1 10 "FerryFloor" "now" "LFerryFloor$State;") (by decide +kernel)
  have lk62 := hts (.fieldLink RX1 62 "FerryFloor$State" "tares" "[I") (by decide +kernel)
  have hin1 : ∀ w ∈ u_ws RX1 TX1 7, w ∈ wsX1_kilogramsToBill := by decide +kernel
  have hin0 : ∀ w ∈ u_ws RX0 TX0 15, w ∈ wsX1_kilogramsToBill := by decide +kernel
  refine lv_aload_n hx hb dX1_kilogramsToBill_0 rfl (lv_at hl 0 rfl) ?_
  refine lv_iload_n hx hb dX1_kilogramsToBill_1 rfl (lv_at hl 1 rfl) ?_
  refine q_callI (va_runV (As := [.int p1]) (rest := []) ⟨hx, hb, hml, hown, hts⟩ (mX1_estimateFor l D cI cS ad hI R F p1) (cwV 1 hts gX1_kilogramsToBill_X1_estimateFor rfl rfl rfl (by decide +kernel) ⟨Nat.le_of_ble_eq_true rfl, Nat.le_of_ble_eq_true rfl⟩) (PW_preV (i := 0) (by decide) CC_0 rfl rfl hK hP) rfl rfl hl.1 rfl (lv_room (Nat.le_of_ble_eq_true rfl)) dX1_kilogramsToBill_2 ⟨Nat.zero_le _, Nat.zero_le _⟩) hS (fun H locs hP hS => ?_)
  refine lv_aload_n hx hb dX1_kilogramsToBill_5 rfl (lv_at hl 0 rfl) ?_
  refine lv_iload_n hx hb dX1_kilogramsToBill_6 rfl (lv_at hl 1 rfl) ?_
  refine q_callS (va_runV (As := [.int p1]) (rest := [.int ((xX1_estimateFor R F p1).1)]) ⟨hx, hb, hml, hown, hts⟩ (mX1_certaintyFor l D cI cS ad hI ((xX1_estimateFor R F p1).2) F p1) (cwV 1 hts gX1_kilogramsToBill_X1_certaintyFor rfl rfl rfl (by decide +kernel) ⟨Nat.le_of_ble_eq_true rfl, Nat.le_of_ble_eq_true rfl⟩) (PW_preV (i := 0) (by decide) CC_0 rfl rfl hK hP) rfl rfl hl.1 rfl (lv_room (Nat.le_of_ble_eq_true rfl)) dX1_kilogramsToBill_7 ⟨Nat.zero_le _, Nat.zero_le _⟩) ?_
  refine lv_imul hx hb dX1_kilogramsToBill_10 ?_
  refine lv_bipush (v := 100) hx hb dX1_kilogramsToBill_11 (by decide) ?_
  refine lv_idiv hx hb dX1_kilogramsToBill_13 (by decide) ?_
  refine lv_istore_n (lv' := [(2, .int ((((xX1_estimateFor R F p1).1) * (xX1_certaintyFor ((xX1_estimateFor R F p1).2) F p1)) / (100 : Int32))), (0, .ref (ad 0)), (1, .int p1)]) hx hb dX1_kilogramsToBill_14 rfl hl (by decide) rfl (fun ls hl => ?_)
  refine lv_aload_n hx hb dX1_kilogramsToBill_15 rfl (lv_at hl 1 rfl) ?_
  refine q_callI (va_runV (As := []) (rest := []) ⟨hx, hb, hml, hown, hts⟩ (mX1_sumOfReadings l D cI cS ad hI ((xX1_estimateFor R F p1).2) F) (cwV 0 hts gX1_kilogramsToBill_X1_sumOfReadings rfl rfl rfl (by decide +kernel) ⟨Nat.le_of_ble_eq_true rfl, Nat.le_of_ble_eq_true rfl⟩) (PW_preV (i := 0) (by decide) CC_0 rfl rfl hK hP) rfl rfl hl.1 rfl (lv_room (Nat.le_of_ble_eq_true rfl)) dX1_kilogramsToBill_16 ⟨Nat.zero_le _, Nat.zero_le _⟩) hS (fun H locs hP hS => ?_)
  refine lv_aload_n hx hb dX1_kilogramsToBill_19 rfl (lv_at hl 1 rfl) ?_
  refine q_getF (v := .ref (ad 1)) hx hb hts hin1 hown hK hP 0 (by decide) lk10 (fun _ h => h) rfl dX1_kilogramsToBill_20 ?_
  refine q_getS (v := .ref (ad 4)) hx hb hts hin0 hown hK hP 1 st_1 5 (by decide) lk62 (fun _ h => h) rfl dX1_kilogramsToBill_23 ?_
  refine q_callS (va_runS (As := [.ref (ad 4)]) (rest := [.int ((xX1_sumOfReadings ((xX1_estimateFor R F p1).2) F).1)]) ⟨hx, hb, hml, hown, hts⟩ (mX1_sumOf l D cI cS ad hI ((xX1_sumOfReadings ((xX1_estimateFor R F p1).2) F).2) F 4 (ar_4)) (va_cwS 1 hts gX1_kilogramsToBill_X1_sumOf rfl rfl rfl (by decide +kernel) ⟨Nat.le_of_ble_eq_true rfl, Nat.le_of_ble_eq_true rfl⟩) (PW_preS hK hP) rfl rfl hl.1 rfl (lv_room (Nat.le_of_ble_eq_true rfl)) dX1_kilogramsToBill_26 ⟨Nat.zero_le _, Nat.zero_le _⟩) ?_
  refine lv_isub hx hb dX1_kilogramsToBill_29 ?_
  refine lv_aload_n hx hb dX1_kilogramsToBill_30 rfl (lv_at hl 1 rfl) ?_
  refine q_callS (va_runV (As := []) (rest := [.int (((xX1_sumOfReadings ((xX1_estimateFor R F p1).2) F).1) - (xX1_sumOf ((xX1_sumOfReadings ((xX1_estimateFor R F p1).2) F).2) F 4))]) ⟨hx, hb, hml, hown, hts⟩ (mX1_kilogramsBilled l D cI cS ad hI ((xX1_sumOfReadings ((xX1_estimateFor R F p1).2) F).2) F) (cwV 0 hts gX1_kilogramsToBill_X1_kilogramsBilled rfl rfl rfl (by decide +kernel) ⟨Nat.le_of_ble_eq_true rfl, Nat.le_of_ble_eq_true rfl⟩) (PW_preV (i := 0) (by decide) CC_0 rfl rfl hK hP) rfl rfl hl.1 rfl (lv_room (Nat.le_of_ble_eq_true rfl)) dX1_kilogramsToBill_31 ⟨Nat.zero_le _, Nat.zero_le _⟩) ?_
  refine lv_isub hx hb dX1_kilogramsToBill_34 ?_
  refine lv_istore_n (lv' := [(3, .int ((((xX1_sumOfReadings ((xX1_estimateFor R F p1).2) F).1) - (xX1_sumOf ((xX1_sumOfReadings ((xX1_estimateFor R F p1).2) F).2) F 4)) - (xX1_kilogramsBilled ((xX1_sumOfReadings ((xX1_estimateFor R F p1).2) F).2) F))), (2, .int ((((xX1_estimateFor R F p1).1) * (xX1_certaintyFor ((xX1_estimateFor R F p1).2) F p1)) / (100 : Int32))), (0, .ref (ad 0)), (1, .int p1)]) hx hb dX1_kilogramsToBill_35 rfl hl (by decide) rfl (fun ls hl => ?_)
  refine lv_iconst (v := 0) hx hb dX1_kilogramsToBill_36 (by decide) ?_
  refine lv_iload_n hx hb dX1_kilogramsToBill_37 rfl (lv_at hl 1 rfl) ?_
  refine lv_iload_n hx hb dX1_kilogramsToBill_38 rfl (lv_at hl 0 rfl) ?_
  refine va_mmin hx hb (hml.trans hl.1.symm) hown (hts (.methodLink RX1 205 Lib.Math.min.name) (by decide +kernel)) (hts (.static Lib.Math.min.name) (by decide +kernel)) (hts (.initialized "java/lang/Math") (by decide +kernel)) (hts (.code Lib.Math.min.name Lib.Math.min.code 2 (some .int)) (by decide +kernel)) (Nat.le_of_ble_eq_true rfl) (Nat.le_of_ble_eq_true rfl) (Nat.zero_le _) (Nat.zero_le _) dX1_kilogramsToBill_39 ?_
  refine va_mmax hx hb (hml.trans hl.1.symm) hown (hts (.methodLink RX1 129 Lib.Math.max.name) (by decide +kernel)) (hts (.static Lib.Math.max.name) (by decide +kernel)) (hts (.initialized "java/lang/Math") (by decide +kernel)) (hts (.code Lib.Math.max.name Lib.Math.max.code 2 (some .int)) (by decide +kernel)) (Nat.le_of_ble_eq_true rfl) (Nat.le_of_ble_eq_true rfl) (Nat.zero_le _) (Nat.zero_le _) dX1_kilogramsToBill_42 ?_
  have hX : (xX1_kilogramsToBill R F p1) = ((if (0 : Int32) < (if ((((xX1_sumOfReadings ((xX1_estimateFor R F p1).2) F).1) - (xX1_sumOf ((xX1_sumOfReadings ((xX1_estimateFor R F p1).2) F).2) F 4)) - (xX1_kilogramsBilled ((xX1_sumOfReadings ((xX1_estimateFor R F p1).2) F).2) F)) < ((((xX1_estimateFor R F p1).1) * (xX1_certaintyFor ((xX1_estimateFor R F p1).2) F p1)) / (100 : Int32)) then ((((xX1_sumOfReadings ((xX1_estimateFor R F p1).2) F).1) - (xX1_sumOf ((xX1_sumOfReadings ((xX1_estimateFor R F p1).2) F).2) F 4)) - (xX1_kilogramsBilled ((xX1_sumOfReadings ((xX1_estimateFor R F p1).2) F).2) F)) else ((((xX1_estimateFor R F p1).1) * (xX1_certaintyFor ((xX1_estimateFor R F p1).2) F p1)) / (100 : Int32))) then (if ((((xX1_sumOfReadings ((xX1_estimateFor R F p1).2) F).1) - (xX1_sumOf ((xX1_sumOfReadings ((xX1_estimateFor R F p1).2) F).2) F 4)) - (xX1_kilogramsBilled ((xX1_sumOfReadings ((xX1_estimateFor R F p1).2) F).2) F)) < ((((xX1_estimateFor R F p1).1) * (xX1_certaintyFor ((xX1_estimateFor R F p1).2) F p1)) / (100 : Int32)) then ((((xX1_sumOfReadings ((xX1_estimateFor R F p1).2) F).1) - (xX1_sumOf ((xX1_sumOfReadings ((xX1_estimateFor R F p1).2) F).2) F 4)) - (xX1_kilogramsBilled ((xX1_sumOfReadings ((xX1_estimateFor R F p1).2) F).2) F)) else ((((xX1_estimateFor R F p1).1) * (xX1_certaintyFor ((xX1_estimateFor R F p1).2) F p1)) / (100 : Int32))) else (0 : Int32)), ((xX1_sumOfReadings ((xX1_estimateFor R F p1).2) F).2)) := by unfold xX1_kilogramsToBill; rfl
  exact W.iret (v := (if (0 : Int32) < (if ((((xX1_sumOfReadings ((xX1_estimateFor R F p1).2) F).1) - (xX1_sumOf ((xX1_sumOfReadings ((xX1_estimateFor R F p1).2) F).2) F 4)) - (xX1_kilogramsBilled ((xX1_sumOfReadings ((xX1_estimateFor R F p1).2) F).2) F)) < ((((xX1_estimateFor R F p1).1) * (xX1_certaintyFor ((xX1_estimateFor R F p1).2) F p1)) / (100 : Int32)) then ((((xX1_sumOfReadings ((xX1_estimateFor R F p1).2) F).1) - (xX1_sumOf ((xX1_sumOfReadings ((xX1_estimateFor R F p1).2) F).2) F 4)) - (xX1_kilogramsBilled ((xX1_sumOfReadings ((xX1_estimateFor R F p1).2) F).2) F)) else ((((xX1_estimateFor R F p1).1) * (xX1_certaintyFor ((xX1_estimateFor R F p1).2) F p1)) / (100 : Int32))) then (if ((((xX1_sumOfReadings ((xX1_estimateFor R F p1).2) F).1) - (xX1_sumOf ((xX1_sumOfReadings ((xX1_estimateFor R F p1).2) F).2) F 4)) - (xX1_kilogramsBilled ((xX1_sumOfReadings ((xX1_estimateFor R F p1).2) F).2) F)) < ((((xX1_estimateFor R F p1).1) * (xX1_certaintyFor ((xX1_estimateFor R F p1).2) F p1)) / (100 : Int32)) then ((((xX1_sumOfReadings ((xX1_estimateFor R F p1).2) F).1) - (xX1_sumOf ((xX1_sumOfReadings ((xX1_estimateFor R F p1).2) F).2) F 4)) - (xX1_kilogramsBilled ((xX1_sumOfReadings ((xX1_estimateFor R F p1).2) F).2) F)) else ((((xX1_estimateFor R F p1).1) * (xX1_certaintyFor ((xX1_estimateFor R F p1).2) F p1)) / (100 : Int32))) else (0 : Int32))) hx hb hr (fun t ht hW => ⟨by rw [hX], by rw [hX, ht]; with_reducible exact hP, hS.F ht⟩) hS.2.2 dX1_kilogramsToBill_45

def xX1_billAmount (R F : Nat → Nat → Int32) (p1 : Int32) : Int32 :=
  (if (xX1_isWalker R F p1) = (0 : Int32) then (0 : Int32) else ((xX1_orZero (R 11 (p1).toNatClampNeg)) * (R 12 (p1).toNatClampNeg)))
set_option maxHeartbeats 4000000 in
set_option maxRecDepth 100000 in
theorem mX1_billAmount (l : Launch) (D : va_G) (cI cS : ClassId) (ad : Nat → Nat) (hI : Inj ad) (R F : Nat → Nat → Int32) (p1 : Int32) : Met l yX1_billAmount wsX1_billAmount ({ frames := 1, cells := 0, slots := 0, locals := 21 }) (PW D cI cS ad R F [.ref (ad 0), .int p1]) (QS (xX1_billAmount R F p1)) 0 0 (fun _ => False) := by
  refine Met.ofW (cc := cX1_billAmount) (maxL := 2) (ret := (some .int)) (by decide) rfl ?_
  intro p e s m args below meth c s₁ B hml hv
  obtain ⟨rfl, hP, hK⟩ := hv
  have hx := B.exec
  have hb := B.bytes
  have hr := B.returns
  have hts := atoms_spec (ws := wsX1_billAmount) B.pre
  have hown : s.vm.findClass RX1 = some m.cls := findClass_of_methodNamed B.named
  have hlocks := B.notSynchronized
  have hS : va_S (AA ad) s.heap s.heap [] := va_S.rf
  have hl := lv_entry ([.ref (ad 0), .int p1]) (n := 2) (Nat.le_of_ble_eq_true rfl)
  rw [lg_entry_eq]
  generalize (lg_sl ([.ref (ad 0), .int p1]) ++ List.replicate (2 - (lg_sl ([.ref (ad 0), .int p1])).length) Slot.unset).toArray = ls at hl ⊢
  have hl : lv_has ls 2 [(0, .ref (ad 0)), (1, .int p1)] := hl
  have lk10 := hts (.fieldLink RX1 10 "FerryFloor" "now" "LFerryFloor$State;") (by decide +kernel)
  have lk116 := hts (.fieldLink RX1 116 "FerryFloor$State" "billKilograms" "[I") (by decide +kernel)
  have lk123 := hts (.fieldLink RX1 123 "FerryFloor$State" "billPrices" "[I") (by decide +kernel)
  have hin1 : ∀ w ∈ u_ws RX1 TX1 7, w ∈ wsX1_billAmount := by decide +kernel
  have hin0 : ∀ w ∈ u_ws RX0 TX0 15, w ∈ wsX1_billAmount := by decide +kernel
  refine lv_aload_n hx hb dX1_billAmount_0 rfl (lv_at hl 0 rfl) ?_
  refine lv_iload_n hx hb dX1_billAmount_1 rfl (lv_at hl 1 rfl) ?_
  refine q_callS (va_runV (As := [.int p1]) (rest := []) ⟨hx, hb, hml, hown, hts⟩ (mX1_isWalker l D cI cS ad hI R F p1) (cwV 1 hts gX1_billAmount_X1_isWalker rfl rfl rfl (by decide +kernel) ⟨Nat.le_of_ble_eq_true rfl, Nat.le_of_ble_eq_true rfl⟩) (PW_preV (i := 0) (by decide) CC_0 rfl rfl hK hP) rfl rfl hl.1 rfl (lv_room (Nat.le_of_ble_eq_true rfl)) dX1_billAmount_2 ⟨Nat.zero_le _, Nat.zero_le _⟩) ?_
  refine lv_if_eq (tgt := 33) hx hb dX1_billAmount_5 (by decide) (fun c_5 => ?_) (fun c_5 => ?_)
  · refine lv_iconst (v := 0) hx hb dX1_billAmount_33 (by decide) ?_
    have hX : (xX1_billAmount R F p1) = (0 : Int32) := by unfold xX1_billAmount; rw [if_pos c_5]
    exact W.iret (v := (0 : Int32)) hx hb hr (fun t ht hW => ⟨by rw [hX], ht⟩) (fun _ h => by cases h) dX1_billAmount_34
  · refine lv_aload_n hx hb dX1_billAmount_8 rfl (lv_at hl 0 rfl) ?_
    refine q_getF (v := .ref (ad 1)) hx hb hts hin1 hown hK hP 0 (by decide) lk10 (fun _ h => h) rfl dX1_billAmount_9 ?_
    refine q_getS (v := .ref (ad 11)) hx hb hts hin0 hown hK hP 1 st_1 12 (by decide) lk116 (fun _ h => h) rfl dX1_billAmount_12 ?_
    refine lv_iload_n hx hb dX1_billAmount_15 rfl (lv_at hl 1 rfl) ?_
    refine q_ild hx hb hK hP 11 8 (ar_11) dX1_billAmount_16 (by first | assumption | exact isCell_in (by assumption) | exact isWalker_in (by assumption) | exact isAboard_in (by assumption) | exact isPair_in1 (by assumption) | exact isPair_in2 (by assumption) | exact isWithin7_in (by assumption) | exact vp_in_nI (by omega) (by decide)) ?_
    refine q_callS (va_runS (As := [.int (R 11 (p1).toNatClampNeg)]) (rest := []) ⟨hx, hb, hml, hown, hts⟩ (mX1_orZero l D cI cS ad hI R F (R 11 (p1).toNatClampNeg)) (va_cwS 1 hts gX1_billAmount_X1_orZero rfl rfl rfl (by decide +kernel) ⟨Nat.le_of_ble_eq_true rfl, Nat.le_of_ble_eq_true rfl⟩) (PW_preS hK hP) rfl rfl hl.1 rfl (lv_room (Nat.le_of_ble_eq_true rfl)) dX1_billAmount_17 ⟨Nat.zero_le _, Nat.zero_le _⟩) ?_
    refine lv_aload_n hx hb dX1_billAmount_20 rfl (lv_at hl 0 rfl) ?_
    refine q_getF (v := .ref (ad 1)) hx hb hts hin1 hown hK hP 0 (by decide) lk10 (fun _ h => h) rfl dX1_billAmount_21 ?_
    refine q_getS (v := .ref (ad 12)) hx hb hts hin0 hown hK hP 1 st_1 13 (by decide) lk123 (fun _ h => h) rfl dX1_billAmount_24 ?_
    refine lv_iload_n hx hb dX1_billAmount_27 rfl (lv_at hl 1 rfl) ?_
    refine q_ild hx hb hK hP 12 8 (ar_12) dX1_billAmount_28 (by first | assumption | exact isCell_in (by assumption) | exact isWalker_in (by assumption) | exact isAboard_in (by assumption) | exact isPair_in1 (by assumption) | exact isPair_in2 (by assumption) | exact isWithin7_in (by assumption) | exact vp_in_nI (by omega) (by decide)) ?_
    refine lv_imul hx hb dX1_billAmount_29 ?_
    refine lv_goto (tgt := 34) hx hb dX1_billAmount_30 (by decide) ?_
    have hX : (xX1_billAmount R F p1) = ((xX1_orZero (R 11 (p1).toNatClampNeg)) * (R 12 (p1).toNatClampNeg)) := by unfold xX1_billAmount; rw [if_neg c_5]
    exact W.iret (v := ((xX1_orZero (R 11 (p1).toNatClampNeg)) * (R 12 (p1).toNatClampNeg))) hx hb hr (fun t ht hW => ⟨by rw [hX], ht⟩) (fun _ h => by cases h) dX1_billAmount_34

def xX1_backAmount (R F : Nat → Nat → Int32) (p1 : Int32) : Int32 :=
  (if (xX1_isWalker R F p1) = (0 : Int32) then (0 : Int32) else ((xX1_orZero (R 13 (p1).toNatClampNeg)) * (R 12 (p1).toNatClampNeg)))
set_option maxHeartbeats 4000000 in
set_option maxRecDepth 100000 in
theorem mX1_backAmount (l : Launch) (D : va_G) (cI cS : ClassId) (ad : Nat → Nat) (hI : Inj ad) (R F : Nat → Nat → Int32) (p1 : Int32) : Met l yX1_backAmount wsX1_backAmount ({ frames := 1, cells := 0, slots := 0, locals := 21 }) (PW D cI cS ad R F [.ref (ad 0), .int p1]) (QS (xX1_backAmount R F p1)) 0 0 (fun _ => False) := by
  refine Met.ofW (cc := cX1_backAmount) (maxL := 2) (ret := (some .int)) (by decide) rfl ?_
  intro p e s m args below meth c s₁ B hml hv
  obtain ⟨rfl, hP, hK⟩ := hv
  have hx := B.exec
  have hb := B.bytes
  have hr := B.returns
  have hts := atoms_spec (ws := wsX1_backAmount) B.pre
  have hown : s.vm.findClass RX1 = some m.cls := findClass_of_methodNamed B.named
  have hlocks := B.notSynchronized
  have hS : va_S (AA ad) s.heap s.heap [] := va_S.rf
  have hl := lv_entry ([.ref (ad 0), .int p1]) (n := 2) (Nat.le_of_ble_eq_true rfl)
  rw [lg_entry_eq]
  generalize (lg_sl ([.ref (ad 0), .int p1]) ++ List.replicate (2 - (lg_sl ([.ref (ad 0), .int p1])).length) Slot.unset).toArray = ls at hl ⊢
  have hl : lv_has ls 2 [(0, .ref (ad 0)), (1, .int p1)] := hl
  have lk10 := hts (.fieldLink RX1 10 "FerryFloor" "now" "LFerryFloor$State;") (by decide +kernel)
  have lk126 := hts (.fieldLink RX1 126 "FerryFloor$State" "backKilograms" "[I") (by decide +kernel)
  have lk123 := hts (.fieldLink RX1 123 "FerryFloor$State" "billPrices" "[I") (by decide +kernel)
  have hin1 : ∀ w ∈ u_ws RX1 TX1 7, w ∈ wsX1_backAmount := by decide +kernel
  have hin0 : ∀ w ∈ u_ws RX0 TX0 15, w ∈ wsX1_backAmount := by decide +kernel
  refine lv_aload_n hx hb dX1_backAmount_0 rfl (lv_at hl 0 rfl) ?_
  refine lv_iload_n hx hb dX1_backAmount_1 rfl (lv_at hl 1 rfl) ?_
  refine q_callS (va_runV (As := [.int p1]) (rest := []) ⟨hx, hb, hml, hown, hts⟩ (mX1_isWalker l D cI cS ad hI R F p1) (cwV 1 hts gX1_backAmount_X1_isWalker rfl rfl rfl (by decide +kernel) ⟨Nat.le_of_ble_eq_true rfl, Nat.le_of_ble_eq_true rfl⟩) (PW_preV (i := 0) (by decide) CC_0 rfl rfl hK hP) rfl rfl hl.1 rfl (lv_room (Nat.le_of_ble_eq_true rfl)) dX1_backAmount_2 ⟨Nat.zero_le _, Nat.zero_le _⟩) ?_
  refine lv_if_eq (tgt := 33) hx hb dX1_backAmount_5 (by decide) (fun c_5 => ?_) (fun c_5 => ?_)
  · refine lv_iconst (v := 0) hx hb dX1_backAmount_33 (by decide) ?_
    have hX : (xX1_backAmount R F p1) = (0 : Int32) := by unfold xX1_backAmount; rw [if_pos c_5]
    exact W.iret (v := (0 : Int32)) hx hb hr (fun t ht hW => ⟨by rw [hX], ht⟩) (fun _ h => by cases h) dX1_backAmount_34
  · refine lv_aload_n hx hb dX1_backAmount_8 rfl (lv_at hl 0 rfl) ?_
    refine q_getF (v := .ref (ad 1)) hx hb hts hin1 hown hK hP 0 (by decide) lk10 (fun _ h => h) rfl dX1_backAmount_9 ?_
    refine q_getS (v := .ref (ad 13)) hx hb hts hin0 hown hK hP 1 st_1 14 (by decide) lk126 (fun _ h => h) rfl dX1_backAmount_12 ?_
    refine lv_iload_n hx hb dX1_backAmount_15 rfl (lv_at hl 1 rfl) ?_
    refine q_ild hx hb hK hP 13 8 (ar_13) dX1_backAmount_16 (by first | assumption | exact isCell_in (by assumption) | exact isWalker_in (by assumption) | exact isAboard_in (by assumption) | exact isPair_in1 (by assumption) | exact isPair_in2 (by assumption) | exact isWithin7_in (by assumption) | exact vp_in_nI (by omega) (by decide)) ?_
    refine q_callS (va_runS (As := [.int (R 13 (p1).toNatClampNeg)]) (rest := []) ⟨hx, hb, hml, hown, hts⟩ (mX1_orZero l D cI cS ad hI R F (R 13 (p1).toNatClampNeg)) (va_cwS 1 hts gX1_backAmount_X1_orZero rfl rfl rfl (by decide +kernel) ⟨Nat.le_of_ble_eq_true rfl, Nat.le_of_ble_eq_true rfl⟩) (PW_preS hK hP) rfl rfl hl.1 rfl (lv_room (Nat.le_of_ble_eq_true rfl)) dX1_backAmount_17 ⟨Nat.zero_le _, Nat.zero_le _⟩) ?_
    refine lv_aload_n hx hb dX1_backAmount_20 rfl (lv_at hl 0 rfl) ?_
    refine q_getF (v := .ref (ad 1)) hx hb hts hin1 hown hK hP 0 (by decide) lk10 (fun _ h => h) rfl dX1_backAmount_21 ?_
    refine q_getS (v := .ref (ad 12)) hx hb hts hin0 hown hK hP 1 st_1 13 (by decide) lk123 (fun _ h => h) rfl dX1_backAmount_24 ?_
    refine lv_iload_n hx hb dX1_backAmount_27 rfl (lv_at hl 1 rfl) ?_
    refine q_ild hx hb hK hP 12 8 (ar_12) dX1_backAmount_28 (by first | assumption | exact isCell_in (by assumption) | exact isWalker_in (by assumption) | exact isAboard_in (by assumption) | exact isPair_in1 (by assumption) | exact isPair_in2 (by assumption) | exact isWithin7_in (by assumption) | exact vp_in_nI (by omega) (by decide)) ?_
    refine lv_imul hx hb dX1_backAmount_29 ?_
    refine lv_goto (tgt := 34) hx hb dX1_backAmount_30 (by decide) ?_
    have hX : (xX1_backAmount R F p1) = ((xX1_orZero (R 13 (p1).toNatClampNeg)) * (R 12 (p1).toNatClampNeg)) := by unfold xX1_backAmount; rw [if_neg c_5]
    exact W.iret (v := ((xX1_orZero (R 13 (p1).toNatClampNeg)) * (R 12 (p1).toNatClampNeg))) hx hb hr (fun t ht hW => ⟨by rw [hX], ht⟩) (fun _ h => by cases h) dX1_backAmount_34

def hX1_sumOfBillAmounts_4 (R F : Nat → Nat → Int32) : Nat → Nat → Int32 → Int32
  | 0, k, x1 => x1
  | n + 1, k, x1 => (hX1_sumOfBillAmounts_4 R F n (k + 1) (x1 + (xX1_billAmount R F (nI k))))
theorem hX1_sumOfBillAmounts_4_z (R F : Nat → Nat → Int32) (k : Nat) (x1 : Int32) : hX1_sumOfBillAmounts_4 R F 0 k x1 = x1 := rfl
theorem hX1_sumOfBillAmounts_4_s (R F : Nat → Nat → Int32) (n : Nat) (k : Nat) (x1 : Int32) : hX1_sumOfBillAmounts_4 R F (n + 1) k x1 = (hX1_sumOfBillAmounts_4 R F n (k + 1) (x1 + (xX1_billAmount R F (nI k)))) := rfl
def xX1_sumOfBillAmounts (R F : Nat → Nat → Int32) : Int32 :=
  (hX1_sumOfBillAmounts_4 R F 8 0 (0 : Int32))
set_option maxHeartbeats 4000000 in
set_option maxRecDepth 100000 in
theorem mX1_sumOfBillAmounts (l : Launch) (D : va_G) (cI cS : ClassId) (ad : Nat → Nat) (hI : Inj ad) (R F : Nat → Nat → Int32)  : Met l yX1_sumOfBillAmounts wsX1_sumOfBillAmounts ({ frames := 2, cells := 0, slots := 0, locals := 42 }) (PW D cI cS ad R F [.ref (ad 0)]) (QS (xX1_sumOfBillAmounts R F)) 0 0 (fun _ => False) := by
  refine Met.ofW (cc := cX1_sumOfBillAmounts) (maxL := 3) (ret := (some .int)) (by decide) rfl ?_
  intro p e s m args below meth c s₁ B hml hv
  obtain ⟨rfl, hP, hK⟩ := hv
  have hx := B.exec
  have hb := B.bytes
  have hr := B.returns
  have hts := atoms_spec (ws := wsX1_sumOfBillAmounts) B.pre
  have hown : s.vm.findClass RX1 = some m.cls := findClass_of_methodNamed B.named
  have hlocks := B.notSynchronized
  have hS : va_S (AA ad) s.heap s.heap [] := va_S.rf
  have hl := lv_entry ([.ref (ad 0)]) (n := 3) (Nat.le_of_ble_eq_true rfl)
  rw [lg_entry_eq]
  generalize (lg_sl ([.ref (ad 0)]) ++ List.replicate (3 - (lg_sl ([.ref (ad 0)])).length) Slot.unset).toArray = ls at hl ⊢
  have hl : lv_has ls 3 [(0, .ref (ad 0))] := hl
  refine lv_iconst (v := 0) hx hb dX1_sumOfBillAmounts_0 (by decide) ?_
  refine lv_istore_n (lv' := [(1, .int (0 : Int32)), (0, .ref (ad 0))]) hx hb dX1_sumOfBillAmounts_1 rfl hl (by decide) rfl (fun ls hl => ?_)
  refine lv_iconst (v := 0) hx hb dX1_sumOfBillAmounts_2 (by decide) ?_
  refine lv_istore_n (lv' := [(2, .int (0 : Int32)), (1, .int (0 : Int32)), (0, .ref (ad 0))]) hx hb dX1_sumOfBillAmounts_3 rfl hl (by decide) rfl (fun ls hl => ?_)
  refine q_loop (fun nn H locs ls => ∃ (k : Nat) (x1 : Int32), k + nn = 8 ∧ hX1_sumOfBillAmounts_4 R F nn k x1 = (xX1_sumOfBillAmounts R F) ∧ WP D cI cS ad R F H ∧ locs = [] ∧ H = s.heap ∧ lv_has ls 3 [(2, .int (nI k)), (1, .int x1), (0, .ref (ad 0))]) 8 ⟨0, (0 : Int32), by omega, by unfold xX1_sumOfBillAmounts; rfl, hP, rfl, rfl, lv_sub hl [0, 1, 2] rfl⟩ ?_ ?_
  · intro H locs ls hz
    obtain ⟨k, x1, hkn, hsp, hP, rfl, rfl, hl⟩ := hz
    refine lv_iload_n hx hb dX1_sumOfBillAmounts_4 rfl (lv_at hl 0 rfl) ?_
    refine lv_bipush (v := 8) hx hb dX1_sumOfBillAmounts_5 (by decide) ?_
    refine lv_icmp_ge (tgt := 24) hx hb dX1_sumOfBillAmounts_7 (by decide) (fun c_7 => ?_) (fun c_7 => ?_)
    · refine lv_iload_n hx hb dX1_sumOfBillAmounts_24 rfl (lv_at hl 1 rfl) ?_
      have hX : (xX1_sumOfBillAmounts R F) = x1 := by rw [← hsp, hX1_sumOfBillAmounts_4_z]
      exact W.iret (v := x1) hx hb hr (fun t ht hW => ⟨by rw [hX], ht⟩) (fun _ h => by cases h) dX1_sumOfBillAmounts_25
    · exact absurd (nI_le (a := 8) (b := k) (by omega) (by omega)) c_7
  · intro n ih H locs ls hz
    obtain ⟨k, x1, hkn, hsp, hP, rfl, rfl, hl⟩ := hz
    refine lv_iload_n hx hb dX1_sumOfBillAmounts_4 rfl (lv_at hl 0 rfl) ?_
    refine lv_bipush (v := 8) hx hb dX1_sumOfBillAmounts_5 (by decide) ?_
    refine lv_icmp_ge (tgt := 24) hx hb dX1_sumOfBillAmounts_7 (by decide) (fun c_7 => ?_) (fun c_7 => ?_)
    · exact absurd c_7 (nI_ge (a := k) (b := 8) (by omega) (by omega))
    · refine lv_iload_n hx hb dX1_sumOfBillAmounts_10 rfl (lv_at hl 1 rfl) ?_
      refine lv_aload_n hx hb dX1_sumOfBillAmounts_11 rfl (lv_at hl 2 rfl) ?_
      refine lv_iload_n hx hb dX1_sumOfBillAmounts_12 rfl (lv_at hl 0 rfl) ?_
      refine q_callS (va_runV (As := [.int (nI k)]) (rest := [.int x1]) ⟨hx, hb, hml, hown, hts⟩ (mX1_billAmount l D cI cS ad hI R F (nI k)) (cwV 1 hts gX1_sumOfBillAmounts_X1_billAmount rfl rfl rfl (by decide +kernel) ⟨Nat.le_of_ble_eq_true rfl, Nat.le_of_ble_eq_true rfl⟩) (PW_preV (i := 0) (by decide) CC_0 rfl rfl hK hP) rfl rfl hl.1 rfl (lv_room (Nat.le_of_ble_eq_true rfl)) dX1_sumOfBillAmounts_13 ⟨Nat.zero_le _, Nat.zero_le _⟩) ?_
      refine lv_iadd hx hb dX1_sumOfBillAmounts_16 ?_
      refine lv_istore_n (lv' := [(1, .int (x1 + (xX1_billAmount R F (nI k)))), (2, .int (nI k)), (0, .ref (ad 0))]) hx hb dX1_sumOfBillAmounts_17 rfl hl (by decide) rfl (fun ls hl => ?_)
      refine lv_iinc (v := (nI (k + 1))) (lv' := [(2, .int (nI (k + 1))), (1, .int (x1 + (xX1_billAmount R F (nI k)))), (0, .ref (ad 0))]) hx hb dX1_sumOfBillAmounts_18 hl (k := 1) rfl (nI_1 k) (by decide) rfl (fun ls hl => ?_)
      refine lv_goto (tgt := 4) hx hb dX1_sumOfBillAmounts_21 (by decide) ?_
      exact ih _ _ _ ⟨(k + 1), (x1 + (xX1_billAmount R F (nI k))), by omega, by rw [← hsp, hX1_sumOfBillAmounts_4_s], hP, rfl, rfl, lv_sub hl [0, 1, 2] rfl⟩

def hX1_sumOfBackAmounts_4 (R F : Nat → Nat → Int32) : Nat → Nat → Int32 → Int32
  | 0, k, x1 => x1
  | n + 1, k, x1 => (hX1_sumOfBackAmounts_4 R F n (k + 1) (x1 + (xX1_backAmount R F (nI k))))
theorem hX1_sumOfBackAmounts_4_z (R F : Nat → Nat → Int32) (k : Nat) (x1 : Int32) : hX1_sumOfBackAmounts_4 R F 0 k x1 = x1 := rfl
theorem hX1_sumOfBackAmounts_4_s (R F : Nat → Nat → Int32) (n : Nat) (k : Nat) (x1 : Int32) : hX1_sumOfBackAmounts_4 R F (n + 1) k x1 = (hX1_sumOfBackAmounts_4 R F n (k + 1) (x1 + (xX1_backAmount R F (nI k)))) := rfl
def xX1_sumOfBackAmounts (R F : Nat → Nat → Int32) : Int32 :=
  (hX1_sumOfBackAmounts_4 R F 8 0 (0 : Int32))
set_option maxHeartbeats 4000000 in
set_option maxRecDepth 100000 in
theorem mX1_sumOfBackAmounts (l : Launch) (D : va_G) (cI cS : ClassId) (ad : Nat → Nat) (hI : Inj ad) (R F : Nat → Nat → Int32)  : Met l yX1_sumOfBackAmounts wsX1_sumOfBackAmounts ({ frames := 2, cells := 0, slots := 0, locals := 42 }) (PW D cI cS ad R F [.ref (ad 0)]) (QS (xX1_sumOfBackAmounts R F)) 0 0 (fun _ => False) := by
  refine Met.ofW (cc := cX1_sumOfBackAmounts) (maxL := 3) (ret := (some .int)) (by decide) rfl ?_
  intro p e s m args below meth c s₁ B hml hv
  obtain ⟨rfl, hP, hK⟩ := hv
  have hx := B.exec
  have hb := B.bytes
  have hr := B.returns
  have hts := atoms_spec (ws := wsX1_sumOfBackAmounts) B.pre
  have hown : s.vm.findClass RX1 = some m.cls := findClass_of_methodNamed B.named
  have hlocks := B.notSynchronized
  have hS : va_S (AA ad) s.heap s.heap [] := va_S.rf
  have hl := lv_entry ([.ref (ad 0)]) (n := 3) (Nat.le_of_ble_eq_true rfl)
  rw [lg_entry_eq]
  generalize (lg_sl ([.ref (ad 0)]) ++ List.replicate (3 - (lg_sl ([.ref (ad 0)])).length) Slot.unset).toArray = ls at hl ⊢
  have hl : lv_has ls 3 [(0, .ref (ad 0))] := hl
  refine lv_iconst (v := 0) hx hb dX1_sumOfBackAmounts_0 (by decide) ?_
  refine lv_istore_n (lv' := [(1, .int (0 : Int32)), (0, .ref (ad 0))]) hx hb dX1_sumOfBackAmounts_1 rfl hl (by decide) rfl (fun ls hl => ?_)
  refine lv_iconst (v := 0) hx hb dX1_sumOfBackAmounts_2 (by decide) ?_
  refine lv_istore_n (lv' := [(2, .int (0 : Int32)), (1, .int (0 : Int32)), (0, .ref (ad 0))]) hx hb dX1_sumOfBackAmounts_3 rfl hl (by decide) rfl (fun ls hl => ?_)
  refine q_loop (fun nn H locs ls => ∃ (k : Nat) (x1 : Int32), k + nn = 8 ∧ hX1_sumOfBackAmounts_4 R F nn k x1 = (xX1_sumOfBackAmounts R F) ∧ WP D cI cS ad R F H ∧ locs = [] ∧ H = s.heap ∧ lv_has ls 3 [(2, .int (nI k)), (1, .int x1), (0, .ref (ad 0))]) 8 ⟨0, (0 : Int32), by omega, by unfold xX1_sumOfBackAmounts; rfl, hP, rfl, rfl, lv_sub hl [0, 1, 2] rfl⟩ ?_ ?_
  · intro H locs ls hz
    obtain ⟨k, x1, hkn, hsp, hP, rfl, rfl, hl⟩ := hz
    refine lv_iload_n hx hb dX1_sumOfBackAmounts_4 rfl (lv_at hl 0 rfl) ?_
    refine lv_bipush (v := 8) hx hb dX1_sumOfBackAmounts_5 (by decide) ?_
    refine lv_icmp_ge (tgt := 24) hx hb dX1_sumOfBackAmounts_7 (by decide) (fun c_7 => ?_) (fun c_7 => ?_)
    · refine lv_iload_n hx hb dX1_sumOfBackAmounts_24 rfl (lv_at hl 1 rfl) ?_
      have hX : (xX1_sumOfBackAmounts R F) = x1 := by rw [← hsp, hX1_sumOfBackAmounts_4_z]
      exact W.iret (v := x1) hx hb hr (fun t ht hW => ⟨by rw [hX], ht⟩) (fun _ h => by cases h) dX1_sumOfBackAmounts_25
    · exact absurd (nI_le (a := 8) (b := k) (by omega) (by omega)) c_7
  · intro n ih H locs ls hz
    obtain ⟨k, x1, hkn, hsp, hP, rfl, rfl, hl⟩ := hz
    refine lv_iload_n hx hb dX1_sumOfBackAmounts_4 rfl (lv_at hl 0 rfl) ?_
    refine lv_bipush (v := 8) hx hb dX1_sumOfBackAmounts_5 (by decide) ?_
    refine lv_icmp_ge (tgt := 24) hx hb dX1_sumOfBackAmounts_7 (by decide) (fun c_7 => ?_) (fun c_7 => ?_)
    · exact absurd c_7 (nI_ge (a := k) (b := 8) (by omega) (by omega))
    · refine lv_iload_n hx hb dX1_sumOfBackAmounts_10 rfl (lv_at hl 1 rfl) ?_
      refine lv_aload_n hx hb dX1_sumOfBackAmounts_11 rfl (lv_at hl 2 rfl) ?_
      refine lv_iload_n hx hb dX1_sumOfBackAmounts_12 rfl (lv_at hl 0 rfl) ?_
      refine q_callS (va_runV (As := [.int (nI k)]) (rest := [.int x1]) ⟨hx, hb, hml, hown, hts⟩ (mX1_backAmount l D cI cS ad hI R F (nI k)) (cwV 1 hts gX1_sumOfBackAmounts_X1_backAmount rfl rfl rfl (by decide +kernel) ⟨Nat.le_of_ble_eq_true rfl, Nat.le_of_ble_eq_true rfl⟩) (PW_preV (i := 0) (by decide) CC_0 rfl rfl hK hP) rfl rfl hl.1 rfl (lv_room (Nat.le_of_ble_eq_true rfl)) dX1_sumOfBackAmounts_13 ⟨Nat.zero_le _, Nat.zero_le _⟩) ?_
      refine lv_iadd hx hb dX1_sumOfBackAmounts_16 ?_
      refine lv_istore_n (lv' := [(1, .int (x1 + (xX1_backAmount R F (nI k)))), (2, .int (nI k)), (0, .ref (ad 0))]) hx hb dX1_sumOfBackAmounts_17 rfl hl (by decide) rfl (fun ls hl => ?_)
      refine lv_iinc (v := (nI (k + 1))) (lv' := [(2, .int (nI (k + 1))), (1, .int (x1 + (xX1_backAmount R F (nI k)))), (0, .ref (ad 0))]) hx hb dX1_sumOfBackAmounts_18 hl (k := 1) rfl (nI_1 k) (by decide) rfl (fun ls hl => ?_)
      refine lv_goto (tgt := 4) hx hb dX1_sumOfBackAmounts_21 (by decide) ?_
      exact ih _ _ _ ⟨(k + 1), (x1 + (xX1_backAmount R F (nI k))), by omega, by rw [← hsp, hX1_sumOfBackAmounts_4_s], hP, rfl, rfl, lv_sub hl [0, 1, 2] rfl⟩
end
section
def xX1_setDrift (R F : Nat → Nat → Int32) (p1 : Int32) (p2 : Int32) (o : Nat) (q : Nat) : Int32 × (Nat → Nat → Int32) × (Nat → Nat → Int32) :=
  (if (xX1_isCell p1) = (0 : Int32) then ((-100001 : Int32), R, F) else (if (xX1_isWithin p2 (-3 : Int32) (3 : Int32)) = (0 : Int32) then ((-100001 : Int32), R, F) else ((((xX1_remember R F o q).1) 3 (p1).toNatClampNeg), (sR ((xX1_remember R F o q).1) 3 ((p1).toNatClampNeg) p2), ((xX1_remember R F o q).2))))
set_option maxHeartbeats 4000000 in
set_option maxRecDepth 100000 in
theorem mX1_setDrift (l : Launch) (D : va_G) (cI cS : ClassId) (ad : Nat → Nat) (hI : Inj ad) (R F : Nat → Nat → Int32) (p1 : Int32) (p2 : Int32) (o : Nat) (q : Nat) (ho : o < 5) (hq : q ≤ 5) (hF0 : F 0 0 = nI o) (hF1 : F 0 1 = nI q) : Met l yX1_setDrift wsX1_setDrift ({ frames := 4, cells := 0, slots := 0, locals := 111 }) (PW D cI cS ad R F [.ref (ad 0), .int p1, .int p2]) (QI D cI cS ad ((xX1_setDrift R F p1 p2 o q).1) ((xX1_setDrift R F p1 p2 o q).2.1) ((xX1_setDrift R F p1 p2 o q).2.2)) 0 0 (AA ad) := by
  refine Met.ofW (cc := cX1_setDrift) (maxL := 4) (ret := (some .int)) (by decide) rfl ?_
  intro p e s m args below meth c s₁ B hml hv
  obtain ⟨rfl, hP, hK⟩ := hv
  have hx := B.exec
  have hb := B.bytes
  have hr := B.returns
  have hts := atoms_spec (ws := wsX1_setDrift) B.pre
  have hown : s.vm.findClass RX1 = some m.cls := findClass_of_methodNamed B.named
  have hlocks := B.notSynchronized
  have hS : va_S (AA ad) s.heap s.heap [] := va_S.rf
  have hl := lv_entry ([.ref (ad 0), .int p1, .int p2]) (n := 4) (Nat.le_of_ble_eq_true rfl)
  rw [lg_entry_eq]
  generalize (lg_sl ([.ref (ad 0), .int p1, .int p2]) ++ List.replicate (4 - (lg_sl ([.ref (ad 0), .int p1, .int p2])).length) Slot.unset).toArray = ls at hl ⊢
  have hl : lv_has ls 4 [(0, .ref (ad 0)), (1, .int p1), (2, .int p2)] := hl
  have lk45 := hts (.constant RX1 45 (-100001)) (by decide +kernel)
  have lk10 := hts (.fieldLink RX1 10 "FerryFloor" "now" "LFerryFloor$State;") (by decide +kernel)
  have lk49 := hts (.fieldLink RX1 49 "FerryFloor$State" "drifts" "[I") (by decide +kernel)
  have hin1 : ∀ w ∈ u_ws RX1 TX1 7, w ∈ wsX1_setDrift := by decide +kernel
  have hin0 : ∀ w ∈ u_ws RX0 TX0 15, w ∈ wsX1_setDrift := by decide +kernel
  refine lv_iload_n hx hb dX1_setDrift_0 rfl (lv_at hl 1 rfl) ?_
  refine q_callS (va_runS (As := [.int p1]) (rest := []) ⟨hx, hb, hml, hown, hts⟩ (mX1_isCell l D cI cS ad hI R F p1) (va_cwS 1 hts gX1_setDrift_X1_isCell rfl rfl rfl (by decide +kernel) ⟨Nat.le_of_ble_eq_true rfl, Nat.le_of_ble_eq_true rfl⟩) (PW_preS hK hP) rfl rfl hl.1 rfl (lv_room (Nat.le_of_ble_eq_true rfl)) dX1_setDrift_1 ⟨Nat.zero_le _, Nat.zero_le _⟩) ?_
  refine lv_if_eq (tgt := 17) hx hb dX1_setDrift_4 (by decide) (fun c_4 => ?_) (fun c_4 => ?_)
  · refine lv_ldc (v := -100001) hx hb hown lk45 dX1_setDrift_17 ?_
    have hX : (xX1_setDrift R F p1 p2 o q) = ((-100001 : Int32), R, F) := by unfold xX1_setDrift; rw [if_pos c_4]
    exact W.iret (v := (-100001 : Int32)) hx hb hr (fun t ht hW => ⟨by rw [hX], by rw [hX, ht]; with_reducible exact hP, hS.F ht⟩) hS.2.2 dX1_setDrift_19
  · refine lv_iload_n hx hb dX1_setDrift_7 rfl (lv_at hl 2 rfl) ?_
    refine lv_bipush (v := -3) hx hb dX1_setDrift_8 (by decide) ?_
    refine lv_iconst (v := 3) hx hb dX1_setDrift_10 (by decide) ?_
    refine q_callS (va_runS (As := [.int p2, .int (-3 : Int32), .int (3 : Int32)]) (rest := []) ⟨hx, hb, hml, hown, hts⟩ (mX1_isWithin l D cI cS ad hI R F p2 (-3 : Int32) (3 : Int32)) (va_cwS 3 hts gX1_setDrift_X1_isWithin rfl rfl rfl (by decide +kernel) ⟨Nat.le_of_ble_eq_true rfl, Nat.le_of_ble_eq_true rfl⟩) (PW_preS hK hP) rfl rfl hl.1 rfl (lv_room (Nat.le_of_ble_eq_true rfl)) dX1_setDrift_11 ⟨Nat.zero_le _, Nat.zero_le _⟩) ?_
    refine lv_if_ne (tgt := 20) hx hb dX1_setDrift_14 (by decide) (fun c_14 => ?_) (fun c_14 => ?_)
    · refine lv_aload_n hx hb dX1_setDrift_20 rfl (lv_at hl 0 rfl) ?_
      refine q_callV (va_runV (As := []) (rest := []) ⟨hx, hb, hml, hown, hts⟩ (mX1_remember l D cI cS ad hI R F o q ho hq hF0 hF1) (cwV 0 hts gX1_setDrift_X1_remember rfl rfl rfl (by decide +kernel) ⟨Nat.le_of_ble_eq_true rfl, Nat.le_of_ble_eq_true rfl⟩) (PW_preV (i := 0) (by decide) CC_0 rfl rfl hK hP) rfl rfl hl.1 rfl (lv_room (Nat.le_of_ble_eq_true rfl)) dX1_setDrift_21 ⟨Nat.zero_le _, Nat.zero_le _⟩) hS (fun H locs hP hS => ?_)
      refine lv_aload_n hx hb dX1_setDrift_24 rfl (lv_at hl 0 rfl) ?_
      refine q_getF (v := .ref (ad 1)) hx hb hts hin1 hown hK hP 0 (by decide) lk10 (fun _ h => h) rfl dX1_setDrift_25 ?_
      refine q_getS (v := .ref (ad 3)) hx hb hts hin0 hown hK hP 1 st_1 4 (by decide) lk49 (fun _ h => h) rfl dX1_setDrift_28 ?_
      refine lv_iload_n hx hb dX1_setDrift_31 rfl (lv_at hl 1 rfl) ?_
      refine q_ild hx hb hK hP 3 24 (ar_3) dX1_setDrift_32 (by first | assumption | exact isCell_in (by assumption) | exact isWalker_in (by assumption) | exact isAboard_in (by assumption) | exact isPair_in1 (by assumption) | exact isPair_in2 (by assumption) | exact isWithin7_in (by assumption) | exact vp_in_nI (by omega) (by decide)) ?_
      refine lv_istore_n (lv' := [(3, .int (((xX1_remember R F o q).1) 3 (p1).toNatClampNeg)), (0, .ref (ad 0)), (1, .int p1), (2, .int p2)]) hx hb dX1_setDrift_33 rfl hl (by decide) rfl (fun ls hl => ?_)
      refine lv_aload_n hx hb dX1_setDrift_34 rfl (lv_at hl 1 rfl) ?_
      refine q_getF (v := .ref (ad 1)) hx hb hts hin1 hown hK hP 0 (by decide) lk10 (fun _ h => h) rfl dX1_setDrift_35 ?_
      refine q_getS (v := .ref (ad 3)) hx hb hts hin0 hown hK hP 1 st_1 4 (by decide) lk49 (fun _ h => h) rfl dX1_setDrift_38 ?_
      refine lv_iload_n hx hb dX1_setDrift_41 rfl (lv_at hl 2 rfl) ?_
      refine lv_iload_n hx hb dX1_setDrift_42 rfl (lv_at hl 3 rfl) ?_
      refine q_ist hx hb hK hI hP hS 3 24 (ar_3) dX1_setDrift_43 (by first | assumption | exact isCell_in (by assumption) | exact isWalker_in (by assumption) | exact isAboard_in (by assumption) | exact isPair_in1 (by assumption) | exact isPair_in2 (by assumption) | exact isWithin7_in (by assumption) | exact vp_in_nI (by omega) (by decide)) (fun H locs hP hS => ?_)
      have hP : WP D cI cS ad (sR ((xX1_remember R F o q).1) 3 ((p1).toNatClampNeg) p2) ((xX1_remember R F o q).2) H := hP
      refine lv_iload_n hx hb dX1_setDrift_44 rfl (lv_at hl 0 rfl) ?_
      have hX : (xX1_setDrift R F p1 p2 o q) = ((((xX1_remember R F o q).1) 3 (p1).toNatClampNeg), (sR ((xX1_remember R F o q).1) 3 ((p1).toNatClampNeg) p2), ((xX1_remember R F o q).2)) := by unfold xX1_setDrift; rw [if_neg c_4, if_neg c_14]
      exact W.iret (v := (((xX1_remember R F o q).1) 3 (p1).toNatClampNeg)) hx hb hr (fun t ht hW => ⟨by rw [hX], by rw [hX, ht]; with_reducible exact hP, hS.F ht⟩) hS.2.2 dX1_setDrift_45
    · refine lv_ldc (v := -100001) hx hb hown lk45 dX1_setDrift_17 ?_
      have hX : (xX1_setDrift R F p1 p2 o q) = ((-100001 : Int32), R, F) := by unfold xX1_setDrift; rw [if_neg c_4, if_pos c_14]
      exact W.iret (v := (-100001 : Int32)) hx hb hr (fun t ht hW => ⟨by rw [hX], by rw [hX, ht]; with_reducible exact hP, hS.F ht⟩) hS.2.2 dX1_setDrift_19

def hX1_pass_37 (R F : Nat → Nat → Int32) (p1 : Int32) (o : Nat) (q : Nat) : Nat → Nat → (Nat → Nat → Int32) → Int32 × (Nat → Nat → Int32) × (Nat → Nat → Int32)
  | 0, k, R1 => (((sR ((xX1_remember R F o q).2) 1 0 ((((xX1_remember R F o q).2) 1 0) + p1)) 1 0), R1, (sR ((xX1_remember R F o q).2) 1 0 ((((xX1_remember R F o q).2) 1 0) + p1)))
  | n + 1, k, R1 => (hX1_pass_37 R F p1 o q n (k + 1) (sR R1 2 k ((R1 2 k) + ((R1 3 k) * p1))))
theorem hX1_pass_37_z (R F : Nat → Nat → Int32) (p1 : Int32) (o : Nat) (q : Nat) (k : Nat) (R1 : Nat → Nat → Int32) : hX1_pass_37 R F p1 o q 0 k R1 = (((sR ((xX1_remember R F o q).2) 1 0 ((((xX1_remember R F o q).2) 1 0) + p1)) 1 0), R1, (sR ((xX1_remember R F o q).2) 1 0 ((((xX1_remember R F o q).2) 1 0) + p1))) := rfl
theorem hX1_pass_37_s (R F : Nat → Nat → Int32) (p1 : Int32) (o : Nat) (q : Nat) (n : Nat) (k : Nat) (R1 : Nat → Nat → Int32) : hX1_pass_37 R F p1 o q (n + 1) k R1 = (hX1_pass_37 R F p1 o q n (k + 1) (sR R1 2 k ((R1 2 k) + ((R1 3 k) * p1)))) := rfl
def xX1_pass (R F : Nat → Nat → Int32) (p1 : Int32) (o : Nat) (q : Nat) : Int32 × (Nat → Nat → Int32) × (Nat → Nat → Int32) :=
  (if (xX1_isWithin p1 (1 : Int32) (60 : Int32)) = (0 : Int32) then ((-100001 : Int32), R, F) else (if ((F 1 0) + p1) ≤ (2000 : Int32) then (hX1_pass_37 R F p1 o q 24 0 ((xX1_remember R F o q).1)) else ((-100002 : Int32), R, F)))
set_option maxHeartbeats 4000000 in
set_option maxRecDepth 100000 in
theorem mX1_pass (l : Launch) (D : va_G) (cI cS : ClassId) (ad : Nat → Nat) (hI : Inj ad) (R F : Nat → Nat → Int32) (p1 : Int32) (o : Nat) (q : Nat) (ho : o < 5) (hq : q ≤ 5) (hF0 : F 0 0 = nI o) (hF1 : F 0 1 = nI q) : Met l yX1_pass wsX1_pass ({ frames := 4, cells := 0, slots := 0, locals := 111 }) (PW D cI cS ad R F [.ref (ad 0), .int p1]) (QI D cI cS ad ((xX1_pass R F p1 o q).1) ((xX1_pass R F p1 o q).2.1) ((xX1_pass R F p1 o q).2.2)) 0 0 (AA ad) := by
  refine Met.ofW (cc := cX1_pass) (maxL := 3) (ret := (some .int)) (by decide) rfl ?_
  intro p e s m args below meth c s₁ B hml hv
  obtain ⟨rfl, hP, hK⟩ := hv
  have hx := B.exec
  have hb := B.bytes
  have hr := B.returns
  have hts := atoms_spec (ws := wsX1_pass) B.pre
  have hown : s.vm.findClass RX1 = some m.cls := findClass_of_methodNamed B.named
  have hlocks := B.notSynchronized
  have hS : va_S (AA ad) s.heap s.heap [] := va_S.rf
  have hl := lv_entry ([.ref (ad 0), .int p1]) (n := 3) (Nat.le_of_ble_eq_true rfl)
  rw [lg_entry_eq]
  generalize (lg_sl ([.ref (ad 0), .int p1]) ++ List.replicate (3 - (lg_sl ([.ref (ad 0), .int p1])).length) Slot.unset).toArray = ls at hl ⊢
  have hl : lv_has ls 3 [(0, .ref (ad 0)), (1, .int p1)] := hl
  have lk45 := hts (.constant RX1 45 (-100001)) (by decide +kernel)
  have lk10 := hts (.fieldLink RX1 10 "FerryFloor" "now" "LFerryFloor$State;") (by decide +kernel)
  have lk52 := hts (.fieldLink RX1 52 "FerryFloor$State" "minute" "I") (by decide +kernel)
  have lk55 := hts (.constant RX1 55 (-100002)) (by decide +kernel)
  have lk56 := hts (.fieldLink RX1 56 "FerryFloor$State" "zeros" "[I") (by decide +kernel)
  have lk49 := hts (.fieldLink RX1 49 "FerryFloor$State" "drifts" "[I") (by decide +kernel)
  have hin1 : ∀ w ∈ u_ws RX1 TX1 7, w ∈ wsX1_pass := by decide +kernel
  have hin0 : ∀ w ∈ u_ws RX0 TX0 15, w ∈ wsX1_pass := by decide +kernel
  refine lv_iload_n hx hb dX1_pass_0 rfl (lv_at hl 1 rfl) ?_
  refine lv_iconst (v := 1) hx hb dX1_pass_1 (by decide) ?_
  refine lv_bipush (v := 60) hx hb dX1_pass_2 (by decide) ?_
  refine q_callS (va_runS (As := [.int p1, .int (1 : Int32), .int (60 : Int32)]) (rest := []) ⟨hx, hb, hml, hown, hts⟩ (mX1_isWithin l D cI cS ad hI R F p1 (1 : Int32) (60 : Int32)) (va_cwS 3 hts gX1_pass_X1_isWithin rfl rfl rfl (by decide +kernel) ⟨Nat.le_of_ble_eq_true rfl, Nat.le_of_ble_eq_true rfl⟩) (PW_preS hK hP) rfl rfl hl.1 rfl (lv_room (Nat.le_of_ble_eq_true rfl)) dX1_pass_4 ⟨Nat.zero_le _, Nat.zero_le _⟩) ?_
  refine lv_if_ne (tgt := 13) hx hb dX1_pass_7 (by decide) (fun c_7 => ?_) (fun c_7 => ?_)
  · refine lv_aload_n hx hb dX1_pass_13 rfl (lv_at hl 0 rfl) ?_
    refine q_getF (v := .ref (ad 1)) hx hb hts hin1 hown hK hP 0 (by decide) lk10 (fun _ h => h) rfl dX1_pass_14 ?_
    refine q_getS (v := .int (F 1 0)) hx hb hts hin0 hown hK hP 1 st_1 0 (by decide) lk52 (fun _ h => h) rfl dX1_pass_17 ?_
    refine lv_iload_n hx hb dX1_pass_20 rfl (lv_at hl 1 rfl) ?_
    refine lv_iadd hx hb dX1_pass_21 ?_
    refine lv_sipush (v := 2000) hx hb dX1_pass_22 (by decide) ?_
    refine lv_icmp_le (tgt := 31) hx hb dX1_pass_25 (by decide) (fun c_25 => ?_) (fun c_25 => ?_)
    · refine lv_aload_n hx hb dX1_pass_31 rfl (lv_at hl 0 rfl) ?_
      refine q_callV (va_runV (As := []) (rest := []) ⟨hx, hb, hml, hown, hts⟩ (mX1_remember l D cI cS ad hI R F o q ho hq hF0 hF1) (cwV 0 hts gX1_pass_X1_remember rfl rfl rfl (by decide +kernel) ⟨Nat.le_of_ble_eq_true rfl, Nat.le_of_ble_eq_true rfl⟩) (PW_preV (i := 0) (by decide) CC_0 rfl rfl hK hP) rfl rfl hl.1 rfl (lv_room (Nat.le_of_ble_eq_true rfl)) dX1_pass_32 ⟨Nat.zero_le _, Nat.zero_le _⟩) hS (fun H locs hP hS => ?_)
      refine lv_iconst (v := 0) hx hb dX1_pass_35 (by decide) ?_
      refine lv_istore_n (lv' := [(2, .int (0 : Int32)), (0, .ref (ad 0)), (1, .int p1)]) hx hb dX1_pass_36 rfl hl (by decide) rfl (fun ls hl => ?_)
      refine q_loop (fun nn H locs ls => ∃ (k : Nat) (R1 : Nat → Nat → Int32), k + nn = 24 ∧ hX1_pass_37 R F p1 o q nn k R1 = (xX1_pass R F p1 o q) ∧ WP D cI cS ad R1 ((xX1_remember R F o q).2) H ∧ va_S (AA ad) s.heap H locs ∧ lv_has ls 3 [(2, .int (nI k)), (0, .ref (ad 0)), (1, .int p1)]) 24 ⟨0, ((xX1_remember R F o q).1), by omega, by unfold xX1_pass; rw [if_neg c_7, if_pos c_25], hP, hS, lv_sub hl [0, 1, 2] rfl⟩ ?_ ?_
      · intro H locs ls hz
        obtain ⟨k, R1, hkn, hsp, hP, hS, hl⟩ := hz
        refine lv_iload_n hx hb dX1_pass_37 rfl (lv_at hl 0 rfl) ?_
        refine lv_bipush (v := 24) hx hb dX1_pass_38 (by decide) ?_
        refine lv_icmp_ge (tgt := 72) hx hb dX1_pass_40 (by decide) (fun c_40 => ?_) (fun c_40 => ?_)
        · refine lv_aload_n hx hb dX1_pass_72 rfl (lv_at hl 1 rfl) ?_
          refine q_getF (v := .ref (ad 1)) hx hb hts hin1 hown hK hP 0 (by decide) lk10 (fun _ h => h) rfl dX1_pass_73 ?_
          refine lv_dup hx hb dX1_pass_76 rfl ?_
          refine q_getS (v := .int (((xX1_remember R F o q).2) 1 0)) hx hb hts hin0 hown hK hP 1 st_1 0 (by decide) lk52 (fun _ h => h) rfl dX1_pass_77 ?_
          refine lv_iload_n hx hb dX1_pass_80 rfl (lv_at hl 2 rfl) ?_
          refine lv_iadd hx hb dX1_pass_81 ?_
          refine q_putS hx hb hts hin0 hown hK hI hP hS 1 st_1 0 (by decide) lk52 (fun _ h => h) dX1_pass_82 (fun H locs hP hS => ?_)
          have hP : WP D cI cS ad R1 (sR ((xX1_remember R F o q).2) 1 0 ((((xX1_remember R F o q).2) 1 0) + p1)) H := hP
          refine lv_aload_n hx hb dX1_pass_85 rfl (lv_at hl 1 rfl) ?_
          refine q_getF (v := .ref (ad 1)) hx hb hts hin1 hown hK hP 0 (by decide) lk10 (fun _ h => h) rfl dX1_pass_86 ?_
          refine q_getS (v := .int ((sR ((xX1_remember R F o q).2) 1 0 ((((xX1_remember R F o q).2) 1 0) + p1)) 1 0)) hx hb hts hin0 hown hK hP 1 st_1 0 (by decide) lk52 (fun _ h => h) rfl dX1_pass_89 ?_
          have hX : (xX1_pass R F p1 o q) = (((sR ((xX1_remember R F o q).2) 1 0 ((((xX1_remember R F o q).2) 1 0) + p1)) 1 0), R1, (sR ((xX1_remember R F o q).2) 1 0 ((((xX1_remember R F o q).2) 1 0) + p1))) := by rw [← hsp, hX1_pass_37_z]
          exact W.iret (v := ((sR ((xX1_remember R F o q).2) 1 0 ((((xX1_remember R F o q).2) 1 0) + p1)) 1 0)) hx hb hr (fun t ht hW => ⟨by rw [hX], by rw [hX, ht]; with_reducible exact hP, hS.F ht⟩) hS.2.2 dX1_pass_92
        · exact absurd (nI_le (a := 24) (b := k) (by omega) (by omega)) c_40
      · intro n ih H locs ls hz
        obtain ⟨k, R1, hkn, hsp, hP, hS, hl⟩ := hz
        refine lv_iload_n hx hb dX1_pass_37 rfl (lv_at hl 0 rfl) ?_
        refine lv_bipush (v := 24) hx hb dX1_pass_38 (by decide) ?_
        refine lv_icmp_ge (tgt := 72) hx hb dX1_pass_40 (by decide) (fun c_40 => ?_) (fun c_40 => ?_)
        · exact absurd c_40 (nI_ge (a := k) (b := 24) (by omega) (by omega))
        · refine lv_aload_n hx hb dX1_pass_43 rfl (lv_at hl 1 rfl) ?_
          refine q_getF (v := .ref (ad 1)) hx hb hts hin1 hown hK hP 0 (by decide) lk10 (fun _ h => h) rfl dX1_pass_44 ?_
          refine q_getS (v := .ref (ad 2)) hx hb hts hin0 hown hK hP 1 st_1 3 (by decide) lk56 (fun _ h => h) rfl dX1_pass_47 ?_
          refine lv_iload_n hx hb dX1_pass_50 rfl (lv_at hl 0 rfl) ?_
          refine lv_dup2_11 hx hb dX1_pass_51 rfl rfl ?_
          refine q_ildN hx hb hK hP 2 24 (ar_2) k dX1_pass_52 rfl (by omega) (by decide) ?_
          refine lv_aload_n hx hb dX1_pass_53 rfl (lv_at hl 1 rfl) ?_
          refine q_getF (v := .ref (ad 1)) hx hb hts hin1 hown hK hP 0 (by decide) lk10 (fun _ h => h) rfl dX1_pass_54 ?_
          refine q_getS (v := .ref (ad 3)) hx hb hts hin0 hown hK hP 1 st_1 4 (by decide) lk49 (fun _ h => h) rfl dX1_pass_57 ?_
          refine lv_iload_n hx hb dX1_pass_60 rfl (lv_at hl 0 rfl) ?_
          refine q_ildN hx hb hK hP 3 24 (ar_3) k dX1_pass_61 rfl (by omega) (by decide) ?_
          refine lv_iload_n hx hb dX1_pass_62 rfl (lv_at hl 2 rfl) ?_
          refine lv_imul hx hb dX1_pass_63 ?_
          refine lv_iadd hx hb dX1_pass_64 ?_
          refine q_istN hx hb hK hI hP hS 2 24 (ar_2) k dX1_pass_65 rfl (by omega) (by decide) (fun H locs hP hS => ?_)
          have hP : WP D cI cS ad (sR R1 2 k ((R1 2 k) + ((R1 3 k) * p1))) ((xX1_remember R F o q).2) H := hP
          refine lv_iinc (v := (nI (k + 1))) (lv' := [(2, .int (nI (k + 1))), (0, .ref (ad 0)), (1, .int p1)]) hx hb dX1_pass_66 hl (k := 0) rfl (nI_1 k) (by decide) rfl (fun ls hl => ?_)
          refine lv_goto (tgt := 37) hx hb dX1_pass_69 (by decide) ?_
          exact ih _ _ _ ⟨(k + 1), (sR R1 2 k ((R1 2 k) + ((R1 3 k) * p1))), by omega, by rw [← hsp, hX1_pass_37_s], hP, hS, lv_sub hl [0, 1, 2] rfl⟩
    · refine lv_ldc (v := -100002) hx hb hown lk55 dX1_pass_28 ?_
      have hX : (xX1_pass R F p1 o q) = ((-100002 : Int32), R, F) := by unfold xX1_pass; rw [if_neg c_7, if_neg c_25]
      exact W.iret (v := (-100002 : Int32)) hx hb hr (fun t ht hW => ⟨by rw [hX], by rw [hX, ht]; with_reducible exact hP, hS.F ht⟩) hS.2.2 dX1_pass_30
  · refine lv_ldc (v := -100001) hx hb hown lk45 dX1_pass_10 ?_
    have hX : (xX1_pass R F p1 o q) = ((-100001 : Int32), R, F) := by unfold xX1_pass; rw [if_pos c_7]
    exact W.iret (v := (-100001 : Int32)) hx hb hr (fun t ht hW => ⟨by rw [hX], by rw [hX, ht]; with_reducible exact hP, hS.F ht⟩) hS.2.2 dX1_pass_12

def xX1_tare (R F : Nat → Nat → Int32) (p1 : Int32) (o : Nat) (q : Nat) : Int32 × (Nat → Nat → Int32) × (Nat → Nat → Int32) :=
  (if (xX1_isCell p1) = (0 : Int32) then ((-100001 : Int32), R, F) else (if ((xX1_weighAll R F) 15 (p1).toNatClampNeg) ≤ ((xX1_weighAll R F) 2 (p1).toNatClampNeg) then (((sR (sR ((xX1_remember (xX1_weighAll R F) F o q).1) 4 ((p1).toNatClampNeg) (((xX1_remember (xX1_weighAll R F) F o q).1) 15 (p1).toNatClampNeg)) 5 ((p1).toNatClampNeg) (((xX1_remember (xX1_weighAll R F) F o q).2) 1 0)) 4 (p1).toNatClampNeg), (sR (sR ((xX1_remember (xX1_weighAll R F) F o q).1) 4 ((p1).toNatClampNeg) (((xX1_remember (xX1_weighAll R F) F o q).1) 15 (p1).toNatClampNeg)) 5 ((p1).toNatClampNeg) (((xX1_remember (xX1_weighAll R F) F o q).2) 1 0)), ((xX1_remember (xX1_weighAll R F) F o q).2)) else ((-100002 : Int32), (xX1_weighAll R F), F)))
set_option maxHeartbeats 4000000 in
set_option maxRecDepth 100000 in
theorem mX1_tare (l : Launch) (D : va_G) (cI cS : ClassId) (ad : Nat → Nat) (hI : Inj ad) (R F : Nat → Nat → Int32) (p1 : Int32) (o : Nat) (q : Nat) (ho : o < 5) (hq : q ≤ 5) (hF0 : F 0 0 = nI o) (hF1 : F 0 1 = nI q) : Met l yX1_tare wsX1_tare ({ frames := 4, cells := 0, slots := 0, locals := 111 }) (PW D cI cS ad R F [.ref (ad 0), .int p1]) (QI D cI cS ad ((xX1_tare R F p1 o q).1) ((xX1_tare R F p1 o q).2.1) ((xX1_tare R F p1 o q).2.2)) 0 0 (AA ad) := by
  refine Met.ofW (cc := cX1_tare) (maxL := 2) (ret := (some .int)) (by decide) rfl ?_
  intro p e s m args below meth c s₁ B hml hv
  obtain ⟨rfl, hP, hK⟩ := hv
  have hx := B.exec
  have hb := B.bytes
  have hr := B.returns
  have hts := atoms_spec (ws := wsX1_tare) B.pre
  have hown : s.vm.findClass RX1 = some m.cls := findClass_of_methodNamed B.named
  have hlocks := B.notSynchronized
  have hS : va_S (AA ad) s.heap s.heap [] := va_S.rf
  have hl := lv_entry ([.ref (ad 0), .int p1]) (n := 2) (Nat.le_of_ble_eq_true rfl)
  rw [lg_entry_eq]
  generalize (lg_sl ([.ref (ad 0), .int p1]) ++ List.replicate (2 - (lg_sl ([.ref (ad 0), .int p1])).length) Slot.unset).toArray = ls at hl ⊢
  have hl : lv_has ls 2 [(0, .ref (ad 0)), (1, .int p1)] := hl
  have lk45 := hts (.constant RX1 45 (-100001)) (by decide +kernel)
  have lk27 := hts (.fieldLink RX1 27 "FerryFloor" "readings" "[I") (by decide +kernel)
  have lk10 := hts (.fieldLink RX1 10 "FerryFloor" "now" "LFerryFloor$State;") (by decide +kernel)
  have lk56 := hts (.fieldLink RX1 56 "FerryFloor$State" "zeros" "[I") (by decide +kernel)
  have lk55 := hts (.constant RX1 55 (-100002)) (by decide +kernel)
  have lk62 := hts (.fieldLink RX1 62 "FerryFloor$State" "tares" "[I") (by decide +kernel)
  have lk65 := hts (.fieldLink RX1 65 "FerryFloor$State" "tareMinutes" "[I") (by decide +kernel)
  have lk52 := hts (.fieldLink RX1 52 "FerryFloor$State" "minute" "I") (by decide +kernel)
  have hin1 : ∀ w ∈ u_ws RX1 TX1 7, w ∈ wsX1_tare := by decide +kernel
  have hin0 : ∀ w ∈ u_ws RX0 TX0 15, w ∈ wsX1_tare := by decide +kernel
  refine lv_iload_n hx hb dX1_tare_0 rfl (lv_at hl 1 rfl) ?_
  refine q_callS (va_runS (As := [.int p1]) (rest := []) ⟨hx, hb, hml, hown, hts⟩ (mX1_isCell l D cI cS ad hI R F p1) (va_cwS 1 hts gX1_tare_X1_isCell rfl rfl rfl (by decide +kernel) ⟨Nat.le_of_ble_eq_true rfl, Nat.le_of_ble_eq_true rfl⟩) (PW_preS hK hP) rfl rfl hl.1 rfl (lv_room (Nat.le_of_ble_eq_true rfl)) dX1_tare_1 ⟨Nat.zero_le _, Nat.zero_le _⟩) ?_
  refine lv_if_ne (tgt := 10) hx hb dX1_tare_4 (by decide) (fun c_4 => ?_) (fun c_4 => ?_)
  · refine lv_aload_n hx hb dX1_tare_10 rfl (lv_at hl 0 rfl) ?_
    refine q_callV (va_runV (As := []) (rest := []) ⟨hx, hb, hml, hown, hts⟩ (mX1_weighAll l D cI cS ad hI R F) (cwV 0 hts gX1_tare_X1_weighAll rfl rfl rfl (by decide +kernel) ⟨Nat.le_of_ble_eq_true rfl, Nat.le_of_ble_eq_true rfl⟩) (PW_preV (i := 0) (by decide) CC_0 rfl rfl hK hP) rfl rfl hl.1 rfl (lv_room (Nat.le_of_ble_eq_true rfl)) dX1_tare_11 ⟨Nat.zero_le _, Nat.zero_le _⟩) hS (fun H locs hP hS => ?_)
    refine lv_aload_n hx hb dX1_tare_14 rfl (lv_at hl 0 rfl) ?_
    refine q_getF (v := .ref (ad 15)) hx hb hts hin1 hown hK hP 4 (by decide) lk27 (fun _ h => h) rfl dX1_tare_15 ?_
    refine lv_iload_n hx hb dX1_tare_18 rfl (lv_at hl 1 rfl) ?_
    refine q_ild hx hb hK hP 15 24 (ar_15) dX1_tare_19 (by first | assumption | exact isCell_in (by assumption) | exact isWalker_in (by assumption) | exact isAboard_in (by assumption) | exact isPair_in1 (by assumption) | exact isPair_in2 (by assumption) | exact isWithin7_in (by assumption) | exact vp_in_nI (by omega) (by decide)) ?_
    refine lv_aload_n hx hb dX1_tare_20 rfl (lv_at hl 0 rfl) ?_
    refine q_getF (v := .ref (ad 1)) hx hb hts hin1 hown hK hP 0 (by decide) lk10 (fun _ h => h) rfl dX1_tare_21 ?_
    refine q_getS (v := .ref (ad 2)) hx hb hts hin0 hown hK hP 1 st_1 3 (by decide) lk56 (fun _ h => h) rfl dX1_tare_24 ?_
    refine lv_iload_n hx hb dX1_tare_27 rfl (lv_at hl 1 rfl) ?_
    refine q_ild hx hb hK hP 2 24 (ar_2) dX1_tare_28 (by first | assumption | exact isCell_in (by assumption) | exact isWalker_in (by assumption) | exact isAboard_in (by assumption) | exact isPair_in1 (by assumption) | exact isPair_in2 (by assumption) | exact isWithin7_in (by assumption) | exact vp_in_nI (by omega) (by decide)) ?_
    refine lv_icmp_le (tgt := 35) hx hb dX1_tare_29 (by decide) (fun c_29 => ?_) (fun c_29 => ?_)
    · refine lv_aload_n hx hb dX1_tare_35 rfl (lv_at hl 0 rfl) ?_
      refine q_callV (va_runV (As := []) (rest := []) ⟨hx, hb, hml, hown, hts⟩ (mX1_remember l D cI cS ad hI (xX1_weighAll R F) F o q ho hq hF0 hF1) (cwV 0 hts gX1_tare_X1_remember rfl rfl rfl (by decide +kernel) ⟨Nat.le_of_ble_eq_true rfl, Nat.le_of_ble_eq_true rfl⟩) (PW_preV (i := 0) (by decide) CC_0 rfl rfl hK hP) rfl rfl hl.1 rfl (lv_room (Nat.le_of_ble_eq_true rfl)) dX1_tare_36 ⟨Nat.zero_le _, Nat.zero_le _⟩) hS (fun H locs hP hS => ?_)
      refine lv_aload_n hx hb dX1_tare_39 rfl (lv_at hl 0 rfl) ?_
      refine q_getF (v := .ref (ad 1)) hx hb hts hin1 hown hK hP 0 (by decide) lk10 (fun _ h => h) rfl dX1_tare_40 ?_
      refine q_getS (v := .ref (ad 4)) hx hb hts hin0 hown hK hP 1 st_1 5 (by decide) lk62 (fun _ h => h) rfl dX1_tare_43 ?_
      refine lv_iload_n hx hb dX1_tare_46 rfl (lv_at hl 1 rfl) ?_
      refine lv_aload_n hx hb dX1_tare_47 rfl (lv_at hl 0 rfl) ?_
      refine q_getF (v := .ref (ad 15)) hx hb hts hin1 hown hK hP 4 (by decide) lk27 (fun _ h => h) rfl dX1_tare_48 ?_
      refine lv_iload_n hx hb dX1_tare_51 rfl (lv_at hl 1 rfl) ?_
      refine q_ild hx hb hK hP 15 24 (ar_15) dX1_tare_52 (by first | assumption | exact isCell_in (by assumption) | exact isWalker_in (by assumption) | exact isAboard_in (by assumption) | exact isPair_in1 (by assumption) | exact isPair_in2 (by assumption) | exact isWithin7_in (by assumption) | exact vp_in_nI (by omega) (by decide)) ?_
      refine q_ist hx hb hK hI hP hS 4 24 (ar_4) dX1_tare_53 (by first | assumption | exact isCell_in (by assumption) | exact isWalker_in (by assumption) | exact isAboard_in (by assumption) | exact isPair_in1 (by assumption) | exact isPair_in2 (by assumption) | exact isWithin7_in (by assumption) | exact vp_in_nI (by omega) (by decide)) (fun H locs hP hS => ?_)
      have hP : WP D cI cS ad (sR ((xX1_remember (xX1_weighAll R F) F o q).1) 4 ((p1).toNatClampNeg) (((xX1_remember (xX1_weighAll R F) F o q).1) 15 (p1).toNatClampNeg)) ((xX1_remember (xX1_weighAll R F) F o q).2) H := hP
      refine lv_aload_n hx hb dX1_tare_54 rfl (lv_at hl 0 rfl) ?_
      refine q_getF (v := .ref (ad 1)) hx hb hts hin1 hown hK hP 0 (by decide) lk10 (fun _ h => h) rfl dX1_tare_55 ?_
      refine q_getS (v := .ref (ad 5)) hx hb hts hin0 hown hK hP 1 st_1 6 (by decide) lk65 (fun _ h => h) rfl dX1_tare_58 ?_
      refine lv_iload_n hx hb dX1_tare_61 rfl (lv_at hl 1 rfl) ?_
      refine lv_aload_n hx hb dX1_tare_62 rfl (lv_at hl 0 rfl) ?_
      refine q_getF (v := .ref (ad 1)) hx hb hts hin1 hown hK hP 0 (by decide) lk10 (fun _ h => h) rfl dX1_tare_63 ?_
      refine q_getS (v := .int (((xX1_remember (xX1_weighAll R F) F o q).2) 1 0)) hx hb hts hin0 hown hK hP 1 st_1 0 (by decide) lk52 (fun _ h => h) rfl dX1_tare_66 ?_
      refine q_ist hx hb hK hI hP hS 5 24 (ar_5) dX1_tare_69 (by first | assumption | exact isCell_in (by assumption) | exact isWalker_in (by assumption) | exact isAboard_in (by assumption) | exact isPair_in1 (by assumption) | exact isPair_in2 (by assumption) | exact isWithin7_in (by assumption) | exact vp_in_nI (by omega) (by decide)) (fun H locs hP hS => ?_)
      have hP : WP D cI cS ad (sR (sR ((xX1_remember (xX1_weighAll R F) F o q).1) 4 ((p1).toNatClampNeg) (((xX1_remember (xX1_weighAll R F) F o q).1) 15 (p1).toNatClampNeg)) 5 ((p1).toNatClampNeg) (((xX1_remember (xX1_weighAll R F) F o q).2) 1 0)) ((xX1_remember (xX1_weighAll R F) F o q).2) H := hP
      refine lv_aload_n hx hb dX1_tare_70 rfl (lv_at hl 0 rfl) ?_
      refine q_getF (v := .ref (ad 1)) hx hb hts hin1 hown hK hP 0 (by decide) lk10 (fun _ h => h) rfl dX1_tare_71 ?_
      refine q_getS (v := .ref (ad 4)) hx hb hts hin0 hown hK hP 1 st_1 5 (by decide) lk62 (fun _ h => h) rfl dX1_tare_74 ?_
      refine lv_iload_n hx hb dX1_tare_77 rfl (lv_at hl 1 rfl) ?_
      refine q_ild hx hb hK hP 4 24 (ar_4) dX1_tare_78 (by first | assumption | exact isCell_in (by assumption) | exact isWalker_in (by assumption) | exact isAboard_in (by assumption) | exact isPair_in1 (by assumption) | exact isPair_in2 (by assumption) | exact isWithin7_in (by assumption) | exact vp_in_nI (by omega) (by decide)) ?_
      have hX : (xX1_tare R F p1 o q) = (((sR (sR ((xX1_remember (xX1_weighAll R F) F o q).1) 4 ((p1).toNatClampNeg) (((xX1_remember (xX1_weighAll R F) F o q).1) 15 (p1).toNatClampNeg)) 5 ((p1).toNatClampNeg) (((xX1_remember (xX1_weighAll R F) F o q).2) 1 0)) 4 (p1).toNatClampNeg), (sR (sR ((xX1_remember (xX1_weighAll R F) F o q).1) 4 ((p1).toNatClampNeg) (((xX1_remember (xX1_weighAll R F) F o q).1) 15 (p1).toNatClampNeg)) 5 ((p1).toNatClampNeg) (((xX1_remember (xX1_weighAll R F) F o q).2) 1 0)), ((xX1_remember (xX1_weighAll R F) F o q).2)) := by unfold xX1_tare; rw [if_neg c_4, if_pos c_29]
      exact W.iret (v := ((sR (sR ((xX1_remember (xX1_weighAll R F) F o q).1) 4 ((p1).toNatClampNeg) (((xX1_remember (xX1_weighAll R F) F o q).1) 15 (p1).toNatClampNeg)) 5 ((p1).toNatClampNeg) (((xX1_remember (xX1_weighAll R F) F o q).2) 1 0)) 4 (p1).toNatClampNeg)) hx hb hr (fun t ht hW => ⟨by rw [hX], by rw [hX, ht]; with_reducible exact hP, hS.F ht⟩) hS.2.2 dX1_tare_79
    · refine lv_ldc (v := -100002) hx hb hown lk55 dX1_tare_32 ?_
      have hX : (xX1_tare R F p1 o q) = ((-100002 : Int32), (xX1_weighAll R F), F) := by unfold xX1_tare; rw [if_neg c_4, if_neg c_29]
      exact W.iret (v := (-100002 : Int32)) hx hb hr (fun t ht hW => ⟨by rw [hX], by rw [hX, ht]; with_reducible exact hP, hS.F ht⟩) hS.2.2 dX1_tare_34
  · refine lv_ldc (v := -100001) hx hb hown lk45 dX1_tare_7 ?_
    have hX : (xX1_tare R F p1 o q) = ((-100001 : Int32), R, F) := by unfold xX1_tare; rw [if_pos c_4]
    exact W.iret (v := (-100001 : Int32)) hx hb hr (fun t ht hW => ⟨by rw [hX], by rw [hX, ht]; with_reducible exact hP, hS.F ht⟩) hS.2.2 dX1_tare_9

def xX1_board (R F : Nat → Nat → Int32) (p1 : Int32) (p2 : Int32) (p3 : Int32) (o : Nat) (q : Nat) : Int32 × (Nat → Nat → Int32) × (Nat → Nat → Int32) :=
  (if (xX1_isWeight p1) = (0 : Int32) then ((-100001 : Int32), R, F) else (if (xX1_isWeight p2) = (0 : Int32) then ((-100001 : Int32), R, F) else (if (xX1_isCell p3) = (0 : Int32) then ((-100001 : Int32), R, F) else (if (xX1_whoIsOn R F 7 p3) = (-100009 : Int32) then (if (xX1_isWithin (F 1 2) (0 : Int32) (7 : Int32)) = (0 : Int32) then ((-100003 : Int32), R, F) else ((F 1 2), (sR (sR (sR (sR ((xX1_remember R F o q).1) 6 (((F 1 2)).toNatClampNeg) p1) 7 (((F 1 2)).toNatClampNeg) p3) 8 (((F 1 2)).toNatClampNeg) p2) 9 (((F 1 2)).toNatClampNeg) p3), (sR ((xX1_remember R F o q).2) 1 2 ((((xX1_remember R F o q).2) 1 2) + (1 : Int32))))) else ((-100002 : Int32), R, F)))))
set_option maxHeartbeats 4000000 in
set_option maxRecDepth 100000 in
theorem mX1_board (l : Launch) (D : va_G) (cI cS : ClassId) (ad : Nat → Nat) (hI : Inj ad) (R F : Nat → Nat → Int32) (p1 : Int32) (p2 : Int32) (p3 : Int32) (o : Nat) (q : Nat) (ho : o < 5) (hq : q ≤ 5) (hF0 : F 0 0 = nI o) (hF1 : F 0 1 = nI q) : Met l yX1_board wsX1_board ({ frames := 4, cells := 0, slots := 0, locals := 111 }) (PW D cI cS ad R F [.ref (ad 0), .int p1, .int p2, .int p3]) (QI D cI cS ad ((xX1_board R F p1 p2 p3 o q).1) ((xX1_board R F p1 p2 p3 o q).2.1) ((xX1_board R F p1 p2 p3 o q).2.2)) 0 0 (AA ad) := by
  refine Met.ofW (cc := cX1_board) (maxL := 5) (ret := (some .int)) (by decide) rfl ?_
  intro p e s m args below meth c s₁ B hml hv
  obtain ⟨rfl, hP, hK⟩ := hv
  have hx := B.exec
  have hb := B.bytes
  have hr := B.returns
  have hts := atoms_spec (ws := wsX1_board) B.pre
  have hown : s.vm.findClass RX1 = some m.cls := findClass_of_methodNamed B.named
  have hlocks := B.notSynchronized
  have hS : va_S (AA ad) s.heap s.heap [] := va_S.rf
  have hl := lv_entry ([.ref (ad 0), .int p1, .int p2, .int p3]) (n := 5) (Nat.le_of_ble_eq_true rfl)
  rw [lg_entry_eq]
  generalize (lg_sl ([.ref (ad 0), .int p1, .int p2, .int p3]) ++ List.replicate (5 - (lg_sl ([.ref (ad 0), .int p1, .int p2, .int p3])).length) Slot.unset).toArray = ls at hl ⊢
  have hl : lv_has ls 5 [(0, .ref (ad 0)), (1, .int p1), (2, .int p2), (3, .int p3)] := hl
  have lk45 := hts (.constant RX1 45 (-100001)) (by decide +kernel)
  have lk10 := hts (.fieldLink RX1 10 "FerryFloor" "now" "LFerryFloor$State;") (by decide +kernel)
  have lk71 := hts (.fieldLink RX1 71 "FerryFloor$State" "places" "[I") (by decide +kernel)
  have lk78 := hts (.constant RX1 78 (-100009)) (by decide +kernel)
  have lk55 := hts (.constant RX1 55 (-100002)) (by decide +kernel)
  have lk79 := hts (.fieldLink RX1 79 "FerryFloor$State" "walkers" "I") (by decide +kernel)
  have lk82 := hts (.constant RX1 82 (-100003)) (by decide +kernel)
  have lk83 := hts (.fieldLink RX1 83 "FerryFloor$State" "weights" "[I") (by decide +kernel)
  have lk86 := hts (.fieldLink RX1 86 "FerryFloor$State" "bookWeights" "[I") (by decide +kernel)
  have lk89 := hts (.fieldLink RX1 89 "FerryFloor$State" "bookPlaces" "[I") (by decide +kernel)
  have hin1 : ∀ w ∈ u_ws RX1 TX1 7, w ∈ wsX1_board := by decide +kernel
  have hin0 : ∀ w ∈ u_ws RX0 TX0 15, w ∈ wsX1_board := by decide +kernel
  refine lv_iload_n hx hb dX1_board_0 rfl (lv_at hl 1 rfl) ?_
  refine q_callS (va_runS (As := [.int p1]) (rest := []) ⟨hx, hb, hml, hown, hts⟩ (mX1_isWeight l D cI cS ad hI R F p1) (va_cwS 1 hts gX1_board_X1_isWeight rfl rfl rfl (by decide +kernel) ⟨Nat.le_of_ble_eq_true rfl, Nat.le_of_ble_eq_true rfl⟩) (PW_preS hK hP) rfl rfl hl.1 rfl (lv_room (Nat.le_of_ble_eq_true rfl)) dX1_board_1 ⟨Nat.zero_le _, Nat.zero_le _⟩) ?_
  refine lv_if_eq (tgt := 21) hx hb dX1_board_4 (by decide) (fun c_4 => ?_) (fun c_4 => ?_)
  · refine lv_ldc (v := -100001) hx hb hown lk45 dX1_board_21 ?_
    have hX : (xX1_board R F p1 p2 p3 o q) = ((-100001 : Int32), R, F) := by unfold xX1_board; rw [if_pos c_4]
    exact W.iret (v := (-100001 : Int32)) hx hb hr (fun t ht hW => ⟨by rw [hX], by rw [hX, ht]; with_reducible exact hP, hS.F ht⟩) hS.2.2 dX1_board_23
  · refine lv_iload_n hx hb dX1_board_7 rfl (lv_at hl 2 rfl) ?_
    refine q_callS (va_runS (As := [.int p2]) (rest := []) ⟨hx, hb, hml, hown, hts⟩ (mX1_isWeight l D cI cS ad hI R F p2) (va_cwS 1 hts gX1_board_X1_isWeight rfl rfl rfl (by decide +kernel) ⟨Nat.le_of_ble_eq_true rfl, Nat.le_of_ble_eq_true rfl⟩) (PW_preS hK hP) rfl rfl hl.1 rfl (lv_room (Nat.le_of_ble_eq_true rfl)) dX1_board_8 ⟨Nat.zero_le _, Nat.zero_le _⟩) ?_
    refine lv_if_eq (tgt := 21) hx hb dX1_board_11 (by decide) (fun c_11 => ?_) (fun c_11 => ?_)
    · refine lv_ldc (v := -100001) hx hb hown lk45 dX1_board_21 ?_
      have hX : (xX1_board R F p1 p2 p3 o q) = ((-100001 : Int32), R, F) := by unfold xX1_board; rw [if_neg c_4, if_pos c_11]
      exact W.iret (v := (-100001 : Int32)) hx hb hr (fun t ht hW => ⟨by rw [hX], by rw [hX, ht]; with_reducible exact hP, hS.F ht⟩) hS.2.2 dX1_board_23
    · refine lv_iload_n hx hb dX1_board_14 rfl (lv_at hl 3 rfl) ?_
      refine q_callS (va_runS (As := [.int p3]) (rest := []) ⟨hx, hb, hml, hown, hts⟩ (mX1_isCell l D cI cS ad hI R F p3) (va_cwS 1 hts gX1_board_X1_isCell rfl rfl rfl (by decide +kernel) ⟨Nat.le_of_ble_eq_true rfl, Nat.le_of_ble_eq_true rfl⟩) (PW_preS hK hP) rfl rfl hl.1 rfl (lv_room (Nat.le_of_ble_eq_true rfl)) dX1_board_15 ⟨Nat.zero_le _, Nat.zero_le _⟩) ?_
      refine lv_if_ne (tgt := 24) hx hb dX1_board_18 (by decide) (fun c_18 => ?_) (fun c_18 => ?_)
      · refine lv_aload_n hx hb dX1_board_24 rfl (lv_at hl 0 rfl) ?_
        refine q_getF (v := .ref (ad 1)) hx hb hts hin1 hown hK hP 0 (by decide) lk10 (fun _ h => h) rfl dX1_board_25 ?_
        refine q_getS (v := .ref (ad 7)) hx hb hts hin0 hown hK hP 1 st_1 8 (by decide) lk71 (fun _ h => h) rfl dX1_board_28 ?_
        refine lv_iload_n hx hb dX1_board_31 rfl (lv_at hl 3 rfl) ?_
        refine q_callS (va_runS (As := [.ref (ad 7), .int p3]) (rest := []) ⟨hx, hb, hml, hown, hts⟩ (mX1_whoIsOn l D cI cS ad hI R F 7 p3 (ar_7)) (va_cwS 2 hts gX1_board_X1_whoIsOn rfl rfl rfl (by decide +kernel) ⟨Nat.le_of_ble_eq_true rfl, Nat.le_of_ble_eq_true rfl⟩) (PW_preS hK hP) rfl rfl hl.1 rfl (lv_room (Nat.le_of_ble_eq_true rfl)) dX1_board_32 ⟨Nat.zero_le _, Nat.zero_le _⟩) ?_
        refine lv_ldc (v := -100009) hx hb hown lk78 dX1_board_35 ?_
        refine lv_icmp_eq (tgt := 43) hx hb dX1_board_37 (by decide) (fun c_37 => ?_) (fun c_37 => ?_)
        · refine lv_aload_n hx hb dX1_board_43 rfl (lv_at hl 0 rfl) ?_
          refine q_getF (v := .ref (ad 1)) hx hb hts hin1 hown hK hP 0 (by decide) lk10 (fun _ h => h) rfl dX1_board_44 ?_
          refine q_getS (v := .int (F 1 2)) hx hb hts hin0 hown hK hP 1 st_1 2 (by decide) lk79 (fun _ h => h) rfl dX1_board_47 ?_
          refine lv_istore (lv' := [(4, .int (F 1 2)), (0, .ref (ad 0)), (1, .int p1), (2, .int p2), (3, .int p3)]) hx hb dX1_board_50 hl (by decide) rfl (fun ls hl => ?_)
          refine lv_iload hx hb dX1_board_52 (lv_at hl 0 rfl) ?_
          refine lv_iconst (v := 0) hx hb dX1_board_54 (by decide) ?_
          refine lv_bipush (v := 7) hx hb dX1_board_55 (by decide) ?_
          refine q_callS (va_runS (As := [.int (F 1 2), .int (0 : Int32), .int (7 : Int32)]) (rest := []) ⟨hx, hb, hml, hown, hts⟩ (mX1_isWithin l D cI cS ad hI R F (F 1 2) (0 : Int32) (7 : Int32)) (va_cwS 3 hts gX1_board_X1_isWithin rfl rfl rfl (by decide +kernel) ⟨Nat.le_of_ble_eq_true rfl, Nat.le_of_ble_eq_true rfl⟩) (PW_preS hK hP) rfl rfl hl.1 rfl (lv_room (Nat.le_of_ble_eq_true rfl)) dX1_board_57 ⟨Nat.zero_le _, Nat.zero_le _⟩) ?_
          refine lv_if_ne (tgt := 66) hx hb dX1_board_60 (by decide) (fun c_60 => ?_) (fun c_60 => ?_)
          · refine lv_aload_n hx hb dX1_board_66 rfl (lv_at hl 1 rfl) ?_
            refine q_callV (va_runV (As := []) (rest := []) ⟨hx, hb, hml, hown, hts⟩ (mX1_remember l D cI cS ad hI R F o q ho hq hF0 hF1) (cwV 0 hts gX1_board_X1_remember rfl rfl rfl (by decide +kernel) ⟨Nat.le_of_ble_eq_true rfl, Nat.le_of_ble_eq_true rfl⟩) (PW_preV (i := 0) (by decide) CC_0 rfl rfl hK hP) rfl rfl hl.1 rfl (lv_room (Nat.le_of_ble_eq_true rfl)) dX1_board_67 ⟨Nat.zero_le _, Nat.zero_le _⟩) hS (fun H locs hP hS => ?_)
            refine lv_aload_n hx hb dX1_board_70 rfl (lv_at hl 1 rfl) ?_
            refine q_getF (v := .ref (ad 1)) hx hb hts hin1 hown hK hP 0 (by decide) lk10 (fun _ h => h) rfl dX1_board_71 ?_
            refine q_getS (v := .ref (ad 6)) hx hb hts hin0 hown hK hP 1 st_1 7 (by decide) lk83 (fun _ h => h) rfl dX1_board_74 ?_
            refine lv_iload hx hb dX1_board_77 (lv_at hl 0 rfl) ?_
            refine lv_iload_n hx hb dX1_board_79 rfl (lv_at hl 2 rfl) ?_
            refine q_ist hx hb hK hI hP hS 6 8 (ar_6) dX1_board_80 (by first | assumption | exact isCell_in (by assumption) | exact isWalker_in (by assumption) | exact isAboard_in (by assumption) | exact isPair_in1 (by assumption) | exact isPair_in2 (by assumption) | exact isWithin7_in (by assumption) | exact vp_in_nI (by omega) (by decide)) (fun H locs hP hS => ?_)
            have hP : WP D cI cS ad (sR ((xX1_remember R F o q).1) 6 (((F 1 2)).toNatClampNeg) p1) ((xX1_remember R F o q).2) H := hP
            refine lv_aload_n hx hb dX1_board_81 rfl (lv_at hl 1 rfl) ?_
            refine q_getF (v := .ref (ad 1)) hx hb hts hin1 hown hK hP 0 (by decide) lk10 (fun _ h => h) rfl dX1_board_82 ?_
            refine q_getS (v := .ref (ad 7)) hx hb hts hin0 hown hK hP 1 st_1 8 (by decide) lk71 (fun _ h => h) rfl dX1_board_85 ?_
            refine lv_iload hx hb dX1_board_88 (lv_at hl 0 rfl) ?_
            refine lv_iload_n hx hb dX1_board_90 rfl (lv_at hl 4 rfl) ?_
            refine q_ist hx hb hK hI hP hS 7 8 (ar_7) dX1_board_91 (by first | assumption | exact isCell_in (by assumption) | exact isWalker_in (by assumption) | exact isAboard_in (by assumption) | exact isPair_in1 (by assumption) | exact isPair_in2 (by assumption) | exact isWithin7_in (by assumption) | exact vp_in_nI (by omega) (by decide)) (fun H locs hP hS => ?_)
            have hP : WP D cI cS ad (sR (sR ((xX1_remember R F o q).1) 6 (((F 1 2)).toNatClampNeg) p1) 7 (((F 1 2)).toNatClampNeg) p3) ((xX1_remember R F o q).2) H := hP
            refine lv_aload_n hx hb dX1_board_92 rfl (lv_at hl 1 rfl) ?_
            refine q_getF (v := .ref (ad 1)) hx hb hts hin1 hown hK hP 0 (by decide) lk10 (fun _ h => h) rfl dX1_board_93 ?_
            refine q_getS (v := .ref (ad 8)) hx hb hts hin0 hown hK hP 1 st_1 9 (by decide) lk86 (fun _ h => h) rfl dX1_board_96 ?_
            refine lv_iload hx hb dX1_board_99 (lv_at hl 0 rfl) ?_
            refine lv_iload_n hx hb dX1_board_101 rfl (lv_at hl 3 rfl) ?_
            refine q_ist hx hb hK hI hP hS 8 8 (ar_8) dX1_board_102 (by first | assumption | exact isCell_in (by assumption) | exact isWalker_in (by assumption) | exact isAboard_in (by assumption) | exact isPair_in1 (by assumption) | exact isPair_in2 (by assumption) | exact isWithin7_in (by assumption) | exact vp_in_nI (by omega) (by decide)) (fun H locs hP hS => ?_)
            have hP : WP D cI cS ad (sR (sR (sR ((xX1_remember R F o q).1) 6 (((F 1 2)).toNatClampNeg) p1) 7 (((F 1 2)).toNatClampNeg) p3) 8 (((F 1 2)).toNatClampNeg) p2) ((xX1_remember R F o q).2) H := hP
            refine lv_aload_n hx hb dX1_board_103 rfl (lv_at hl 1 rfl) ?_
            refine q_getF (v := .ref (ad 1)) hx hb hts hin1 hown hK hP 0 (by decide) lk10 (fun _ h => h) rfl dX1_board_104 ?_
            refine q_getS (v := .ref (ad 9)) hx hb hts hin0 hown hK hP 1 st_1 10 (by decide) lk89 (fun _ h => h) rfl dX1_board_107 ?_
            refine lv_iload hx hb dX1_board_110 (lv_at hl 0 rfl) ?_
            refine lv_iload_n hx hb dX1_board_112 rfl (lv_at hl 4 rfl) ?_
            refine q_ist hx hb hK hI hP hS 9 8 (ar_9) dX1_board_113 (by first | assumption | exact isCell_in (by assumption) | exact isWalker_in (by assumption) | exact isAboard_in (by assumption) | exact isPair_in1 (by assumption) | exact isPair_in2 (by assumption) | exact isWithin7_in (by assumption) | exact vp_in_nI (by omega) (by decide)) (fun H locs hP hS => ?_)
            have hP : WP D cI cS ad (sR (sR (sR (sR ((xX1_remember R F o q).1) 6 (((F 1 2)).toNatClampNeg) p1) 7 (((F 1 2)).toNatClampNeg) p3) 8 (((F 1 2)).toNatClampNeg) p2) 9 (((F 1 2)).toNatClampNeg) p3) ((xX1_remember R F o q).2) H := hP
            refine lv_aload_n hx hb dX1_board_114 rfl (lv_at hl 1 rfl) ?_
            refine q_getF (v := .ref (ad 1)) hx hb hts hin1 hown hK hP 0 (by decide) lk10 (fun _ h => h) rfl dX1_board_115 ?_
            refine lv_dup hx hb dX1_board_118 rfl ?_
            refine q_getS (v := .int (((xX1_remember R F o q).2) 1 2)) hx hb hts hin0 hown hK hP 1 st_1 2 (by decide) lk79 (fun _ h => h) rfl dX1_board_119 ?_
            refine lv_iconst (v := 1) hx hb dX1_board_122 (by decide) ?_
            refine lv_iadd hx hb dX1_board_123 ?_
            refine q_putS hx hb hts hin0 hown hK hI hP hS 1 st_1 2 (by decide) lk79 (fun _ h => h) dX1_board_124 (fun H locs hP hS => ?_)
            have hP : WP D cI cS ad (sR (sR (sR (sR ((xX1_remember R F o q).1) 6 (((F 1 2)).toNatClampNeg) p1) 7 (((F 1 2)).toNatClampNeg) p3) 8 (((F 1 2)).toNatClampNeg) p2) 9 (((F 1 2)).toNatClampNeg) p3) (sR ((xX1_remember R F o q).2) 1 2 ((((xX1_remember R F o q).2) 1 2) + (1 : Int32))) H := hP
            refine lv_iload hx hb dX1_board_127 (lv_at hl 0 rfl) ?_
            have hX : (xX1_board R F p1 p2 p3 o q) = ((F 1 2), (sR (sR (sR (sR ((xX1_remember R F o q).1) 6 (((F 1 2)).toNatClampNeg) p1) 7 (((F 1 2)).toNatClampNeg) p3) 8 (((F 1 2)).toNatClampNeg) p2) 9 (((F 1 2)).toNatClampNeg) p3), (sR ((xX1_remember R F o q).2) 1 2 ((((xX1_remember R F o q).2) 1 2) + (1 : Int32)))) := by unfold xX1_board; rw [if_neg c_4, if_neg c_11, if_neg c_18, if_pos c_37, if_neg c_60]
            exact W.iret (v := (F 1 2)) hx hb hr (fun t ht hW => ⟨by rw [hX], by rw [hX, ht]; with_reducible exact hP, hS.F ht⟩) hS.2.2 dX1_board_129
          · refine lv_ldc (v := -100003) hx hb hown lk82 dX1_board_63 ?_
            have hX : (xX1_board R F p1 p2 p3 o q) = ((-100003 : Int32), R, F) := by unfold xX1_board; rw [if_neg c_4, if_neg c_11, if_neg c_18, if_pos c_37, if_pos c_60]
            exact W.iret (v := (-100003 : Int32)) hx hb hr (fun t ht hW => ⟨by rw [hX], by rw [hX, ht]; with_reducible exact hP, hS.F ht⟩) hS.2.2 dX1_board_65
        · refine lv_ldc (v := -100002) hx hb hown lk55 dX1_board_40 ?_
          have hX : (xX1_board R F p1 p2 p3 o q) = ((-100002 : Int32), R, F) := by unfold xX1_board; rw [if_neg c_4, if_neg c_11, if_neg c_18, if_neg c_37]
          exact W.iret (v := (-100002 : Int32)) hx hb hr (fun t ht hW => ⟨by rw [hX], by rw [hX, ht]; with_reducible exact hP, hS.F ht⟩) hS.2.2 dX1_board_42
      · refine lv_ldc (v := -100001) hx hb hown lk45 dX1_board_21 ?_
        have hX : (xX1_board R F p1 p2 p3 o q) = ((-100001 : Int32), R, F) := by unfold xX1_board; rw [if_neg c_4, if_neg c_11, if_pos c_18]
        exact W.iret (v := (-100001 : Int32)) hx hb hr (fun t ht hW => ⟨by rw [hX], by rw [hX, ht]; with_reducible exact hP, hS.F ht⟩) hS.2.2 dX1_board_23

def xX1_walk (R F : Nat → Nat → Int32) (p1 : Int32) (p2 : Int32) (o : Nat) (q : Nat) : Int32 × (Nat → Nat → Int32) × (Nat → Nat → Int32) :=
  (if (xX1_isWalker R F p1) = (0 : Int32) then ((-100001 : Int32), R, F) else (if (xX1_isCell p2) = (0 : Int32) then ((-100001 : Int32), R, F) else (if (xX1_isAboard R F p1) = (0 : Int32) then ((-100002 : Int32), R, F) else (if (xX1_whoIsOn R F 7 p2) = (-100009 : Int32) then (if (xX1_isWalker (sR ((xX1_remember R F o q).1) 7 ((p1).toNatClampNeg) p2) ((xX1_remember R F o q).2) (xX1_whoIsOn ((xX1_remember R F o q).1) ((xX1_remember R F o q).2) 9 (((xX1_remember R F o q).1) 7 (p1).toNatClampNeg))) = (0 : Int32) then ((xX1_whoIsOn ((xX1_remember R F o q).1) ((xX1_remember R F o q).2) 9 (((xX1_remember R F o q).1) 7 (p1).toNatClampNeg)), (sR ((xX1_remember R F o q).1) 7 ((p1).toNatClampNeg) p2), ((xX1_remember R F o q).2)) else ((xX1_whoIsOn ((xX1_remember R F o q).1) ((xX1_remember R F o q).2) 9 (((xX1_remember R F o q).1) 7 (p1).toNatClampNeg)), (sR (sR ((xX1_remember R F o q).1) 7 ((p1).toNatClampNeg) p2) 9 (((xX1_whoIsOn ((xX1_remember R F o q).1) ((xX1_remember R F o q).2) 9 (((xX1_remember R F o q).1) 7 (p1).toNatClampNeg))).toNatClampNeg) p2), ((xX1_remember R F o q).2))) else ((-100002 : Int32), R, F)))))
set_option maxHeartbeats 4000000 in
set_option maxRecDepth 100000 in
theorem mX1_walk (l : Launch) (D : va_G) (cI cS : ClassId) (ad : Nat → Nat) (hI : Inj ad) (R F : Nat → Nat → Int32) (p1 : Int32) (p2 : Int32) (o : Nat) (q : Nat) (ho : o < 5) (hq : q ≤ 5) (hF0 : F 0 0 = nI o) (hF1 : F 0 1 = nI q) : Met l yX1_walk wsX1_walk ({ frames := 4, cells := 0, slots := 0, locals := 111 }) (PW D cI cS ad R F [.ref (ad 0), .int p1, .int p2]) (QI D cI cS ad ((xX1_walk R F p1 p2 o q).1) ((xX1_walk R F p1 p2 o q).2.1) ((xX1_walk R F p1 p2 o q).2.2)) 0 0 (AA ad) := by
  refine Met.ofW (cc := cX1_walk) (maxL := 4) (ret := (some .int)) (by decide) rfl ?_
  intro p e s m args below meth c s₁ B hml hv
  obtain ⟨rfl, hP, hK⟩ := hv
  have hx := B.exec
  have hb := B.bytes
  have hr := B.returns
  have hts := atoms_spec (ws := wsX1_walk) B.pre
  have hown : s.vm.findClass RX1 = some m.cls := findClass_of_methodNamed B.named
  have hlocks := B.notSynchronized
  have hS : va_S (AA ad) s.heap s.heap [] := va_S.rf
  have hl := lv_entry ([.ref (ad 0), .int p1, .int p2]) (n := 4) (Nat.le_of_ble_eq_true rfl)
  rw [lg_entry_eq]
  generalize (lg_sl ([.ref (ad 0), .int p1, .int p2]) ++ List.replicate (4 - (lg_sl ([.ref (ad 0), .int p1, .int p2])).length) Slot.unset).toArray = ls at hl ⊢
  have hl : lv_has ls 4 [(0, .ref (ad 0)), (1, .int p1), (2, .int p2)] := hl
  have lk45 := hts (.constant RX1 45 (-100001)) (by decide +kernel)
  have lk10 := hts (.fieldLink RX1 10 "FerryFloor" "now" "LFerryFloor$State;") (by decide +kernel)
  have lk71 := hts (.fieldLink RX1 71 "FerryFloor$State" "places" "[I") (by decide +kernel)
  have lk78 := hts (.constant RX1 78 (-100009)) (by decide +kernel)
  have lk55 := hts (.constant RX1 55 (-100002)) (by decide +kernel)
  have lk89 := hts (.fieldLink RX1 89 "FerryFloor$State" "bookPlaces" "[I") (by decide +kernel)
  have hin1 : ∀ w ∈ u_ws RX1 TX1 7, w ∈ wsX1_walk := by decide +kernel
  have hin0 : ∀ w ∈ u_ws RX0 TX0 15, w ∈ wsX1_walk := by decide +kernel
  refine lv_aload_n hx hb dX1_walk_0 rfl (lv_at hl 0 rfl) ?_
  refine lv_iload_n hx hb dX1_walk_1 rfl (lv_at hl 1 rfl) ?_
  refine q_callS (va_runV (As := [.int p1]) (rest := []) ⟨hx, hb, hml, hown, hts⟩ (mX1_isWalker l D cI cS ad hI R F p1) (cwV 1 hts gX1_walk_X1_isWalker rfl rfl rfl (by decide +kernel) ⟨Nat.le_of_ble_eq_true rfl, Nat.le_of_ble_eq_true rfl⟩) (PW_preV (i := 0) (by decide) CC_0 rfl rfl hK hP) rfl rfl hl.1 rfl (lv_room (Nat.le_of_ble_eq_true rfl)) dX1_walk_2 ⟨Nat.zero_le _, Nat.zero_le _⟩) ?_
  refine lv_if_eq (tgt := 15) hx hb dX1_walk_5 (by decide) (fun c_5 => ?_) (fun c_5 => ?_)
  · refine lv_ldc (v := -100001) hx hb hown lk45 dX1_walk_15 ?_
    have hX : (xX1_walk R F p1 p2 o q) = ((-100001 : Int32), R, F) := by unfold xX1_walk; rw [if_pos c_5]
    exact W.iret (v := (-100001 : Int32)) hx hb hr (fun t ht hW => ⟨by rw [hX], by rw [hX, ht]; with_reducible exact hP, hS.F ht⟩) hS.2.2 dX1_walk_17
  · refine lv_iload_n hx hb dX1_walk_8 rfl (lv_at hl 2 rfl) ?_
    refine q_callS (va_runS (As := [.int p2]) (rest := []) ⟨hx, hb, hml, hown, hts⟩ (mX1_isCell l D cI cS ad hI R F p2) (va_cwS 1 hts gX1_walk_X1_isCell rfl rfl rfl (by decide +kernel) ⟨Nat.le_of_ble_eq_true rfl, Nat.le_of_ble_eq_true rfl⟩) (PW_preS hK hP) rfl rfl hl.1 rfl (lv_room (Nat.le_of_ble_eq_true rfl)) dX1_walk_9 ⟨Nat.zero_le _, Nat.zero_le _⟩) ?_
    refine lv_if_ne (tgt := 18) hx hb dX1_walk_12 (by decide) (fun c_12 => ?_) (fun c_12 => ?_)
    · refine lv_aload_n hx hb dX1_walk_18 rfl (lv_at hl 0 rfl) ?_
      refine lv_iload_n hx hb dX1_walk_19 rfl (lv_at hl 1 rfl) ?_
      refine q_callS (va_runV (As := [.int p1]) (rest := []) ⟨hx, hb, hml, hown, hts⟩ (mX1_isAboard l D cI cS ad hI R F p1) (cwV 1 hts gX1_walk_X1_isAboard rfl rfl rfl (by decide +kernel) ⟨Nat.le_of_ble_eq_true rfl, Nat.le_of_ble_eq_true rfl⟩) (PW_preV (i := 0) (by decide) CC_0 rfl rfl hK hP) rfl rfl hl.1 rfl (lv_room (Nat.le_of_ble_eq_true rfl)) dX1_walk_20 ⟨Nat.zero_le _, Nat.zero_le _⟩) ?_
      refine lv_if_eq (tgt := 42) hx hb dX1_walk_23 (by decide) (fun c_23 => ?_) (fun c_23 => ?_)
      · refine lv_ldc (v := -100002) hx hb hown lk55 dX1_walk_42 ?_
        have hX : (xX1_walk R F p1 p2 o q) = ((-100002 : Int32), R, F) := by unfold xX1_walk; rw [if_neg c_5, if_neg c_12, if_pos c_23]
        exact W.iret (v := (-100002 : Int32)) hx hb hr (fun t ht hW => ⟨by rw [hX], by rw [hX, ht]; with_reducible exact hP, hS.F ht⟩) hS.2.2 dX1_walk_44
      · refine lv_aload_n hx hb dX1_walk_26 rfl (lv_at hl 0 rfl) ?_
        refine q_getF (v := .ref (ad 1)) hx hb hts hin1 hown hK hP 0 (by decide) lk10 (fun _ h => h) rfl dX1_walk_27 ?_
        refine q_getS (v := .ref (ad 7)) hx hb hts hin0 hown hK hP 1 st_1 8 (by decide) lk71 (fun _ h => h) rfl dX1_walk_30 ?_
        refine lv_iload_n hx hb dX1_walk_33 rfl (lv_at hl 2 rfl) ?_
        refine q_callS (va_runS (As := [.ref (ad 7), .int p2]) (rest := []) ⟨hx, hb, hml, hown, hts⟩ (mX1_whoIsOn l D cI cS ad hI R F 7 p2 (ar_7)) (va_cwS 2 hts gX1_walk_X1_whoIsOn rfl rfl rfl (by decide +kernel) ⟨Nat.le_of_ble_eq_true rfl, Nat.le_of_ble_eq_true rfl⟩) (PW_preS hK hP) rfl rfl hl.1 rfl (lv_room (Nat.le_of_ble_eq_true rfl)) dX1_walk_34 ⟨Nat.zero_le _, Nat.zero_le _⟩) ?_
        refine lv_ldc (v := -100009) hx hb hown lk78 dX1_walk_37 ?_
        refine lv_icmp_eq (tgt := 45) hx hb dX1_walk_39 (by decide) (fun c_39 => ?_) (fun c_39 => ?_)
        · refine lv_aload_n hx hb dX1_walk_45 rfl (lv_at hl 0 rfl) ?_
          refine q_callV (va_runV (As := []) (rest := []) ⟨hx, hb, hml, hown, hts⟩ (mX1_remember l D cI cS ad hI R F o q ho hq hF0 hF1) (cwV 0 hts gX1_walk_X1_remember rfl rfl rfl (by decide +kernel) ⟨Nat.le_of_ble_eq_true rfl, Nat.le_of_ble_eq_true rfl⟩) (PW_preV (i := 0) (by decide) CC_0 rfl rfl hK hP) rfl rfl hl.1 rfl (lv_room (Nat.le_of_ble_eq_true rfl)) dX1_walk_46 ⟨Nat.zero_le _, Nat.zero_le _⟩) hS (fun H locs hP hS => ?_)
          refine lv_aload_n hx hb dX1_walk_49 rfl (lv_at hl 0 rfl) ?_
          refine q_getF (v := .ref (ad 1)) hx hb hts hin1 hown hK hP 0 (by decide) lk10 (fun _ h => h) rfl dX1_walk_50 ?_
          refine q_getS (v := .ref (ad 9)) hx hb hts hin0 hown hK hP 1 st_1 10 (by decide) lk89 (fun _ h => h) rfl dX1_walk_53 ?_
          refine lv_aload_n hx hb dX1_walk_56 rfl (lv_at hl 0 rfl) ?_
          refine q_getF (v := .ref (ad 1)) hx hb hts hin1 hown hK hP 0 (by decide) lk10 (fun _ h => h) rfl dX1_walk_57 ?_
          refine q_getS (v := .ref (ad 7)) hx hb hts hin0 hown hK hP 1 st_1 8 (by decide) lk71 (fun _ h => h) rfl dX1_walk_60 ?_
          refine lv_iload_n hx hb dX1_walk_63 rfl (lv_at hl 1 rfl) ?_
          refine q_ild hx hb hK hP 7 8 (ar_7) dX1_walk_64 (by first | assumption | exact isCell_in (by assumption) | exact isWalker_in (by assumption) | exact isAboard_in (by assumption) | exact isPair_in1 (by assumption) | exact isPair_in2 (by assumption) | exact isWithin7_in (by assumption) | exact vp_in_nI (by omega) (by decide)) ?_
          refine q_callS (va_runS (As := [.ref (ad 9), .int (((xX1_remember R F o q).1) 7 (p1).toNatClampNeg)]) (rest := []) ⟨hx, hb, hml, hown, hts⟩ (mX1_whoIsOn l D cI cS ad hI ((xX1_remember R F o q).1) ((xX1_remember R F o q).2) 9 (((xX1_remember R F o q).1) 7 (p1).toNatClampNeg) (ar_9)) (va_cwS 2 hts gX1_walk_X1_whoIsOn rfl rfl rfl (by decide +kernel) ⟨Nat.le_of_ble_eq_true rfl, Nat.le_of_ble_eq_true rfl⟩) (PW_preS hK hP) rfl rfl hl.1 rfl (lv_room (Nat.le_of_ble_eq_true rfl)) dX1_walk_65 ⟨Nat.zero_le _, Nat.zero_le _⟩) ?_
          refine lv_istore_n (lv' := [(3, .int (xX1_whoIsOn ((xX1_remember R F o q).1) ((xX1_remember R F o q).2) 9 (((xX1_remember R F o q).1) 7 (p1).toNatClampNeg))), (0, .ref (ad 0)), (1, .int p1), (2, .int p2)]) hx hb dX1_walk_68 rfl hl (by decide) rfl (fun ls hl => ?_)
          refine lv_aload_n hx hb dX1_walk_69 rfl (lv_at hl 1 rfl) ?_
          refine q_getF (v := .ref (ad 1)) hx hb hts hin1 hown hK hP 0 (by decide) lk10 (fun _ h => h) rfl dX1_walk_70 ?_
          refine q_getS (v := .ref (ad 7)) hx hb hts hin0 hown hK hP 1 st_1 8 (by decide) lk71 (fun _ h => h) rfl dX1_walk_73 ?_
          refine lv_iload_n hx hb dX1_walk_76 rfl (lv_at hl 2 rfl) ?_
          refine lv_iload_n hx hb dX1_walk_77 rfl (lv_at hl 3 rfl) ?_
          refine q_ist hx hb hK hI hP hS 7 8 (ar_7) dX1_walk_78 (by first | assumption | exact isCell_in (by assumption) | exact isWalker_in (by assumption) | exact isAboard_in (by assumption) | exact isPair_in1 (by assumption) | exact isPair_in2 (by assumption) | exact isWithin7_in (by assumption) | exact vp_in_nI (by omega) (by decide)) (fun H locs hP hS => ?_)
          have hP : WP D cI cS ad (sR ((xX1_remember R F o q).1) 7 ((p1).toNatClampNeg) p2) ((xX1_remember R F o q).2) H := hP
          refine lv_aload_n hx hb dX1_walk_79 rfl (lv_at hl 1 rfl) ?_
          refine lv_iload_n hx hb dX1_walk_80 rfl (lv_at hl 0 rfl) ?_
          refine q_callS (va_runV (As := [.int (xX1_whoIsOn ((xX1_remember R F o q).1) ((xX1_remember R F o q).2) 9 (((xX1_remember R F o q).1) 7 (p1).toNatClampNeg))]) (rest := []) ⟨hx, hb, hml, hown, hts⟩ (mX1_isWalker l D cI cS ad hI (sR ((xX1_remember R F o q).1) 7 ((p1).toNatClampNeg) p2) ((xX1_remember R F o q).2) (xX1_whoIsOn ((xX1_remember R F o q).1) ((xX1_remember R F o q).2) 9 (((xX1_remember R F o q).1) 7 (p1).toNatClampNeg))) (cwV 1 hts gX1_walk_X1_isWalker rfl rfl rfl (by decide +kernel) ⟨Nat.le_of_ble_eq_true rfl, Nat.le_of_ble_eq_true rfl⟩) (PW_preV (i := 0) (by decide) CC_0 rfl rfl hK hP) rfl rfl hl.1 rfl (lv_room (Nat.le_of_ble_eq_true rfl)) dX1_walk_81 ⟨Nat.zero_le _, Nat.zero_le _⟩) ?_
          refine lv_if_eq (tgt := 97) hx hb dX1_walk_84 (by decide) (fun c_84 => ?_) (fun c_84 => ?_)
          · refine lv_iload_n hx hb dX1_walk_97 rfl (lv_at hl 0 rfl) ?_
            have hX : (xX1_walk R F p1 p2 o q) = ((xX1_whoIsOn ((xX1_remember R F o q).1) ((xX1_remember R F o q).2) 9 (((xX1_remember R F o q).1) 7 (p1).toNatClampNeg)), (sR ((xX1_remember R F o q).1) 7 ((p1).toNatClampNeg) p2), ((xX1_remember R F o q).2)) := by unfold xX1_walk; rw [if_neg c_5, if_neg c_12, if_neg c_23, if_pos c_39, if_pos c_84]
            exact W.iret (v := (xX1_whoIsOn ((xX1_remember R F o q).1) ((xX1_remember R F o q).2) 9 (((xX1_remember R F o q).1) 7 (p1).toNatClampNeg))) hx hb hr (fun t ht hW => ⟨by rw [hX], by rw [hX, ht]; with_reducible exact hP, hS.F ht⟩) hS.2.2 dX1_walk_98
          · refine lv_aload_n hx hb dX1_walk_87 rfl (lv_at hl 1 rfl) ?_
            refine q_getF (v := .ref (ad 1)) hx hb hts hin1 hown hK hP 0 (by decide) lk10 (fun _ h => h) rfl dX1_walk_88 ?_
            refine q_getS (v := .ref (ad 9)) hx hb hts hin0 hown hK hP 1 st_1 10 (by decide) lk89 (fun _ h => h) rfl dX1_walk_91 ?_
            refine lv_iload_n hx hb dX1_walk_94 rfl (lv_at hl 0 rfl) ?_
            refine lv_iload_n hx hb dX1_walk_95 rfl (lv_at hl 3 rfl) ?_
            refine q_ist hx hb hK hI hP hS 9 8 (ar_9) dX1_walk_96 (by first | assumption | exact isCell_in (by assumption) | exact isWalker_in (by assumption) | exact isAboard_in (by assumption) | exact isPair_in1 (by assumption) | exact isPair_in2 (by assumption) | exact isWithin7_in (by assumption) | exact vp_in_nI (by omega) (by decide)) (fun H locs hP hS => ?_)
            have hP : WP D cI cS ad (sR (sR ((xX1_remember R F o q).1) 7 ((p1).toNatClampNeg) p2) 9 (((xX1_whoIsOn ((xX1_remember R F o q).1) ((xX1_remember R F o q).2) 9 (((xX1_remember R F o q).1) 7 (p1).toNatClampNeg))).toNatClampNeg) p2) ((xX1_remember R F o q).2) H := hP
            refine lv_iload_n hx hb dX1_walk_97 rfl (lv_at hl 0 rfl) ?_
            have hX : (xX1_walk R F p1 p2 o q) = ((xX1_whoIsOn ((xX1_remember R F o q).1) ((xX1_remember R F o q).2) 9 (((xX1_remember R F o q).1) 7 (p1).toNatClampNeg)), (sR (sR ((xX1_remember R F o q).1) 7 ((p1).toNatClampNeg) p2) 9 (((xX1_whoIsOn ((xX1_remember R F o q).1) ((xX1_remember R F o q).2) 9 (((xX1_remember R F o q).1) 7 (p1).toNatClampNeg))).toNatClampNeg) p2), ((xX1_remember R F o q).2)) := by unfold xX1_walk; rw [if_neg c_5, if_neg c_12, if_neg c_23, if_pos c_39, if_neg c_84]
            exact W.iret (v := (xX1_whoIsOn ((xX1_remember R F o q).1) ((xX1_remember R F o q).2) 9 (((xX1_remember R F o q).1) 7 (p1).toNatClampNeg))) hx hb hr (fun t ht hW => ⟨by rw [hX], by rw [hX, ht]; with_reducible exact hP, hS.F ht⟩) hS.2.2 dX1_walk_98
        · refine lv_ldc (v := -100002) hx hb hown lk55 dX1_walk_42 ?_
          have hX : (xX1_walk R F p1 p2 o q) = ((-100002 : Int32), R, F) := by unfold xX1_walk; rw [if_neg c_5, if_neg c_12, if_neg c_23, if_neg c_39]
          exact W.iret (v := (-100002 : Int32)) hx hb hr (fun t ht hW => ⟨by rw [hX], by rw [hX, ht]; with_reducible exact hP, hS.F ht⟩) hS.2.2 dX1_walk_44
    · refine lv_ldc (v := -100001) hx hb hown lk45 dX1_walk_15 ?_
      have hX : (xX1_walk R F p1 p2 o q) = ((-100001 : Int32), R, F) := by unfold xX1_walk; rw [if_neg c_5, if_pos c_12]
      exact W.iret (v := (-100001 : Int32)) hx hb hr (fun t ht hW => ⟨by rw [hX], by rw [hX, ht]; with_reducible exact hP, hS.F ht⟩) hS.2.2 dX1_walk_17

def xX1_swap (R F : Nat → Nat → Int32) (p1 : Int32) (p2 : Int32) (o : Nat) (q : Nat) : Int32 × (Nat → Nat → Int32) × (Nat → Nat → Int32) :=
  (if (xX1_isPair R F p1 p2) = (0 : Int32) then ((-100001 : Int32), R, F) else (if (xX1_isAboard R F p1) = (0 : Int32) then ((-100002 : Int32), R, F) else (if (xX1_isAboard R F p2) = (0 : Int32) then ((-100002 : Int32), R, F) else (((xX1_errorWith (xX1_exchange ((xX1_remember R F o q).1) ((xX1_remember R F o q).2) 7 p1 p2) ((xX1_remember R F o q).2) 9).1), ((xX1_errorWith (xX1_exchange ((xX1_remember R F o q).1) ((xX1_remember R F o q).2) 7 p1 p2) ((xX1_remember R F o q).2) 9).2), ((xX1_remember R F o q).2)))))
set_option maxHeartbeats 4000000 in
set_option maxRecDepth 100000 in
theorem mX1_swap (l : Launch) (D : va_G) (cI cS : ClassId) (ad : Nat → Nat) (hI : Inj ad) (R F : Nat → Nat → Int32) (p1 : Int32) (p2 : Int32) (o : Nat) (q : Nat) (ho : o < 5) (hq : q ≤ 5) (hF0 : F 0 0 = nI o) (hF1 : F 0 1 = nI q) : Met l yX1_swap wsX1_swap ({ frames := 5, cells := 0, slots := 0, locals := 115 }) (PW D cI cS ad R F [.ref (ad 0), .int p1, .int p2]) (QI D cI cS ad ((xX1_swap R F p1 p2 o q).1) ((xX1_swap R F p1 p2 o q).2.1) ((xX1_swap R F p1 p2 o q).2.2)) 0 0 (AA ad) := by
  refine Met.ofW (cc := cX1_swap) (maxL := 3) (ret := (some .int)) (by decide) rfl ?_
  intro p e s m args below meth c s₁ B hml hv
  obtain ⟨rfl, hP, hK⟩ := hv
  have hx := B.exec
  have hb := B.bytes
  have hr := B.returns
  have hts := atoms_spec (ws := wsX1_swap) B.pre
  have hown : s.vm.findClass RX1 = some m.cls := findClass_of_methodNamed B.named
  have hlocks := B.notSynchronized
  have hS : va_S (AA ad) s.heap s.heap [] := va_S.rf
  have hl := lv_entry ([.ref (ad 0), .int p1, .int p2]) (n := 3) (Nat.le_of_ble_eq_true rfl)
  rw [lg_entry_eq]
  generalize (lg_sl ([.ref (ad 0), .int p1, .int p2]) ++ List.replicate (3 - (lg_sl ([.ref (ad 0), .int p1, .int p2])).length) Slot.unset).toArray = ls at hl ⊢
  have hl : lv_has ls 3 [(0, .ref (ad 0)), (1, .int p1), (2, .int p2)] := hl
  have lk45 := hts (.constant RX1 45 (-100001)) (by decide +kernel)
  have lk55 := hts (.constant RX1 55 (-100002)) (by decide +kernel)
  have lk10 := hts (.fieldLink RX1 10 "FerryFloor" "now" "LFerryFloor$State;") (by decide +kernel)
  have lk71 := hts (.fieldLink RX1 71 "FerryFloor$State" "places" "[I") (by decide +kernel)
  have lk89 := hts (.fieldLink RX1 89 "FerryFloor$State" "bookPlaces" "[I") (by decide +kernel)
  have hin1 : ∀ w ∈ u_ws RX1 TX1 7, w ∈ wsX1_swap := by decide +kernel
  have hin0 : ∀ w ∈ u_ws RX0 TX0 15, w ∈ wsX1_swap := by decide +kernel
  refine lv_aload_n hx hb dX1_swap_0 rfl (lv_at hl 0 rfl) ?_
  refine lv_iload_n hx hb dX1_swap_1 rfl (lv_at hl 1 rfl) ?_
  refine lv_iload_n hx hb dX1_swap_2 rfl (lv_at hl 2 rfl) ?_
  refine q_callS (va_runV (As := [.int p1, .int p2]) (rest := []) ⟨hx, hb, hml, hown, hts⟩ (mX1_isPair l D cI cS ad hI R F p1 p2) (cwV 2 hts gX1_swap_X1_isPair rfl rfl rfl (by decide +kernel) ⟨Nat.le_of_ble_eq_true rfl, Nat.le_of_ble_eq_true rfl⟩) (PW_preV (i := 0) (by decide) CC_0 rfl rfl hK hP) rfl rfl hl.1 rfl (lv_room (Nat.le_of_ble_eq_true rfl)) dX1_swap_3 ⟨Nat.zero_le _, Nat.zero_le _⟩) ?_
  refine lv_if_ne (tgt := 12) hx hb dX1_swap_6 (by decide) (fun c_6 => ?_) (fun c_6 => ?_)
  · refine lv_aload_n hx hb dX1_swap_12 rfl (lv_at hl 0 rfl) ?_
    refine lv_iload_n hx hb dX1_swap_13 rfl (lv_at hl 1 rfl) ?_
    refine q_callS (va_runV (As := [.int p1]) (rest := []) ⟨hx, hb, hml, hown, hts⟩ (mX1_isAboard l D cI cS ad hI R F p1) (cwV 1 hts gX1_swap_X1_isAboard rfl rfl rfl (by decide +kernel) ⟨Nat.le_of_ble_eq_true rfl, Nat.le_of_ble_eq_true rfl⟩) (PW_preV (i := 0) (by decide) CC_0 rfl rfl hK hP) rfl rfl hl.1 rfl (lv_room (Nat.le_of_ble_eq_true rfl)) dX1_swap_14 ⟨Nat.zero_le _, Nat.zero_le _⟩) ?_
    refine lv_if_eq (tgt := 28) hx hb dX1_swap_17 (by decide) (fun c_17 => ?_) (fun c_17 => ?_)
    · refine lv_ldc (v := -100002) hx hb hown lk55 dX1_swap_28 ?_
      have hX : (xX1_swap R F p1 p2 o q) = ((-100002 : Int32), R, F) := by unfold xX1_swap; rw [if_neg c_6, if_pos c_17]
      exact W.iret (v := (-100002 : Int32)) hx hb hr (fun t ht hW => ⟨by rw [hX], by rw [hX, ht]; with_reducible exact hP, hS.F ht⟩) hS.2.2 dX1_swap_30
    · refine lv_aload_n hx hb dX1_swap_20 rfl (lv_at hl 0 rfl) ?_
      refine lv_iload_n hx hb dX1_swap_21 rfl (lv_at hl 2 rfl) ?_
      refine q_callS (va_runV (As := [.int p2]) (rest := []) ⟨hx, hb, hml, hown, hts⟩ (mX1_isAboard l D cI cS ad hI R F p2) (cwV 1 hts gX1_swap_X1_isAboard rfl rfl rfl (by decide +kernel) ⟨Nat.le_of_ble_eq_true rfl, Nat.le_of_ble_eq_true rfl⟩) (PW_preV (i := 0) (by decide) CC_0 rfl rfl hK hP) rfl rfl hl.1 rfl (lv_room (Nat.le_of_ble_eq_true rfl)) dX1_swap_22 ⟨Nat.zero_le _, Nat.zero_le _⟩) ?_
      refine lv_if_ne (tgt := 31) hx hb dX1_swap_25 (by decide) (fun c_25 => ?_) (fun c_25 => ?_)
      · refine lv_aload_n hx hb dX1_swap_31 rfl (lv_at hl 0 rfl) ?_
        refine q_callV (va_runV (As := []) (rest := []) ⟨hx, hb, hml, hown, hts⟩ (mX1_remember l D cI cS ad hI R F o q ho hq hF0 hF1) (cwV 0 hts gX1_swap_X1_remember rfl rfl rfl (by decide +kernel) ⟨Nat.le_of_ble_eq_true rfl, Nat.le_of_ble_eq_true rfl⟩) (PW_preV (i := 0) (by decide) CC_0 rfl rfl hK hP) rfl rfl hl.1 rfl (lv_room (Nat.le_of_ble_eq_true rfl)) dX1_swap_32 ⟨Nat.zero_le _, Nat.zero_le _⟩) hS (fun H locs hP hS => ?_)
        refine lv_aload_n hx hb dX1_swap_35 rfl (lv_at hl 0 rfl) ?_
        refine q_getF (v := .ref (ad 1)) hx hb hts hin1 hown hK hP 0 (by decide) lk10 (fun _ h => h) rfl dX1_swap_36 ?_
        refine q_getS (v := .ref (ad 7)) hx hb hts hin0 hown hK hP 1 st_1 8 (by decide) lk71 (fun _ h => h) rfl dX1_swap_39 ?_
        refine lv_iload_n hx hb dX1_swap_42 rfl (lv_at hl 1 rfl) ?_
        refine lv_iload_n hx hb dX1_swap_43 rfl (lv_at hl 2 rfl) ?_
        refine q_callV (va_runS (As := [.ref (ad 7), .int p1, .int p2]) (rest := []) ⟨hx, hb, hml, hown, hts⟩ (mX1_exchange l D cI cS ad hI ((xX1_remember R F o q).1) ((xX1_remember R F o q).2) 7 p1 p2 (ar_7) (by first | assumption | exact isCell_in (by assumption) | exact isWalker_in (by assumption) | exact isAboard_in (by assumption) | exact isPair_in1 (by assumption) | exact isPair_in2 (by assumption) | exact isWithin7_in (by assumption) | exact vp_in_nI (by omega) (by decide)) (by first | assumption | exact isCell_in (by assumption) | exact isWalker_in (by assumption) | exact isAboard_in (by assumption) | exact isPair_in1 (by assumption) | exact isPair_in2 (by assumption) | exact isWithin7_in (by assumption) | exact vp_in_nI (by omega) (by decide))) (va_cwS 3 hts gX1_swap_X1_exchange rfl rfl rfl (by decide +kernel) ⟨Nat.le_of_ble_eq_true rfl, Nat.le_of_ble_eq_true rfl⟩) (PW_preS hK hP) rfl rfl hl.1 rfl (lv_room (Nat.le_of_ble_eq_true rfl)) dX1_swap_44 ⟨Nat.zero_le _, Nat.zero_le _⟩) hS (fun H locs hP hS => ?_)
        refine lv_aload_n hx hb dX1_swap_47 rfl (lv_at hl 0 rfl) ?_
        refine lv_aload_n hx hb dX1_swap_48 rfl (lv_at hl 0 rfl) ?_
        refine q_getF (v := .ref (ad 1)) hx hb hts hin1 hown hK hP 0 (by decide) lk10 (fun _ h => h) rfl dX1_swap_49 ?_
        refine q_getS (v := .ref (ad 9)) hx hb hts hin0 hown hK hP 1 st_1 10 (by decide) lk89 (fun _ h => h) rfl dX1_swap_52 ?_
        refine q_callI (va_runV (As := [.ref (ad 9)]) (rest := []) ⟨hx, hb, hml, hown, hts⟩ (mX1_errorWith l D cI cS ad hI (xX1_exchange ((xX1_remember R F o q).1) ((xX1_remember R F o q).2) 7 p1 p2) ((xX1_remember R F o q).2) 9 (ar_9)) (cwV 1 hts gX1_swap_X1_errorWith rfl rfl rfl (by decide +kernel) ⟨Nat.le_of_ble_eq_true rfl, Nat.le_of_ble_eq_true rfl⟩) (PW_preV (i := 0) (by decide) CC_0 rfl rfl hK hP) rfl rfl hl.1 rfl (lv_room (Nat.le_of_ble_eq_true rfl)) dX1_swap_55 ⟨Nat.zero_le _, Nat.zero_le _⟩) hS (fun H locs hP hS => ?_)
        have hX : (xX1_swap R F p1 p2 o q) = (((xX1_errorWith (xX1_exchange ((xX1_remember R F o q).1) ((xX1_remember R F o q).2) 7 p1 p2) ((xX1_remember R F o q).2) 9).1), ((xX1_errorWith (xX1_exchange ((xX1_remember R F o q).1) ((xX1_remember R F o q).2) 7 p1 p2) ((xX1_remember R F o q).2) 9).2), ((xX1_remember R F o q).2)) := by unfold xX1_swap; rw [if_neg c_6, if_neg c_17, if_neg c_25]
        exact W.iret (v := ((xX1_errorWith (xX1_exchange ((xX1_remember R F o q).1) ((xX1_remember R F o q).2) 7 p1 p2) ((xX1_remember R F o q).2) 9).1)) hx hb hr (fun t ht hW => ⟨by rw [hX], by rw [hX, ht]; with_reducible exact hP, hS.F ht⟩) hS.2.2 dX1_swap_58
      · refine lv_ldc (v := -100002) hx hb hown lk55 dX1_swap_28 ?_
        have hX : (xX1_swap R F p1 p2 o q) = ((-100002 : Int32), R, F) := by unfold xX1_swap; rw [if_neg c_6, if_neg c_17, if_pos c_25]
        exact W.iret (v := (-100002 : Int32)) hx hb hr (fun t ht hW => ⟨by rw [hX], by rw [hX, ht]; with_reducible exact hP, hS.F ht⟩) hS.2.2 dX1_swap_30
  · refine lv_ldc (v := -100001) hx hb hown lk45 dX1_swap_9 ?_
    have hX : (xX1_swap R F p1 p2 o q) = ((-100001 : Int32), R, F) := by unfold xX1_swap; rw [if_pos c_6]
    exact W.iret (v := (-100001 : Int32)) hx hb hr (fun t ht hW => ⟨by rw [hX], by rw [hX, ht]; with_reducible exact hP, hS.F ht⟩) hS.2.2 dX1_swap_11

def xX1_leave (R F : Nat → Nat → Int32) (p1 : Int32) (o : Nat) (q : Nat) : Int32 × (Nat → Nat → Int32) × (Nat → Nat → Int32) :=
  (if (xX1_isWalker R F p1) = (0 : Int32) then ((-100001 : Int32), R, F) else (if (xX1_isAboard R F p1) = (0 : Int32) then ((-100002 : Int32), R, F) else (if (xX1_isWalker ((xX1_remember R F o q).1) ((xX1_remember R F o q).2) (xX1_whoIsOn ((xX1_remember R F o q).1) ((xX1_remember R F o q).2) 9 (((xX1_remember R F o q).1) 7 (p1).toNatClampNeg))) = (0 : Int32) then (if (((xX1_remember R F o q).1) 7 (p1).toNatClampNeg) = (((xX1_remember R F o q).1) 9 (p1).toNatClampNeg) then ((1 : Int32), (sR (sR ((xX1_remember R F o q).1) 7 ((p1).toNatClampNeg) (-100009 : Int32)) 9 ((p1).toNatClampNeg) (-100009 : Int32)), ((xX1_remember R F o q).2)) else ((0 : Int32), (sR (sR ((xX1_remember R F o q).1) 7 ((p1).toNatClampNeg) (-100009 : Int32)) 9 ((p1).toNatClampNeg) (-100009 : Int32)), ((xX1_remember R F o q).2))) else (if (((xX1_remember R F o q).1) 7 (p1).toNatClampNeg) = (((xX1_remember R F o q).1) 9 (p1).toNatClampNeg) then ((1 : Int32), (sR (sR (sR ((xX1_remember R F o q).1) 9 (((xX1_whoIsOn ((xX1_remember R F o q).1) ((xX1_remember R F o q).2) 9 (((xX1_remember R F o q).1) 7 (p1).toNatClampNeg))).toNatClampNeg) (((xX1_remember R F o q).1) 9 (p1).toNatClampNeg)) 7 ((p1).toNatClampNeg) (-100009 : Int32)) 9 ((p1).toNatClampNeg) (-100009 : Int32)), ((xX1_remember R F o q).2)) else ((0 : Int32), (sR (sR (sR ((xX1_remember R F o q).1) 9 (((xX1_whoIsOn ((xX1_remember R F o q).1) ((xX1_remember R F o q).2) 9 (((xX1_remember R F o q).1) 7 (p1).toNatClampNeg))).toNatClampNeg) (((xX1_remember R F o q).1) 9 (p1).toNatClampNeg)) 7 ((p1).toNatClampNeg) (-100009 : Int32)) 9 ((p1).toNatClampNeg) (-100009 : Int32)), ((xX1_remember R F o q).2))))))
set_option maxHeartbeats 4000000 in
set_option maxRecDepth 100000 in
theorem mX1_leave (l : Launch) (D : va_G) (cI cS : ClassId) (ad : Nat → Nat) (hI : Inj ad) (R F : Nat → Nat → Int32) (p1 : Int32) (o : Nat) (q : Nat) (ho : o < 5) (hq : q ≤ 5) (hF0 : F 0 0 = nI o) (hF1 : F 0 1 = nI q) : Met l yX1_leave wsX1_leave ({ frames := 4, cells := 0, slots := 0, locals := 111 }) (PW D cI cS ad R F [.ref (ad 0), .int p1]) (QI D cI cS ad ((xX1_leave R F p1 o q).1) ((xX1_leave R F p1 o q).2.1) ((xX1_leave R F p1 o q).2.2)) 0 0 (AA ad) := by
  refine Met.ofW (cc := cX1_leave) (maxL := 5) (ret := (some .int)) (by decide) rfl ?_
  intro p e s m args below meth c s₁ B hml hv
  obtain ⟨rfl, hP, hK⟩ := hv
  have hx := B.exec
  have hb := B.bytes
  have hr := B.returns
  have hts := atoms_spec (ws := wsX1_leave) B.pre
  have hown : s.vm.findClass RX1 = some m.cls := findClass_of_methodNamed B.named
  have hlocks := B.notSynchronized
  have hS : va_S (AA ad) s.heap s.heap [] := va_S.rf
  have hl := lv_entry ([.ref (ad 0), .int p1]) (n := 5) (Nat.le_of_ble_eq_true rfl)
  rw [lg_entry_eq]
  generalize (lg_sl ([.ref (ad 0), .int p1]) ++ List.replicate (5 - (lg_sl ([.ref (ad 0), .int p1])).length) Slot.unset).toArray = ls at hl ⊢
  have hl : lv_has ls 5 [(0, .ref (ad 0)), (1, .int p1)] := hl
  have lk45 := hts (.constant RX1 45 (-100001)) (by decide +kernel)
  have lk55 := hts (.constant RX1 55 (-100002)) (by decide +kernel)
  have lk10 := hts (.fieldLink RX1 10 "FerryFloor" "now" "LFerryFloor$State;") (by decide +kernel)
  have lk71 := hts (.fieldLink RX1 71 "FerryFloor$State" "places" "[I") (by decide +kernel)
  have lk89 := hts (.fieldLink RX1 89 "FerryFloor$State" "bookPlaces" "[I") (by decide +kernel)
  have lk78 := hts (.constant RX1 78 (-100009)) (by decide +kernel)
  have hin1 : ∀ w ∈ u_ws RX1 TX1 7, w ∈ wsX1_leave := by decide +kernel
  have hin0 : ∀ w ∈ u_ws RX0 TX0 15, w ∈ wsX1_leave := by decide +kernel
  refine lv_aload_n hx hb dX1_leave_0 rfl (lv_at hl 0 rfl) ?_
  refine lv_iload_n hx hb dX1_leave_1 rfl (lv_at hl 1 rfl) ?_
  refine q_callS (va_runV (As := [.int p1]) (rest := []) ⟨hx, hb, hml, hown, hts⟩ (mX1_isWalker l D cI cS ad hI R F p1) (cwV 1 hts gX1_leave_X1_isWalker rfl rfl rfl (by decide +kernel) ⟨Nat.le_of_ble_eq_true rfl, Nat.le_of_ble_eq_true rfl⟩) (PW_preV (i := 0) (by decide) CC_0 rfl rfl hK hP) rfl rfl hl.1 rfl (lv_room (Nat.le_of_ble_eq_true rfl)) dX1_leave_2 ⟨Nat.zero_le _, Nat.zero_le _⟩) ?_
  refine lv_if_ne (tgt := 11) hx hb dX1_leave_5 (by decide) (fun c_5 => ?_) (fun c_5 => ?_)
  · refine lv_aload_n hx hb dX1_leave_11 rfl (lv_at hl 0 rfl) ?_
    refine lv_iload_n hx hb dX1_leave_12 rfl (lv_at hl 1 rfl) ?_
    refine q_callS (va_runV (As := [.int p1]) (rest := []) ⟨hx, hb, hml, hown, hts⟩ (mX1_isAboard l D cI cS ad hI R F p1) (cwV 1 hts gX1_leave_X1_isAboard rfl rfl rfl (by decide +kernel) ⟨Nat.le_of_ble_eq_true rfl, Nat.le_of_ble_eq_true rfl⟩) (PW_preV (i := 0) (by decide) CC_0 rfl rfl hK hP) rfl rfl hl.1 rfl (lv_room (Nat.le_of_ble_eq_true rfl)) dX1_leave_13 ⟨Nat.zero_le _, Nat.zero_le _⟩) ?_
    refine lv_if_ne (tgt := 22) hx hb dX1_leave_16 (by decide) (fun c_16 => ?_) (fun c_16 => ?_)
    · refine lv_aload_n hx hb dX1_leave_22 rfl (lv_at hl 0 rfl) ?_
      refine q_callV (va_runV (As := []) (rest := []) ⟨hx, hb, hml, hown, hts⟩ (mX1_remember l D cI cS ad hI R F o q ho hq hF0 hF1) (cwV 0 hts gX1_leave_X1_remember rfl rfl rfl (by decide +kernel) ⟨Nat.le_of_ble_eq_true rfl, Nat.le_of_ble_eq_true rfl⟩) (PW_preV (i := 0) (by decide) CC_0 rfl rfl hK hP) rfl rfl hl.1 rfl (lv_room (Nat.le_of_ble_eq_true rfl)) dX1_leave_23 ⟨Nat.zero_le _, Nat.zero_le _⟩) hS (fun H locs hP hS => ?_)
      refine lv_aload_n hx hb dX1_leave_26 rfl (lv_at hl 0 rfl) ?_
      refine q_getF (v := .ref (ad 1)) hx hb hts hin1 hown hK hP 0 (by decide) lk10 (fun _ h => h) rfl dX1_leave_27 ?_
      refine q_getS (v := .ref (ad 7)) hx hb hts hin0 hown hK hP 1 st_1 8 (by decide) lk71 (fun _ h => h) rfl dX1_leave_30 ?_
      refine lv_iload_n hx hb dX1_leave_33 rfl (lv_at hl 1 rfl) ?_
      refine q_ild hx hb hK hP 7 8 (ar_7) dX1_leave_34 (by first | assumption | exact isCell_in (by assumption) | exact isWalker_in (by assumption) | exact isAboard_in (by assumption) | exact isPair_in1 (by assumption) | exact isPair_in2 (by assumption) | exact isWithin7_in (by assumption) | exact vp_in_nI (by omega) (by decide)) ?_
      refine lv_istore_n (lv' := [(2, .int (((xX1_remember R F o q).1) 7 (p1).toNatClampNeg)), (0, .ref (ad 0)), (1, .int p1)]) hx hb dX1_leave_35 rfl hl (by decide) rfl (fun ls hl => ?_)
      refine lv_aload_n hx hb dX1_leave_36 rfl (lv_at hl 1 rfl) ?_
      refine q_getF (v := .ref (ad 1)) hx hb hts hin1 hown hK hP 0 (by decide) lk10 (fun _ h => h) rfl dX1_leave_37 ?_
      refine q_getS (v := .ref (ad 9)) hx hb hts hin0 hown hK hP 1 st_1 10 (by decide) lk89 (fun _ h => h) rfl dX1_leave_40 ?_
      refine lv_iload_n hx hb dX1_leave_43 rfl (lv_at hl 2 rfl) ?_
      refine q_ild hx hb hK hP 9 8 (ar_9) dX1_leave_44 (by first | assumption | exact isCell_in (by assumption) | exact isWalker_in (by assumption) | exact isAboard_in (by assumption) | exact isPair_in1 (by assumption) | exact isPair_in2 (by assumption) | exact isWithin7_in (by assumption) | exact vp_in_nI (by omega) (by decide)) ?_
      refine lv_istore_n (lv' := [(3, .int (((xX1_remember R F o q).1) 9 (p1).toNatClampNeg)), (2, .int (((xX1_remember R F o q).1) 7 (p1).toNatClampNeg)), (0, .ref (ad 0)), (1, .int p1)]) hx hb dX1_leave_45 rfl hl (by decide) rfl (fun ls hl => ?_)
      refine lv_aload_n hx hb dX1_leave_46 rfl (lv_at hl 2 rfl) ?_
      refine q_getF (v := .ref (ad 1)) hx hb hts hin1 hown hK hP 0 (by decide) lk10 (fun _ h => h) rfl dX1_leave_47 ?_
      refine q_getS (v := .ref (ad 9)) hx hb hts hin0 hown hK hP 1 st_1 10 (by decide) lk89 (fun _ h => h) rfl dX1_leave_50 ?_
      refine lv_iload_n hx hb dX1_leave_53 rfl (lv_at hl 1 rfl) ?_
      refine q_callS (va_runS (As := [.ref (ad 9), .int (((xX1_remember R F o q).1) 7 (p1).toNatClampNeg)]) (rest := []) ⟨hx, hb, hml, hown, hts⟩ (mX1_whoIsOn l D cI cS ad hI ((xX1_remember R F o q).1) ((xX1_remember R F o q).2) 9 (((xX1_remember R F o q).1) 7 (p1).toNatClampNeg) (ar_9)) (va_cwS 2 hts gX1_leave_X1_whoIsOn rfl rfl rfl (by decide +kernel) ⟨Nat.le_of_ble_eq_true rfl, Nat.le_of_ble_eq_true rfl⟩) (PW_preS hK hP) rfl rfl hl.1 rfl (lv_room (Nat.le_of_ble_eq_true rfl)) dX1_leave_54 ⟨Nat.zero_le _, Nat.zero_le _⟩) ?_
      refine lv_istore (lv' := [(4, .int (xX1_whoIsOn ((xX1_remember R F o q).1) ((xX1_remember R F o q).2) 9 (((xX1_remember R F o q).1) 7 (p1).toNatClampNeg))), (3, .int (((xX1_remember R F o q).1) 9 (p1).toNatClampNeg)), (2, .int (((xX1_remember R F o q).1) 7 (p1).toNatClampNeg)), (0, .ref (ad 0)), (1, .int p1)]) hx hb dX1_leave_57 hl (by decide) rfl (fun ls hl => ?_)
      refine lv_aload_n hx hb dX1_leave_59 rfl (lv_at hl 3 rfl) ?_
      refine lv_iload hx hb dX1_leave_60 (lv_at hl 0 rfl) ?_
      refine q_callS (va_runV (As := [.int (xX1_whoIsOn ((xX1_remember R F o q).1) ((xX1_remember R F o q).2) 9 (((xX1_remember R F o q).1) 7 (p1).toNatClampNeg))]) (rest := []) ⟨hx, hb, hml, hown, hts⟩ (mX1_isWalker l D cI cS ad hI ((xX1_remember R F o q).1) ((xX1_remember R F o q).2) (xX1_whoIsOn ((xX1_remember R F o q).1) ((xX1_remember R F o q).2) 9 (((xX1_remember R F o q).1) 7 (p1).toNatClampNeg))) (cwV 1 hts gX1_leave_X1_isWalker rfl rfl rfl (by decide +kernel) ⟨Nat.le_of_ble_eq_true rfl, Nat.le_of_ble_eq_true rfl⟩) (PW_preV (i := 0) (by decide) CC_0 rfl rfl hK hP) rfl rfl hl.1 rfl (lv_room (Nat.le_of_ble_eq_true rfl)) dX1_leave_62 ⟨Nat.zero_le _, Nat.zero_le _⟩) ?_
      refine lv_if_eq (tgt := 79) hx hb dX1_leave_65 (by decide) (fun c_65 => ?_) (fun c_65 => ?_)
      · refine lv_aload_n hx hb dX1_leave_79 rfl (lv_at hl 3 rfl) ?_
        refine q_getF (v := .ref (ad 1)) hx hb hts hin1 hown hK hP 0 (by decide) lk10 (fun _ h => h) rfl dX1_leave_80 ?_
        refine q_getS (v := .ref (ad 7)) hx hb hts hin0 hown hK hP 1 st_1 8 (by decide) lk71 (fun _ h => h) rfl dX1_leave_83 ?_
        refine lv_iload_n hx hb dX1_leave_86 rfl (lv_at hl 4 rfl) ?_
        refine lv_ldc (v := -100009) hx hb hown lk78 dX1_leave_87 ?_
        refine q_ist hx hb hK hI hP hS 7 8 (ar_7) dX1_leave_89 (by first | assumption | exact isCell_in (by assumption) | exact isWalker_in (by assumption) | exact isAboard_in (by assumption) | exact isPair_in1 (by assumption) | exact isPair_in2 (by assumption) | exact isWithin7_in (by assumption) | exact vp_in_nI (by omega) (by decide)) (fun H locs hP hS => ?_)
        have hP : WP D cI cS ad (sR ((xX1_remember R F o q).1) 7 ((p1).toNatClampNeg) (-100009 : Int32)) ((xX1_remember R F o q).2) H := hP
        refine lv_aload_n hx hb dX1_leave_90 rfl (lv_at hl 3 rfl) ?_
        refine q_getF (v := .ref (ad 1)) hx hb hts hin1 hown hK hP 0 (by decide) lk10 (fun _ h => h) rfl dX1_leave_91 ?_
        refine q_getS (v := .ref (ad 9)) hx hb hts hin0 hown hK hP 1 st_1 10 (by decide) lk89 (fun _ h => h) rfl dX1_leave_94 ?_
        refine lv_iload_n hx hb dX1_leave_97 rfl (lv_at hl 4 rfl) ?_
        refine lv_ldc (v := -100009) hx hb hown lk78 dX1_leave_98 ?_
        refine q_ist hx hb hK hI hP hS 9 8 (ar_9) dX1_leave_100 (by first | assumption | exact isCell_in (by assumption) | exact isWalker_in (by assumption) | exact isAboard_in (by assumption) | exact isPair_in1 (by assumption) | exact isPair_in2 (by assumption) | exact isWithin7_in (by assumption) | exact vp_in_nI (by omega) (by decide)) (fun H locs hP hS => ?_)
        have hP : WP D cI cS ad (sR (sR ((xX1_remember R F o q).1) 7 ((p1).toNatClampNeg) (-100009 : Int32)) 9 ((p1).toNatClampNeg) (-100009 : Int32)) ((xX1_remember R F o q).2) H := hP
        refine lv_iload_n hx hb dX1_leave_101 rfl (lv_at hl 2 rfl) ?_
        refine lv_iload_n hx hb dX1_leave_102 rfl (lv_at hl 1 rfl) ?_
        refine lv_icmp_ne (tgt := 110) hx hb dX1_leave_103 (by decide) (fun c_103 => ?_) (fun c_103 => ?_)
        · refine lv_iconst (v := 0) hx hb dX1_leave_110 (by decide) ?_
          have hX : (xX1_leave R F p1 o q) = ((0 : Int32), (sR (sR ((xX1_remember R F o q).1) 7 ((p1).toNatClampNeg) (-100009 : Int32)) 9 ((p1).toNatClampNeg) (-100009 : Int32)), ((xX1_remember R F o q).2)) := by unfold xX1_leave; rw [if_neg c_5, if_neg c_16, if_pos c_65, if_neg c_103]
          exact W.iret (v := (0 : Int32)) hx hb hr (fun t ht hW => ⟨by rw [hX], by rw [hX, ht]; with_reducible exact hP, hS.F ht⟩) hS.2.2 dX1_leave_111
        · refine lv_iconst (v := 1) hx hb dX1_leave_106 (by decide) ?_
          refine lv_goto (tgt := 111) hx hb dX1_leave_107 (by decide) ?_
          have hX : (xX1_leave R F p1 o q) = ((1 : Int32), (sR (sR ((xX1_remember R F o q).1) 7 ((p1).toNatClampNeg) (-100009 : Int32)) 9 ((p1).toNatClampNeg) (-100009 : Int32)), ((xX1_remember R F o q).2)) := by unfold xX1_leave; rw [if_neg c_5, if_neg c_16, if_pos c_65, if_pos c_103]
          exact W.iret (v := (1 : Int32)) hx hb hr (fun t ht hW => ⟨by rw [hX], by rw [hX, ht]; with_reducible exact hP, hS.F ht⟩) hS.2.2 dX1_leave_111
      · refine lv_aload_n hx hb dX1_leave_68 rfl (lv_at hl 3 rfl) ?_
        refine q_getF (v := .ref (ad 1)) hx hb hts hin1 hown hK hP 0 (by decide) lk10 (fun _ h => h) rfl dX1_leave_69 ?_
        refine q_getS (v := .ref (ad 9)) hx hb hts hin0 hown hK hP 1 st_1 10 (by decide) lk89 (fun _ h => h) rfl dX1_leave_72 ?_
        refine lv_iload hx hb dX1_leave_75 (lv_at hl 0 rfl) ?_
        refine lv_iload_n hx hb dX1_leave_77 rfl (lv_at hl 1 rfl) ?_
        refine q_ist hx hb hK hI hP hS 9 8 (ar_9) dX1_leave_78 (by first | assumption | exact isCell_in (by assumption) | exact isWalker_in (by assumption) | exact isAboard_in (by assumption) | exact isPair_in1 (by assumption) | exact isPair_in2 (by assumption) | exact isWithin7_in (by assumption) | exact vp_in_nI (by omega) (by decide)) (fun H locs hP hS => ?_)
        have hP : WP D cI cS ad (sR ((xX1_remember R F o q).1) 9 (((xX1_whoIsOn ((xX1_remember R F o q).1) ((xX1_remember R F o q).2) 9 (((xX1_remember R F o q).1) 7 (p1).toNatClampNeg))).toNatClampNeg) (((xX1_remember R F o q).1) 9 (p1).toNatClampNeg)) ((xX1_remember R F o q).2) H := hP
        refine lv_aload_n hx hb dX1_leave_79 rfl (lv_at hl 3 rfl) ?_
        refine q_getF (v := .ref (ad 1)) hx hb hts hin1 hown hK hP 0 (by decide) lk10 (fun _ h => h) rfl dX1_leave_80 ?_
        refine q_getS (v := .ref (ad 7)) hx hb hts hin0 hown hK hP 1 st_1 8 (by decide) lk71 (fun _ h => h) rfl dX1_leave_83 ?_
        refine lv_iload_n hx hb dX1_leave_86 rfl (lv_at hl 4 rfl) ?_
        refine lv_ldc (v := -100009) hx hb hown lk78 dX1_leave_87 ?_
        refine q_ist hx hb hK hI hP hS 7 8 (ar_7) dX1_leave_89 (by first | assumption | exact isCell_in (by assumption) | exact isWalker_in (by assumption) | exact isAboard_in (by assumption) | exact isPair_in1 (by assumption) | exact isPair_in2 (by assumption) | exact isWithin7_in (by assumption) | exact vp_in_nI (by omega) (by decide)) (fun H locs hP hS => ?_)
        have hP : WP D cI cS ad (sR (sR ((xX1_remember R F o q).1) 9 (((xX1_whoIsOn ((xX1_remember R F o q).1) ((xX1_remember R F o q).2) 9 (((xX1_remember R F o q).1) 7 (p1).toNatClampNeg))).toNatClampNeg) (((xX1_remember R F o q).1) 9 (p1).toNatClampNeg)) 7 ((p1).toNatClampNeg) (-100009 : Int32)) ((xX1_remember R F o q).2) H := hP
        refine lv_aload_n hx hb dX1_leave_90 rfl (lv_at hl 3 rfl) ?_
        refine q_getF (v := .ref (ad 1)) hx hb hts hin1 hown hK hP 0 (by decide) lk10 (fun _ h => h) rfl dX1_leave_91 ?_
        refine q_getS (v := .ref (ad 9)) hx hb hts hin0 hown hK hP 1 st_1 10 (by decide) lk89 (fun _ h => h) rfl dX1_leave_94 ?_
        refine lv_iload_n hx hb dX1_leave_97 rfl (lv_at hl 4 rfl) ?_
        refine lv_ldc (v := -100009) hx hb hown lk78 dX1_leave_98 ?_
        refine q_ist hx hb hK hI hP hS 9 8 (ar_9) dX1_leave_100 (by first | assumption | exact isCell_in (by assumption) | exact isWalker_in (by assumption) | exact isAboard_in (by assumption) | exact isPair_in1 (by assumption) | exact isPair_in2 (by assumption) | exact isWithin7_in (by assumption) | exact vp_in_nI (by omega) (by decide)) (fun H locs hP hS => ?_)
        have hP : WP D cI cS ad (sR (sR (sR ((xX1_remember R F o q).1) 9 (((xX1_whoIsOn ((xX1_remember R F o q).1) ((xX1_remember R F o q).2) 9 (((xX1_remember R F o q).1) 7 (p1).toNatClampNeg))).toNatClampNeg) (((xX1_remember R F o q).1) 9 (p1).toNatClampNeg)) 7 ((p1).toNatClampNeg) (-100009 : Int32)) 9 ((p1).toNatClampNeg) (-100009 : Int32)) ((xX1_remember R F o q).2) H := hP
        refine lv_iload_n hx hb dX1_leave_101 rfl (lv_at hl 2 rfl) ?_
        refine lv_iload_n hx hb dX1_leave_102 rfl (lv_at hl 1 rfl) ?_
        refine lv_icmp_ne (tgt := 110) hx hb dX1_leave_103 (by decide) (fun c_103 => ?_) (fun c_103 => ?_)
        · refine lv_iconst (v := 0) hx hb dX1_leave_110 (by decide) ?_
          have hX : (xX1_leave R F p1 o q) = ((0 : Int32), (sR (sR (sR ((xX1_remember R F o q).1) 9 (((xX1_whoIsOn ((xX1_remember R F o q).1) ((xX1_remember R F o q).2) 9 (((xX1_remember R F o q).1) 7 (p1).toNatClampNeg))).toNatClampNeg) (((xX1_remember R F o q).1) 9 (p1).toNatClampNeg)) 7 ((p1).toNatClampNeg) (-100009 : Int32)) 9 ((p1).toNatClampNeg) (-100009 : Int32)), ((xX1_remember R F o q).2)) := by unfold xX1_leave; rw [if_neg c_5, if_neg c_16, if_neg c_65, if_neg c_103]
          exact W.iret (v := (0 : Int32)) hx hb hr (fun t ht hW => ⟨by rw [hX], by rw [hX, ht]; with_reducible exact hP, hS.F ht⟩) hS.2.2 dX1_leave_111
        · refine lv_iconst (v := 1) hx hb dX1_leave_106 (by decide) ?_
          refine lv_goto (tgt := 111) hx hb dX1_leave_107 (by decide) ?_
          have hX : (xX1_leave R F p1 o q) = ((1 : Int32), (sR (sR (sR ((xX1_remember R F o q).1) 9 (((xX1_whoIsOn ((xX1_remember R F o q).1) ((xX1_remember R F o q).2) 9 (((xX1_remember R F o q).1) 7 (p1).toNatClampNeg))).toNatClampNeg) (((xX1_remember R F o q).1) 9 (p1).toNatClampNeg)) 7 ((p1).toNatClampNeg) (-100009 : Int32)) 9 ((p1).toNatClampNeg) (-100009 : Int32)), ((xX1_remember R F o q).2)) := by unfold xX1_leave; rw [if_neg c_5, if_neg c_16, if_neg c_65, if_pos c_103]
          exact W.iret (v := (1 : Int32)) hx hb hr (fun t ht hW => ⟨by rw [hX], by rw [hX, ht]; with_reducible exact hP, hS.F ht⟩) hS.2.2 dX1_leave_111
    · refine lv_ldc (v := -100002) hx hb hown lk55 dX1_leave_19 ?_
      have hX : (xX1_leave R F p1 o q) = ((-100002 : Int32), R, F) := by unfold xX1_leave; rw [if_neg c_5, if_pos c_16]
      exact W.iret (v := (-100002 : Int32)) hx hb hr (fun t ht hW => ⟨by rw [hX], by rw [hX, ht]; with_reducible exact hP, hS.F ht⟩) hS.2.2 dX1_leave_21
  · refine lv_ldc (v := -100001) hx hb hown lk45 dX1_leave_8 ?_
    have hX : (xX1_leave R F p1 o q) = ((-100001 : Int32), R, F) := by unfold xX1_leave; rw [if_pos c_5]
    exact W.iret (v := (-100001 : Int32)) hx hb hr (fun t ht hW => ⟨by rw [hX], by rw [hX, ht]; with_reducible exact hP, hS.F ht⟩) hS.2.2 dX1_leave_10

def xX1_setPrice (R F : Nat → Nat → Int32) (p1 : Int32) (o : Nat) (q : Nat) : Int32 × (Nat → Nat → Int32) × (Nat → Nat → Int32) :=
  (if (xX1_isWithin p1 (0 : Int32) (100 : Int32)) = (0 : Int32) then ((-100001 : Int32), R, F) else ((((xX1_remember R F o q).2) 1 1), ((xX1_remember R F o q).1), (sR ((xX1_remember R F o q).2) 1 1 p1)))
set_option maxHeartbeats 4000000 in
set_option maxRecDepth 100000 in
theorem mX1_setPrice (l : Launch) (D : va_G) (cI cS : ClassId) (ad : Nat → Nat) (hI : Inj ad) (R F : Nat → Nat → Int32) (p1 : Int32) (o : Nat) (q : Nat) (ho : o < 5) (hq : q ≤ 5) (hF0 : F 0 0 = nI o) (hF1 : F 0 1 = nI q) : Met l yX1_setPrice wsX1_setPrice ({ frames := 4, cells := 0, slots := 0, locals := 111 }) (PW D cI cS ad R F [.ref (ad 0), .int p1]) (QI D cI cS ad ((xX1_setPrice R F p1 o q).1) ((xX1_setPrice R F p1 o q).2.1) ((xX1_setPrice R F p1 o q).2.2)) 0 0 (AA ad) := by
  refine Met.ofW (cc := cX1_setPrice) (maxL := 3) (ret := (some .int)) (by decide) rfl ?_
  intro p e s m args below meth c s₁ B hml hv
  obtain ⟨rfl, hP, hK⟩ := hv
  have hx := B.exec
  have hb := B.bytes
  have hr := B.returns
  have hts := atoms_spec (ws := wsX1_setPrice) B.pre
  have hown : s.vm.findClass RX1 = some m.cls := findClass_of_methodNamed B.named
  have hlocks := B.notSynchronized
  have hS : va_S (AA ad) s.heap s.heap [] := va_S.rf
  have hl := lv_entry ([.ref (ad 0), .int p1]) (n := 3) (Nat.le_of_ble_eq_true rfl)
  rw [lg_entry_eq]
  generalize (lg_sl ([.ref (ad 0), .int p1]) ++ List.replicate (3 - (lg_sl ([.ref (ad 0), .int p1])).length) Slot.unset).toArray = ls at hl ⊢
  have hl : lv_has ls 3 [(0, .ref (ad 0)), (1, .int p1)] := hl
  have lk45 := hts (.constant RX1 45 (-100001)) (by decide +kernel)
  have lk10 := hts (.fieldLink RX1 10 "FerryFloor" "now" "LFerryFloor$State;") (by decide +kernel)
  have lk110 := hts (.fieldLink RX1 110 "FerryFloor$State" "price" "I") (by decide +kernel)
  have hin1 : ∀ w ∈ u_ws RX1 TX1 7, w ∈ wsX1_setPrice := by decide +kernel
  have hin0 : ∀ w ∈ u_ws RX0 TX0 15, w ∈ wsX1_setPrice := by decide +kernel
  refine lv_iload_n hx hb dX1_setPrice_0 rfl (lv_at hl 1 rfl) ?_
  refine lv_iconst (v := 0) hx hb dX1_setPrice_1 (by decide) ?_
  refine lv_bipush (v := 100) hx hb dX1_setPrice_2 (by decide) ?_
  refine q_callS (va_runS (As := [.int p1, .int (0 : Int32), .int (100 : Int32)]) (rest := []) ⟨hx, hb, hml, hown, hts⟩ (mX1_isWithin l D cI cS ad hI R F p1 (0 : Int32) (100 : Int32)) (va_cwS 3 hts gX1_setPrice_X1_isWithin rfl rfl rfl (by decide +kernel) ⟨Nat.le_of_ble_eq_true rfl, Nat.le_of_ble_eq_true rfl⟩) (PW_preS hK hP) rfl rfl hl.1 rfl (lv_room (Nat.le_of_ble_eq_true rfl)) dX1_setPrice_4 ⟨Nat.zero_le _, Nat.zero_le _⟩) ?_
  refine lv_if_ne (tgt := 13) hx hb dX1_setPrice_7 (by decide) (fun c_7 => ?_) (fun c_7 => ?_)
  · refine lv_aload_n hx hb dX1_setPrice_13 rfl (lv_at hl 0 rfl) ?_
    refine q_callV (va_runV (As := []) (rest := []) ⟨hx, hb, hml, hown, hts⟩ (mX1_remember l D cI cS ad hI R F o q ho hq hF0 hF1) (cwV 0 hts gX1_setPrice_X1_remember rfl rfl rfl (by decide +kernel) ⟨Nat.le_of_ble_eq_true rfl, Nat.le_of_ble_eq_true rfl⟩) (PW_preV (i := 0) (by decide) CC_0 rfl rfl hK hP) rfl rfl hl.1 rfl (lv_room (Nat.le_of_ble_eq_true rfl)) dX1_setPrice_14 ⟨Nat.zero_le _, Nat.zero_le _⟩) hS (fun H locs hP hS => ?_)
    refine lv_aload_n hx hb dX1_setPrice_17 rfl (lv_at hl 0 rfl) ?_
    refine q_getF (v := .ref (ad 1)) hx hb hts hin1 hown hK hP 0 (by decide) lk10 (fun _ h => h) rfl dX1_setPrice_18 ?_
    refine q_getS (v := .int (((xX1_remember R F o q).2) 1 1)) hx hb hts hin0 hown hK hP 1 st_1 1 (by decide) lk110 (fun _ h => h) rfl dX1_setPrice_21 ?_
    refine lv_istore_n (lv' := [(2, .int (((xX1_remember R F o q).2) 1 1)), (0, .ref (ad 0)), (1, .int p1)]) hx hb dX1_setPrice_24 rfl hl (by decide) rfl (fun ls hl => ?_)
    refine lv_aload_n hx hb dX1_setPrice_25 rfl (lv_at hl 1 rfl) ?_
    refine q_getF (v := .ref (ad 1)) hx hb hts hin1 hown hK hP 0 (by decide) lk10 (fun _ h => h) rfl dX1_setPrice_26 ?_
    refine lv_iload_n hx hb dX1_setPrice_29 rfl (lv_at hl 2 rfl) ?_
    refine q_putS hx hb hts hin0 hown hK hI hP hS 1 st_1 1 (by decide) lk110 (fun _ h => h) dX1_setPrice_30 (fun H locs hP hS => ?_)
    have hP : WP D cI cS ad ((xX1_remember R F o q).1) (sR ((xX1_remember R F o q).2) 1 1 p1) H := hP
    refine lv_iload_n hx hb dX1_setPrice_33 rfl (lv_at hl 0 rfl) ?_
    have hX : (xX1_setPrice R F p1 o q) = ((((xX1_remember R F o q).2) 1 1), ((xX1_remember R F o q).1), (sR ((xX1_remember R F o q).2) 1 1 p1)) := by unfold xX1_setPrice; rw [if_neg c_7]
    exact W.iret (v := (((xX1_remember R F o q).2) 1 1)) hx hb hr (fun t ht hW => ⟨by rw [hX], by rw [hX, ht]; with_reducible exact hP, hS.F ht⟩) hS.2.2 dX1_setPrice_34
  · refine lv_ldc (v := -100001) hx hb hown lk45 dX1_setPrice_10 ?_
    have hX : (xX1_setPrice R F p1 o q) = ((-100001 : Int32), R, F) := by unfold xX1_setPrice; rw [if_pos c_7]
    exact W.iret (v := (-100001 : Int32)) hx hb hr (fun t ht hW => ⟨by rw [hX], by rw [hX, ht]; with_reducible exact hP, hS.F ht⟩) hS.2.2 dX1_setPrice_12

def xX1_accuse (R F : Nat → Nat → Int32) (p1 : Int32) (p2 : Int32) (o : Nat) (q : Nat) : Int32 × (Nat → Nat → Int32) × (Nat → Nat → Int32) :=
  (if (xX1_isPair R F p1 p2) = (0 : Int32) then ((-100001 : Int32), R, F) else (if (xX1_isAboard R F p1) = (0 : Int32) then ((-100002 : Int32), R, F) else (if (xX1_isAboard R F p2) = (0 : Int32) then ((-100002 : Int32), R, F) else (((xX1_errorWith (sR (sR (xX1_exchange ((xX1_remember R F o q).1) ((xX1_remember R F o q).2) 9 p1 p2) 10 ((p1).toNatClampNeg) (((xX1_exchange ((xX1_remember R F o q).1) ((xX1_remember R F o q).2) 9 p1 p2) 10 (p1).toNatClampNeg) + (1 : Int32))) 10 ((p2).toNatClampNeg) (((sR (xX1_exchange ((xX1_remember R F o q).1) ((xX1_remember R F o q).2) 9 p1 p2) 10 ((p1).toNatClampNeg) (((xX1_exchange ((xX1_remember R F o q).1) ((xX1_remember R F o q).2) 9 p1 p2) 10 (p1).toNatClampNeg) + (1 : Int32))) 10 (p2).toNatClampNeg) + (1 : Int32))) ((xX1_remember R F o q).2) 9).1), ((xX1_errorWith (sR (sR (xX1_exchange ((xX1_remember R F o q).1) ((xX1_remember R F o q).2) 9 p1 p2) 10 ((p1).toNatClampNeg) (((xX1_exchange ((xX1_remember R F o q).1) ((xX1_remember R F o q).2) 9 p1 p2) 10 (p1).toNatClampNeg) + (1 : Int32))) 10 ((p2).toNatClampNeg) (((sR (xX1_exchange ((xX1_remember R F o q).1) ((xX1_remember R F o q).2) 9 p1 p2) 10 ((p1).toNatClampNeg) (((xX1_exchange ((xX1_remember R F o q).1) ((xX1_remember R F o q).2) 9 p1 p2) 10 (p1).toNatClampNeg) + (1 : Int32))) 10 (p2).toNatClampNeg) + (1 : Int32))) ((xX1_remember R F o q).2) 9).2), ((xX1_remember R F o q).2)))))
set_option maxHeartbeats 4000000 in
set_option maxRecDepth 100000 in
theorem mX1_accuse (l : Launch) (D : va_G) (cI cS : ClassId) (ad : Nat → Nat) (hI : Inj ad) (R F : Nat → Nat → Int32) (p1 : Int32) (p2 : Int32) (o : Nat) (q : Nat) (ho : o < 5) (hq : q ≤ 5) (hF0 : F 0 0 = nI o) (hF1 : F 0 1 = nI q) : Met l yX1_accuse wsX1_accuse ({ frames := 5, cells := 0, slots := 0, locals := 115 }) (PW D cI cS ad R F [.ref (ad 0), .int p1, .int p2]) (QI D cI cS ad ((xX1_accuse R F p1 p2 o q).1) ((xX1_accuse R F p1 p2 o q).2.1) ((xX1_accuse R F p1 p2 o q).2.2)) 0 0 (AA ad) := by
  refine Met.ofW (cc := cX1_accuse) (maxL := 3) (ret := (some .int)) (by decide) rfl ?_
  intro p e s m args below meth c s₁ B hml hv
  obtain ⟨rfl, hP, hK⟩ := hv
  have hx := B.exec
  have hb := B.bytes
  have hr := B.returns
  have hts := atoms_spec (ws := wsX1_accuse) B.pre
  have hown : s.vm.findClass RX1 = some m.cls := findClass_of_methodNamed B.named
  have hlocks := B.notSynchronized
  have hS : va_S (AA ad) s.heap s.heap [] := va_S.rf
  have hl := lv_entry ([.ref (ad 0), .int p1, .int p2]) (n := 3) (Nat.le_of_ble_eq_true rfl)
  rw [lg_entry_eq]
  generalize (lg_sl ([.ref (ad 0), .int p1, .int p2]) ++ List.replicate (3 - (lg_sl ([.ref (ad 0), .int p1, .int p2])).length) Slot.unset).toArray = ls at hl ⊢
  have hl : lv_has ls 3 [(0, .ref (ad 0)), (1, .int p1), (2, .int p2)] := hl
  have lk45 := hts (.constant RX1 45 (-100001)) (by decide +kernel)
  have lk55 := hts (.constant RX1 55 (-100002)) (by decide +kernel)
  have lk10 := hts (.fieldLink RX1 10 "FerryFloor" "now" "LFerryFloor$State;") (by decide +kernel)
  have lk89 := hts (.fieldLink RX1 89 "FerryFloor$State" "bookPlaces" "[I") (by decide +kernel)
  have lk113 := hts (.fieldLink RX1 113 "FerryFloor$State" "accusations" "[I") (by decide +kernel)
  have hin1 : ∀ w ∈ u_ws RX1 TX1 7, w ∈ wsX1_accuse := by decide +kernel
  have hin0 : ∀ w ∈ u_ws RX0 TX0 15, w ∈ wsX1_accuse := by decide +kernel
  refine lv_aload_n hx hb dX1_accuse_0 rfl (lv_at hl 0 rfl) ?_
  refine lv_iload_n hx hb dX1_accuse_1 rfl (lv_at hl 1 rfl) ?_
  refine lv_iload_n hx hb dX1_accuse_2 rfl (lv_at hl 2 rfl) ?_
  refine q_callS (va_runV (As := [.int p1, .int p2]) (rest := []) ⟨hx, hb, hml, hown, hts⟩ (mX1_isPair l D cI cS ad hI R F p1 p2) (cwV 2 hts gX1_accuse_X1_isPair rfl rfl rfl (by decide +kernel) ⟨Nat.le_of_ble_eq_true rfl, Nat.le_of_ble_eq_true rfl⟩) (PW_preV (i := 0) (by decide) CC_0 rfl rfl hK hP) rfl rfl hl.1 rfl (lv_room (Nat.le_of_ble_eq_true rfl)) dX1_accuse_3 ⟨Nat.zero_le _, Nat.zero_le _⟩) ?_
  refine lv_if_ne (tgt := 12) hx hb dX1_accuse_6 (by decide) (fun c_6 => ?_) (fun c_6 => ?_)
  · refine lv_aload_n hx hb dX1_accuse_12 rfl (lv_at hl 0 rfl) ?_
    refine lv_iload_n hx hb dX1_accuse_13 rfl (lv_at hl 1 rfl) ?_
    refine q_callS (va_runV (As := [.int p1]) (rest := []) ⟨hx, hb, hml, hown, hts⟩ (mX1_isAboard l D cI cS ad hI R F p1) (cwV 1 hts gX1_accuse_X1_isAboard rfl rfl rfl (by decide +kernel) ⟨Nat.le_of_ble_eq_true rfl, Nat.le_of_ble_eq_true rfl⟩) (PW_preV (i := 0) (by decide) CC_0 rfl rfl hK hP) rfl rfl hl.1 rfl (lv_room (Nat.le_of_ble_eq_true rfl)) dX1_accuse_14 ⟨Nat.zero_le _, Nat.zero_le _⟩) ?_
    refine lv_if_eq (tgt := 28) hx hb dX1_accuse_17 (by decide) (fun c_17 => ?_) (fun c_17 => ?_)
    · refine lv_ldc (v := -100002) hx hb hown lk55 dX1_accuse_28 ?_
      have hX : (xX1_accuse R F p1 p2 o q) = ((-100002 : Int32), R, F) := by unfold xX1_accuse; rw [if_neg c_6, if_pos c_17]
      exact W.iret (v := (-100002 : Int32)) hx hb hr (fun t ht hW => ⟨by rw [hX], by rw [hX, ht]; with_reducible exact hP, hS.F ht⟩) hS.2.2 dX1_accuse_30
    · refine lv_aload_n hx hb dX1_accuse_20 rfl (lv_at hl 0 rfl) ?_
      refine lv_iload_n hx hb dX1_accuse_21 rfl (lv_at hl 2 rfl) ?_
      refine q_callS (va_runV (As := [.int p2]) (rest := []) ⟨hx, hb, hml, hown, hts⟩ (mX1_isAboard l D cI cS ad hI R F p2) (cwV 1 hts gX1_accuse_X1_isAboard rfl rfl rfl (by decide +kernel) ⟨Nat.le_of_ble_eq_true rfl, Nat.le_of_ble_eq_true rfl⟩) (PW_preV (i := 0) (by decide) CC_0 rfl rfl hK hP) rfl rfl hl.1 rfl (lv_room (Nat.le_of_ble_eq_true rfl)) dX1_accuse_22 ⟨Nat.zero_le _, Nat.zero_le _⟩) ?_
      refine lv_if_ne (tgt := 31) hx hb dX1_accuse_25 (by decide) (fun c_25 => ?_) (fun c_25 => ?_)
      · refine lv_aload_n hx hb dX1_accuse_31 rfl (lv_at hl 0 rfl) ?_
        refine q_callV (va_runV (As := []) (rest := []) ⟨hx, hb, hml, hown, hts⟩ (mX1_remember l D cI cS ad hI R F o q ho hq hF0 hF1) (cwV 0 hts gX1_accuse_X1_remember rfl rfl rfl (by decide +kernel) ⟨Nat.le_of_ble_eq_true rfl, Nat.le_of_ble_eq_true rfl⟩) (PW_preV (i := 0) (by decide) CC_0 rfl rfl hK hP) rfl rfl hl.1 rfl (lv_room (Nat.le_of_ble_eq_true rfl)) dX1_accuse_32 ⟨Nat.zero_le _, Nat.zero_le _⟩) hS (fun H locs hP hS => ?_)
        refine lv_aload_n hx hb dX1_accuse_35 rfl (lv_at hl 0 rfl) ?_
        refine q_getF (v := .ref (ad 1)) hx hb hts hin1 hown hK hP 0 (by decide) lk10 (fun _ h => h) rfl dX1_accuse_36 ?_
        refine q_getS (v := .ref (ad 9)) hx hb hts hin0 hown hK hP 1 st_1 10 (by decide) lk89 (fun _ h => h) rfl dX1_accuse_39 ?_
        refine lv_iload_n hx hb dX1_accuse_42 rfl (lv_at hl 1 rfl) ?_
        refine lv_iload_n hx hb dX1_accuse_43 rfl (lv_at hl 2 rfl) ?_
        refine q_callV (va_runS (As := [.ref (ad 9), .int p1, .int p2]) (rest := []) ⟨hx, hb, hml, hown, hts⟩ (mX1_exchange l D cI cS ad hI ((xX1_remember R F o q).1) ((xX1_remember R F o q).2) 9 p1 p2 (ar_9) (by first | assumption | exact isCell_in (by assumption) | exact isWalker_in (by assumption) | exact isAboard_in (by assumption) | exact isPair_in1 (by assumption) | exact isPair_in2 (by assumption) | exact isWithin7_in (by assumption) | exact vp_in_nI (by omega) (by decide)) (by first | assumption | exact isCell_in (by assumption) | exact isWalker_in (by assumption) | exact isAboard_in (by assumption) | exact isPair_in1 (by assumption) | exact isPair_in2 (by assumption) | exact isWithin7_in (by assumption) | exact vp_in_nI (by omega) (by decide))) (va_cwS 3 hts gX1_accuse_X1_exchange rfl rfl rfl (by decide +kernel) ⟨Nat.le_of_ble_eq_true rfl, Nat.le_of_ble_eq_true rfl⟩) (PW_preS hK hP) rfl rfl hl.1 rfl (lv_room (Nat.le_of_ble_eq_true rfl)) dX1_accuse_44 ⟨Nat.zero_le _, Nat.zero_le _⟩) hS (fun H locs hP hS => ?_)
        refine lv_aload_n hx hb dX1_accuse_47 rfl (lv_at hl 0 rfl) ?_
        refine q_getF (v := .ref (ad 1)) hx hb hts hin1 hown hK hP 0 (by decide) lk10 (fun _ h => h) rfl dX1_accuse_48 ?_
        refine q_getS (v := .ref (ad 10)) hx hb hts hin0 hown hK hP 1 st_1 11 (by decide) lk113 (fun _ h => h) rfl dX1_accuse_51 ?_
        refine lv_iload_n hx hb dX1_accuse_54 rfl (lv_at hl 1 rfl) ?_
        refine lv_dup2_11 hx hb dX1_accuse_55 rfl rfl ?_
        refine q_ild hx hb hK hP 10 8 (ar_10) dX1_accuse_56 (by first | assumption | exact isCell_in (by assumption) | exact isWalker_in (by assumption) | exact isAboard_in (by assumption) | exact isPair_in1 (by assumption) | exact isPair_in2 (by assumption) | exact isWithin7_in (by assumption) | exact vp_in_nI (by omega) (by decide)) ?_
        refine lv_iconst (v := 1) hx hb dX1_accuse_57 (by decide) ?_
        refine lv_iadd hx hb dX1_accuse_58 ?_
        refine q_ist hx hb hK hI hP hS 10 8 (ar_10) dX1_accuse_59 (by first | assumption | exact isCell_in (by assumption) | exact isWalker_in (by assumption) | exact isAboard_in (by assumption) | exact isPair_in1 (by assumption) | exact isPair_in2 (by assumption) | exact isWithin7_in (by assumption) | exact vp_in_nI (by omega) (by decide)) (fun H locs hP hS => ?_)
        have hP : WP D cI cS ad (sR (xX1_exchange ((xX1_remember R F o q).1) ((xX1_remember R F o q).2) 9 p1 p2) 10 ((p1).toNatClampNeg) (((xX1_exchange ((xX1_remember R F o q).1) ((xX1_remember R F o q).2) 9 p1 p2) 10 (p1).toNatClampNeg) + (1 : Int32))) ((xX1_remember R F o q).2) H := hP
        refine lv_aload_n hx hb dX1_accuse_60 rfl (lv_at hl 0 rfl) ?_
        refine q_getF (v := .ref (ad 1)) hx hb hts hin1 hown hK hP 0 (by decide) lk10 (fun _ h => h) rfl dX1_accuse_61 ?_
        refine q_getS (v := .ref (ad 10)) hx hb hts hin0 hown hK hP 1 st_1 11 (by decide) lk113 (fun _ h => h) rfl dX1_accuse_64 ?_
        refine lv_iload_n hx hb dX1_accuse_67 rfl (lv_at hl 2 rfl) ?_
        refine lv_dup2_11 hx hb dX1_accuse_68 rfl rfl ?_
        refine q_ild hx hb hK hP 10 8 (ar_10) dX1_accuse_69 (by first | assumption | exact isCell_in (by assumption) | exact isWalker_in (by assumption) | exact isAboard_in (by assumption) | exact isPair_in1 (by assumption) | exact isPair_in2 (by assumption) | exact isWithin7_in (by assumption) | exact vp_in_nI (by omega) (by decide)) ?_
        refine lv_iconst (v := 1) hx hb dX1_accuse_70 (by decide) ?_
        refine lv_iadd hx hb dX1_accuse_71 ?_
        refine q_ist hx hb hK hI hP hS 10 8 (ar_10) dX1_accuse_72 (by first | assumption | exact isCell_in (by assumption) | exact isWalker_in (by assumption) | exact isAboard_in (by assumption) | exact isPair_in1 (by assumption) | exact isPair_in2 (by assumption) | exact isWithin7_in (by assumption) | exact vp_in_nI (by omega) (by decide)) (fun H locs hP hS => ?_)
        have hP : WP D cI cS ad (sR (sR (xX1_exchange ((xX1_remember R F o q).1) ((xX1_remember R F o q).2) 9 p1 p2) 10 ((p1).toNatClampNeg) (((xX1_exchange ((xX1_remember R F o q).1) ((xX1_remember R F o q).2) 9 p1 p2) 10 (p1).toNatClampNeg) + (1 : Int32))) 10 ((p2).toNatClampNeg) (((sR (xX1_exchange ((xX1_remember R F o q).1) ((xX1_remember R F o q).2) 9 p1 p2) 10 ((p1).toNatClampNeg) (((xX1_exchange ((xX1_remember R F o q).1) ((xX1_remember R F o q).2) 9 p1 p2) 10 (p1).toNatClampNeg) + (1 : Int32))) 10 (p2).toNatClampNeg) + (1 : Int32))) ((xX1_remember R F o q).2) H := hP
        refine lv_aload_n hx hb dX1_accuse_73 rfl (lv_at hl 0 rfl) ?_
        refine lv_aload_n hx hb dX1_accuse_74 rfl (lv_at hl 0 rfl) ?_
        refine q_getF (v := .ref (ad 1)) hx hb hts hin1 hown hK hP 0 (by decide) lk10 (fun _ h => h) rfl dX1_accuse_75 ?_
        refine q_getS (v := .ref (ad 9)) hx hb hts hin0 hown hK hP 1 st_1 10 (by decide) lk89 (fun _ h => h) rfl dX1_accuse_78 ?_
        refine q_callI (va_runV (As := [.ref (ad 9)]) (rest := []) ⟨hx, hb, hml, hown, hts⟩ (mX1_errorWith l D cI cS ad hI (sR (sR (xX1_exchange ((xX1_remember R F o q).1) ((xX1_remember R F o q).2) 9 p1 p2) 10 ((p1).toNatClampNeg) (((xX1_exchange ((xX1_remember R F o q).1) ((xX1_remember R F o q).2) 9 p1 p2) 10 (p1).toNatClampNeg) + (1 : Int32))) 10 ((p2).toNatClampNeg) (((sR (xX1_exchange ((xX1_remember R F o q).1) ((xX1_remember R F o q).2) 9 p1 p2) 10 ((p1).toNatClampNeg) (((xX1_exchange ((xX1_remember R F o q).1) ((xX1_remember R F o q).2) 9 p1 p2) 10 (p1).toNatClampNeg) + (1 : Int32))) 10 (p2).toNatClampNeg) + (1 : Int32))) ((xX1_remember R F o q).2) 9 (ar_9)) (cwV 1 hts gX1_accuse_X1_errorWith rfl rfl rfl (by decide +kernel) ⟨Nat.le_of_ble_eq_true rfl, Nat.le_of_ble_eq_true rfl⟩) (PW_preV (i := 0) (by decide) CC_0 rfl rfl hK hP) rfl rfl hl.1 rfl (lv_room (Nat.le_of_ble_eq_true rfl)) dX1_accuse_81 ⟨Nat.zero_le _, Nat.zero_le _⟩) hS (fun H locs hP hS => ?_)
        have hX : (xX1_accuse R F p1 p2 o q) = (((xX1_errorWith (sR (sR (xX1_exchange ((xX1_remember R F o q).1) ((xX1_remember R F o q).2) 9 p1 p2) 10 ((p1).toNatClampNeg) (((xX1_exchange ((xX1_remember R F o q).1) ((xX1_remember R F o q).2) 9 p1 p2) 10 (p1).toNatClampNeg) + (1 : Int32))) 10 ((p2).toNatClampNeg) (((sR (xX1_exchange ((xX1_remember R F o q).1) ((xX1_remember R F o q).2) 9 p1 p2) 10 ((p1).toNatClampNeg) (((xX1_exchange ((xX1_remember R F o q).1) ((xX1_remember R F o q).2) 9 p1 p2) 10 (p1).toNatClampNeg) + (1 : Int32))) 10 (p2).toNatClampNeg) + (1 : Int32))) ((xX1_remember R F o q).2) 9).1), ((xX1_errorWith (sR (sR (xX1_exchange ((xX1_remember R F o q).1) ((xX1_remember R F o q).2) 9 p1 p2) 10 ((p1).toNatClampNeg) (((xX1_exchange ((xX1_remember R F o q).1) ((xX1_remember R F o q).2) 9 p1 p2) 10 (p1).toNatClampNeg) + (1 : Int32))) 10 ((p2).toNatClampNeg) (((sR (xX1_exchange ((xX1_remember R F o q).1) ((xX1_remember R F o q).2) 9 p1 p2) 10 ((p1).toNatClampNeg) (((xX1_exchange ((xX1_remember R F o q).1) ((xX1_remember R F o q).2) 9 p1 p2) 10 (p1).toNatClampNeg) + (1 : Int32))) 10 (p2).toNatClampNeg) + (1 : Int32))) ((xX1_remember R F o q).2) 9).2), ((xX1_remember R F o q).2)) := by unfold xX1_accuse; rw [if_neg c_6, if_neg c_17, if_neg c_25]
        exact W.iret (v := ((xX1_errorWith (sR (sR (xX1_exchange ((xX1_remember R F o q).1) ((xX1_remember R F o q).2) 9 p1 p2) 10 ((p1).toNatClampNeg) (((xX1_exchange ((xX1_remember R F o q).1) ((xX1_remember R F o q).2) 9 p1 p2) 10 (p1).toNatClampNeg) + (1 : Int32))) 10 ((p2).toNatClampNeg) (((sR (xX1_exchange ((xX1_remember R F o q).1) ((xX1_remember R F o q).2) 9 p1 p2) 10 ((p1).toNatClampNeg) (((xX1_exchange ((xX1_remember R F o q).1) ((xX1_remember R F o q).2) 9 p1 p2) 10 (p1).toNatClampNeg) + (1 : Int32))) 10 (p2).toNatClampNeg) + (1 : Int32))) ((xX1_remember R F o q).2) 9).1)) hx hb hr (fun t ht hW => ⟨by rw [hX], by rw [hX, ht]; with_reducible exact hP, hS.F ht⟩) hS.2.2 dX1_accuse_84
      · refine lv_ldc (v := -100002) hx hb hown lk55 dX1_accuse_28 ?_
        have hX : (xX1_accuse R F p1 p2 o q) = ((-100002 : Int32), R, F) := by unfold xX1_accuse; rw [if_neg c_6, if_neg c_17, if_pos c_25]
        exact W.iret (v := (-100002 : Int32)) hx hb hr (fun t ht hW => ⟨by rw [hX], by rw [hX, ht]; with_reducible exact hP, hS.F ht⟩) hS.2.2 dX1_accuse_30
  · refine lv_ldc (v := -100001) hx hb hown lk45 dX1_accuse_9 ?_
    have hX : (xX1_accuse R F p1 p2 o q) = ((-100001 : Int32), R, F) := by unfold xX1_accuse; rw [if_pos c_6]
    exact W.iret (v := (-100001 : Int32)) hx hb hr (fun t ht hW => ⟨by rw [hX], by rw [hX, ht]; with_reducible exact hP, hS.F ht⟩) hS.2.2 dX1_accuse_11

def xX1_bill (R F : Nat → Nat → Int32) (p1 : Int32) (o : Nat) (q : Nat) : Int32 × (Nat → Nat → Int32) × (Nat → Nat → Int32) :=
  (if (xX1_isWalker R F p1) = (0 : Int32) then ((-100001 : Int32), R, F) else (if (xX1_isAboard R F p1) = (0 : Int32) then ((-100002 : Int32), R, F) else (if (R 11 (p1).toNatClampNeg) = (-100009 : Int32) then (if ((xX1_kilogramsToBill ((xX1_remember R F o q).1) ((xX1_remember R F o q).2) p1).1) < (20 : Int32) then (((xX1_kilogramsToBill ((xX1_remember R F o q).1) ((xX1_remember R F o q).2) p1).1), (sR (sR ((xX1_kilogramsToBill ((xX1_remember R F o q).1) ((xX1_remember R F o q).2) p1).2) 11 ((p1).toNatClampNeg) ((xX1_kilogramsToBill ((xX1_remember R F o q).1) ((xX1_remember R F o q).2) p1).1)) 12 ((p1).toNatClampNeg) (((xX1_remember R F o q).2) 1 1)), ((xX1_remember R F o q).2)) else (((xX1_kilogramsToBill ((xX1_remember R F o q).1) ((xX1_remember R F o q).2) p1).1), (sR (sR (sR ((xX1_kilogramsToBill ((xX1_remember R F o q).1) ((xX1_remember R F o q).2) p1).2) 11 ((p1).toNatClampNeg) ((xX1_kilogramsToBill ((xX1_remember R F o q).1) ((xX1_remember R F o q).2) p1).1)) 12 ((p1).toNatClampNeg) (((xX1_remember R F o q).2) 1 1)) 8 ((p1).toNatClampNeg) ((xX1_kilogramsToBill ((xX1_remember R F o q).1) ((xX1_remember R F o q).2) p1).1)), ((xX1_remember R F o q).2))) else ((-100002 : Int32), R, F))))
set_option maxHeartbeats 4000000 in
set_option maxRecDepth 100000 in
theorem mX1_bill (l : Launch) (D : va_G) (cI cS : ClassId) (ad : Nat → Nat) (hI : Inj ad) (R F : Nat → Nat → Int32) (p1 : Int32) (o : Nat) (q : Nat) (ho : o < 5) (hq : q ≤ 5) (hF0 : F 0 0 = nI o) (hF1 : F 0 1 = nI q) : Met l yX1_bill wsX1_bill ({ frames := 6, cells := 0, slots := 0, locals := 140 }) (PW D cI cS ad R F [.ref (ad 0), .int p1]) (QI D cI cS ad ((xX1_bill R F p1 o q).1) ((xX1_bill R F p1 o q).2.1) ((xX1_bill R F p1 o q).2.2)) 0 0 (AA ad) := by
  refine Met.ofW (cc := cX1_bill) (maxL := 3) (ret := (some .int)) (by decide) rfl ?_
  intro p e s m args below meth c s₁ B hml hv
  obtain ⟨rfl, hP, hK⟩ := hv
  have hx := B.exec
  have hb := B.bytes
  have hr := B.returns
  have hts := atoms_spec (ws := wsX1_bill) B.pre
  have hown : s.vm.findClass RX1 = some m.cls := findClass_of_methodNamed B.named
  have hlocks := B.notSynchronized
  have hS : va_S (AA ad) s.heap s.heap [] := va_S.rf
  have hl := lv_entry ([.ref (ad 0), .int p1]) (n := 3) (Nat.le_of_ble_eq_true rfl)
  rw [lg_entry_eq]
  generalize (lg_sl ([.ref (ad 0), .int p1]) ++ List.replicate (3 - (lg_sl ([.ref (ad 0), .int p1])).length) Slot.unset).toArray = ls at hl ⊢
  have hl : lv_has ls 3 [(0, .ref (ad 0)), (1, .int p1)] := hl
  have lk45 := hts (.constant RX1 45 (-100001)) (by decide +kernel)
  have lk10 := hts (.fieldLink RX1 10 "FerryFloor" "now" "LFerryFloor$State;") (by decide +kernel)
  have lk116 := hts (.fieldLink RX1 116 "FerryFloor$State" "billKilograms" "[I") (by decide +kernel)
  have lk78 := hts (.constant RX1 78 (-100009)) (by decide +kernel)
  have lk55 := hts (.constant RX1 55 (-100002)) (by decide +kernel)
  have lk123 := hts (.fieldLink RX1 123 "FerryFloor$State" "billPrices" "[I") (by decide +kernel)
  have lk110 := hts (.fieldLink RX1 110 "FerryFloor$State" "price" "I") (by decide +kernel)
  have lk86 := hts (.fieldLink RX1 86 "FerryFloor$State" "bookWeights" "[I") (by decide +kernel)
  have hin1 : ∀ w ∈ u_ws RX1 TX1 7, w ∈ wsX1_bill := by decide +kernel
  have hin0 : ∀ w ∈ u_ws RX0 TX0 15, w ∈ wsX1_bill := by decide +kernel
  refine lv_aload_n hx hb dX1_bill_0 rfl (lv_at hl 0 rfl) ?_
  refine lv_iload_n hx hb dX1_bill_1 rfl (lv_at hl 1 rfl) ?_
  refine q_callS (va_runV (As := [.int p1]) (rest := []) ⟨hx, hb, hml, hown, hts⟩ (mX1_isWalker l D cI cS ad hI R F p1) (cwV 1 hts gX1_bill_X1_isWalker rfl rfl rfl (by decide +kernel) ⟨Nat.le_of_ble_eq_true rfl, Nat.le_of_ble_eq_true rfl⟩) (PW_preV (i := 0) (by decide) CC_0 rfl rfl hK hP) rfl rfl hl.1 rfl (lv_room (Nat.le_of_ble_eq_true rfl)) dX1_bill_2 ⟨Nat.zero_le _, Nat.zero_le _⟩) ?_
  refine lv_if_ne (tgt := 11) hx hb dX1_bill_5 (by decide) (fun c_5 => ?_) (fun c_5 => ?_)
  · refine lv_aload_n hx hb dX1_bill_11 rfl (lv_at hl 0 rfl) ?_
    refine lv_iload_n hx hb dX1_bill_12 rfl (lv_at hl 1 rfl) ?_
    refine q_callS (va_runV (As := [.int p1]) (rest := []) ⟨hx, hb, hml, hown, hts⟩ (mX1_isAboard l D cI cS ad hI R F p1) (cwV 1 hts gX1_bill_X1_isAboard rfl rfl rfl (by decide +kernel) ⟨Nat.le_of_ble_eq_true rfl, Nat.le_of_ble_eq_true rfl⟩) (PW_preV (i := 0) (by decide) CC_0 rfl rfl hK hP) rfl rfl hl.1 rfl (lv_room (Nat.le_of_ble_eq_true rfl)) dX1_bill_13 ⟨Nat.zero_le _, Nat.zero_le _⟩) ?_
    refine lv_if_eq (tgt := 33) hx hb dX1_bill_16 (by decide) (fun c_16 => ?_) (fun c_16 => ?_)
    · refine lv_ldc (v := -100002) hx hb hown lk55 dX1_bill_33 ?_
      have hX : (xX1_bill R F p1 o q) = ((-100002 : Int32), R, F) := by unfold xX1_bill; rw [if_neg c_5, if_pos c_16]
      exact W.iret (v := (-100002 : Int32)) hx hb hr (fun t ht hW => ⟨by rw [hX], by rw [hX, ht]; with_reducible exact hP, hS.F ht⟩) hS.2.2 dX1_bill_35
    · refine lv_aload_n hx hb dX1_bill_19 rfl (lv_at hl 0 rfl) ?_
      refine q_getF (v := .ref (ad 1)) hx hb hts hin1 hown hK hP 0 (by decide) lk10 (fun _ h => h) rfl dX1_bill_20 ?_
      refine q_getS (v := .ref (ad 11)) hx hb hts hin0 hown hK hP 1 st_1 12 (by decide) lk116 (fun _ h => h) rfl dX1_bill_23 ?_
      refine lv_iload_n hx hb dX1_bill_26 rfl (lv_at hl 1 rfl) ?_
      refine q_ild hx hb hK hP 11 8 (ar_11) dX1_bill_27 (by first | assumption | exact isCell_in (by assumption) | exact isWalker_in (by assumption) | exact isAboard_in (by assumption) | exact isPair_in1 (by assumption) | exact isPair_in2 (by assumption) | exact isWithin7_in (by assumption) | exact vp_in_nI (by omega) (by decide)) ?_
      refine lv_ldc (v := -100009) hx hb hown lk78 dX1_bill_28 ?_
      refine lv_icmp_eq (tgt := 36) hx hb dX1_bill_30 (by decide) (fun c_30 => ?_) (fun c_30 => ?_)
      · refine lv_aload_n hx hb dX1_bill_36 rfl (lv_at hl 0 rfl) ?_
        refine q_callV (va_runV (As := []) (rest := []) ⟨hx, hb, hml, hown, hts⟩ (mX1_remember l D cI cS ad hI R F o q ho hq hF0 hF1) (cwV 0 hts gX1_bill_X1_remember rfl rfl rfl (by decide +kernel) ⟨Nat.le_of_ble_eq_true rfl, Nat.le_of_ble_eq_true rfl⟩) (PW_preV (i := 0) (by decide) CC_0 rfl rfl hK hP) rfl rfl hl.1 rfl (lv_room (Nat.le_of_ble_eq_true rfl)) dX1_bill_37 ⟨Nat.zero_le _, Nat.zero_le _⟩) hS (fun H locs hP hS => ?_)
        refine lv_aload_n hx hb dX1_bill_40 rfl (lv_at hl 0 rfl) ?_
        refine lv_iload_n hx hb dX1_bill_41 rfl (lv_at hl 1 rfl) ?_
        refine q_callI (va_runV (As := [.int p1]) (rest := []) ⟨hx, hb, hml, hown, hts⟩ (mX1_kilogramsToBill l D cI cS ad hI ((xX1_remember R F o q).1) ((xX1_remember R F o q).2) p1) (cwV 1 hts gX1_bill_X1_kilogramsToBill rfl rfl rfl (by decide +kernel) ⟨Nat.le_of_ble_eq_true rfl, Nat.le_of_ble_eq_true rfl⟩) (PW_preV (i := 0) (by decide) CC_0 rfl rfl hK hP) rfl rfl hl.1 rfl (lv_room (Nat.le_of_ble_eq_true rfl)) dX1_bill_42 ⟨Nat.zero_le _, Nat.zero_le _⟩) hS (fun H locs hP hS => ?_)
        refine lv_istore_n (lv' := [(2, .int ((xX1_kilogramsToBill ((xX1_remember R F o q).1) ((xX1_remember R F o q).2) p1).1)), (0, .ref (ad 0)), (1, .int p1)]) hx hb dX1_bill_45 rfl hl (by decide) rfl (fun ls hl => ?_)
        refine lv_aload_n hx hb dX1_bill_46 rfl (lv_at hl 1 rfl) ?_
        refine q_getF (v := .ref (ad 1)) hx hb hts hin1 hown hK hP 0 (by decide) lk10 (fun _ h => h) rfl dX1_bill_47 ?_
        refine q_getS (v := .ref (ad 11)) hx hb hts hin0 hown hK hP 1 st_1 12 (by decide) lk116 (fun _ h => h) rfl dX1_bill_50 ?_
        refine lv_iload_n hx hb dX1_bill_53 rfl (lv_at hl 2 rfl) ?_
        refine lv_iload_n hx hb dX1_bill_54 rfl (lv_at hl 0 rfl) ?_
        refine q_ist hx hb hK hI hP hS 11 8 (ar_11) dX1_bill_55 (by first | assumption | exact isCell_in (by assumption) | exact isWalker_in (by assumption) | exact isAboard_in (by assumption) | exact isPair_in1 (by assumption) | exact isPair_in2 (by assumption) | exact isWithin7_in (by assumption) | exact vp_in_nI (by omega) (by decide)) (fun H locs hP hS => ?_)
        have hP : WP D cI cS ad (sR ((xX1_kilogramsToBill ((xX1_remember R F o q).1) ((xX1_remember R F o q).2) p1).2) 11 ((p1).toNatClampNeg) ((xX1_kilogramsToBill ((xX1_remember R F o q).1) ((xX1_remember R F o q).2) p1).1)) ((xX1_remember R F o q).2) H := hP
        refine lv_aload_n hx hb dX1_bill_56 rfl (lv_at hl 1 rfl) ?_
        refine q_getF (v := .ref (ad 1)) hx hb hts hin1 hown hK hP 0 (by decide) lk10 (fun _ h => h) rfl dX1_bill_57 ?_
        refine q_getS (v := .ref (ad 12)) hx hb hts hin0 hown hK hP 1 st_1 13 (by decide) lk123 (fun _ h => h) rfl dX1_bill_60 ?_
        refine lv_iload_n hx hb dX1_bill_63 rfl (lv_at hl 2 rfl) ?_
        refine lv_aload_n hx hb dX1_bill_64 rfl (lv_at hl 1 rfl) ?_
        refine q_getF (v := .ref (ad 1)) hx hb hts hin1 hown hK hP 0 (by decide) lk10 (fun _ h => h) rfl dX1_bill_65 ?_
        refine q_getS (v := .int (((xX1_remember R F o q).2) 1 1)) hx hb hts hin0 hown hK hP 1 st_1 1 (by decide) lk110 (fun _ h => h) rfl dX1_bill_68 ?_
        refine q_ist hx hb hK hI hP hS 12 8 (ar_12) dX1_bill_71 (by first | assumption | exact isCell_in (by assumption) | exact isWalker_in (by assumption) | exact isAboard_in (by assumption) | exact isPair_in1 (by assumption) | exact isPair_in2 (by assumption) | exact isWithin7_in (by assumption) | exact vp_in_nI (by omega) (by decide)) (fun H locs hP hS => ?_)
        have hP : WP D cI cS ad (sR (sR ((xX1_kilogramsToBill ((xX1_remember R F o q).1) ((xX1_remember R F o q).2) p1).2) 11 ((p1).toNatClampNeg) ((xX1_kilogramsToBill ((xX1_remember R F o q).1) ((xX1_remember R F o q).2) p1).1)) 12 ((p1).toNatClampNeg) (((xX1_remember R F o q).2) 1 1)) ((xX1_remember R F o q).2) H := hP
        refine lv_iload_n hx hb dX1_bill_72 rfl (lv_at hl 0 rfl) ?_
        refine lv_bipush (v := 20) hx hb dX1_bill_73 (by decide) ?_
        refine lv_icmp_lt (tgt := 88) hx hb dX1_bill_75 (by decide) (fun c_75 => ?_) (fun c_75 => ?_)
        · refine lv_iload_n hx hb dX1_bill_88 rfl (lv_at hl 0 rfl) ?_
          have hX : (xX1_bill R F p1 o q) = (((xX1_kilogramsToBill ((xX1_remember R F o q).1) ((xX1_remember R F o q).2) p1).1), (sR (sR ((xX1_kilogramsToBill ((xX1_remember R F o q).1) ((xX1_remember R F o q).2) p1).2) 11 ((p1).toNatClampNeg) ((xX1_kilogramsToBill ((xX1_remember R F o q).1) ((xX1_remember R F o q).2) p1).1)) 12 ((p1).toNatClampNeg) (((xX1_remember R F o q).2) 1 1)), ((xX1_remember R F o q).2)) := by unfold xX1_bill; rw [if_neg c_5, if_neg c_16, if_pos c_30, if_pos c_75]
          exact W.iret (v := ((xX1_kilogramsToBill ((xX1_remember R F o q).1) ((xX1_remember R F o q).2) p1).1)) hx hb hr (fun t ht hW => ⟨by rw [hX], by rw [hX, ht]; with_reducible exact hP, hS.F ht⟩) hS.2.2 dX1_bill_89
        · refine lv_aload_n hx hb dX1_bill_78 rfl (lv_at hl 1 rfl) ?_
          refine q_getF (v := .ref (ad 1)) hx hb hts hin1 hown hK hP 0 (by decide) lk10 (fun _ h => h) rfl dX1_bill_79 ?_
          refine q_getS (v := .ref (ad 8)) hx hb hts hin0 hown hK hP 1 st_1 9 (by decide) lk86 (fun _ h => h) rfl dX1_bill_82 ?_
          refine lv_iload_n hx hb dX1_bill_85 rfl (lv_at hl 2 rfl) ?_
          refine lv_iload_n hx hb dX1_bill_86 rfl (lv_at hl 0 rfl) ?_
          refine q_ist hx hb hK hI hP hS 8 8 (ar_8) dX1_bill_87 (by first | assumption | exact isCell_in (by assumption) | exact isWalker_in (by assumption) | exact isAboard_in (by assumption) | exact isPair_in1 (by assumption) | exact isPair_in2 (by assumption) | exact isWithin7_in (by assumption) | exact vp_in_nI (by omega) (by decide)) (fun H locs hP hS => ?_)
          have hP : WP D cI cS ad (sR (sR (sR ((xX1_kilogramsToBill ((xX1_remember R F o q).1) ((xX1_remember R F o q).2) p1).2) 11 ((p1).toNatClampNeg) ((xX1_kilogramsToBill ((xX1_remember R F o q).1) ((xX1_remember R F o q).2) p1).1)) 12 ((p1).toNatClampNeg) (((xX1_remember R F o q).2) 1 1)) 8 ((p1).toNatClampNeg) ((xX1_kilogramsToBill ((xX1_remember R F o q).1) ((xX1_remember R F o q).2) p1).1)) ((xX1_remember R F o q).2) H := hP
          refine lv_iload_n hx hb dX1_bill_88 rfl (lv_at hl 0 rfl) ?_
          have hX : (xX1_bill R F p1 o q) = (((xX1_kilogramsToBill ((xX1_remember R F o q).1) ((xX1_remember R F o q).2) p1).1), (sR (sR (sR ((xX1_kilogramsToBill ((xX1_remember R F o q).1) ((xX1_remember R F o q).2) p1).2) 11 ((p1).toNatClampNeg) ((xX1_kilogramsToBill ((xX1_remember R F o q).1) ((xX1_remember R F o q).2) p1).1)) 12 ((p1).toNatClampNeg) (((xX1_remember R F o q).2) 1 1)) 8 ((p1).toNatClampNeg) ((xX1_kilogramsToBill ((xX1_remember R F o q).1) ((xX1_remember R F o q).2) p1).1)), ((xX1_remember R F o q).2)) := by unfold xX1_bill; rw [if_neg c_5, if_neg c_16, if_pos c_30, if_neg c_75]
          exact W.iret (v := ((xX1_kilogramsToBill ((xX1_remember R F o q).1) ((xX1_remember R F o q).2) p1).1)) hx hb hr (fun t ht hW => ⟨by rw [hX], by rw [hX, ht]; with_reducible exact hP, hS.F ht⟩) hS.2.2 dX1_bill_89
      · refine lv_ldc (v := -100002) hx hb hown lk55 dX1_bill_33 ?_
        have hX : (xX1_bill R F p1 o q) = ((-100002 : Int32), R, F) := by unfold xX1_bill; rw [if_neg c_5, if_neg c_16, if_neg c_30]
        exact W.iret (v := (-100002 : Int32)) hx hb hr (fun t ht hW => ⟨by rw [hX], by rw [hX, ht]; with_reducible exact hP, hS.F ht⟩) hS.2.2 dX1_bill_35
  · refine lv_ldc (v := -100001) hx hb hown lk45 dX1_bill_8 ?_
    have hX : (xX1_bill R F p1 o q) = ((-100001 : Int32), R, F) := by unfold xX1_bill; rw [if_pos c_5]
    exact W.iret (v := (-100001 : Int32)) hx hb hr (fun t ht hW => ⟨by rw [hX], by rw [hX, ht]; with_reducible exact hP, hS.F ht⟩) hS.2.2 dX1_bill_10

def xX1_complain (R F : Nat → Nat → Int32) (p1 : Int32) (o : Nat) (q : Nat) : Int32 × (Nat → Nat → Int32) × (Nat → Nat → Int32) :=
  (if (xX1_isWalker R F p1) = (0 : Int32) then ((-100001 : Int32), R, F) else (if (xX1_isAboard R F p1) = (0 : Int32) then (if (R 11 (p1).toNatClampNeg) = (-100009 : Int32) then ((-100002 : Int32), R, F) else (if (R 13 (p1).toNatClampNeg) = (-100009 : Int32) then ((xX1_backAmount (sR ((xX1_remember R F o q).1) 13 ((p1).toNatClampNeg) (if (0 : Int32) < ((((xX1_remember R F o q).1) 11 (p1).toNatClampNeg) - (((xX1_remember R F o q).1) 6 (p1).toNatClampNeg)) then ((((xX1_remember R F o q).1) 11 (p1).toNatClampNeg) - (((xX1_remember R F o q).1) 6 (p1).toNatClampNeg)) else (0 : Int32))) ((xX1_remember R F o q).2) p1), (sR ((xX1_remember R F o q).1) 13 ((p1).toNatClampNeg) (if (0 : Int32) < ((((xX1_remember R F o q).1) 11 (p1).toNatClampNeg) - (((xX1_remember R F o q).1) 6 (p1).toNatClampNeg)) then ((((xX1_remember R F o q).1) 11 (p1).toNatClampNeg) - (((xX1_remember R F o q).1) 6 (p1).toNatClampNeg)) else (0 : Int32))), ((xX1_remember R F o q).2)) else ((-100002 : Int32), R, F))) else ((-100002 : Int32), R, F)))
set_option maxHeartbeats 4000000 in
set_option maxRecDepth 100000 in
theorem mX1_complain (l : Launch) (D : va_G) (cI cS : ClassId) (ad : Nat → Nat) (hI : Inj ad) (R F : Nat → Nat → Int32) (p1 : Int32) (o : Nat) (q : Nat) (ho : o < 5) (hq : q ≤ 5) (hF0 : F 0 0 = nI o) (hF1 : F 0 1 = nI q) : Met l yX1_complain wsX1_complain ({ frames := 4, cells := 0, slots := 0, locals := 111 }) (PW D cI cS ad R F [.ref (ad 0), .int p1]) (QI D cI cS ad ((xX1_complain R F p1 o q).1) ((xX1_complain R F p1 o q).2.1) ((xX1_complain R F p1 o q).2.2)) 0 0 (AA ad) := by
  refine Met.ofW (cc := cX1_complain) (maxL := 2) (ret := (some .int)) (by decide) rfl ?_
  intro p e s m args below meth c s₁ B hml hv
  obtain ⟨rfl, hP, hK⟩ := hv
  have hx := B.exec
  have hb := B.bytes
  have hr := B.returns
  have hts := atoms_spec (ws := wsX1_complain) B.pre
  have hown : s.vm.findClass RX1 = some m.cls := findClass_of_methodNamed B.named
  have hlocks := B.notSynchronized
  have hS : va_S (AA ad) s.heap s.heap [] := va_S.rf
  have hl := lv_entry ([.ref (ad 0), .int p1]) (n := 2) (Nat.le_of_ble_eq_true rfl)
  rw [lg_entry_eq]
  generalize (lg_sl ([.ref (ad 0), .int p1]) ++ List.replicate (2 - (lg_sl ([.ref (ad 0), .int p1])).length) Slot.unset).toArray = ls at hl ⊢
  have hl : lv_has ls 2 [(0, .ref (ad 0)), (1, .int p1)] := hl
  have lk45 := hts (.constant RX1 45 (-100001)) (by decide +kernel)
  have lk10 := hts (.fieldLink RX1 10 "FerryFloor" "now" "LFerryFloor$State;") (by decide +kernel)
  have lk116 := hts (.fieldLink RX1 116 "FerryFloor$State" "billKilograms" "[I") (by decide +kernel)
  have lk78 := hts (.constant RX1 78 (-100009)) (by decide +kernel)
  have lk126 := hts (.fieldLink RX1 126 "FerryFloor$State" "backKilograms" "[I") (by decide +kernel)
  have lk55 := hts (.constant RX1 55 (-100002)) (by decide +kernel)
  have lk83 := hts (.fieldLink RX1 83 "FerryFloor$State" "weights" "[I") (by decide +kernel)
  have hin1 : ∀ w ∈ u_ws RX1 TX1 7, w ∈ wsX1_complain := by decide +kernel
  have hin0 : ∀ w ∈ u_ws RX0 TX0 15, w ∈ wsX1_complain := by decide +kernel
  refine lv_aload_n hx hb dX1_complain_0 rfl (lv_at hl 0 rfl) ?_
  refine lv_iload_n hx hb dX1_complain_1 rfl (lv_at hl 1 rfl) ?_
  refine q_callS (va_runV (As := [.int p1]) (rest := []) ⟨hx, hb, hml, hown, hts⟩ (mX1_isWalker l D cI cS ad hI R F p1) (cwV 1 hts gX1_complain_X1_isWalker rfl rfl rfl (by decide +kernel) ⟨Nat.le_of_ble_eq_true rfl, Nat.le_of_ble_eq_true rfl⟩) (PW_preV (i := 0) (by decide) CC_0 rfl rfl hK hP) rfl rfl hl.1 rfl (lv_room (Nat.le_of_ble_eq_true rfl)) dX1_complain_2 ⟨Nat.zero_le _, Nat.zero_le _⟩) ?_
  refine lv_if_ne (tgt := 11) hx hb dX1_complain_5 (by decide) (fun c_5 => ?_) (fun c_5 => ?_)
  · refine lv_aload_n hx hb dX1_complain_11 rfl (lv_at hl 0 rfl) ?_
    refine lv_iload_n hx hb dX1_complain_12 rfl (lv_at hl 1 rfl) ?_
    refine q_callS (va_runV (As := [.int p1]) (rest := []) ⟨hx, hb, hml, hown, hts⟩ (mX1_isAboard l D cI cS ad hI R F p1) (cwV 1 hts gX1_complain_X1_isAboard rfl rfl rfl (by decide +kernel) ⟨Nat.le_of_ble_eq_true rfl, Nat.le_of_ble_eq_true rfl⟩) (PW_preV (i := 0) (by decide) CC_0 rfl rfl hK hP) rfl rfl hl.1 rfl (lv_room (Nat.le_of_ble_eq_true rfl)) dX1_complain_13 ⟨Nat.zero_le _, Nat.zero_le _⟩) ?_
    refine lv_if_ne (tgt := 47) hx hb dX1_complain_16 (by decide) (fun c_16 => ?_) (fun c_16 => ?_)
    · refine lv_ldc (v := -100002) hx hb hown lk55 dX1_complain_47 ?_
      have hX : (xX1_complain R F p1 o q) = ((-100002 : Int32), R, F) := by unfold xX1_complain; rw [if_neg c_5, if_neg c_16]
      exact W.iret (v := (-100002 : Int32)) hx hb hr (fun t ht hW => ⟨by rw [hX], by rw [hX, ht]; with_reducible exact hP, hS.F ht⟩) hS.2.2 dX1_complain_49
    · refine lv_aload_n hx hb dX1_complain_19 rfl (lv_at hl 0 rfl) ?_
      refine q_getF (v := .ref (ad 1)) hx hb hts hin1 hown hK hP 0 (by decide) lk10 (fun _ h => h) rfl dX1_complain_20 ?_
      refine q_getS (v := .ref (ad 11)) hx hb hts hin0 hown hK hP 1 st_1 12 (by decide) lk116 (fun _ h => h) rfl dX1_complain_23 ?_
      refine lv_iload_n hx hb dX1_complain_26 rfl (lv_at hl 1 rfl) ?_
      refine q_ild hx hb hK hP 11 8 (ar_11) dX1_complain_27 (by first | assumption | exact isCell_in (by assumption) | exact isWalker_in (by assumption) | exact isAboard_in (by assumption) | exact isPair_in1 (by assumption) | exact isPair_in2 (by assumption) | exact isWithin7_in (by assumption) | exact vp_in_nI (by omega) (by decide)) ?_
      refine lv_ldc (v := -100009) hx hb hown lk78 dX1_complain_28 ?_
      refine lv_icmp_eq (tgt := 47) hx hb dX1_complain_30 (by decide) (fun c_30 => ?_) (fun c_30 => ?_)
      · refine lv_ldc (v := -100002) hx hb hown lk55 dX1_complain_47 ?_
        have hX : (xX1_complain R F p1 o q) = ((-100002 : Int32), R, F) := by unfold xX1_complain; rw [if_neg c_5, if_pos c_16, if_pos c_30]
        exact W.iret (v := (-100002 : Int32)) hx hb hr (fun t ht hW => ⟨by rw [hX], by rw [hX, ht]; with_reducible exact hP, hS.F ht⟩) hS.2.2 dX1_complain_49
      · refine lv_aload_n hx hb dX1_complain_33 rfl (lv_at hl 0 rfl) ?_
        refine q_getF (v := .ref (ad 1)) hx hb hts hin1 hown hK hP 0 (by decide) lk10 (fun _ h => h) rfl dX1_complain_34 ?_
        refine q_getS (v := .ref (ad 13)) hx hb hts hin0 hown hK hP 1 st_1 14 (by decide) lk126 (fun _ h => h) rfl dX1_complain_37 ?_
        refine lv_iload_n hx hb dX1_complain_40 rfl (lv_at hl 1 rfl) ?_
        refine q_ild hx hb hK hP 13 8 (ar_13) dX1_complain_41 (by first | assumption | exact isCell_in (by assumption) | exact isWalker_in (by assumption) | exact isAboard_in (by assumption) | exact isPair_in1 (by assumption) | exact isPair_in2 (by assumption) | exact isWithin7_in (by assumption) | exact vp_in_nI (by omega) (by decide)) ?_
        refine lv_ldc (v := -100009) hx hb hown lk78 dX1_complain_42 ?_
        refine lv_icmp_eq (tgt := 50) hx hb dX1_complain_44 (by decide) (fun c_44 => ?_) (fun c_44 => ?_)
        · refine lv_aload_n hx hb dX1_complain_50 rfl (lv_at hl 0 rfl) ?_
          refine q_callV (va_runV (As := []) (rest := []) ⟨hx, hb, hml, hown, hts⟩ (mX1_remember l D cI cS ad hI R F o q ho hq hF0 hF1) (cwV 0 hts gX1_complain_X1_remember rfl rfl rfl (by decide +kernel) ⟨Nat.le_of_ble_eq_true rfl, Nat.le_of_ble_eq_true rfl⟩) (PW_preV (i := 0) (by decide) CC_0 rfl rfl hK hP) rfl rfl hl.1 rfl (lv_room (Nat.le_of_ble_eq_true rfl)) dX1_complain_51 ⟨Nat.zero_le _, Nat.zero_le _⟩) hS (fun H locs hP hS => ?_)
          refine lv_aload_n hx hb dX1_complain_54 rfl (lv_at hl 0 rfl) ?_
          refine q_getF (v := .ref (ad 1)) hx hb hts hin1 hown hK hP 0 (by decide) lk10 (fun _ h => h) rfl dX1_complain_55 ?_
          refine q_getS (v := .ref (ad 13)) hx hb hts hin0 hown hK hP 1 st_1 14 (by decide) lk126 (fun _ h => h) rfl dX1_complain_58 ?_
          refine lv_iload_n hx hb dX1_complain_61 rfl (lv_at hl 1 rfl) ?_
          refine lv_iconst (v := 0) hx hb dX1_complain_62 (by decide) ?_
          refine lv_aload_n hx hb dX1_complain_63 rfl (lv_at hl 0 rfl) ?_
          refine q_getF (v := .ref (ad 1)) hx hb hts hin1 hown hK hP 0 (by decide) lk10 (fun _ h => h) rfl dX1_complain_64 ?_
          refine q_getS (v := .ref (ad 11)) hx hb hts hin0 hown hK hP 1 st_1 12 (by decide) lk116 (fun _ h => h) rfl dX1_complain_67 ?_
          refine lv_iload_n hx hb dX1_complain_70 rfl (lv_at hl 1 rfl) ?_
          refine q_ild hx hb hK hP 11 8 (ar_11) dX1_complain_71 (by first | assumption | exact isCell_in (by assumption) | exact isWalker_in (by assumption) | exact isAboard_in (by assumption) | exact isPair_in1 (by assumption) | exact isPair_in2 (by assumption) | exact isWithin7_in (by assumption) | exact vp_in_nI (by omega) (by decide)) ?_
          refine lv_aload_n hx hb dX1_complain_72 rfl (lv_at hl 0 rfl) ?_
          refine q_getF (v := .ref (ad 1)) hx hb hts hin1 hown hK hP 0 (by decide) lk10 (fun _ h => h) rfl dX1_complain_73 ?_
          refine q_getS (v := .ref (ad 6)) hx hb hts hin0 hown hK hP 1 st_1 7 (by decide) lk83 (fun _ h => h) rfl dX1_complain_76 ?_
          refine lv_iload_n hx hb dX1_complain_79 rfl (lv_at hl 1 rfl) ?_
          refine q_ild hx hb hK hP 6 8 (ar_6) dX1_complain_80 (by first | assumption | exact isCell_in (by assumption) | exact isWalker_in (by assumption) | exact isAboard_in (by assumption) | exact isPair_in1 (by assumption) | exact isPair_in2 (by assumption) | exact isWithin7_in (by assumption) | exact vp_in_nI (by omega) (by decide)) ?_
          refine lv_isub hx hb dX1_complain_81 ?_
          refine va_mmax hx hb (hml.trans hl.1.symm) hown (hts (.methodLink RX1 129 Lib.Math.max.name) (by decide +kernel)) (hts (.static Lib.Math.max.name) (by decide +kernel)) (hts (.initialized "java/lang/Math") (by decide +kernel)) (hts (.code Lib.Math.max.name Lib.Math.max.code 2 (some .int)) (by decide +kernel)) (Nat.le_of_ble_eq_true rfl) (Nat.le_of_ble_eq_true rfl) (Nat.zero_le _) (Nat.zero_le _) dX1_complain_82 ?_
          refine q_ist hx hb hK hI hP hS 13 8 (ar_13) dX1_complain_85 (by first | assumption | exact isCell_in (by assumption) | exact isWalker_in (by assumption) | exact isAboard_in (by assumption) | exact isPair_in1 (by assumption) | exact isPair_in2 (by assumption) | exact isWithin7_in (by assumption) | exact vp_in_nI (by omega) (by decide)) (fun H locs hP hS => ?_)
          have hP : WP D cI cS ad (sR ((xX1_remember R F o q).1) 13 ((p1).toNatClampNeg) (if (0 : Int32) < ((((xX1_remember R F o q).1) 11 (p1).toNatClampNeg) - (((xX1_remember R F o q).1) 6 (p1).toNatClampNeg)) then ((((xX1_remember R F o q).1) 11 (p1).toNatClampNeg) - (((xX1_remember R F o q).1) 6 (p1).toNatClampNeg)) else (0 : Int32))) ((xX1_remember R F o q).2) H := hP
          refine lv_aload_n hx hb dX1_complain_86 rfl (lv_at hl 0 rfl) ?_
          refine lv_iload_n hx hb dX1_complain_87 rfl (lv_at hl 1 rfl) ?_
          refine q_callS (va_runV (As := [.int p1]) (rest := []) ⟨hx, hb, hml, hown, hts⟩ (mX1_backAmount l D cI cS ad hI (sR ((xX1_remember R F o q).1) 13 ((p1).toNatClampNeg) (if (0 : Int32) < ((((xX1_remember R F o q).1) 11 (p1).toNatClampNeg) - (((xX1_remember R F o q).1) 6 (p1).toNatClampNeg)) then ((((xX1_remember R F o q).1) 11 (p1).toNatClampNeg) - (((xX1_remember R F o q).1) 6 (p1).toNatClampNeg)) else (0 : Int32))) ((xX1_remember R F o q).2) p1) (cwV 1 hts gX1_complain_X1_backAmount rfl rfl rfl (by decide +kernel) ⟨Nat.le_of_ble_eq_true rfl, Nat.le_of_ble_eq_true rfl⟩) (PW_preV (i := 0) (by decide) CC_0 rfl rfl hK hP) rfl rfl hl.1 rfl (lv_room (Nat.le_of_ble_eq_true rfl)) dX1_complain_88 ⟨Nat.zero_le _, Nat.zero_le _⟩) ?_
          have hX : (xX1_complain R F p1 o q) = ((xX1_backAmount (sR ((xX1_remember R F o q).1) 13 ((p1).toNatClampNeg) (if (0 : Int32) < ((((xX1_remember R F o q).1) 11 (p1).toNatClampNeg) - (((xX1_remember R F o q).1) 6 (p1).toNatClampNeg)) then ((((xX1_remember R F o q).1) 11 (p1).toNatClampNeg) - (((xX1_remember R F o q).1) 6 (p1).toNatClampNeg)) else (0 : Int32))) ((xX1_remember R F o q).2) p1), (sR ((xX1_remember R F o q).1) 13 ((p1).toNatClampNeg) (if (0 : Int32) < ((((xX1_remember R F o q).1) 11 (p1).toNatClampNeg) - (((xX1_remember R F o q).1) 6 (p1).toNatClampNeg)) then ((((xX1_remember R F o q).1) 11 (p1).toNatClampNeg) - (((xX1_remember R F o q).1) 6 (p1).toNatClampNeg)) else (0 : Int32))), ((xX1_remember R F o q).2)) := by unfold xX1_complain; rw [if_neg c_5, if_pos c_16, if_neg c_30, if_pos c_44]
          exact W.iret (v := (xX1_backAmount (sR ((xX1_remember R F o q).1) 13 ((p1).toNatClampNeg) (if (0 : Int32) < ((((xX1_remember R F o q).1) 11 (p1).toNatClampNeg) - (((xX1_remember R F o q).1) 6 (p1).toNatClampNeg)) then ((((xX1_remember R F o q).1) 11 (p1).toNatClampNeg) - (((xX1_remember R F o q).1) 6 (p1).toNatClampNeg)) else (0 : Int32))) ((xX1_remember R F o q).2) p1)) hx hb hr (fun t ht hW => ⟨by rw [hX], by rw [hX, ht]; with_reducible exact hP, hS.F ht⟩) hS.2.2 dX1_complain_91
        · refine lv_ldc (v := -100002) hx hb hown lk55 dX1_complain_47 ?_
          have hX : (xX1_complain R F p1 o q) = ((-100002 : Int32), R, F) := by unfold xX1_complain; rw [if_neg c_5, if_pos c_16, if_neg c_30, if_neg c_44]
          exact W.iret (v := (-100002 : Int32)) hx hb hr (fun t ht hW => ⟨by rw [hX], by rw [hX, ht]; with_reducible exact hP, hS.F ht⟩) hS.2.2 dX1_complain_49
  · refine lv_ldc (v := -100001) hx hb hown lk45 dX1_complain_8 ?_
    have hX : (xX1_complain R F p1 o q) = ((-100001 : Int32), R, F) := by unfold xX1_complain; rw [if_pos c_5]
    exact W.iret (v := (-100001 : Int32)) hx hb hr (fun t ht hW => ⟨by rw [hX], by rw [hX, ht]; with_reducible exact hP, hS.F ht⟩) hS.2.2 dX1_complain_10
end
section
def xX1_count (R F : Nat → Nat → Int32) (p1 : Int32) : Int32 × (Nat → Nat → Int32) :=
  (if p1 = (0 : Int32) then ((F 1 0), R) else (if p1 = (1 : Int32) then ((F 1 2), R) else (if p1 = (2 : Int32) then ((xX1_walkersAboard R F), R) else (if p1 = (3 : Int32) then ((F 0 1), R) else (if p1 = (4 : Int32) then (((xX1_errorWith R F 9).1), ((xX1_errorWith R F 9).2)) else (if p1 = (5 : Int32) then (((xX1_sumOfReadings R F).1), ((xX1_sumOfReadings R F).2)) else (if p1 = (6 : Int32) then ((xX1_sumOf R F 4), R) else (if p1 = (7 : Int32) then ((xX1_walkersMisplaced R F), R) else (if p1 = (8 : Int32) then ((F 1 1), R) else (if p1 = (9 : Int32) then ((xX1_kilogramsBilled R F), R) else (if p1 = (10 : Int32) then ((xX1_sumOfBillAmounts R F), R) else (if p1 = (11 : Int32) then ((xX1_sumOfBackAmounts R F), R) else ((-100001 : Int32), R)))))))))))))
set_option maxHeartbeats 4000000 in
set_option maxRecDepth 100000 in
theorem mX1_count (l : Launch) (D : va_G) (cI cS : ClassId) (ad : Nat → Nat) (hI : Inj ad) (R F : Nat → Nat → Int32) (p1 : Int32) : Met l yX1_count wsX1_count ({ frames := 5, cells := 0, slots := 0, locals := 115 }) (PW D cI cS ad R F [.ref (ad 0), .int p1]) (QI D cI cS ad ((xX1_count R F p1).1) ((xX1_count R F p1).2) F) 0 0 (AA ad) := by
  refine Met.ofW (cc := cX1_count) (maxL := 2) (ret := (some .int)) (by decide) rfl ?_
  intro p e s m args below meth c s₁ B hml hv
  obtain ⟨rfl, hP, hK⟩ := hv
  have hx := B.exec
  have hb := B.bytes
  have hr := B.returns
  have hts := atoms_spec (ws := wsX1_count) B.pre
  have hown : s.vm.findClass RX1 = some m.cls := findClass_of_methodNamed B.named
  have hlocks := B.notSynchronized
  have hS : va_S (AA ad) s.heap s.heap [] := va_S.rf
  have hl := lv_entry ([.ref (ad 0), .int p1]) (n := 2) (Nat.le_of_ble_eq_true rfl)
  rw [lg_entry_eq]
  generalize (lg_sl ([.ref (ad 0), .int p1]) ++ List.replicate (2 - (lg_sl ([.ref (ad 0), .int p1])).length) Slot.unset).toArray = ls at hl ⊢
  have hl : lv_has ls 2 [(0, .ref (ad 0)), (1, .int p1)] := hl
  have lk10 := hts (.fieldLink RX1 10 "FerryFloor" "now" "LFerryFloor$State;") (by decide +kernel)
  have lk52 := hts (.fieldLink RX1 52 "FerryFloor$State" "minute" "I") (by decide +kernel)
  have lk79 := hts (.fieldLink RX1 79 "FerryFloor$State" "walkers" "I") (by decide +kernel)
  have lk24 := hts (.fieldLink RX1 24 "FerryFloor" "kept" "I") (by decide +kernel)
  have lk89 := hts (.fieldLink RX1 89 "FerryFloor$State" "bookPlaces" "[I") (by decide +kernel)
  have lk62 := hts (.fieldLink RX1 62 "FerryFloor$State" "tares" "[I") (by decide +kernel)
  have lk110 := hts (.fieldLink RX1 110 "FerryFloor$State" "price" "I") (by decide +kernel)
  have lk45 := hts (.constant RX1 45 (-100001)) (by decide +kernel)
  have hin1 : ∀ w ∈ u_ws RX1 TX1 7, w ∈ wsX1_count := by decide +kernel
  have hin0 : ∀ w ∈ u_ws RX0 TX0 15, w ∈ wsX1_count := by decide +kernel
  refine lv_iload_n hx hb dX1_count_0 rfl (lv_at hl 1 rfl) ?_
  by_cases c_1_0 : p1 = (0 : Int32)
  · refine lv_tableIn (x := p1) (off := 63) (tgt := 64) hx hb dX1_count_1 (by rw [c_1_0]; decide) (by rw [c_1_0]; decide) (by rw [c_1_0]; rfl) (by decide) ?_
    refine lv_aload_n hx hb dX1_count_64 rfl (lv_at hl 0 rfl) ?_
    refine q_getF (v := .ref (ad 1)) hx hb hts hin1 hown hK hP 0 (by decide) lk10 (fun _ h => h) rfl dX1_count_65 ?_
    refine q_getS (v := .int (F 1 0)) hx hb hts hin0 hown hK hP 1 st_1 0 (by decide) lk52 (fun _ h => h) rfl dX1_count_68 ?_
    have hX : (xX1_count R F p1) = ((F 1 0), R) := by unfold xX1_count; rw [if_pos c_1_0]
    exact W.iret (v := (F 1 0)) hx hb hr (fun t ht hW => ⟨by rw [hX], by rw [hX, ht]; with_reducible exact hP, hS.F ht⟩) hS.2.2 dX1_count_71
  by_cases c_1_1 : p1 = (1 : Int32)
  · refine lv_tableIn (x := p1) (off := 71) (tgt := 72) hx hb dX1_count_1 (by rw [c_1_1]; decide) (by rw [c_1_1]; decide) (by rw [c_1_1]; rfl) (by decide) ?_
    refine lv_aload_n hx hb dX1_count_72 rfl (lv_at hl 0 rfl) ?_
    refine q_getF (v := .ref (ad 1)) hx hb hts hin1 hown hK hP 0 (by decide) lk10 (fun _ h => h) rfl dX1_count_73 ?_
    refine q_getS (v := .int (F 1 2)) hx hb hts hin0 hown hK hP 1 st_1 2 (by decide) lk79 (fun _ h => h) rfl dX1_count_76 ?_
    have hX : (xX1_count R F p1) = ((F 1 2), R) := by unfold xX1_count; rw [if_neg c_1_0, if_pos c_1_1]
    exact W.iret (v := (F 1 2)) hx hb hr (fun t ht hW => ⟨by rw [hX], by rw [hX, ht]; with_reducible exact hP, hS.F ht⟩) hS.2.2 dX1_count_79
  by_cases c_1_2 : p1 = (2 : Int32)
  · refine lv_tableIn (x := p1) (off := 79) (tgt := 80) hx hb dX1_count_1 (by rw [c_1_2]; decide) (by rw [c_1_2]; decide) (by rw [c_1_2]; rfl) (by decide) ?_
    refine lv_aload_n hx hb dX1_count_80 rfl (lv_at hl 0 rfl) ?_
    refine q_callS (va_runV (As := []) (rest := []) ⟨hx, hb, hml, hown, hts⟩ (mX1_walkersAboard l D cI cS ad hI R F) (cwV 0 hts gX1_count_X1_walkersAboard rfl rfl rfl (by decide +kernel) ⟨Nat.le_of_ble_eq_true rfl, Nat.le_of_ble_eq_true rfl⟩) (PW_preV (i := 0) (by decide) CC_0 rfl rfl hK hP) rfl rfl hl.1 rfl (lv_room (Nat.le_of_ble_eq_true rfl)) dX1_count_81 ⟨Nat.zero_le _, Nat.zero_le _⟩) ?_
    have hX : (xX1_count R F p1) = ((xX1_walkersAboard R F), R) := by unfold xX1_count; rw [if_neg c_1_0, if_neg c_1_1, if_pos c_1_2]
    exact W.iret (v := (xX1_walkersAboard R F)) hx hb hr (fun t ht hW => ⟨by rw [hX], by rw [hX, ht]; with_reducible exact hP, hS.F ht⟩) hS.2.2 dX1_count_84
  by_cases c_1_3 : p1 = (3 : Int32)
  · refine lv_tableIn (x := p1) (off := 84) (tgt := 85) hx hb dX1_count_1 (by rw [c_1_3]; decide) (by rw [c_1_3]; decide) (by rw [c_1_3]; rfl) (by decide) ?_
    refine lv_aload_n hx hb dX1_count_85 rfl (lv_at hl 0 rfl) ?_
    refine q_getF (v := .int (F 0 1)) hx hb hts hin1 hown hK hP 3 (by decide) lk24 (fun _ h => h) rfl dX1_count_86 ?_
    have hX : (xX1_count R F p1) = ((F 0 1), R) := by unfold xX1_count; rw [if_neg c_1_0, if_neg c_1_1, if_neg c_1_2, if_pos c_1_3]
    exact W.iret (v := (F 0 1)) hx hb hr (fun t ht hW => ⟨by rw [hX], by rw [hX, ht]; with_reducible exact hP, hS.F ht⟩) hS.2.2 dX1_count_89
  by_cases c_1_4 : p1 = (4 : Int32)
  · refine lv_tableIn (x := p1) (off := 89) (tgt := 90) hx hb dX1_count_1 (by rw [c_1_4]; decide) (by rw [c_1_4]; decide) (by rw [c_1_4]; rfl) (by decide) ?_
    refine lv_aload_n hx hb dX1_count_90 rfl (lv_at hl 0 rfl) ?_
    refine lv_aload_n hx hb dX1_count_91 rfl (lv_at hl 0 rfl) ?_
    refine q_getF (v := .ref (ad 1)) hx hb hts hin1 hown hK hP 0 (by decide) lk10 (fun _ h => h) rfl dX1_count_92 ?_
    refine q_getS (v := .ref (ad 9)) hx hb hts hin0 hown hK hP 1 st_1 10 (by decide) lk89 (fun _ h => h) rfl dX1_count_95 ?_
    refine q_callI (va_runV (As := [.ref (ad 9)]) (rest := []) ⟨hx, hb, hml, hown, hts⟩ (mX1_errorWith l D cI cS ad hI R F 9 (ar_9)) (cwV 1 hts gX1_count_X1_errorWith rfl rfl rfl (by decide +kernel) ⟨Nat.le_of_ble_eq_true rfl, Nat.le_of_ble_eq_true rfl⟩) (PW_preV (i := 0) (by decide) CC_0 rfl rfl hK hP) rfl rfl hl.1 rfl (lv_room (Nat.le_of_ble_eq_true rfl)) dX1_count_98 ⟨Nat.zero_le _, Nat.zero_le _⟩) hS (fun H locs hP hS => ?_)
    have hX : (xX1_count R F p1) = (((xX1_errorWith R F 9).1), ((xX1_errorWith R F 9).2)) := by unfold xX1_count; rw [if_neg c_1_0, if_neg c_1_1, if_neg c_1_2, if_neg c_1_3, if_pos c_1_4]
    exact W.iret (v := ((xX1_errorWith R F 9).1)) hx hb hr (fun t ht hW => ⟨by rw [hX], by rw [hX, ht]; with_reducible exact hP, hS.F ht⟩) hS.2.2 dX1_count_101
  by_cases c_1_5 : p1 = (5 : Int32)
  · refine lv_tableIn (x := p1) (off := 101) (tgt := 102) hx hb dX1_count_1 (by rw [c_1_5]; decide) (by rw [c_1_5]; decide) (by rw [c_1_5]; rfl) (by decide) ?_
    refine lv_aload_n hx hb dX1_count_102 rfl (lv_at hl 0 rfl) ?_
    refine q_callI (va_runV (As := []) (rest := []) ⟨hx, hb, hml, hown, hts⟩ (mX1_sumOfReadings l D cI cS ad hI R F) (cwV 0 hts gX1_count_X1_sumOfReadings rfl rfl rfl (by decide +kernel) ⟨Nat.le_of_ble_eq_true rfl, Nat.le_of_ble_eq_true rfl⟩) (PW_preV (i := 0) (by decide) CC_0 rfl rfl hK hP) rfl rfl hl.1 rfl (lv_room (Nat.le_of_ble_eq_true rfl)) dX1_count_103 ⟨Nat.zero_le _, Nat.zero_le _⟩) hS (fun H locs hP hS => ?_)
    have hX : (xX1_count R F p1) = (((xX1_sumOfReadings R F).1), ((xX1_sumOfReadings R F).2)) := by unfold xX1_count; rw [if_neg c_1_0, if_neg c_1_1, if_neg c_1_2, if_neg c_1_3, if_neg c_1_4, if_pos c_1_5]
    exact W.iret (v := ((xX1_sumOfReadings R F).1)) hx hb hr (fun t ht hW => ⟨by rw [hX], by rw [hX, ht]; with_reducible exact hP, hS.F ht⟩) hS.2.2 dX1_count_106
  by_cases c_1_6 : p1 = (6 : Int32)
  · refine lv_tableIn (x := p1) (off := 106) (tgt := 107) hx hb dX1_count_1 (by rw [c_1_6]; decide) (by rw [c_1_6]; decide) (by rw [c_1_6]; rfl) (by decide) ?_
    refine lv_aload_n hx hb dX1_count_107 rfl (lv_at hl 0 rfl) ?_
    refine q_getF (v := .ref (ad 1)) hx hb hts hin1 hown hK hP 0 (by decide) lk10 (fun _ h => h) rfl dX1_count_108 ?_
    refine q_getS (v := .ref (ad 4)) hx hb hts hin0 hown hK hP 1 st_1 5 (by decide) lk62 (fun _ h => h) rfl dX1_count_111 ?_
    refine q_callS (va_runS (As := [.ref (ad 4)]) (rest := []) ⟨hx, hb, hml, hown, hts⟩ (mX1_sumOf l D cI cS ad hI R F 4 (ar_4)) (va_cwS 1 hts gX1_count_X1_sumOf rfl rfl rfl (by decide +kernel) ⟨Nat.le_of_ble_eq_true rfl, Nat.le_of_ble_eq_true rfl⟩) (PW_preS hK hP) rfl rfl hl.1 rfl (lv_room (Nat.le_of_ble_eq_true rfl)) dX1_count_114 ⟨Nat.zero_le _, Nat.zero_le _⟩) ?_
    have hX : (xX1_count R F p1) = ((xX1_sumOf R F 4), R) := by unfold xX1_count; rw [if_neg c_1_0, if_neg c_1_1, if_neg c_1_2, if_neg c_1_3, if_neg c_1_4, if_neg c_1_5, if_pos c_1_6]
    exact W.iret (v := (xX1_sumOf R F 4)) hx hb hr (fun t ht hW => ⟨by rw [hX], by rw [hX, ht]; with_reducible exact hP, hS.F ht⟩) hS.2.2 dX1_count_117
  by_cases c_1_7 : p1 = (7 : Int32)
  · refine lv_tableIn (x := p1) (off := 117) (tgt := 118) hx hb dX1_count_1 (by rw [c_1_7]; decide) (by rw [c_1_7]; decide) (by rw [c_1_7]; rfl) (by decide) ?_
    refine lv_aload_n hx hb dX1_count_118 rfl (lv_at hl 0 rfl) ?_
    refine q_callS (va_runV (As := []) (rest := []) ⟨hx, hb, hml, hown, hts⟩ (mX1_walkersMisplaced l D cI cS ad hI R F) (cwV 0 hts gX1_count_X1_walkersMisplaced rfl rfl rfl (by decide +kernel) ⟨Nat.le_of_ble_eq_true rfl, Nat.le_of_ble_eq_true rfl⟩) (PW_preV (i := 0) (by decide) CC_0 rfl rfl hK hP) rfl rfl hl.1 rfl (lv_room (Nat.le_of_ble_eq_true rfl)) dX1_count_119 ⟨Nat.zero_le _, Nat.zero_le _⟩) ?_
    have hX : (xX1_count R F p1) = ((xX1_walkersMisplaced R F), R) := by unfold xX1_count; rw [if_neg c_1_0, if_neg c_1_1, if_neg c_1_2, if_neg c_1_3, if_neg c_1_4, if_neg c_1_5, if_neg c_1_6, if_pos c_1_7]
    exact W.iret (v := (xX1_walkersMisplaced R F)) hx hb hr (fun t ht hW => ⟨by rw [hX], by rw [hX, ht]; with_reducible exact hP, hS.F ht⟩) hS.2.2 dX1_count_122
  by_cases c_1_8 : p1 = (8 : Int32)
  · refine lv_tableIn (x := p1) (off := 122) (tgt := 123) hx hb dX1_count_1 (by rw [c_1_8]; decide) (by rw [c_1_8]; decide) (by rw [c_1_8]; rfl) (by decide) ?_
    refine lv_aload_n hx hb dX1_count_123 rfl (lv_at hl 0 rfl) ?_
    refine q_getF (v := .ref (ad 1)) hx hb hts hin1 hown hK hP 0 (by decide) lk10 (fun _ h => h) rfl dX1_count_124 ?_
    refine q_getS (v := .int (F 1 1)) hx hb hts hin0 hown hK hP 1 st_1 1 (by decide) lk110 (fun _ h => h) rfl dX1_count_127 ?_
    have hX : (xX1_count R F p1) = ((F 1 1), R) := by unfold xX1_count; rw [if_neg c_1_0, if_neg c_1_1, if_neg c_1_2, if_neg c_1_3, if_neg c_1_4, if_neg c_1_5, if_neg c_1_6, if_neg c_1_7, if_pos c_1_8]
    exact W.iret (v := (F 1 1)) hx hb hr (fun t ht hW => ⟨by rw [hX], by rw [hX, ht]; with_reducible exact hP, hS.F ht⟩) hS.2.2 dX1_count_130
  by_cases c_1_9 : p1 = (9 : Int32)
  · refine lv_tableIn (x := p1) (off := 130) (tgt := 131) hx hb dX1_count_1 (by rw [c_1_9]; decide) (by rw [c_1_9]; decide) (by rw [c_1_9]; rfl) (by decide) ?_
    refine lv_aload_n hx hb dX1_count_131 rfl (lv_at hl 0 rfl) ?_
    refine q_callS (va_runV (As := []) (rest := []) ⟨hx, hb, hml, hown, hts⟩ (mX1_kilogramsBilled l D cI cS ad hI R F) (cwV 0 hts gX1_count_X1_kilogramsBilled rfl rfl rfl (by decide +kernel) ⟨Nat.le_of_ble_eq_true rfl, Nat.le_of_ble_eq_true rfl⟩) (PW_preV (i := 0) (by decide) CC_0 rfl rfl hK hP) rfl rfl hl.1 rfl (lv_room (Nat.le_of_ble_eq_true rfl)) dX1_count_132 ⟨Nat.zero_le _, Nat.zero_le _⟩) ?_
    have hX : (xX1_count R F p1) = ((xX1_kilogramsBilled R F), R) := by unfold xX1_count; rw [if_neg c_1_0, if_neg c_1_1, if_neg c_1_2, if_neg c_1_3, if_neg c_1_4, if_neg c_1_5, if_neg c_1_6, if_neg c_1_7, if_neg c_1_8, if_pos c_1_9]
    exact W.iret (v := (xX1_kilogramsBilled R F)) hx hb hr (fun t ht hW => ⟨by rw [hX], by rw [hX, ht]; with_reducible exact hP, hS.F ht⟩) hS.2.2 dX1_count_135
  by_cases c_1_10 : p1 = (10 : Int32)
  · refine lv_tableIn (x := p1) (off := 135) (tgt := 136) hx hb dX1_count_1 (by rw [c_1_10]; decide) (by rw [c_1_10]; decide) (by rw [c_1_10]; rfl) (by decide) ?_
    refine lv_aload_n hx hb dX1_count_136 rfl (lv_at hl 0 rfl) ?_
    refine q_callS (va_runV (As := []) (rest := []) ⟨hx, hb, hml, hown, hts⟩ (mX1_sumOfBillAmounts l D cI cS ad hI R F) (cwV 0 hts gX1_count_X1_sumOfBillAmounts rfl rfl rfl (by decide +kernel) ⟨Nat.le_of_ble_eq_true rfl, Nat.le_of_ble_eq_true rfl⟩) (PW_preV (i := 0) (by decide) CC_0 rfl rfl hK hP) rfl rfl hl.1 rfl (lv_room (Nat.le_of_ble_eq_true rfl)) dX1_count_137 ⟨Nat.zero_le _, Nat.zero_le _⟩) ?_
    have hX : (xX1_count R F p1) = ((xX1_sumOfBillAmounts R F), R) := by unfold xX1_count; rw [if_neg c_1_0, if_neg c_1_1, if_neg c_1_2, if_neg c_1_3, if_neg c_1_4, if_neg c_1_5, if_neg c_1_6, if_neg c_1_7, if_neg c_1_8, if_neg c_1_9, if_pos c_1_10]
    exact W.iret (v := (xX1_sumOfBillAmounts R F)) hx hb hr (fun t ht hW => ⟨by rw [hX], by rw [hX, ht]; with_reducible exact hP, hS.F ht⟩) hS.2.2 dX1_count_140
  by_cases c_1_11 : p1 = (11 : Int32)
  · refine lv_tableIn (x := p1) (off := 140) (tgt := 141) hx hb dX1_count_1 (by rw [c_1_11]; decide) (by rw [c_1_11]; decide) (by rw [c_1_11]; rfl) (by decide) ?_
    refine lv_aload_n hx hb dX1_count_141 rfl (lv_at hl 0 rfl) ?_
    refine q_callS (va_runV (As := []) (rest := []) ⟨hx, hb, hml, hown, hts⟩ (mX1_sumOfBackAmounts l D cI cS ad hI R F) (cwV 0 hts gX1_count_X1_sumOfBackAmounts rfl rfl rfl (by decide +kernel) ⟨Nat.le_of_ble_eq_true rfl, Nat.le_of_ble_eq_true rfl⟩) (PW_preV (i := 0) (by decide) CC_0 rfl rfl hK hP) rfl rfl hl.1 rfl (lv_room (Nat.le_of_ble_eq_true rfl)) dX1_count_142 ⟨Nat.zero_le _, Nat.zero_le _⟩) ?_
    have hX : (xX1_count R F p1) = ((xX1_sumOfBackAmounts R F), R) := by unfold xX1_count; rw [if_neg c_1_0, if_neg c_1_1, if_neg c_1_2, if_neg c_1_3, if_neg c_1_4, if_neg c_1_5, if_neg c_1_6, if_neg c_1_7, if_neg c_1_8, if_neg c_1_9, if_neg c_1_10, if_pos c_1_11]
    exact W.iret (v := (xX1_sumOfBackAmounts R F)) hx hb hr (fun t ht hW => ⟨by rw [hX], by rw [hX, ht]; with_reducible exact hP, hS.F ht⟩) hS.2.2 dX1_count_145
  refine lv_tableOut (x := p1) (tgt := 146) hx hb dX1_count_1 (sw_out12 c_1_0 c_1_1 c_1_2 c_1_3 c_1_4 c_1_5 c_1_6 c_1_7 c_1_8 c_1_9 c_1_10 c_1_11) (by decide) ?_
  refine lv_ldc (v := -100001) hx hb hown lk45 dX1_count_146 ?_
  have hX : (xX1_count R F p1) = ((-100001 : Int32), R) := by unfold xX1_count; rw [if_neg c_1_0, if_neg c_1_1, if_neg c_1_2, if_neg c_1_3, if_neg c_1_4, if_neg c_1_5, if_neg c_1_6, if_neg c_1_7, if_neg c_1_8, if_neg c_1_9, if_neg c_1_10, if_neg c_1_11]
  exact W.iret (v := (-100001 : Int32)) hx hb hr (fun t ht hW => ⟨by rw [hX], by rw [hX, ht]; with_reducible exact hP, hS.F ht⟩) hS.2.2 dX1_count_148

def xX1_cell (R F : Nat → Nat → Int32) (p1 : Int32) (p2 : Int32) : Int32 × (Nat → Nat → Int32) :=
  (if (xX1_isCell p1) = (0 : Int32) then ((-100001 : Int32), R) else (if p2 = (0 : Int32) then (((xX1_weighAll R F) 15 (p1).toNatClampNeg), (xX1_weighAll R F)) else (if p2 = (1 : Int32) then ((R 2 (p1).toNatClampNeg), R) else (if p2 = (2 : Int32) then ((R 3 (p1).toNatClampNeg), R) else (if p2 = (3 : Int32) then ((R 4 (p1).toNatClampNeg), R) else (if p2 = (4 : Int32) then ((R 5 (p1).toNatClampNeg), R) else (if p2 = (5 : Int32) then (((xX1_expectAll R F 9) 16 (p1).toNatClampNeg), (xX1_expectAll R F 9)) else (if p2 = (6 : Int32) then ((xX1_whoIsOn R F 7 p1), R) else (if p2 = (7 : Int32) then ((xX1_whoIsOn R F 9 p1), R) else ((-100001 : Int32), R))))))))))
set_option maxHeartbeats 4000000 in
set_option maxRecDepth 100000 in
theorem mX1_cell (l : Launch) (D : va_G) (cI cS : ClassId) (ad : Nat → Nat) (hI : Inj ad) (R F : Nat → Nat → Int32) (p1 : Int32) (p2 : Int32) : Met l yX1_cell wsX1_cell ({ frames := 4, cells := 0, slots := 0, locals := 92 }) (PW D cI cS ad R F [.ref (ad 0), .int p1, .int p2]) (QI D cI cS ad ((xX1_cell R F p1 p2).1) ((xX1_cell R F p1 p2).2) F) 0 0 (AA ad) := by
  refine Met.ofW (cc := cX1_cell) (maxL := 3) (ret := (some .int)) (by decide) rfl ?_
  intro p e s m args below meth c s₁ B hml hv
  obtain ⟨rfl, hP, hK⟩ := hv
  have hx := B.exec
  have hb := B.bytes
  have hr := B.returns
  have hts := atoms_spec (ws := wsX1_cell) B.pre
  have hown : s.vm.findClass RX1 = some m.cls := findClass_of_methodNamed B.named
  have hlocks := B.notSynchronized
  have hS : va_S (AA ad) s.heap s.heap [] := va_S.rf
  have hl := lv_entry ([.ref (ad 0), .int p1, .int p2]) (n := 3) (Nat.le_of_ble_eq_true rfl)
  rw [lg_entry_eq]
  generalize (lg_sl ([.ref (ad 0), .int p1, .int p2]) ++ List.replicate (3 - (lg_sl ([.ref (ad 0), .int p1, .int p2])).length) Slot.unset).toArray = ls at hl ⊢
  have hl : lv_has ls 3 [(0, .ref (ad 0)), (1, .int p1), (2, .int p2)] := hl
  have lk45 := hts (.constant RX1 45 (-100001)) (by decide +kernel)
  have lk27 := hts (.fieldLink RX1 27 "FerryFloor" "readings" "[I") (by decide +kernel)
  have lk10 := hts (.fieldLink RX1 10 "FerryFloor" "now" "LFerryFloor$State;") (by decide +kernel)
  have lk56 := hts (.fieldLink RX1 56 "FerryFloor$State" "zeros" "[I") (by decide +kernel)
  have lk49 := hts (.fieldLink RX1 49 "FerryFloor$State" "drifts" "[I") (by decide +kernel)
  have lk62 := hts (.fieldLink RX1 62 "FerryFloor$State" "tares" "[I") (by decide +kernel)
  have lk65 := hts (.fieldLink RX1 65 "FerryFloor$State" "tareMinutes" "[I") (by decide +kernel)
  have lk89 := hts (.fieldLink RX1 89 "FerryFloor$State" "bookPlaces" "[I") (by decide +kernel)
  have lk31 := hts (.fieldLink RX1 31 "FerryFloor" "expected" "[I") (by decide +kernel)
  have lk71 := hts (.fieldLink RX1 71 "FerryFloor$State" "places" "[I") (by decide +kernel)
  have hin1 : ∀ w ∈ u_ws RX1 TX1 7, w ∈ wsX1_cell := by decide +kernel
  have hin0 : ∀ w ∈ u_ws RX0 TX0 15, w ∈ wsX1_cell := by decide +kernel
  refine lv_iload_n hx hb dX1_cell_0 rfl (lv_at hl 1 rfl) ?_
  refine q_callS (va_runS (As := [.int p1]) (rest := []) ⟨hx, hb, hml, hown, hts⟩ (mX1_isCell l D cI cS ad hI R F p1) (va_cwS 1 hts gX1_cell_X1_isCell rfl rfl rfl (by decide +kernel) ⟨Nat.le_of_ble_eq_true rfl, Nat.le_of_ble_eq_true rfl⟩) (PW_preS hK hP) rfl rfl hl.1 rfl (lv_room (Nat.le_of_ble_eq_true rfl)) dX1_cell_1 ⟨Nat.zero_le _, Nat.zero_le _⟩) ?_
  refine lv_if_ne (tgt := 10) hx hb dX1_cell_4 (by decide) (fun c_4 => ?_) (fun c_4 => ?_)
  · refine lv_iload_n hx hb dX1_cell_10 rfl (lv_at hl 2 rfl) ?_
    by_cases c_11_0 : p2 = (0 : Int32)
    · refine lv_tableIn (x := p2) (off := 45) (tgt := 56) hx hb dX1_cell_11 (by rw [c_11_0]; decide) (by rw [c_11_0]; decide) (by rw [c_11_0]; rfl) (by decide) ?_
      refine lv_aload_n hx hb dX1_cell_56 rfl (lv_at hl 0 rfl) ?_
      refine q_callV (va_runV (As := []) (rest := []) ⟨hx, hb, hml, hown, hts⟩ (mX1_weighAll l D cI cS ad hI R F) (cwV 0 hts gX1_cell_X1_weighAll rfl rfl rfl (by decide +kernel) ⟨Nat.le_of_ble_eq_true rfl, Nat.le_of_ble_eq_true rfl⟩) (PW_preV (i := 0) (by decide) CC_0 rfl rfl hK hP) rfl rfl hl.1 rfl (lv_room (Nat.le_of_ble_eq_true rfl)) dX1_cell_57 ⟨Nat.zero_le _, Nat.zero_le _⟩) hS (fun H locs hP hS => ?_)
      refine lv_aload_n hx hb dX1_cell_60 rfl (lv_at hl 0 rfl) ?_
      refine q_getF (v := .ref (ad 15)) hx hb hts hin1 hown hK hP 4 (by decide) lk27 (fun _ h => h) rfl dX1_cell_61 ?_
      refine lv_iload_n hx hb dX1_cell_64 rfl (lv_at hl 1 rfl) ?_
      refine q_ild hx hb hK hP 15 24 (ar_15) dX1_cell_65 (by first | assumption | exact isCell_in (by assumption) | exact isWalker_in (by assumption) | exact isAboard_in (by assumption) | exact isPair_in1 (by assumption) | exact isPair_in2 (by assumption) | exact isWithin7_in (by assumption) | exact vp_in_nI (by omega) (by decide)) ?_
      have hX : (xX1_cell R F p1 p2) = (((xX1_weighAll R F) 15 (p1).toNatClampNeg), (xX1_weighAll R F)) := by unfold xX1_cell; rw [if_neg c_4, if_pos c_11_0]
      exact W.iret (v := ((xX1_weighAll R F) 15 (p1).toNatClampNeg)) hx hb hr (fun t ht hW => ⟨by rw [hX], by rw [hX, ht]; with_reducible exact hP, hS.F ht⟩) hS.2.2 dX1_cell_66
    by_cases c_11_1 : p2 = (1 : Int32)
    · refine lv_tableIn (x := p2) (off := 56) (tgt := 67) hx hb dX1_cell_11 (by rw [c_11_1]; decide) (by rw [c_11_1]; decide) (by rw [c_11_1]; rfl) (by decide) ?_
      refine lv_aload_n hx hb dX1_cell_67 rfl (lv_at hl 0 rfl) ?_
      refine q_getF (v := .ref (ad 1)) hx hb hts hin1 hown hK hP 0 (by decide) lk10 (fun _ h => h) rfl dX1_cell_68 ?_
      refine q_getS (v := .ref (ad 2)) hx hb hts hin0 hown hK hP 1 st_1 3 (by decide) lk56 (fun _ h => h) rfl dX1_cell_71 ?_
      refine lv_iload_n hx hb dX1_cell_74 rfl (lv_at hl 1 rfl) ?_
      refine q_ild hx hb hK hP 2 24 (ar_2) dX1_cell_75 (by first | assumption | exact isCell_in (by assumption) | exact isWalker_in (by assumption) | exact isAboard_in (by assumption) | exact isPair_in1 (by assumption) | exact isPair_in2 (by assumption) | exact isWithin7_in (by assumption) | exact vp_in_nI (by omega) (by decide)) ?_
      have hX : (xX1_cell R F p1 p2) = ((R 2 (p1).toNatClampNeg), R) := by unfold xX1_cell; rw [if_neg c_4, if_neg c_11_0, if_pos c_11_1]
      exact W.iret (v := (R 2 (p1).toNatClampNeg)) hx hb hr (fun t ht hW => ⟨by rw [hX], by rw [hX, ht]; with_reducible exact hP, hS.F ht⟩) hS.2.2 dX1_cell_76
    by_cases c_11_2 : p2 = (2 : Int32)
    · refine lv_tableIn (x := p2) (off := 66) (tgt := 77) hx hb dX1_cell_11 (by rw [c_11_2]; decide) (by rw [c_11_2]; decide) (by rw [c_11_2]; rfl) (by decide) ?_
      refine lv_aload_n hx hb dX1_cell_77 rfl (lv_at hl 0 rfl) ?_
      refine q_getF (v := .ref (ad 1)) hx hb hts hin1 hown hK hP 0 (by decide) lk10 (fun _ h => h) rfl dX1_cell_78 ?_
      refine q_getS (v := .ref (ad 3)) hx hb hts hin0 hown hK hP 1 st_1 4 (by decide) lk49 (fun _ h => h) rfl dX1_cell_81 ?_
      refine lv_iload_n hx hb dX1_cell_84 rfl (lv_at hl 1 rfl) ?_
      refine q_ild hx hb hK hP 3 24 (ar_3) dX1_cell_85 (by first | assumption | exact isCell_in (by assumption) | exact isWalker_in (by assumption) | exact isAboard_in (by assumption) | exact isPair_in1 (by assumption) | exact isPair_in2 (by assumption) | exact isWithin7_in (by assumption) | exact vp_in_nI (by omega) (by decide)) ?_
      have hX : (xX1_cell R F p1 p2) = ((R 3 (p1).toNatClampNeg), R) := by unfold xX1_cell; rw [if_neg c_4, if_neg c_11_0, if_neg c_11_1, if_pos c_11_2]
      exact W.iret (v := (R 3 (p1).toNatClampNeg)) hx hb hr (fun t ht hW => ⟨by rw [hX], by rw [hX, ht]; with_reducible exact hP, hS.F ht⟩) hS.2.2 dX1_cell_86
    by_cases c_11_3 : p2 = (3 : Int32)
    · refine lv_tableIn (x := p2) (off := 76) (tgt := 87) hx hb dX1_cell_11 (by rw [c_11_3]; decide) (by rw [c_11_3]; decide) (by rw [c_11_3]; rfl) (by decide) ?_
      refine lv_aload_n hx hb dX1_cell_87 rfl (lv_at hl 0 rfl) ?_
      refine q_getF (v := .ref (ad 1)) hx hb hts hin1 hown hK hP 0 (by decide) lk10 (fun _ h => h) rfl dX1_cell_88 ?_
      refine q_getS (v := .ref (ad 4)) hx hb hts hin0 hown hK hP 1 st_1 5 (by decide) lk62 (fun _ h => h) rfl dX1_cell_91 ?_
      refine lv_iload_n hx hb dX1_cell_94 rfl (lv_at hl 1 rfl) ?_
      refine q_ild hx hb hK hP 4 24 (ar_4) dX1_cell_95 (by first | assumption | exact isCell_in (by assumption) | exact isWalker_in (by assumption) | exact isAboard_in (by assumption) | exact isPair_in1 (by assumption) | exact isPair_in2 (by assumption) | exact isWithin7_in (by assumption) | exact vp_in_nI (by omega) (by decide)) ?_
      have hX : (xX1_cell R F p1 p2) = ((R 4 (p1).toNatClampNeg), R) := by unfold xX1_cell; rw [if_neg c_4, if_neg c_11_0, if_neg c_11_1, if_neg c_11_2, if_pos c_11_3]
      exact W.iret (v := (R 4 (p1).toNatClampNeg)) hx hb hr (fun t ht hW => ⟨by rw [hX], by rw [hX, ht]; with_reducible exact hP, hS.F ht⟩) hS.2.2 dX1_cell_96
    by_cases c_11_4 : p2 = (4 : Int32)
    · refine lv_tableIn (x := p2) (off := 86) (tgt := 97) hx hb dX1_cell_11 (by rw [c_11_4]; decide) (by rw [c_11_4]; decide) (by rw [c_11_4]; rfl) (by decide) ?_
      refine lv_aload_n hx hb dX1_cell_97 rfl (lv_at hl 0 rfl) ?_
      refine q_getF (v := .ref (ad 1)) hx hb hts hin1 hown hK hP 0 (by decide) lk10 (fun _ h => h) rfl dX1_cell_98 ?_
      refine q_getS (v := .ref (ad 5)) hx hb hts hin0 hown hK hP 1 st_1 6 (by decide) lk65 (fun _ h => h) rfl dX1_cell_101 ?_
      refine lv_iload_n hx hb dX1_cell_104 rfl (lv_at hl 1 rfl) ?_
      refine q_ild hx hb hK hP 5 24 (ar_5) dX1_cell_105 (by first | assumption | exact isCell_in (by assumption) | exact isWalker_in (by assumption) | exact isAboard_in (by assumption) | exact isPair_in1 (by assumption) | exact isPair_in2 (by assumption) | exact isWithin7_in (by assumption) | exact vp_in_nI (by omega) (by decide)) ?_
      have hX : (xX1_cell R F p1 p2) = ((R 5 (p1).toNatClampNeg), R) := by unfold xX1_cell; rw [if_neg c_4, if_neg c_11_0, if_neg c_11_1, if_neg c_11_2, if_neg c_11_3, if_pos c_11_4]
      exact W.iret (v := (R 5 (p1).toNatClampNeg)) hx hb hr (fun t ht hW => ⟨by rw [hX], by rw [hX, ht]; with_reducible exact hP, hS.F ht⟩) hS.2.2 dX1_cell_106
    by_cases c_11_5 : p2 = (5 : Int32)
    · refine lv_tableIn (x := p2) (off := 96) (tgt := 107) hx hb dX1_cell_11 (by rw [c_11_5]; decide) (by rw [c_11_5]; decide) (by rw [c_11_5]; rfl) (by decide) ?_
      refine lv_aload_n hx hb dX1_cell_107 rfl (lv_at hl 0 rfl) ?_
      refine lv_aload_n hx hb dX1_cell_108 rfl (lv_at hl 0 rfl) ?_
      refine q_getF (v := .ref (ad 1)) hx hb hts hin1 hown hK hP 0 (by decide) lk10 (fun _ h => h) rfl dX1_cell_109 ?_
      refine q_getS (v := .ref (ad 9)) hx hb hts hin0 hown hK hP 1 st_1 10 (by decide) lk89 (fun _ h => h) rfl dX1_cell_112 ?_
      refine q_callV (va_runV (As := [.ref (ad 9)]) (rest := []) ⟨hx, hb, hml, hown, hts⟩ (mX1_expectAll l D cI cS ad hI R F 9 (ar_9)) (cwV 1 hts gX1_cell_X1_expectAll rfl rfl rfl (by decide +kernel) ⟨Nat.le_of_ble_eq_true rfl, Nat.le_of_ble_eq_true rfl⟩) (PW_preV (i := 0) (by decide) CC_0 rfl rfl hK hP) rfl rfl hl.1 rfl (lv_room (Nat.le_of_ble_eq_true rfl)) dX1_cell_115 ⟨Nat.zero_le _, Nat.zero_le _⟩) hS (fun H locs hP hS => ?_)
      refine lv_aload_n hx hb dX1_cell_118 rfl (lv_at hl 0 rfl) ?_
      refine q_getF (v := .ref (ad 16)) hx hb hts hin1 hown hK hP 5 (by decide) lk31 (fun _ h => h) rfl dX1_cell_119 ?_
      refine lv_iload_n hx hb dX1_cell_122 rfl (lv_at hl 1 rfl) ?_
      refine q_ild hx hb hK hP 16 24 (ar_16) dX1_cell_123 (by first | assumption | exact isCell_in (by assumption) | exact isWalker_in (by assumption) | exact isAboard_in (by assumption) | exact isPair_in1 (by assumption) | exact isPair_in2 (by assumption) | exact isWithin7_in (by assumption) | exact vp_in_nI (by omega) (by decide)) ?_
      have hX : (xX1_cell R F p1 p2) = (((xX1_expectAll R F 9) 16 (p1).toNatClampNeg), (xX1_expectAll R F 9)) := by unfold xX1_cell; rw [if_neg c_4, if_neg c_11_0, if_neg c_11_1, if_neg c_11_2, if_neg c_11_3, if_neg c_11_4, if_pos c_11_5]
      exact W.iret (v := ((xX1_expectAll R F 9) 16 (p1).toNatClampNeg)) hx hb hr (fun t ht hW => ⟨by rw [hX], by rw [hX, ht]; with_reducible exact hP, hS.F ht⟩) hS.2.2 dX1_cell_124
    by_cases c_11_6 : p2 = (6 : Int32)
    · refine lv_tableIn (x := p2) (off := 114) (tgt := 125) hx hb dX1_cell_11 (by rw [c_11_6]; decide) (by rw [c_11_6]; decide) (by rw [c_11_6]; rfl) (by decide) ?_
      refine lv_aload_n hx hb dX1_cell_125 rfl (lv_at hl 0 rfl) ?_
      refine q_getF (v := .ref (ad 1)) hx hb hts hin1 hown hK hP 0 (by decide) lk10 (fun _ h => h) rfl dX1_cell_126 ?_
      refine q_getS (v := .ref (ad 7)) hx hb hts hin0 hown hK hP 1 st_1 8 (by decide) lk71 (fun _ h => h) rfl dX1_cell_129 ?_
      refine lv_iload_n hx hb dX1_cell_132 rfl (lv_at hl 1 rfl) ?_
      refine q_callS (va_runS (As := [.ref (ad 7), .int p1]) (rest := []) ⟨hx, hb, hml, hown, hts⟩ (mX1_whoIsOn l D cI cS ad hI R F 7 p1 (ar_7)) (va_cwS 2 hts gX1_cell_X1_whoIsOn rfl rfl rfl (by decide +kernel) ⟨Nat.le_of_ble_eq_true rfl, Nat.le_of_ble_eq_true rfl⟩) (PW_preS hK hP) rfl rfl hl.1 rfl (lv_room (Nat.le_of_ble_eq_true rfl)) dX1_cell_133 ⟨Nat.zero_le _, Nat.zero_le _⟩) ?_
      have hX : (xX1_cell R F p1 p2) = ((xX1_whoIsOn R F 7 p1), R) := by unfold xX1_cell; rw [if_neg c_4, if_neg c_11_0, if_neg c_11_1, if_neg c_11_2, if_neg c_11_3, if_neg c_11_4, if_neg c_11_5, if_pos c_11_6]
      exact W.iret (v := (xX1_whoIsOn R F 7 p1)) hx hb hr (fun t ht hW => ⟨by rw [hX], by rw [hX, ht]; with_reducible exact hP, hS.F ht⟩) hS.2.2 dX1_cell_136
    by_cases c_11_7 : p2 = (7 : Int32)
    · refine lv_tableIn (x := p2) (off := 126) (tgt := 137) hx hb dX1_cell_11 (by rw [c_11_7]; decide) (by rw [c_11_7]; decide) (by rw [c_11_7]; rfl) (by decide) ?_
      refine lv_aload_n hx hb dX1_cell_137 rfl (lv_at hl 0 rfl) ?_
      refine q_getF (v := .ref (ad 1)) hx hb hts hin1 hown hK hP 0 (by decide) lk10 (fun _ h => h) rfl dX1_cell_138 ?_
      refine q_getS (v := .ref (ad 9)) hx hb hts hin0 hown hK hP 1 st_1 10 (by decide) lk89 (fun _ h => h) rfl dX1_cell_141 ?_
      refine lv_iload_n hx hb dX1_cell_144 rfl (lv_at hl 1 rfl) ?_
      refine q_callS (va_runS (As := [.ref (ad 9), .int p1]) (rest := []) ⟨hx, hb, hml, hown, hts⟩ (mX1_whoIsOn l D cI cS ad hI R F 9 p1 (ar_9)) (va_cwS 2 hts gX1_cell_X1_whoIsOn rfl rfl rfl (by decide +kernel) ⟨Nat.le_of_ble_eq_true rfl, Nat.le_of_ble_eq_true rfl⟩) (PW_preS hK hP) rfl rfl hl.1 rfl (lv_room (Nat.le_of_ble_eq_true rfl)) dX1_cell_145 ⟨Nat.zero_le _, Nat.zero_le _⟩) ?_
      have hX : (xX1_cell R F p1 p2) = ((xX1_whoIsOn R F 9 p1), R) := by unfold xX1_cell; rw [if_neg c_4, if_neg c_11_0, if_neg c_11_1, if_neg c_11_2, if_neg c_11_3, if_neg c_11_4, if_neg c_11_5, if_neg c_11_6, if_pos c_11_7]
      exact W.iret (v := (xX1_whoIsOn R F 9 p1)) hx hb hr (fun t ht hW => ⟨by rw [hX], by rw [hX, ht]; with_reducible exact hP, hS.F ht⟩) hS.2.2 dX1_cell_148
    refine lv_tableOut (x := p2) (tgt := 149) hx hb dX1_cell_11 (sw_out8 c_11_0 c_11_1 c_11_2 c_11_3 c_11_4 c_11_5 c_11_6 c_11_7) (by decide) ?_
    refine lv_ldc (v := -100001) hx hb hown lk45 dX1_cell_149 ?_
    have hX : (xX1_cell R F p1 p2) = ((-100001 : Int32), R) := by unfold xX1_cell; rw [if_neg c_4, if_neg c_11_0, if_neg c_11_1, if_neg c_11_2, if_neg c_11_3, if_neg c_11_4, if_neg c_11_5, if_neg c_11_6, if_neg c_11_7]
    exact W.iret (v := (-100001 : Int32)) hx hb hr (fun t ht hW => ⟨by rw [hX], by rw [hX, ht]; with_reducible exact hP, hS.F ht⟩) hS.2.2 dX1_cell_151
  · refine lv_ldc (v := -100001) hx hb hown lk45 dX1_cell_7 ?_
    have hX : (xX1_cell R F p1 p2) = ((-100001 : Int32), R) := by unfold xX1_cell; rw [if_pos c_4]
    exact W.iret (v := (-100001 : Int32)) hx hb hr (fun t ht hW => ⟨by rw [hX], by rw [hX, ht]; with_reducible exact hP, hS.F ht⟩) hS.2.2 dX1_cell_9

def xX1_walker (R F : Nat → Nat → Int32) (p1 : Int32) (p2 : Int32) : Int32 :=
  (if (xX1_isWalker R F p1) = (0 : Int32) then (-100001 : Int32) else (if p2 = (0 : Int32) then (R 6 (p1).toNatClampNeg) else (if p2 = (1 : Int32) then (R 7 (p1).toNatClampNeg) else (if p2 = (2 : Int32) then (if (xX1_isAboard R F p1) = (0 : Int32) then (-100009 : Int32) else (R 8 (p1).toNatClampNeg)) else (if p2 = (3 : Int32) then (R 9 (p1).toNatClampNeg) else (if p2 = (4 : Int32) then (R 10 (p1).toNatClampNeg) else (if p2 = (5 : Int32) then (R 11 (p1).toNatClampNeg) else (if p2 = (6 : Int32) then (xX1_billAmount R F p1) else (if p2 = (7 : Int32) then (xX1_backAmount R F p1) else (-100001 : Int32))))))))))
set_option maxHeartbeats 4000000 in
set_option maxRecDepth 100000 in
theorem mX1_walker (l : Launch) (D : va_G) (cI cS : ClassId) (ad : Nat → Nat) (hI : Inj ad) (R F : Nat → Nat → Int32) (p1 : Int32) (p2 : Int32) : Met l yX1_walker wsX1_walker ({ frames := 2, cells := 0, slots := 0, locals := 42 }) (PW D cI cS ad R F [.ref (ad 0), .int p1, .int p2]) (QS (xX1_walker R F p1 p2)) 0 0 (fun _ => False) := by
  refine Met.ofW (cc := cX1_walker) (maxL := 3) (ret := (some .int)) (by decide) rfl ?_
  intro p e s m args below meth c s₁ B hml hv
  obtain ⟨rfl, hP, hK⟩ := hv
  have hx := B.exec
  have hb := B.bytes
  have hr := B.returns
  have hts := atoms_spec (ws := wsX1_walker) B.pre
  have hown : s.vm.findClass RX1 = some m.cls := findClass_of_methodNamed B.named
  have hlocks := B.notSynchronized
  have hS : va_S (AA ad) s.heap s.heap [] := va_S.rf
  have hl := lv_entry ([.ref (ad 0), .int p1, .int p2]) (n := 3) (Nat.le_of_ble_eq_true rfl)
  rw [lg_entry_eq]
  generalize (lg_sl ([.ref (ad 0), .int p1, .int p2]) ++ List.replicate (3 - (lg_sl ([.ref (ad 0), .int p1, .int p2])).length) Slot.unset).toArray = ls at hl ⊢
  have hl : lv_has ls 3 [(0, .ref (ad 0)), (1, .int p1), (2, .int p2)] := hl
  have lk45 := hts (.constant RX1 45 (-100001)) (by decide +kernel)
  have lk10 := hts (.fieldLink RX1 10 "FerryFloor" "now" "LFerryFloor$State;") (by decide +kernel)
  have lk83 := hts (.fieldLink RX1 83 "FerryFloor$State" "weights" "[I") (by decide +kernel)
  have lk71 := hts (.fieldLink RX1 71 "FerryFloor$State" "places" "[I") (by decide +kernel)
  have lk86 := hts (.fieldLink RX1 86 "FerryFloor$State" "bookWeights" "[I") (by decide +kernel)
  have lk78 := hts (.constant RX1 78 (-100009)) (by decide +kernel)
  have lk89 := hts (.fieldLink RX1 89 "FerryFloor$State" "bookPlaces" "[I") (by decide +kernel)
  have lk113 := hts (.fieldLink RX1 113 "FerryFloor$State" "accusations" "[I") (by decide +kernel)
  have lk116 := hts (.fieldLink RX1 116 "FerryFloor$State" "billKilograms" "[I") (by decide +kernel)
  have hin1 : ∀ w ∈ u_ws RX1 TX1 7, w ∈ wsX1_walker := by decide +kernel
  have hin0 : ∀ w ∈ u_ws RX0 TX0 15, w ∈ wsX1_walker := by decide +kernel
  refine lv_aload_n hx hb dX1_walker_0 rfl (lv_at hl 0 rfl) ?_
  refine lv_iload_n hx hb dX1_walker_1 rfl (lv_at hl 1 rfl) ?_
  refine q_callS (va_runV (As := [.int p1]) (rest := []) ⟨hx, hb, hml, hown, hts⟩ (mX1_isWalker l D cI cS ad hI R F p1) (cwV 1 hts gX1_walker_X1_isWalker rfl rfl rfl (by decide +kernel) ⟨Nat.le_of_ble_eq_true rfl, Nat.le_of_ble_eq_true rfl⟩) (PW_preV (i := 0) (by decide) CC_0 rfl rfl hK hP) rfl rfl hl.1 rfl (lv_room (Nat.le_of_ble_eq_true rfl)) dX1_walker_2 ⟨Nat.zero_le _, Nat.zero_le _⟩) ?_
  refine lv_if_ne (tgt := 11) hx hb dX1_walker_5 (by decide) (fun c_5 => ?_) (fun c_5 => ?_)
  · refine lv_iload_n hx hb dX1_walker_11 rfl (lv_at hl 2 rfl) ?_
    by_cases c_12_0 : p2 = (0 : Int32)
    · refine lv_tableIn (x := p2) (off := 48) (tgt := 60) hx hb dX1_walker_12 (by rw [c_12_0]; decide) (by rw [c_12_0]; decide) (by rw [c_12_0]; rfl) (by decide) ?_
      refine lv_aload_n hx hb dX1_walker_60 rfl (lv_at hl 0 rfl) ?_
      refine q_getF (v := .ref (ad 1)) hx hb hts hin1 hown hK hP 0 (by decide) lk10 (fun _ h => h) rfl dX1_walker_61 ?_
      refine q_getS (v := .ref (ad 6)) hx hb hts hin0 hown hK hP 1 st_1 7 (by decide) lk83 (fun _ h => h) rfl dX1_walker_64 ?_
      refine lv_iload_n hx hb dX1_walker_67 rfl (lv_at hl 1 rfl) ?_
      refine q_ild hx hb hK hP 6 8 (ar_6) dX1_walker_68 (by first | assumption | exact isCell_in (by assumption) | exact isWalker_in (by assumption) | exact isAboard_in (by assumption) | exact isPair_in1 (by assumption) | exact isPair_in2 (by assumption) | exact isWithin7_in (by assumption) | exact vp_in_nI (by omega) (by decide)) ?_
      have hX : (xX1_walker R F p1 p2) = (R 6 (p1).toNatClampNeg) := by unfold xX1_walker; rw [if_neg c_5, if_pos c_12_0]
      exact W.iret (v := (R 6 (p1).toNatClampNeg)) hx hb hr (fun t ht hW => ⟨by rw [hX], ht⟩) (fun _ h => by cases h) dX1_walker_69
    by_cases c_12_1 : p2 = (1 : Int32)
    · refine lv_tableIn (x := p2) (off := 58) (tgt := 70) hx hb dX1_walker_12 (by rw [c_12_1]; decide) (by rw [c_12_1]; decide) (by rw [c_12_1]; rfl) (by decide) ?_
      refine lv_aload_n hx hb dX1_walker_70 rfl (lv_at hl 0 rfl) ?_
      refine q_getF (v := .ref (ad 1)) hx hb hts hin1 hown hK hP 0 (by decide) lk10 (fun _ h => h) rfl dX1_walker_71 ?_
      refine q_getS (v := .ref (ad 7)) hx hb hts hin0 hown hK hP 1 st_1 8 (by decide) lk71 (fun _ h => h) rfl dX1_walker_74 ?_
      refine lv_iload_n hx hb dX1_walker_77 rfl (lv_at hl 1 rfl) ?_
      refine q_ild hx hb hK hP 7 8 (ar_7) dX1_walker_78 (by first | assumption | exact isCell_in (by assumption) | exact isWalker_in (by assumption) | exact isAboard_in (by assumption) | exact isPair_in1 (by assumption) | exact isPair_in2 (by assumption) | exact isWithin7_in (by assumption) | exact vp_in_nI (by omega) (by decide)) ?_
      have hX : (xX1_walker R F p1 p2) = (R 7 (p1).toNatClampNeg) := by unfold xX1_walker; rw [if_neg c_5, if_neg c_12_0, if_pos c_12_1]
      exact W.iret (v := (R 7 (p1).toNatClampNeg)) hx hb hr (fun t ht hW => ⟨by rw [hX], ht⟩) (fun _ h => by cases h) dX1_walker_79
    by_cases c_12_2 : p2 = (2 : Int32)
    · refine lv_tableIn (x := p2) (off := 68) (tgt := 80) hx hb dX1_walker_12 (by rw [c_12_2]; decide) (by rw [c_12_2]; decide) (by rw [c_12_2]; rfl) (by decide) ?_
      refine lv_aload_n hx hb dX1_walker_80 rfl (lv_at hl 0 rfl) ?_
      refine lv_iload_n hx hb dX1_walker_81 rfl (lv_at hl 1 rfl) ?_
      refine q_callS (va_runV (As := [.int p1]) (rest := []) ⟨hx, hb, hml, hown, hts⟩ (mX1_isAboard l D cI cS ad hI R F p1) (cwV 1 hts gX1_walker_X1_isAboard rfl rfl rfl (by decide +kernel) ⟨Nat.le_of_ble_eq_true rfl, Nat.le_of_ble_eq_true rfl⟩) (PW_preV (i := 0) (by decide) CC_0 rfl rfl hK hP) rfl rfl hl.1 rfl (lv_room (Nat.le_of_ble_eq_true rfl)) dX1_walker_82 ⟨Nat.zero_le _, Nat.zero_le _⟩) ?_
      refine lv_if_eq (tgt := 100) hx hb dX1_walker_85 (by decide) (fun c_85 => ?_) (fun c_85 => ?_)
      · refine lv_ldc (v := -100009) hx hb hown lk78 dX1_walker_100 ?_
        have hX : (xX1_walker R F p1 p2) = (-100009 : Int32) := by unfold xX1_walker; rw [if_neg c_5, if_neg c_12_0, if_neg c_12_1, if_pos c_12_2, if_pos c_85]
        exact W.iret (v := (-100009 : Int32)) hx hb hr (fun t ht hW => ⟨by rw [hX], ht⟩) (fun _ h => by cases h) dX1_walker_102
      · refine lv_aload_n hx hb dX1_walker_88 rfl (lv_at hl 0 rfl) ?_
        refine q_getF (v := .ref (ad 1)) hx hb hts hin1 hown hK hP 0 (by decide) lk10 (fun _ h => h) rfl dX1_walker_89 ?_
        refine q_getS (v := .ref (ad 8)) hx hb hts hin0 hown hK hP 1 st_1 9 (by decide) lk86 (fun _ h => h) rfl dX1_walker_92 ?_
        refine lv_iload_n hx hb dX1_walker_95 rfl (lv_at hl 1 rfl) ?_
        refine q_ild hx hb hK hP 8 8 (ar_8) dX1_walker_96 (by first | assumption | exact isCell_in (by assumption) | exact isWalker_in (by assumption) | exact isAboard_in (by assumption) | exact isPair_in1 (by assumption) | exact isPair_in2 (by assumption) | exact isWithin7_in (by assumption) | exact vp_in_nI (by omega) (by decide)) ?_
        refine lv_goto (tgt := 102) hx hb dX1_walker_97 (by decide) ?_
        have hX : (xX1_walker R F p1 p2) = (R 8 (p1).toNatClampNeg) := by unfold xX1_walker; rw [if_neg c_5, if_neg c_12_0, if_neg c_12_1, if_pos c_12_2, if_neg c_85]
        exact W.iret (v := (R 8 (p1).toNatClampNeg)) hx hb hr (fun t ht hW => ⟨by rw [hX], ht⟩) (fun _ h => by cases h) dX1_walker_102
    by_cases c_12_3 : p2 = (3 : Int32)
    · refine lv_tableIn (x := p2) (off := 91) (tgt := 103) hx hb dX1_walker_12 (by rw [c_12_3]; decide) (by rw [c_12_3]; decide) (by rw [c_12_3]; rfl) (by decide) ?_
      refine lv_aload_n hx hb dX1_walker_103 rfl (lv_at hl 0 rfl) ?_
      refine q_getF (v := .ref (ad 1)) hx hb hts hin1 hown hK hP 0 (by decide) lk10 (fun _ h => h) rfl dX1_walker_104 ?_
      refine q_getS (v := .ref (ad 9)) hx hb hts hin0 hown hK hP 1 st_1 10 (by decide) lk89 (fun _ h => h) rfl dX1_walker_107 ?_
      refine lv_iload_n hx hb dX1_walker_110 rfl (lv_at hl 1 rfl) ?_
      refine q_ild hx hb hK hP 9 8 (ar_9) dX1_walker_111 (by first | assumption | exact isCell_in (by assumption) | exact isWalker_in (by assumption) | exact isAboard_in (by assumption) | exact isPair_in1 (by assumption) | exact isPair_in2 (by assumption) | exact isWithin7_in (by assumption) | exact vp_in_nI (by omega) (by decide)) ?_
      have hX : (xX1_walker R F p1 p2) = (R 9 (p1).toNatClampNeg) := by unfold xX1_walker; rw [if_neg c_5, if_neg c_12_0, if_neg c_12_1, if_neg c_12_2, if_pos c_12_3]
      exact W.iret (v := (R 9 (p1).toNatClampNeg)) hx hb hr (fun t ht hW => ⟨by rw [hX], ht⟩) (fun _ h => by cases h) dX1_walker_112
    by_cases c_12_4 : p2 = (4 : Int32)
    · refine lv_tableIn (x := p2) (off := 101) (tgt := 113) hx hb dX1_walker_12 (by rw [c_12_4]; decide) (by rw [c_12_4]; decide) (by rw [c_12_4]; rfl) (by decide) ?_
      refine lv_aload_n hx hb dX1_walker_113 rfl (lv_at hl 0 rfl) ?_
      refine q_getF (v := .ref (ad 1)) hx hb hts hin1 hown hK hP 0 (by decide) lk10 (fun _ h => h) rfl dX1_walker_114 ?_
      refine q_getS (v := .ref (ad 10)) hx hb hts hin0 hown hK hP 1 st_1 11 (by decide) lk113 (fun _ h => h) rfl dX1_walker_117 ?_
      refine lv_iload_n hx hb dX1_walker_120 rfl (lv_at hl 1 rfl) ?_
      refine q_ild hx hb hK hP 10 8 (ar_10) dX1_walker_121 (by first | assumption | exact isCell_in (by assumption) | exact isWalker_in (by assumption) | exact isAboard_in (by assumption) | exact isPair_in1 (by assumption) | exact isPair_in2 (by assumption) | exact isWithin7_in (by assumption) | exact vp_in_nI (by omega) (by decide)) ?_
      have hX : (xX1_walker R F p1 p2) = (R 10 (p1).toNatClampNeg) := by unfold xX1_walker; rw [if_neg c_5, if_neg c_12_0, if_neg c_12_1, if_neg c_12_2, if_neg c_12_3, if_pos c_12_4]
      exact W.iret (v := (R 10 (p1).toNatClampNeg)) hx hb hr (fun t ht hW => ⟨by rw [hX], ht⟩) (fun _ h => by cases h) dX1_walker_122
    by_cases c_12_5 : p2 = (5 : Int32)
    · refine lv_tableIn (x := p2) (off := 111) (tgt := 123) hx hb dX1_walker_12 (by rw [c_12_5]; decide) (by rw [c_12_5]; decide) (by rw [c_12_5]; rfl) (by decide) ?_
      refine lv_aload_n hx hb dX1_walker_123 rfl (lv_at hl 0 rfl) ?_
      refine q_getF (v := .ref (ad 1)) hx hb hts hin1 hown hK hP 0 (by decide) lk10 (fun _ h => h) rfl dX1_walker_124 ?_
      refine q_getS (v := .ref (ad 11)) hx hb hts hin0 hown hK hP 1 st_1 12 (by decide) lk116 (fun _ h => h) rfl dX1_walker_127 ?_
      refine lv_iload_n hx hb dX1_walker_130 rfl (lv_at hl 1 rfl) ?_
      refine q_ild hx hb hK hP 11 8 (ar_11) dX1_walker_131 (by first | assumption | exact isCell_in (by assumption) | exact isWalker_in (by assumption) | exact isAboard_in (by assumption) | exact isPair_in1 (by assumption) | exact isPair_in2 (by assumption) | exact isWithin7_in (by assumption) | exact vp_in_nI (by omega) (by decide)) ?_
      have hX : (xX1_walker R F p1 p2) = (R 11 (p1).toNatClampNeg) := by unfold xX1_walker; rw [if_neg c_5, if_neg c_12_0, if_neg c_12_1, if_neg c_12_2, if_neg c_12_3, if_neg c_12_4, if_pos c_12_5]
      exact W.iret (v := (R 11 (p1).toNatClampNeg)) hx hb hr (fun t ht hW => ⟨by rw [hX], ht⟩) (fun _ h => by cases h) dX1_walker_132
    by_cases c_12_6 : p2 = (6 : Int32)
    · refine lv_tableIn (x := p2) (off := 121) (tgt := 133) hx hb dX1_walker_12 (by rw [c_12_6]; decide) (by rw [c_12_6]; decide) (by rw [c_12_6]; rfl) (by decide) ?_
      refine lv_aload_n hx hb dX1_walker_133 rfl (lv_at hl 0 rfl) ?_
      refine lv_iload_n hx hb dX1_walker_134 rfl (lv_at hl 1 rfl) ?_
      refine q_callS (va_runV (As := [.int p1]) (rest := []) ⟨hx, hb, hml, hown, hts⟩ (mX1_billAmount l D cI cS ad hI R F p1) (cwV 1 hts gX1_walker_X1_billAmount rfl rfl rfl (by decide +kernel) ⟨Nat.le_of_ble_eq_true rfl, Nat.le_of_ble_eq_true rfl⟩) (PW_preV (i := 0) (by decide) CC_0 rfl rfl hK hP) rfl rfl hl.1 rfl (lv_room (Nat.le_of_ble_eq_true rfl)) dX1_walker_135 ⟨Nat.zero_le _, Nat.zero_le _⟩) ?_
      have hX : (xX1_walker R F p1 p2) = (xX1_billAmount R F p1) := by unfold xX1_walker; rw [if_neg c_5, if_neg c_12_0, if_neg c_12_1, if_neg c_12_2, if_neg c_12_3, if_neg c_12_4, if_neg c_12_5, if_pos c_12_6]
      exact W.iret (v := (xX1_billAmount R F p1)) hx hb hr (fun t ht hW => ⟨by rw [hX], ht⟩) (fun _ h => by cases h) dX1_walker_138
    by_cases c_12_7 : p2 = (7 : Int32)
    · refine lv_tableIn (x := p2) (off := 127) (tgt := 139) hx hb dX1_walker_12 (by rw [c_12_7]; decide) (by rw [c_12_7]; decide) (by rw [c_12_7]; rfl) (by decide) ?_
      refine lv_aload_n hx hb dX1_walker_139 rfl (lv_at hl 0 rfl) ?_
      refine lv_iload_n hx hb dX1_walker_140 rfl (lv_at hl 1 rfl) ?_
      refine q_callS (va_runV (As := [.int p1]) (rest := []) ⟨hx, hb, hml, hown, hts⟩ (mX1_backAmount l D cI cS ad hI R F p1) (cwV 1 hts gX1_walker_X1_backAmount rfl rfl rfl (by decide +kernel) ⟨Nat.le_of_ble_eq_true rfl, Nat.le_of_ble_eq_true rfl⟩) (PW_preV (i := 0) (by decide) CC_0 rfl rfl hK hP) rfl rfl hl.1 rfl (lv_room (Nat.le_of_ble_eq_true rfl)) dX1_walker_141 ⟨Nat.zero_le _, Nat.zero_le _⟩) ?_
      have hX : (xX1_walker R F p1 p2) = (xX1_backAmount R F p1) := by unfold xX1_walker; rw [if_neg c_5, if_neg c_12_0, if_neg c_12_1, if_neg c_12_2, if_neg c_12_3, if_neg c_12_4, if_neg c_12_5, if_neg c_12_6, if_pos c_12_7]
      exact W.iret (v := (xX1_backAmount R F p1)) hx hb hr (fun t ht hW => ⟨by rw [hX], ht⟩) (fun _ h => by cases h) dX1_walker_144
    refine lv_tableOut (x := p2) (tgt := 145) hx hb dX1_walker_12 (sw_out8 c_12_0 c_12_1 c_12_2 c_12_3 c_12_4 c_12_5 c_12_6 c_12_7) (by decide) ?_
    refine lv_ldc (v := -100001) hx hb hown lk45 dX1_walker_145 ?_
    have hX : (xX1_walker R F p1 p2) = (-100001 : Int32) := by unfold xX1_walker; rw [if_neg c_5, if_neg c_12_0, if_neg c_12_1, if_neg c_12_2, if_neg c_12_3, if_neg c_12_4, if_neg c_12_5, if_neg c_12_6, if_neg c_12_7]
    exact W.iret (v := (-100001 : Int32)) hx hb hr (fun t ht hW => ⟨by rw [hX], ht⟩) (fun _ h => by cases h) dX1_walker_147
  · refine lv_ldc (v := -100001) hx hb hown lk45 dX1_walker_8 ?_
    have hX : (xX1_walker R F p1 p2) = (-100001 : Int32) := by unfold xX1_walker; rw [if_pos c_5]
    exact W.iret (v := (-100001 : Int32)) hx hb hr (fun t ht hW => ⟨by rw [hX], ht⟩) (fun _ h => by cases h) dX1_walker_10

def xX1_estimate (R F : Nat → Nat → Int32) (p1 : Int32) : Int32 × (Nat → Nat → Int32) :=
  (if (xX1_isWalker R F p1) = (0 : Int32) then ((-100001 : Int32), R) else (if (xX1_isAboard R F p1) = (0 : Int32) then ((-100002 : Int32), R) else (((xX1_estimateFor R F p1).1), ((xX1_estimateFor R F p1).2))))
set_option maxHeartbeats 4000000 in
set_option maxRecDepth 100000 in
theorem mX1_estimate (l : Launch) (D : va_G) (cI cS : ClassId) (ad : Nat → Nat) (hI : Inj ad) (R F : Nat → Nat → Int32) (p1 : Int32) : Met l yX1_estimate wsX1_estimate ({ frames := 5, cells := 0, slots := 0, locals := 117 }) (PW D cI cS ad R F [.ref (ad 0), .int p1]) (QI D cI cS ad ((xX1_estimate R F p1).1) ((xX1_estimate R F p1).2) F) 0 0 (AA ad) := by
  refine Met.ofW (cc := cX1_estimate) (maxL := 2) (ret := (some .int)) (by decide) rfl ?_
  intro p e s m args below meth c s₁ B hml hv
  obtain ⟨rfl, hP, hK⟩ := hv
  have hx := B.exec
  have hb := B.bytes
  have hr := B.returns
  have hts := atoms_spec (ws := wsX1_estimate) B.pre
  have hown : s.vm.findClass RX1 = some m.cls := findClass_of_methodNamed B.named
  have hlocks := B.notSynchronized
  have hS : va_S (AA ad) s.heap s.heap [] := va_S.rf
  have hl := lv_entry ([.ref (ad 0), .int p1]) (n := 2) (Nat.le_of_ble_eq_true rfl)
  rw [lg_entry_eq]
  generalize (lg_sl ([.ref (ad 0), .int p1]) ++ List.replicate (2 - (lg_sl ([.ref (ad 0), .int p1])).length) Slot.unset).toArray = ls at hl ⊢
  have hl : lv_has ls 2 [(0, .ref (ad 0)), (1, .int p1)] := hl
  have lk45 := hts (.constant RX1 45 (-100001)) (by decide +kernel)
  have lk55 := hts (.constant RX1 55 (-100002)) (by decide +kernel)
  refine lv_aload_n hx hb dX1_estimate_0 rfl (lv_at hl 0 rfl) ?_
  refine lv_iload_n hx hb dX1_estimate_1 rfl (lv_at hl 1 rfl) ?_
  refine q_callS (va_runV (As := [.int p1]) (rest := []) ⟨hx, hb, hml, hown, hts⟩ (mX1_isWalker l D cI cS ad hI R F p1) (cwV 1 hts gX1_estimate_X1_isWalker rfl rfl rfl (by decide +kernel) ⟨Nat.le_of_ble_eq_true rfl, Nat.le_of_ble_eq_true rfl⟩) (PW_preV (i := 0) (by decide) CC_0 rfl rfl hK hP) rfl rfl hl.1 rfl (lv_room (Nat.le_of_ble_eq_true rfl)) dX1_estimate_2 ⟨Nat.zero_le _, Nat.zero_le _⟩) ?_
  refine lv_if_ne (tgt := 11) hx hb dX1_estimate_5 (by decide) (fun c_5 => ?_) (fun c_5 => ?_)
  · refine lv_aload_n hx hb dX1_estimate_11 rfl (lv_at hl 0 rfl) ?_
    refine lv_iload_n hx hb dX1_estimate_12 rfl (lv_at hl 1 rfl) ?_
    refine q_callS (va_runV (As := [.int p1]) (rest := []) ⟨hx, hb, hml, hown, hts⟩ (mX1_isAboard l D cI cS ad hI R F p1) (cwV 1 hts gX1_estimate_X1_isAboard rfl rfl rfl (by decide +kernel) ⟨Nat.le_of_ble_eq_true rfl, Nat.le_of_ble_eq_true rfl⟩) (PW_preV (i := 0) (by decide) CC_0 rfl rfl hK hP) rfl rfl hl.1 rfl (lv_room (Nat.le_of_ble_eq_true rfl)) dX1_estimate_13 ⟨Nat.zero_le _, Nat.zero_le _⟩) ?_
    refine lv_if_ne (tgt := 22) hx hb dX1_estimate_16 (by decide) (fun c_16 => ?_) (fun c_16 => ?_)
    · refine lv_aload_n hx hb dX1_estimate_22 rfl (lv_at hl 0 rfl) ?_
      refine lv_iload_n hx hb dX1_estimate_23 rfl (lv_at hl 1 rfl) ?_
      refine q_callI (va_runV (As := [.int p1]) (rest := []) ⟨hx, hb, hml, hown, hts⟩ (mX1_estimateFor l D cI cS ad hI R F p1) (cwV 1 hts gX1_estimate_X1_estimateFor rfl rfl rfl (by decide +kernel) ⟨Nat.le_of_ble_eq_true rfl, Nat.le_of_ble_eq_true rfl⟩) (PW_preV (i := 0) (by decide) CC_0 rfl rfl hK hP) rfl rfl hl.1 rfl (lv_room (Nat.le_of_ble_eq_true rfl)) dX1_estimate_24 ⟨Nat.zero_le _, Nat.zero_le _⟩) hS (fun H locs hP hS => ?_)
      have hX : (xX1_estimate R F p1) = (((xX1_estimateFor R F p1).1), ((xX1_estimateFor R F p1).2)) := by unfold xX1_estimate; rw [if_neg c_5, if_neg c_16]
      exact W.iret (v := ((xX1_estimateFor R F p1).1)) hx hb hr (fun t ht hW => ⟨by rw [hX], by rw [hX, ht]; with_reducible exact hP, hS.F ht⟩) hS.2.2 dX1_estimate_27
    · refine lv_ldc (v := -100002) hx hb hown lk55 dX1_estimate_19 ?_
      have hX : (xX1_estimate R F p1) = ((-100002 : Int32), R) := by unfold xX1_estimate; rw [if_neg c_5, if_pos c_16]
      exact W.iret (v := (-100002 : Int32)) hx hb hr (fun t ht hW => ⟨by rw [hX], by rw [hX, ht]; with_reducible exact hP, hS.F ht⟩) hS.2.2 dX1_estimate_21
  · refine lv_ldc (v := -100001) hx hb hown lk45 dX1_estimate_8 ?_
    have hX : (xX1_estimate R F p1) = ((-100001 : Int32), R) := by unfold xX1_estimate; rw [if_pos c_5]
    exact W.iret (v := (-100001 : Int32)) hx hb hr (fun t ht hW => ⟨by rw [hX], by rw [hX, ht]; with_reducible exact hP, hS.F ht⟩) hS.2.2 dX1_estimate_10

def xX1_certainty (R F : Nat → Nat → Int32) (p1 : Int32) : Int32 :=
  (if (xX1_isWalker R F p1) = (0 : Int32) then (-100001 : Int32) else (if (xX1_isAboard R F p1) = (0 : Int32) then (-100002 : Int32) else (xX1_certaintyFor R F p1)))
set_option maxHeartbeats 4000000 in
set_option maxRecDepth 100000 in
theorem mX1_certainty (l : Launch) (D : va_G) (cI cS : ClassId) (ad : Nat → Nat) (hI : Inj ad) (R F : Nat → Nat → Int32) (p1 : Int32) : Met l yX1_certainty wsX1_certainty ({ frames := 3, cells := 0, slots := 0, locals := 69 }) (PW D cI cS ad R F [.ref (ad 0), .int p1]) (QS (xX1_certainty R F p1)) 0 0 (fun _ => False) := by
  refine Met.ofW (cc := cX1_certainty) (maxL := 2) (ret := (some .int)) (by decide) rfl ?_
  intro p e s m args below meth c s₁ B hml hv
  obtain ⟨rfl, hP, hK⟩ := hv
  have hx := B.exec
  have hb := B.bytes
  have hr := B.returns
  have hts := atoms_spec (ws := wsX1_certainty) B.pre
  have hown : s.vm.findClass RX1 = some m.cls := findClass_of_methodNamed B.named
  have hlocks := B.notSynchronized
  have hS : va_S (AA ad) s.heap s.heap [] := va_S.rf
  have hl := lv_entry ([.ref (ad 0), .int p1]) (n := 2) (Nat.le_of_ble_eq_true rfl)
  rw [lg_entry_eq]
  generalize (lg_sl ([.ref (ad 0), .int p1]) ++ List.replicate (2 - (lg_sl ([.ref (ad 0), .int p1])).length) Slot.unset).toArray = ls at hl ⊢
  have hl : lv_has ls 2 [(0, .ref (ad 0)), (1, .int p1)] := hl
  have lk45 := hts (.constant RX1 45 (-100001)) (by decide +kernel)
  have lk55 := hts (.constant RX1 55 (-100002)) (by decide +kernel)
  refine lv_aload_n hx hb dX1_certainty_0 rfl (lv_at hl 0 rfl) ?_
  refine lv_iload_n hx hb dX1_certainty_1 rfl (lv_at hl 1 rfl) ?_
  refine q_callS (va_runV (As := [.int p1]) (rest := []) ⟨hx, hb, hml, hown, hts⟩ (mX1_isWalker l D cI cS ad hI R F p1) (cwV 1 hts gX1_certainty_X1_isWalker rfl rfl rfl (by decide +kernel) ⟨Nat.le_of_ble_eq_true rfl, Nat.le_of_ble_eq_true rfl⟩) (PW_preV (i := 0) (by decide) CC_0 rfl rfl hK hP) rfl rfl hl.1 rfl (lv_room (Nat.le_of_ble_eq_true rfl)) dX1_certainty_2 ⟨Nat.zero_le _, Nat.zero_le _⟩) ?_
  refine lv_if_ne (tgt := 11) hx hb dX1_certainty_5 (by decide) (fun c_5 => ?_) (fun c_5 => ?_)
  · refine lv_aload_n hx hb dX1_certainty_11 rfl (lv_at hl 0 rfl) ?_
    refine lv_iload_n hx hb dX1_certainty_12 rfl (lv_at hl 1 rfl) ?_
    refine q_callS (va_runV (As := [.int p1]) (rest := []) ⟨hx, hb, hml, hown, hts⟩ (mX1_isAboard l D cI cS ad hI R F p1) (cwV 1 hts gX1_certainty_X1_isAboard rfl rfl rfl (by decide +kernel) ⟨Nat.le_of_ble_eq_true rfl, Nat.le_of_ble_eq_true rfl⟩) (PW_preV (i := 0) (by decide) CC_0 rfl rfl hK hP) rfl rfl hl.1 rfl (lv_room (Nat.le_of_ble_eq_true rfl)) dX1_certainty_13 ⟨Nat.zero_le _, Nat.zero_le _⟩) ?_
    refine lv_if_ne (tgt := 22) hx hb dX1_certainty_16 (by decide) (fun c_16 => ?_) (fun c_16 => ?_)
    · refine lv_aload_n hx hb dX1_certainty_22 rfl (lv_at hl 0 rfl) ?_
      refine lv_iload_n hx hb dX1_certainty_23 rfl (lv_at hl 1 rfl) ?_
      refine q_callS (va_runV (As := [.int p1]) (rest := []) ⟨hx, hb, hml, hown, hts⟩ (mX1_certaintyFor l D cI cS ad hI R F p1) (cwV 1 hts gX1_certainty_X1_certaintyFor rfl rfl rfl (by decide +kernel) ⟨Nat.le_of_ble_eq_true rfl, Nat.le_of_ble_eq_true rfl⟩) (PW_preV (i := 0) (by decide) CC_0 rfl rfl hK hP) rfl rfl hl.1 rfl (lv_room (Nat.le_of_ble_eq_true rfl)) dX1_certainty_24 ⟨Nat.zero_le _, Nat.zero_le _⟩) ?_
      have hX : (xX1_certainty R F p1) = (xX1_certaintyFor R F p1) := by unfold xX1_certainty; rw [if_neg c_5, if_neg c_16]
      exact W.iret (v := (xX1_certaintyFor R F p1)) hx hb hr (fun t ht hW => ⟨by rw [hX], ht⟩) (fun _ h => by cases h) dX1_certainty_27
    · refine lv_ldc (v := -100002) hx hb hown lk55 dX1_certainty_19 ?_
      have hX : (xX1_certainty R F p1) = (-100002 : Int32) := by unfold xX1_certainty; rw [if_neg c_5, if_pos c_16]
      exact W.iret (v := (-100002 : Int32)) hx hb hr (fun t ht hW => ⟨by rw [hX], ht⟩) (fun _ h => by cases h) dX1_certainty_21
  · refine lv_ldc (v := -100001) hx hb hown lk45 dX1_certainty_8 ?_
    have hX : (xX1_certainty R F p1) = (-100001 : Int32) := by unfold xX1_certainty; rw [if_pos c_5]
    exact W.iret (v := (-100001 : Int32)) hx hb hr (fun t ht hW => ⟨by rw [hX], ht⟩) (fun _ h => by cases h) dX1_certainty_10
end
