section
-- ===== PART A: goes FIRST, ahead of the names: the tables' words, and 'selects' of the private methods out of them =====
/-- a private method of a class that the tables say can be made, by its rows of tables_1 -/
def lw_okq (q : MethodName × Nat) : Prop := (q.1.cls ≠ "java/lang/invoke/MethodHandle" ∧ q.1.cls ≠ "java/lang/invoke/VarHandle") ∧ Cond.instantiable q.1.cls q.2 ∈ tables_1 ∧ Cond.privateMethod q.1 ∈ tables_1 ∧ Cond.instanceMethod q.1 ∈ tables_1
theorem lw_p0 : lw_okq (⟨"FerryFloor", "remember", "()V"⟩, 7) := ⟨⟨by decide +kernel, by decide +kernel⟩, List.mem_of_getElem? (i := 7) (by decide +kernel), List.mem_of_getElem? (i := 121) (by decide +kernel), List.mem_of_getElem? (i := 122) (by decide +kernel)⟩
theorem lw_p1 : lw_okq (⟨"FerryFloor", "slotAfter", "(I)I"⟩, 7) := ⟨⟨by decide +kernel, by decide +kernel⟩, List.mem_of_getElem? (i := 7) (by decide +kernel), List.mem_of_getElem? (i := 125) (by decide +kernel), List.mem_of_getElem? (i := 126) (by decide +kernel)⟩
theorem lw_p2 : lw_okq (⟨"FerryFloor", "weighAll", "()V"⟩, 7) := ⟨⟨by decide +kernel, by decide +kernel⟩, List.mem_of_getElem? (i := 7) (by decide +kernel), List.mem_of_getElem? (i := 154) (by decide +kernel), List.mem_of_getElem? (i := 155) (by decide +kernel)⟩
theorem lw_p3 : lw_okq (⟨"FerryFloor", "isWalker", "(I)Z"⟩, 7) := ⟨⟨by decide +kernel, by decide +kernel⟩, List.mem_of_getElem? (i := 7) (by decide +kernel), List.mem_of_getElem? (i := 184) (by decide +kernel), List.mem_of_getElem? (i := 185) (by decide +kernel)⟩
theorem lw_p4 : lw_okq (⟨"FerryFloor", "isAboard", "(I)Z"⟩, 7) := ⟨⟨by decide +kernel, by decide +kernel⟩, List.mem_of_getElem? (i := 7) (by decide +kernel), List.mem_of_getElem? (i := 188) (by decide +kernel), List.mem_of_getElem? (i := 189) (by decide +kernel)⟩
theorem lw_p5 : lw_okq (⟨"FerryFloor", "isPair", "(II)Z"⟩, 7) := ⟨⟨by decide +kernel, by decide +kernel⟩, List.mem_of_getElem? (i := 7) (by decide +kernel), List.mem_of_getElem? (i := 196) (by decide +kernel), List.mem_of_getElem? (i := 197) (by decide +kernel)⟩
theorem lw_p6 : lw_okq (⟨"FerryFloor", "errorWith", "([I)I"⟩, 7) := ⟨⟨by decide +kernel, by decide +kernel⟩, List.mem_of_getElem? (i := 7) (by decide +kernel), List.mem_of_getElem? (i := 203) (by decide +kernel), List.mem_of_getElem? (i := 204) (by decide +kernel)⟩
theorem lw_p7 : lw_okq (⟨"FerryFloor", "expectAll", "([I)V"⟩, 7) := ⟨⟨by decide +kernel, by decide +kernel⟩, List.mem_of_getElem? (i := 7) (by decide +kernel), List.mem_of_getElem? (i := 207) (by decide +kernel), List.mem_of_getElem? (i := 208) (by decide +kernel)⟩
theorem lw_p8 : lw_okq (⟨"FerryFloor", "kilogramsToBill", "(I)I"⟩, 7) := ⟨⟨by decide +kernel, by decide +kernel⟩, List.mem_of_getElem? (i := 7) (by decide +kernel), List.mem_of_getElem? (i := 230) (by decide +kernel), List.mem_of_getElem? (i := 231) (by decide +kernel)⟩
theorem lw_p9 : lw_okq (⟨"FerryFloor", "estimateFor", "(I)I"⟩, 7) := ⟨⟨by decide +kernel, by decide +kernel⟩, List.mem_of_getElem? (i := 7) (by decide +kernel), List.mem_of_getElem? (i := 234) (by decide +kernel), List.mem_of_getElem? (i := 235) (by decide +kernel)⟩
theorem lw_p10 : lw_okq (⟨"FerryFloor", "certaintyFor", "(I)I"⟩, 7) := ⟨⟨by decide +kernel, by decide +kernel⟩, List.mem_of_getElem? (i := 7) (by decide +kernel), List.mem_of_getElem? (i := 241) (by decide +kernel), List.mem_of_getElem? (i := 242) (by decide +kernel)⟩
theorem lw_p11 : lw_okq (⟨"FerryFloor", "earliestTare", "(I)I"⟩, 7) := ⟨⟨by decide +kernel, by decide +kernel⟩, List.mem_of_getElem? (i := 7) (by decide +kernel), List.mem_of_getElem? (i := 245) (by decide +kernel), List.mem_of_getElem? (i := 246) (by decide +kernel)⟩
theorem lw_p12 : lw_okq (⟨"FerryFloor", "sumOfReadings", "()I"⟩, 7) := ⟨⟨by decide +kernel, by decide +kernel⟩, List.mem_of_getElem? (i := 7) (by decide +kernel), List.mem_of_getElem? (i := 249) (by decide +kernel), List.mem_of_getElem? (i := 250) (by decide +kernel)⟩
theorem lw_p13 : lw_okq (⟨"FerryFloor", "kilogramsBilled", "()I"⟩, 7) := ⟨⟨by decide +kernel, by decide +kernel⟩, List.mem_of_getElem? (i := 7) (by decide +kernel), List.mem_of_getElem? (i := 256) (by decide +kernel), List.mem_of_getElem? (i := 257) (by decide +kernel)⟩
theorem lw_p14 : lw_okq (⟨"FerryFloor", "backAmount", "(I)I"⟩, 7) := ⟨⟨by decide +kernel, by decide +kernel⟩, List.mem_of_getElem? (i := 7) (by decide +kernel), List.mem_of_getElem? (i := 267) (by decide +kernel), List.mem_of_getElem? (i := 268) (by decide +kernel)⟩
theorem lw_p15 : lw_okq (⟨"FerryFloor", "walkersAboard", "()I"⟩, 7) := ⟨⟨by decide +kernel, by decide +kernel⟩, List.mem_of_getElem? (i := 7) (by decide +kernel), List.mem_of_getElem? (i := 279) (by decide +kernel), List.mem_of_getElem? (i := 280) (by decide +kernel)⟩
def lw_privs_1 : List (MethodName × Nat) := [(⟨"FerryFloor", "remember", "()V"⟩, 7), (⟨"FerryFloor", "slotAfter", "(I)I"⟩, 7), (⟨"FerryFloor", "weighAll", "()V"⟩, 7), (⟨"FerryFloor", "isWalker", "(I)Z"⟩, 7), (⟨"FerryFloor", "isAboard", "(I)Z"⟩, 7), (⟨"FerryFloor", "isPair", "(II)Z"⟩, 7), (⟨"FerryFloor", "errorWith", "([I)I"⟩, 7), (⟨"FerryFloor", "expectAll", "([I)V"⟩, 7), (⟨"FerryFloor", "kilogramsToBill", "(I)I"⟩, 7), (⟨"FerryFloor", "estimateFor", "(I)I"⟩, 7), (⟨"FerryFloor", "certaintyFor", "(I)I"⟩, 7), (⟨"FerryFloor", "earliestTare", "(I)I"⟩, 7), (⟨"FerryFloor", "sumOfReadings", "()I"⟩, 7), (⟨"FerryFloor", "kilogramsBilled", "()I"⟩, 7), (⟨"FerryFloor", "backAmount", "(I)I"⟩, 7), (⟨"FerryFloor", "walkersAboard", "()I"⟩, 7)]
theorem lw_r1 : ∀ q ∈ lw_privs_1, lw_okq q := List.forall_mem_cons.mpr ⟨lw_p0, List.forall_mem_cons.mpr ⟨lw_p1, List.forall_mem_cons.mpr ⟨lw_p2, List.forall_mem_cons.mpr ⟨lw_p3, List.forall_mem_cons.mpr ⟨lw_p4, List.forall_mem_cons.mpr ⟨lw_p5, List.forall_mem_cons.mpr ⟨lw_p6, List.forall_mem_cons.mpr ⟨lw_p7, List.forall_mem_cons.mpr ⟨lw_p8, List.forall_mem_cons.mpr ⟨lw_p9, List.forall_mem_cons.mpr ⟨lw_p10, List.forall_mem_cons.mpr ⟨lw_p11, List.forall_mem_cons.mpr ⟨lw_p12, List.forall_mem_cons.mpr ⟨lw_p13, List.forall_mem_cons.mpr ⟨lw_p14, List.forall_mem_cons.mpr ⟨lw_p15, fun _ h => absurd h List.not_mem_nil⟩⟩⟩⟩⟩⟩⟩⟩⟩⟩⟩⟩⟩⟩⟩⟩
theorem lw_p16 : lw_okq (⟨"FerryFloor", "walkersMisplaced", "()I"⟩, 7) := ⟨⟨by decide +kernel, by decide +kernel⟩, List.mem_of_getElem? (i := 7) (by decide +kernel), List.mem_of_getElem? (i := 283) (by decide +kernel), List.mem_of_getElem? (i := 284) (by decide +kernel)⟩
theorem lw_p17 : lw_okq (⟨"FerryFloor", "sumOfBillAmounts", "()I"⟩, 7) := ⟨⟨by decide +kernel, by decide +kernel⟩, List.mem_of_getElem? (i := 7) (by decide +kernel), List.mem_of_getElem? (i := 287) (by decide +kernel), List.mem_of_getElem? (i := 288) (by decide +kernel)⟩
theorem lw_p18 : lw_okq (⟨"FerryFloor", "billAmount", "(I)I"⟩, 7) := ⟨⟨by decide +kernel, by decide +kernel⟩, List.mem_of_getElem? (i := 7) (by decide +kernel), List.mem_of_getElem? (i := 291) (by decide +kernel), List.mem_of_getElem? (i := 292) (by decide +kernel)⟩
theorem lw_p19 : lw_okq (⟨"FerryFloor", "sumOfBackAmounts", "()I"⟩, 7) := ⟨⟨by decide +kernel, by decide +kernel⟩, List.mem_of_getElem? (i := 7) (by decide +kernel), List.mem_of_getElem? (i := 295) (by decide +kernel), List.mem_of_getElem? (i := 296) (by decide +kernel)⟩
theorem lw_p20 : lw_okq (⟨"FerryFloor", "bestExchange", "([I)I"⟩, 7) := ⟨⟨by decide +kernel, by decide +kernel⟩, List.mem_of_getElem? (i := 7) (by decide +kernel), List.mem_of_getElem? (i := 319) (by decide +kernel), List.mem_of_getElem? (i := 320) (by decide +kernel)⟩
theorem lw_p21 : lw_okq (⟨"FerryFloor", "exchangePair", "([II)V"⟩, 7) := ⟨⟨by decide +kernel, by decide +kernel⟩, List.mem_of_getElem? (i := 7) (by decide +kernel), List.mem_of_getElem? (i := 323) (by decide +kernel), List.mem_of_getElem? (i := 324) (by decide +kernel)⟩
theorem lw_p22 : lw_okq (⟨"FerryFloorModel", "acts", "()V"⟩, 5) := ⟨⟨by decide +kernel, by decide +kernel⟩, List.mem_of_getElem? (i := 340) (by decide +kernel), List.mem_of_getElem? (i := 373) (by decide +kernel), List.mem_of_getElem? (i := 374) (by decide +kernel)⟩
theorem lw_p23 : lw_okq (⟨"FerryFloorModel", "of", "(II)I"⟩, 5) := ⟨⟨by decide +kernel, by decide +kernel⟩, List.mem_of_getElem? (i := 340) (by decide +kernel), List.mem_of_getElem? (i := 377) (by decide +kernel), List.mem_of_getElem? (i := 378) (by decide +kernel)⟩
theorem lw_p24 : lw_okq (⟨"FerryFloorModel", "isPressed", "(I)Z"⟩, 5) := ⟨⟨by decide +kernel, by decide +kernel⟩, List.mem_of_getElem? (i := 340) (by decide +kernel), List.mem_of_getElem? (i := 390) (by decide +kernel), List.mem_of_getElem? (i := 391) (by decide +kernel)⟩
theorem lw_p25 : lw_okq (⟨"FerryFloorModel", "isAboard", "(I)Z"⟩, 5) := ⟨⟨by decide +kernel, by decide +kernel⟩, List.mem_of_getElem? (i := 340) (by decide +kernel), List.mem_of_getElem? (i := 394) (by decide +kernel), List.mem_of_getElem? (i := 395) (by decide +kernel)⟩
theorem lw_p26 : lw_okq (⟨"FerryFloorModel", "ofWalker", "(II)I"⟩, 5) := ⟨⟨by decide +kernel, by decide +kernel⟩, List.mem_of_getElem? (i := 340) (by decide +kernel), List.mem_of_getElem? (i := 398) (by decide +kernel), List.mem_of_getElem? (i := 399) (by decide +kernel)⟩
theorem lw_p27 : lw_okq (⟨"FerryFloorModel", "reading", "(I)I"⟩, 5) := ⟨⟨by decide +kernel, by decide +kernel⟩, List.mem_of_getElem? (i := 340) (by decide +kernel), List.mem_of_getElem? (i := 412) (by decide +kernel), List.mem_of_getElem? (i := 413) (by decide +kernel)⟩
theorem lw_p28 : lw_okq (⟨"FerryFloorModel", "shares", "(I)I"⟩, 5) := ⟨⟨by decide +kernel, by decide +kernel⟩, List.mem_of_getElem? (i := 340) (by decide +kernel), List.mem_of_getElem? (i := 416) (by decide +kernel), List.mem_of_getElem? (i := 417) (by decide +kernel)⟩
theorem lw_p29 : lw_okq (⟨"FerryFloorModel", "on", "(II)I"⟩, 5) := ⟨⟨by decide +kernel, by decide +kernel⟩, List.mem_of_getElem? (i := 340) (by decide +kernel), List.mem_of_getElem? (i := 427) (by decide +kernel), List.mem_of_getElem? (i := 428) (by decide +kernel)⟩
theorem lw_p30 : lw_okq (⟨"FerryFloorModel", "isWalker", "(I)Z"⟩, 5) := ⟨⟨by decide +kernel, by decide +kernel⟩, List.mem_of_getElem? (i := 340) (by decide +kernel), List.mem_of_getElem? (i := 436) (by decide +kernel), List.mem_of_getElem? (i := 437) (by decide +kernel)⟩
theorem lw_p31 : lw_okq (⟨"FerryFloorModel", "puts", "(III)V"⟩, 5) := ⟨⟨by decide +kernel, by decide +kernel⟩, List.mem_of_getElem? (i := 340) (by decide +kernel), List.mem_of_getElem? (i := 440) (by decide +kernel), List.mem_of_getElem? (i := 441) (by decide +kernel)⟩
def lw_privs_2 : List (MethodName × Nat) := [(⟨"FerryFloor", "walkersMisplaced", "()I"⟩, 7), (⟨"FerryFloor", "sumOfBillAmounts", "()I"⟩, 7), (⟨"FerryFloor", "billAmount", "(I)I"⟩, 7), (⟨"FerryFloor", "sumOfBackAmounts", "()I"⟩, 7), (⟨"FerryFloor", "bestExchange", "([I)I"⟩, 7), (⟨"FerryFloor", "exchangePair", "([II)V"⟩, 7), (⟨"FerryFloorModel", "acts", "()V"⟩, 5), (⟨"FerryFloorModel", "of", "(II)I"⟩, 5), (⟨"FerryFloorModel", "isPressed", "(I)Z"⟩, 5), (⟨"FerryFloorModel", "isAboard", "(I)Z"⟩, 5), (⟨"FerryFloorModel", "ofWalker", "(II)I"⟩, 5), (⟨"FerryFloorModel", "reading", "(I)I"⟩, 5), (⟨"FerryFloorModel", "shares", "(I)I"⟩, 5), (⟨"FerryFloorModel", "on", "(II)I"⟩, 5), (⟨"FerryFloorModel", "isWalker", "(I)Z"⟩, 5), (⟨"FerryFloorModel", "puts", "(III)V"⟩, 5)]
theorem lw_r2 : ∀ q ∈ lw_privs_2, lw_okq q := List.forall_mem_cons.mpr ⟨lw_p16, List.forall_mem_cons.mpr ⟨lw_p17, List.forall_mem_cons.mpr ⟨lw_p18, List.forall_mem_cons.mpr ⟨lw_p19, List.forall_mem_cons.mpr ⟨lw_p20, List.forall_mem_cons.mpr ⟨lw_p21, List.forall_mem_cons.mpr ⟨lw_p22, List.forall_mem_cons.mpr ⟨lw_p23, List.forall_mem_cons.mpr ⟨lw_p24, List.forall_mem_cons.mpr ⟨lw_p25, List.forall_mem_cons.mpr ⟨lw_p26, List.forall_mem_cons.mpr ⟨lw_p27, List.forall_mem_cons.mpr ⟨lw_p28, List.forall_mem_cons.mpr ⟨lw_p29, List.forall_mem_cons.mpr ⟨lw_p30, List.forall_mem_cons.mpr ⟨lw_p31, fun _ h => absurd h List.not_mem_nil⟩⟩⟩⟩⟩⟩⟩⟩⟩⟩⟩⟩⟩⟩⟩⟩
theorem lw_p32 : lw_okq (⟨"FerryFloorModel", "whyNotTwo", "(II)I"⟩, 5) := ⟨⟨by decide +kernel, by decide +kernel⟩, List.mem_of_getElem? (i := 340) (by decide +kernel), List.mem_of_getElem? (i := 448) (by decide +kernel), List.mem_of_getElem? (i := 449) (by decide +kernel)⟩
theorem lw_p33 : lw_okq (⟨"FerryFloorModel", "exchanges", "(III)V"⟩, 5) := ⟨⟨by decide +kernel, by decide +kernel⟩, List.mem_of_getElem? (i := 340) (by decide +kernel), List.mem_of_getElem? (i := 452) (by decide +kernel), List.mem_of_getElem? (i := 453) (by decide +kernel)⟩
theorem lw_p34 : lw_okq (⟨"FerryFloorModel", "error", "()I"⟩, 5) := ⟨⟨by decide +kernel, by decide +kernel⟩, List.mem_of_getElem? (i := 340) (by decide +kernel), List.mem_of_getElem? (i := 456) (by decide +kernel), List.mem_of_getElem? (i := 457) (by decide +kernel)⟩
theorem lw_p35 : lw_okq (⟨"FerryFloorModel", "expected", "(I)I"⟩, 5) := ⟨⟨by decide +kernel, by decide +kernel⟩, List.mem_of_getElem? (i := 340) (by decide +kernel), List.mem_of_getElem? (i := 460) (by decide +kernel), List.mem_of_getElem? (i := 461) (by decide +kernel)⟩
theorem lw_p36 : lw_okq (⟨"FerryFloorModel", "booked", "(II)I"⟩, 5) := ⟨⟨by decide +kernel, by decide +kernel⟩, List.mem_of_getElem? (i := 340) (by decide +kernel), List.mem_of_getElem? (i := 464) (by decide +kernel), List.mem_of_getElem? (i := 465) (by decide +kernel)⟩
theorem lw_p37 : lw_okq (⟨"FerryFloorModel", "estimateOf", "(I)I"⟩, 5) := ⟨⟨by decide +kernel, by decide +kernel⟩, List.mem_of_getElem? (i := 340) (by decide +kernel), List.mem_of_getElem? (i := 484) (by decide +kernel), List.mem_of_getElem? (i := 485) (by decide +kernel)⟩
theorem lw_p38 : lw_okq (⟨"FerryFloorModel", "certaintyIn", "(II)I"⟩, 5) := ⟨⟨by decide +kernel, by decide +kernel⟩, List.mem_of_getElem? (i := 340) (by decide +kernel), List.mem_of_getElem? (i := 491) (by decide +kernel), List.mem_of_getElem? (i := 492) (by decide +kernel)⟩
theorem lw_p39 : lw_okq (⟨"FerryFloorModel", "earliest", "(I)I"⟩, 5) := ⟨⟨by decide +kernel, by decide +kernel⟩, List.mem_of_getElem? (i := 340) (by decide +kernel), List.mem_of_getElem? (i := 495) (by decide +kernel), List.mem_of_getElem? (i := 496) (by decide +kernel)⟩
theorem lw_p40 : lw_okq (⟨"FerryFloorModel", "sumOf", "(Z)I"⟩, 5) := ⟨⟨by decide +kernel, by decide +kernel⟩, List.mem_of_getElem? (i := 340) (by decide +kernel), List.mem_of_getElem? (i := 499) (by decide +kernel), List.mem_of_getElem? (i := 500) (by decide +kernel)⟩
theorem lw_p41 : lw_okq (⟨"FerryFloorModel", "many", "(Z)I"⟩, 5) := ⟨⟨by decide +kernel, by decide +kernel⟩, List.mem_of_getElem? (i := 340) (by decide +kernel), List.mem_of_getElem? (i := 515) (by decide +kernel), List.mem_of_getElem? (i := 516) (by decide +kernel)⟩
theorem lw_p42 : lw_okq (⟨"FerryFloorModel", "bestTwo", "()I"⟩, 5) := ⟨⟨by decide +kernel, by decide +kernel⟩, List.mem_of_getElem? (i := 340) (by decide +kernel), List.mem_of_getElem? (i := 539) (by decide +kernel), List.mem_of_getElem? (i := 540) (by decide +kernel)⟩
def lw_privs_3 : List (MethodName × Nat) := [(⟨"FerryFloorModel", "whyNotTwo", "(II)I"⟩, 5), (⟨"FerryFloorModel", "exchanges", "(III)V"⟩, 5), (⟨"FerryFloorModel", "error", "()I"⟩, 5), (⟨"FerryFloorModel", "expected", "(I)I"⟩, 5), (⟨"FerryFloorModel", "booked", "(II)I"⟩, 5), (⟨"FerryFloorModel", "estimateOf", "(I)I"⟩, 5), (⟨"FerryFloorModel", "certaintyIn", "(II)I"⟩, 5), (⟨"FerryFloorModel", "earliest", "(I)I"⟩, 5), (⟨"FerryFloorModel", "sumOf", "(Z)I"⟩, 5), (⟨"FerryFloorModel", "many", "(Z)I"⟩, 5), (⟨"FerryFloorModel", "bestTwo", "()I"⟩, 5)]
theorem lw_r3 : ∀ q ∈ lw_privs_3, lw_okq q := List.forall_mem_cons.mpr ⟨lw_p32, List.forall_mem_cons.mpr ⟨lw_p33, List.forall_mem_cons.mpr ⟨lw_p34, List.forall_mem_cons.mpr ⟨lw_p35, List.forall_mem_cons.mpr ⟨lw_p36, List.forall_mem_cons.mpr ⟨lw_p37, List.forall_mem_cons.mpr ⟨lw_p38, List.forall_mem_cons.mpr ⟨lw_p39, List.forall_mem_cons.mpr ⟨lw_p40, List.forall_mem_cons.mpr ⟨lw_p41, List.forall_mem_cons.mpr ⟨lw_p42, fun _ h => absurd h List.not_mem_nil⟩⟩⟩⟩⟩⟩⟩⟩⟩⟩⟩
def lw_privs : List (MethodName × Nat) := lw_privs_1 ++ (lw_privs_2 ++ (lw_privs_3))
def lw_tbl : List Cond := k2_sels lw_privs ++ tables_1
theorem lw_privs_ok : ∀ q ∈ lw_privs, lw_okq q := by
  show ∀ q ∈ lw_privs_1 ++ (lw_privs_2 ++ (lw_privs_3)), lw_okq q
  exact List.forall_mem_append.mpr ⟨lw_r1, List.forall_mem_append.mpr ⟨lw_r2, lw_r3⟩⟩
/-! ===== BEGIN words of one list among another's, by their places ===== -/
theorem goodIn_r {big : List Cond} (ws : List Cond) (ps : List Nat) (hp : ws = ps.filterMap (fun i => big[i]?)) (h : ws.all goodWord = true) : GoodIn big ws := by
  intro w hw
  have h1 := List.all_eq_true.mp h w hw
  rw [hp] at hw
  obtain ⟨i, -, hi⟩ := List.mem_filterMap.mp hw
  have hm : w ∈ big := by first | exact List.mem_of_getElem? hi | exact List.getElem?_mem hi
  exact ⟨hm, good_of_word h1⟩
theorem goodIn_app {big a b : List Cond} (ha : GoodIn big a) (hb : GoodIn big b) : GoodIn big (a ++ b) := fun w h => (List.mem_append.mp h).elim (ha w) (hb w)
theorem goodIn_ca {big a b : List Cond} {c : Cond} (ha : GoodIn big (c :: a)) (hb : GoodIn big b) : GoodIn big (c :: (a ++ b)) := fun w h => (List.mem_cons.mp h).elim (fun e => ha w (List.mem_cons.mpr (Or.inl e))) (fun h => (List.mem_append.mp h).elim (fun h => ha w (List.mem_cons.mpr (Or.inr h))) (hb w))
theorem goodIn_sub {big ws : List Cond} (hm : ∀ w ∈ ws, w ∈ big) (h : ws.all goodWord = true) : GoodIn big ws := fun w hw => ⟨hm w hw, good_of_word (List.all_eq_true.mp h w hw)⟩
/-! ===== END ===== -/

/-! ===== BEGIN printed: names, fields, word lists, decode rows ===== -/
def RX0 : String := "FerryFloor$State"
def TX0 : u_T := fun k => match k with
  | 0 => ("FerryFloor$State", "minute", "I", false)
  | 1 => ("FerryFloor$State", "price", "I", false)
  | 2 => ("FerryFloor$State", "walkers", "I", false)
  | 3 => ("FerryFloor$State", "zeros", "[I", true)
  | 4 => ("FerryFloor$State", "drifts", "[I", true)
  | 5 => ("FerryFloor$State", "tares", "[I", true)
  | 6 => ("FerryFloor$State", "tareMinutes", "[I", true)
  | 7 => ("FerryFloor$State", "weights", "[I", true)
  | 8 => ("FerryFloor$State", "places", "[I", true)
  | 9 => ("FerryFloor$State", "bookWeights", "[I", true)
  | 10 => ("FerryFloor$State", "bookPlaces", "[I", true)
  | 11 => ("FerryFloor$State", "accusations", "[I", true)
  | 12 => ("FerryFloor$State", "billKilograms", "[I", true)
  | 13 => ("FerryFloor$State", "billPrices", "[I", true)
  | _ => ("FerryFloor$State", "backKilograms", "[I", true)
def tyX0 : Nat → FieldType := fun k => match k with
  | 0 => .int
  | 1 => .int
  | 2 => .int
  | 3 => .array .int
  | 4 => .array .int
  | 5 => .array .int
  | 6 => .array .int
  | 7 => .array .int
  | 8 => .array .int
  | 9 => .array .int
  | 10 => .array .int
  | 11 => .array .int
  | 12 => .array .int
  | 13 => .array .int
  | _ => .array .int
abbrev wsX00 : List Cond := u_ws RX0 TX0 15
theorem nmX0 : ∀ a, a < 15 → ∀ b, b < 15 → a ≠ b → (TX0 a).2.1 ≠ (TX0 b).2.1 := by decide +kernel
theorem tyX0_ok : ∀ k, k < 15 → parseFieldDescriptor (TX0 k).2.2.1 = some (tyX0 k) := by decide +kernel
abbrev cX0_init : ByteArray := prog_2_method_1_code
def yX0_init : MethodName := ⟨RX0, "<init>", "()V"⟩
abbrev cX0_copyFrom : ByteArray := prog_2_method_2_code
def yX0_copyFrom : MethodName := ⟨RX0, "copyFrom", "(LFerryFloor$State;)V"⟩
def RX1 : String := "FerryFloor"
def TX1 : u_T := fun k => match k with
  | 0 => ("FerryFloor", "now", "LFerryFloor$State;", true)
  | 1 => ("FerryFloor", "history", "[LFerryFloor$State;", true)
  | 2 => ("FerryFloor", "oldest", "I", false)
  | 3 => ("FerryFloor", "kept", "I", false)
  | 4 => ("FerryFloor", "readings", "[I", true)
  | 5 => ("FerryFloor", "expected", "[I", true)
  | _ => ("FerryFloor", "trial", "[I", true)
def tyX1 : Nat → FieldType := fun k => match k with
  | 0 => .object "FerryFloor$State"
  | 1 => .array (.object "FerryFloor$State")
  | 2 => .int
  | 3 => .int
  | 4 => .array .int
  | 5 => .array .int
  | _ => .array .int
abbrev wsX10 : List Cond := u_ws RX1 TX1 7
theorem nmX1 : ∀ a, a < 7 → ∀ b, b < 7 → a ≠ b → (TX1 a).2.1 ≠ (TX1 b).2.1 := by decide +kernel
theorem tyX1_ok : ∀ k, k < 7 → parseFieldDescriptor (TX1 k).2.2.1 = some (tyX1 k) := by decide +kernel
abbrev cX1_init : ByteArray := prog_1_method_1_code
def yX1_init : MethodName := ⟨RX1, "<init>", "()V"⟩
abbrev cX1_setDrift : ByteArray := prog_1_method_2_code
def yX1_setDrift : MethodName := ⟨RX1, "setDrift", "(II)I"⟩
abbrev cX1_pass : ByteArray := prog_1_method_3_code
def yX1_pass : MethodName := ⟨RX1, "pass", "(I)I"⟩
abbrev cX1_tare : ByteArray := prog_1_method_4_code
def yX1_tare : MethodName := ⟨RX1, "tare", "(I)I"⟩
abbrev cX1_board : ByteArray := prog_1_method_5_code
def yX1_board : MethodName := ⟨RX1, "board", "(III)I"⟩
abbrev cX1_walk : ByteArray := prog_1_method_6_code
def yX1_walk : MethodName := ⟨RX1, "walk", "(II)I"⟩
abbrev cX1_swap : ByteArray := prog_1_method_7_code
def yX1_swap : MethodName := ⟨RX1, "swap", "(II)I"⟩
abbrev cX1_leave : ByteArray := prog_1_method_8_code
def yX1_leave : MethodName := ⟨RX1, "leave", "(I)I"⟩
abbrev cX1_setPrice : ByteArray := prog_1_method_9_code
def yX1_setPrice : MethodName := ⟨RX1, "setPrice", "(I)I"⟩
abbrev cX1_accuse : ByteArray := prog_1_method_10_code
def yX1_accuse : MethodName := ⟨RX1, "accuse", "(II)I"⟩
abbrev cX1_bill : ByteArray := prog_1_method_11_code
def yX1_bill : MethodName := ⟨RX1, "bill", "(I)I"⟩
abbrev cX1_complain : ByteArray := prog_1_method_12_code
def yX1_complain : MethodName := ⟨RX1, "complain", "(I)I"⟩
abbrev cX1_undo : ByteArray := prog_1_method_13_code
def yX1_undo : MethodName := ⟨RX1, "undo", "()I"⟩
abbrev cX1_count : ByteArray := prog_1_method_14_code
def yX1_count : MethodName := ⟨RX1, "count", "(I)I"⟩
abbrev cX1_cell : ByteArray := prog_1_method_15_code
def yX1_cell : MethodName := ⟨RX1, "cell", "(II)I"⟩
abbrev cX1_walker : ByteArray := prog_1_method_16_code
def yX1_walker : MethodName := ⟨RX1, "walker", "(II)I"⟩
abbrev cX1_estimate : ByteArray := prog_1_method_17_code
def yX1_estimate : MethodName := ⟨RX1, "estimate", "(I)I"⟩
abbrev cX1_certainty : ByteArray := prog_1_method_18_code
def yX1_certainty : MethodName := ⟨RX1, "certainty", "(I)I"⟩
abbrev cX1_guess : ByteArray := prog_1_method_19_code
def yX1_guess : MethodName := ⟨RX1, "guess", "(I)I"⟩
abbrev cX1_mend : ByteArray := prog_1_method_20_code
def yX1_mend : MethodName := ⟨RX1, "mend", "(I)I"⟩
abbrev cX1_bestCell : ByteArray := prog_1_method_21_code
def yX1_bestCell : MethodName := ⟨RX1, "bestCell", "()I"⟩
abbrev cX1_until : ByteArray := prog_1_method_22_code
def yX1_until : MethodName := ⟨RX1, "until", "(II)I"⟩
abbrev cX1_isWithin : ByteArray := prog_1_method_23_code
def yX1_isWithin : MethodName := ⟨RX1, "isWithin", "(III)Z"⟩
abbrev cX1_isCell : ByteArray := prog_1_method_24_code
def yX1_isCell : MethodName := ⟨RX1, "isCell", "(I)Z"⟩
abbrev cX1_isWeight : ByteArray := prog_1_method_25_code
def yX1_isWeight : MethodName := ⟨RX1, "isWeight", "(I)Z"⟩
abbrev cX1_isWalker : ByteArray := prog_1_method_26_code
def yX1_isWalker : MethodName := ⟨RX1, "isWalker", "(I)Z"⟩
abbrev cX1_isPair : ByteArray := prog_1_method_27_code
def yX1_isPair : MethodName := ⟨RX1, "isPair", "(II)Z"⟩
abbrev cX1_isAboard : ByteArray := prog_1_method_28_code
def yX1_isAboard : MethodName := ⟨RX1, "isAboard", "(I)Z"⟩
abbrev cX1_nearCell : ByteArray := prog_1_method_29_code
def yX1_nearCell : MethodName := ⟨RX1, "nearCell", "(II)I"⟩
abbrev cX1_addShares : ByteArray := prog_1_method_30_code
def yX1_addShares : MethodName := ⟨RX1, "addShares", "([III)V"⟩
abbrev cX1_addAllShares : ByteArray := prog_1_method_31_code
def yX1_addAllShares : MethodName := ⟨RX1, "addAllShares", "([I[I[I)V"⟩
abbrev cX1_weighAll : ByteArray := prog_1_method_32_code
def yX1_weighAll : MethodName := ⟨RX1, "weighAll", "()V"⟩
abbrev cX1_expectAll : ByteArray := prog_1_method_33_code
def yX1_expectAll : MethodName := ⟨RX1, "expectAll", "([I)V"⟩
abbrev cX1_earliestTare : ByteArray := prog_1_method_34_code
def yX1_earliestTare : MethodName := ⟨RX1, "earliestTare", "(I)I"⟩
abbrev cX1_sumOfReadings : ByteArray := prog_1_method_35_code
def yX1_sumOfReadings : MethodName := ⟨RX1, "sumOfReadings", "()I"⟩
abbrev cX1_whoIsOn : ByteArray := prog_1_method_36_code
def yX1_whoIsOn : MethodName := ⟨RX1, "whoIsOn", "([II)I"⟩
abbrev cX1_exchange : ByteArray := prog_1_method_37_code
def yX1_exchange : MethodName := ⟨RX1, "exchange", "([III)V"⟩
abbrev cX1_exchangePair : ByteArray := prog_1_method_38_code
def yX1_exchangePair : MethodName := ⟨RX1, "exchangePair", "([II)V"⟩
abbrev cX1_errorWith : ByteArray := prog_1_method_39_code
def yX1_errorWith : MethodName := ⟨RX1, "errorWith", "([I)I"⟩
abbrev cX1_bestExchange : ByteArray := prog_1_method_40_code
def yX1_bestExchange : MethodName := ⟨RX1, "bestExchange", "([I)I"⟩
abbrev cX1_walkersAboard : ByteArray := prog_1_method_41_code
def yX1_walkersAboard : MethodName := ⟨RX1, "walkersAboard", "()I"⟩
abbrev cX1_walkersMisplaced : ByteArray := prog_1_method_42_code
def yX1_walkersMisplaced : MethodName := ⟨RX1, "walkersMisplaced", "()I"⟩
abbrev cX1_estimateFor : ByteArray := prog_1_method_43_code
def yX1_estimateFor : MethodName := ⟨RX1, "estimateFor", "(I)I"⟩
abbrev cX1_certaintyFor : ByteArray := prog_1_method_44_code
def yX1_certaintyFor : MethodName := ⟨RX1, "certaintyFor", "(I)I"⟩
abbrev cX1_kilogramsToBill : ByteArray := prog_1_method_45_code
def yX1_kilogramsToBill : MethodName := ⟨RX1, "kilogramsToBill", "(I)I"⟩
abbrev cX1_kilogramsBilled : ByteArray := prog_1_method_46_code
def yX1_kilogramsBilled : MethodName := ⟨RX1, "kilogramsBilled", "()I"⟩
abbrev cX1_billAmount : ByteArray := prog_1_method_47_code
def yX1_billAmount : MethodName := ⟨RX1, "billAmount", "(I)I"⟩
abbrev cX1_backAmount : ByteArray := prog_1_method_48_code
def yX1_backAmount : MethodName := ⟨RX1, "backAmount", "(I)I"⟩
abbrev cX1_sumOfBillAmounts : ByteArray := prog_1_method_49_code
def yX1_sumOfBillAmounts : MethodName := ⟨RX1, "sumOfBillAmounts", "()I"⟩
abbrev cX1_sumOfBackAmounts : ByteArray := prog_1_method_50_code
def yX1_sumOfBackAmounts : MethodName := ⟨RX1, "sumOfBackAmounts", "()I"⟩
abbrev cX1_orZero : ByteArray := prog_1_method_51_code
def yX1_orZero : MethodName := ⟨RX1, "orZero", "(I)I"⟩
abbrev cX1_remember : ByteArray := prog_1_method_52_code
def yX1_remember : MethodName := ⟨RX1, "remember", "()V"⟩
abbrev cX1_slotAfter : ByteArray := prog_1_method_53_code
def yX1_slotAfter : MethodName := ⟨RX1, "slotAfter", "(I)I"⟩
abbrev cX1_copyRow : ByteArray := prog_1_method_54_code
def yX1_copyRow : MethodName := ⟨RX1, "copyRow", "([I[I)V"⟩
abbrev cX1_fillRow : ByteArray := prog_1_method_55_code
def yX1_fillRow : MethodName := ⟨RX1, "fillRow", "([II)V"⟩
abbrev cX1_sumOf : ByteArray := prog_1_method_56_code
def yX1_sumOf : MethodName := ⟨RX1, "sumOf", "([I)I"⟩
def RX2 : String := "FerryFloorModel"
def TX2 : u_T := fun k => match k with
  | 0 => ("FerryFloorModel", "s", "[I", true)
  | 1 => ("FerryFloorModel", "past", "[I", true)
  | 2 => ("FerryFloorModel", "pasts", "I", false)
  | 3 => ("FerryFloorModel", "least", "I", false)
  | _ => ("FerryFloorModel", "held", "[I", true)
def tyX2 : Nat → FieldType := fun k => match k with
  | 0 => .array .int
  | 1 => .array .int
  | 2 => .int
  | 3 => .int
  | _ => .array .int
abbrev wsX20 : List Cond := u_ws RX2 TX2 5
theorem nmX2 : ∀ a, a < 5 → ∀ b, b < 5 → a ≠ b → (TX2 a).2.1 ≠ (TX2 b).2.1 := by decide +kernel
theorem tyX2_ok : ∀ k, k < 5 → parseFieldDescriptor (TX2 k).2.2.1 = some (tyX2 k) := by decide +kernel
abbrev cX2_init : ByteArray := prog_4_method_1_code
def yX2_init : MethodName := ⟨RX2, "<init>", "()V"⟩
abbrev cX2_in : ByteArray := prog_4_method_3_code
def yX2_in : MethodName := ⟨RX2, "in", "(III)Z"⟩
abbrev cX2_acts : ByteArray := prog_4_method_4_code
def yX2_acts : MethodName := ⟨RX2, "acts", "()V"⟩
abbrev cX2_isCell : ByteArray := prog_4_method_5_code
def yX2_isCell : MethodName := ⟨RX2, "isCell", "(I)Z"⟩
abbrev cX2_isWalker : ByteArray := prog_4_method_6_code
def yX2_isWalker : MethodName := ⟨RX2, "isWalker", "(I)Z"⟩
abbrev cX2_of : ByteArray := prog_4_method_7_code
def yX2_of : MethodName := ⟨RX2, "of", "(II)I"⟩
abbrev cX2_ofWalker : ByteArray := prog_4_method_8_code
def yX2_ofWalker : MethodName := ⟨RX2, "ofWalker", "(II)I"⟩
abbrev cX2_isAboard : ByteArray := prog_4_method_9_code
def yX2_isAboard : MethodName := ⟨RX2, "isAboard", "(I)Z"⟩
abbrev cX2_areNeighbors : ByteArray := prog_4_method_10_code
def yX2_areNeighbors : MethodName := ⟨RX2, "areNeighbors", "(II)Z"⟩
abbrev cX2_neighbors : ByteArray := prog_4_method_11_code
def yX2_neighbors : MethodName := ⟨RX2, "neighbors", "(I)I"⟩
abbrev cX2_share : ByteArray := prog_4_method_12_code
def yX2_share : MethodName := ⟨RX2, "share", "(III)I"⟩
abbrev cX2_shares : ByteArray := prog_4_method_13_code
def yX2_shares : MethodName := ⟨RX2, "shares", "(I)I"⟩
abbrev cX2_reading : ByteArray := prog_4_method_14_code
def yX2_reading : MethodName := ⟨RX2, "reading", "(I)I"⟩
abbrev cX2_booked : ByteArray := prog_4_method_15_code
def yX2_booked : MethodName := ⟨RX2, "booked", "(II)I"⟩
abbrev cX2_expected : ByteArray := prog_4_method_16_code
def yX2_expected : MethodName := ⟨RX2, "expected", "(I)I"⟩
abbrev cX2_error : ByteArray := prog_4_method_17_code
def yX2_error : MethodName := ⟨RX2, "error", "()I"⟩
abbrev cX2_setDrift : ByteArray := prog_4_method_18_code
def yX2_setDrift : MethodName := ⟨RX2, "setDrift", "(II)I"⟩
abbrev cX2_pass : ByteArray := prog_4_method_19_code
def yX2_pass : MethodName := ⟨RX2, "pass", "(I)I"⟩
abbrev cX2_isPressed : ByteArray := prog_4_method_20_code
def yX2_isPressed : MethodName := ⟨RX2, "isPressed", "(I)Z"⟩
abbrev cX2_tare : ByteArray := prog_4_method_21_code
def yX2_tare : MethodName := ⟨RX2, "tare", "(I)I"⟩
abbrev cX2_on : ByteArray := prog_4_method_22_code
def yX2_on : MethodName := ⟨RX2, "on", "(II)I"⟩
abbrev cX2_isWeight : ByteArray := prog_4_method_23_code
def yX2_isWeight : MethodName := ⟨RX2, "isWeight", "(I)Z"⟩
abbrev cX2_board : ByteArray := prog_4_method_24_code
def yX2_board : MethodName := ⟨RX2, "board", "(III)I"⟩
abbrev cX2_puts : ByteArray := prog_4_method_25_code
def yX2_puts : MethodName := ⟨RX2, "puts", "(III)V"⟩
abbrev cX2_walk : ByteArray := prog_4_method_26_code
def yX2_walk : MethodName := ⟨RX2, "walk", "(II)I"⟩
abbrev cX2_exchanges : ByteArray := prog_4_method_27_code
def yX2_exchanges : MethodName := ⟨RX2, "exchanges", "(III)V"⟩
abbrev cX2_whyNotTwo : ByteArray := prog_4_method_28_code
def yX2_whyNotTwo : MethodName := ⟨RX2, "whyNotTwo", "(II)I"⟩
abbrev cX2_swap : ByteArray := prog_4_method_29_code
def yX2_swap : MethodName := ⟨RX2, "swap", "(II)I"⟩
abbrev cX2_leave : ByteArray := prog_4_method_30_code
def yX2_leave : MethodName := ⟨RX2, "leave", "(I)I"⟩
abbrev cX2_setPrice : ByteArray := prog_4_method_31_code
def yX2_setPrice : MethodName := ⟨RX2, "setPrice", "(I)I"⟩
abbrev cX2_accuse : ByteArray := prog_4_method_32_code
def yX2_accuse : MethodName := ⟨RX2, "accuse", "(II)I"⟩
abbrev cX2_isNear : ByteArray := prog_4_method_33_code
def yX2_isNear : MethodName := ⟨RX2, "isNear", "(II)Z"⟩
abbrev cX2_estimateOf : ByteArray := prog_4_method_34_code
def yX2_estimateOf : MethodName := ⟨RX2, "estimateOf", "(I)I"⟩
abbrev cX2_earliest : ByteArray := prog_4_method_35_code
def yX2_earliest : MethodName := ⟨RX2, "earliest", "(I)I"⟩
abbrev cX2_certaintyIn : ByteArray := prog_4_method_36_code
def yX2_certaintyIn : MethodName := ⟨RX2, "certaintyIn", "(II)I"⟩
abbrev cX2_sumOf : ByteArray := prog_4_method_37_code
def yX2_sumOf : MethodName := ⟨RX2, "sumOf", "(Z)I"⟩
abbrev cX2_bill : ByteArray := prog_4_method_38_code
def yX2_bill : MethodName := ⟨RX2, "bill", "(I)I"⟩
abbrev cX2_complain : ByteArray := prog_4_method_39_code
def yX2_complain : MethodName := ⟨RX2, "complain", "(I)I"⟩
abbrev cX2_undo : ByteArray := prog_4_method_40_code
def yX2_undo : MethodName := ⟨RX2, "undo", "()I"⟩
abbrev cX2_many : ByteArray := prog_4_method_41_code
def yX2_many : MethodName := ⟨RX2, "many", "(Z)I"⟩
abbrev cX2_count : ByteArray := prog_4_method_42_code
def yX2_count : MethodName := ⟨RX2, "count", "(I)I"⟩
abbrev cX2_cell : ByteArray := prog_4_method_43_code
def yX2_cell : MethodName := ⟨RX2, "cell", "(II)I"⟩
abbrev cX2_walker : ByteArray := prog_4_method_44_code
def yX2_walker : MethodName := ⟨RX2, "walker", "(II)I"⟩
abbrev cX2_estimate : ByteArray := prog_4_method_45_code
def yX2_estimate : MethodName := ⟨RX2, "estimate", "(I)I"⟩
abbrev cX2_certainty : ByteArray := prog_4_method_46_code
def yX2_certainty : MethodName := ⟨RX2, "certainty", "(I)I"⟩
abbrev cX2_bestTwo : ByteArray := prog_4_method_47_code
def yX2_bestTwo : MethodName := ⟨RX2, "bestTwo", "()I"⟩
abbrev cX2_guess : ByteArray := prog_4_method_48_code
def yX2_guess : MethodName := ⟨RX2, "guess", "(I)I"⟩
abbrev cX2_mend : ByteArray := prog_4_method_49_code
def yX2_mend : MethodName := ⟨RX2, "mend", "(I)I"⟩
abbrev cX2_bestCell : ByteArray := prog_4_method_50_code
def yX2_bestCell : MethodName := ⟨RX2, "bestCell", "()I"⟩
abbrev cX2_until : ByteArray := prog_4_method_51_code
def yX2_until : MethodName := ⟨RX2, "until", "(II)I"⟩
def RJ9 : String := "java/lang/Math"
def TJ9 : u_T := fun k => match k with
  | _ => ("", "", "", false)
def tyJ9 : Nat → FieldType := fun k => match k with
  | _ => .int
abbrev wsJ90 : List Cond := u_ws RJ9 TJ9 0
theorem nmJ9 : ∀ a, a < 0 → ∀ b, b < 0 → a ≠ b → (TJ9 a).2.1 ≠ (TJ9 b).2.1 := by decide +kernel
theorem tyJ9_ok : ∀ k, k < 0 → parseFieldDescriptor (TJ9 k).2.2.1 = some (tyJ9 k) := by decide +kernel
abbrev cJ9_floorMod_7cf53 : ByteArray := prog_5_method_50_code
def yJ9_floorMod_7cf53 : MethodName := ⟨RJ9, "floorMod", "(II)I"⟩
abbrev cJ9_abs_0f7a4 : ByteArray := prog_5_method_59_code
def yJ9_abs_0f7a4 : MethodName := ⟨RJ9, "abs", "(I)I"⟩
abbrev cJ9_max_7cf53 : ByteArray := prog_5_method_65_code
def yJ9_max_7cf53 : MethodName := ⟨RJ9, "max", "(II)I"⟩
abbrev cJ9_min_7cf53 : ByteArray := prog_5_method_69_code
def yJ9_min_7cf53 : MethodName := ⟨RJ9, "min", "(II)I"⟩
def RJ10 : String := "java/lang/System"
def TJ10 : u_T := fun k => match k with
  | _ => ("", "", "", false)
def tyJ10 : Nat → FieldType := fun k => match k with
  | _ => .int
abbrev wsJ100 : List Cond := u_ws RJ10 TJ10 0
theorem nmJ10 : ∀ a, a < 0 → ∀ b, b < 0 → a ≠ b → (TJ10 a).2.1 ≠ (TJ10 b).2.1 := by decide +kernel
theorem tyJ10_ok : ∀ k, k < 0 → parseFieldDescriptor (TJ10 k).2.2.1 = some (tyJ10 k) := by decide +kernel
def RL : String := "FerryFloorLaw"
abbrev cL_law : ByteArray := code
def yL_law : MethodName := ⟨RL, "law", "([I)Z"⟩
def wsX1_fillRow : List Cond := .code yX1_fillRow cX1_fillRow 3 none :: ([])
def wsX0_init : List Cond := .code yX0_init cX0_init 1 none :: ([.methodLink RX0 3 objectInit, .instanceMethod objectInit, .code objectInit ⟨#[0xb1]⟩ 1 none, .fieldLink RX0 9 "FerryFloor$State" "minute" "I", .fieldLink RX0 15 "FerryFloor$State" "price" "I", .fieldLink RX0 18 "FerryFloor$State" "walkers" "I", .arrayClass .int, .fieldLink RX0 21 "FerryFloor$State" "zeros" "[I", .fieldLink RX0 25 "FerryFloor$State" "drifts" "[I", .fieldLink RX0 28 "FerryFloor$State" "tares" "[I", .fieldLink RX0 31 "FerryFloor$State" "tareMinutes" "[I", .fieldLink RX0 34 "FerryFloor$State" "weights" "[I", .fieldLink RX0 37 "FerryFloor$State" "places" "[I", .fieldLink RX0 40 "FerryFloor$State" "bookWeights" "[I", .fieldLink RX0 43 "FerryFloor$State" "bookPlaces" "[I", .fieldLink RX0 46 "FerryFloor$State" "accusations" "[I", .fieldLink RX0 49 "FerryFloor$State" "billKilograms" "[I", .fieldLink RX0 52 "FerryFloor$State" "billPrices" "[I", .fieldLink RX0 55 "FerryFloor$State" "backKilograms" "[I", .constant RX0 58 (-100009), .static yX1_fillRow, .initialized RX1, .code yX1_fillRow cX1_fillRow 3 none] ++ wsX00)
def wsX1_copyRow : List Cond := .code yX1_copyRow cX1_copyRow 2 none :: ([.methodLink RX1 205 Lib.Math.min.name, .static Lib.Math.min.name, .initialized "java/lang/Math", .code Lib.Math.min.name Lib.Math.min.code 2 (some .int), .methodLink RX1 217 arraycopyName, .native arraycopyName, .static arraycopyName, .initialized "java/lang/System"])
def wsX0_copyFrom_r1 : List Cond := [Cond.fieldLink RX0 9 "FerryFloor$State" "minute" "I", Cond.fieldLink RX0 15 "FerryFloor$State" "price" "I", Cond.fieldLink RX0 18 "FerryFloor$State" "walkers" "I", Cond.fieldLink RX0 21 "FerryFloor$State" "zeros" "[I", Cond.fieldLink RX0 25 "FerryFloor$State" "drifts" "[I", Cond.fieldLink RX0 28 "FerryFloor$State" "tares" "[I", Cond.fieldLink RX0 31 "FerryFloor$State" "tareMinutes" "[I", Cond.fieldLink RX0 34 "FerryFloor$State" "weights" "[I", Cond.fieldLink RX0 37 "FerryFloor$State" "places" "[I", Cond.fieldLink RX0 40 "FerryFloor$State" "bookWeights" "[I", Cond.fieldLink RX0 43 "FerryFloor$State" "bookPlaces" "[I", Cond.fieldLink RX0 46 "FerryFloor$State" "accusations" "[I", Cond.fieldLink RX0 49 "FerryFloor$State" "billKilograms" "[I", Cond.fieldLink RX0 52 "FerryFloor$State" "billPrices" "[I", Cond.fieldLink RX0 55 "FerryFloor$State" "backKilograms" "[I", Cond.static yX1_copyRow, Cond.initialized RX1, Cond.code yX1_copyRow cX1_copyRow 2 none, Cond.methodLink RX1 205 Lib.Math.min.name, Cond.static Lib.Math.min.name, Cond.initialized "java/lang/Math", Cond.code Lib.Math.min.name Lib.Math.min.code 2 (some .int), Cond.methodLink RX1 217 arraycopyName, Cond.native arraycopyName]
def wsX0_copyFrom_r2 : List Cond := [Cond.static arraycopyName, Cond.initialized "java/lang/System"]
def wsX0_copyFrom : List Cond := .code yX0_copyFrom cX0_copyFrom 2 none :: ((wsX0_copyFrom_r1 ++ wsX0_copyFrom_r2) ++ wsX00)
def wsX1_init_r1 : List Cond := [Cond.methodLink RX1 1 objectInit, Cond.instanceMethod objectInit, Cond.code objectInit ⟨#[0xb1]⟩ 1 none, Cond.classLink RX1 7 RX0, Cond.instantiable RX0 15, Cond.initialized RX0, Cond.fieldLink RX1 10 "FerryFloor" "now" "LFerryFloor$State;", Cond.fieldLink RX1 16 "FerryFloor" "history" "[LFerryFloor$State;", Cond.fieldLink RX1 20 "FerryFloor" "oldest" "I", Cond.fieldLink RX1 24 "FerryFloor" "kept" "I", Cond.arrayClass .int, Cond.fieldLink RX1 27 "FerryFloor" "readings" "[I", Cond.fieldLink RX1 31 "FerryFloor" "expected" "[I", Cond.fieldLink RX1 34 "FerryFloor" "trial" "[I", Cond.methodLink RX1 9 yX0_init, Cond.instanceMethod yX0_init, Cond.code yX0_init cX0_init 1 none, Cond.methodLink RX0 3 objectInit, Cond.fieldLink RX0 9 "FerryFloor$State" "minute" "I", Cond.fieldLink RX0 15 "FerryFloor$State" "price" "I", Cond.fieldLink RX0 18 "FerryFloor$State" "walkers" "I", Cond.fieldLink RX0 21 "FerryFloor$State" "zeros" "[I", Cond.fieldLink RX0 25 "FerryFloor$State" "drifts" "[I", Cond.fieldLink RX0 28 "FerryFloor$State" "tares" "[I"]
def wsX1_init_r2 : List Cond := [Cond.fieldLink RX0 31 "FerryFloor$State" "tareMinutes" "[I", Cond.fieldLink RX0 34 "FerryFloor$State" "weights" "[I", Cond.fieldLink RX0 37 "FerryFloor$State" "places" "[I", Cond.fieldLink RX0 40 "FerryFloor$State" "bookWeights" "[I", Cond.fieldLink RX0 43 "FerryFloor$State" "bookPlaces" "[I", Cond.fieldLink RX0 46 "FerryFloor$State" "accusations" "[I", Cond.fieldLink RX0 49 "FerryFloor$State" "billKilograms" "[I", Cond.fieldLink RX0 52 "FerryFloor$State" "billPrices" "[I", Cond.fieldLink RX0 55 "FerryFloor$State" "backKilograms" "[I", Cond.constant RX0 58 (-100009), Cond.static yX1_fillRow, Cond.initialized RX1, Cond.code yX1_fillRow cX1_fillRow 3 none]
def wsX1_init : List Cond := .code yX1_init cX1_init 2 none :: ((wsX1_init_r1 ++ wsX1_init_r2) ++ wsX00 ++ wsX10)
def wsX1_isCell : List Cond := .code yX1_isCell cX1_isCell 1 (some .boolean) :: ([])
def wsX1_isWithin : List Cond := .code yX1_isWithin cX1_isWithin 3 (some .boolean) :: ([])
def wsJ9_floorMod_7cf53 : List Cond := .code yJ9_floorMod_7cf53 cJ9_floorMod_7cf53 3 (some .int) :: ([])
def wsX1_slotAfter : List Cond := .code yX1_slotAfter cX1_slotAfter 2 (some .int) :: ([.fieldLink RX1 20 "FerryFloor" "oldest" "I", .methodLink RX1 214 yJ9_floorMod_7cf53, .static yJ9_floorMod_7cf53, .initialized RJ9, .code yJ9_floorMod_7cf53 cJ9_floorMod_7cf53 3 (some .int)] ++ wsX10)
def wsX1_remember_r1 : List Cond := [Cond.fieldLink RX1 24 "FerryFloor" "kept" "I", Cond.fieldLink RX1 20 "FerryFloor" "oldest" "I", Cond.fieldLink RX1 16 "FerryFloor" "history" "[LFerryFloor$State;", Cond.fieldLink RX1 10 "FerryFloor" "now" "LFerryFloor$State;", Cond.methodLink RX1 138 yX1_slotAfter, Cond.instanceMethod yX1_slotAfter, Cond.selects RX1 yX1_slotAfter yX1_slotAfter, Cond.initialized RX1, Cond.code yX1_slotAfter cX1_slotAfter 2 (some .int), Cond.methodLink RX1 214 yJ9_floorMod_7cf53, Cond.static yJ9_floorMod_7cf53, Cond.initialized RJ9, Cond.code yJ9_floorMod_7cf53 cJ9_floorMod_7cf53 3 (some .int), Cond.methodLink RX1 141 yX0_copyFrom, Cond.instanceMethod yX0_copyFrom, Cond.selects RX0 yX0_copyFrom yX0_copyFrom, Cond.initialized RX0, Cond.code yX0_copyFrom cX0_copyFrom 2 none, Cond.fieldLink RX0 9 "FerryFloor$State" "minute" "I", Cond.fieldLink RX0 15 "FerryFloor$State" "price" "I", Cond.fieldLink RX0 18 "FerryFloor$State" "walkers" "I", Cond.fieldLink RX0 21 "FerryFloor$State" "zeros" "[I", Cond.fieldLink RX0 25 "FerryFloor$State" "drifts" "[I", Cond.fieldLink RX0 28 "FerryFloor$State" "tares" "[I"]
def wsX1_remember_r2 : List Cond := [Cond.fieldLink RX0 31 "FerryFloor$State" "tareMinutes" "[I", Cond.fieldLink RX0 34 "FerryFloor$State" "weights" "[I", Cond.fieldLink RX0 37 "FerryFloor$State" "places" "[I", Cond.fieldLink RX0 40 "FerryFloor$State" "bookWeights" "[I", Cond.fieldLink RX0 43 "FerryFloor$State" "bookPlaces" "[I", Cond.fieldLink RX0 46 "FerryFloor$State" "accusations" "[I", Cond.fieldLink RX0 49 "FerryFloor$State" "billKilograms" "[I", Cond.fieldLink RX0 52 "FerryFloor$State" "billPrices" "[I", Cond.fieldLink RX0 55 "FerryFloor$State" "backKilograms" "[I", Cond.static yX1_copyRow, Cond.code yX1_copyRow cX1_copyRow 2 none, Cond.methodLink RX1 205 Lib.Math.min.name, Cond.static Lib.Math.min.name, Cond.initialized "java/lang/Math", Cond.code Lib.Math.min.name Lib.Math.min.code 2 (some .int), Cond.methodLink RX1 217 arraycopyName, Cond.native arraycopyName, Cond.static arraycopyName, Cond.initialized "java/lang/System"]
def wsX1_remember : List Cond := .code yX1_remember cX1_remember 2 none :: ((wsX1_remember_r1 ++ wsX1_remember_r2) ++ wsX10 ++ wsX00)
def wsX1_setDrift_r1 : List Cond := [Cond.constant RX1 45 (-100001), Cond.fieldLink RX1 10 "FerryFloor" "now" "LFerryFloor$State;", Cond.fieldLink RX1 49 "FerryFloor$State" "drifts" "[I", Cond.methodLink RX1 37 yX1_isCell, Cond.static yX1_isCell, Cond.initialized RX1, Cond.code yX1_isCell cX1_isCell 1 (some .boolean), Cond.methodLink RX1 41 yX1_isWithin, Cond.static yX1_isWithin, Cond.code yX1_isWithin cX1_isWithin 3 (some .boolean), Cond.methodLink RX1 46 yX1_remember, Cond.instanceMethod yX1_remember, Cond.selects RX1 yX1_remember yX1_remember, Cond.code yX1_remember cX1_remember 2 none, Cond.fieldLink RX1 24 "FerryFloor" "kept" "I", Cond.fieldLink RX1 20 "FerryFloor" "oldest" "I", Cond.fieldLink RX1 16 "FerryFloor" "history" "[LFerryFloor$State;", Cond.methodLink RX1 138 yX1_slotAfter, Cond.instanceMethod yX1_slotAfter, Cond.selects RX1 yX1_slotAfter yX1_slotAfter, Cond.code yX1_slotAfter cX1_slotAfter 2 (some .int), Cond.methodLink RX1 214 yJ9_floorMod_7cf53, Cond.static yJ9_floorMod_7cf53, Cond.initialized RJ9]
def wsX1_setDrift_r2 : List Cond := [Cond.code yJ9_floorMod_7cf53 cJ9_floorMod_7cf53 3 (some .int), Cond.methodLink RX1 141 yX0_copyFrom, Cond.instanceMethod yX0_copyFrom, Cond.selects RX0 yX0_copyFrom yX0_copyFrom, Cond.initialized RX0, Cond.code yX0_copyFrom cX0_copyFrom 2 none, Cond.fieldLink RX0 9 "FerryFloor$State" "minute" "I", Cond.fieldLink RX0 15 "FerryFloor$State" "price" "I", Cond.fieldLink RX0 18 "FerryFloor$State" "walkers" "I", Cond.fieldLink RX0 21 "FerryFloor$State" "zeros" "[I", Cond.fieldLink RX0 25 "FerryFloor$State" "drifts" "[I", Cond.fieldLink RX0 28 "FerryFloor$State" "tares" "[I", Cond.fieldLink RX0 31 "FerryFloor$State" "tareMinutes" "[I", Cond.fieldLink RX0 34 "FerryFloor$State" "weights" "[I", Cond.fieldLink RX0 37 "FerryFloor$State" "places" "[I", Cond.fieldLink RX0 40 "FerryFloor$State" "bookWeights" "[I", Cond.fieldLink RX0 43 "FerryFloor$State" "bookPlaces" "[I", Cond.fieldLink RX0 46 "FerryFloor$State" "accusations" "[I", Cond.fieldLink RX0 49 "FerryFloor$State" "billKilograms" "[I", Cond.fieldLink RX0 52 "FerryFloor$State" "billPrices" "[I", Cond.fieldLink RX0 55 "FerryFloor$State" "backKilograms" "[I", Cond.static yX1_copyRow, Cond.code yX1_copyRow cX1_copyRow 2 none, Cond.methodLink RX1 205 Lib.Math.min.name]
def wsX1_setDrift_r3 : List Cond := [Cond.static Lib.Math.min.name, Cond.initialized "java/lang/Math", Cond.code Lib.Math.min.name Lib.Math.min.code 2 (some .int), Cond.methodLink RX1 217 arraycopyName, Cond.native arraycopyName, Cond.static arraycopyName, Cond.initialized "java/lang/System"]
def wsX1_setDrift : List Cond := .code yX1_setDrift cX1_setDrift 4 (some .int) :: ((wsX1_setDrift_r1 ++ (wsX1_setDrift_r2 ++ wsX1_setDrift_r3)) ++ wsX10 ++ wsX00)
def wsX1_pass_r1 : List Cond := [Cond.constant RX1 45 (-100001), Cond.fieldLink RX1 10 "FerryFloor" "now" "LFerryFloor$State;", Cond.fieldLink RX1 52 "FerryFloor$State" "minute" "I", Cond.constant RX1 55 (-100002), Cond.fieldLink RX1 56 "FerryFloor$State" "zeros" "[I", Cond.fieldLink RX1 49 "FerryFloor$State" "drifts" "[I", Cond.methodLink RX1 41 yX1_isWithin, Cond.static yX1_isWithin, Cond.initialized RX1, Cond.code yX1_isWithin cX1_isWithin 3 (some .boolean), Cond.methodLink RX1 46 yX1_remember, Cond.instanceMethod yX1_remember, Cond.selects RX1 yX1_remember yX1_remember, Cond.code yX1_remember cX1_remember 2 none, Cond.fieldLink RX1 24 "FerryFloor" "kept" "I", Cond.fieldLink RX1 20 "FerryFloor" "oldest" "I", Cond.fieldLink RX1 16 "FerryFloor" "history" "[LFerryFloor$State;", Cond.methodLink RX1 138 yX1_slotAfter, Cond.instanceMethod yX1_slotAfter, Cond.selects RX1 yX1_slotAfter yX1_slotAfter, Cond.code yX1_slotAfter cX1_slotAfter 2 (some .int), Cond.methodLink RX1 214 yJ9_floorMod_7cf53, Cond.static yJ9_floorMod_7cf53, Cond.initialized RJ9]
def wsX1_pass_r2 : List Cond := [Cond.code yJ9_floorMod_7cf53 cJ9_floorMod_7cf53 3 (some .int), Cond.methodLink RX1 141 yX0_copyFrom, Cond.instanceMethod yX0_copyFrom, Cond.selects RX0 yX0_copyFrom yX0_copyFrom, Cond.initialized RX0, Cond.code yX0_copyFrom cX0_copyFrom 2 none, Cond.fieldLink RX0 9 "FerryFloor$State" "minute" "I", Cond.fieldLink RX0 15 "FerryFloor$State" "price" "I", Cond.fieldLink RX0 18 "FerryFloor$State" "walkers" "I", Cond.fieldLink RX0 21 "FerryFloor$State" "zeros" "[I", Cond.fieldLink RX0 25 "FerryFloor$State" "drifts" "[I", Cond.fieldLink RX0 28 "FerryFloor$State" "tares" "[I", Cond.fieldLink RX0 31 "FerryFloor$State" "tareMinutes" "[I", Cond.fieldLink RX0 34 "FerryFloor$State" "weights" "[I", Cond.fieldLink RX0 37 "FerryFloor$State" "places" "[I", Cond.fieldLink RX0 40 "FerryFloor$State" "bookWeights" "[I", Cond.fieldLink RX0 43 "FerryFloor$State" "bookPlaces" "[I", Cond.fieldLink RX0 46 "FerryFloor$State" "accusations" "[I", Cond.fieldLink RX0 49 "FerryFloor$State" "billKilograms" "[I", Cond.fieldLink RX0 52 "FerryFloor$State" "billPrices" "[I", Cond.fieldLink RX0 55 "FerryFloor$State" "backKilograms" "[I", Cond.static yX1_copyRow, Cond.code yX1_copyRow cX1_copyRow 2 none, Cond.methodLink RX1 205 Lib.Math.min.name]
def wsX1_pass_r3 : List Cond := [Cond.static Lib.Math.min.name, Cond.initialized "java/lang/Math", Cond.code Lib.Math.min.name Lib.Math.min.code 2 (some .int), Cond.methodLink RX1 217 arraycopyName, Cond.native arraycopyName, Cond.static arraycopyName, Cond.initialized "java/lang/System"]
def wsX1_pass : List Cond := .code yX1_pass cX1_pass 3 (some .int) :: ((wsX1_pass_r1 ++ (wsX1_pass_r2 ++ wsX1_pass_r3)) ++ wsX10 ++ wsX00)
def wsX1_nearCell : List Cond := .code yX1_nearCell cX1_nearCell 3 (some .int) :: ([.constant RX1 78 (-100009)])
def wsX1_addShares : List Cond := .code yX1_addShares cX1_addShares 7 none :: ([.methodLink RX1 37 yX1_isCell, .static yX1_isCell, .initialized RX1, .code yX1_isCell cX1_isCell 1 (some .boolean), .methodLink RX1 195 yX1_nearCell, .static yX1_nearCell, .code yX1_nearCell cX1_nearCell 3 (some .int), .constant RX1 78 (-100009)])
def wsX1_addAllShares : List Cond := .code yX1_addAllShares cX1_addAllShares 4 none :: ([.methodLink RX1 198 yX1_addShares, .static yX1_addShares, .initialized RX1, .code yX1_addShares cX1_addShares 7 none, .methodLink RX1 37 yX1_isCell, .static yX1_isCell, .code yX1_isCell cX1_isCell 1 (some .boolean), .methodLink RX1 195 yX1_nearCell, .static yX1_nearCell, .code yX1_nearCell cX1_nearCell 3 (some .int), .constant RX1 78 (-100009)])
def wsX1_weighAll_r1 : List Cond := [Cond.fieldLink RX1 10 "FerryFloor" "now" "LFerryFloor$State;", Cond.fieldLink RX1 56 "FerryFloor$State" "zeros" "[I", Cond.fieldLink RX1 27 "FerryFloor" "readings" "[I", Cond.fieldLink RX1 83 "FerryFloor$State" "weights" "[I", Cond.fieldLink RX1 71 "FerryFloor$State" "places" "[I", Cond.methodLink RX1 180 yX1_copyRow, Cond.static yX1_copyRow, Cond.initialized RX1, Cond.code yX1_copyRow cX1_copyRow 2 none, Cond.methodLink RX1 205 Lib.Math.min.name, Cond.static Lib.Math.min.name, Cond.initialized "java/lang/Math", Cond.code Lib.Math.min.name Lib.Math.min.code 2 (some .int), Cond.methodLink RX1 217 arraycopyName, Cond.native arraycopyName, Cond.static arraycopyName, Cond.initialized "java/lang/System", Cond.methodLink RX1 201 yX1_addAllShares, Cond.static yX1_addAllShares, Cond.code yX1_addAllShares cX1_addAllShares 4 none, Cond.methodLink RX1 198 yX1_addShares, Cond.static yX1_addShares, Cond.code yX1_addShares cX1_addShares 7 none, Cond.methodLink RX1 37 yX1_isCell]
def wsX1_weighAll_r2 : List Cond := [Cond.static yX1_isCell, Cond.code yX1_isCell cX1_isCell 1 (some .boolean), Cond.methodLink RX1 195 yX1_nearCell, Cond.static yX1_nearCell, Cond.code yX1_nearCell cX1_nearCell 3 (some .int), Cond.constant RX1 78 (-100009)]
def wsX1_weighAll : List Cond := .code yX1_weighAll cX1_weighAll 1 none :: ((wsX1_weighAll_r1 ++ wsX1_weighAll_r2) ++ wsX10 ++ wsX00)
def wsX1_tare_r1 : List Cond := [Cond.constant RX1 45 (-100001), Cond.fieldLink RX1 27 "FerryFloor" "readings" "[I", Cond.fieldLink RX1 10 "FerryFloor" "now" "LFerryFloor$State;", Cond.fieldLink RX1 56 "FerryFloor$State" "zeros" "[I", Cond.constant RX1 55 (-100002), Cond.fieldLink RX1 62 "FerryFloor$State" "tares" "[I", Cond.fieldLink RX1 65 "FerryFloor$State" "tareMinutes" "[I", Cond.fieldLink RX1 52 "FerryFloor$State" "minute" "I", Cond.methodLink RX1 37 yX1_isCell, Cond.static yX1_isCell, Cond.initialized RX1, Cond.code yX1_isCell cX1_isCell 1 (some .boolean), Cond.methodLink RX1 59 yX1_weighAll, Cond.instanceMethod yX1_weighAll, Cond.selects RX1 yX1_weighAll yX1_weighAll, Cond.code yX1_weighAll cX1_weighAll 1 none, Cond.fieldLink RX1 83 "FerryFloor$State" "weights" "[I", Cond.fieldLink RX1 71 "FerryFloor$State" "places" "[I", Cond.methodLink RX1 180 yX1_copyRow, Cond.static yX1_copyRow, Cond.code yX1_copyRow cX1_copyRow 2 none, Cond.methodLink RX1 205 Lib.Math.min.name, Cond.static Lib.Math.min.name, Cond.initialized "java/lang/Math"]
def wsX1_tare_r2 : List Cond := [Cond.code Lib.Math.min.name Lib.Math.min.code 2 (some .int), Cond.methodLink RX1 217 arraycopyName, Cond.native arraycopyName, Cond.static arraycopyName, Cond.initialized "java/lang/System", Cond.methodLink RX1 201 yX1_addAllShares, Cond.static yX1_addAllShares, Cond.code yX1_addAllShares cX1_addAllShares 4 none, Cond.methodLink RX1 198 yX1_addShares, Cond.static yX1_addShares, Cond.code yX1_addShares cX1_addShares 7 none, Cond.methodLink RX1 195 yX1_nearCell, Cond.static yX1_nearCell, Cond.code yX1_nearCell cX1_nearCell 3 (some .int), Cond.constant RX1 78 (-100009), Cond.methodLink RX1 46 yX1_remember, Cond.instanceMethod yX1_remember, Cond.selects RX1 yX1_remember yX1_remember, Cond.code yX1_remember cX1_remember 2 none, Cond.fieldLink RX1 24 "FerryFloor" "kept" "I", Cond.fieldLink RX1 20 "FerryFloor" "oldest" "I", Cond.fieldLink RX1 16 "FerryFloor" "history" "[LFerryFloor$State;", Cond.methodLink RX1 138 yX1_slotAfter, Cond.instanceMethod yX1_slotAfter]
def wsX1_tare_r3 : List Cond := [Cond.selects RX1 yX1_slotAfter yX1_slotAfter, Cond.code yX1_slotAfter cX1_slotAfter 2 (some .int), Cond.methodLink RX1 214 yJ9_floorMod_7cf53, Cond.static yJ9_floorMod_7cf53, Cond.initialized RJ9, Cond.code yJ9_floorMod_7cf53 cJ9_floorMod_7cf53 3 (some .int), Cond.methodLink RX1 141 yX0_copyFrom, Cond.instanceMethod yX0_copyFrom, Cond.selects RX0 yX0_copyFrom yX0_copyFrom, Cond.initialized RX0, Cond.code yX0_copyFrom cX0_copyFrom 2 none, Cond.fieldLink RX0 9 "FerryFloor$State" "minute" "I", Cond.fieldLink RX0 15 "FerryFloor$State" "price" "I", Cond.fieldLink RX0 18 "FerryFloor$State" "walkers" "I", Cond.fieldLink RX0 21 "FerryFloor$State" "zeros" "[I", Cond.fieldLink RX0 25 "FerryFloor$State" "drifts" "[I", Cond.fieldLink RX0 28 "FerryFloor$State" "tares" "[I", Cond.fieldLink RX0 31 "FerryFloor$State" "tareMinutes" "[I", Cond.fieldLink RX0 34 "FerryFloor$State" "weights" "[I", Cond.fieldLink RX0 37 "FerryFloor$State" "places" "[I", Cond.fieldLink RX0 40 "FerryFloor$State" "bookWeights" "[I", Cond.fieldLink RX0 43 "FerryFloor$State" "bookPlaces" "[I", Cond.fieldLink RX0 46 "FerryFloor$State" "accusations" "[I", Cond.fieldLink RX0 49 "FerryFloor$State" "billKilograms" "[I"]
def wsX1_tare_r4 : List Cond := [Cond.fieldLink RX0 52 "FerryFloor$State" "billPrices" "[I", Cond.fieldLink RX0 55 "FerryFloor$State" "backKilograms" "[I"]
def wsX1_tare : List Cond := .code yX1_tare cX1_tare 2 (some .int) :: ((wsX1_tare_r1 ++ (wsX1_tare_r2 ++ (wsX1_tare_r3 ++ wsX1_tare_r4))) ++ wsX10 ++ wsX00)
def wsX1_isWeight : List Cond := .code yX1_isWeight cX1_isWeight 1 (some .boolean) :: ([.methodLink RX1 41 yX1_isWithin, .static yX1_isWithin, .initialized RX1, .code yX1_isWithin cX1_isWithin 3 (some .boolean)])
def wsX1_whoIsOn : List Cond := .code yX1_whoIsOn cX1_whoIsOn 3 (some .int) :: ([.constant RX1 78 (-100009)])
def wsX1_board_r1 : List Cond := [Cond.constant RX1 45 (-100001), Cond.fieldLink RX1 10 "FerryFloor" "now" "LFerryFloor$State;", Cond.fieldLink RX1 71 "FerryFloor$State" "places" "[I", Cond.constant RX1 78 (-100009), Cond.constant RX1 55 (-100002), Cond.fieldLink RX1 79 "FerryFloor$State" "walkers" "I", Cond.constant RX1 82 (-100003), Cond.fieldLink RX1 83 "FerryFloor$State" "weights" "[I", Cond.fieldLink RX1 86 "FerryFloor$State" "bookWeights" "[I", Cond.fieldLink RX1 89 "FerryFloor$State" "bookPlaces" "[I", Cond.methodLink RX1 68 yX1_isWeight, Cond.static yX1_isWeight, Cond.initialized RX1, Cond.code yX1_isWeight cX1_isWeight 1 (some .boolean), Cond.methodLink RX1 41 yX1_isWithin, Cond.static yX1_isWithin, Cond.code yX1_isWithin cX1_isWithin 3 (some .boolean), Cond.methodLink RX1 37 yX1_isCell, Cond.static yX1_isCell, Cond.code yX1_isCell cX1_isCell 1 (some .boolean), Cond.methodLink RX1 74 yX1_whoIsOn, Cond.static yX1_whoIsOn, Cond.code yX1_whoIsOn cX1_whoIsOn 3 (some .int), Cond.methodLink RX1 46 yX1_remember]
def wsX1_board_r2 : List Cond := [Cond.instanceMethod yX1_remember, Cond.selects RX1 yX1_remember yX1_remember, Cond.code yX1_remember cX1_remember 2 none, Cond.fieldLink RX1 24 "FerryFloor" "kept" "I", Cond.fieldLink RX1 20 "FerryFloor" "oldest" "I", Cond.fieldLink RX1 16 "FerryFloor" "history" "[LFerryFloor$State;", Cond.methodLink RX1 138 yX1_slotAfter, Cond.instanceMethod yX1_slotAfter, Cond.selects RX1 yX1_slotAfter yX1_slotAfter, Cond.code yX1_slotAfter cX1_slotAfter 2 (some .int), Cond.methodLink RX1 214 yJ9_floorMod_7cf53, Cond.static yJ9_floorMod_7cf53, Cond.initialized RJ9, Cond.code yJ9_floorMod_7cf53 cJ9_floorMod_7cf53 3 (some .int), Cond.methodLink RX1 141 yX0_copyFrom, Cond.instanceMethod yX0_copyFrom, Cond.selects RX0 yX0_copyFrom yX0_copyFrom, Cond.initialized RX0, Cond.code yX0_copyFrom cX0_copyFrom 2 none, Cond.fieldLink RX0 9 "FerryFloor$State" "minute" "I", Cond.fieldLink RX0 15 "FerryFloor$State" "price" "I", Cond.fieldLink RX0 18 "FerryFloor$State" "walkers" "I", Cond.fieldLink RX0 21 "FerryFloor$State" "zeros" "[I", Cond.fieldLink RX0 25 "FerryFloor$State" "drifts" "[I"]
def wsX1_board_r3 : List Cond := [Cond.fieldLink RX0 28 "FerryFloor$State" "tares" "[I", Cond.fieldLink RX0 31 "FerryFloor$State" "tareMinutes" "[I", Cond.fieldLink RX0 34 "FerryFloor$State" "weights" "[I", Cond.fieldLink RX0 37 "FerryFloor$State" "places" "[I", Cond.fieldLink RX0 40 "FerryFloor$State" "bookWeights" "[I", Cond.fieldLink RX0 43 "FerryFloor$State" "bookPlaces" "[I", Cond.fieldLink RX0 46 "FerryFloor$State" "accusations" "[I", Cond.fieldLink RX0 49 "FerryFloor$State" "billKilograms" "[I", Cond.fieldLink RX0 52 "FerryFloor$State" "billPrices" "[I", Cond.fieldLink RX0 55 "FerryFloor$State" "backKilograms" "[I", Cond.static yX1_copyRow, Cond.code yX1_copyRow cX1_copyRow 2 none, Cond.methodLink RX1 205 Lib.Math.min.name, Cond.static Lib.Math.min.name, Cond.initialized "java/lang/Math", Cond.code Lib.Math.min.name Lib.Math.min.code 2 (some .int), Cond.methodLink RX1 217 arraycopyName, Cond.native arraycopyName, Cond.static arraycopyName, Cond.initialized "java/lang/System"]
def wsX1_board : List Cond := .code yX1_board cX1_board 5 (some .int) :: ((wsX1_board_r1 ++ (wsX1_board_r2 ++ wsX1_board_r3)) ++ wsX10 ++ wsX00)
def wsX1_isWalker : List Cond := .code yX1_isWalker cX1_isWalker 2 (some .boolean) :: ([.fieldLink RX1 10 "FerryFloor" "now" "LFerryFloor$State;", .fieldLink RX1 79 "FerryFloor$State" "walkers" "I"] ++ wsX10 ++ wsX00)
def wsX1_isAboard : List Cond := .code yX1_isAboard cX1_isAboard 2 (some .boolean) :: ([.fieldLink RX1 10 "FerryFloor" "now" "LFerryFloor$State;", .fieldLink RX1 71 "FerryFloor$State" "places" "[I", .constant RX1 78 (-100009), .methodLink RX1 92 yX1_isWalker, .instanceMethod yX1_isWalker, .selects RX1 yX1_isWalker yX1_isWalker, .initialized RX1, .code yX1_isWalker cX1_isWalker 2 (some .boolean), .fieldLink RX1 79 "FerryFloor$State" "walkers" "I"] ++ wsX10 ++ wsX00)
def wsX1_walk_r1 : List Cond := [Cond.constant RX1 45 (-100001), Cond.fieldLink RX1 10 "FerryFloor" "now" "LFerryFloor$State;", Cond.fieldLink RX1 71 "FerryFloor$State" "places" "[I", Cond.constant RX1 78 (-100009), Cond.constant RX1 55 (-100002), Cond.fieldLink RX1 89 "FerryFloor$State" "bookPlaces" "[I", Cond.methodLink RX1 92 yX1_isWalker, Cond.instanceMethod yX1_isWalker, Cond.selects RX1 yX1_isWalker yX1_isWalker, Cond.initialized RX1, Cond.code yX1_isWalker cX1_isWalker 2 (some .boolean), Cond.fieldLink RX1 79 "FerryFloor$State" "walkers" "I", Cond.methodLink RX1 37 yX1_isCell, Cond.static yX1_isCell, Cond.code yX1_isCell cX1_isCell 1 (some .boolean), Cond.methodLink RX1 95 yX1_isAboard, Cond.instanceMethod yX1_isAboard, Cond.selects RX1 yX1_isAboard yX1_isAboard, Cond.code yX1_isAboard cX1_isAboard 2 (some .boolean), Cond.methodLink RX1 74 yX1_whoIsOn, Cond.static yX1_whoIsOn, Cond.code yX1_whoIsOn cX1_whoIsOn 3 (some .int), Cond.methodLink RX1 46 yX1_remember, Cond.instanceMethod yX1_remember]
def wsX1_walk_r2 : List Cond := [Cond.selects RX1 yX1_remember yX1_remember, Cond.code yX1_remember cX1_remember 2 none, Cond.fieldLink RX1 24 "FerryFloor" "kept" "I", Cond.fieldLink RX1 20 "FerryFloor" "oldest" "I", Cond.fieldLink RX1 16 "FerryFloor" "history" "[LFerryFloor$State;", Cond.methodLink RX1 138 yX1_slotAfter, Cond.instanceMethod yX1_slotAfter, Cond.selects RX1 yX1_slotAfter yX1_slotAfter, Cond.code yX1_slotAfter cX1_slotAfter 2 (some .int), Cond.methodLink RX1 214 yJ9_floorMod_7cf53, Cond.static yJ9_floorMod_7cf53, Cond.initialized RJ9, Cond.code yJ9_floorMod_7cf53 cJ9_floorMod_7cf53 3 (some .int), Cond.methodLink RX1 141 yX0_copyFrom, Cond.instanceMethod yX0_copyFrom, Cond.selects RX0 yX0_copyFrom yX0_copyFrom, Cond.initialized RX0, Cond.code yX0_copyFrom cX0_copyFrom 2 none, Cond.fieldLink RX0 9 "FerryFloor$State" "minute" "I", Cond.fieldLink RX0 15 "FerryFloor$State" "price" "I", Cond.fieldLink RX0 18 "FerryFloor$State" "walkers" "I", Cond.fieldLink RX0 21 "FerryFloor$State" "zeros" "[I", Cond.fieldLink RX0 25 "FerryFloor$State" "drifts" "[I", Cond.fieldLink RX0 28 "FerryFloor$State" "tares" "[I"]
def wsX1_walk_r3 : List Cond := [Cond.fieldLink RX0 31 "FerryFloor$State" "tareMinutes" "[I", Cond.fieldLink RX0 34 "FerryFloor$State" "weights" "[I", Cond.fieldLink RX0 37 "FerryFloor$State" "places" "[I", Cond.fieldLink RX0 40 "FerryFloor$State" "bookWeights" "[I", Cond.fieldLink RX0 43 "FerryFloor$State" "bookPlaces" "[I", Cond.fieldLink RX0 46 "FerryFloor$State" "accusations" "[I", Cond.fieldLink RX0 49 "FerryFloor$State" "billKilograms" "[I", Cond.fieldLink RX0 52 "FerryFloor$State" "billPrices" "[I", Cond.fieldLink RX0 55 "FerryFloor$State" "backKilograms" "[I", Cond.static yX1_copyRow, Cond.code yX1_copyRow cX1_copyRow 2 none, Cond.methodLink RX1 205 Lib.Math.min.name, Cond.static Lib.Math.min.name, Cond.initialized "java/lang/Math", Cond.code Lib.Math.min.name Lib.Math.min.code 2 (some .int), Cond.methodLink RX1 217 arraycopyName, Cond.native arraycopyName, Cond.static arraycopyName, Cond.initialized "java/lang/System"]
def wsX1_walk : List Cond := .code yX1_walk cX1_walk 4 (some .int) :: ((wsX1_walk_r1 ++ (wsX1_walk_r2 ++ wsX1_walk_r3)) ++ wsX10 ++ wsX00)
def wsX1_isPair : List Cond := .code yX1_isPair cX1_isPair 3 (some .boolean) :: ([.methodLink RX1 92 yX1_isWalker, .instanceMethod yX1_isWalker, .selects RX1 yX1_isWalker yX1_isWalker, .initialized RX1, .code yX1_isWalker cX1_isWalker 2 (some .boolean), .fieldLink RX1 10 "FerryFloor" "now" "LFerryFloor$State;", .fieldLink RX1 79 "FerryFloor$State" "walkers" "I"] ++ wsX10 ++ wsX00)
def wsX1_exchange : List Cond := .code yX1_exchange cX1_exchange 4 none :: ([])
def wsX1_expectAll_r1 : List Cond := [Cond.fieldLink RX1 10 "FerryFloor" "now" "LFerryFloor$State;", Cond.fieldLink RX1 62 "FerryFloor$State" "tares" "[I", Cond.fieldLink RX1 31 "FerryFloor" "expected" "[I", Cond.fieldLink RX1 86 "FerryFloor$State" "bookWeights" "[I", Cond.methodLink RX1 180 yX1_copyRow, Cond.static yX1_copyRow, Cond.initialized RX1, Cond.code yX1_copyRow cX1_copyRow 2 none, Cond.methodLink RX1 205 Lib.Math.min.name, Cond.static Lib.Math.min.name, Cond.initialized "java/lang/Math", Cond.code Lib.Math.min.name Lib.Math.min.code 2 (some .int), Cond.methodLink RX1 217 arraycopyName, Cond.native arraycopyName, Cond.static arraycopyName, Cond.initialized "java/lang/System", Cond.methodLink RX1 201 yX1_addAllShares, Cond.static yX1_addAllShares, Cond.code yX1_addAllShares cX1_addAllShares 4 none, Cond.methodLink RX1 198 yX1_addShares, Cond.static yX1_addShares, Cond.code yX1_addShares cX1_addShares 7 none, Cond.methodLink RX1 37 yX1_isCell, Cond.static yX1_isCell]
def wsX1_expectAll_r2 : List Cond := [Cond.code yX1_isCell cX1_isCell 1 (some .boolean), Cond.methodLink RX1 195 yX1_nearCell, Cond.static yX1_nearCell, Cond.code yX1_nearCell cX1_nearCell 3 (some .int), Cond.constant RX1 78 (-100009)]
def wsX1_expectAll : List Cond := .code yX1_expectAll cX1_expectAll 2 none :: ((wsX1_expectAll_r1 ++ wsX1_expectAll_r2) ++ wsX10 ++ wsX00)
def wsX1_errorWith_r1 : List Cond := [Cond.fieldLink RX1 27 "FerryFloor" "readings" "[I", Cond.fieldLink RX1 31 "FerryFloor" "expected" "[I", Cond.methodLink RX1 208 Lib.Math.abs.name, Cond.static Lib.Math.abs.name, Cond.initialized "java/lang/Math", Cond.code Lib.Math.abs.name Lib.Math.abs.code 1 (some .int), Cond.methodLink RX1 59 yX1_weighAll, Cond.instanceMethod yX1_weighAll, Cond.selects RX1 yX1_weighAll yX1_weighAll, Cond.initialized RX1, Cond.code yX1_weighAll cX1_weighAll 1 none, Cond.fieldLink RX1 10 "FerryFloor" "now" "LFerryFloor$State;", Cond.fieldLink RX1 56 "FerryFloor$State" "zeros" "[I", Cond.fieldLink RX1 83 "FerryFloor$State" "weights" "[I", Cond.fieldLink RX1 71 "FerryFloor$State" "places" "[I", Cond.methodLink RX1 180 yX1_copyRow, Cond.static yX1_copyRow, Cond.code yX1_copyRow cX1_copyRow 2 none, Cond.methodLink RX1 205 Lib.Math.min.name, Cond.static Lib.Math.min.name, Cond.code Lib.Math.min.name Lib.Math.min.code 2 (some .int), Cond.methodLink RX1 217 arraycopyName, Cond.native arraycopyName, Cond.static arraycopyName]
def wsX1_errorWith_r2 : List Cond := [Cond.initialized "java/lang/System", Cond.methodLink RX1 201 yX1_addAllShares, Cond.static yX1_addAllShares, Cond.code yX1_addAllShares cX1_addAllShares 4 none, Cond.methodLink RX1 198 yX1_addShares, Cond.static yX1_addShares, Cond.code yX1_addShares cX1_addShares 7 none, Cond.methodLink RX1 37 yX1_isCell, Cond.static yX1_isCell, Cond.code yX1_isCell cX1_isCell 1 (some .boolean), Cond.methodLink RX1 195 yX1_nearCell, Cond.static yX1_nearCell, Cond.code yX1_nearCell cX1_nearCell 3 (some .int), Cond.constant RX1 78 (-100009), Cond.methodLink RX1 167 yX1_expectAll, Cond.instanceMethod yX1_expectAll, Cond.selects RX1 yX1_expectAll yX1_expectAll, Cond.code yX1_expectAll cX1_expectAll 2 none, Cond.fieldLink RX1 62 "FerryFloor$State" "tares" "[I", Cond.fieldLink RX1 86 "FerryFloor$State" "bookWeights" "[I"]
def wsX1_errorWith : List Cond := .code yX1_errorWith cX1_errorWith 4 (some .int) :: ((wsX1_errorWith_r1 ++ wsX1_errorWith_r2) ++ wsX10 ++ wsX00)
def wsX1_swap_r1 : List Cond := [Cond.constant RX1 45 (-100001), Cond.constant RX1 55 (-100002), Cond.fieldLink RX1 10 "FerryFloor" "now" "LFerryFloor$State;", Cond.fieldLink RX1 71 "FerryFloor$State" "places" "[I", Cond.fieldLink RX1 89 "FerryFloor$State" "bookPlaces" "[I", Cond.methodLink RX1 98 yX1_isPair, Cond.instanceMethod yX1_isPair, Cond.selects RX1 yX1_isPair yX1_isPair, Cond.initialized RX1, Cond.code yX1_isPair cX1_isPair 3 (some .boolean), Cond.methodLink RX1 92 yX1_isWalker, Cond.instanceMethod yX1_isWalker, Cond.selects RX1 yX1_isWalker yX1_isWalker, Cond.code yX1_isWalker cX1_isWalker 2 (some .boolean), Cond.fieldLink RX1 79 "FerryFloor$State" "walkers" "I", Cond.methodLink RX1 95 yX1_isAboard, Cond.instanceMethod yX1_isAboard, Cond.selects RX1 yX1_isAboard yX1_isAboard, Cond.code yX1_isAboard cX1_isAboard 2 (some .boolean), Cond.constant RX1 78 (-100009), Cond.methodLink RX1 46 yX1_remember, Cond.instanceMethod yX1_remember, Cond.selects RX1 yX1_remember yX1_remember, Cond.code yX1_remember cX1_remember 2 none]
def wsX1_swap_r2 : List Cond := [Cond.fieldLink RX1 24 "FerryFloor" "kept" "I", Cond.fieldLink RX1 20 "FerryFloor" "oldest" "I", Cond.fieldLink RX1 16 "FerryFloor" "history" "[LFerryFloor$State;", Cond.methodLink RX1 138 yX1_slotAfter, Cond.instanceMethod yX1_slotAfter, Cond.selects RX1 yX1_slotAfter yX1_slotAfter, Cond.code yX1_slotAfter cX1_slotAfter 2 (some .int), Cond.methodLink RX1 214 yJ9_floorMod_7cf53, Cond.static yJ9_floorMod_7cf53, Cond.initialized RJ9, Cond.code yJ9_floorMod_7cf53 cJ9_floorMod_7cf53 3 (some .int), Cond.methodLink RX1 141 yX0_copyFrom, Cond.instanceMethod yX0_copyFrom, Cond.selects RX0 yX0_copyFrom yX0_copyFrom, Cond.initialized RX0, Cond.code yX0_copyFrom cX0_copyFrom 2 none, Cond.fieldLink RX0 9 "FerryFloor$State" "minute" "I", Cond.fieldLink RX0 15 "FerryFloor$State" "price" "I", Cond.fieldLink RX0 18 "FerryFloor$State" "walkers" "I", Cond.fieldLink RX0 21 "FerryFloor$State" "zeros" "[I", Cond.fieldLink RX0 25 "FerryFloor$State" "drifts" "[I", Cond.fieldLink RX0 28 "FerryFloor$State" "tares" "[I", Cond.fieldLink RX0 31 "FerryFloor$State" "tareMinutes" "[I", Cond.fieldLink RX0 34 "FerryFloor$State" "weights" "[I"]
def wsX1_swap_r3 : List Cond := [Cond.fieldLink RX0 37 "FerryFloor$State" "places" "[I", Cond.fieldLink RX0 40 "FerryFloor$State" "bookWeights" "[I", Cond.fieldLink RX0 43 "FerryFloor$State" "bookPlaces" "[I", Cond.fieldLink RX0 46 "FerryFloor$State" "accusations" "[I", Cond.fieldLink RX0 49 "FerryFloor$State" "billKilograms" "[I", Cond.fieldLink RX0 52 "FerryFloor$State" "billPrices" "[I", Cond.fieldLink RX0 55 "FerryFloor$State" "backKilograms" "[I", Cond.static yX1_copyRow, Cond.code yX1_copyRow cX1_copyRow 2 none, Cond.methodLink RX1 205 Lib.Math.min.name, Cond.static Lib.Math.min.name, Cond.initialized "java/lang/Math", Cond.code Lib.Math.min.name Lib.Math.min.code 2 (some .int), Cond.methodLink RX1 217 arraycopyName, Cond.native arraycopyName, Cond.static arraycopyName, Cond.initialized "java/lang/System", Cond.methodLink RX1 102 yX1_exchange, Cond.static yX1_exchange, Cond.code yX1_exchange cX1_exchange 4 none, Cond.methodLink RX1 106 yX1_errorWith, Cond.instanceMethod yX1_errorWith, Cond.selects RX1 yX1_errorWith yX1_errorWith, Cond.code yX1_errorWith cX1_errorWith 4 (some .int)]
def wsX1_swap_r4 : List Cond := [Cond.fieldLink RX1 27 "FerryFloor" "readings" "[I", Cond.fieldLink RX1 31 "FerryFloor" "expected" "[I", Cond.methodLink RX1 208 Lib.Math.abs.name, Cond.static Lib.Math.abs.name, Cond.code Lib.Math.abs.name Lib.Math.abs.code 1 (some .int), Cond.methodLink RX1 59 yX1_weighAll, Cond.instanceMethod yX1_weighAll, Cond.selects RX1 yX1_weighAll yX1_weighAll, Cond.code yX1_weighAll cX1_weighAll 1 none, Cond.fieldLink RX1 56 "FerryFloor$State" "zeros" "[I", Cond.fieldLink RX1 83 "FerryFloor$State" "weights" "[I", Cond.methodLink RX1 180 yX1_copyRow, Cond.methodLink RX1 201 yX1_addAllShares, Cond.static yX1_addAllShares, Cond.code yX1_addAllShares cX1_addAllShares 4 none, Cond.methodLink RX1 198 yX1_addShares, Cond.static yX1_addShares, Cond.code yX1_addShares cX1_addShares 7 none, Cond.methodLink RX1 37 yX1_isCell, Cond.static yX1_isCell, Cond.code yX1_isCell cX1_isCell 1 (some .boolean), Cond.methodLink RX1 195 yX1_nearCell, Cond.static yX1_nearCell, Cond.code yX1_nearCell cX1_nearCell 3 (some .int)]
def wsX1_swap_r5 : List Cond := [Cond.methodLink RX1 167 yX1_expectAll, Cond.instanceMethod yX1_expectAll, Cond.selects RX1 yX1_expectAll yX1_expectAll, Cond.code yX1_expectAll cX1_expectAll 2 none, Cond.fieldLink RX1 62 "FerryFloor$State" "tares" "[I", Cond.fieldLink RX1 86 "FerryFloor$State" "bookWeights" "[I"]
def wsX1_swap : List Cond := .code yX1_swap cX1_swap 3 (some .int) :: ((wsX1_swap_r1 ++ (wsX1_swap_r2 ++ (wsX1_swap_r3 ++ (wsX1_swap_r4 ++ wsX1_swap_r5)))) ++ wsX10 ++ wsX00)
def wsX1_leave_r1 : List Cond := [Cond.constant RX1 45 (-100001), Cond.constant RX1 55 (-100002), Cond.fieldLink RX1 10 "FerryFloor" "now" "LFerryFloor$State;", Cond.fieldLink RX1 71 "FerryFloor$State" "places" "[I", Cond.fieldLink RX1 89 "FerryFloor$State" "bookPlaces" "[I", Cond.constant RX1 78 (-100009), Cond.methodLink RX1 92 yX1_isWalker, Cond.instanceMethod yX1_isWalker, Cond.selects RX1 yX1_isWalker yX1_isWalker, Cond.initialized RX1, Cond.code yX1_isWalker cX1_isWalker 2 (some .boolean), Cond.fieldLink RX1 79 "FerryFloor$State" "walkers" "I", Cond.methodLink RX1 95 yX1_isAboard, Cond.instanceMethod yX1_isAboard, Cond.selects RX1 yX1_isAboard yX1_isAboard, Cond.code yX1_isAboard cX1_isAboard 2 (some .boolean), Cond.methodLink RX1 46 yX1_remember, Cond.instanceMethod yX1_remember, Cond.selects RX1 yX1_remember yX1_remember, Cond.code yX1_remember cX1_remember 2 none, Cond.fieldLink RX1 24 "FerryFloor" "kept" "I", Cond.fieldLink RX1 20 "FerryFloor" "oldest" "I", Cond.fieldLink RX1 16 "FerryFloor" "history" "[LFerryFloor$State;", Cond.methodLink RX1 138 yX1_slotAfter]
def wsX1_leave_r2 : List Cond := [Cond.instanceMethod yX1_slotAfter, Cond.selects RX1 yX1_slotAfter yX1_slotAfter, Cond.code yX1_slotAfter cX1_slotAfter 2 (some .int), Cond.methodLink RX1 214 yJ9_floorMod_7cf53, Cond.static yJ9_floorMod_7cf53, Cond.initialized RJ9, Cond.code yJ9_floorMod_7cf53 cJ9_floorMod_7cf53 3 (some .int), Cond.methodLink RX1 141 yX0_copyFrom, Cond.instanceMethod yX0_copyFrom, Cond.selects RX0 yX0_copyFrom yX0_copyFrom, Cond.initialized RX0, Cond.code yX0_copyFrom cX0_copyFrom 2 none, Cond.fieldLink RX0 9 "FerryFloor$State" "minute" "I", Cond.fieldLink RX0 15 "FerryFloor$State" "price" "I", Cond.fieldLink RX0 18 "FerryFloor$State" "walkers" "I", Cond.fieldLink RX0 21 "FerryFloor$State" "zeros" "[I", Cond.fieldLink RX0 25 "FerryFloor$State" "drifts" "[I", Cond.fieldLink RX0 28 "FerryFloor$State" "tares" "[I", Cond.fieldLink RX0 31 "FerryFloor$State" "tareMinutes" "[I", Cond.fieldLink RX0 34 "FerryFloor$State" "weights" "[I", Cond.fieldLink RX0 37 "FerryFloor$State" "places" "[I", Cond.fieldLink RX0 40 "FerryFloor$State" "bookWeights" "[I", Cond.fieldLink RX0 43 "FerryFloor$State" "bookPlaces" "[I", Cond.fieldLink RX0 46 "FerryFloor$State" "accusations" "[I"]
def wsX1_leave_r3 : List Cond := [Cond.fieldLink RX0 49 "FerryFloor$State" "billKilograms" "[I", Cond.fieldLink RX0 52 "FerryFloor$State" "billPrices" "[I", Cond.fieldLink RX0 55 "FerryFloor$State" "backKilograms" "[I", Cond.static yX1_copyRow, Cond.code yX1_copyRow cX1_copyRow 2 none, Cond.methodLink RX1 205 Lib.Math.min.name, Cond.static Lib.Math.min.name, Cond.initialized "java/lang/Math", Cond.code Lib.Math.min.name Lib.Math.min.code 2 (some .int), Cond.methodLink RX1 217 arraycopyName, Cond.native arraycopyName, Cond.static arraycopyName, Cond.initialized "java/lang/System", Cond.methodLink RX1 74 yX1_whoIsOn, Cond.static yX1_whoIsOn, Cond.code yX1_whoIsOn cX1_whoIsOn 3 (some .int)]
def wsX1_leave : List Cond := .code yX1_leave cX1_leave 5 (some .int) :: ((wsX1_leave_r1 ++ (wsX1_leave_r2 ++ wsX1_leave_r3)) ++ wsX10 ++ wsX00)
def wsX1_setPrice_r1 : List Cond := [Cond.constant RX1 45 (-100001), Cond.fieldLink RX1 10 "FerryFloor" "now" "LFerryFloor$State;", Cond.fieldLink RX1 110 "FerryFloor$State" "price" "I", Cond.methodLink RX1 41 yX1_isWithin, Cond.static yX1_isWithin, Cond.initialized RX1, Cond.code yX1_isWithin cX1_isWithin 3 (some .boolean), Cond.methodLink RX1 46 yX1_remember, Cond.instanceMethod yX1_remember, Cond.selects RX1 yX1_remember yX1_remember, Cond.code yX1_remember cX1_remember 2 none, Cond.fieldLink RX1 24 "FerryFloor" "kept" "I", Cond.fieldLink RX1 20 "FerryFloor" "oldest" "I", Cond.fieldLink RX1 16 "FerryFloor" "history" "[LFerryFloor$State;", Cond.methodLink RX1 138 yX1_slotAfter, Cond.instanceMethod yX1_slotAfter, Cond.selects RX1 yX1_slotAfter yX1_slotAfter, Cond.code yX1_slotAfter cX1_slotAfter 2 (some .int), Cond.methodLink RX1 214 yJ9_floorMod_7cf53, Cond.static yJ9_floorMod_7cf53, Cond.initialized RJ9, Cond.code yJ9_floorMod_7cf53 cJ9_floorMod_7cf53 3 (some .int), Cond.methodLink RX1 141 yX0_copyFrom, Cond.instanceMethod yX0_copyFrom]
def wsX1_setPrice_r2 : List Cond := [Cond.selects RX0 yX0_copyFrom yX0_copyFrom, Cond.initialized RX0, Cond.code yX0_copyFrom cX0_copyFrom 2 none, Cond.fieldLink RX0 9 "FerryFloor$State" "minute" "I", Cond.fieldLink RX0 15 "FerryFloor$State" "price" "I", Cond.fieldLink RX0 18 "FerryFloor$State" "walkers" "I", Cond.fieldLink RX0 21 "FerryFloor$State" "zeros" "[I", Cond.fieldLink RX0 25 "FerryFloor$State" "drifts" "[I", Cond.fieldLink RX0 28 "FerryFloor$State" "tares" "[I", Cond.fieldLink RX0 31 "FerryFloor$State" "tareMinutes" "[I", Cond.fieldLink RX0 34 "FerryFloor$State" "weights" "[I", Cond.fieldLink RX0 37 "FerryFloor$State" "places" "[I", Cond.fieldLink RX0 40 "FerryFloor$State" "bookWeights" "[I", Cond.fieldLink RX0 43 "FerryFloor$State" "bookPlaces" "[I", Cond.fieldLink RX0 46 "FerryFloor$State" "accusations" "[I", Cond.fieldLink RX0 49 "FerryFloor$State" "billKilograms" "[I", Cond.fieldLink RX0 52 "FerryFloor$State" "billPrices" "[I", Cond.fieldLink RX0 55 "FerryFloor$State" "backKilograms" "[I", Cond.static yX1_copyRow, Cond.code yX1_copyRow cX1_copyRow 2 none, Cond.methodLink RX1 205 Lib.Math.min.name, Cond.static Lib.Math.min.name, Cond.initialized "java/lang/Math", Cond.code Lib.Math.min.name Lib.Math.min.code 2 (some .int)]
def wsX1_setPrice_r3 : List Cond := [Cond.methodLink RX1 217 arraycopyName, Cond.native arraycopyName, Cond.static arraycopyName, Cond.initialized "java/lang/System"]
def wsX1_setPrice : List Cond := .code yX1_setPrice cX1_setPrice 3 (some .int) :: ((wsX1_setPrice_r1 ++ (wsX1_setPrice_r2 ++ wsX1_setPrice_r3)) ++ wsX10 ++ wsX00)
def wsX1_accuse_r1 : List Cond := [Cond.constant RX1 45 (-100001), Cond.constant RX1 55 (-100002), Cond.fieldLink RX1 10 "FerryFloor" "now" "LFerryFloor$State;", Cond.fieldLink RX1 89 "FerryFloor$State" "bookPlaces" "[I", Cond.fieldLink RX1 113 "FerryFloor$State" "accusations" "[I", Cond.methodLink RX1 98 yX1_isPair, Cond.instanceMethod yX1_isPair, Cond.selects RX1 yX1_isPair yX1_isPair, Cond.initialized RX1, Cond.code yX1_isPair cX1_isPair 3 (some .boolean), Cond.methodLink RX1 92 yX1_isWalker, Cond.instanceMethod yX1_isWalker, Cond.selects RX1 yX1_isWalker yX1_isWalker, Cond.code yX1_isWalker cX1_isWalker 2 (some .boolean), Cond.fieldLink RX1 79 "FerryFloor$State" "walkers" "I", Cond.methodLink RX1 95 yX1_isAboard, Cond.instanceMethod yX1_isAboard, Cond.selects RX1 yX1_isAboard yX1_isAboard, Cond.code yX1_isAboard cX1_isAboard 2 (some .boolean), Cond.fieldLink RX1 71 "FerryFloor$State" "places" "[I", Cond.constant RX1 78 (-100009), Cond.methodLink RX1 46 yX1_remember, Cond.instanceMethod yX1_remember, Cond.selects RX1 yX1_remember yX1_remember]
def wsX1_accuse_r2 : List Cond := [Cond.code yX1_remember cX1_remember 2 none, Cond.fieldLink RX1 24 "FerryFloor" "kept" "I", Cond.fieldLink RX1 20 "FerryFloor" "oldest" "I", Cond.fieldLink RX1 16 "FerryFloor" "history" "[LFerryFloor$State;", Cond.methodLink RX1 138 yX1_slotAfter, Cond.instanceMethod yX1_slotAfter, Cond.selects RX1 yX1_slotAfter yX1_slotAfter, Cond.code yX1_slotAfter cX1_slotAfter 2 (some .int), Cond.methodLink RX1 214 yJ9_floorMod_7cf53, Cond.static yJ9_floorMod_7cf53, Cond.initialized RJ9, Cond.code yJ9_floorMod_7cf53 cJ9_floorMod_7cf53 3 (some .int), Cond.methodLink RX1 141 yX0_copyFrom, Cond.instanceMethod yX0_copyFrom, Cond.selects RX0 yX0_copyFrom yX0_copyFrom, Cond.initialized RX0, Cond.code yX0_copyFrom cX0_copyFrom 2 none, Cond.fieldLink RX0 9 "FerryFloor$State" "minute" "I", Cond.fieldLink RX0 15 "FerryFloor$State" "price" "I", Cond.fieldLink RX0 18 "FerryFloor$State" "walkers" "I", Cond.fieldLink RX0 21 "FerryFloor$State" "zeros" "[I", Cond.fieldLink RX0 25 "FerryFloor$State" "drifts" "[I", Cond.fieldLink RX0 28 "FerryFloor$State" "tares" "[I", Cond.fieldLink RX0 31 "FerryFloor$State" "tareMinutes" "[I"]
def wsX1_accuse_r3 : List Cond := [Cond.fieldLink RX0 34 "FerryFloor$State" "weights" "[I", Cond.fieldLink RX0 37 "FerryFloor$State" "places" "[I", Cond.fieldLink RX0 40 "FerryFloor$State" "bookWeights" "[I", Cond.fieldLink RX0 43 "FerryFloor$State" "bookPlaces" "[I", Cond.fieldLink RX0 46 "FerryFloor$State" "accusations" "[I", Cond.fieldLink RX0 49 "FerryFloor$State" "billKilograms" "[I", Cond.fieldLink RX0 52 "FerryFloor$State" "billPrices" "[I", Cond.fieldLink RX0 55 "FerryFloor$State" "backKilograms" "[I", Cond.static yX1_copyRow, Cond.code yX1_copyRow cX1_copyRow 2 none, Cond.methodLink RX1 205 Lib.Math.min.name, Cond.static Lib.Math.min.name, Cond.initialized "java/lang/Math", Cond.code Lib.Math.min.name Lib.Math.min.code 2 (some .int), Cond.methodLink RX1 217 arraycopyName, Cond.native arraycopyName, Cond.static arraycopyName, Cond.initialized "java/lang/System", Cond.methodLink RX1 102 yX1_exchange, Cond.static yX1_exchange, Cond.code yX1_exchange cX1_exchange 4 none, Cond.methodLink RX1 106 yX1_errorWith, Cond.instanceMethod yX1_errorWith, Cond.selects RX1 yX1_errorWith yX1_errorWith]
def wsX1_accuse_r4 : List Cond := [Cond.code yX1_errorWith cX1_errorWith 4 (some .int), Cond.fieldLink RX1 27 "FerryFloor" "readings" "[I", Cond.fieldLink RX1 31 "FerryFloor" "expected" "[I", Cond.methodLink RX1 208 Lib.Math.abs.name, Cond.static Lib.Math.abs.name, Cond.code Lib.Math.abs.name Lib.Math.abs.code 1 (some .int), Cond.methodLink RX1 59 yX1_weighAll, Cond.instanceMethod yX1_weighAll, Cond.selects RX1 yX1_weighAll yX1_weighAll, Cond.code yX1_weighAll cX1_weighAll 1 none, Cond.fieldLink RX1 56 "FerryFloor$State" "zeros" "[I", Cond.fieldLink RX1 83 "FerryFloor$State" "weights" "[I", Cond.methodLink RX1 180 yX1_copyRow, Cond.methodLink RX1 201 yX1_addAllShares, Cond.static yX1_addAllShares, Cond.code yX1_addAllShares cX1_addAllShares 4 none, Cond.methodLink RX1 198 yX1_addShares, Cond.static yX1_addShares, Cond.code yX1_addShares cX1_addShares 7 none, Cond.methodLink RX1 37 yX1_isCell, Cond.static yX1_isCell, Cond.code yX1_isCell cX1_isCell 1 (some .boolean), Cond.methodLink RX1 195 yX1_nearCell, Cond.static yX1_nearCell]
def wsX1_accuse_r5 : List Cond := [Cond.code yX1_nearCell cX1_nearCell 3 (some .int), Cond.methodLink RX1 167 yX1_expectAll, Cond.instanceMethod yX1_expectAll, Cond.selects RX1 yX1_expectAll yX1_expectAll, Cond.code yX1_expectAll cX1_expectAll 2 none, Cond.fieldLink RX1 62 "FerryFloor$State" "tares" "[I", Cond.fieldLink RX1 86 "FerryFloor$State" "bookWeights" "[I"]
def wsX1_accuse : List Cond := .code yX1_accuse cX1_accuse 3 (some .int) :: ((wsX1_accuse_r1 ++ (wsX1_accuse_r2 ++ (wsX1_accuse_r3 ++ (wsX1_accuse_r4 ++ wsX1_accuse_r5)))) ++ wsX10 ++ wsX00)
def wsX1_estimateFor_r1 : List Cond := [Cond.fieldLink RX1 10 "FerryFloor" "now" "LFerryFloor$State;", Cond.fieldLink RX1 89 "FerryFloor$State" "bookPlaces" "[I", Cond.fieldLink RX1 86 "FerryFloor$State" "bookWeights" "[I", Cond.fieldLink RX1 27 "FerryFloor" "readings" "[I", Cond.fieldLink RX1 31 "FerryFloor" "expected" "[I", Cond.methodLink RX1 129 Lib.Math.max.name, Cond.static Lib.Math.max.name, Cond.initialized "java/lang/Math", Cond.code Lib.Math.max.name Lib.Math.max.code 2 (some .int), Cond.methodLink RX1 95 yX1_isAboard, Cond.instanceMethod yX1_isAboard, Cond.selects RX1 yX1_isAboard yX1_isAboard, Cond.initialized RX1, Cond.code yX1_isAboard cX1_isAboard 2 (some .boolean), Cond.fieldLink RX1 71 "FerryFloor$State" "places" "[I", Cond.constant RX1 78 (-100009), Cond.methodLink RX1 92 yX1_isWalker, Cond.instanceMethod yX1_isWalker, Cond.selects RX1 yX1_isWalker yX1_isWalker, Cond.code yX1_isWalker cX1_isWalker 2 (some .boolean), Cond.fieldLink RX1 79 "FerryFloor$State" "walkers" "I", Cond.methodLink RX1 59 yX1_weighAll, Cond.instanceMethod yX1_weighAll, Cond.selects RX1 yX1_weighAll yX1_weighAll]
def wsX1_estimateFor_r2 : List Cond := [Cond.code yX1_weighAll cX1_weighAll 1 none, Cond.fieldLink RX1 56 "FerryFloor$State" "zeros" "[I", Cond.fieldLink RX1 83 "FerryFloor$State" "weights" "[I", Cond.methodLink RX1 180 yX1_copyRow, Cond.static yX1_copyRow, Cond.code yX1_copyRow cX1_copyRow 2 none, Cond.methodLink RX1 205 Lib.Math.min.name, Cond.static Lib.Math.min.name, Cond.code Lib.Math.min.name Lib.Math.min.code 2 (some .int), Cond.methodLink RX1 217 arraycopyName, Cond.native arraycopyName, Cond.static arraycopyName, Cond.initialized "java/lang/System", Cond.methodLink RX1 201 yX1_addAllShares, Cond.static yX1_addAllShares, Cond.code yX1_addAllShares cX1_addAllShares 4 none, Cond.methodLink RX1 198 yX1_addShares, Cond.static yX1_addShares, Cond.code yX1_addShares cX1_addShares 7 none, Cond.methodLink RX1 37 yX1_isCell, Cond.static yX1_isCell, Cond.code yX1_isCell cX1_isCell 1 (some .boolean), Cond.methodLink RX1 195 yX1_nearCell, Cond.static yX1_nearCell]
def wsX1_estimateFor_r3 : List Cond := [Cond.code yX1_nearCell cX1_nearCell 3 (some .int), Cond.methodLink RX1 167 yX1_expectAll, Cond.instanceMethod yX1_expectAll, Cond.selects RX1 yX1_expectAll yX1_expectAll, Cond.code yX1_expectAll cX1_expectAll 2 none, Cond.fieldLink RX1 62 "FerryFloor$State" "tares" "[I"]
def wsX1_estimateFor : List Cond := .code yX1_estimateFor cX1_estimateFor 6 (some .int) :: ((wsX1_estimateFor_r1 ++ (wsX1_estimateFor_r2 ++ wsX1_estimateFor_r3)) ++ wsX10 ++ wsX00)
def wsX1_earliestTare : List Cond := .code yX1_earliestTare cX1_earliestTare 5 (some .int) :: ([.fieldLink RX1 10 "FerryFloor" "now" "LFerryFloor$State;", .fieldLink RX1 52 "FerryFloor$State" "minute" "I", .fieldLink RX1 65 "FerryFloor$State" "tareMinutes" "[I", .methodLink RX1 205 Lib.Math.min.name, .static Lib.Math.min.name, .initialized "java/lang/Math", .code Lib.Math.min.name Lib.Math.min.code 2 (some .int), .methodLink RX1 195 yX1_nearCell, .static yX1_nearCell, .initialized RX1, .code yX1_nearCell cX1_nearCell 3 (some .int), .constant RX1 78 (-100009), .methodLink RX1 37 yX1_isCell, .static yX1_isCell, .code yX1_isCell cX1_isCell 1 (some .boolean)] ++ wsX10 ++ wsX00)
def wsX1_certaintyFor_r1 : List Cond := [Cond.fieldLink RX1 10 "FerryFloor" "now" "LFerryFloor$State;", Cond.fieldLink RX1 52 "FerryFloor$State" "minute" "I", Cond.fieldLink RX1 89 "FerryFloor$State" "bookPlaces" "[I", Cond.fieldLink RX1 113 "FerryFloor$State" "accusations" "[I", Cond.methodLink RX1 129 Lib.Math.max.name, Cond.static Lib.Math.max.name, Cond.initialized "java/lang/Math", Cond.code Lib.Math.max.name Lib.Math.max.code 2 (some .int), Cond.methodLink RX1 95 yX1_isAboard, Cond.instanceMethod yX1_isAboard, Cond.selects RX1 yX1_isAboard yX1_isAboard, Cond.initialized RX1, Cond.code yX1_isAboard cX1_isAboard 2 (some .boolean), Cond.fieldLink RX1 71 "FerryFloor$State" "places" "[I", Cond.constant RX1 78 (-100009), Cond.methodLink RX1 92 yX1_isWalker, Cond.instanceMethod yX1_isWalker, Cond.selects RX1 yX1_isWalker yX1_isWalker, Cond.code yX1_isWalker cX1_isWalker 2 (some .boolean), Cond.fieldLink RX1 79 "FerryFloor$State" "walkers" "I", Cond.methodLink RX1 192 yX1_earliestTare, Cond.instanceMethod yX1_earliestTare, Cond.selects RX1 yX1_earliestTare yX1_earliestTare, Cond.code yX1_earliestTare cX1_earliestTare 5 (some .int)]
def wsX1_certaintyFor_r2 : List Cond := [Cond.fieldLink RX1 65 "FerryFloor$State" "tareMinutes" "[I", Cond.methodLink RX1 205 Lib.Math.min.name, Cond.static Lib.Math.min.name, Cond.code Lib.Math.min.name Lib.Math.min.code 2 (some .int), Cond.methodLink RX1 195 yX1_nearCell, Cond.static yX1_nearCell, Cond.code yX1_nearCell cX1_nearCell 3 (some .int), Cond.methodLink RX1 37 yX1_isCell, Cond.static yX1_isCell, Cond.code yX1_isCell cX1_isCell 1 (some .boolean)]
def wsX1_certaintyFor : List Cond := .code yX1_certaintyFor cX1_certaintyFor 4 (some .int) :: ((wsX1_certaintyFor_r1 ++ wsX1_certaintyFor_r2) ++ wsX10 ++ wsX00)
def wsX1_sumOf : List Cond := .code yX1_sumOf cX1_sumOf 3 (some .int) :: ([])
def wsX1_sumOfReadings_r1 : List Cond := [Cond.fieldLink RX1 27 "FerryFloor" "readings" "[I", Cond.methodLink RX1 59 yX1_weighAll, Cond.instanceMethod yX1_weighAll, Cond.selects RX1 yX1_weighAll yX1_weighAll, Cond.initialized RX1, Cond.code yX1_weighAll cX1_weighAll 1 none, Cond.fieldLink RX1 10 "FerryFloor" "now" "LFerryFloor$State;", Cond.fieldLink RX1 56 "FerryFloor$State" "zeros" "[I", Cond.fieldLink RX1 83 "FerryFloor$State" "weights" "[I", Cond.fieldLink RX1 71 "FerryFloor$State" "places" "[I", Cond.methodLink RX1 180 yX1_copyRow, Cond.static yX1_copyRow, Cond.code yX1_copyRow cX1_copyRow 2 none, Cond.methodLink RX1 205 Lib.Math.min.name, Cond.static Lib.Math.min.name, Cond.initialized "java/lang/Math", Cond.code Lib.Math.min.name Lib.Math.min.code 2 (some .int), Cond.methodLink RX1 217 arraycopyName, Cond.native arraycopyName, Cond.static arraycopyName, Cond.initialized "java/lang/System", Cond.methodLink RX1 201 yX1_addAllShares, Cond.static yX1_addAllShares, Cond.code yX1_addAllShares cX1_addAllShares 4 none]
def wsX1_sumOfReadings_r2 : List Cond := [Cond.methodLink RX1 198 yX1_addShares, Cond.static yX1_addShares, Cond.code yX1_addShares cX1_addShares 7 none, Cond.methodLink RX1 37 yX1_isCell, Cond.static yX1_isCell, Cond.code yX1_isCell cX1_isCell 1 (some .boolean), Cond.methodLink RX1 195 yX1_nearCell, Cond.static yX1_nearCell, Cond.code yX1_nearCell cX1_nearCell 3 (some .int), Cond.constant RX1 78 (-100009), Cond.methodLink RX1 152 yX1_sumOf, Cond.static yX1_sumOf, Cond.code yX1_sumOf cX1_sumOf 3 (some .int)]
def wsX1_sumOfReadings : List Cond := .code yX1_sumOfReadings cX1_sumOfReadings 1 (some .int) :: ((wsX1_sumOfReadings_r1 ++ wsX1_sumOfReadings_r2) ++ wsX10 ++ wsX00)
def wsX1_orZero : List Cond := .code yX1_orZero cX1_orZero 1 (some .int) :: ([.constant RX1 78 (-100009)])
def wsX1_kilogramsBilled : List Cond := .code yX1_kilogramsBilled cX1_kilogramsBilled 3 (some .int) :: ([.fieldLink RX1 10 "FerryFloor" "now" "LFerryFloor$State;", .fieldLink RX1 116 "FerryFloor$State" "billKilograms" "[I", .fieldLink RX1 126 "FerryFloor$State" "backKilograms" "[I", .methodLink RX1 211 yX1_orZero, .static yX1_orZero, .initialized RX1, .code yX1_orZero cX1_orZero 1 (some .int), .constant RX1 78 (-100009)] ++ wsX10 ++ wsX00)
def wsX1_kilogramsToBill_r1 : List Cond := [Cond.fieldLink RX1 10 "FerryFloor" "now" "LFerryFloor$State;", Cond.fieldLink RX1 62 "FerryFloor$State" "tares" "[I", Cond.methodLink RX1 205 Lib.Math.min.name, Cond.static Lib.Math.min.name, Cond.initialized "java/lang/Math", Cond.code Lib.Math.min.name Lib.Math.min.code 2 (some .int), Cond.methodLink RX1 129 Lib.Math.max.name, Cond.static Lib.Math.max.name, Cond.code Lib.Math.max.name Lib.Math.max.code 2 (some .int), Cond.methodLink RX1 174 yX1_estimateFor, Cond.instanceMethod yX1_estimateFor, Cond.selects RX1 yX1_estimateFor yX1_estimateFor, Cond.initialized RX1, Cond.code yX1_estimateFor cX1_estimateFor 6 (some .int), Cond.fieldLink RX1 89 "FerryFloor$State" "bookPlaces" "[I", Cond.fieldLink RX1 86 "FerryFloor$State" "bookWeights" "[I", Cond.fieldLink RX1 27 "FerryFloor" "readings" "[I", Cond.fieldLink RX1 31 "FerryFloor" "expected" "[I", Cond.methodLink RX1 95 yX1_isAboard, Cond.instanceMethod yX1_isAboard, Cond.selects RX1 yX1_isAboard yX1_isAboard, Cond.code yX1_isAboard cX1_isAboard 2 (some .boolean), Cond.fieldLink RX1 71 "FerryFloor$State" "places" "[I", Cond.constant RX1 78 (-100009)]
def wsX1_kilogramsToBill_r2 : List Cond := [Cond.methodLink RX1 92 yX1_isWalker, Cond.instanceMethod yX1_isWalker, Cond.selects RX1 yX1_isWalker yX1_isWalker, Cond.code yX1_isWalker cX1_isWalker 2 (some .boolean), Cond.fieldLink RX1 79 "FerryFloor$State" "walkers" "I", Cond.methodLink RX1 59 yX1_weighAll, Cond.instanceMethod yX1_weighAll, Cond.selects RX1 yX1_weighAll yX1_weighAll, Cond.code yX1_weighAll cX1_weighAll 1 none, Cond.fieldLink RX1 56 "FerryFloor$State" "zeros" "[I", Cond.fieldLink RX1 83 "FerryFloor$State" "weights" "[I", Cond.methodLink RX1 180 yX1_copyRow, Cond.static yX1_copyRow, Cond.code yX1_copyRow cX1_copyRow 2 none, Cond.methodLink RX1 217 arraycopyName, Cond.native arraycopyName, Cond.static arraycopyName, Cond.initialized "java/lang/System", Cond.methodLink RX1 201 yX1_addAllShares, Cond.static yX1_addAllShares, Cond.code yX1_addAllShares cX1_addAllShares 4 none, Cond.methodLink RX1 198 yX1_addShares, Cond.static yX1_addShares, Cond.code yX1_addShares cX1_addShares 7 none]
def wsX1_kilogramsToBill_r3 : List Cond := [Cond.methodLink RX1 37 yX1_isCell, Cond.static yX1_isCell, Cond.code yX1_isCell cX1_isCell 1 (some .boolean), Cond.methodLink RX1 195 yX1_nearCell, Cond.static yX1_nearCell, Cond.code yX1_nearCell cX1_nearCell 3 (some .int), Cond.methodLink RX1 167 yX1_expectAll, Cond.instanceMethod yX1_expectAll, Cond.selects RX1 yX1_expectAll yX1_expectAll, Cond.code yX1_expectAll cX1_expectAll 2 none, Cond.methodLink RX1 177 yX1_certaintyFor, Cond.instanceMethod yX1_certaintyFor, Cond.selects RX1 yX1_certaintyFor yX1_certaintyFor, Cond.code yX1_certaintyFor cX1_certaintyFor 4 (some .int), Cond.fieldLink RX1 52 "FerryFloor$State" "minute" "I", Cond.fieldLink RX1 113 "FerryFloor$State" "accusations" "[I", Cond.methodLink RX1 192 yX1_earliestTare, Cond.instanceMethod yX1_earliestTare, Cond.selects RX1 yX1_earliestTare yX1_earliestTare, Cond.code yX1_earliestTare cX1_earliestTare 5 (some .int), Cond.fieldLink RX1 65 "FerryFloor$State" "tareMinutes" "[I", Cond.methodLink RX1 149 yX1_sumOfReadings, Cond.instanceMethod yX1_sumOfReadings, Cond.selects RX1 yX1_sumOfReadings yX1_sumOfReadings]
def wsX1_kilogramsToBill_r4 : List Cond := [Cond.code yX1_sumOfReadings cX1_sumOfReadings 1 (some .int), Cond.methodLink RX1 152 yX1_sumOf, Cond.static yX1_sumOf, Cond.code yX1_sumOf cX1_sumOf 3 (some .int), Cond.methodLink RX1 158 yX1_kilogramsBilled, Cond.instanceMethod yX1_kilogramsBilled, Cond.selects RX1 yX1_kilogramsBilled yX1_kilogramsBilled, Cond.code yX1_kilogramsBilled cX1_kilogramsBilled 3 (some .int), Cond.fieldLink RX1 116 "FerryFloor$State" "billKilograms" "[I", Cond.fieldLink RX1 126 "FerryFloor$State" "backKilograms" "[I", Cond.methodLink RX1 211 yX1_orZero, Cond.static yX1_orZero, Cond.code yX1_orZero cX1_orZero 1 (some .int)]
def wsX1_kilogramsToBill : List Cond := .code yX1_kilogramsToBill cX1_kilogramsToBill 4 (some .int) :: ((wsX1_kilogramsToBill_r1 ++ (wsX1_kilogramsToBill_r2 ++ (wsX1_kilogramsToBill_r3 ++ wsX1_kilogramsToBill_r4))) ++ wsX10 ++ wsX00)
def wsX1_bill_r1 : List Cond := [Cond.constant RX1 45 (-100001), Cond.fieldLink RX1 10 "FerryFloor" "now" "LFerryFloor$State;", Cond.fieldLink RX1 116 "FerryFloor$State" "billKilograms" "[I", Cond.constant RX1 78 (-100009), Cond.constant RX1 55 (-100002), Cond.fieldLink RX1 123 "FerryFloor$State" "billPrices" "[I", Cond.fieldLink RX1 110 "FerryFloor$State" "price" "I", Cond.fieldLink RX1 86 "FerryFloor$State" "bookWeights" "[I", Cond.methodLink RX1 92 yX1_isWalker, Cond.instanceMethod yX1_isWalker, Cond.selects RX1 yX1_isWalker yX1_isWalker, Cond.initialized RX1, Cond.code yX1_isWalker cX1_isWalker 2 (some .boolean), Cond.fieldLink RX1 79 "FerryFloor$State" "walkers" "I", Cond.methodLink RX1 95 yX1_isAboard, Cond.instanceMethod yX1_isAboard, Cond.selects RX1 yX1_isAboard yX1_isAboard, Cond.code yX1_isAboard cX1_isAboard 2 (some .boolean), Cond.fieldLink RX1 71 "FerryFloor$State" "places" "[I", Cond.methodLink RX1 46 yX1_remember, Cond.instanceMethod yX1_remember, Cond.selects RX1 yX1_remember yX1_remember, Cond.code yX1_remember cX1_remember 2 none, Cond.fieldLink RX1 24 "FerryFloor" "kept" "I"]
def wsX1_bill_r2 : List Cond := [Cond.fieldLink RX1 20 "FerryFloor" "oldest" "I", Cond.fieldLink RX1 16 "FerryFloor" "history" "[LFerryFloor$State;", Cond.methodLink RX1 138 yX1_slotAfter, Cond.instanceMethod yX1_slotAfter, Cond.selects RX1 yX1_slotAfter yX1_slotAfter, Cond.code yX1_slotAfter cX1_slotAfter 2 (some .int), Cond.methodLink RX1 214 yJ9_floorMod_7cf53, Cond.static yJ9_floorMod_7cf53, Cond.initialized RJ9, Cond.code yJ9_floorMod_7cf53 cJ9_floorMod_7cf53 3 (some .int), Cond.methodLink RX1 141 yX0_copyFrom, Cond.instanceMethod yX0_copyFrom, Cond.selects RX0 yX0_copyFrom yX0_copyFrom, Cond.initialized RX0, Cond.code yX0_copyFrom cX0_copyFrom 2 none, Cond.fieldLink RX0 9 "FerryFloor$State" "minute" "I", Cond.fieldLink RX0 15 "FerryFloor$State" "price" "I", Cond.fieldLink RX0 18 "FerryFloor$State" "walkers" "I", Cond.fieldLink RX0 21 "FerryFloor$State" "zeros" "[I", Cond.fieldLink RX0 25 "FerryFloor$State" "drifts" "[I", Cond.fieldLink RX0 28 "FerryFloor$State" "tares" "[I", Cond.fieldLink RX0 31 "FerryFloor$State" "tareMinutes" "[I", Cond.fieldLink RX0 34 "FerryFloor$State" "weights" "[I", Cond.fieldLink RX0 37 "FerryFloor$State" "places" "[I"]
def wsX1_bill_r3 : List Cond := [Cond.fieldLink RX0 40 "FerryFloor$State" "bookWeights" "[I", Cond.fieldLink RX0 43 "FerryFloor$State" "bookPlaces" "[I", Cond.fieldLink RX0 46 "FerryFloor$State" "accusations" "[I", Cond.fieldLink RX0 49 "FerryFloor$State" "billKilograms" "[I", Cond.fieldLink RX0 52 "FerryFloor$State" "billPrices" "[I", Cond.fieldLink RX0 55 "FerryFloor$State" "backKilograms" "[I", Cond.static yX1_copyRow, Cond.code yX1_copyRow cX1_copyRow 2 none, Cond.methodLink RX1 205 Lib.Math.min.name, Cond.static Lib.Math.min.name, Cond.initialized "java/lang/Math", Cond.code Lib.Math.min.name Lib.Math.min.code 2 (some .int), Cond.methodLink RX1 217 arraycopyName, Cond.native arraycopyName, Cond.static arraycopyName, Cond.initialized "java/lang/System", Cond.methodLink RX1 119 yX1_kilogramsToBill, Cond.instanceMethod yX1_kilogramsToBill, Cond.selects RX1 yX1_kilogramsToBill yX1_kilogramsToBill, Cond.code yX1_kilogramsToBill cX1_kilogramsToBill 4 (some .int), Cond.fieldLink RX1 62 "FerryFloor$State" "tares" "[I", Cond.methodLink RX1 129 Lib.Math.max.name, Cond.static Lib.Math.max.name, Cond.code Lib.Math.max.name Lib.Math.max.code 2 (some .int)]
def wsX1_bill_r4 : List Cond := [Cond.methodLink RX1 174 yX1_estimateFor, Cond.instanceMethod yX1_estimateFor, Cond.selects RX1 yX1_estimateFor yX1_estimateFor, Cond.code yX1_estimateFor cX1_estimateFor 6 (some .int), Cond.fieldLink RX1 89 "FerryFloor$State" "bookPlaces" "[I", Cond.fieldLink RX1 27 "FerryFloor" "readings" "[I", Cond.fieldLink RX1 31 "FerryFloor" "expected" "[I", Cond.methodLink RX1 59 yX1_weighAll, Cond.instanceMethod yX1_weighAll, Cond.selects RX1 yX1_weighAll yX1_weighAll, Cond.code yX1_weighAll cX1_weighAll 1 none, Cond.fieldLink RX1 56 "FerryFloor$State" "zeros" "[I", Cond.fieldLink RX1 83 "FerryFloor$State" "weights" "[I", Cond.methodLink RX1 180 yX1_copyRow, Cond.methodLink RX1 201 yX1_addAllShares, Cond.static yX1_addAllShares, Cond.code yX1_addAllShares cX1_addAllShares 4 none, Cond.methodLink RX1 198 yX1_addShares, Cond.static yX1_addShares, Cond.code yX1_addShares cX1_addShares 7 none, Cond.methodLink RX1 37 yX1_isCell, Cond.static yX1_isCell, Cond.code yX1_isCell cX1_isCell 1 (some .boolean), Cond.methodLink RX1 195 yX1_nearCell]
def wsX1_bill_r5 : List Cond := [Cond.static yX1_nearCell, Cond.code yX1_nearCell cX1_nearCell 3 (some .int), Cond.methodLink RX1 167 yX1_expectAll, Cond.instanceMethod yX1_expectAll, Cond.selects RX1 yX1_expectAll yX1_expectAll, Cond.code yX1_expectAll cX1_expectAll 2 none, Cond.methodLink RX1 177 yX1_certaintyFor, Cond.instanceMethod yX1_certaintyFor, Cond.selects RX1 yX1_certaintyFor yX1_certaintyFor, Cond.code yX1_certaintyFor cX1_certaintyFor 4 (some .int), Cond.fieldLink RX1 52 "FerryFloor$State" "minute" "I", Cond.fieldLink RX1 113 "FerryFloor$State" "accusations" "[I", Cond.methodLink RX1 192 yX1_earliestTare, Cond.instanceMethod yX1_earliestTare, Cond.selects RX1 yX1_earliestTare yX1_earliestTare, Cond.code yX1_earliestTare cX1_earliestTare 5 (some .int), Cond.fieldLink RX1 65 "FerryFloor$State" "tareMinutes" "[I", Cond.methodLink RX1 149 yX1_sumOfReadings, Cond.instanceMethod yX1_sumOfReadings, Cond.selects RX1 yX1_sumOfReadings yX1_sumOfReadings, Cond.code yX1_sumOfReadings cX1_sumOfReadings 1 (some .int), Cond.methodLink RX1 152 yX1_sumOf, Cond.static yX1_sumOf, Cond.code yX1_sumOf cX1_sumOf 3 (some .int)]
def wsX1_bill_r6 : List Cond := [Cond.methodLink RX1 158 yX1_kilogramsBilled, Cond.instanceMethod yX1_kilogramsBilled, Cond.selects RX1 yX1_kilogramsBilled yX1_kilogramsBilled, Cond.code yX1_kilogramsBilled cX1_kilogramsBilled 3 (some .int), Cond.fieldLink RX1 126 "FerryFloor$State" "backKilograms" "[I", Cond.methodLink RX1 211 yX1_orZero, Cond.static yX1_orZero, Cond.code yX1_orZero cX1_orZero 1 (some .int)]
def wsX1_bill : List Cond := .code yX1_bill cX1_bill 3 (some .int) :: ((wsX1_bill_r1 ++ (wsX1_bill_r2 ++ (wsX1_bill_r3 ++ (wsX1_bill_r4 ++ (wsX1_bill_r5 ++ wsX1_bill_r6))))) ++ wsX10 ++ wsX00)
def wsX1_backAmount : List Cond := .code yX1_backAmount cX1_backAmount 2 (some .int) :: ([.fieldLink RX1 10 "FerryFloor" "now" "LFerryFloor$State;", .fieldLink RX1 126 "FerryFloor$State" "backKilograms" "[I", .fieldLink RX1 123 "FerryFloor$State" "billPrices" "[I", .methodLink RX1 92 yX1_isWalker, .instanceMethod yX1_isWalker, .selects RX1 yX1_isWalker yX1_isWalker, .initialized RX1, .code yX1_isWalker cX1_isWalker 2 (some .boolean), .fieldLink RX1 79 "FerryFloor$State" "walkers" "I", .methodLink RX1 211 yX1_orZero, .static yX1_orZero, .code yX1_orZero cX1_orZero 1 (some .int), .constant RX1 78 (-100009)] ++ wsX10 ++ wsX00)
def wsX1_complain_r1 : List Cond := [Cond.constant RX1 45 (-100001), Cond.fieldLink RX1 10 "FerryFloor" "now" "LFerryFloor$State;", Cond.fieldLink RX1 116 "FerryFloor$State" "billKilograms" "[I", Cond.constant RX1 78 (-100009), Cond.fieldLink RX1 126 "FerryFloor$State" "backKilograms" "[I", Cond.constant RX1 55 (-100002), Cond.fieldLink RX1 83 "FerryFloor$State" "weights" "[I", Cond.methodLink RX1 129 Lib.Math.max.name, Cond.static Lib.Math.max.name, Cond.initialized "java/lang/Math", Cond.code Lib.Math.max.name Lib.Math.max.code 2 (some .int), Cond.methodLink RX1 92 yX1_isWalker, Cond.instanceMethod yX1_isWalker, Cond.selects RX1 yX1_isWalker yX1_isWalker, Cond.initialized RX1, Cond.code yX1_isWalker cX1_isWalker 2 (some .boolean), Cond.fieldLink RX1 79 "FerryFloor$State" "walkers" "I", Cond.methodLink RX1 95 yX1_isAboard, Cond.instanceMethod yX1_isAboard, Cond.selects RX1 yX1_isAboard yX1_isAboard, Cond.code yX1_isAboard cX1_isAboard 2 (some .boolean), Cond.fieldLink RX1 71 "FerryFloor$State" "places" "[I", Cond.methodLink RX1 46 yX1_remember, Cond.instanceMethod yX1_remember]
def wsX1_complain_r2 : List Cond := [Cond.selects RX1 yX1_remember yX1_remember, Cond.code yX1_remember cX1_remember 2 none, Cond.fieldLink RX1 24 "FerryFloor" "kept" "I", Cond.fieldLink RX1 20 "FerryFloor" "oldest" "I", Cond.fieldLink RX1 16 "FerryFloor" "history" "[LFerryFloor$State;", Cond.methodLink RX1 138 yX1_slotAfter, Cond.instanceMethod yX1_slotAfter, Cond.selects RX1 yX1_slotAfter yX1_slotAfter, Cond.code yX1_slotAfter cX1_slotAfter 2 (some .int), Cond.methodLink RX1 214 yJ9_floorMod_7cf53, Cond.static yJ9_floorMod_7cf53, Cond.initialized RJ9, Cond.code yJ9_floorMod_7cf53 cJ9_floorMod_7cf53 3 (some .int), Cond.methodLink RX1 141 yX0_copyFrom, Cond.instanceMethod yX0_copyFrom, Cond.selects RX0 yX0_copyFrom yX0_copyFrom, Cond.initialized RX0, Cond.code yX0_copyFrom cX0_copyFrom 2 none, Cond.fieldLink RX0 9 "FerryFloor$State" "minute" "I", Cond.fieldLink RX0 15 "FerryFloor$State" "price" "I", Cond.fieldLink RX0 18 "FerryFloor$State" "walkers" "I", Cond.fieldLink RX0 21 "FerryFloor$State" "zeros" "[I", Cond.fieldLink RX0 25 "FerryFloor$State" "drifts" "[I", Cond.fieldLink RX0 28 "FerryFloor$State" "tares" "[I"]
def wsX1_complain_r3 : List Cond := [Cond.fieldLink RX0 31 "FerryFloor$State" "tareMinutes" "[I", Cond.fieldLink RX0 34 "FerryFloor$State" "weights" "[I", Cond.fieldLink RX0 37 "FerryFloor$State" "places" "[I", Cond.fieldLink RX0 40 "FerryFloor$State" "bookWeights" "[I", Cond.fieldLink RX0 43 "FerryFloor$State" "bookPlaces" "[I", Cond.fieldLink RX0 46 "FerryFloor$State" "accusations" "[I", Cond.fieldLink RX0 49 "FerryFloor$State" "billKilograms" "[I", Cond.fieldLink RX0 52 "FerryFloor$State" "billPrices" "[I", Cond.fieldLink RX0 55 "FerryFloor$State" "backKilograms" "[I", Cond.static yX1_copyRow, Cond.code yX1_copyRow cX1_copyRow 2 none, Cond.methodLink RX1 205 Lib.Math.min.name, Cond.static Lib.Math.min.name, Cond.code Lib.Math.min.name Lib.Math.min.code 2 (some .int), Cond.methodLink RX1 217 arraycopyName, Cond.native arraycopyName, Cond.static arraycopyName, Cond.initialized "java/lang/System", Cond.methodLink RX1 135 yX1_backAmount, Cond.instanceMethod yX1_backAmount, Cond.selects RX1 yX1_backAmount yX1_backAmount, Cond.code yX1_backAmount cX1_backAmount 2 (some .int), Cond.fieldLink RX1 123 "FerryFloor$State" "billPrices" "[I", Cond.methodLink RX1 211 yX1_orZero]
def wsX1_complain_r4 : List Cond := [Cond.static yX1_orZero, Cond.code yX1_orZero cX1_orZero 1 (some .int)]
def wsX1_complain : List Cond := .code yX1_complain cX1_complain 2 (some .int) :: ((wsX1_complain_r1 ++ (wsX1_complain_r2 ++ (wsX1_complain_r3 ++ wsX1_complain_r4))) ++ wsX10 ++ wsX00)
def wsX1_undo_r1 : List Cond := [Cond.fieldLink RX1 24 "FerryFloor" "kept" "I", Cond.constant RX1 55 (-100002), Cond.fieldLink RX1 16 "FerryFloor" "history" "[LFerryFloor$State;", Cond.fieldLink RX1 10 "FerryFloor" "now" "LFerryFloor$State;", Cond.methodLink RX1 138 yX1_slotAfter, Cond.instanceMethod yX1_slotAfter, Cond.selects RX1 yX1_slotAfter yX1_slotAfter, Cond.initialized RX1, Cond.code yX1_slotAfter cX1_slotAfter 2 (some .int), Cond.fieldLink RX1 20 "FerryFloor" "oldest" "I", Cond.methodLink RX1 214 yJ9_floorMod_7cf53, Cond.static yJ9_floorMod_7cf53, Cond.initialized RJ9, Cond.code yJ9_floorMod_7cf53 cJ9_floorMod_7cf53 3 (some .int), Cond.methodLink RX1 141 yX0_copyFrom, Cond.instanceMethod yX0_copyFrom, Cond.selects RX0 yX0_copyFrom yX0_copyFrom, Cond.initialized RX0, Cond.code yX0_copyFrom cX0_copyFrom 2 none, Cond.fieldLink RX0 9 "FerryFloor$State" "minute" "I", Cond.fieldLink RX0 15 "FerryFloor$State" "price" "I", Cond.fieldLink RX0 18 "FerryFloor$State" "walkers" "I", Cond.fieldLink RX0 21 "FerryFloor$State" "zeros" "[I", Cond.fieldLink RX0 25 "FerryFloor$State" "drifts" "[I"]
def wsX1_undo_r2 : List Cond := [Cond.fieldLink RX0 28 "FerryFloor$State" "tares" "[I", Cond.fieldLink RX0 31 "FerryFloor$State" "tareMinutes" "[I", Cond.fieldLink RX0 34 "FerryFloor$State" "weights" "[I", Cond.fieldLink RX0 37 "FerryFloor$State" "places" "[I", Cond.fieldLink RX0 40 "FerryFloor$State" "bookWeights" "[I", Cond.fieldLink RX0 43 "FerryFloor$State" "bookPlaces" "[I", Cond.fieldLink RX0 46 "FerryFloor$State" "accusations" "[I", Cond.fieldLink RX0 49 "FerryFloor$State" "billKilograms" "[I", Cond.fieldLink RX0 52 "FerryFloor$State" "billPrices" "[I", Cond.fieldLink RX0 55 "FerryFloor$State" "backKilograms" "[I", Cond.static yX1_copyRow, Cond.code yX1_copyRow cX1_copyRow 2 none, Cond.methodLink RX1 205 Lib.Math.min.name, Cond.static Lib.Math.min.name, Cond.initialized "java/lang/Math", Cond.code Lib.Math.min.name Lib.Math.min.code 2 (some .int), Cond.methodLink RX1 217 arraycopyName, Cond.native arraycopyName, Cond.static arraycopyName, Cond.initialized "java/lang/System"]
def wsX1_undo : List Cond := .code yX1_undo cX1_undo 2 (some .int) :: ((wsX1_undo_r1 ++ wsX1_undo_r2) ++ wsX10 ++ wsX00)
def wsX1_walkersAboard : List Cond := .code yX1_walkersAboard cX1_walkersAboard 3 (some .int) :: ([.methodLink RX1 95 yX1_isAboard, .instanceMethod yX1_isAboard, .selects RX1 yX1_isAboard yX1_isAboard, .initialized RX1, .code yX1_isAboard cX1_isAboard 2 (some .boolean), .fieldLink RX1 10 "FerryFloor" "now" "LFerryFloor$State;", .fieldLink RX1 71 "FerryFloor$State" "places" "[I", .constant RX1 78 (-100009), .methodLink RX1 92 yX1_isWalker, .instanceMethod yX1_isWalker, .selects RX1 yX1_isWalker yX1_isWalker, .code yX1_isWalker cX1_isWalker 2 (some .boolean), .fieldLink RX1 79 "FerryFloor$State" "walkers" "I"] ++ wsX10 ++ wsX00)
def wsX1_walkersMisplaced : List Cond := .code yX1_walkersMisplaced cX1_walkersMisplaced 3 (some .int) :: ([.fieldLink RX1 10 "FerryFloor" "now" "LFerryFloor$State;", .fieldLink RX1 71 "FerryFloor$State" "places" "[I", .fieldLink RX1 89 "FerryFloor$State" "bookPlaces" "[I"] ++ wsX10 ++ wsX00)
def wsX1_billAmount : List Cond := .code yX1_billAmount cX1_billAmount 2 (some .int) :: ([.fieldLink RX1 10 "FerryFloor" "now" "LFerryFloor$State;", .fieldLink RX1 116 "FerryFloor$State" "billKilograms" "[I", .fieldLink RX1 123 "FerryFloor$State" "billPrices" "[I", .methodLink RX1 92 yX1_isWalker, .instanceMethod yX1_isWalker, .selects RX1 yX1_isWalker yX1_isWalker, .initialized RX1, .code yX1_isWalker cX1_isWalker 2 (some .boolean), .fieldLink RX1 79 "FerryFloor$State" "walkers" "I", .methodLink RX1 211 yX1_orZero, .static yX1_orZero, .code yX1_orZero cX1_orZero 1 (some .int), .constant RX1 78 (-100009)] ++ wsX10 ++ wsX00)
def wsX1_sumOfBillAmounts : List Cond := .code yX1_sumOfBillAmounts cX1_sumOfBillAmounts 3 (some .int) :: ([.methodLink RX1 171 yX1_billAmount, .instanceMethod yX1_billAmount, .selects RX1 yX1_billAmount yX1_billAmount, .initialized RX1, .code yX1_billAmount cX1_billAmount 2 (some .int), .fieldLink RX1 10 "FerryFloor" "now" "LFerryFloor$State;", .fieldLink RX1 116 "FerryFloor$State" "billKilograms" "[I", .fieldLink RX1 123 "FerryFloor$State" "billPrices" "[I", .methodLink RX1 92 yX1_isWalker, .instanceMethod yX1_isWalker, .selects RX1 yX1_isWalker yX1_isWalker, .code yX1_isWalker cX1_isWalker 2 (some .boolean), .fieldLink RX1 79 "FerryFloor$State" "walkers" "I", .methodLink RX1 211 yX1_orZero, .static yX1_orZero, .code yX1_orZero cX1_orZero 1 (some .int), .constant RX1 78 (-100009)] ++ wsX10 ++ wsX00)
def wsX1_sumOfBackAmounts : List Cond := .code yX1_sumOfBackAmounts cX1_sumOfBackAmounts 3 (some .int) :: ([.methodLink RX1 135 yX1_backAmount, .instanceMethod yX1_backAmount, .selects RX1 yX1_backAmount yX1_backAmount, .initialized RX1, .code yX1_backAmount cX1_backAmount 2 (some .int), .fieldLink RX1 10 "FerryFloor" "now" "LFerryFloor$State;", .fieldLink RX1 126 "FerryFloor$State" "backKilograms" "[I", .fieldLink RX1 123 "FerryFloor$State" "billPrices" "[I", .methodLink RX1 92 yX1_isWalker, .instanceMethod yX1_isWalker, .selects RX1 yX1_isWalker yX1_isWalker, .code yX1_isWalker cX1_isWalker 2 (some .boolean), .fieldLink RX1 79 "FerryFloor$State" "walkers" "I", .methodLink RX1 211 yX1_orZero, .static yX1_orZero, .code yX1_orZero cX1_orZero 1 (some .int), .constant RX1 78 (-100009)] ++ wsX10 ++ wsX00)
def wsX1_count_r1 : List Cond := [Cond.fieldLink RX1 10 "FerryFloor" "now" "LFerryFloor$State;", Cond.fieldLink RX1 52 "FerryFloor$State" "minute" "I", Cond.fieldLink RX1 79 "FerryFloor$State" "walkers" "I", Cond.fieldLink RX1 24 "FerryFloor" "kept" "I", Cond.fieldLink RX1 89 "FerryFloor$State" "bookPlaces" "[I", Cond.fieldLink RX1 62 "FerryFloor$State" "tares" "[I", Cond.fieldLink RX1 110 "FerryFloor$State" "price" "I", Cond.constant RX1 45 (-100001), Cond.methodLink RX1 145 yX1_walkersAboard, Cond.instanceMethod yX1_walkersAboard, Cond.selects RX1 yX1_walkersAboard yX1_walkersAboard, Cond.initialized RX1, Cond.code yX1_walkersAboard cX1_walkersAboard 3 (some .int), Cond.methodLink RX1 95 yX1_isAboard, Cond.instanceMethod yX1_isAboard, Cond.selects RX1 yX1_isAboard yX1_isAboard, Cond.code yX1_isAboard cX1_isAboard 2 (some .boolean), Cond.fieldLink RX1 71 "FerryFloor$State" "places" "[I", Cond.constant RX1 78 (-100009), Cond.methodLink RX1 92 yX1_isWalker, Cond.instanceMethod yX1_isWalker, Cond.selects RX1 yX1_isWalker yX1_isWalker, Cond.code yX1_isWalker cX1_isWalker 2 (some .boolean), Cond.methodLink RX1 106 yX1_errorWith]
def wsX1_count_r2 : List Cond := [Cond.instanceMethod yX1_errorWith, Cond.selects RX1 yX1_errorWith yX1_errorWith, Cond.code yX1_errorWith cX1_errorWith 4 (some .int), Cond.fieldLink RX1 27 "FerryFloor" "readings" "[I", Cond.fieldLink RX1 31 "FerryFloor" "expected" "[I", Cond.methodLink RX1 208 Lib.Math.abs.name, Cond.static Lib.Math.abs.name, Cond.initialized "java/lang/Math", Cond.code Lib.Math.abs.name Lib.Math.abs.code 1 (some .int), Cond.methodLink RX1 59 yX1_weighAll, Cond.instanceMethod yX1_weighAll, Cond.selects RX1 yX1_weighAll yX1_weighAll, Cond.code yX1_weighAll cX1_weighAll 1 none, Cond.fieldLink RX1 56 "FerryFloor$State" "zeros" "[I", Cond.fieldLink RX1 83 "FerryFloor$State" "weights" "[I", Cond.methodLink RX1 180 yX1_copyRow, Cond.static yX1_copyRow, Cond.code yX1_copyRow cX1_copyRow 2 none, Cond.methodLink RX1 205 Lib.Math.min.name, Cond.static Lib.Math.min.name, Cond.code Lib.Math.min.name Lib.Math.min.code 2 (some .int), Cond.methodLink RX1 217 arraycopyName, Cond.native arraycopyName, Cond.static arraycopyName]
def wsX1_count_r3 : List Cond := [Cond.initialized "java/lang/System", Cond.methodLink RX1 201 yX1_addAllShares, Cond.static yX1_addAllShares, Cond.code yX1_addAllShares cX1_addAllShares 4 none, Cond.methodLink RX1 198 yX1_addShares, Cond.static yX1_addShares, Cond.code yX1_addShares cX1_addShares 7 none, Cond.methodLink RX1 37 yX1_isCell, Cond.static yX1_isCell, Cond.code yX1_isCell cX1_isCell 1 (some .boolean), Cond.methodLink RX1 195 yX1_nearCell, Cond.static yX1_nearCell, Cond.code yX1_nearCell cX1_nearCell 3 (some .int), Cond.methodLink RX1 167 yX1_expectAll, Cond.instanceMethod yX1_expectAll, Cond.selects RX1 yX1_expectAll yX1_expectAll, Cond.code yX1_expectAll cX1_expectAll 2 none, Cond.fieldLink RX1 86 "FerryFloor$State" "bookWeights" "[I", Cond.methodLink RX1 149 yX1_sumOfReadings, Cond.instanceMethod yX1_sumOfReadings, Cond.selects RX1 yX1_sumOfReadings yX1_sumOfReadings, Cond.code yX1_sumOfReadings cX1_sumOfReadings 1 (some .int), Cond.methodLink RX1 152 yX1_sumOf, Cond.static yX1_sumOf]
def wsX1_count_r4 : List Cond := [Cond.code yX1_sumOf cX1_sumOf 3 (some .int), Cond.methodLink RX1 155 yX1_walkersMisplaced, Cond.instanceMethod yX1_walkersMisplaced, Cond.selects RX1 yX1_walkersMisplaced yX1_walkersMisplaced, Cond.code yX1_walkersMisplaced cX1_walkersMisplaced 3 (some .int), Cond.methodLink RX1 158 yX1_kilogramsBilled, Cond.instanceMethod yX1_kilogramsBilled, Cond.selects RX1 yX1_kilogramsBilled yX1_kilogramsBilled, Cond.code yX1_kilogramsBilled cX1_kilogramsBilled 3 (some .int), Cond.fieldLink RX1 116 "FerryFloor$State" "billKilograms" "[I", Cond.fieldLink RX1 126 "FerryFloor$State" "backKilograms" "[I", Cond.methodLink RX1 211 yX1_orZero, Cond.static yX1_orZero, Cond.code yX1_orZero cX1_orZero 1 (some .int), Cond.methodLink RX1 161 yX1_sumOfBillAmounts, Cond.instanceMethod yX1_sumOfBillAmounts, Cond.selects RX1 yX1_sumOfBillAmounts yX1_sumOfBillAmounts, Cond.code yX1_sumOfBillAmounts cX1_sumOfBillAmounts 3 (some .int), Cond.methodLink RX1 171 yX1_billAmount, Cond.instanceMethod yX1_billAmount, Cond.selects RX1 yX1_billAmount yX1_billAmount, Cond.code yX1_billAmount cX1_billAmount 2 (some .int), Cond.fieldLink RX1 123 "FerryFloor$State" "billPrices" "[I", Cond.methodLink RX1 164 yX1_sumOfBackAmounts]
def wsX1_count_r5 : List Cond := [Cond.instanceMethod yX1_sumOfBackAmounts, Cond.selects RX1 yX1_sumOfBackAmounts yX1_sumOfBackAmounts, Cond.code yX1_sumOfBackAmounts cX1_sumOfBackAmounts 3 (some .int), Cond.methodLink RX1 135 yX1_backAmount, Cond.instanceMethod yX1_backAmount, Cond.selects RX1 yX1_backAmount yX1_backAmount, Cond.code yX1_backAmount cX1_backAmount 2 (some .int)]
def wsX1_count : List Cond := .code yX1_count cX1_count 2 (some .int) :: ((wsX1_count_r1 ++ (wsX1_count_r2 ++ (wsX1_count_r3 ++ (wsX1_count_r4 ++ wsX1_count_r5)))) ++ wsX10 ++ wsX00)
def wsX1_cell_r1 : List Cond := [Cond.constant RX1 45 (-100001), Cond.fieldLink RX1 27 "FerryFloor" "readings" "[I", Cond.fieldLink RX1 10 "FerryFloor" "now" "LFerryFloor$State;", Cond.fieldLink RX1 56 "FerryFloor$State" "zeros" "[I", Cond.fieldLink RX1 49 "FerryFloor$State" "drifts" "[I", Cond.fieldLink RX1 62 "FerryFloor$State" "tares" "[I", Cond.fieldLink RX1 65 "FerryFloor$State" "tareMinutes" "[I", Cond.fieldLink RX1 89 "FerryFloor$State" "bookPlaces" "[I", Cond.fieldLink RX1 31 "FerryFloor" "expected" "[I", Cond.fieldLink RX1 71 "FerryFloor$State" "places" "[I", Cond.methodLink RX1 37 yX1_isCell, Cond.static yX1_isCell, Cond.initialized RX1, Cond.code yX1_isCell cX1_isCell 1 (some .boolean), Cond.methodLink RX1 59 yX1_weighAll, Cond.instanceMethod yX1_weighAll, Cond.selects RX1 yX1_weighAll yX1_weighAll, Cond.code yX1_weighAll cX1_weighAll 1 none, Cond.fieldLink RX1 83 "FerryFloor$State" "weights" "[I", Cond.methodLink RX1 180 yX1_copyRow, Cond.static yX1_copyRow, Cond.code yX1_copyRow cX1_copyRow 2 none, Cond.methodLink RX1 205 Lib.Math.min.name, Cond.static Lib.Math.min.name]
def wsX1_cell_r2 : List Cond := [Cond.initialized "java/lang/Math", Cond.code Lib.Math.min.name Lib.Math.min.code 2 (some .int), Cond.methodLink RX1 217 arraycopyName, Cond.native arraycopyName, Cond.static arraycopyName, Cond.initialized "java/lang/System", Cond.methodLink RX1 201 yX1_addAllShares, Cond.static yX1_addAllShares, Cond.code yX1_addAllShares cX1_addAllShares 4 none, Cond.methodLink RX1 198 yX1_addShares, Cond.static yX1_addShares, Cond.code yX1_addShares cX1_addShares 7 none, Cond.methodLink RX1 195 yX1_nearCell, Cond.static yX1_nearCell, Cond.code yX1_nearCell cX1_nearCell 3 (some .int), Cond.constant RX1 78 (-100009), Cond.methodLink RX1 167 yX1_expectAll, Cond.instanceMethod yX1_expectAll, Cond.selects RX1 yX1_expectAll yX1_expectAll, Cond.code yX1_expectAll cX1_expectAll 2 none, Cond.fieldLink RX1 86 "FerryFloor$State" "bookWeights" "[I", Cond.methodLink RX1 74 yX1_whoIsOn, Cond.static yX1_whoIsOn, Cond.code yX1_whoIsOn cX1_whoIsOn 3 (some .int)]
def wsX1_cell : List Cond := .code yX1_cell cX1_cell 3 (some .int) :: ((wsX1_cell_r1 ++ wsX1_cell_r2) ++ wsX10 ++ wsX00)
def wsX1_walker_r1 : List Cond := [Cond.constant RX1 45 (-100001), Cond.fieldLink RX1 10 "FerryFloor" "now" "LFerryFloor$State;", Cond.fieldLink RX1 83 "FerryFloor$State" "weights" "[I", Cond.fieldLink RX1 71 "FerryFloor$State" "places" "[I", Cond.fieldLink RX1 86 "FerryFloor$State" "bookWeights" "[I", Cond.constant RX1 78 (-100009), Cond.fieldLink RX1 89 "FerryFloor$State" "bookPlaces" "[I", Cond.fieldLink RX1 113 "FerryFloor$State" "accusations" "[I", Cond.fieldLink RX1 116 "FerryFloor$State" "billKilograms" "[I", Cond.methodLink RX1 92 yX1_isWalker, Cond.instanceMethod yX1_isWalker, Cond.selects RX1 yX1_isWalker yX1_isWalker, Cond.initialized RX1, Cond.code yX1_isWalker cX1_isWalker 2 (some .boolean), Cond.fieldLink RX1 79 "FerryFloor$State" "walkers" "I", Cond.methodLink RX1 95 yX1_isAboard, Cond.instanceMethod yX1_isAboard, Cond.selects RX1 yX1_isAboard yX1_isAboard, Cond.code yX1_isAboard cX1_isAboard 2 (some .boolean), Cond.methodLink RX1 171 yX1_billAmount, Cond.instanceMethod yX1_billAmount, Cond.selects RX1 yX1_billAmount yX1_billAmount, Cond.code yX1_billAmount cX1_billAmount 2 (some .int), Cond.fieldLink RX1 123 "FerryFloor$State" "billPrices" "[I"]
def wsX1_walker_r2 : List Cond := [Cond.methodLink RX1 211 yX1_orZero, Cond.static yX1_orZero, Cond.code yX1_orZero cX1_orZero 1 (some .int), Cond.methodLink RX1 135 yX1_backAmount, Cond.instanceMethod yX1_backAmount, Cond.selects RX1 yX1_backAmount yX1_backAmount, Cond.code yX1_backAmount cX1_backAmount 2 (some .int), Cond.fieldLink RX1 126 "FerryFloor$State" "backKilograms" "[I"]
def wsX1_walker : List Cond := .code yX1_walker cX1_walker 3 (some .int) :: ((wsX1_walker_r1 ++ wsX1_walker_r2) ++ wsX10 ++ wsX00)
def wsX1_estimate_r1 : List Cond := [Cond.constant RX1 45 (-100001), Cond.constant RX1 55 (-100002), Cond.methodLink RX1 92 yX1_isWalker, Cond.instanceMethod yX1_isWalker, Cond.selects RX1 yX1_isWalker yX1_isWalker, Cond.initialized RX1, Cond.code yX1_isWalker cX1_isWalker 2 (some .boolean), Cond.fieldLink RX1 10 "FerryFloor" "now" "LFerryFloor$State;", Cond.fieldLink RX1 79 "FerryFloor$State" "walkers" "I", Cond.methodLink RX1 95 yX1_isAboard, Cond.instanceMethod yX1_isAboard, Cond.selects RX1 yX1_isAboard yX1_isAboard, Cond.code yX1_isAboard cX1_isAboard 2 (some .boolean), Cond.fieldLink RX1 71 "FerryFloor$State" "places" "[I", Cond.constant RX1 78 (-100009), Cond.methodLink RX1 174 yX1_estimateFor, Cond.instanceMethod yX1_estimateFor, Cond.selects RX1 yX1_estimateFor yX1_estimateFor, Cond.code yX1_estimateFor cX1_estimateFor 6 (some .int), Cond.fieldLink RX1 89 "FerryFloor$State" "bookPlaces" "[I", Cond.fieldLink RX1 86 "FerryFloor$State" "bookWeights" "[I", Cond.fieldLink RX1 27 "FerryFloor" "readings" "[I", Cond.fieldLink RX1 31 "FerryFloor" "expected" "[I", Cond.methodLink RX1 129 Lib.Math.max.name]
def wsX1_estimate_r2 : List Cond := [Cond.static Lib.Math.max.name, Cond.initialized "java/lang/Math", Cond.code Lib.Math.max.name Lib.Math.max.code 2 (some .int), Cond.methodLink RX1 59 yX1_weighAll, Cond.instanceMethod yX1_weighAll, Cond.selects RX1 yX1_weighAll yX1_weighAll, Cond.code yX1_weighAll cX1_weighAll 1 none, Cond.fieldLink RX1 56 "FerryFloor$State" "zeros" "[I", Cond.fieldLink RX1 83 "FerryFloor$State" "weights" "[I", Cond.methodLink RX1 180 yX1_copyRow, Cond.static yX1_copyRow, Cond.code yX1_copyRow cX1_copyRow 2 none, Cond.methodLink RX1 205 Lib.Math.min.name, Cond.static Lib.Math.min.name, Cond.code Lib.Math.min.name Lib.Math.min.code 2 (some .int), Cond.methodLink RX1 217 arraycopyName, Cond.native arraycopyName, Cond.static arraycopyName, Cond.initialized "java/lang/System", Cond.methodLink RX1 201 yX1_addAllShares, Cond.static yX1_addAllShares, Cond.code yX1_addAllShares cX1_addAllShares 4 none, Cond.methodLink RX1 198 yX1_addShares, Cond.static yX1_addShares]
def wsX1_estimate_r3 : List Cond := [Cond.code yX1_addShares cX1_addShares 7 none, Cond.methodLink RX1 37 yX1_isCell, Cond.static yX1_isCell, Cond.code yX1_isCell cX1_isCell 1 (some .boolean), Cond.methodLink RX1 195 yX1_nearCell, Cond.static yX1_nearCell, Cond.code yX1_nearCell cX1_nearCell 3 (some .int), Cond.methodLink RX1 167 yX1_expectAll, Cond.instanceMethod yX1_expectAll, Cond.selects RX1 yX1_expectAll yX1_expectAll, Cond.code yX1_expectAll cX1_expectAll 2 none, Cond.fieldLink RX1 62 "FerryFloor$State" "tares" "[I"]
def wsX1_estimate : List Cond := .code yX1_estimate cX1_estimate 2 (some .int) :: ((wsX1_estimate_r1 ++ (wsX1_estimate_r2 ++ wsX1_estimate_r3)) ++ wsX10 ++ wsX00)
def wsX1_certainty_r1 : List Cond := [Cond.constant RX1 45 (-100001), Cond.constant RX1 55 (-100002), Cond.methodLink RX1 92 yX1_isWalker, Cond.instanceMethod yX1_isWalker, Cond.selects RX1 yX1_isWalker yX1_isWalker, Cond.initialized RX1, Cond.code yX1_isWalker cX1_isWalker 2 (some .boolean), Cond.fieldLink RX1 10 "FerryFloor" "now" "LFerryFloor$State;", Cond.fieldLink RX1 79 "FerryFloor$State" "walkers" "I", Cond.methodLink RX1 95 yX1_isAboard, Cond.instanceMethod yX1_isAboard, Cond.selects RX1 yX1_isAboard yX1_isAboard, Cond.code yX1_isAboard cX1_isAboard 2 (some .boolean), Cond.fieldLink RX1 71 "FerryFloor$State" "places" "[I", Cond.constant RX1 78 (-100009), Cond.methodLink RX1 177 yX1_certaintyFor, Cond.instanceMethod yX1_certaintyFor, Cond.selects RX1 yX1_certaintyFor yX1_certaintyFor, Cond.code yX1_certaintyFor cX1_certaintyFor 4 (some .int), Cond.fieldLink RX1 52 "FerryFloor$State" "minute" "I", Cond.fieldLink RX1 89 "FerryFloor$State" "bookPlaces" "[I", Cond.fieldLink RX1 113 "FerryFloor$State" "accusations" "[I", Cond.methodLink RX1 129 Lib.Math.max.name, Cond.static Lib.Math.max.name]
def wsX1_certainty_r2 : List Cond := [Cond.initialized "java/lang/Math", Cond.code Lib.Math.max.name Lib.Math.max.code 2 (some .int), Cond.methodLink RX1 192 yX1_earliestTare, Cond.instanceMethod yX1_earliestTare, Cond.selects RX1 yX1_earliestTare yX1_earliestTare, Cond.code yX1_earliestTare cX1_earliestTare 5 (some .int), Cond.fieldLink RX1 65 "FerryFloor$State" "tareMinutes" "[I", Cond.methodLink RX1 205 Lib.Math.min.name, Cond.static Lib.Math.min.name, Cond.code Lib.Math.min.name Lib.Math.min.code 2 (some .int), Cond.methodLink RX1 195 yX1_nearCell, Cond.static yX1_nearCell, Cond.code yX1_nearCell cX1_nearCell 3 (some .int), Cond.methodLink RX1 37 yX1_isCell, Cond.static yX1_isCell, Cond.code yX1_isCell cX1_isCell 1 (some .boolean)]
def wsX1_certainty : List Cond := .code yX1_certainty cX1_certainty 2 (some .int) :: ((wsX1_certainty_r1 ++ wsX1_certainty_r2) ++ wsX10 ++ wsX00)
def wsX1_bestExchange_r1 : List Cond := [Cond.constant RX1 78 (-100009), Cond.methodLink RX1 106 yX1_errorWith, Cond.instanceMethod yX1_errorWith, Cond.selects RX1 yX1_errorWith yX1_errorWith, Cond.initialized RX1, Cond.code yX1_errorWith cX1_errorWith 4 (some .int), Cond.fieldLink RX1 27 "FerryFloor" "readings" "[I", Cond.fieldLink RX1 31 "FerryFloor" "expected" "[I", Cond.methodLink RX1 208 Lib.Math.abs.name, Cond.static Lib.Math.abs.name, Cond.initialized "java/lang/Math", Cond.code Lib.Math.abs.name Lib.Math.abs.code 1 (some .int), Cond.methodLink RX1 59 yX1_weighAll, Cond.instanceMethod yX1_weighAll, Cond.selects RX1 yX1_weighAll yX1_weighAll, Cond.code yX1_weighAll cX1_weighAll 1 none, Cond.fieldLink RX1 10 "FerryFloor" "now" "LFerryFloor$State;", Cond.fieldLink RX1 56 "FerryFloor$State" "zeros" "[I", Cond.fieldLink RX1 83 "FerryFloor$State" "weights" "[I", Cond.fieldLink RX1 71 "FerryFloor$State" "places" "[I", Cond.methodLink RX1 180 yX1_copyRow, Cond.static yX1_copyRow, Cond.code yX1_copyRow cX1_copyRow 2 none, Cond.methodLink RX1 205 Lib.Math.min.name]
def wsX1_bestExchange_r2 : List Cond := [Cond.static Lib.Math.min.name, Cond.code Lib.Math.min.name Lib.Math.min.code 2 (some .int), Cond.methodLink RX1 217 arraycopyName, Cond.native arraycopyName, Cond.static arraycopyName, Cond.initialized "java/lang/System", Cond.methodLink RX1 201 yX1_addAllShares, Cond.static yX1_addAllShares, Cond.code yX1_addAllShares cX1_addAllShares 4 none, Cond.methodLink RX1 198 yX1_addShares, Cond.static yX1_addShares, Cond.code yX1_addShares cX1_addShares 7 none, Cond.methodLink RX1 37 yX1_isCell, Cond.static yX1_isCell, Cond.code yX1_isCell cX1_isCell 1 (some .boolean), Cond.methodLink RX1 195 yX1_nearCell, Cond.static yX1_nearCell, Cond.code yX1_nearCell cX1_nearCell 3 (some .int), Cond.methodLink RX1 167 yX1_expectAll, Cond.instanceMethod yX1_expectAll, Cond.selects RX1 yX1_expectAll yX1_expectAll, Cond.code yX1_expectAll cX1_expectAll 2 none, Cond.fieldLink RX1 62 "FerryFloor$State" "tares" "[I", Cond.fieldLink RX1 86 "FerryFloor$State" "bookWeights" "[I"]
def wsX1_bestExchange_r3 : List Cond := [Cond.methodLink RX1 95 yX1_isAboard, Cond.instanceMethod yX1_isAboard, Cond.selects RX1 yX1_isAboard yX1_isAboard, Cond.code yX1_isAboard cX1_isAboard 2 (some .boolean), Cond.methodLink RX1 92 yX1_isWalker, Cond.instanceMethod yX1_isWalker, Cond.selects RX1 yX1_isWalker yX1_isWalker, Cond.code yX1_isWalker cX1_isWalker 2 (some .boolean), Cond.fieldLink RX1 79 "FerryFloor$State" "walkers" "I", Cond.methodLink RX1 102 yX1_exchange, Cond.static yX1_exchange, Cond.code yX1_exchange cX1_exchange 4 none]
def wsX1_bestExchange : List Cond := .code yX1_bestExchange cX1_bestExchange 7 (some .int) :: ((wsX1_bestExchange_r1 ++ (wsX1_bestExchange_r2 ++ wsX1_bestExchange_r3)) ++ wsX10 ++ wsX00)
def wsX1_exchangePair : List Cond := .code yX1_exchangePair cX1_exchangePair 5 none :: ([.methodLink RX1 98 yX1_isPair, .instanceMethod yX1_isPair, .selects RX1 yX1_isPair yX1_isPair, .initialized RX1, .code yX1_isPair cX1_isPair 3 (some .boolean), .methodLink RX1 92 yX1_isWalker, .instanceMethod yX1_isWalker, .selects RX1 yX1_isWalker yX1_isWalker, .code yX1_isWalker cX1_isWalker 2 (some .boolean), .fieldLink RX1 10 "FerryFloor" "now" "LFerryFloor$State;", .fieldLink RX1 79 "FerryFloor$State" "walkers" "I", .methodLink RX1 102 yX1_exchange, .static yX1_exchange, .code yX1_exchange cX1_exchange 4 none] ++ wsX10 ++ wsX00)
def wsX1_guess_r1 : List Cond := [Cond.constant RX1 45 (-100001), Cond.fieldLink RX1 10 "FerryFloor" "now" "LFerryFloor$State;", Cond.fieldLink RX1 89 "FerryFloor$State" "bookPlaces" "[I", Cond.fieldLink RX1 34 "FerryFloor" "trial" "[I", Cond.constant RX1 78 (-100009), Cond.methodLink RX1 41 yX1_isWithin, Cond.static yX1_isWithin, Cond.initialized RX1, Cond.code yX1_isWithin cX1_isWithin 3 (some .boolean), Cond.methodLink RX1 180 yX1_copyRow, Cond.static yX1_copyRow, Cond.code yX1_copyRow cX1_copyRow 2 none, Cond.methodLink RX1 205 Lib.Math.min.name, Cond.static Lib.Math.min.name, Cond.initialized "java/lang/Math", Cond.code Lib.Math.min.name Lib.Math.min.code 2 (some .int), Cond.methodLink RX1 217 arraycopyName, Cond.native arraycopyName, Cond.static arraycopyName, Cond.initialized "java/lang/System", Cond.methodLink RX1 184 yX1_bestExchange, Cond.instanceMethod yX1_bestExchange, Cond.selects RX1 yX1_bestExchange yX1_bestExchange, Cond.code yX1_bestExchange cX1_bestExchange 7 (some .int)]
def wsX1_guess_r2 : List Cond := [Cond.methodLink RX1 106 yX1_errorWith, Cond.instanceMethod yX1_errorWith, Cond.selects RX1 yX1_errorWith yX1_errorWith, Cond.code yX1_errorWith cX1_errorWith 4 (some .int), Cond.fieldLink RX1 27 "FerryFloor" "readings" "[I", Cond.fieldLink RX1 31 "FerryFloor" "expected" "[I", Cond.methodLink RX1 208 Lib.Math.abs.name, Cond.static Lib.Math.abs.name, Cond.code Lib.Math.abs.name Lib.Math.abs.code 1 (some .int), Cond.methodLink RX1 59 yX1_weighAll, Cond.instanceMethod yX1_weighAll, Cond.selects RX1 yX1_weighAll yX1_weighAll, Cond.code yX1_weighAll cX1_weighAll 1 none, Cond.fieldLink RX1 56 "FerryFloor$State" "zeros" "[I", Cond.fieldLink RX1 83 "FerryFloor$State" "weights" "[I", Cond.fieldLink RX1 71 "FerryFloor$State" "places" "[I", Cond.methodLink RX1 201 yX1_addAllShares, Cond.static yX1_addAllShares, Cond.code yX1_addAllShares cX1_addAllShares 4 none, Cond.methodLink RX1 198 yX1_addShares, Cond.static yX1_addShares, Cond.code yX1_addShares cX1_addShares 7 none, Cond.methodLink RX1 37 yX1_isCell, Cond.static yX1_isCell]
def wsX1_guess_r3 : List Cond := [Cond.code yX1_isCell cX1_isCell 1 (some .boolean), Cond.methodLink RX1 195 yX1_nearCell, Cond.static yX1_nearCell, Cond.code yX1_nearCell cX1_nearCell 3 (some .int), Cond.methodLink RX1 167 yX1_expectAll, Cond.instanceMethod yX1_expectAll, Cond.selects RX1 yX1_expectAll yX1_expectAll, Cond.code yX1_expectAll cX1_expectAll 2 none, Cond.fieldLink RX1 62 "FerryFloor$State" "tares" "[I", Cond.fieldLink RX1 86 "FerryFloor$State" "bookWeights" "[I", Cond.methodLink RX1 95 yX1_isAboard, Cond.instanceMethod yX1_isAboard, Cond.selects RX1 yX1_isAboard yX1_isAboard, Cond.code yX1_isAboard cX1_isAboard 2 (some .boolean), Cond.methodLink RX1 92 yX1_isWalker, Cond.instanceMethod yX1_isWalker, Cond.selects RX1 yX1_isWalker yX1_isWalker, Cond.code yX1_isWalker cX1_isWalker 2 (some .boolean), Cond.fieldLink RX1 79 "FerryFloor$State" "walkers" "I", Cond.methodLink RX1 102 yX1_exchange, Cond.static yX1_exchange, Cond.code yX1_exchange cX1_exchange 4 none, Cond.methodLink RX1 187 yX1_exchangePair, Cond.instanceMethod yX1_exchangePair]
def wsX1_guess_r4 : List Cond := [Cond.selects RX1 yX1_exchangePair yX1_exchangePair, Cond.code yX1_exchangePair cX1_exchangePair 5 none, Cond.methodLink RX1 98 yX1_isPair, Cond.instanceMethod yX1_isPair, Cond.selects RX1 yX1_isPair yX1_isPair, Cond.code yX1_isPair cX1_isPair 3 (some .boolean)]
def wsX1_guess : List Cond := .code yX1_guess cX1_guess 3 (some .int) :: ((wsX1_guess_r1 ++ (wsX1_guess_r2 ++ (wsX1_guess_r3 ++ wsX1_guess_r4))) ++ wsX10 ++ wsX00)
def wsX1_mend_r1 : List Cond := [Cond.constant RX1 45 (-100001), Cond.fieldLink RX1 10 "FerryFloor" "now" "LFerryFloor$State;", Cond.fieldLink RX1 89 "FerryFloor$State" "bookPlaces" "[I", Cond.fieldLink RX1 34 "FerryFloor" "trial" "[I", Cond.constant RX1 78 (-100009), Cond.constant RX1 191 (40320), Cond.methodLink RX1 41 yX1_isWithin, Cond.static yX1_isWithin, Cond.initialized RX1, Cond.code yX1_isWithin cX1_isWithin 3 (some .boolean), Cond.methodLink RX1 180 yX1_copyRow, Cond.static yX1_copyRow, Cond.code yX1_copyRow cX1_copyRow 2 none, Cond.methodLink RX1 205 Lib.Math.min.name, Cond.static Lib.Math.min.name, Cond.initialized "java/lang/Math", Cond.code Lib.Math.min.name Lib.Math.min.code 2 (some .int), Cond.methodLink RX1 217 arraycopyName, Cond.native arraycopyName, Cond.static arraycopyName, Cond.initialized "java/lang/System", Cond.methodLink RX1 184 yX1_bestExchange, Cond.instanceMethod yX1_bestExchange, Cond.selects RX1 yX1_bestExchange yX1_bestExchange]
def wsX1_mend_r2 : List Cond := [Cond.code yX1_bestExchange cX1_bestExchange 7 (some .int), Cond.methodLink RX1 106 yX1_errorWith, Cond.instanceMethod yX1_errorWith, Cond.selects RX1 yX1_errorWith yX1_errorWith, Cond.code yX1_errorWith cX1_errorWith 4 (some .int), Cond.fieldLink RX1 27 "FerryFloor" "readings" "[I", Cond.fieldLink RX1 31 "FerryFloor" "expected" "[I", Cond.methodLink RX1 208 Lib.Math.abs.name, Cond.static Lib.Math.abs.name, Cond.code Lib.Math.abs.name Lib.Math.abs.code 1 (some .int), Cond.methodLink RX1 59 yX1_weighAll, Cond.instanceMethod yX1_weighAll, Cond.selects RX1 yX1_weighAll yX1_weighAll, Cond.code yX1_weighAll cX1_weighAll 1 none, Cond.fieldLink RX1 56 "FerryFloor$State" "zeros" "[I", Cond.fieldLink RX1 83 "FerryFloor$State" "weights" "[I", Cond.fieldLink RX1 71 "FerryFloor$State" "places" "[I", Cond.methodLink RX1 201 yX1_addAllShares, Cond.static yX1_addAllShares, Cond.code yX1_addAllShares cX1_addAllShares 4 none, Cond.methodLink RX1 198 yX1_addShares, Cond.static yX1_addShares, Cond.code yX1_addShares cX1_addShares 7 none, Cond.methodLink RX1 37 yX1_isCell]
def wsX1_mend_r3 : List Cond := [Cond.static yX1_isCell, Cond.code yX1_isCell cX1_isCell 1 (some .boolean), Cond.methodLink RX1 195 yX1_nearCell, Cond.static yX1_nearCell, Cond.code yX1_nearCell cX1_nearCell 3 (some .int), Cond.methodLink RX1 167 yX1_expectAll, Cond.instanceMethod yX1_expectAll, Cond.selects RX1 yX1_expectAll yX1_expectAll, Cond.code yX1_expectAll cX1_expectAll 2 none, Cond.fieldLink RX1 62 "FerryFloor$State" "tares" "[I", Cond.fieldLink RX1 86 "FerryFloor$State" "bookWeights" "[I", Cond.methodLink RX1 95 yX1_isAboard, Cond.instanceMethod yX1_isAboard, Cond.selects RX1 yX1_isAboard yX1_isAboard, Cond.code yX1_isAboard cX1_isAboard 2 (some .boolean), Cond.methodLink RX1 92 yX1_isWalker, Cond.instanceMethod yX1_isWalker, Cond.selects RX1 yX1_isWalker yX1_isWalker, Cond.code yX1_isWalker cX1_isWalker 2 (some .boolean), Cond.fieldLink RX1 79 "FerryFloor$State" "walkers" "I", Cond.methodLink RX1 102 yX1_exchange, Cond.static yX1_exchange, Cond.code yX1_exchange cX1_exchange 4 none, Cond.methodLink RX1 187 yX1_exchangePair]
def wsX1_mend_r4 : List Cond := [Cond.instanceMethod yX1_exchangePair, Cond.selects RX1 yX1_exchangePair yX1_exchangePair, Cond.code yX1_exchangePair cX1_exchangePair 5 none, Cond.methodLink RX1 98 yX1_isPair, Cond.instanceMethod yX1_isPair, Cond.selects RX1 yX1_isPair yX1_isPair, Cond.code yX1_isPair cX1_isPair 3 (some .boolean)]
def wsX1_mend : List Cond := .code yX1_mend cX1_mend 4 (some .int) :: ((wsX1_mend_r1 ++ (wsX1_mend_r2 ++ (wsX1_mend_r3 ++ wsX1_mend_r4))) ++ wsX10 ++ wsX00)
def wsX1_bestCell : List Cond := .code yX1_bestCell cX1_bestCell 5 (some .int) :: ([.constant RX1 78 (-100009), .fieldLink RX1 10 "FerryFloor" "now" "LFerryFloor$State;", .fieldLink RX1 71 "FerryFloor$State" "places" "[I", .methodLink RX1 74 yX1_whoIsOn, .static yX1_whoIsOn, .initialized RX1, .code yX1_whoIsOn cX1_whoIsOn 3 (some .int), .methodLink RX1 192 yX1_earliestTare, .instanceMethod yX1_earliestTare, .selects RX1 yX1_earliestTare yX1_earliestTare, .code yX1_earliestTare cX1_earliestTare 5 (some .int), .fieldLink RX1 52 "FerryFloor$State" "minute" "I", .fieldLink RX1 65 "FerryFloor$State" "tareMinutes" "[I", .methodLink RX1 205 Lib.Math.min.name, .static Lib.Math.min.name, .initialized "java/lang/Math", .code Lib.Math.min.name Lib.Math.min.code 2 (some .int), .methodLink RX1 195 yX1_nearCell, .static yX1_nearCell, .code yX1_nearCell cX1_nearCell 3 (some .int), .methodLink RX1 37 yX1_isCell, .static yX1_isCell, .code yX1_isCell cX1_isCell 1 (some .boolean)] ++ wsX10 ++ wsX00)
def wsX1_until_r1 : List Cond := [Cond.constant RX1 45 (-100001), Cond.constant RX1 55 (-100002), Cond.methodLink RX1 92 yX1_isWalker, Cond.instanceMethod yX1_isWalker, Cond.selects RX1 yX1_isWalker yX1_isWalker, Cond.initialized RX1, Cond.code yX1_isWalker cX1_isWalker 2 (some .boolean), Cond.fieldLink RX1 10 "FerryFloor" "now" "LFerryFloor$State;", Cond.fieldLink RX1 79 "FerryFloor$State" "walkers" "I", Cond.methodLink RX1 41 yX1_isWithin, Cond.static yX1_isWithin, Cond.code yX1_isWithin cX1_isWithin 3 (some .boolean), Cond.methodLink RX1 95 yX1_isAboard, Cond.instanceMethod yX1_isAboard, Cond.selects RX1 yX1_isAboard yX1_isAboard, Cond.code yX1_isAboard cX1_isAboard 2 (some .boolean), Cond.fieldLink RX1 71 "FerryFloor$State" "places" "[I", Cond.constant RX1 78 (-100009), Cond.methodLink RX1 177 yX1_certaintyFor, Cond.instanceMethod yX1_certaintyFor, Cond.selects RX1 yX1_certaintyFor yX1_certaintyFor, Cond.code yX1_certaintyFor cX1_certaintyFor 4 (some .int), Cond.fieldLink RX1 52 "FerryFloor$State" "minute" "I", Cond.fieldLink RX1 89 "FerryFloor$State" "bookPlaces" "[I"]
def wsX1_until_r2 : List Cond := [Cond.fieldLink RX1 113 "FerryFloor$State" "accusations" "[I", Cond.methodLink RX1 129 Lib.Math.max.name, Cond.static Lib.Math.max.name, Cond.initialized "java/lang/Math", Cond.code Lib.Math.max.name Lib.Math.max.code 2 (some .int), Cond.methodLink RX1 192 yX1_earliestTare, Cond.instanceMethod yX1_earliestTare, Cond.selects RX1 yX1_earliestTare yX1_earliestTare, Cond.code yX1_earliestTare cX1_earliestTare 5 (some .int), Cond.fieldLink RX1 65 "FerryFloor$State" "tareMinutes" "[I", Cond.methodLink RX1 205 Lib.Math.min.name, Cond.static Lib.Math.min.name, Cond.code Lib.Math.min.name Lib.Math.min.code 2 (some .int), Cond.methodLink RX1 195 yX1_nearCell, Cond.static yX1_nearCell, Cond.code yX1_nearCell cX1_nearCell 3 (some .int), Cond.methodLink RX1 37 yX1_isCell, Cond.static yX1_isCell, Cond.code yX1_isCell cX1_isCell 1 (some .boolean)]
def wsX1_until : List Cond := .code yX1_until cX1_until 4 (some .int) :: ((wsX1_until_r1 ++ wsX1_until_r2) ++ wsX10 ++ wsX00)
def wsX2_init : List Cond := .code yX2_init cX2_init 1 none :: ([.methodLink RX2 1 objectInit, .instanceMethod objectInit, .code objectInit ⟨#[0xb1]⟩ 1 none, .arrayClass .int, .fieldLink RX2 7 "FerryFloorModel" "s" "[I", .fieldLink RX2 13 "FerryFloorModel" "past" "[I", .fieldLink RX2 16 "FerryFloorModel" "held" "[I"] ++ wsX20)
def wsX2_in : List Cond := .code yX2_in cX2_in 3 (some .boolean) :: ([])
def wsX2_acts : List Cond := .code yX2_acts cX2_acts 2 none :: ([.fieldLink RX2 19 "FerryFloorModel" "pasts" "I", .fieldLink RX2 13 "FerryFloorModel" "past" "[I", .fieldLink RX2 7 "FerryFloorModel" "s" "[I"] ++ wsX20)
def wsX2_isCell : List Cond := .code yX2_isCell cX2_isCell 1 (some .boolean) :: ([.methodLink RX2 23 yX2_in, .static yX2_in, .initialized RX2, .code yX2_in cX2_in 3 (some .boolean)])
def wsX2_isWalker : List Cond := .code yX2_isWalker cX2_isWalker 2 (some .boolean) :: ([.fieldLink RX2 7 "FerryFloorModel" "s" "[I"] ++ wsX20)
def wsX2_of : List Cond := .code yX2_of cX2_of 3 (some .int) :: ([.fieldLink RX2 7 "FerryFloorModel" "s" "[I"] ++ wsX20)
def wsX2_ofWalker : List Cond := .code yX2_ofWalker cX2_ofWalker 3 (some .int) :: ([.fieldLink RX2 7 "FerryFloorModel" "s" "[I"] ++ wsX20)
def wsX2_isAboard : List Cond := .code yX2_isAboard cX2_isAboard 2 (some .boolean) :: ([.constant RX2 31 (-100009), .methodLink RX2 27 yX2_ofWalker, .instanceMethod yX2_ofWalker, .selects RX2 yX2_ofWalker yX2_ofWalker, .initialized RX2, .code yX2_ofWalker cX2_ofWalker 3 (some .int), .fieldLink RX2 7 "FerryFloorModel" "s" "[I"] ++ wsX20)
def wsX2_areNeighbors : List Cond := .code yX2_areNeighbors cX2_areNeighbors 3 (some .boolean) :: ([])
def wsX2_neighbors : List Cond := .code yX2_neighbors cX2_neighbors 3 (some .int) :: ([.methodLink RX2 32 yX2_areNeighbors, .static yX2_areNeighbors, .initialized RX2, .code yX2_areNeighbors cX2_areNeighbors 3 (some .boolean)])
def wsX2_share : List Cond := .code yX2_share cX2_share 3 (some .int) :: ([.methodLink RX2 36 yX2_neighbors, .static yX2_neighbors, .initialized RX2, .code yX2_neighbors cX2_neighbors 3 (some .int), .methodLink RX2 32 yX2_areNeighbors, .static yX2_areNeighbors, .code yX2_areNeighbors cX2_areNeighbors 3 (some .boolean)])
def wsX2_shares : List Cond := .code yX2_shares cX2_shares 4 (some .int) :: ([.fieldLink RX2 7 "FerryFloorModel" "s" "[I", .methodLink RX2 40 yX2_isAboard, .instanceMethod yX2_isAboard, .selects RX2 yX2_isAboard yX2_isAboard, .initialized RX2, .code yX2_isAboard cX2_isAboard 2 (some .boolean), .constant RX2 31 (-100009), .methodLink RX2 27 yX2_ofWalker, .instanceMethod yX2_ofWalker, .selects RX2 yX2_ofWalker yX2_ofWalker, .code yX2_ofWalker cX2_ofWalker 3 (some .int), .methodLink RX2 44 yX2_share, .static yX2_share, .code yX2_share cX2_share 3 (some .int), .methodLink RX2 36 yX2_neighbors, .static yX2_neighbors, .code yX2_neighbors cX2_neighbors 3 (some .int), .methodLink RX2 32 yX2_areNeighbors, .static yX2_areNeighbors, .code yX2_areNeighbors cX2_areNeighbors 3 (some .boolean)] ++ wsX20)
def wsX2_reading_r1 : List Cond := [Cond.methodLink RX2 48 yX2_shares, Cond.instanceMethod yX2_shares, Cond.selects RX2 yX2_shares yX2_shares, Cond.initialized RX2, Cond.code yX2_shares cX2_shares 4 (some .int), Cond.fieldLink RX2 7 "FerryFloorModel" "s" "[I", Cond.methodLink RX2 40 yX2_isAboard, Cond.instanceMethod yX2_isAboard, Cond.selects RX2 yX2_isAboard yX2_isAboard, Cond.code yX2_isAboard cX2_isAboard 2 (some .boolean), Cond.constant RX2 31 (-100009), Cond.methodLink RX2 27 yX2_ofWalker, Cond.instanceMethod yX2_ofWalker, Cond.selects RX2 yX2_ofWalker yX2_ofWalker, Cond.code yX2_ofWalker cX2_ofWalker 3 (some .int), Cond.methodLink RX2 44 yX2_share, Cond.static yX2_share, Cond.code yX2_share cX2_share 3 (some .int), Cond.methodLink RX2 36 yX2_neighbors, Cond.static yX2_neighbors, Cond.code yX2_neighbors cX2_neighbors 3 (some .int), Cond.methodLink RX2 32 yX2_areNeighbors, Cond.static yX2_areNeighbors, Cond.code yX2_areNeighbors cX2_areNeighbors 3 (some .boolean)]
def wsX2_reading_r2 : List Cond := [Cond.methodLink RX2 51 yX2_of, Cond.instanceMethod yX2_of, Cond.selects RX2 yX2_of yX2_of, Cond.code yX2_of cX2_of 3 (some .int)]
def wsX2_reading : List Cond := .code yX2_reading cX2_reading 2 (some .int) :: ((wsX2_reading_r1 ++ wsX2_reading_r2) ++ wsX20)
def wsX2_booked : List Cond := .code yX2_booked cX2_booked 5 (some .int) :: ([.fieldLink RX2 7 "FerryFloorModel" "s" "[I", .methodLink RX2 40 yX2_isAboard, .instanceMethod yX2_isAboard, .selects RX2 yX2_isAboard yX2_isAboard, .initialized RX2, .code yX2_isAboard cX2_isAboard 2 (some .boolean), .constant RX2 31 (-100009), .methodLink RX2 27 yX2_ofWalker, .instanceMethod yX2_ofWalker, .selects RX2 yX2_ofWalker yX2_ofWalker, .code yX2_ofWalker cX2_ofWalker 3 (some .int), .methodLink RX2 44 yX2_share, .static yX2_share, .code yX2_share cX2_share 3 (some .int), .methodLink RX2 36 yX2_neighbors, .static yX2_neighbors, .code yX2_neighbors cX2_neighbors 3 (some .int), .methodLink RX2 32 yX2_areNeighbors, .static yX2_areNeighbors, .code yX2_areNeighbors cX2_areNeighbors 3 (some .boolean)] ++ wsX20)
def wsX2_expected_r1 : List Cond := [Cond.constant RX2 31 (-100009), Cond.methodLink RX2 54 yX2_booked, Cond.instanceMethod yX2_booked, Cond.selects RX2 yX2_booked yX2_booked, Cond.initialized RX2, Cond.code yX2_booked cX2_booked 5 (some .int), Cond.fieldLink RX2 7 "FerryFloorModel" "s" "[I", Cond.methodLink RX2 40 yX2_isAboard, Cond.instanceMethod yX2_isAboard, Cond.selects RX2 yX2_isAboard yX2_isAboard, Cond.code yX2_isAboard cX2_isAboard 2 (some .boolean), Cond.methodLink RX2 27 yX2_ofWalker, Cond.instanceMethod yX2_ofWalker, Cond.selects RX2 yX2_ofWalker yX2_ofWalker, Cond.code yX2_ofWalker cX2_ofWalker 3 (some .int), Cond.methodLink RX2 44 yX2_share, Cond.static yX2_share, Cond.code yX2_share cX2_share 3 (some .int), Cond.methodLink RX2 36 yX2_neighbors, Cond.static yX2_neighbors, Cond.code yX2_neighbors cX2_neighbors 3 (some .int), Cond.methodLink RX2 32 yX2_areNeighbors, Cond.static yX2_areNeighbors, Cond.code yX2_areNeighbors cX2_areNeighbors 3 (some .boolean)]
def wsX2_expected_r2 : List Cond := [Cond.methodLink RX2 51 yX2_of, Cond.instanceMethod yX2_of, Cond.selects RX2 yX2_of yX2_of, Cond.code yX2_of cX2_of 3 (some .int)]
def wsX2_expected : List Cond := .code yX2_expected cX2_expected 2 (some .int) :: ((wsX2_expected_r1 ++ wsX2_expected_r2) ++ wsX20)
def wsX2_error_r1 : List Cond := [Cond.methodLink RX2 57 yX2_reading, Cond.instanceMethod yX2_reading, Cond.selects RX2 yX2_reading yX2_reading, Cond.initialized RX2, Cond.code yX2_reading cX2_reading 2 (some .int), Cond.methodLink RX2 48 yX2_shares, Cond.instanceMethod yX2_shares, Cond.selects RX2 yX2_shares yX2_shares, Cond.code yX2_shares cX2_shares 4 (some .int), Cond.fieldLink RX2 7 "FerryFloorModel" "s" "[I", Cond.methodLink RX2 40 yX2_isAboard, Cond.instanceMethod yX2_isAboard, Cond.selects RX2 yX2_isAboard yX2_isAboard, Cond.code yX2_isAboard cX2_isAboard 2 (some .boolean), Cond.constant RX2 31 (-100009), Cond.methodLink RX2 27 yX2_ofWalker, Cond.instanceMethod yX2_ofWalker, Cond.selects RX2 yX2_ofWalker yX2_ofWalker, Cond.code yX2_ofWalker cX2_ofWalker 3 (some .int), Cond.methodLink RX2 44 yX2_share, Cond.static yX2_share, Cond.code yX2_share cX2_share 3 (some .int), Cond.methodLink RX2 36 yX2_neighbors, Cond.static yX2_neighbors]
def wsX2_error_r2 : List Cond := [Cond.code yX2_neighbors cX2_neighbors 3 (some .int), Cond.methodLink RX2 32 yX2_areNeighbors, Cond.static yX2_areNeighbors, Cond.code yX2_areNeighbors cX2_areNeighbors 3 (some .boolean), Cond.methodLink RX2 51 yX2_of, Cond.instanceMethod yX2_of, Cond.selects RX2 yX2_of yX2_of, Cond.code yX2_of cX2_of 3 (some .int), Cond.methodLink RX2 60 yX2_expected, Cond.instanceMethod yX2_expected, Cond.selects RX2 yX2_expected yX2_expected, Cond.code yX2_expected cX2_expected 2 (some .int), Cond.methodLink RX2 54 yX2_booked, Cond.instanceMethod yX2_booked, Cond.selects RX2 yX2_booked yX2_booked, Cond.code yX2_booked cX2_booked 5 (some .int)]
def wsX2_error : List Cond := .code yX2_error cX2_error 4 (some .int) :: ((wsX2_error_r1 ++ wsX2_error_r2) ++ wsX20)
def wsX2_setDrift : List Cond := .code yX2_setDrift cX2_setDrift 4 (some .int) :: ([.constant RX2 66 (-100001), .fieldLink RX2 7 "FerryFloorModel" "s" "[I", .methodLink RX2 63 yX2_isCell, .static yX2_isCell, .initialized RX2, .code yX2_isCell cX2_isCell 1 (some .boolean), .methodLink RX2 23 yX2_in, .static yX2_in, .code yX2_in cX2_in 3 (some .boolean), .methodLink RX2 67 yX2_acts, .instanceMethod yX2_acts, .selects RX2 yX2_acts yX2_acts, .code yX2_acts cX2_acts 2 none, .fieldLink RX2 19 "FerryFloorModel" "pasts" "I", .fieldLink RX2 13 "FerryFloorModel" "past" "[I", .methodLink RX2 51 yX2_of, .instanceMethod yX2_of, .selects RX2 yX2_of yX2_of, .code yX2_of cX2_of 3 (some .int)] ++ wsX20)
def wsX2_pass : List Cond := .code yX2_pass cX2_pass 3 (some .int) :: ([.constant RX2 66 (-100001), .fieldLink RX2 7 "FerryFloorModel" "s" "[I", .constant RX2 70 (-100002), .methodLink RX2 23 yX2_in, .static yX2_in, .initialized RX2, .code yX2_in cX2_in 3 (some .boolean), .methodLink RX2 67 yX2_acts, .instanceMethod yX2_acts, .selects RX2 yX2_acts yX2_acts, .code yX2_acts cX2_acts 2 none, .fieldLink RX2 19 "FerryFloorModel" "pasts" "I", .fieldLink RX2 13 "FerryFloorModel" "past" "[I", .methodLink RX2 51 yX2_of, .instanceMethod yX2_of, .selects RX2 yX2_of yX2_of, .code yX2_of cX2_of 3 (some .int)] ++ wsX20)
def wsX2_isPressed : List Cond := .code yX2_isPressed cX2_isPressed 4 (some .boolean) :: ([.fieldLink RX2 7 "FerryFloorModel" "s" "[I", .methodLink RX2 40 yX2_isAboard, .instanceMethod yX2_isAboard, .selects RX2 yX2_isAboard yX2_isAboard, .initialized RX2, .code yX2_isAboard cX2_isAboard 2 (some .boolean), .constant RX2 31 (-100009), .methodLink RX2 27 yX2_ofWalker, .instanceMethod yX2_ofWalker, .selects RX2 yX2_ofWalker yX2_ofWalker, .code yX2_ofWalker cX2_ofWalker 3 (some .int), .methodLink RX2 44 yX2_share, .static yX2_share, .code yX2_share cX2_share 3 (some .int), .methodLink RX2 36 yX2_neighbors, .static yX2_neighbors, .code yX2_neighbors cX2_neighbors 3 (some .int), .methodLink RX2 32 yX2_areNeighbors, .static yX2_areNeighbors, .code yX2_areNeighbors cX2_areNeighbors 3 (some .boolean)] ++ wsX20)
def wsX2_tare_r1 : List Cond := [Cond.constant RX2 66 (-100001), Cond.constant RX2 70 (-100002), Cond.fieldLink RX2 7 "FerryFloorModel" "s" "[I", Cond.methodLink RX2 63 yX2_isCell, Cond.static yX2_isCell, Cond.initialized RX2, Cond.code yX2_isCell cX2_isCell 1 (some .boolean), Cond.methodLink RX2 23 yX2_in, Cond.static yX2_in, Cond.code yX2_in cX2_in 3 (some .boolean), Cond.methodLink RX2 71 yX2_isPressed, Cond.instanceMethod yX2_isPressed, Cond.selects RX2 yX2_isPressed yX2_isPressed, Cond.code yX2_isPressed cX2_isPressed 4 (some .boolean), Cond.methodLink RX2 40 yX2_isAboard, Cond.instanceMethod yX2_isAboard, Cond.selects RX2 yX2_isAboard yX2_isAboard, Cond.code yX2_isAboard cX2_isAboard 2 (some .boolean), Cond.constant RX2 31 (-100009), Cond.methodLink RX2 27 yX2_ofWalker, Cond.instanceMethod yX2_ofWalker, Cond.selects RX2 yX2_ofWalker yX2_ofWalker, Cond.code yX2_ofWalker cX2_ofWalker 3 (some .int), Cond.methodLink RX2 44 yX2_share]
def wsX2_tare_r2 : List Cond := [Cond.static yX2_share, Cond.code yX2_share cX2_share 3 (some .int), Cond.methodLink RX2 36 yX2_neighbors, Cond.static yX2_neighbors, Cond.code yX2_neighbors cX2_neighbors 3 (some .int), Cond.methodLink RX2 32 yX2_areNeighbors, Cond.static yX2_areNeighbors, Cond.code yX2_areNeighbors cX2_areNeighbors 3 (some .boolean), Cond.methodLink RX2 67 yX2_acts, Cond.instanceMethod yX2_acts, Cond.selects RX2 yX2_acts yX2_acts, Cond.code yX2_acts cX2_acts 2 none, Cond.fieldLink RX2 19 "FerryFloorModel" "pasts" "I", Cond.fieldLink RX2 13 "FerryFloorModel" "past" "[I", Cond.methodLink RX2 57 yX2_reading, Cond.instanceMethod yX2_reading, Cond.selects RX2 yX2_reading yX2_reading, Cond.code yX2_reading cX2_reading 2 (some .int), Cond.methodLink RX2 48 yX2_shares, Cond.instanceMethod yX2_shares, Cond.selects RX2 yX2_shares yX2_shares, Cond.code yX2_shares cX2_shares 4 (some .int), Cond.methodLink RX2 51 yX2_of, Cond.instanceMethod yX2_of]
def wsX2_tare_r3 : List Cond := [Cond.selects RX2 yX2_of yX2_of, Cond.code yX2_of cX2_of 3 (some .int)]
def wsX2_tare : List Cond := .code yX2_tare cX2_tare 2 (some .int) :: ((wsX2_tare_r1 ++ (wsX2_tare_r2 ++ wsX2_tare_r3)) ++ wsX20)
def wsX2_on : List Cond := .code yX2_on cX2_on 5 (some .int) :: ([.constant RX2 31 (-100009), .fieldLink RX2 7 "FerryFloorModel" "s" "[I", .methodLink RX2 40 yX2_isAboard, .instanceMethod yX2_isAboard, .selects RX2 yX2_isAboard yX2_isAboard, .initialized RX2, .code yX2_isAboard cX2_isAboard 2 (some .boolean), .methodLink RX2 27 yX2_ofWalker, .instanceMethod yX2_ofWalker, .selects RX2 yX2_ofWalker yX2_ofWalker, .code yX2_ofWalker cX2_ofWalker 3 (some .int)] ++ wsX20)
def wsX2_isWeight : List Cond := .code yX2_isWeight cX2_isWeight 1 (some .boolean) :: ([.methodLink RX2 23 yX2_in, .static yX2_in, .initialized RX2, .code yX2_in cX2_in 3 (some .boolean)])
def wsX2_board_r1 : List Cond := [Cond.constant RX2 66 (-100001), Cond.constant RX2 31 (-100009), Cond.constant RX2 70 (-100002), Cond.fieldLink RX2 7 "FerryFloorModel" "s" "[I", Cond.constant RX2 80 (-100003), Cond.methodLink RX2 74 yX2_isWeight, Cond.static yX2_isWeight, Cond.initialized RX2, Cond.code yX2_isWeight cX2_isWeight 1 (some .boolean), Cond.methodLink RX2 23 yX2_in, Cond.static yX2_in, Cond.code yX2_in cX2_in 3 (some .boolean), Cond.methodLink RX2 63 yX2_isCell, Cond.static yX2_isCell, Cond.code yX2_isCell cX2_isCell 1 (some .boolean), Cond.methodLink RX2 77 yX2_on, Cond.instanceMethod yX2_on, Cond.selects RX2 yX2_on yX2_on, Cond.code yX2_on cX2_on 5 (some .int), Cond.methodLink RX2 40 yX2_isAboard, Cond.instanceMethod yX2_isAboard, Cond.selects RX2 yX2_isAboard yX2_isAboard, Cond.code yX2_isAboard cX2_isAboard 2 (some .boolean), Cond.methodLink RX2 27 yX2_ofWalker]
def wsX2_board_r2 : List Cond := [Cond.instanceMethod yX2_ofWalker, Cond.selects RX2 yX2_ofWalker yX2_ofWalker, Cond.code yX2_ofWalker cX2_ofWalker 3 (some .int), Cond.methodLink RX2 67 yX2_acts, Cond.instanceMethod yX2_acts, Cond.selects RX2 yX2_acts yX2_acts, Cond.code yX2_acts cX2_acts 2 none, Cond.fieldLink RX2 19 "FerryFloorModel" "pasts" "I", Cond.fieldLink RX2 13 "FerryFloorModel" "past" "[I"]
def wsX2_board : List Cond := .code yX2_board cX2_board 7 (some .int) :: ((wsX2_board_r1 ++ wsX2_board_r2) ++ wsX20)
def wsX2_puts : List Cond := .code yX2_puts cX2_puts 4 none :: ([.fieldLink RX2 7 "FerryFloorModel" "s" "[I"] ++ wsX20)
def wsX2_walk_r1 : List Cond := [Cond.constant RX2 66 (-100001), Cond.constant RX2 31 (-100009), Cond.constant RX2 70 (-100002), Cond.methodLink RX2 81 yX2_isWalker, Cond.instanceMethod yX2_isWalker, Cond.selects RX2 yX2_isWalker yX2_isWalker, Cond.initialized RX2, Cond.code yX2_isWalker cX2_isWalker 2 (some .boolean), Cond.fieldLink RX2 7 "FerryFloorModel" "s" "[I", Cond.methodLink RX2 63 yX2_isCell, Cond.static yX2_isCell, Cond.code yX2_isCell cX2_isCell 1 (some .boolean), Cond.methodLink RX2 23 yX2_in, Cond.static yX2_in, Cond.code yX2_in cX2_in 3 (some .boolean), Cond.methodLink RX2 40 yX2_isAboard, Cond.instanceMethod yX2_isAboard, Cond.selects RX2 yX2_isAboard yX2_isAboard, Cond.code yX2_isAboard cX2_isAboard 2 (some .boolean), Cond.methodLink RX2 27 yX2_ofWalker, Cond.instanceMethod yX2_ofWalker, Cond.selects RX2 yX2_ofWalker yX2_ofWalker, Cond.code yX2_ofWalker cX2_ofWalker 3 (some .int), Cond.methodLink RX2 77 yX2_on]
def wsX2_walk_r2 : List Cond := [Cond.instanceMethod yX2_on, Cond.selects RX2 yX2_on yX2_on, Cond.code yX2_on cX2_on 5 (some .int), Cond.methodLink RX2 67 yX2_acts, Cond.instanceMethod yX2_acts, Cond.selects RX2 yX2_acts yX2_acts, Cond.code yX2_acts cX2_acts 2 none, Cond.fieldLink RX2 19 "FerryFloorModel" "pasts" "I", Cond.fieldLink RX2 13 "FerryFloorModel" "past" "[I", Cond.methodLink RX2 84 yX2_puts, Cond.instanceMethod yX2_puts, Cond.selects RX2 yX2_puts yX2_puts, Cond.code yX2_puts cX2_puts 4 none]
def wsX2_walk : List Cond := .code yX2_walk cX2_walk 4 (some .int) :: ((wsX2_walk_r1 ++ wsX2_walk_r2) ++ wsX20)
def wsX2_exchanges : List Cond := .code yX2_exchanges cX2_exchanges 5 none :: ([.methodLink RX2 27 yX2_ofWalker, .instanceMethod yX2_ofWalker, .selects RX2 yX2_ofWalker yX2_ofWalker, .initialized RX2, .code yX2_ofWalker cX2_ofWalker 3 (some .int), .fieldLink RX2 7 "FerryFloorModel" "s" "[I", .methodLink RX2 84 yX2_puts, .instanceMethod yX2_puts, .selects RX2 yX2_puts yX2_puts, .code yX2_puts cX2_puts 4 none] ++ wsX20)
def wsX2_whyNotTwo : List Cond := .code yX2_whyNotTwo cX2_whyNotTwo 3 (some .int) :: ([.constant RX2 66 (-100001), .constant RX2 70 (-100002), .methodLink RX2 81 yX2_isWalker, .instanceMethod yX2_isWalker, .selects RX2 yX2_isWalker yX2_isWalker, .initialized RX2, .code yX2_isWalker cX2_isWalker 2 (some .boolean), .fieldLink RX2 7 "FerryFloorModel" "s" "[I", .methodLink RX2 40 yX2_isAboard, .instanceMethod yX2_isAboard, .selects RX2 yX2_isAboard yX2_isAboard, .code yX2_isAboard cX2_isAboard 2 (some .boolean), .constant RX2 31 (-100009), .methodLink RX2 27 yX2_ofWalker, .instanceMethod yX2_ofWalker, .selects RX2 yX2_ofWalker yX2_ofWalker, .code yX2_ofWalker cX2_ofWalker 3 (some .int)] ++ wsX20)
def wsX2_swap_r1 : List Cond := [Cond.methodLink RX2 88 yX2_whyNotTwo, Cond.instanceMethod yX2_whyNotTwo, Cond.selects RX2 yX2_whyNotTwo yX2_whyNotTwo, Cond.initialized RX2, Cond.code yX2_whyNotTwo cX2_whyNotTwo 3 (some .int), Cond.constant RX2 66 (-100001), Cond.constant RX2 70 (-100002), Cond.methodLink RX2 81 yX2_isWalker, Cond.instanceMethod yX2_isWalker, Cond.selects RX2 yX2_isWalker yX2_isWalker, Cond.code yX2_isWalker cX2_isWalker 2 (some .boolean), Cond.fieldLink RX2 7 "FerryFloorModel" "s" "[I", Cond.methodLink RX2 40 yX2_isAboard, Cond.instanceMethod yX2_isAboard, Cond.selects RX2 yX2_isAboard yX2_isAboard, Cond.code yX2_isAboard cX2_isAboard 2 (some .boolean), Cond.constant RX2 31 (-100009), Cond.methodLink RX2 27 yX2_ofWalker, Cond.instanceMethod yX2_ofWalker, Cond.selects RX2 yX2_ofWalker yX2_ofWalker, Cond.code yX2_ofWalker cX2_ofWalker 3 (some .int), Cond.methodLink RX2 67 yX2_acts, Cond.instanceMethod yX2_acts, Cond.selects RX2 yX2_acts yX2_acts]
def wsX2_swap_r2 : List Cond := [Cond.code yX2_acts cX2_acts 2 none, Cond.fieldLink RX2 19 "FerryFloorModel" "pasts" "I", Cond.fieldLink RX2 13 "FerryFloorModel" "past" "[I", Cond.methodLink RX2 91 yX2_exchanges, Cond.instanceMethod yX2_exchanges, Cond.selects RX2 yX2_exchanges yX2_exchanges, Cond.code yX2_exchanges cX2_exchanges 5 none, Cond.methodLink RX2 84 yX2_puts, Cond.instanceMethod yX2_puts, Cond.selects RX2 yX2_puts yX2_puts, Cond.code yX2_puts cX2_puts 4 none, Cond.methodLink RX2 94 yX2_error, Cond.instanceMethod yX2_error, Cond.selects RX2 yX2_error yX2_error, Cond.code yX2_error cX2_error 4 (some .int), Cond.methodLink RX2 57 yX2_reading, Cond.instanceMethod yX2_reading, Cond.selects RX2 yX2_reading yX2_reading, Cond.code yX2_reading cX2_reading 2 (some .int), Cond.methodLink RX2 48 yX2_shares, Cond.instanceMethod yX2_shares, Cond.selects RX2 yX2_shares yX2_shares, Cond.code yX2_shares cX2_shares 4 (some .int), Cond.methodLink RX2 44 yX2_share]
def wsX2_swap_r3 : List Cond := [Cond.static yX2_share, Cond.code yX2_share cX2_share 3 (some .int), Cond.methodLink RX2 36 yX2_neighbors, Cond.static yX2_neighbors, Cond.code yX2_neighbors cX2_neighbors 3 (some .int), Cond.methodLink RX2 32 yX2_areNeighbors, Cond.static yX2_areNeighbors, Cond.code yX2_areNeighbors cX2_areNeighbors 3 (some .boolean), Cond.methodLink RX2 51 yX2_of, Cond.instanceMethod yX2_of, Cond.selects RX2 yX2_of yX2_of, Cond.code yX2_of cX2_of 3 (some .int), Cond.methodLink RX2 60 yX2_expected, Cond.instanceMethod yX2_expected, Cond.selects RX2 yX2_expected yX2_expected, Cond.code yX2_expected cX2_expected 2 (some .int), Cond.methodLink RX2 54 yX2_booked, Cond.instanceMethod yX2_booked, Cond.selects RX2 yX2_booked yX2_booked, Cond.code yX2_booked cX2_booked 5 (some .int)]
def wsX2_swap : List Cond := .code yX2_swap cX2_swap 4 (some .int) :: ((wsX2_swap_r1 ++ (wsX2_swap_r2 ++ wsX2_swap_r3)) ++ wsX20)
def wsX2_leave_r1 : List Cond := [Cond.constant RX2 66 (-100001), Cond.constant RX2 70 (-100002), Cond.constant RX2 31 (-100009), Cond.methodLink RX2 81 yX2_isWalker, Cond.instanceMethod yX2_isWalker, Cond.selects RX2 yX2_isWalker yX2_isWalker, Cond.initialized RX2, Cond.code yX2_isWalker cX2_isWalker 2 (some .boolean), Cond.fieldLink RX2 7 "FerryFloorModel" "s" "[I", Cond.methodLink RX2 40 yX2_isAboard, Cond.instanceMethod yX2_isAboard, Cond.selects RX2 yX2_isAboard yX2_isAboard, Cond.code yX2_isAboard cX2_isAboard 2 (some .boolean), Cond.methodLink RX2 27 yX2_ofWalker, Cond.instanceMethod yX2_ofWalker, Cond.selects RX2 yX2_ofWalker yX2_ofWalker, Cond.code yX2_ofWalker cX2_ofWalker 3 (some .int), Cond.methodLink RX2 67 yX2_acts, Cond.instanceMethod yX2_acts, Cond.selects RX2 yX2_acts yX2_acts, Cond.code yX2_acts cX2_acts 2 none, Cond.fieldLink RX2 19 "FerryFloorModel" "pasts" "I", Cond.fieldLink RX2 13 "FerryFloorModel" "past" "[I", Cond.methodLink RX2 77 yX2_on]
def wsX2_leave_r2 : List Cond := [Cond.instanceMethod yX2_on, Cond.selects RX2 yX2_on yX2_on, Cond.code yX2_on cX2_on 5 (some .int), Cond.methodLink RX2 84 yX2_puts, Cond.instanceMethod yX2_puts, Cond.selects RX2 yX2_puts yX2_puts, Cond.code yX2_puts cX2_puts 4 none]
def wsX2_leave : List Cond := .code yX2_leave cX2_leave 3 (some .int) :: ((wsX2_leave_r1 ++ wsX2_leave_r2) ++ wsX20)
def wsX2_setPrice : List Cond := .code yX2_setPrice cX2_setPrice 3 (some .int) :: ([.constant RX2 66 (-100001), .fieldLink RX2 7 "FerryFloorModel" "s" "[I", .methodLink RX2 23 yX2_in, .static yX2_in, .initialized RX2, .code yX2_in cX2_in 3 (some .boolean), .methodLink RX2 67 yX2_acts, .instanceMethod yX2_acts, .selects RX2 yX2_acts yX2_acts, .code yX2_acts cX2_acts 2 none, .fieldLink RX2 19 "FerryFloorModel" "pasts" "I", .fieldLink RX2 13 "FerryFloorModel" "past" "[I"] ++ wsX20)
def wsX2_accuse_r1 : List Cond := [Cond.fieldLink RX2 7 "FerryFloorModel" "s" "[I", Cond.methodLink RX2 88 yX2_whyNotTwo, Cond.instanceMethod yX2_whyNotTwo, Cond.selects RX2 yX2_whyNotTwo yX2_whyNotTwo, Cond.initialized RX2, Cond.code yX2_whyNotTwo cX2_whyNotTwo 3 (some .int), Cond.constant RX2 66 (-100001), Cond.constant RX2 70 (-100002), Cond.methodLink RX2 81 yX2_isWalker, Cond.instanceMethod yX2_isWalker, Cond.selects RX2 yX2_isWalker yX2_isWalker, Cond.code yX2_isWalker cX2_isWalker 2 (some .boolean), Cond.methodLink RX2 40 yX2_isAboard, Cond.instanceMethod yX2_isAboard, Cond.selects RX2 yX2_isAboard yX2_isAboard, Cond.code yX2_isAboard cX2_isAboard 2 (some .boolean), Cond.constant RX2 31 (-100009), Cond.methodLink RX2 27 yX2_ofWalker, Cond.instanceMethod yX2_ofWalker, Cond.selects RX2 yX2_ofWalker yX2_ofWalker, Cond.code yX2_ofWalker cX2_ofWalker 3 (some .int), Cond.methodLink RX2 67 yX2_acts, Cond.instanceMethod yX2_acts, Cond.selects RX2 yX2_acts yX2_acts]
def wsX2_accuse_r2 : List Cond := [Cond.code yX2_acts cX2_acts 2 none, Cond.fieldLink RX2 19 "FerryFloorModel" "pasts" "I", Cond.fieldLink RX2 13 "FerryFloorModel" "past" "[I", Cond.methodLink RX2 91 yX2_exchanges, Cond.instanceMethod yX2_exchanges, Cond.selects RX2 yX2_exchanges yX2_exchanges, Cond.code yX2_exchanges cX2_exchanges 5 none, Cond.methodLink RX2 84 yX2_puts, Cond.instanceMethod yX2_puts, Cond.selects RX2 yX2_puts yX2_puts, Cond.code yX2_puts cX2_puts 4 none, Cond.methodLink RX2 94 yX2_error, Cond.instanceMethod yX2_error, Cond.selects RX2 yX2_error yX2_error, Cond.code yX2_error cX2_error 4 (some .int), Cond.methodLink RX2 57 yX2_reading, Cond.instanceMethod yX2_reading, Cond.selects RX2 yX2_reading yX2_reading, Cond.code yX2_reading cX2_reading 2 (some .int), Cond.methodLink RX2 48 yX2_shares, Cond.instanceMethod yX2_shares, Cond.selects RX2 yX2_shares yX2_shares, Cond.code yX2_shares cX2_shares 4 (some .int), Cond.methodLink RX2 44 yX2_share]
def wsX2_accuse_r3 : List Cond := [Cond.static yX2_share, Cond.code yX2_share cX2_share 3 (some .int), Cond.methodLink RX2 36 yX2_neighbors, Cond.static yX2_neighbors, Cond.code yX2_neighbors cX2_neighbors 3 (some .int), Cond.methodLink RX2 32 yX2_areNeighbors, Cond.static yX2_areNeighbors, Cond.code yX2_areNeighbors cX2_areNeighbors 3 (some .boolean), Cond.methodLink RX2 51 yX2_of, Cond.instanceMethod yX2_of, Cond.selects RX2 yX2_of yX2_of, Cond.code yX2_of cX2_of 3 (some .int), Cond.methodLink RX2 60 yX2_expected, Cond.instanceMethod yX2_expected, Cond.selects RX2 yX2_expected yX2_expected, Cond.code yX2_expected cX2_expected 2 (some .int), Cond.methodLink RX2 54 yX2_booked, Cond.instanceMethod yX2_booked, Cond.selects RX2 yX2_booked yX2_booked, Cond.code yX2_booked cX2_booked 5 (some .int)]
def wsX2_accuse : List Cond := .code yX2_accuse cX2_accuse 4 (some .int) :: ((wsX2_accuse_r1 ++ (wsX2_accuse_r2 ++ wsX2_accuse_r3)) ++ wsX20)
def wsX2_isNear : List Cond := .code yX2_isNear cX2_isNear 2 (some .boolean) :: ([.methodLink RX2 32 yX2_areNeighbors, .static yX2_areNeighbors, .initialized RX2, .code yX2_areNeighbors cX2_areNeighbors 3 (some .boolean)])
def wsX2_estimateOf_r1 : List Cond := [Cond.methodLink RX2 27 yX2_ofWalker, Cond.instanceMethod yX2_ofWalker, Cond.selects RX2 yX2_ofWalker yX2_ofWalker, Cond.initialized RX2, Cond.code yX2_ofWalker cX2_ofWalker 3 (some .int), Cond.fieldLink RX2 7 "FerryFloorModel" "s" "[I", Cond.methodLink RX2 98 yX2_isNear, Cond.static yX2_isNear, Cond.code yX2_isNear cX2_isNear 2 (some .boolean), Cond.methodLink RX2 32 yX2_areNeighbors, Cond.static yX2_areNeighbors, Cond.code yX2_areNeighbors cX2_areNeighbors 3 (some .boolean), Cond.methodLink RX2 57 yX2_reading, Cond.instanceMethod yX2_reading, Cond.selects RX2 yX2_reading yX2_reading, Cond.code yX2_reading cX2_reading 2 (some .int), Cond.methodLink RX2 48 yX2_shares, Cond.instanceMethod yX2_shares, Cond.selects RX2 yX2_shares yX2_shares, Cond.code yX2_shares cX2_shares 4 (some .int), Cond.methodLink RX2 40 yX2_isAboard, Cond.instanceMethod yX2_isAboard, Cond.selects RX2 yX2_isAboard yX2_isAboard, Cond.code yX2_isAboard cX2_isAboard 2 (some .boolean)]
def wsX2_estimateOf_r2 : List Cond := [Cond.constant RX2 31 (-100009), Cond.methodLink RX2 44 yX2_share, Cond.static yX2_share, Cond.code yX2_share cX2_share 3 (some .int), Cond.methodLink RX2 36 yX2_neighbors, Cond.static yX2_neighbors, Cond.code yX2_neighbors cX2_neighbors 3 (some .int), Cond.methodLink RX2 51 yX2_of, Cond.instanceMethod yX2_of, Cond.selects RX2 yX2_of yX2_of, Cond.code yX2_of cX2_of 3 (some .int), Cond.methodLink RX2 54 yX2_booked, Cond.instanceMethod yX2_booked, Cond.selects RX2 yX2_booked yX2_booked, Cond.code yX2_booked cX2_booked 5 (some .int)]
def wsX2_estimateOf : List Cond := .code yX2_estimateOf cX2_estimateOf 4 (some .int) :: ((wsX2_estimateOf_r1 ++ wsX2_estimateOf_r2) ++ wsX20)
def wsX2_earliest : List Cond := .code yX2_earliest cX2_earliest 4 (some .int) :: ([.methodLink RX2 98 yX2_isNear, .static yX2_isNear, .initialized RX2, .code yX2_isNear cX2_isNear 2 (some .boolean), .methodLink RX2 32 yX2_areNeighbors, .static yX2_areNeighbors, .code yX2_areNeighbors cX2_areNeighbors 3 (some .boolean), .methodLink RX2 51 yX2_of, .instanceMethod yX2_of, .selects RX2 yX2_of yX2_of, .code yX2_of cX2_of 3 (some .int), .fieldLink RX2 7 "FerryFloorModel" "s" "[I"] ++ wsX20)
def wsX2_certaintyIn : List Cond := .code yX2_certaintyIn cX2_certaintyIn 4 (some .int) :: ([.fieldLink RX2 7 "FerryFloorModel" "s" "[I", .methodLink RX2 27 yX2_ofWalker, .instanceMethod yX2_ofWalker, .selects RX2 yX2_ofWalker yX2_ofWalker, .initialized RX2, .code yX2_ofWalker cX2_ofWalker 3 (some .int), .methodLink RX2 101 yX2_earliest, .instanceMethod yX2_earliest, .selects RX2 yX2_earliest yX2_earliest, .code yX2_earliest cX2_earliest 4 (some .int), .methodLink RX2 98 yX2_isNear, .static yX2_isNear, .code yX2_isNear cX2_isNear 2 (some .boolean), .methodLink RX2 32 yX2_areNeighbors, .static yX2_areNeighbors, .code yX2_areNeighbors cX2_areNeighbors 3 (some .boolean), .methodLink RX2 51 yX2_of, .instanceMethod yX2_of, .selects RX2 yX2_of yX2_of, .code yX2_of cX2_of 3 (some .int)] ++ wsX20)
def wsX2_sumOf_r1 : List Cond := [Cond.methodLink RX2 57 yX2_reading, Cond.instanceMethod yX2_reading, Cond.selects RX2 yX2_reading yX2_reading, Cond.initialized RX2, Cond.code yX2_reading cX2_reading 2 (some .int), Cond.methodLink RX2 48 yX2_shares, Cond.instanceMethod yX2_shares, Cond.selects RX2 yX2_shares yX2_shares, Cond.code yX2_shares cX2_shares 4 (some .int), Cond.fieldLink RX2 7 "FerryFloorModel" "s" "[I", Cond.methodLink RX2 40 yX2_isAboard, Cond.instanceMethod yX2_isAboard, Cond.selects RX2 yX2_isAboard yX2_isAboard, Cond.code yX2_isAboard cX2_isAboard 2 (some .boolean), Cond.constant RX2 31 (-100009), Cond.methodLink RX2 27 yX2_ofWalker, Cond.instanceMethod yX2_ofWalker, Cond.selects RX2 yX2_ofWalker yX2_ofWalker, Cond.code yX2_ofWalker cX2_ofWalker 3 (some .int), Cond.methodLink RX2 44 yX2_share, Cond.static yX2_share, Cond.code yX2_share cX2_share 3 (some .int), Cond.methodLink RX2 36 yX2_neighbors, Cond.static yX2_neighbors]
def wsX2_sumOf_r2 : List Cond := [Cond.code yX2_neighbors cX2_neighbors 3 (some .int), Cond.methodLink RX2 32 yX2_areNeighbors, Cond.static yX2_areNeighbors, Cond.code yX2_areNeighbors cX2_areNeighbors 3 (some .boolean), Cond.methodLink RX2 51 yX2_of, Cond.instanceMethod yX2_of, Cond.selects RX2 yX2_of yX2_of, Cond.code yX2_of cX2_of 3 (some .int)]
def wsX2_sumOf : List Cond := .code yX2_sumOf cX2_sumOf 4 (some .int) :: ((wsX2_sumOf_r1 ++ wsX2_sumOf_r2) ++ wsX20)
def wsX2_bill_r1 : List Cond := [Cond.constant RX2 66 (-100001), Cond.constant RX2 31 (-100009), Cond.constant RX2 70 (-100002), Cond.fieldLink RX2 7 "FerryFloorModel" "s" "[I", Cond.methodLink RX2 81 yX2_isWalker, Cond.instanceMethod yX2_isWalker, Cond.selects RX2 yX2_isWalker yX2_isWalker, Cond.initialized RX2, Cond.code yX2_isWalker cX2_isWalker 2 (some .boolean), Cond.methodLink RX2 40 yX2_isAboard, Cond.instanceMethod yX2_isAboard, Cond.selects RX2 yX2_isAboard yX2_isAboard, Cond.code yX2_isAboard cX2_isAboard 2 (some .boolean), Cond.methodLink RX2 27 yX2_ofWalker, Cond.instanceMethod yX2_ofWalker, Cond.selects RX2 yX2_ofWalker yX2_ofWalker, Cond.code yX2_ofWalker cX2_ofWalker 3 (some .int), Cond.methodLink RX2 67 yX2_acts, Cond.instanceMethod yX2_acts, Cond.selects RX2 yX2_acts yX2_acts, Cond.code yX2_acts cX2_acts 2 none, Cond.fieldLink RX2 19 "FerryFloorModel" "pasts" "I", Cond.fieldLink RX2 13 "FerryFloorModel" "past" "[I", Cond.methodLink RX2 104 yX2_estimateOf]
def wsX2_bill_r2 : List Cond := [Cond.instanceMethod yX2_estimateOf, Cond.selects RX2 yX2_estimateOf yX2_estimateOf, Cond.code yX2_estimateOf cX2_estimateOf 4 (some .int), Cond.methodLink RX2 98 yX2_isNear, Cond.static yX2_isNear, Cond.code yX2_isNear cX2_isNear 2 (some .boolean), Cond.methodLink RX2 32 yX2_areNeighbors, Cond.static yX2_areNeighbors, Cond.code yX2_areNeighbors cX2_areNeighbors 3 (some .boolean), Cond.methodLink RX2 57 yX2_reading, Cond.instanceMethod yX2_reading, Cond.selects RX2 yX2_reading yX2_reading, Cond.code yX2_reading cX2_reading 2 (some .int), Cond.methodLink RX2 48 yX2_shares, Cond.instanceMethod yX2_shares, Cond.selects RX2 yX2_shares yX2_shares, Cond.code yX2_shares cX2_shares 4 (some .int), Cond.methodLink RX2 44 yX2_share, Cond.static yX2_share, Cond.code yX2_share cX2_share 3 (some .int), Cond.methodLink RX2 36 yX2_neighbors, Cond.static yX2_neighbors, Cond.code yX2_neighbors cX2_neighbors 3 (some .int), Cond.methodLink RX2 51 yX2_of]
def wsX2_bill_r3 : List Cond := [Cond.instanceMethod yX2_of, Cond.selects RX2 yX2_of yX2_of, Cond.code yX2_of cX2_of 3 (some .int), Cond.methodLink RX2 54 yX2_booked, Cond.instanceMethod yX2_booked, Cond.selects RX2 yX2_booked yX2_booked, Cond.code yX2_booked cX2_booked 5 (some .int), Cond.methodLink RX2 107 yX2_certaintyIn, Cond.instanceMethod yX2_certaintyIn, Cond.selects RX2 yX2_certaintyIn yX2_certaintyIn, Cond.code yX2_certaintyIn cX2_certaintyIn 4 (some .int), Cond.methodLink RX2 101 yX2_earliest, Cond.instanceMethod yX2_earliest, Cond.selects RX2 yX2_earliest yX2_earliest, Cond.code yX2_earliest cX2_earliest 4 (some .int), Cond.methodLink RX2 110 yX2_sumOf, Cond.instanceMethod yX2_sumOf, Cond.selects RX2 yX2_sumOf yX2_sumOf, Cond.code yX2_sumOf cX2_sumOf 4 (some .int), Cond.methodLink RX2 84 yX2_puts, Cond.instanceMethod yX2_puts, Cond.selects RX2 yX2_puts yX2_puts, Cond.code yX2_puts cX2_puts 4 none]
def wsX2_bill : List Cond := .code yX2_bill cX2_bill 4 (some .int) :: ((wsX2_bill_r1 ++ (wsX2_bill_r2 ++ wsX2_bill_r3)) ++ wsX20)
def wsX2_complain_r1 : List Cond := [Cond.constant RX2 66 (-100001), Cond.constant RX2 31 (-100009), Cond.constant RX2 70 (-100002), Cond.fieldLink RX2 7 "FerryFloorModel" "s" "[I", Cond.methodLink RX2 81 yX2_isWalker, Cond.instanceMethod yX2_isWalker, Cond.selects RX2 yX2_isWalker yX2_isWalker, Cond.initialized RX2, Cond.code yX2_isWalker cX2_isWalker 2 (some .boolean), Cond.methodLink RX2 40 yX2_isAboard, Cond.instanceMethod yX2_isAboard, Cond.selects RX2 yX2_isAboard yX2_isAboard, Cond.code yX2_isAboard cX2_isAboard 2 (some .boolean), Cond.methodLink RX2 27 yX2_ofWalker, Cond.instanceMethod yX2_ofWalker, Cond.selects RX2 yX2_ofWalker yX2_ofWalker, Cond.code yX2_ofWalker cX2_ofWalker 3 (some .int), Cond.methodLink RX2 67 yX2_acts, Cond.instanceMethod yX2_acts, Cond.selects RX2 yX2_acts yX2_acts, Cond.code yX2_acts cX2_acts 2 none, Cond.fieldLink RX2 19 "FerryFloorModel" "pasts" "I", Cond.fieldLink RX2 13 "FerryFloorModel" "past" "[I", Cond.methodLink RX2 84 yX2_puts]
def wsX2_complain_r2 : List Cond := [Cond.instanceMethod yX2_puts, Cond.selects RX2 yX2_puts yX2_puts, Cond.code yX2_puts cX2_puts 4 none]
def wsX2_complain : List Cond := .code yX2_complain cX2_complain 3 (some .int) :: ((wsX2_complain_r1 ++ wsX2_complain_r2) ++ wsX20)
def wsX2_undo : List Cond := .code yX2_undo cX2_undo 2 (some .int) :: ([.fieldLink RX2 19 "FerryFloorModel" "pasts" "I", .constant RX2 70 (-100002), .fieldLink RX2 7 "FerryFloorModel" "s" "[I", .fieldLink RX2 13 "FerryFloorModel" "past" "[I"] ++ wsX20)
def wsX2_many : List Cond := .code yX2_many cX2_many 4 (some .int) :: ([.fieldLink RX2 7 "FerryFloorModel" "s" "[I", .methodLink RX2 40 yX2_isAboard, .instanceMethod yX2_isAboard, .selects RX2 yX2_isAboard yX2_isAboard, .initialized RX2, .code yX2_isAboard cX2_isAboard 2 (some .boolean), .constant RX2 31 (-100009), .methodLink RX2 27 yX2_ofWalker, .instanceMethod yX2_ofWalker, .selects RX2 yX2_ofWalker yX2_ofWalker, .code yX2_ofWalker cX2_ofWalker 3 (some .int)] ++ wsX20)
def wsX2_count_r1 : List Cond := [Cond.fieldLink RX2 7 "FerryFloorModel" "s" "[I", Cond.fieldLink RX2 19 "FerryFloorModel" "pasts" "I", Cond.constant RX2 66 (-100001), Cond.methodLink RX2 114 yX2_many, Cond.instanceMethod yX2_many, Cond.selects RX2 yX2_many yX2_many, Cond.initialized RX2, Cond.code yX2_many cX2_many 4 (some .int), Cond.methodLink RX2 40 yX2_isAboard, Cond.instanceMethod yX2_isAboard, Cond.selects RX2 yX2_isAboard yX2_isAboard, Cond.code yX2_isAboard cX2_isAboard 2 (some .boolean), Cond.constant RX2 31 (-100009), Cond.methodLink RX2 27 yX2_ofWalker, Cond.instanceMethod yX2_ofWalker, Cond.selects RX2 yX2_ofWalker yX2_ofWalker, Cond.code yX2_ofWalker cX2_ofWalker 3 (some .int), Cond.methodLink RX2 94 yX2_error, Cond.instanceMethod yX2_error, Cond.selects RX2 yX2_error yX2_error, Cond.code yX2_error cX2_error 4 (some .int), Cond.methodLink RX2 57 yX2_reading, Cond.instanceMethod yX2_reading, Cond.selects RX2 yX2_reading yX2_reading]
def wsX2_count_r2 : List Cond := [Cond.code yX2_reading cX2_reading 2 (some .int), Cond.methodLink RX2 48 yX2_shares, Cond.instanceMethod yX2_shares, Cond.selects RX2 yX2_shares yX2_shares, Cond.code yX2_shares cX2_shares 4 (some .int), Cond.methodLink RX2 44 yX2_share, Cond.static yX2_share, Cond.code yX2_share cX2_share 3 (some .int), Cond.methodLink RX2 36 yX2_neighbors, Cond.static yX2_neighbors, Cond.code yX2_neighbors cX2_neighbors 3 (some .int), Cond.methodLink RX2 32 yX2_areNeighbors, Cond.static yX2_areNeighbors, Cond.code yX2_areNeighbors cX2_areNeighbors 3 (some .boolean), Cond.methodLink RX2 51 yX2_of, Cond.instanceMethod yX2_of, Cond.selects RX2 yX2_of yX2_of, Cond.code yX2_of cX2_of 3 (some .int), Cond.methodLink RX2 60 yX2_expected, Cond.instanceMethod yX2_expected, Cond.selects RX2 yX2_expected yX2_expected, Cond.code yX2_expected cX2_expected 2 (some .int), Cond.methodLink RX2 54 yX2_booked, Cond.instanceMethod yX2_booked]
def wsX2_count_r3 : List Cond := [Cond.selects RX2 yX2_booked yX2_booked, Cond.code yX2_booked cX2_booked 5 (some .int), Cond.methodLink RX2 110 yX2_sumOf, Cond.instanceMethod yX2_sumOf, Cond.selects RX2 yX2_sumOf yX2_sumOf, Cond.code yX2_sumOf cX2_sumOf 4 (some .int)]
def wsX2_count : List Cond := .code yX2_count cX2_count 2 (some .int) :: ((wsX2_count_r1 ++ (wsX2_count_r2 ++ wsX2_count_r3)) ++ wsX20)
def wsX2_cell_r1 : List Cond := [Cond.constant RX2 66 (-100001), Cond.methodLink RX2 63 yX2_isCell, Cond.static yX2_isCell, Cond.initialized RX2, Cond.code yX2_isCell cX2_isCell 1 (some .boolean), Cond.methodLink RX2 23 yX2_in, Cond.static yX2_in, Cond.code yX2_in cX2_in 3 (some .boolean), Cond.methodLink RX2 57 yX2_reading, Cond.instanceMethod yX2_reading, Cond.selects RX2 yX2_reading yX2_reading, Cond.code yX2_reading cX2_reading 2 (some .int), Cond.methodLink RX2 48 yX2_shares, Cond.instanceMethod yX2_shares, Cond.selects RX2 yX2_shares yX2_shares, Cond.code yX2_shares cX2_shares 4 (some .int), Cond.fieldLink RX2 7 "FerryFloorModel" "s" "[I", Cond.methodLink RX2 40 yX2_isAboard, Cond.instanceMethod yX2_isAboard, Cond.selects RX2 yX2_isAboard yX2_isAboard, Cond.code yX2_isAboard cX2_isAboard 2 (some .boolean), Cond.constant RX2 31 (-100009), Cond.methodLink RX2 27 yX2_ofWalker, Cond.instanceMethod yX2_ofWalker]
def wsX2_cell_r2 : List Cond := [Cond.selects RX2 yX2_ofWalker yX2_ofWalker, Cond.code yX2_ofWalker cX2_ofWalker 3 (some .int), Cond.methodLink RX2 44 yX2_share, Cond.static yX2_share, Cond.code yX2_share cX2_share 3 (some .int), Cond.methodLink RX2 36 yX2_neighbors, Cond.static yX2_neighbors, Cond.code yX2_neighbors cX2_neighbors 3 (some .int), Cond.methodLink RX2 32 yX2_areNeighbors, Cond.static yX2_areNeighbors, Cond.code yX2_areNeighbors cX2_areNeighbors 3 (some .boolean), Cond.methodLink RX2 51 yX2_of, Cond.instanceMethod yX2_of, Cond.selects RX2 yX2_of yX2_of, Cond.code yX2_of cX2_of 3 (some .int), Cond.methodLink RX2 60 yX2_expected, Cond.instanceMethod yX2_expected, Cond.selects RX2 yX2_expected yX2_expected, Cond.code yX2_expected cX2_expected 2 (some .int), Cond.methodLink RX2 54 yX2_booked, Cond.instanceMethod yX2_booked, Cond.selects RX2 yX2_booked yX2_booked, Cond.code yX2_booked cX2_booked 5 (some .int), Cond.methodLink RX2 77 yX2_on]
def wsX2_cell_r3 : List Cond := [Cond.instanceMethod yX2_on, Cond.selects RX2 yX2_on yX2_on, Cond.code yX2_on cX2_on 5 (some .int)]
def wsX2_cell : List Cond := .code yX2_cell cX2_cell 3 (some .int) :: ((wsX2_cell_r1 ++ (wsX2_cell_r2 ++ wsX2_cell_r3)) ++ wsX20)
def wsX2_walker : List Cond := .code yX2_walker cX2_walker 3 (some .int) :: ([.constant RX2 66 (-100001), .methodLink RX2 81 yX2_isWalker, .instanceMethod yX2_isWalker, .selects RX2 yX2_isWalker yX2_isWalker, .initialized RX2, .code yX2_isWalker cX2_isWalker 2 (some .boolean), .fieldLink RX2 7 "FerryFloorModel" "s" "[I", .methodLink RX2 23 yX2_in, .static yX2_in, .code yX2_in cX2_in 3 (some .boolean), .methodLink RX2 27 yX2_ofWalker, .instanceMethod yX2_ofWalker, .selects RX2 yX2_ofWalker yX2_ofWalker, .code yX2_ofWalker cX2_ofWalker 3 (some .int)] ++ wsX20)
def wsX2_estimate_r1 : List Cond := [Cond.constant RX2 66 (-100001), Cond.constant RX2 70 (-100002), Cond.methodLink RX2 81 yX2_isWalker, Cond.instanceMethod yX2_isWalker, Cond.selects RX2 yX2_isWalker yX2_isWalker, Cond.initialized RX2, Cond.code yX2_isWalker cX2_isWalker 2 (some .boolean), Cond.fieldLink RX2 7 "FerryFloorModel" "s" "[I", Cond.methodLink RX2 40 yX2_isAboard, Cond.instanceMethod yX2_isAboard, Cond.selects RX2 yX2_isAboard yX2_isAboard, Cond.code yX2_isAboard cX2_isAboard 2 (some .boolean), Cond.constant RX2 31 (-100009), Cond.methodLink RX2 27 yX2_ofWalker, Cond.instanceMethod yX2_ofWalker, Cond.selects RX2 yX2_ofWalker yX2_ofWalker, Cond.code yX2_ofWalker cX2_ofWalker 3 (some .int), Cond.methodLink RX2 104 yX2_estimateOf, Cond.instanceMethod yX2_estimateOf, Cond.selects RX2 yX2_estimateOf yX2_estimateOf, Cond.code yX2_estimateOf cX2_estimateOf 4 (some .int), Cond.methodLink RX2 98 yX2_isNear, Cond.static yX2_isNear, Cond.code yX2_isNear cX2_isNear 2 (some .boolean)]
def wsX2_estimate_r2 : List Cond := [Cond.methodLink RX2 32 yX2_areNeighbors, Cond.static yX2_areNeighbors, Cond.code yX2_areNeighbors cX2_areNeighbors 3 (some .boolean), Cond.methodLink RX2 57 yX2_reading, Cond.instanceMethod yX2_reading, Cond.selects RX2 yX2_reading yX2_reading, Cond.code yX2_reading cX2_reading 2 (some .int), Cond.methodLink RX2 48 yX2_shares, Cond.instanceMethod yX2_shares, Cond.selects RX2 yX2_shares yX2_shares, Cond.code yX2_shares cX2_shares 4 (some .int), Cond.methodLink RX2 44 yX2_share, Cond.static yX2_share, Cond.code yX2_share cX2_share 3 (some .int), Cond.methodLink RX2 36 yX2_neighbors, Cond.static yX2_neighbors, Cond.code yX2_neighbors cX2_neighbors 3 (some .int), Cond.methodLink RX2 51 yX2_of, Cond.instanceMethod yX2_of, Cond.selects RX2 yX2_of yX2_of, Cond.code yX2_of cX2_of 3 (some .int), Cond.methodLink RX2 54 yX2_booked, Cond.instanceMethod yX2_booked, Cond.selects RX2 yX2_booked yX2_booked]
def wsX2_estimate_r3 : List Cond := [Cond.code yX2_booked cX2_booked 5 (some .int)]
def wsX2_estimate : List Cond := .code yX2_estimate cX2_estimate 2 (some .int) :: ((wsX2_estimate_r1 ++ (wsX2_estimate_r2 ++ wsX2_estimate_r3)) ++ wsX20)
def wsX2_certainty_r1 : List Cond := [Cond.constant RX2 66 (-100001), Cond.constant RX2 70 (-100002), Cond.methodLink RX2 81 yX2_isWalker, Cond.instanceMethod yX2_isWalker, Cond.selects RX2 yX2_isWalker yX2_isWalker, Cond.initialized RX2, Cond.code yX2_isWalker cX2_isWalker 2 (some .boolean), Cond.fieldLink RX2 7 "FerryFloorModel" "s" "[I", Cond.methodLink RX2 40 yX2_isAboard, Cond.instanceMethod yX2_isAboard, Cond.selects RX2 yX2_isAboard yX2_isAboard, Cond.code yX2_isAboard cX2_isAboard 2 (some .boolean), Cond.constant RX2 31 (-100009), Cond.methodLink RX2 27 yX2_ofWalker, Cond.instanceMethod yX2_ofWalker, Cond.selects RX2 yX2_ofWalker yX2_ofWalker, Cond.code yX2_ofWalker cX2_ofWalker 3 (some .int), Cond.methodLink RX2 107 yX2_certaintyIn, Cond.instanceMethod yX2_certaintyIn, Cond.selects RX2 yX2_certaintyIn yX2_certaintyIn, Cond.code yX2_certaintyIn cX2_certaintyIn 4 (some .int), Cond.methodLink RX2 101 yX2_earliest, Cond.instanceMethod yX2_earliest, Cond.selects RX2 yX2_earliest yX2_earliest]
def wsX2_certainty_r2 : List Cond := [Cond.code yX2_earliest cX2_earliest 4 (some .int), Cond.methodLink RX2 98 yX2_isNear, Cond.static yX2_isNear, Cond.code yX2_isNear cX2_isNear 2 (some .boolean), Cond.methodLink RX2 32 yX2_areNeighbors, Cond.static yX2_areNeighbors, Cond.code yX2_areNeighbors cX2_areNeighbors 3 (some .boolean), Cond.methodLink RX2 51 yX2_of, Cond.instanceMethod yX2_of, Cond.selects RX2 yX2_of yX2_of, Cond.code yX2_of cX2_of 3 (some .int)]
def wsX2_certainty : List Cond := .code yX2_certainty cX2_certainty 2 (some .int) :: ((wsX2_certainty_r1 ++ wsX2_certainty_r2) ++ wsX20)
def wsX2_bestTwo_r1 : List Cond := [Cond.constant RX2 31 (-100009), Cond.fieldLink RX2 117 "FerryFloorModel" "least" "I", Cond.fieldLink RX2 7 "FerryFloorModel" "s" "[I", Cond.methodLink RX2 94 yX2_error, Cond.instanceMethod yX2_error, Cond.selects RX2 yX2_error yX2_error, Cond.initialized RX2, Cond.code yX2_error cX2_error 4 (some .int), Cond.methodLink RX2 57 yX2_reading, Cond.instanceMethod yX2_reading, Cond.selects RX2 yX2_reading yX2_reading, Cond.code yX2_reading cX2_reading 2 (some .int), Cond.methodLink RX2 48 yX2_shares, Cond.instanceMethod yX2_shares, Cond.selects RX2 yX2_shares yX2_shares, Cond.code yX2_shares cX2_shares 4 (some .int), Cond.methodLink RX2 40 yX2_isAboard, Cond.instanceMethod yX2_isAboard, Cond.selects RX2 yX2_isAboard yX2_isAboard, Cond.code yX2_isAboard cX2_isAboard 2 (some .boolean), Cond.methodLink RX2 27 yX2_ofWalker, Cond.instanceMethod yX2_ofWalker, Cond.selects RX2 yX2_ofWalker yX2_ofWalker, Cond.code yX2_ofWalker cX2_ofWalker 3 (some .int)]
def wsX2_bestTwo_r2 : List Cond := [Cond.methodLink RX2 44 yX2_share, Cond.static yX2_share, Cond.code yX2_share cX2_share 3 (some .int), Cond.methodLink RX2 36 yX2_neighbors, Cond.static yX2_neighbors, Cond.code yX2_neighbors cX2_neighbors 3 (some .int), Cond.methodLink RX2 32 yX2_areNeighbors, Cond.static yX2_areNeighbors, Cond.code yX2_areNeighbors cX2_areNeighbors 3 (some .boolean), Cond.methodLink RX2 51 yX2_of, Cond.instanceMethod yX2_of, Cond.selects RX2 yX2_of yX2_of, Cond.code yX2_of cX2_of 3 (some .int), Cond.methodLink RX2 60 yX2_expected, Cond.instanceMethod yX2_expected, Cond.selects RX2 yX2_expected yX2_expected, Cond.code yX2_expected cX2_expected 2 (some .int), Cond.methodLink RX2 54 yX2_booked, Cond.instanceMethod yX2_booked, Cond.selects RX2 yX2_booked yX2_booked, Cond.code yX2_booked cX2_booked 5 (some .int), Cond.methodLink RX2 91 yX2_exchanges, Cond.instanceMethod yX2_exchanges, Cond.selects RX2 yX2_exchanges yX2_exchanges]
def wsX2_bestTwo_r3 : List Cond := [Cond.code yX2_exchanges cX2_exchanges 5 none, Cond.methodLink RX2 84 yX2_puts, Cond.instanceMethod yX2_puts, Cond.selects RX2 yX2_puts yX2_puts, Cond.code yX2_puts cX2_puts 4 none]
def wsX2_bestTwo : List Cond := .code yX2_bestTwo cX2_bestTwo 5 (some .int) :: ((wsX2_bestTwo_r1 ++ (wsX2_bestTwo_r2 ++ wsX2_bestTwo_r3)) ++ wsX20)
def wsX2_guess_r1 : List Cond := [Cond.constant RX2 66 (-100001), Cond.constant RX2 31 (-100009), Cond.fieldLink RX2 117 "FerryFloorModel" "least" "I", Cond.methodLink RX2 23 yX2_in, Cond.static yX2_in, Cond.initialized RX2, Cond.code yX2_in cX2_in 3 (some .boolean), Cond.methodLink RX2 120 yX2_bestTwo, Cond.instanceMethod yX2_bestTwo, Cond.selects RX2 yX2_bestTwo yX2_bestTwo, Cond.code yX2_bestTwo cX2_bestTwo 5 (some .int), Cond.fieldLink RX2 7 "FerryFloorModel" "s" "[I", Cond.methodLink RX2 94 yX2_error, Cond.instanceMethod yX2_error, Cond.selects RX2 yX2_error yX2_error, Cond.code yX2_error cX2_error 4 (some .int), Cond.methodLink RX2 57 yX2_reading, Cond.instanceMethod yX2_reading, Cond.selects RX2 yX2_reading yX2_reading, Cond.code yX2_reading cX2_reading 2 (some .int), Cond.methodLink RX2 48 yX2_shares, Cond.instanceMethod yX2_shares, Cond.selects RX2 yX2_shares yX2_shares, Cond.code yX2_shares cX2_shares 4 (some .int)]
def wsX2_guess_r2 : List Cond := [Cond.methodLink RX2 40 yX2_isAboard, Cond.instanceMethod yX2_isAboard, Cond.selects RX2 yX2_isAboard yX2_isAboard, Cond.code yX2_isAboard cX2_isAboard 2 (some .boolean), Cond.methodLink RX2 27 yX2_ofWalker, Cond.instanceMethod yX2_ofWalker, Cond.selects RX2 yX2_ofWalker yX2_ofWalker, Cond.code yX2_ofWalker cX2_ofWalker 3 (some .int), Cond.methodLink RX2 44 yX2_share, Cond.static yX2_share, Cond.code yX2_share cX2_share 3 (some .int), Cond.methodLink RX2 36 yX2_neighbors, Cond.static yX2_neighbors, Cond.code yX2_neighbors cX2_neighbors 3 (some .int), Cond.methodLink RX2 32 yX2_areNeighbors, Cond.static yX2_areNeighbors, Cond.code yX2_areNeighbors cX2_areNeighbors 3 (some .boolean), Cond.methodLink RX2 51 yX2_of, Cond.instanceMethod yX2_of, Cond.selects RX2 yX2_of yX2_of, Cond.code yX2_of cX2_of 3 (some .int), Cond.methodLink RX2 60 yX2_expected, Cond.instanceMethod yX2_expected, Cond.selects RX2 yX2_expected yX2_expected]
def wsX2_guess_r3 : List Cond := [Cond.code yX2_expected cX2_expected 2 (some .int), Cond.methodLink RX2 54 yX2_booked, Cond.instanceMethod yX2_booked, Cond.selects RX2 yX2_booked yX2_booked, Cond.code yX2_booked cX2_booked 5 (some .int), Cond.methodLink RX2 91 yX2_exchanges, Cond.instanceMethod yX2_exchanges, Cond.selects RX2 yX2_exchanges yX2_exchanges, Cond.code yX2_exchanges cX2_exchanges 5 none, Cond.methodLink RX2 84 yX2_puts, Cond.instanceMethod yX2_puts, Cond.selects RX2 yX2_puts yX2_puts, Cond.code yX2_puts cX2_puts 4 none]
def wsX2_guess : List Cond := .code yX2_guess cX2_guess 3 (some .int) :: ((wsX2_guess_r1 ++ (wsX2_guess_r2 ++ wsX2_guess_r3)) ++ wsX20)
def wsX2_mend_r1 : List Cond := [Cond.constant RX2 66 (-100001), Cond.fieldLink RX2 16 "FerryFloorModel" "held" "[I", Cond.constant RX2 31 (-100009), Cond.methodLink RX2 23 yX2_in, Cond.static yX2_in, Cond.initialized RX2, Cond.code yX2_in cX2_in 3 (some .boolean), Cond.methodLink RX2 27 yX2_ofWalker, Cond.instanceMethod yX2_ofWalker, Cond.selects RX2 yX2_ofWalker yX2_ofWalker, Cond.code yX2_ofWalker cX2_ofWalker 3 (some .int), Cond.fieldLink RX2 7 "FerryFloorModel" "s" "[I", Cond.methodLink RX2 120 yX2_bestTwo, Cond.instanceMethod yX2_bestTwo, Cond.selects RX2 yX2_bestTwo yX2_bestTwo, Cond.code yX2_bestTwo cX2_bestTwo 5 (some .int), Cond.fieldLink RX2 117 "FerryFloorModel" "least" "I", Cond.methodLink RX2 94 yX2_error, Cond.instanceMethod yX2_error, Cond.selects RX2 yX2_error yX2_error, Cond.code yX2_error cX2_error 4 (some .int), Cond.methodLink RX2 57 yX2_reading, Cond.instanceMethod yX2_reading, Cond.selects RX2 yX2_reading yX2_reading]
def wsX2_mend_r2 : List Cond := [Cond.code yX2_reading cX2_reading 2 (some .int), Cond.methodLink RX2 48 yX2_shares, Cond.instanceMethod yX2_shares, Cond.selects RX2 yX2_shares yX2_shares, Cond.code yX2_shares cX2_shares 4 (some .int), Cond.methodLink RX2 40 yX2_isAboard, Cond.instanceMethod yX2_isAboard, Cond.selects RX2 yX2_isAboard yX2_isAboard, Cond.code yX2_isAboard cX2_isAboard 2 (some .boolean), Cond.methodLink RX2 44 yX2_share, Cond.static yX2_share, Cond.code yX2_share cX2_share 3 (some .int), Cond.methodLink RX2 36 yX2_neighbors, Cond.static yX2_neighbors, Cond.code yX2_neighbors cX2_neighbors 3 (some .int), Cond.methodLink RX2 32 yX2_areNeighbors, Cond.static yX2_areNeighbors, Cond.code yX2_areNeighbors cX2_areNeighbors 3 (some .boolean), Cond.methodLink RX2 51 yX2_of, Cond.instanceMethod yX2_of, Cond.selects RX2 yX2_of yX2_of, Cond.code yX2_of cX2_of 3 (some .int), Cond.methodLink RX2 60 yX2_expected, Cond.instanceMethod yX2_expected]
def wsX2_mend_r3 : List Cond := [Cond.selects RX2 yX2_expected yX2_expected, Cond.code yX2_expected cX2_expected 2 (some .int), Cond.methodLink RX2 54 yX2_booked, Cond.instanceMethod yX2_booked, Cond.selects RX2 yX2_booked yX2_booked, Cond.code yX2_booked cX2_booked 5 (some .int), Cond.methodLink RX2 91 yX2_exchanges, Cond.instanceMethod yX2_exchanges, Cond.selects RX2 yX2_exchanges yX2_exchanges, Cond.code yX2_exchanges cX2_exchanges 5 none, Cond.methodLink RX2 84 yX2_puts, Cond.instanceMethod yX2_puts, Cond.selects RX2 yX2_puts yX2_puts, Cond.code yX2_puts cX2_puts 4 none]
def wsX2_mend : List Cond := .code yX2_mend cX2_mend 6 (some .int) :: ((wsX2_mend_r1 ++ (wsX2_mend_r2 ++ wsX2_mend_r3)) ++ wsX20)
def wsX2_bestCell_r1 : List Cond := [Cond.constant RX2 31 (-100009), Cond.methodLink RX2 77 yX2_on, Cond.instanceMethod yX2_on, Cond.selects RX2 yX2_on yX2_on, Cond.initialized RX2, Cond.code yX2_on cX2_on 5 (some .int), Cond.fieldLink RX2 7 "FerryFloorModel" "s" "[I", Cond.methodLink RX2 40 yX2_isAboard, Cond.instanceMethod yX2_isAboard, Cond.selects RX2 yX2_isAboard yX2_isAboard, Cond.code yX2_isAboard cX2_isAboard 2 (some .boolean), Cond.methodLink RX2 27 yX2_ofWalker, Cond.instanceMethod yX2_ofWalker, Cond.selects RX2 yX2_ofWalker yX2_ofWalker, Cond.code yX2_ofWalker cX2_ofWalker 3 (some .int), Cond.methodLink RX2 101 yX2_earliest, Cond.instanceMethod yX2_earliest, Cond.selects RX2 yX2_earliest yX2_earliest, Cond.code yX2_earliest cX2_earliest 4 (some .int), Cond.methodLink RX2 98 yX2_isNear, Cond.static yX2_isNear, Cond.code yX2_isNear cX2_isNear 2 (some .boolean), Cond.methodLink RX2 32 yX2_areNeighbors, Cond.static yX2_areNeighbors]
def wsX2_bestCell_r2 : List Cond := [Cond.code yX2_areNeighbors cX2_areNeighbors 3 (some .boolean), Cond.methodLink RX2 51 yX2_of, Cond.instanceMethod yX2_of, Cond.selects RX2 yX2_of yX2_of, Cond.code yX2_of cX2_of 3 (some .int)]
def wsX2_bestCell : List Cond := .code yX2_bestCell cX2_bestCell 5 (some .int) :: ((wsX2_bestCell_r1 ++ wsX2_bestCell_r2) ++ wsX20)
def wsX2_until_r1 : List Cond := [Cond.constant RX2 66 (-100001), Cond.constant RX2 70 (-100002), Cond.methodLink RX2 81 yX2_isWalker, Cond.instanceMethod yX2_isWalker, Cond.selects RX2 yX2_isWalker yX2_isWalker, Cond.initialized RX2, Cond.code yX2_isWalker cX2_isWalker 2 (some .boolean), Cond.fieldLink RX2 7 "FerryFloorModel" "s" "[I", Cond.methodLink RX2 23 yX2_in, Cond.static yX2_in, Cond.code yX2_in cX2_in 3 (some .boolean), Cond.methodLink RX2 40 yX2_isAboard, Cond.instanceMethod yX2_isAboard, Cond.selects RX2 yX2_isAboard yX2_isAboard, Cond.code yX2_isAboard cX2_isAboard 2 (some .boolean), Cond.constant RX2 31 (-100009), Cond.methodLink RX2 27 yX2_ofWalker, Cond.instanceMethod yX2_ofWalker, Cond.selects RX2 yX2_ofWalker yX2_ofWalker, Cond.code yX2_ofWalker cX2_ofWalker 3 (some .int), Cond.methodLink RX2 107 yX2_certaintyIn, Cond.instanceMethod yX2_certaintyIn, Cond.selects RX2 yX2_certaintyIn yX2_certaintyIn, Cond.code yX2_certaintyIn cX2_certaintyIn 4 (some .int)]
def wsX2_until_r2 : List Cond := [Cond.methodLink RX2 101 yX2_earliest, Cond.instanceMethod yX2_earliest, Cond.selects RX2 yX2_earliest yX2_earliest, Cond.code yX2_earliest cX2_earliest 4 (some .int), Cond.methodLink RX2 98 yX2_isNear, Cond.static yX2_isNear, Cond.code yX2_isNear cX2_isNear 2 (some .boolean), Cond.methodLink RX2 32 yX2_areNeighbors, Cond.static yX2_areNeighbors, Cond.code yX2_areNeighbors cX2_areNeighbors 3 (some .boolean), Cond.methodLink RX2 51 yX2_of, Cond.instanceMethod yX2_of, Cond.selects RX2 yX2_of yX2_of, Cond.code yX2_of cX2_of 3 (some .int)]
def wsX2_until : List Cond := .code yX2_until cX2_until 4 (some .int) :: ((wsX2_until_r1 ++ wsX2_until_r2) ++ wsX20)
def wsJ9_abs_0f7a4 : List Cond := .code yJ9_abs_0f7a4 cJ9_abs_0f7a4 1 (some .int) :: ([])
def wsJ9_max_7cf53 : List Cond := .code yJ9_max_7cf53 cJ9_max_7cf53 2 (some .int) :: ([])
def wsJ9_min_7cf53 : List Cond := .code yJ9_min_7cf53 cJ9_min_7cf53 2 (some .int) :: ([])
def wsL_law_r1 : List Cond := [Cond.classLink RL 7 RX1, Cond.instantiable RX1 7, Cond.initialized RX1, Cond.classLink RL 10 RX2, Cond.instantiable RX2 5, Cond.initialized RX2, Cond.methodLink RL 9 yX1_init, Cond.instanceMethod yX1_init, Cond.code yX1_init cX1_init 2 none, Cond.methodLink RX1 1 objectInit, Cond.instanceMethod objectInit, Cond.code objectInit ⟨#[0xb1]⟩ 1 none, Cond.classLink RX1 7 RX0, Cond.instantiable RX0 15, Cond.initialized RX0, Cond.fieldLink RX1 10 "FerryFloor" "now" "LFerryFloor$State;", Cond.fieldLink RX1 16 "FerryFloor" "history" "[LFerryFloor$State;", Cond.fieldLink RX1 20 "FerryFloor" "oldest" "I", Cond.fieldLink RX1 24 "FerryFloor" "kept" "I", Cond.arrayClass .int, Cond.fieldLink RX1 27 "FerryFloor" "readings" "[I", Cond.fieldLink RX1 31 "FerryFloor" "expected" "[I", Cond.fieldLink RX1 34 "FerryFloor" "trial" "[I", Cond.methodLink RX1 9 yX0_init]
def wsL_law_r2 : List Cond := [Cond.instanceMethod yX0_init, Cond.code yX0_init cX0_init 1 none, Cond.methodLink RX0 3 objectInit, Cond.fieldLink RX0 9 "FerryFloor$State" "minute" "I", Cond.fieldLink RX0 15 "FerryFloor$State" "price" "I", Cond.fieldLink RX0 18 "FerryFloor$State" "walkers" "I", Cond.fieldLink RX0 21 "FerryFloor$State" "zeros" "[I", Cond.fieldLink RX0 25 "FerryFloor$State" "drifts" "[I", Cond.fieldLink RX0 28 "FerryFloor$State" "tares" "[I", Cond.fieldLink RX0 31 "FerryFloor$State" "tareMinutes" "[I", Cond.fieldLink RX0 34 "FerryFloor$State" "weights" "[I", Cond.fieldLink RX0 37 "FerryFloor$State" "places" "[I", Cond.fieldLink RX0 40 "FerryFloor$State" "bookWeights" "[I", Cond.fieldLink RX0 43 "FerryFloor$State" "bookPlaces" "[I", Cond.fieldLink RX0 46 "FerryFloor$State" "accusations" "[I", Cond.fieldLink RX0 49 "FerryFloor$State" "billKilograms" "[I", Cond.fieldLink RX0 52 "FerryFloor$State" "billPrices" "[I", Cond.fieldLink RX0 55 "FerryFloor$State" "backKilograms" "[I", Cond.constant RX0 58 (-100009), Cond.static yX1_fillRow, Cond.code yX1_fillRow cX1_fillRow 3 none, Cond.methodLink RL 12 yX2_init, Cond.instanceMethod yX2_init, Cond.code yX2_init cX2_init 1 none]
def wsL_law_r3 : List Cond := [Cond.methodLink RX2 1 objectInit, Cond.fieldLink RX2 7 "FerryFloorModel" "s" "[I", Cond.fieldLink RX2 13 "FerryFloorModel" "past" "[I", Cond.fieldLink RX2 16 "FerryFloorModel" "held" "[I", Cond.methodLink RL 13 yX1_setDrift, Cond.instanceMethod yX1_setDrift, Cond.selects RX1 yX1_setDrift yX1_setDrift, Cond.code yX1_setDrift cX1_setDrift 4 (some .int), Cond.constant RX1 45 (-100001), Cond.fieldLink RX1 49 "FerryFloor$State" "drifts" "[I", Cond.methodLink RX1 37 yX1_isCell, Cond.static yX1_isCell, Cond.code yX1_isCell cX1_isCell 1 (some .boolean), Cond.methodLink RX1 41 yX1_isWithin, Cond.static yX1_isWithin, Cond.code yX1_isWithin cX1_isWithin 3 (some .boolean), Cond.methodLink RX1 46 yX1_remember, Cond.instanceMethod yX1_remember, Cond.selects RX1 yX1_remember yX1_remember, Cond.code yX1_remember cX1_remember 2 none, Cond.methodLink RX1 138 yX1_slotAfter, Cond.instanceMethod yX1_slotAfter, Cond.selects RX1 yX1_slotAfter yX1_slotAfter, Cond.code yX1_slotAfter cX1_slotAfter 2 (some .int)]
def wsL_law_r4 : List Cond := [Cond.methodLink RX1 214 yJ9_floorMod_7cf53, Cond.static yJ9_floorMod_7cf53, Cond.initialized RJ9, Cond.code yJ9_floorMod_7cf53 cJ9_floorMod_7cf53 3 (some .int), Cond.methodLink RX1 141 yX0_copyFrom, Cond.instanceMethod yX0_copyFrom, Cond.selects RX0 yX0_copyFrom yX0_copyFrom, Cond.code yX0_copyFrom cX0_copyFrom 2 none, Cond.static yX1_copyRow, Cond.code yX1_copyRow cX1_copyRow 2 none, Cond.methodLink RX1 205 Lib.Math.min.name, Cond.static Lib.Math.min.name, Cond.initialized "java/lang/Math", Cond.code Lib.Math.min.name Lib.Math.min.code 2 (some .int), Cond.methodLink RX1 217 arraycopyName, Cond.native arraycopyName, Cond.static arraycopyName, Cond.initialized "java/lang/System", Cond.methodLink RL 17 yX2_setDrift, Cond.instanceMethod yX2_setDrift, Cond.selects RX2 yX2_setDrift yX2_setDrift, Cond.code yX2_setDrift cX2_setDrift 4 (some .int), Cond.constant RX2 66 (-100001), Cond.methodLink RX2 63 yX2_isCell]
def wsL_law_r5 : List Cond := [Cond.static yX2_isCell, Cond.code yX2_isCell cX2_isCell 1 (some .boolean), Cond.methodLink RX2 23 yX2_in, Cond.static yX2_in, Cond.code yX2_in cX2_in 3 (some .boolean), Cond.methodLink RX2 67 yX2_acts, Cond.instanceMethod yX2_acts, Cond.selects RX2 yX2_acts yX2_acts, Cond.code yX2_acts cX2_acts 2 none, Cond.fieldLink RX2 19 "FerryFloorModel" "pasts" "I", Cond.methodLink RX2 51 yX2_of, Cond.instanceMethod yX2_of, Cond.selects RX2 yX2_of yX2_of, Cond.code yX2_of cX2_of 3 (some .int), Cond.methodLink RL 18 yX1_pass, Cond.instanceMethod yX1_pass, Cond.selects RX1 yX1_pass yX1_pass, Cond.code yX1_pass cX1_pass 3 (some .int), Cond.fieldLink RX1 52 "FerryFloor$State" "minute" "I", Cond.constant RX1 55 (-100002), Cond.fieldLink RX1 56 "FerryFloor$State" "zeros" "[I", Cond.methodLink RL 22 yX2_pass, Cond.instanceMethod yX2_pass, Cond.selects RX2 yX2_pass yX2_pass]
def wsL_law_r6 : List Cond := [Cond.code yX2_pass cX2_pass 3 (some .int), Cond.constant RX2 70 (-100002), Cond.methodLink RL 23 yX1_tare, Cond.instanceMethod yX1_tare, Cond.selects RX1 yX1_tare yX1_tare, Cond.code yX1_tare cX1_tare 2 (some .int), Cond.fieldLink RX1 62 "FerryFloor$State" "tares" "[I", Cond.fieldLink RX1 65 "FerryFloor$State" "tareMinutes" "[I", Cond.methodLink RX1 59 yX1_weighAll, Cond.instanceMethod yX1_weighAll, Cond.selects RX1 yX1_weighAll yX1_weighAll, Cond.code yX1_weighAll cX1_weighAll 1 none, Cond.fieldLink RX1 83 "FerryFloor$State" "weights" "[I", Cond.fieldLink RX1 71 "FerryFloor$State" "places" "[I", Cond.methodLink RX1 180 yX1_copyRow, Cond.methodLink RX1 201 yX1_addAllShares, Cond.static yX1_addAllShares, Cond.code yX1_addAllShares cX1_addAllShares 4 none, Cond.methodLink RX1 198 yX1_addShares, Cond.static yX1_addShares, Cond.code yX1_addShares cX1_addShares 7 none, Cond.methodLink RX1 195 yX1_nearCell, Cond.static yX1_nearCell, Cond.code yX1_nearCell cX1_nearCell 3 (some .int)]
def wsL_law_r7 : List Cond := [Cond.constant RX1 78 (-100009), Cond.methodLink RL 26 yX2_tare, Cond.instanceMethod yX2_tare, Cond.selects RX2 yX2_tare yX2_tare, Cond.code yX2_tare cX2_tare 2 (some .int), Cond.methodLink RX2 71 yX2_isPressed, Cond.instanceMethod yX2_isPressed, Cond.selects RX2 yX2_isPressed yX2_isPressed, Cond.code yX2_isPressed cX2_isPressed 4 (some .boolean), Cond.methodLink RX2 40 yX2_isAboard, Cond.instanceMethod yX2_isAboard, Cond.selects RX2 yX2_isAboard yX2_isAboard, Cond.code yX2_isAboard cX2_isAboard 2 (some .boolean), Cond.constant RX2 31 (-100009), Cond.methodLink RX2 27 yX2_ofWalker, Cond.instanceMethod yX2_ofWalker, Cond.selects RX2 yX2_ofWalker yX2_ofWalker, Cond.code yX2_ofWalker cX2_ofWalker 3 (some .int), Cond.methodLink RX2 44 yX2_share, Cond.static yX2_share, Cond.code yX2_share cX2_share 3 (some .int), Cond.methodLink RX2 36 yX2_neighbors, Cond.static yX2_neighbors, Cond.code yX2_neighbors cX2_neighbors 3 (some .int)]
def wsL_law_r8 : List Cond := [Cond.methodLink RX2 32 yX2_areNeighbors, Cond.static yX2_areNeighbors, Cond.code yX2_areNeighbors cX2_areNeighbors 3 (some .boolean), Cond.methodLink RX2 57 yX2_reading, Cond.instanceMethod yX2_reading, Cond.selects RX2 yX2_reading yX2_reading, Cond.code yX2_reading cX2_reading 2 (some .int), Cond.methodLink RX2 48 yX2_shares, Cond.instanceMethod yX2_shares, Cond.selects RX2 yX2_shares yX2_shares, Cond.code yX2_shares cX2_shares 4 (some .int), Cond.methodLink RL 27 yX1_board, Cond.instanceMethod yX1_board, Cond.selects RX1 yX1_board yX1_board, Cond.code yX1_board cX1_board 5 (some .int), Cond.fieldLink RX1 79 "FerryFloor$State" "walkers" "I", Cond.constant RX1 82 (-100003), Cond.fieldLink RX1 86 "FerryFloor$State" "bookWeights" "[I", Cond.fieldLink RX1 89 "FerryFloor$State" "bookPlaces" "[I", Cond.methodLink RX1 68 yX1_isWeight, Cond.static yX1_isWeight, Cond.code yX1_isWeight cX1_isWeight 1 (some .boolean), Cond.methodLink RX1 74 yX1_whoIsOn, Cond.static yX1_whoIsOn]
def wsL_law_r9 : List Cond := [Cond.code yX1_whoIsOn cX1_whoIsOn 3 (some .int), Cond.methodLink RL 31 yX2_board, Cond.instanceMethod yX2_board, Cond.selects RX2 yX2_board yX2_board, Cond.code yX2_board cX2_board 7 (some .int), Cond.constant RX2 80 (-100003), Cond.methodLink RX2 74 yX2_isWeight, Cond.static yX2_isWeight, Cond.code yX2_isWeight cX2_isWeight 1 (some .boolean), Cond.methodLink RX2 77 yX2_on, Cond.instanceMethod yX2_on, Cond.selects RX2 yX2_on yX2_on, Cond.code yX2_on cX2_on 5 (some .int), Cond.methodLink RL 32 yX1_walk, Cond.instanceMethod yX1_walk, Cond.selects RX1 yX1_walk yX1_walk, Cond.code yX1_walk cX1_walk 4 (some .int), Cond.methodLink RX1 92 yX1_isWalker, Cond.instanceMethod yX1_isWalker, Cond.selects RX1 yX1_isWalker yX1_isWalker, Cond.code yX1_isWalker cX1_isWalker 2 (some .boolean), Cond.methodLink RX1 95 yX1_isAboard, Cond.instanceMethod yX1_isAboard, Cond.selects RX1 yX1_isAboard yX1_isAboard]
def wsL_law_r10 : List Cond := [Cond.code yX1_isAboard cX1_isAboard 2 (some .boolean), Cond.methodLink RL 35 yX2_walk, Cond.instanceMethod yX2_walk, Cond.selects RX2 yX2_walk yX2_walk, Cond.code yX2_walk cX2_walk 4 (some .int), Cond.methodLink RX2 81 yX2_isWalker, Cond.instanceMethod yX2_isWalker, Cond.selects RX2 yX2_isWalker yX2_isWalker, Cond.code yX2_isWalker cX2_isWalker 2 (some .boolean), Cond.methodLink RX2 84 yX2_puts, Cond.instanceMethod yX2_puts, Cond.selects RX2 yX2_puts yX2_puts, Cond.code yX2_puts cX2_puts 4 none, Cond.methodLink RL 36 yX1_swap, Cond.instanceMethod yX1_swap, Cond.selects RX1 yX1_swap yX1_swap, Cond.code yX1_swap cX1_swap 3 (some .int), Cond.methodLink RX1 98 yX1_isPair, Cond.instanceMethod yX1_isPair, Cond.selects RX1 yX1_isPair yX1_isPair, Cond.code yX1_isPair cX1_isPair 3 (some .boolean), Cond.methodLink RX1 102 yX1_exchange, Cond.static yX1_exchange, Cond.code yX1_exchange cX1_exchange 4 none]
def wsL_law_r11 : List Cond := [Cond.methodLink RX1 106 yX1_errorWith, Cond.instanceMethod yX1_errorWith, Cond.selects RX1 yX1_errorWith yX1_errorWith, Cond.code yX1_errorWith cX1_errorWith 4 (some .int), Cond.methodLink RX1 208 Lib.Math.abs.name, Cond.static Lib.Math.abs.name, Cond.code Lib.Math.abs.name Lib.Math.abs.code 1 (some .int), Cond.methodLink RX1 167 yX1_expectAll, Cond.instanceMethod yX1_expectAll, Cond.selects RX1 yX1_expectAll yX1_expectAll, Cond.code yX1_expectAll cX1_expectAll 2 none, Cond.methodLink RL 39 yX2_swap, Cond.instanceMethod yX2_swap, Cond.selects RX2 yX2_swap yX2_swap, Cond.code yX2_swap cX2_swap 4 (some .int), Cond.methodLink RX2 88 yX2_whyNotTwo, Cond.instanceMethod yX2_whyNotTwo, Cond.selects RX2 yX2_whyNotTwo yX2_whyNotTwo, Cond.code yX2_whyNotTwo cX2_whyNotTwo 3 (some .int), Cond.methodLink RX2 91 yX2_exchanges, Cond.instanceMethod yX2_exchanges, Cond.selects RX2 yX2_exchanges yX2_exchanges, Cond.code yX2_exchanges cX2_exchanges 5 none, Cond.methodLink RX2 94 yX2_error]
def wsL_law_r12 : List Cond := [Cond.instanceMethod yX2_error, Cond.selects RX2 yX2_error yX2_error, Cond.code yX2_error cX2_error 4 (some .int), Cond.methodLink RX2 60 yX2_expected, Cond.instanceMethod yX2_expected, Cond.selects RX2 yX2_expected yX2_expected, Cond.code yX2_expected cX2_expected 2 (some .int), Cond.methodLink RX2 54 yX2_booked, Cond.instanceMethod yX2_booked, Cond.selects RX2 yX2_booked yX2_booked, Cond.code yX2_booked cX2_booked 5 (some .int), Cond.methodLink RL 40 yX1_leave, Cond.instanceMethod yX1_leave, Cond.selects RX1 yX1_leave yX1_leave, Cond.code yX1_leave cX1_leave 5 (some .int), Cond.methodLink RL 43 yX2_leave, Cond.instanceMethod yX2_leave, Cond.selects RX2 yX2_leave yX2_leave, Cond.code yX2_leave cX2_leave 3 (some .int), Cond.methodLink RL 44 yX1_setPrice, Cond.instanceMethod yX1_setPrice, Cond.selects RX1 yX1_setPrice yX1_setPrice, Cond.code yX1_setPrice cX1_setPrice 3 (some .int), Cond.fieldLink RX1 110 "FerryFloor$State" "price" "I"]
def wsL_law_r13 : List Cond := [Cond.methodLink RL 47 yX2_setPrice, Cond.instanceMethod yX2_setPrice, Cond.selects RX2 yX2_setPrice yX2_setPrice, Cond.code yX2_setPrice cX2_setPrice 3 (some .int), Cond.methodLink RL 48 yX1_accuse, Cond.instanceMethod yX1_accuse, Cond.selects RX1 yX1_accuse yX1_accuse, Cond.code yX1_accuse cX1_accuse 3 (some .int), Cond.fieldLink RX1 113 "FerryFloor$State" "accusations" "[I", Cond.methodLink RL 51 yX2_accuse, Cond.instanceMethod yX2_accuse, Cond.selects RX2 yX2_accuse yX2_accuse, Cond.code yX2_accuse cX2_accuse 4 (some .int), Cond.methodLink RL 52 yX1_bill, Cond.instanceMethod yX1_bill, Cond.selects RX1 yX1_bill yX1_bill, Cond.code yX1_bill cX1_bill 3 (some .int), Cond.fieldLink RX1 116 "FerryFloor$State" "billKilograms" "[I", Cond.fieldLink RX1 123 "FerryFloor$State" "billPrices" "[I", Cond.methodLink RX1 119 yX1_kilogramsToBill, Cond.instanceMethod yX1_kilogramsToBill, Cond.selects RX1 yX1_kilogramsToBill yX1_kilogramsToBill, Cond.code yX1_kilogramsToBill cX1_kilogramsToBill 4 (some .int), Cond.methodLink RX1 129 Lib.Math.max.name]
def wsL_law_r14 : List Cond := [Cond.static Lib.Math.max.name, Cond.code Lib.Math.max.name Lib.Math.max.code 2 (some .int), Cond.methodLink RX1 174 yX1_estimateFor, Cond.instanceMethod yX1_estimateFor, Cond.selects RX1 yX1_estimateFor yX1_estimateFor, Cond.code yX1_estimateFor cX1_estimateFor 6 (some .int), Cond.methodLink RX1 177 yX1_certaintyFor, Cond.instanceMethod yX1_certaintyFor, Cond.selects RX1 yX1_certaintyFor yX1_certaintyFor, Cond.code yX1_certaintyFor cX1_certaintyFor 4 (some .int), Cond.methodLink RX1 192 yX1_earliestTare, Cond.instanceMethod yX1_earliestTare, Cond.selects RX1 yX1_earliestTare yX1_earliestTare, Cond.code yX1_earliestTare cX1_earliestTare 5 (some .int), Cond.methodLink RX1 149 yX1_sumOfReadings, Cond.instanceMethod yX1_sumOfReadings, Cond.selects RX1 yX1_sumOfReadings yX1_sumOfReadings, Cond.code yX1_sumOfReadings cX1_sumOfReadings 1 (some .int), Cond.methodLink RX1 152 yX1_sumOf, Cond.static yX1_sumOf, Cond.code yX1_sumOf cX1_sumOf 3 (some .int), Cond.methodLink RX1 158 yX1_kilogramsBilled, Cond.instanceMethod yX1_kilogramsBilled, Cond.selects RX1 yX1_kilogramsBilled yX1_kilogramsBilled]
def wsL_law_r15 : List Cond := [Cond.code yX1_kilogramsBilled cX1_kilogramsBilled 3 (some .int), Cond.fieldLink RX1 126 "FerryFloor$State" "backKilograms" "[I", Cond.methodLink RX1 211 yX1_orZero, Cond.static yX1_orZero, Cond.code yX1_orZero cX1_orZero 1 (some .int), Cond.methodLink RL 55 yX2_bill, Cond.instanceMethod yX2_bill, Cond.selects RX2 yX2_bill yX2_bill, Cond.code yX2_bill cX2_bill 4 (some .int), Cond.methodLink RX2 104 yX2_estimateOf, Cond.instanceMethod yX2_estimateOf, Cond.selects RX2 yX2_estimateOf yX2_estimateOf, Cond.code yX2_estimateOf cX2_estimateOf 4 (some .int), Cond.methodLink RX2 98 yX2_isNear, Cond.static yX2_isNear, Cond.code yX2_isNear cX2_isNear 2 (some .boolean), Cond.methodLink RX2 107 yX2_certaintyIn, Cond.instanceMethod yX2_certaintyIn, Cond.selects RX2 yX2_certaintyIn yX2_certaintyIn, Cond.code yX2_certaintyIn cX2_certaintyIn 4 (some .int), Cond.methodLink RX2 101 yX2_earliest, Cond.instanceMethod yX2_earliest, Cond.selects RX2 yX2_earliest yX2_earliest, Cond.code yX2_earliest cX2_earliest 4 (some .int)]
def wsL_law_r16 : List Cond := [Cond.methodLink RX2 110 yX2_sumOf, Cond.instanceMethod yX2_sumOf, Cond.selects RX2 yX2_sumOf yX2_sumOf, Cond.code yX2_sumOf cX2_sumOf 4 (some .int), Cond.methodLink RL 56 yX1_complain, Cond.instanceMethod yX1_complain, Cond.selects RX1 yX1_complain yX1_complain, Cond.code yX1_complain cX1_complain 2 (some .int), Cond.methodLink RX1 135 yX1_backAmount, Cond.instanceMethod yX1_backAmount, Cond.selects RX1 yX1_backAmount yX1_backAmount, Cond.code yX1_backAmount cX1_backAmount 2 (some .int), Cond.methodLink RL 59 yX2_complain, Cond.instanceMethod yX2_complain, Cond.selects RX2 yX2_complain yX2_complain, Cond.code yX2_complain cX2_complain 3 (some .int), Cond.methodLink RL 60 yX1_undo, Cond.instanceMethod yX1_undo, Cond.selects RX1 yX1_undo yX1_undo, Cond.code yX1_undo cX1_undo 2 (some .int), Cond.methodLink RL 64 yX2_undo, Cond.instanceMethod yX2_undo, Cond.selects RX2 yX2_undo yX2_undo, Cond.code yX2_undo cX2_undo 2 (some .int)]
def wsL_law_r17 : List Cond := [Cond.methodLink RL 65 yX1_count, Cond.instanceMethod yX1_count, Cond.selects RX1 yX1_count yX1_count, Cond.code yX1_count cX1_count 2 (some .int), Cond.methodLink RX1 145 yX1_walkersAboard, Cond.instanceMethod yX1_walkersAboard, Cond.selects RX1 yX1_walkersAboard yX1_walkersAboard, Cond.code yX1_walkersAboard cX1_walkersAboard 3 (some .int), Cond.methodLink RX1 155 yX1_walkersMisplaced, Cond.instanceMethod yX1_walkersMisplaced, Cond.selects RX1 yX1_walkersMisplaced yX1_walkersMisplaced, Cond.code yX1_walkersMisplaced cX1_walkersMisplaced 3 (some .int), Cond.methodLink RX1 161 yX1_sumOfBillAmounts, Cond.instanceMethod yX1_sumOfBillAmounts, Cond.selects RX1 yX1_sumOfBillAmounts yX1_sumOfBillAmounts, Cond.code yX1_sumOfBillAmounts cX1_sumOfBillAmounts 3 (some .int), Cond.methodLink RX1 171 yX1_billAmount, Cond.instanceMethod yX1_billAmount, Cond.selects RX1 yX1_billAmount yX1_billAmount, Cond.code yX1_billAmount cX1_billAmount 2 (some .int), Cond.methodLink RX1 164 yX1_sumOfBackAmounts, Cond.instanceMethod yX1_sumOfBackAmounts, Cond.selects RX1 yX1_sumOfBackAmounts yX1_sumOfBackAmounts, Cond.code yX1_sumOfBackAmounts cX1_sumOfBackAmounts 3 (some .int)]
def wsL_law_r18 : List Cond := [Cond.methodLink RL 68 yX2_count, Cond.instanceMethod yX2_count, Cond.selects RX2 yX2_count yX2_count, Cond.code yX2_count cX2_count 2 (some .int), Cond.methodLink RX2 114 yX2_many, Cond.instanceMethod yX2_many, Cond.selects RX2 yX2_many yX2_many, Cond.code yX2_many cX2_many 4 (some .int), Cond.methodLink RL 69 yX1_cell, Cond.instanceMethod yX1_cell, Cond.selects RX1 yX1_cell yX1_cell, Cond.code yX1_cell cX1_cell 3 (some .int), Cond.methodLink RL 72 yX2_cell, Cond.instanceMethod yX2_cell, Cond.selects RX2 yX2_cell yX2_cell, Cond.code yX2_cell cX2_cell 3 (some .int), Cond.methodLink RL 73 yX1_walker, Cond.instanceMethod yX1_walker, Cond.selects RX1 yX1_walker yX1_walker, Cond.code yX1_walker cX1_walker 3 (some .int), Cond.methodLink RL 76 yX2_walker, Cond.instanceMethod yX2_walker, Cond.selects RX2 yX2_walker yX2_walker, Cond.code yX2_walker cX2_walker 3 (some .int)]
def wsL_law_r19 : List Cond := [Cond.methodLink RL 77 yX1_estimate, Cond.instanceMethod yX1_estimate, Cond.selects RX1 yX1_estimate yX1_estimate, Cond.code yX1_estimate cX1_estimate 2 (some .int), Cond.methodLink RL 80 yX2_estimate, Cond.instanceMethod yX2_estimate, Cond.selects RX2 yX2_estimate yX2_estimate, Cond.code yX2_estimate cX2_estimate 2 (some .int), Cond.methodLink RL 81 yX1_certainty, Cond.instanceMethod yX1_certainty, Cond.selects RX1 yX1_certainty yX1_certainty, Cond.code yX1_certainty cX1_certainty 2 (some .int), Cond.methodLink RL 84 yX2_certainty, Cond.instanceMethod yX2_certainty, Cond.selects RX2 yX2_certainty yX2_certainty, Cond.code yX2_certainty cX2_certainty 2 (some .int), Cond.methodLink RL 85 yX1_guess, Cond.instanceMethod yX1_guess, Cond.selects RX1 yX1_guess yX1_guess, Cond.code yX1_guess cX1_guess 3 (some .int), Cond.methodLink RX1 184 yX1_bestExchange, Cond.instanceMethod yX1_bestExchange, Cond.selects RX1 yX1_bestExchange yX1_bestExchange, Cond.code yX1_bestExchange cX1_bestExchange 7 (some .int)]
def wsL_law_r20 : List Cond := [Cond.methodLink RX1 187 yX1_exchangePair, Cond.instanceMethod yX1_exchangePair, Cond.selects RX1 yX1_exchangePair yX1_exchangePair, Cond.code yX1_exchangePair cX1_exchangePair 5 none, Cond.methodLink RL 88 yX2_guess, Cond.instanceMethod yX2_guess, Cond.selects RX2 yX2_guess yX2_guess, Cond.code yX2_guess cX2_guess 3 (some .int), Cond.fieldLink RX2 117 "FerryFloorModel" "least" "I", Cond.methodLink RX2 120 yX2_bestTwo, Cond.instanceMethod yX2_bestTwo, Cond.selects RX2 yX2_bestTwo yX2_bestTwo, Cond.code yX2_bestTwo cX2_bestTwo 5 (some .int), Cond.methodLink RL 89 yX1_mend, Cond.instanceMethod yX1_mend, Cond.selects RX1 yX1_mend yX1_mend, Cond.code yX1_mend cX1_mend 4 (some .int), Cond.constant RX1 191 (40320), Cond.methodLink RL 92 yX2_mend, Cond.instanceMethod yX2_mend, Cond.selects RX2 yX2_mend yX2_mend, Cond.code yX2_mend cX2_mend 6 (some .int), Cond.methodLink RL 93 yX1_bestCell, Cond.instanceMethod yX1_bestCell]
def wsL_law_r21 : List Cond := [Cond.selects RX1 yX1_bestCell yX1_bestCell, Cond.code yX1_bestCell cX1_bestCell 5 (some .int), Cond.methodLink RL 96 yX2_bestCell, Cond.instanceMethod yX2_bestCell, Cond.selects RX2 yX2_bestCell yX2_bestCell, Cond.code yX2_bestCell cX2_bestCell 5 (some .int), Cond.methodLink RL 97 yX1_until, Cond.instanceMethod yX1_until, Cond.selects RX1 yX1_until yX1_until, Cond.code yX1_until cX1_until 4 (some .int), Cond.methodLink RL 100 yX2_until, Cond.instanceMethod yX2_until, Cond.selects RX2 yX2_until yX2_until, Cond.code yX2_until cX2_until 4 (some .int)]
def wsL_law : List Cond := (wsL_law_r1 ++ (wsL_law_r2 ++ (wsL_law_r3 ++ (wsL_law_r4 ++ (wsL_law_r5 ++ (wsL_law_r6 ++ (wsL_law_r7 ++ (wsL_law_r8 ++ (wsL_law_r9 ++ (wsL_law_r10 ++ (wsL_law_r11 ++ (wsL_law_r12 ++ (wsL_law_r13 ++ (wsL_law_r14 ++ (wsL_law_r15 ++ (wsL_law_r16 ++ (wsL_law_r17 ++ (wsL_law_r18 ++ (wsL_law_r19 ++ (wsL_law_r20 ++ wsL_law_r21)))))))))))))))))))) ++ wsX10 ++ wsX20 ++ wsX00 ++ ([] : List Cond)
set_option maxRecDepth 20000 in
theorem wsLi_1 : ∀ w ∈ wsL_law_r1, w ∈ lw_tbl := by decide +kernel
set_option maxRecDepth 20000 in
theorem wsLi_2 : ∀ w ∈ wsL_law_r2, w ∈ lw_tbl := by decide +kernel
set_option maxRecDepth 20000 in
theorem wsLi_3 : ∀ w ∈ wsL_law_r3, w ∈ lw_tbl := by decide +kernel
set_option maxRecDepth 20000 in
theorem wsLi_4 : ∀ w ∈ wsL_law_r4, w ∈ lw_tbl := by decide +kernel
set_option maxRecDepth 20000 in
theorem wsLi_5 : ∀ w ∈ wsL_law_r5, w ∈ lw_tbl := by decide +kernel
set_option maxRecDepth 20000 in
theorem wsLi_6 : ∀ w ∈ wsL_law_r6, w ∈ lw_tbl := by decide +kernel
set_option maxRecDepth 20000 in
theorem wsLi_7 : ∀ w ∈ wsL_law_r7, w ∈ lw_tbl := by decide +kernel
set_option maxRecDepth 20000 in
theorem wsLi_8 : ∀ w ∈ wsL_law_r8, w ∈ lw_tbl := by decide +kernel
set_option maxRecDepth 20000 in
theorem wsLi_9 : ∀ w ∈ wsL_law_r9, w ∈ lw_tbl := by decide +kernel
set_option maxRecDepth 20000 in
theorem wsLi_10 : ∀ w ∈ wsL_law_r10, w ∈ lw_tbl := by decide +kernel
set_option maxRecDepth 20000 in
theorem wsLi_11 : ∀ w ∈ wsL_law_r11, w ∈ lw_tbl := by decide +kernel
set_option maxRecDepth 20000 in
theorem wsLi_12 : ∀ w ∈ wsL_law_r12, w ∈ lw_tbl := by decide +kernel
set_option maxRecDepth 20000 in
theorem wsLi_13 : ∀ w ∈ wsL_law_r13, w ∈ lw_tbl := by decide +kernel
set_option maxRecDepth 20000 in
theorem wsLi_14 : ∀ w ∈ wsL_law_r14, w ∈ lw_tbl := by decide +kernel
set_option maxRecDepth 20000 in
theorem wsLi_15 : ∀ w ∈ wsL_law_r15, w ∈ lw_tbl := by decide +kernel
set_option maxRecDepth 20000 in
theorem wsLi_16 : ∀ w ∈ wsL_law_r16, w ∈ lw_tbl := by decide +kernel
set_option maxRecDepth 20000 in
theorem wsLi_17 : ∀ w ∈ wsL_law_r17, w ∈ lw_tbl := by decide +kernel
set_option maxRecDepth 20000 in
theorem wsLi_18 : ∀ w ∈ wsL_law_r18, w ∈ lw_tbl := by decide +kernel
set_option maxRecDepth 20000 in
theorem wsLi_19 : ∀ w ∈ wsL_law_r19, w ∈ lw_tbl := by decide +kernel
set_option maxRecDepth 20000 in
theorem wsLi_20 : ∀ w ∈ wsL_law_r20, w ∈ lw_tbl := by decide +kernel
set_option maxRecDepth 20000 in
theorem wsLi_21 : ∀ w ∈ wsL_law_r21, w ∈ lw_tbl := by decide +kernel
set_option maxRecDepth 20000 in
theorem wsLx_1 : ∀ w ∈ wsX10, w ∈ lw_tbl := by decide +kernel
set_option maxRecDepth 20000 in
theorem wsLx_2 : ∀ w ∈ wsX20, w ∈ lw_tbl := by decide +kernel
set_option maxRecDepth 20000 in
theorem wsLx_0 : ∀ w ∈ wsX00, w ∈ lw_tbl := by decide +kernel
theorem wsL_law_in : ∀ w ∈ wsL_law, w ∈ lw_tbl := List.forall_mem_append.mpr ⟨List.forall_mem_append.mpr ⟨List.forall_mem_append.mpr ⟨List.forall_mem_append.mpr ⟨List.forall_mem_append.mpr ⟨wsLi_1, List.forall_mem_append.mpr ⟨wsLi_2, List.forall_mem_append.mpr ⟨wsLi_3, List.forall_mem_append.mpr ⟨wsLi_4, List.forall_mem_append.mpr ⟨wsLi_5, List.forall_mem_append.mpr ⟨wsLi_6, List.forall_mem_append.mpr ⟨wsLi_7, List.forall_mem_append.mpr ⟨wsLi_8, List.forall_mem_append.mpr ⟨wsLi_9, List.forall_mem_append.mpr ⟨wsLi_10, List.forall_mem_append.mpr ⟨wsLi_11, List.forall_mem_append.mpr ⟨wsLi_12, List.forall_mem_append.mpr ⟨wsLi_13, List.forall_mem_append.mpr ⟨wsLi_14, List.forall_mem_append.mpr ⟨wsLi_15, List.forall_mem_append.mpr ⟨wsLi_16, List.forall_mem_append.mpr ⟨wsLi_17, List.forall_mem_append.mpr ⟨wsLi_18, List.forall_mem_append.mpr ⟨wsLi_19, List.forall_mem_append.mpr ⟨wsLi_20, wsLi_21⟩⟩⟩⟩⟩⟩⟩⟩⟩⟩⟩⟩⟩⟩⟩⟩⟩⟩⟩⟩, wsLx_1⟩, wsLx_2⟩, wsLx_0⟩, fun _ h => absurd h List.not_mem_nil⟩
theorem inlX0 : ∀ w ∈ wsX00, w ∈ wsL_law := fun _ h => List.mem_append_left _ (List.mem_append_right _ h)
theorem inX0 : ∀ w ∈ wsX00, w ∈ lw_tbl := fun w h => wsL_law_in w (inlX0 w h)
theorem inlX1 : ∀ w ∈ wsX10, w ∈ wsL_law := fun _ h => List.mem_append_left _ (List.mem_append_left _ (List.mem_append_left _ (List.mem_append_right _ h)))
theorem inX1 : ∀ w ∈ wsX10, w ∈ lw_tbl := fun w h => wsL_law_in w (inlX1 w h)
theorem inlX2 : ∀ w ∈ wsX20, w ∈ wsL_law := fun _ h => List.mem_append_left _ (List.mem_append_left _ (List.mem_append_right _ h))
theorem inX2 : ∀ w ∈ wsX20, w ∈ lw_tbl := fun w h => wsL_law_in w (inlX2 w h)
theorem inJ9 : ∀ w ∈ wsJ90, w ∈ lw_tbl := by decide +kernel
theorem inJ10 : ∀ w ∈ wsJ100, w ∈ lw_tbl := by decide +kernel
abbrev vwCl : List vw_C := [(RX0, TX0, 15), (RX1, TX1, 7), (RX2, TX2, 5)]
end
section
set_option maxRecDepth 20000 in
theorem ggX0_init_X1_fillRow : GoodIn wsX0_init wsX1_fillRow := goodIn_r _ [23] (by decide +kernel) (by decide +kernel)
set_option maxRecDepth 20000 in
theorem gX0_init_X1_fillRow_n59 : GoodIn wsX0_init (wsX1_fillRow) := ggX0_init_X1_fillRow
theorem dX0_init_0 : decode cX0_init 0 = .ok (.aload_n 0, 1) := by decide +kernel
theorem dX0_init_1 : decode cX0_init 1 = .ok (.invokespecial 3, 3) := by decide +kernel
theorem dX0_init_4 : decode cX0_init 4 = .ok (.aload_n 0, 1) := by decide +kernel
theorem dX0_init_5 : decode cX0_init 5 = .ok (.iconst 0, 1) := by decide +kernel
theorem dX0_init_6 : decode cX0_init 6 = .ok (.putfield 9, 3) := by decide +kernel
theorem dX0_init_9 : decode cX0_init 9 = .ok (.aload_n 0, 1) := by decide +kernel
theorem dX0_init_10 : decode cX0_init 10 = .ok (.bipush 10, 2) := by decide +kernel
theorem dX0_init_12 : decode cX0_init 12 = .ok (.putfield 15, 3) := by decide +kernel
theorem dX0_init_15 : decode cX0_init 15 = .ok (.aload_n 0, 1) := by decide +kernel
theorem dX0_init_16 : decode cX0_init 16 = .ok (.iconst 0, 1) := by decide +kernel
theorem dX0_init_17 : decode cX0_init 17 = .ok (.putfield 18, 3) := by decide +kernel
theorem dX0_init_20 : decode cX0_init 20 = .ok (.aload_n 0, 1) := by decide +kernel
theorem dX0_init_21 : decode cX0_init 21 = .ok (.bipush 24, 2) := by decide +kernel
theorem dX0_init_23 : decode cX0_init 23 = .ok (.newarray .int, 2) := by decide +kernel
theorem dX0_init_25 : decode cX0_init 25 = .ok (.putfield 21, 3) := by decide +kernel
theorem dX0_init_28 : decode cX0_init 28 = .ok (.aload_n 0, 1) := by decide +kernel
theorem dX0_init_29 : decode cX0_init 29 = .ok (.bipush 24, 2) := by decide +kernel
theorem dX0_init_31 : decode cX0_init 31 = .ok (.newarray .int, 2) := by decide +kernel
theorem dX0_init_33 : decode cX0_init 33 = .ok (.putfield 25, 3) := by decide +kernel
theorem dX0_init_36 : decode cX0_init 36 = .ok (.aload_n 0, 1) := by decide +kernel
theorem dX0_init_37 : decode cX0_init 37 = .ok (.bipush 24, 2) := by decide +kernel
theorem dX0_init_39 : decode cX0_init 39 = .ok (.newarray .int, 2) := by decide +kernel
theorem dX0_init_41 : decode cX0_init 41 = .ok (.putfield 28, 3) := by decide +kernel
theorem dX0_init_44 : decode cX0_init 44 = .ok (.aload_n 0, 1) := by decide +kernel
theorem dX0_init_45 : decode cX0_init 45 = .ok (.bipush 24, 2) := by decide +kernel
theorem dX0_init_47 : decode cX0_init 47 = .ok (.newarray .int, 2) := by decide +kernel
theorem dX0_init_49 : decode cX0_init 49 = .ok (.putfield 31, 3) := by decide +kernel
theorem dX0_init_52 : decode cX0_init 52 = .ok (.aload_n 0, 1) := by decide +kernel
theorem dX0_init_53 : decode cX0_init 53 = .ok (.bipush 8, 2) := by decide +kernel
theorem dX0_init_55 : decode cX0_init 55 = .ok (.newarray .int, 2) := by decide +kernel
theorem dX0_init_57 : decode cX0_init 57 = .ok (.putfield 34, 3) := by decide +kernel
theorem dX0_init_60 : decode cX0_init 60 = .ok (.aload_n 0, 1) := by decide +kernel
theorem dX0_init_61 : decode cX0_init 61 = .ok (.bipush 8, 2) := by decide +kernel
theorem dX0_init_63 : decode cX0_init 63 = .ok (.newarray .int, 2) := by decide +kernel
theorem dX0_init_65 : decode cX0_init 65 = .ok (.putfield 37, 3) := by decide +kernel
theorem dX0_init_68 : decode cX0_init 68 = .ok (.aload_n 0, 1) := by decide +kernel
theorem dX0_init_69 : decode cX0_init 69 = .ok (.bipush 8, 2) := by decide +kernel
theorem dX0_init_71 : decode cX0_init 71 = .ok (.newarray .int, 2) := by decide +kernel
theorem dX0_init_73 : decode cX0_init 73 = .ok (.putfield 40, 3) := by decide +kernel
theorem dX0_init_76 : decode cX0_init 76 = .ok (.aload_n 0, 1) := by decide +kernel
theorem dX0_init_77 : decode cX0_init 77 = .ok (.bipush 8, 2) := by decide +kernel
theorem dX0_init_79 : decode cX0_init 79 = .ok (.newarray .int, 2) := by decide +kernel
theorem dX0_init_81 : decode cX0_init 81 = .ok (.putfield 43, 3) := by decide +kernel
theorem dX0_init_84 : decode cX0_init 84 = .ok (.aload_n 0, 1) := by decide +kernel
theorem dX0_init_85 : decode cX0_init 85 = .ok (.bipush 8, 2) := by decide +kernel
theorem dX0_init_87 : decode cX0_init 87 = .ok (.newarray .int, 2) := by decide +kernel
theorem dX0_init_89 : decode cX0_init 89 = .ok (.putfield 46, 3) := by decide +kernel
theorem dX0_init_92 : decode cX0_init 92 = .ok (.aload_n 0, 1) := by decide +kernel
theorem dX0_init_93 : decode cX0_init 93 = .ok (.bipush 8, 2) := by decide +kernel
theorem dX0_init_95 : decode cX0_init 95 = .ok (.newarray .int, 2) := by decide +kernel
theorem dX0_init_97 : decode cX0_init 97 = .ok (.putfield 49, 3) := by decide +kernel
theorem dX0_init_100 : decode cX0_init 100 = .ok (.aload_n 0, 1) := by decide +kernel
theorem dX0_init_101 : decode cX0_init 101 = .ok (.bipush 8, 2) := by decide +kernel
theorem dX0_init_103 : decode cX0_init 103 = .ok (.newarray .int, 2) := by decide +kernel
theorem dX0_init_105 : decode cX0_init 105 = .ok (.putfield 52, 3) := by decide +kernel
theorem dX0_init_108 : decode cX0_init 108 = .ok (.aload_n 0, 1) := by decide +kernel
theorem dX0_init_109 : decode cX0_init 109 = .ok (.bipush 8, 2) := by decide +kernel
theorem dX0_init_111 : decode cX0_init 111 = .ok (.newarray .int, 2) := by decide +kernel
theorem dX0_init_113 : decode cX0_init 113 = .ok (.putfield 55, 3) := by decide +kernel
theorem dX0_init_116 : decode cX0_init 116 = .ok (.aload_n 0, 1) := by decide +kernel
theorem dX0_init_117 : decode cX0_init 117 = .ok (.getfield 37, 3) := by decide +kernel
theorem dX0_init_120 : decode cX0_init 120 = .ok (.ldc 58, 2) := by decide +kernel
theorem dX0_init_122 : decode cX0_init 122 = .ok (.invokestatic 59, 3) := by decide +kernel
theorem dX0_init_125 : decode cX0_init 125 = .ok (.aload_n 0, 1) := by decide +kernel
theorem dX0_init_126 : decode cX0_init 126 = .ok (.getfield 43, 3) := by decide +kernel
theorem dX0_init_129 : decode cX0_init 129 = .ok (.ldc 58, 2) := by decide +kernel
theorem dX0_init_131 : decode cX0_init 131 = .ok (.invokestatic 59, 3) := by decide +kernel
theorem dX0_init_134 : decode cX0_init 134 = .ok (.aload_n 0, 1) := by decide +kernel
theorem dX0_init_135 : decode cX0_init 135 = .ok (.getfield 49, 3) := by decide +kernel
theorem dX0_init_138 : decode cX0_init 138 = .ok (.ldc 58, 2) := by decide +kernel
theorem dX0_init_140 : decode cX0_init 140 = .ok (.invokestatic 59, 3) := by decide +kernel
theorem dX0_init_143 : decode cX0_init 143 = .ok (.aload_n 0, 1) := by decide +kernel
theorem dX0_init_144 : decode cX0_init 144 = .ok (.getfield 55, 3) := by decide +kernel
theorem dX0_init_147 : decode cX0_init 147 = .ok (.ldc 58, 2) := by decide +kernel
theorem dX0_init_149 : decode cX0_init 149 = .ok (.invokestatic 59, 3) := by decide +kernel
theorem dX0_init_152 : decode cX0_init 152 = .ok (.return_, 1) := by decide +kernel
set_option maxRecDepth 20000 in
theorem ggX0_copyFrom_X1_copyRow : GoodIn wsX0_copyFrom wsX1_copyRow := goodIn_r _ [18, 19, 20, 21, 22, 23, 24, 25, 26] (by decide +kernel) (by decide +kernel)
set_option maxRecDepth 20000 in
theorem gX0_copyFrom_X1_copyRow_n63 : GoodIn wsX0_copyFrom (wsX1_copyRow) := ggX0_copyFrom_X1_copyRow
theorem dX0_copyFrom_0 : decode cX0_copyFrom 0 = .ok (.aload_n 0, 1) := by decide +kernel
theorem dX0_copyFrom_1 : decode cX0_copyFrom 1 = .ok (.aload_n 1, 1) := by decide +kernel
theorem dX0_copyFrom_2 : decode cX0_copyFrom 2 = .ok (.getfield 9, 3) := by decide +kernel
theorem dX0_copyFrom_5 : decode cX0_copyFrom 5 = .ok (.putfield 9, 3) := by decide +kernel
theorem dX0_copyFrom_8 : decode cX0_copyFrom 8 = .ok (.aload_n 0, 1) := by decide +kernel
theorem dX0_copyFrom_9 : decode cX0_copyFrom 9 = .ok (.aload_n 1, 1) := by decide +kernel
theorem dX0_copyFrom_10 : decode cX0_copyFrom 10 = .ok (.getfield 15, 3) := by decide +kernel
theorem dX0_copyFrom_13 : decode cX0_copyFrom 13 = .ok (.putfield 15, 3) := by decide +kernel
theorem dX0_copyFrom_16 : decode cX0_copyFrom 16 = .ok (.aload_n 0, 1) := by decide +kernel
theorem dX0_copyFrom_17 : decode cX0_copyFrom 17 = .ok (.aload_n 1, 1) := by decide +kernel
theorem dX0_copyFrom_18 : decode cX0_copyFrom 18 = .ok (.getfield 18, 3) := by decide +kernel
theorem dX0_copyFrom_21 : decode cX0_copyFrom 21 = .ok (.putfield 18, 3) := by decide +kernel
theorem dX0_copyFrom_24 : decode cX0_copyFrom 24 = .ok (.aload_n 1, 1) := by decide +kernel
theorem dX0_copyFrom_25 : decode cX0_copyFrom 25 = .ok (.getfield 21, 3) := by decide +kernel
theorem dX0_copyFrom_28 : decode cX0_copyFrom 28 = .ok (.aload_n 0, 1) := by decide +kernel
theorem dX0_copyFrom_29 : decode cX0_copyFrom 29 = .ok (.getfield 21, 3) := by decide +kernel
theorem dX0_copyFrom_32 : decode cX0_copyFrom 32 = .ok (.invokestatic 63, 3) := by decide +kernel
theorem dX0_copyFrom_35 : decode cX0_copyFrom 35 = .ok (.aload_n 1, 1) := by decide +kernel
theorem dX0_copyFrom_36 : decode cX0_copyFrom 36 = .ok (.getfield 25, 3) := by decide +kernel
theorem dX0_copyFrom_39 : decode cX0_copyFrom 39 = .ok (.aload_n 0, 1) := by decide +kernel
theorem dX0_copyFrom_40 : decode cX0_copyFrom 40 = .ok (.getfield 25, 3) := by decide +kernel
theorem dX0_copyFrom_43 : decode cX0_copyFrom 43 = .ok (.invokestatic 63, 3) := by decide +kernel
theorem dX0_copyFrom_46 : decode cX0_copyFrom 46 = .ok (.aload_n 1, 1) := by decide +kernel
theorem dX0_copyFrom_47 : decode cX0_copyFrom 47 = .ok (.getfield 28, 3) := by decide +kernel
theorem dX0_copyFrom_50 : decode cX0_copyFrom 50 = .ok (.aload_n 0, 1) := by decide +kernel
theorem dX0_copyFrom_51 : decode cX0_copyFrom 51 = .ok (.getfield 28, 3) := by decide +kernel
theorem dX0_copyFrom_54 : decode cX0_copyFrom 54 = .ok (.invokestatic 63, 3) := by decide +kernel
theorem dX0_copyFrom_57 : decode cX0_copyFrom 57 = .ok (.aload_n 1, 1) := by decide +kernel
theorem dX0_copyFrom_58 : decode cX0_copyFrom 58 = .ok (.getfield 31, 3) := by decide +kernel
theorem dX0_copyFrom_61 : decode cX0_copyFrom 61 = .ok (.aload_n 0, 1) := by decide +kernel
theorem dX0_copyFrom_62 : decode cX0_copyFrom 62 = .ok (.getfield 31, 3) := by decide +kernel
theorem dX0_copyFrom_65 : decode cX0_copyFrom 65 = .ok (.invokestatic 63, 3) := by decide +kernel
theorem dX0_copyFrom_68 : decode cX0_copyFrom 68 = .ok (.aload_n 1, 1) := by decide +kernel
theorem dX0_copyFrom_69 : decode cX0_copyFrom 69 = .ok (.getfield 34, 3) := by decide +kernel
theorem dX0_copyFrom_72 : decode cX0_copyFrom 72 = .ok (.aload_n 0, 1) := by decide +kernel
theorem dX0_copyFrom_73 : decode cX0_copyFrom 73 = .ok (.getfield 34, 3) := by decide +kernel
theorem dX0_copyFrom_76 : decode cX0_copyFrom 76 = .ok (.invokestatic 63, 3) := by decide +kernel
theorem dX0_copyFrom_79 : decode cX0_copyFrom 79 = .ok (.aload_n 1, 1) := by decide +kernel
theorem dX0_copyFrom_80 : decode cX0_copyFrom 80 = .ok (.getfield 37, 3) := by decide +kernel
theorem dX0_copyFrom_83 : decode cX0_copyFrom 83 = .ok (.aload_n 0, 1) := by decide +kernel
theorem dX0_copyFrom_84 : decode cX0_copyFrom 84 = .ok (.getfield 37, 3) := by decide +kernel
theorem dX0_copyFrom_87 : decode cX0_copyFrom 87 = .ok (.invokestatic 63, 3) := by decide +kernel
theorem dX0_copyFrom_90 : decode cX0_copyFrom 90 = .ok (.aload_n 1, 1) := by decide +kernel
theorem dX0_copyFrom_91 : decode cX0_copyFrom 91 = .ok (.getfield 40, 3) := by decide +kernel
theorem dX0_copyFrom_94 : decode cX0_copyFrom 94 = .ok (.aload_n 0, 1) := by decide +kernel
theorem dX0_copyFrom_95 : decode cX0_copyFrom 95 = .ok (.getfield 40, 3) := by decide +kernel
theorem dX0_copyFrom_98 : decode cX0_copyFrom 98 = .ok (.invokestatic 63, 3) := by decide +kernel
theorem dX0_copyFrom_101 : decode cX0_copyFrom 101 = .ok (.aload_n 1, 1) := by decide +kernel
theorem dX0_copyFrom_102 : decode cX0_copyFrom 102 = .ok (.getfield 43, 3) := by decide +kernel
theorem dX0_copyFrom_105 : decode cX0_copyFrom 105 = .ok (.aload_n 0, 1) := by decide +kernel
theorem dX0_copyFrom_106 : decode cX0_copyFrom 106 = .ok (.getfield 43, 3) := by decide +kernel
theorem dX0_copyFrom_109 : decode cX0_copyFrom 109 = .ok (.invokestatic 63, 3) := by decide +kernel
theorem dX0_copyFrom_112 : decode cX0_copyFrom 112 = .ok (.aload_n 1, 1) := by decide +kernel
theorem dX0_copyFrom_113 : decode cX0_copyFrom 113 = .ok (.getfield 46, 3) := by decide +kernel
theorem dX0_copyFrom_116 : decode cX0_copyFrom 116 = .ok (.aload_n 0, 1) := by decide +kernel
theorem dX0_copyFrom_117 : decode cX0_copyFrom 117 = .ok (.getfield 46, 3) := by decide +kernel
theorem dX0_copyFrom_120 : decode cX0_copyFrom 120 = .ok (.invokestatic 63, 3) := by decide +kernel
theorem dX0_copyFrom_123 : decode cX0_copyFrom 123 = .ok (.aload_n 1, 1) := by decide +kernel
theorem dX0_copyFrom_124 : decode cX0_copyFrom 124 = .ok (.getfield 49, 3) := by decide +kernel
theorem dX0_copyFrom_127 : decode cX0_copyFrom 127 = .ok (.aload_n 0, 1) := by decide +kernel
theorem dX0_copyFrom_128 : decode cX0_copyFrom 128 = .ok (.getfield 49, 3) := by decide +kernel
theorem dX0_copyFrom_131 : decode cX0_copyFrom 131 = .ok (.invokestatic 63, 3) := by decide +kernel
theorem dX0_copyFrom_134 : decode cX0_copyFrom 134 = .ok (.aload_n 1, 1) := by decide +kernel
theorem dX0_copyFrom_135 : decode cX0_copyFrom 135 = .ok (.getfield 52, 3) := by decide +kernel
theorem dX0_copyFrom_138 : decode cX0_copyFrom 138 = .ok (.aload_n 0, 1) := by decide +kernel
theorem dX0_copyFrom_139 : decode cX0_copyFrom 139 = .ok (.getfield 52, 3) := by decide +kernel
theorem dX0_copyFrom_142 : decode cX0_copyFrom 142 = .ok (.invokestatic 63, 3) := by decide +kernel
theorem dX0_copyFrom_145 : decode cX0_copyFrom 145 = .ok (.aload_n 1, 1) := by decide +kernel
theorem dX0_copyFrom_146 : decode cX0_copyFrom 146 = .ok (.getfield 55, 3) := by decide +kernel
theorem dX0_copyFrom_149 : decode cX0_copyFrom 149 = .ok (.aload_n 0, 1) := by decide +kernel
theorem dX0_copyFrom_150 : decode cX0_copyFrom 150 = .ok (.getfield 55, 3) := by decide +kernel
theorem dX0_copyFrom_153 : decode cX0_copyFrom 153 = .ok (.invokestatic 63, 3) := by decide +kernel
theorem dX0_copyFrom_156 : decode cX0_copyFrom 156 = .ok (.return_, 1) := by decide +kernel
set_option maxRecDepth 20000 in
theorem ggX1_init_X0_init : GoodIn wsX1_init wsX0_init := goodIn_r _ [17, 18, 2, 3, 19, 20, 21, 11, 22, 23, 24, 25, 26, 27, 28, 29, 30, 31, 32, 33, 34, 35, 36, 37, 38, 39, 40, 41, 42, 43, 44, 45, 46, 47, 48, 49, 50, 51, 52] (by decide +kernel) (by decide +kernel)
set_option maxRecDepth 20000 in
theorem gX1_init_X0_init : GoodIn wsX1_init (wsX0_init) := ggX1_init_X0_init
theorem dX1_init_0 : decode cX1_init 0 = .ok (.aload_n 0, 1) := by decide +kernel
theorem dX1_init_1 : decode cX1_init 1 = .ok (.invokespecial 1, 3) := by decide +kernel
theorem dX1_init_4 : decode cX1_init 4 = .ok (.aload_n 0, 1) := by decide +kernel
theorem dX1_init_5 : decode cX1_init 5 = .ok (.new 7, 3) := by decide +kernel
theorem dX1_init_8 : decode cX1_init 8 = .ok (.dup, 1) := by decide +kernel
theorem dX1_init_9 : decode cX1_init 9 = .ok (.invokespecial 9, 3) := by decide +kernel
theorem dX1_init_12 : decode cX1_init 12 = .ok (.putfield 10, 3) := by decide +kernel
theorem dX1_init_15 : decode cX1_init 15 = .ok (.aload_n 0, 1) := by decide +kernel
theorem dX1_init_16 : decode cX1_init 16 = .ok (.iconst 5, 1) := by decide +kernel
theorem dX1_init_17 : decode cX1_init 17 = .ok (.anewarray 7, 3) := by decide +kernel
theorem dX1_init_20 : decode cX1_init 20 = .ok (.putfield 16, 3) := by decide +kernel
theorem dX1_init_23 : decode cX1_init 23 = .ok (.aload_n 0, 1) := by decide +kernel
theorem dX1_init_24 : decode cX1_init 24 = .ok (.iconst 0, 1) := by decide +kernel
theorem dX1_init_25 : decode cX1_init 25 = .ok (.putfield 20, 3) := by decide +kernel
theorem dX1_init_28 : decode cX1_init 28 = .ok (.aload_n 0, 1) := by decide +kernel
theorem dX1_init_29 : decode cX1_init 29 = .ok (.iconst 0, 1) := by decide +kernel
theorem dX1_init_30 : decode cX1_init 30 = .ok (.putfield 24, 3) := by decide +kernel
theorem dX1_init_33 : decode cX1_init 33 = .ok (.aload_n 0, 1) := by decide +kernel
theorem dX1_init_34 : decode cX1_init 34 = .ok (.bipush 24, 2) := by decide +kernel
theorem dX1_init_36 : decode cX1_init 36 = .ok (.newarray .int, 2) := by decide +kernel
theorem dX1_init_38 : decode cX1_init 38 = .ok (.putfield 27, 3) := by decide +kernel
theorem dX1_init_41 : decode cX1_init 41 = .ok (.aload_n 0, 1) := by decide +kernel
theorem dX1_init_42 : decode cX1_init 42 = .ok (.bipush 24, 2) := by decide +kernel
theorem dX1_init_44 : decode cX1_init 44 = .ok (.newarray .int, 2) := by decide +kernel
theorem dX1_init_46 : decode cX1_init 46 = .ok (.putfield 31, 3) := by decide +kernel
theorem dX1_init_49 : decode cX1_init 49 = .ok (.aload_n 0, 1) := by decide +kernel
theorem dX1_init_50 : decode cX1_init 50 = .ok (.bipush 8, 2) := by decide +kernel
theorem dX1_init_52 : decode cX1_init 52 = .ok (.newarray .int, 2) := by decide +kernel
theorem dX1_init_54 : decode cX1_init 54 = .ok (.putfield 34, 3) := by decide +kernel
theorem dX1_init_57 : decode cX1_init 57 = .ok (.iconst 0, 1) := by decide +kernel
theorem dX1_init_58 : decode cX1_init 58 = .ok (.istore_n 1, 1) := by decide +kernel
theorem dX1_init_59 : decode cX1_init 59 = .ok (.iload_n 1, 1) := by decide +kernel
theorem dX1_init_60 : decode cX1_init 60 = .ok (.iconst 5, 1) := by decide +kernel
theorem dX1_init_61 : decode cX1_init 61 = .ok (.if_icmp .ge 22, 3) := by decide +kernel
theorem dX1_init_64 : decode cX1_init 64 = .ok (.aload_n 0, 1) := by decide +kernel
theorem dX1_init_65 : decode cX1_init 65 = .ok (.getfield 16, 3) := by decide +kernel
theorem dX1_init_68 : decode cX1_init 68 = .ok (.iload_n 1, 1) := by decide +kernel
theorem dX1_init_69 : decode cX1_init 69 = .ok (.new 7, 3) := by decide +kernel
theorem dX1_init_72 : decode cX1_init 72 = .ok (.dup, 1) := by decide +kernel
theorem dX1_init_73 : decode cX1_init 73 = .ok (.invokespecial 9, 3) := by decide +kernel
theorem dX1_init_76 : decode cX1_init 76 = .ok (.aastore, 1) := by decide +kernel
theorem dX1_init_77 : decode cX1_init 77 = .ok (.iinc 1 1, 3) := by decide +kernel
theorem dX1_init_80 : decode cX1_init 80 = .ok (.goto (-21), 3) := by decide +kernel
theorem dX1_init_83 : decode cX1_init 83 = .ok (.return_, 1) := by decide +kernel
set_option maxRecDepth 20000 in
theorem ggX1_setDrift_X1_isCell : GoodIn wsX1_setDrift wsX1_isCell := goodIn_r _ [7] (by decide +kernel) (by decide +kernel)
set_option maxRecDepth 20000 in
theorem gX1_setDrift_X1_isCell : GoodIn wsX1_setDrift (va_wsS RX1 37 yX1_isCell wsX1_isCell) := goodIn_app (goodIn_of _ (by decide +kernel)) ggX1_setDrift_X1_isCell
set_option maxRecDepth 20000 in
theorem ggX1_setDrift_X1_isWithin : GoodIn wsX1_setDrift wsX1_isWithin := goodIn_r _ [10] (by decide +kernel) (by decide +kernel)
set_option maxRecDepth 20000 in
theorem gX1_setDrift_X1_isWithin : GoodIn wsX1_setDrift (va_wsS RX1 41 yX1_isWithin wsX1_isWithin) := goodIn_app (goodIn_of _ (by decide +kernel)) ggX1_setDrift_X1_isWithin
set_option maxRecDepth 20000 in
theorem ggX1_setDrift_X1_remember : GoodIn wsX1_setDrift wsX1_remember := goodIn_r _ [14, 15, 16, 17, 2, 18, 19, 20, 6, 21, 22, 23, 24, 25, 26, 27, 28, 29, 30, 31, 32, 33, 34, 35, 36, 37, 38, 39, 40, 41, 42, 43, 44, 45, 46, 47, 48, 49, 50, 51, 52, 53, 54, 55, 56, 57, 58, 59, 60, 61, 62, 63, 64, 65, 66, 67, 68, 69, 70, 71, 72, 73, 74, 75, 76, 77] (by decide +kernel) (by decide +kernel)
set_option maxRecDepth 20000 in
theorem gX1_setDrift_X1_remember : GoodIn wsX1_setDrift (wsV RX1 46 RX1 yX1_remember wsX1_remember) := goodIn_app (goodIn_of _ (by decide +kernel)) ggX1_setDrift_X1_remember
theorem dX1_setDrift_0 : decode cX1_setDrift 0 = .ok (.iload_n 1, 1) := by decide +kernel
theorem dX1_setDrift_1 : decode cX1_setDrift 1 = .ok (.invokestatic 37, 3) := by decide +kernel
theorem dX1_setDrift_4 : decode cX1_setDrift 4 = .ok (.ifCond .eq 13, 3) := by decide +kernel
theorem dX1_setDrift_7 : decode cX1_setDrift 7 = .ok (.iload_n 2, 1) := by decide +kernel
theorem dX1_setDrift_8 : decode cX1_setDrift 8 = .ok (.bipush (-3), 2) := by decide +kernel
theorem dX1_setDrift_10 : decode cX1_setDrift 10 = .ok (.iconst 3, 1) := by decide +kernel
theorem dX1_setDrift_11 : decode cX1_setDrift 11 = .ok (.invokestatic 41, 3) := by decide +kernel
theorem dX1_setDrift_14 : decode cX1_setDrift 14 = .ok (.ifCond .ne 6, 3) := by decide +kernel
theorem dX1_setDrift_17 : decode cX1_setDrift 17 = .ok (.ldc 45, 2) := by decide +kernel
theorem dX1_setDrift_19 : decode cX1_setDrift 19 = .ok (.ireturn, 1) := by decide +kernel
theorem dX1_setDrift_20 : decode cX1_setDrift 20 = .ok (.aload_n 0, 1) := by decide +kernel
theorem dX1_setDrift_21 : decode cX1_setDrift 21 = .ok (.invokevirtual 46, 3) := by decide +kernel
theorem dX1_setDrift_24 : decode cX1_setDrift 24 = .ok (.aload_n 0, 1) := by decide +kernel
theorem dX1_setDrift_25 : decode cX1_setDrift 25 = .ok (.getfield 10, 3) := by decide +kernel
theorem dX1_setDrift_28 : decode cX1_setDrift 28 = .ok (.getfield 49, 3) := by decide +kernel
theorem dX1_setDrift_31 : decode cX1_setDrift 31 = .ok (.iload_n 1, 1) := by decide +kernel
theorem dX1_setDrift_32 : decode cX1_setDrift 32 = .ok (.iaload, 1) := by decide +kernel
theorem dX1_setDrift_33 : decode cX1_setDrift 33 = .ok (.istore_n 3, 1) := by decide +kernel
theorem dX1_setDrift_34 : decode cX1_setDrift 34 = .ok (.aload_n 0, 1) := by decide +kernel
theorem dX1_setDrift_35 : decode cX1_setDrift 35 = .ok (.getfield 10, 3) := by decide +kernel
theorem dX1_setDrift_38 : decode cX1_setDrift 38 = .ok (.getfield 49, 3) := by decide +kernel
theorem dX1_setDrift_41 : decode cX1_setDrift 41 = .ok (.iload_n 1, 1) := by decide +kernel
theorem dX1_setDrift_42 : decode cX1_setDrift 42 = .ok (.iload_n 2, 1) := by decide +kernel
theorem dX1_setDrift_43 : decode cX1_setDrift 43 = .ok (.iastore, 1) := by decide +kernel
theorem dX1_setDrift_44 : decode cX1_setDrift 44 = .ok (.iload_n 3, 1) := by decide +kernel
theorem dX1_setDrift_45 : decode cX1_setDrift 45 = .ok (.ireturn, 1) := by decide +kernel
set_option maxRecDepth 20000 in
theorem ggX1_pass_X1_isWithin : GoodIn wsX1_pass wsX1_isWithin := goodIn_r _ [10] (by decide +kernel) (by decide +kernel)
set_option maxRecDepth 20000 in
theorem gX1_pass_X1_isWithin : GoodIn wsX1_pass (va_wsS RX1 41 yX1_isWithin wsX1_isWithin) := goodIn_app (goodIn_of _ (by decide +kernel)) ggX1_pass_X1_isWithin
set_option maxRecDepth 20000 in
theorem ggX1_pass_X1_remember : GoodIn wsX1_pass wsX1_remember := goodIn_r _ [14, 15, 16, 17, 2, 18, 19, 20, 9, 21, 22, 23, 24, 25, 26, 27, 28, 29, 30, 31, 32, 33, 34, 35, 36, 37, 38, 39, 40, 41, 42, 43, 44, 45, 46, 47, 48, 49, 50, 51, 52, 53, 54, 55, 56, 57, 58, 59, 60, 61, 62, 63, 64, 65, 66, 67, 68, 69, 70, 71, 72, 73, 74, 75, 76, 77] (by decide +kernel) (by decide +kernel)
set_option maxRecDepth 20000 in
theorem gX1_pass_X1_remember : GoodIn wsX1_pass (wsV RX1 46 RX1 yX1_remember wsX1_remember) := goodIn_app (goodIn_of _ (by decide +kernel)) ggX1_pass_X1_remember
theorem dX1_pass_0 : decode cX1_pass 0 = .ok (.iload_n 1, 1) := by decide +kernel
theorem dX1_pass_1 : decode cX1_pass 1 = .ok (.iconst 1, 1) := by decide +kernel
theorem dX1_pass_2 : decode cX1_pass 2 = .ok (.bipush 60, 2) := by decide +kernel
theorem dX1_pass_4 : decode cX1_pass 4 = .ok (.invokestatic 41, 3) := by decide +kernel
theorem dX1_pass_7 : decode cX1_pass 7 = .ok (.ifCond .ne 6, 3) := by decide +kernel
theorem dX1_pass_10 : decode cX1_pass 10 = .ok (.ldc 45, 2) := by decide +kernel
theorem dX1_pass_12 : decode cX1_pass 12 = .ok (.ireturn, 1) := by decide +kernel
theorem dX1_pass_13 : decode cX1_pass 13 = .ok (.aload_n 0, 1) := by decide +kernel
theorem dX1_pass_14 : decode cX1_pass 14 = .ok (.getfield 10, 3) := by decide +kernel
theorem dX1_pass_17 : decode cX1_pass 17 = .ok (.getfield 52, 3) := by decide +kernel
theorem dX1_pass_20 : decode cX1_pass 20 = .ok (.iload_n 1, 1) := by decide +kernel
theorem dX1_pass_21 : decode cX1_pass 21 = .ok (.iadd, 1) := by decide +kernel
theorem dX1_pass_22 : decode cX1_pass 22 = .ok (.sipush 2000, 3) := by decide +kernel
theorem dX1_pass_25 : decode cX1_pass 25 = .ok (.if_icmp .le 6, 3) := by decide +kernel
theorem dX1_pass_28 : decode cX1_pass 28 = .ok (.ldc 55, 2) := by decide +kernel
theorem dX1_pass_30 : decode cX1_pass 30 = .ok (.ireturn, 1) := by decide +kernel
theorem dX1_pass_31 : decode cX1_pass 31 = .ok (.aload_n 0, 1) := by decide +kernel
theorem dX1_pass_32 : decode cX1_pass 32 = .ok (.invokevirtual 46, 3) := by decide +kernel
theorem dX1_pass_35 : decode cX1_pass 35 = .ok (.iconst 0, 1) := by decide +kernel
theorem dX1_pass_36 : decode cX1_pass 36 = .ok (.istore_n 2, 1) := by decide +kernel
theorem dX1_pass_37 : decode cX1_pass 37 = .ok (.iload_n 2, 1) := by decide +kernel
theorem dX1_pass_38 : decode cX1_pass 38 = .ok (.bipush 24, 2) := by decide +kernel
theorem dX1_pass_40 : decode cX1_pass 40 = .ok (.if_icmp .ge 32, 3) := by decide +kernel
theorem dX1_pass_43 : decode cX1_pass 43 = .ok (.aload_n 0, 1) := by decide +kernel
theorem dX1_pass_44 : decode cX1_pass 44 = .ok (.getfield 10, 3) := by decide +kernel
theorem dX1_pass_47 : decode cX1_pass 47 = .ok (.getfield 56, 3) := by decide +kernel
theorem dX1_pass_50 : decode cX1_pass 50 = .ok (.iload_n 2, 1) := by decide +kernel
theorem dX1_pass_51 : decode cX1_pass 51 = .ok (.dup2, 1) := by decide +kernel
theorem dX1_pass_52 : decode cX1_pass 52 = .ok (.iaload, 1) := by decide +kernel
theorem dX1_pass_53 : decode cX1_pass 53 = .ok (.aload_n 0, 1) := by decide +kernel
theorem dX1_pass_54 : decode cX1_pass 54 = .ok (.getfield 10, 3) := by decide +kernel
theorem dX1_pass_57 : decode cX1_pass 57 = .ok (.getfield 49, 3) := by decide +kernel
theorem dX1_pass_60 : decode cX1_pass 60 = .ok (.iload_n 2, 1) := by decide +kernel
theorem dX1_pass_61 : decode cX1_pass 61 = .ok (.iaload, 1) := by decide +kernel
theorem dX1_pass_62 : decode cX1_pass 62 = .ok (.iload_n 1, 1) := by decide +kernel
theorem dX1_pass_63 : decode cX1_pass 63 = .ok (.imul, 1) := by decide +kernel
theorem dX1_pass_64 : decode cX1_pass 64 = .ok (.iadd, 1) := by decide +kernel
theorem dX1_pass_65 : decode cX1_pass 65 = .ok (.iastore, 1) := by decide +kernel
theorem dX1_pass_66 : decode cX1_pass 66 = .ok (.iinc 2 1, 3) := by decide +kernel
theorem dX1_pass_69 : decode cX1_pass 69 = .ok (.goto (-32), 3) := by decide +kernel
theorem dX1_pass_72 : decode cX1_pass 72 = .ok (.aload_n 0, 1) := by decide +kernel
theorem dX1_pass_73 : decode cX1_pass 73 = .ok (.getfield 10, 3) := by decide +kernel
theorem dX1_pass_76 : decode cX1_pass 76 = .ok (.dup, 1) := by decide +kernel
theorem dX1_pass_77 : decode cX1_pass 77 = .ok (.getfield 52, 3) := by decide +kernel
theorem dX1_pass_80 : decode cX1_pass 80 = .ok (.iload_n 1, 1) := by decide +kernel
theorem dX1_pass_81 : decode cX1_pass 81 = .ok (.iadd, 1) := by decide +kernel
theorem dX1_pass_82 : decode cX1_pass 82 = .ok (.putfield 52, 3) := by decide +kernel
theorem dX1_pass_85 : decode cX1_pass 85 = .ok (.aload_n 0, 1) := by decide +kernel
theorem dX1_pass_86 : decode cX1_pass 86 = .ok (.getfield 10, 3) := by decide +kernel
theorem dX1_pass_89 : decode cX1_pass 89 = .ok (.getfield 52, 3) := by decide +kernel
theorem dX1_pass_92 : decode cX1_pass 92 = .ok (.ireturn, 1) := by decide +kernel
set_option maxRecDepth 20000 in
theorem ggX1_tare_X1_isCell : GoodIn wsX1_tare wsX1_isCell := goodIn_r _ [12] (by decide +kernel) (by decide +kernel)
set_option maxRecDepth 20000 in
theorem gX1_tare_X1_isCell : GoodIn wsX1_tare (va_wsS RX1 37 yX1_isCell wsX1_isCell) := goodIn_app (goodIn_of _ (by decide +kernel)) ggX1_tare_X1_isCell
set_option maxRecDepth 20000 in
theorem ggX1_tare_X1_weighAll : GoodIn wsX1_tare wsX1_weighAll := goodIn_r _ [16, 3, 4, 2, 17, 18, 19, 20, 11, 21, 22, 23, 24, 25, 26, 27, 28, 29, 30, 31, 32, 33, 34, 35, 9, 10, 12, 36, 37, 38, 39, 75, 76, 77, 78, 79, 80, 81, 82, 83, 84, 85, 86, 87, 88, 89, 90, 91, 92, 93, 94, 95, 96] (by decide +kernel) (by decide +kernel)
set_option maxRecDepth 20000 in
theorem gX1_tare_X1_weighAll : GoodIn wsX1_tare (wsV RX1 59 RX1 yX1_weighAll wsX1_weighAll) := goodIn_app (goodIn_of _ (by decide +kernel)) ggX1_tare_X1_weighAll
set_option maxRecDepth 20000 in
theorem ggX1_tare_X1_remember : GoodIn wsX1_tare wsX1_remember := goodIn_r _ [43, 44, 45, 46, 3, 47, 48, 49, 11, 50, 51, 52, 53, 54, 55, 56, 57, 58, 59, 60, 61, 62, 63, 64, 65, 66, 67, 68, 69, 70, 71, 72, 73, 74, 20, 21, 22, 23, 24, 25, 26, 27, 28, 29, 75, 76, 77, 78, 79, 80, 81, 82, 83, 84, 85, 86, 87, 88, 89, 90, 91, 92, 93, 94, 95, 96] (by decide +kernel) (by decide +kernel)
set_option maxRecDepth 20000 in
theorem gX1_tare_X1_remember : GoodIn wsX1_tare (wsV RX1 46 RX1 yX1_remember wsX1_remember) := goodIn_app (goodIn_of _ (by decide +kernel)) ggX1_tare_X1_remember
theorem dX1_tare_0 : decode cX1_tare 0 = .ok (.iload_n 1, 1) := by decide +kernel
theorem dX1_tare_1 : decode cX1_tare 1 = .ok (.invokestatic 37, 3) := by decide +kernel
theorem dX1_tare_4 : decode cX1_tare 4 = .ok (.ifCond .ne 6, 3) := by decide +kernel
theorem dX1_tare_7 : decode cX1_tare 7 = .ok (.ldc 45, 2) := by decide +kernel
theorem dX1_tare_9 : decode cX1_tare 9 = .ok (.ireturn, 1) := by decide +kernel
theorem dX1_tare_10 : decode cX1_tare 10 = .ok (.aload_n 0, 1) := by decide +kernel
theorem dX1_tare_11 : decode cX1_tare 11 = .ok (.invokevirtual 59, 3) := by decide +kernel
theorem dX1_tare_14 : decode cX1_tare 14 = .ok (.aload_n 0, 1) := by decide +kernel
theorem dX1_tare_15 : decode cX1_tare 15 = .ok (.getfield 27, 3) := by decide +kernel
theorem dX1_tare_18 : decode cX1_tare 18 = .ok (.iload_n 1, 1) := by decide +kernel
theorem dX1_tare_19 : decode cX1_tare 19 = .ok (.iaload, 1) := by decide +kernel
theorem dX1_tare_20 : decode cX1_tare 20 = .ok (.aload_n 0, 1) := by decide +kernel
theorem dX1_tare_21 : decode cX1_tare 21 = .ok (.getfield 10, 3) := by decide +kernel
theorem dX1_tare_24 : decode cX1_tare 24 = .ok (.getfield 56, 3) := by decide +kernel
theorem dX1_tare_27 : decode cX1_tare 27 = .ok (.iload_n 1, 1) := by decide +kernel
theorem dX1_tare_28 : decode cX1_tare 28 = .ok (.iaload, 1) := by decide +kernel
theorem dX1_tare_29 : decode cX1_tare 29 = .ok (.if_icmp .le 6, 3) := by decide +kernel
theorem dX1_tare_32 : decode cX1_tare 32 = .ok (.ldc 55, 2) := by decide +kernel
theorem dX1_tare_34 : decode cX1_tare 34 = .ok (.ireturn, 1) := by decide +kernel
theorem dX1_tare_35 : decode cX1_tare 35 = .ok (.aload_n 0, 1) := by decide +kernel
theorem dX1_tare_36 : decode cX1_tare 36 = .ok (.invokevirtual 46, 3) := by decide +kernel
theorem dX1_tare_39 : decode cX1_tare 39 = .ok (.aload_n 0, 1) := by decide +kernel
theorem dX1_tare_40 : decode cX1_tare 40 = .ok (.getfield 10, 3) := by decide +kernel
theorem dX1_tare_43 : decode cX1_tare 43 = .ok (.getfield 62, 3) := by decide +kernel
theorem dX1_tare_46 : decode cX1_tare 46 = .ok (.iload_n 1, 1) := by decide +kernel
theorem dX1_tare_47 : decode cX1_tare 47 = .ok (.aload_n 0, 1) := by decide +kernel
theorem dX1_tare_48 : decode cX1_tare 48 = .ok (.getfield 27, 3) := by decide +kernel
theorem dX1_tare_51 : decode cX1_tare 51 = .ok (.iload_n 1, 1) := by decide +kernel
theorem dX1_tare_52 : decode cX1_tare 52 = .ok (.iaload, 1) := by decide +kernel
theorem dX1_tare_53 : decode cX1_tare 53 = .ok (.iastore, 1) := by decide +kernel
theorem dX1_tare_54 : decode cX1_tare 54 = .ok (.aload_n 0, 1) := by decide +kernel
theorem dX1_tare_55 : decode cX1_tare 55 = .ok (.getfield 10, 3) := by decide +kernel
theorem dX1_tare_58 : decode cX1_tare 58 = .ok (.getfield 65, 3) := by decide +kernel
theorem dX1_tare_61 : decode cX1_tare 61 = .ok (.iload_n 1, 1) := by decide +kernel
theorem dX1_tare_62 : decode cX1_tare 62 = .ok (.aload_n 0, 1) := by decide +kernel
theorem dX1_tare_63 : decode cX1_tare 63 = .ok (.getfield 10, 3) := by decide +kernel
theorem dX1_tare_66 : decode cX1_tare 66 = .ok (.getfield 52, 3) := by decide +kernel
theorem dX1_tare_69 : decode cX1_tare 69 = .ok (.iastore, 1) := by decide +kernel
theorem dX1_tare_70 : decode cX1_tare 70 = .ok (.aload_n 0, 1) := by decide +kernel
theorem dX1_tare_71 : decode cX1_tare 71 = .ok (.getfield 10, 3) := by decide +kernel
theorem dX1_tare_74 : decode cX1_tare 74 = .ok (.getfield 62, 3) := by decide +kernel
theorem dX1_tare_77 : decode cX1_tare 77 = .ok (.iload_n 1, 1) := by decide +kernel
theorem dX1_tare_78 : decode cX1_tare 78 = .ok (.iaload, 1) := by decide +kernel
theorem dX1_tare_79 : decode cX1_tare 79 = .ok (.ireturn, 1) := by decide +kernel
set_option maxRecDepth 20000 in
theorem ggX1_board_X1_isWeight : GoodIn wsX1_board wsX1_isWeight := goodIn_r _ [14, 15, 16, 13, 17] (by decide +kernel) (by decide +kernel)
set_option maxRecDepth 20000 in
theorem gX1_board_X1_isWeight : GoodIn wsX1_board (va_wsS RX1 68 yX1_isWeight wsX1_isWeight) := goodIn_app (goodIn_of _ (by decide +kernel)) ggX1_board_X1_isWeight
set_option maxRecDepth 20000 in
theorem ggX1_board_X1_isCell : GoodIn wsX1_board wsX1_isCell := goodIn_r _ [20] (by decide +kernel) (by decide +kernel)
set_option maxRecDepth 20000 in
theorem gX1_board_X1_isCell : GoodIn wsX1_board (va_wsS RX1 37 yX1_isCell wsX1_isCell) := goodIn_app (goodIn_of _ (by decide +kernel)) ggX1_board_X1_isCell
set_option maxRecDepth 20000 in
theorem ggX1_board_X1_whoIsOn : GoodIn wsX1_board wsX1_whoIsOn := goodIn_r _ [23, 4] (by decide +kernel) (by decide +kernel)
set_option maxRecDepth 20000 in
theorem gX1_board_X1_whoIsOn : GoodIn wsX1_board (va_wsS RX1 74 yX1_whoIsOn wsX1_whoIsOn) := goodIn_app (goodIn_of _ (by decide +kernel)) ggX1_board_X1_whoIsOn
set_option maxRecDepth 20000 in
theorem ggX1_board_X1_isWithin : GoodIn wsX1_board wsX1_isWithin := goodIn_r _ [17] (by decide +kernel) (by decide +kernel)
set_option maxRecDepth 20000 in
theorem gX1_board_X1_isWithin : GoodIn wsX1_board (va_wsS RX1 41 yX1_isWithin wsX1_isWithin) := goodIn_app (goodIn_of _ (by decide +kernel)) ggX1_board_X1_isWithin
set_option maxRecDepth 20000 in
theorem ggX1_board_X1_remember : GoodIn wsX1_board wsX1_remember := goodIn_r _ [27, 28, 29, 30, 2, 31, 32, 33, 13, 34, 35, 36, 37, 38, 39, 40, 41, 42, 43, 44, 45, 46, 47, 48, 49, 50, 51, 52, 53, 54, 55, 56, 57, 58, 59, 60, 61, 62, 63, 64, 65, 66, 67, 68, 69, 70, 71, 72, 73, 74, 75, 76, 77, 78, 79, 80, 81, 82, 83, 84, 85, 86, 87, 88, 89, 90] (by decide +kernel) (by decide +kernel)
set_option maxRecDepth 20000 in
theorem gX1_board_X1_remember : GoodIn wsX1_board (wsV RX1 46 RX1 yX1_remember wsX1_remember) := goodIn_app (goodIn_of _ (by decide +kernel)) ggX1_board_X1_remember
theorem dX1_board_0 : decode cX1_board 0 = .ok (.iload_n 1, 1) := by decide +kernel
theorem dX1_board_1 : decode cX1_board 1 = .ok (.invokestatic 68, 3) := by decide +kernel
theorem dX1_board_4 : decode cX1_board 4 = .ok (.ifCond .eq 17, 3) := by decide +kernel
theorem dX1_board_7 : decode cX1_board 7 = .ok (.iload_n 2, 1) := by decide +kernel
theorem dX1_board_8 : decode cX1_board 8 = .ok (.invokestatic 68, 3) := by decide +kernel
theorem dX1_board_11 : decode cX1_board 11 = .ok (.ifCond .eq 10, 3) := by decide +kernel
theorem dX1_board_14 : decode cX1_board 14 = .ok (.iload_n 3, 1) := by decide +kernel
theorem dX1_board_15 : decode cX1_board 15 = .ok (.invokestatic 37, 3) := by decide +kernel
theorem dX1_board_18 : decode cX1_board 18 = .ok (.ifCond .ne 6, 3) := by decide +kernel
theorem dX1_board_21 : decode cX1_board 21 = .ok (.ldc 45, 2) := by decide +kernel
theorem dX1_board_23 : decode cX1_board 23 = .ok (.ireturn, 1) := by decide +kernel
theorem dX1_board_24 : decode cX1_board 24 = .ok (.aload_n 0, 1) := by decide +kernel
theorem dX1_board_25 : decode cX1_board 25 = .ok (.getfield 10, 3) := by decide +kernel
theorem dX1_board_28 : decode cX1_board 28 = .ok (.getfield 71, 3) := by decide +kernel
theorem dX1_board_31 : decode cX1_board 31 = .ok (.iload_n 3, 1) := by decide +kernel
theorem dX1_board_32 : decode cX1_board 32 = .ok (.invokestatic 74, 3) := by decide +kernel
theorem dX1_board_35 : decode cX1_board 35 = .ok (.ldc 78, 2) := by decide +kernel
theorem dX1_board_37 : decode cX1_board 37 = .ok (.if_icmp .eq 6, 3) := by decide +kernel
theorem dX1_board_40 : decode cX1_board 40 = .ok (.ldc 55, 2) := by decide +kernel
theorem dX1_board_42 : decode cX1_board 42 = .ok (.ireturn, 1) := by decide +kernel
theorem dX1_board_43 : decode cX1_board 43 = .ok (.aload_n 0, 1) := by decide +kernel
theorem dX1_board_44 : decode cX1_board 44 = .ok (.getfield 10, 3) := by decide +kernel
theorem dX1_board_47 : decode cX1_board 47 = .ok (.getfield 79, 3) := by decide +kernel
theorem dX1_board_50 : decode cX1_board 50 = .ok (.istore 4, 2) := by decide +kernel
theorem dX1_board_52 : decode cX1_board 52 = .ok (.iload 4, 2) := by decide +kernel
theorem dX1_board_54 : decode cX1_board 54 = .ok (.iconst 0, 1) := by decide +kernel
theorem dX1_board_55 : decode cX1_board 55 = .ok (.bipush 7, 2) := by decide +kernel
theorem dX1_board_57 : decode cX1_board 57 = .ok (.invokestatic 41, 3) := by decide +kernel
theorem dX1_board_60 : decode cX1_board 60 = .ok (.ifCond .ne 6, 3) := by decide +kernel
theorem dX1_board_63 : decode cX1_board 63 = .ok (.ldc 82, 2) := by decide +kernel
theorem dX1_board_65 : decode cX1_board 65 = .ok (.ireturn, 1) := by decide +kernel
theorem dX1_board_66 : decode cX1_board 66 = .ok (.aload_n 0, 1) := by decide +kernel
theorem dX1_board_67 : decode cX1_board 67 = .ok (.invokevirtual 46, 3) := by decide +kernel
theorem dX1_board_70 : decode cX1_board 70 = .ok (.aload_n 0, 1) := by decide +kernel
theorem dX1_board_71 : decode cX1_board 71 = .ok (.getfield 10, 3) := by decide +kernel
theorem dX1_board_74 : decode cX1_board 74 = .ok (.getfield 83, 3) := by decide +kernel
theorem dX1_board_77 : decode cX1_board 77 = .ok (.iload 4, 2) := by decide +kernel
theorem dX1_board_79 : decode cX1_board 79 = .ok (.iload_n 1, 1) := by decide +kernel
theorem dX1_board_80 : decode cX1_board 80 = .ok (.iastore, 1) := by decide +kernel
theorem dX1_board_81 : decode cX1_board 81 = .ok (.aload_n 0, 1) := by decide +kernel
theorem dX1_board_82 : decode cX1_board 82 = .ok (.getfield 10, 3) := by decide +kernel
theorem dX1_board_85 : decode cX1_board 85 = .ok (.getfield 71, 3) := by decide +kernel
theorem dX1_board_88 : decode cX1_board 88 = .ok (.iload 4, 2) := by decide +kernel
theorem dX1_board_90 : decode cX1_board 90 = .ok (.iload_n 3, 1) := by decide +kernel
theorem dX1_board_91 : decode cX1_board 91 = .ok (.iastore, 1) := by decide +kernel
theorem dX1_board_92 : decode cX1_board 92 = .ok (.aload_n 0, 1) := by decide +kernel
theorem dX1_board_93 : decode cX1_board 93 = .ok (.getfield 10, 3) := by decide +kernel
theorem dX1_board_96 : decode cX1_board 96 = .ok (.getfield 86, 3) := by decide +kernel
theorem dX1_board_99 : decode cX1_board 99 = .ok (.iload 4, 2) := by decide +kernel
theorem dX1_board_101 : decode cX1_board 101 = .ok (.iload_n 2, 1) := by decide +kernel
theorem dX1_board_102 : decode cX1_board 102 = .ok (.iastore, 1) := by decide +kernel
theorem dX1_board_103 : decode cX1_board 103 = .ok (.aload_n 0, 1) := by decide +kernel
theorem dX1_board_104 : decode cX1_board 104 = .ok (.getfield 10, 3) := by decide +kernel
theorem dX1_board_107 : decode cX1_board 107 = .ok (.getfield 89, 3) := by decide +kernel
theorem dX1_board_110 : decode cX1_board 110 = .ok (.iload 4, 2) := by decide +kernel
theorem dX1_board_112 : decode cX1_board 112 = .ok (.iload_n 3, 1) := by decide +kernel
theorem dX1_board_113 : decode cX1_board 113 = .ok (.iastore, 1) := by decide +kernel
theorem dX1_board_114 : decode cX1_board 114 = .ok (.aload_n 0, 1) := by decide +kernel
theorem dX1_board_115 : decode cX1_board 115 = .ok (.getfield 10, 3) := by decide +kernel
theorem dX1_board_118 : decode cX1_board 118 = .ok (.dup, 1) := by decide +kernel
theorem dX1_board_119 : decode cX1_board 119 = .ok (.getfield 79, 3) := by decide +kernel
theorem dX1_board_122 : decode cX1_board 122 = .ok (.iconst 1, 1) := by decide +kernel
theorem dX1_board_123 : decode cX1_board 123 = .ok (.iadd, 1) := by decide +kernel
theorem dX1_board_124 : decode cX1_board 124 = .ok (.putfield 79, 3) := by decide +kernel
theorem dX1_board_127 : decode cX1_board 127 = .ok (.iload 4, 2) := by decide +kernel
theorem dX1_board_129 : decode cX1_board 129 = .ok (.ireturn, 1) := by decide +kernel
set_option maxRecDepth 20000 in
theorem ggX1_walk_X1_isWalker : GoodIn wsX1_walk wsX1_isWalker := goodIn_r _ [11, 2, 12, 68, 69, 70, 71, 72, 73, 74, 75, 76, 77, 78, 79, 80, 81, 82, 83, 84, 85, 86, 87, 88, 89] (by decide +kernel) (by decide +kernel)
set_option maxRecDepth 20000 in
theorem gX1_walk_X1_isWalker : GoodIn wsX1_walk (wsV RX1 92 RX1 yX1_isWalker wsX1_isWalker) := goodIn_app (goodIn_of _ (by decide +kernel)) ggX1_walk_X1_isWalker
set_option maxRecDepth 20000 in
theorem ggX1_walk_X1_isCell : GoodIn wsX1_walk wsX1_isCell := goodIn_r _ [15] (by decide +kernel) (by decide +kernel)
set_option maxRecDepth 20000 in
theorem gX1_walk_X1_isCell : GoodIn wsX1_walk (va_wsS RX1 37 yX1_isCell wsX1_isCell) := goodIn_app (goodIn_of _ (by decide +kernel)) ggX1_walk_X1_isCell
set_option maxRecDepth 20000 in
theorem ggX1_walk_X1_isAboard : GoodIn wsX1_walk wsX1_isAboard := goodIn_r _ [19, 2, 3, 4, 7, 8, 9, 10, 11, 12, 68, 69, 70, 71, 72, 73, 74, 75, 76, 77, 78, 79, 80, 81, 82, 83, 84, 85, 86, 87, 88, 89] (by decide +kernel) (by decide +kernel)
set_option maxRecDepth 20000 in
theorem gX1_walk_X1_isAboard : GoodIn wsX1_walk (wsV RX1 95 RX1 yX1_isAboard wsX1_isAboard) := goodIn_app (goodIn_of _ (by decide +kernel)) ggX1_walk_X1_isAboard
set_option maxRecDepth 20000 in
theorem ggX1_walk_X1_whoIsOn : GoodIn wsX1_walk wsX1_whoIsOn := goodIn_r _ [22, 4] (by decide +kernel) (by decide +kernel)
set_option maxRecDepth 20000 in
theorem gX1_walk_X1_whoIsOn : GoodIn wsX1_walk (va_wsS RX1 74 yX1_whoIsOn wsX1_whoIsOn) := goodIn_app (goodIn_of _ (by decide +kernel)) ggX1_walk_X1_whoIsOn
set_option maxRecDepth 20000 in
theorem ggX1_walk_X1_remember : GoodIn wsX1_walk wsX1_remember := goodIn_r _ [26, 27, 28, 29, 2, 30, 31, 32, 10, 33, 34, 35, 36, 37, 38, 39, 40, 41, 42, 43, 44, 45, 46, 47, 48, 49, 50, 51, 52, 53, 54, 55, 56, 57, 58, 59, 60, 61, 62, 63, 64, 65, 66, 67, 68, 69, 70, 71, 72, 73, 74, 75, 76, 77, 78, 79, 80, 81, 82, 83, 84, 85, 86, 87, 88, 89] (by decide +kernel) (by decide +kernel)
set_option maxRecDepth 20000 in
theorem gX1_walk_X1_remember : GoodIn wsX1_walk (wsV RX1 46 RX1 yX1_remember wsX1_remember) := goodIn_app (goodIn_of _ (by decide +kernel)) ggX1_walk_X1_remember
theorem dX1_walk_0 : decode cX1_walk 0 = .ok (.aload_n 0, 1) := by decide +kernel
theorem dX1_walk_1 : decode cX1_walk 1 = .ok (.iload_n 1, 1) := by decide +kernel
theorem dX1_walk_2 : decode cX1_walk 2 = .ok (.invokevirtual 92, 3) := by decide +kernel
theorem dX1_walk_5 : decode cX1_walk 5 = .ok (.ifCond .eq 10, 3) := by decide +kernel
theorem dX1_walk_8 : decode cX1_walk 8 = .ok (.iload_n 2, 1) := by decide +kernel
theorem dX1_walk_9 : decode cX1_walk 9 = .ok (.invokestatic 37, 3) := by decide +kernel
theorem dX1_walk_12 : decode cX1_walk 12 = .ok (.ifCond .ne 6, 3) := by decide +kernel
theorem dX1_walk_15 : decode cX1_walk 15 = .ok (.ldc 45, 2) := by decide +kernel
theorem dX1_walk_17 : decode cX1_walk 17 = .ok (.ireturn, 1) := by decide +kernel
theorem dX1_walk_18 : decode cX1_walk 18 = .ok (.aload_n 0, 1) := by decide +kernel
theorem dX1_walk_19 : decode cX1_walk 19 = .ok (.iload_n 1, 1) := by decide +kernel
theorem dX1_walk_20 : decode cX1_walk 20 = .ok (.invokevirtual 95, 3) := by decide +kernel
theorem dX1_walk_23 : decode cX1_walk 23 = .ok (.ifCond .eq 19, 3) := by decide +kernel
theorem dX1_walk_26 : decode cX1_walk 26 = .ok (.aload_n 0, 1) := by decide +kernel
theorem dX1_walk_27 : decode cX1_walk 27 = .ok (.getfield 10, 3) := by decide +kernel
theorem dX1_walk_30 : decode cX1_walk 30 = .ok (.getfield 71, 3) := by decide +kernel
theorem dX1_walk_33 : decode cX1_walk 33 = .ok (.iload_n 2, 1) := by decide +kernel
theorem dX1_walk_34 : decode cX1_walk 34 = .ok (.invokestatic 74, 3) := by decide +kernel
theorem dX1_walk_37 : decode cX1_walk 37 = .ok (.ldc 78, 2) := by decide +kernel
theorem dX1_walk_39 : decode cX1_walk 39 = .ok (.if_icmp .eq 6, 3) := by decide +kernel
theorem dX1_walk_42 : decode cX1_walk 42 = .ok (.ldc 55, 2) := by decide +kernel
theorem dX1_walk_44 : decode cX1_walk 44 = .ok (.ireturn, 1) := by decide +kernel
theorem dX1_walk_45 : decode cX1_walk 45 = .ok (.aload_n 0, 1) := by decide +kernel
theorem dX1_walk_46 : decode cX1_walk 46 = .ok (.invokevirtual 46, 3) := by decide +kernel
theorem dX1_walk_49 : decode cX1_walk 49 = .ok (.aload_n 0, 1) := by decide +kernel
theorem dX1_walk_50 : decode cX1_walk 50 = .ok (.getfield 10, 3) := by decide +kernel
theorem dX1_walk_53 : decode cX1_walk 53 = .ok (.getfield 89, 3) := by decide +kernel
theorem dX1_walk_56 : decode cX1_walk 56 = .ok (.aload_n 0, 1) := by decide +kernel
theorem dX1_walk_57 : decode cX1_walk 57 = .ok (.getfield 10, 3) := by decide +kernel
theorem dX1_walk_60 : decode cX1_walk 60 = .ok (.getfield 71, 3) := by decide +kernel
theorem dX1_walk_63 : decode cX1_walk 63 = .ok (.iload_n 1, 1) := by decide +kernel
theorem dX1_walk_64 : decode cX1_walk 64 = .ok (.iaload, 1) := by decide +kernel
theorem dX1_walk_65 : decode cX1_walk 65 = .ok (.invokestatic 74, 3) := by decide +kernel
theorem dX1_walk_68 : decode cX1_walk 68 = .ok (.istore_n 3, 1) := by decide +kernel
theorem dX1_walk_69 : decode cX1_walk 69 = .ok (.aload_n 0, 1) := by decide +kernel
theorem dX1_walk_70 : decode cX1_walk 70 = .ok (.getfield 10, 3) := by decide +kernel
theorem dX1_walk_73 : decode cX1_walk 73 = .ok (.getfield 71, 3) := by decide +kernel
theorem dX1_walk_76 : decode cX1_walk 76 = .ok (.iload_n 1, 1) := by decide +kernel
theorem dX1_walk_77 : decode cX1_walk 77 = .ok (.iload_n 2, 1) := by decide +kernel
theorem dX1_walk_78 : decode cX1_walk 78 = .ok (.iastore, 1) := by decide +kernel
theorem dX1_walk_79 : decode cX1_walk 79 = .ok (.aload_n 0, 1) := by decide +kernel
theorem dX1_walk_80 : decode cX1_walk 80 = .ok (.iload_n 3, 1) := by decide +kernel
theorem dX1_walk_81 : decode cX1_walk 81 = .ok (.invokevirtual 92, 3) := by decide +kernel
theorem dX1_walk_84 : decode cX1_walk 84 = .ok (.ifCond .eq 13, 3) := by decide +kernel
theorem dX1_walk_87 : decode cX1_walk 87 = .ok (.aload_n 0, 1) := by decide +kernel
theorem dX1_walk_88 : decode cX1_walk 88 = .ok (.getfield 10, 3) := by decide +kernel
theorem dX1_walk_91 : decode cX1_walk 91 = .ok (.getfield 89, 3) := by decide +kernel
theorem dX1_walk_94 : decode cX1_walk 94 = .ok (.iload_n 3, 1) := by decide +kernel
theorem dX1_walk_95 : decode cX1_walk 95 = .ok (.iload_n 2, 1) := by decide +kernel
theorem dX1_walk_96 : decode cX1_walk 96 = .ok (.iastore, 1) := by decide +kernel
theorem dX1_walk_97 : decode cX1_walk 97 = .ok (.iload_n 3, 1) := by decide +kernel
theorem dX1_walk_98 : decode cX1_walk 98 = .ok (.ireturn, 1) := by decide +kernel
set_option maxRecDepth 20000 in
theorem ggX1_swap_X1_isPair : GoodIn wsX1_swap wsX1_isPair := goodIn_r _ [10, 11, 12, 13, 9, 14, 3, 15, 103, 104, 105, 106, 107, 108, 109, 110, 111, 112, 113, 114, 115, 116, 117, 118, 119, 120, 121, 122, 123, 124] (by decide +kernel) (by decide +kernel)
set_option maxRecDepth 20000 in
theorem gX1_swap_X1_isPair : GoodIn wsX1_swap (wsV RX1 98 RX1 yX1_isPair wsX1_isPair) := goodIn_app (goodIn_of _ (by decide +kernel)) ggX1_swap_X1_isPair
set_option maxRecDepth 20000 in
theorem ggX1_swap_X1_isAboard : GoodIn wsX1_swap wsX1_isAboard := goodIn_r _ [19, 3, 4, 20, 11, 12, 13, 9, 14, 15, 103, 104, 105, 106, 107, 108, 109, 110, 111, 112, 113, 114, 115, 116, 117, 118, 119, 120, 121, 122, 123, 124] (by decide +kernel) (by decide +kernel)
set_option maxRecDepth 20000 in
theorem gX1_swap_X1_isAboard : GoodIn wsX1_swap (wsV RX1 95 RX1 yX1_isAboard wsX1_isAboard) := goodIn_app (goodIn_of _ (by decide +kernel)) ggX1_swap_X1_isAboard
set_option maxRecDepth 20000 in
theorem ggX1_swap_X1_remember : GoodIn wsX1_swap wsX1_remember := goodIn_r _ [24, 25, 26, 27, 3, 28, 29, 30, 9, 31, 32, 33, 34, 35, 36, 37, 38, 39, 40, 41, 42, 43, 44, 45, 46, 47, 48, 49, 50, 51, 52, 53, 54, 55, 56, 57, 58, 59, 60, 61, 62, 63, 64, 65, 103, 104, 105, 106, 107, 108, 109, 110, 111, 112, 113, 114, 115, 116, 117, 118, 119, 120, 121, 122, 123, 124] (by decide +kernel) (by decide +kernel)
set_option maxRecDepth 20000 in
theorem gX1_swap_X1_remember : GoodIn wsX1_swap (wsV RX1 46 RX1 yX1_remember wsX1_remember) := goodIn_app (goodIn_of _ (by decide +kernel)) ggX1_swap_X1_remember
set_option maxRecDepth 20000 in
theorem ggX1_swap_X1_exchange : GoodIn wsX1_swap wsX1_exchange := goodIn_r _ [68] (by decide +kernel) (by decide +kernel)
set_option maxRecDepth 20000 in
theorem gX1_swap_X1_exchange : GoodIn wsX1_swap (va_wsS RX1 102 yX1_exchange wsX1_exchange) := goodIn_app (goodIn_of _ (by decide +kernel)) ggX1_swap_X1_exchange
set_option maxRecDepth 20000 in
theorem ggX1_swap_X1_errorWith : GoodIn wsX1_swap wsX1_errorWith := goodIn_r _ [72, 73, 74, 75, 76, 60, 77, 78, 79, 80, 9, 81, 3, 82, 83, 4, 84, 56, 57, 58, 59, 61, 62, 63, 64, 65, 85, 86, 87, 88, 89, 90, 91, 92, 93, 94, 95, 96, 20, 97, 98, 99, 100, 101, 102, 103, 104, 105, 106, 107, 108, 109, 110, 111, 112, 113, 114, 115, 116, 117, 118, 119, 120, 121, 122, 123, 124] (by decide +kernel) (by decide +kernel)
set_option maxRecDepth 20000 in
theorem gX1_swap_X1_errorWith : GoodIn wsX1_swap (wsV RX1 106 RX1 yX1_errorWith wsX1_errorWith) := goodIn_app (goodIn_of _ (by decide +kernel)) ggX1_swap_X1_errorWith
theorem dX1_swap_0 : decode cX1_swap 0 = .ok (.aload_n 0, 1) := by decide +kernel
theorem dX1_swap_1 : decode cX1_swap 1 = .ok (.iload_n 1, 1) := by decide +kernel
theorem dX1_swap_2 : decode cX1_swap 2 = .ok (.iload_n 2, 1) := by decide +kernel
theorem dX1_swap_3 : decode cX1_swap 3 = .ok (.invokevirtual 98, 3) := by decide +kernel
theorem dX1_swap_6 : decode cX1_swap 6 = .ok (.ifCond .ne 6, 3) := by decide +kernel
theorem dX1_swap_9 : decode cX1_swap 9 = .ok (.ldc 45, 2) := by decide +kernel
theorem dX1_swap_11 : decode cX1_swap 11 = .ok (.ireturn, 1) := by decide +kernel
theorem dX1_swap_12 : decode cX1_swap 12 = .ok (.aload_n 0, 1) := by decide +kernel
theorem dX1_swap_13 : decode cX1_swap 13 = .ok (.iload_n 1, 1) := by decide +kernel
theorem dX1_swap_14 : decode cX1_swap 14 = .ok (.invokevirtual 95, 3) := by decide +kernel
theorem dX1_swap_17 : decode cX1_swap 17 = .ok (.ifCond .eq 11, 3) := by decide +kernel
theorem dX1_swap_20 : decode cX1_swap 20 = .ok (.aload_n 0, 1) := by decide +kernel
theorem dX1_swap_21 : decode cX1_swap 21 = .ok (.iload_n 2, 1) := by decide +kernel
theorem dX1_swap_22 : decode cX1_swap 22 = .ok (.invokevirtual 95, 3) := by decide +kernel
theorem dX1_swap_25 : decode cX1_swap 25 = .ok (.ifCond .ne 6, 3) := by decide +kernel
theorem dX1_swap_28 : decode cX1_swap 28 = .ok (.ldc 55, 2) := by decide +kernel
theorem dX1_swap_30 : decode cX1_swap 30 = .ok (.ireturn, 1) := by decide +kernel
theorem dX1_swap_31 : decode cX1_swap 31 = .ok (.aload_n 0, 1) := by decide +kernel
theorem dX1_swap_32 : decode cX1_swap 32 = .ok (.invokevirtual 46, 3) := by decide +kernel
theorem dX1_swap_35 : decode cX1_swap 35 = .ok (.aload_n 0, 1) := by decide +kernel
theorem dX1_swap_36 : decode cX1_swap 36 = .ok (.getfield 10, 3) := by decide +kernel
theorem dX1_swap_39 : decode cX1_swap 39 = .ok (.getfield 71, 3) := by decide +kernel
theorem dX1_swap_42 : decode cX1_swap 42 = .ok (.iload_n 1, 1) := by decide +kernel
theorem dX1_swap_43 : decode cX1_swap 43 = .ok (.iload_n 2, 1) := by decide +kernel
theorem dX1_swap_44 : decode cX1_swap 44 = .ok (.invokestatic 102, 3) := by decide +kernel
theorem dX1_swap_47 : decode cX1_swap 47 = .ok (.aload_n 0, 1) := by decide +kernel
theorem dX1_swap_48 : decode cX1_swap 48 = .ok (.aload_n 0, 1) := by decide +kernel
theorem dX1_swap_49 : decode cX1_swap 49 = .ok (.getfield 10, 3) := by decide +kernel
theorem dX1_swap_52 : decode cX1_swap 52 = .ok (.getfield 89, 3) := by decide +kernel
theorem dX1_swap_55 : decode cX1_swap 55 = .ok (.invokevirtual 106, 3) := by decide +kernel
theorem dX1_swap_58 : decode cX1_swap 58 = .ok (.ireturn, 1) := by decide +kernel
set_option maxRecDepth 20000 in
theorem ggX1_leave_X1_isWalker : GoodIn wsX1_leave wsX1_isWalker := goodIn_r _ [11, 3, 12, 65, 66, 67, 68, 69, 70, 71, 72, 73, 74, 75, 76, 77, 78, 79, 80, 81, 82, 83, 84, 85, 86] (by decide +kernel) (by decide +kernel)
set_option maxRecDepth 20000 in
theorem gX1_leave_X1_isWalker : GoodIn wsX1_leave (wsV RX1 92 RX1 yX1_isWalker wsX1_isWalker) := goodIn_app (goodIn_of _ (by decide +kernel)) ggX1_leave_X1_isWalker
set_option maxRecDepth 20000 in
theorem ggX1_leave_X1_isAboard : GoodIn wsX1_leave wsX1_isAboard := goodIn_r _ [16, 3, 4, 6, 7, 8, 9, 10, 11, 12, 65, 66, 67, 68, 69, 70, 71, 72, 73, 74, 75, 76, 77, 78, 79, 80, 81, 82, 83, 84, 85, 86] (by decide +kernel) (by decide +kernel)
set_option maxRecDepth 20000 in
theorem gX1_leave_X1_isAboard : GoodIn wsX1_leave (wsV RX1 95 RX1 yX1_isAboard wsX1_isAboard) := goodIn_app (goodIn_of _ (by decide +kernel)) ggX1_leave_X1_isAboard
set_option maxRecDepth 20000 in
theorem ggX1_leave_X1_remember : GoodIn wsX1_leave wsX1_remember := goodIn_r _ [20, 21, 22, 23, 3, 24, 25, 26, 10, 27, 28, 29, 30, 31, 32, 33, 34, 35, 36, 37, 38, 39, 40, 41, 42, 43, 44, 45, 46, 47, 48, 49, 50, 51, 52, 53, 54, 55, 56, 57, 58, 59, 60, 61, 65, 66, 67, 68, 69, 70, 71, 72, 73, 74, 75, 76, 77, 78, 79, 80, 81, 82, 83, 84, 85, 86] (by decide +kernel) (by decide +kernel)
set_option maxRecDepth 20000 in
theorem gX1_leave_X1_remember : GoodIn wsX1_leave (wsV RX1 46 RX1 yX1_remember wsX1_remember) := goodIn_app (goodIn_of _ (by decide +kernel)) ggX1_leave_X1_remember
set_option maxRecDepth 20000 in
theorem ggX1_leave_X1_whoIsOn : GoodIn wsX1_leave wsX1_whoIsOn := goodIn_r _ [64, 6] (by decide +kernel) (by decide +kernel)
set_option maxRecDepth 20000 in
theorem gX1_leave_X1_whoIsOn : GoodIn wsX1_leave (va_wsS RX1 74 yX1_whoIsOn wsX1_whoIsOn) := goodIn_app (goodIn_of _ (by decide +kernel)) ggX1_leave_X1_whoIsOn
theorem dX1_leave_0 : decode cX1_leave 0 = .ok (.aload_n 0, 1) := by decide +kernel
theorem dX1_leave_1 : decode cX1_leave 1 = .ok (.iload_n 1, 1) := by decide +kernel
theorem dX1_leave_2 : decode cX1_leave 2 = .ok (.invokevirtual 92, 3) := by decide +kernel
theorem dX1_leave_5 : decode cX1_leave 5 = .ok (.ifCond .ne 6, 3) := by decide +kernel
theorem dX1_leave_8 : decode cX1_leave 8 = .ok (.ldc 45, 2) := by decide +kernel
theorem dX1_leave_10 : decode cX1_leave 10 = .ok (.ireturn, 1) := by decide +kernel
theorem dX1_leave_11 : decode cX1_leave 11 = .ok (.aload_n 0, 1) := by decide +kernel
theorem dX1_leave_12 : decode cX1_leave 12 = .ok (.iload_n 1, 1) := by decide +kernel
theorem dX1_leave_13 : decode cX1_leave 13 = .ok (.invokevirtual 95, 3) := by decide +kernel
theorem dX1_leave_16 : decode cX1_leave 16 = .ok (.ifCond .ne 6, 3) := by decide +kernel
theorem dX1_leave_19 : decode cX1_leave 19 = .ok (.ldc 55, 2) := by decide +kernel
theorem dX1_leave_21 : decode cX1_leave 21 = .ok (.ireturn, 1) := by decide +kernel
theorem dX1_leave_22 : decode cX1_leave 22 = .ok (.aload_n 0, 1) := by decide +kernel
theorem dX1_leave_23 : decode cX1_leave 23 = .ok (.invokevirtual 46, 3) := by decide +kernel
theorem dX1_leave_26 : decode cX1_leave 26 = .ok (.aload_n 0, 1) := by decide +kernel
theorem dX1_leave_27 : decode cX1_leave 27 = .ok (.getfield 10, 3) := by decide +kernel
theorem dX1_leave_30 : decode cX1_leave 30 = .ok (.getfield 71, 3) := by decide +kernel
theorem dX1_leave_33 : decode cX1_leave 33 = .ok (.iload_n 1, 1) := by decide +kernel
theorem dX1_leave_34 : decode cX1_leave 34 = .ok (.iaload, 1) := by decide +kernel
theorem dX1_leave_35 : decode cX1_leave 35 = .ok (.istore_n 2, 1) := by decide +kernel
theorem dX1_leave_36 : decode cX1_leave 36 = .ok (.aload_n 0, 1) := by decide +kernel
theorem dX1_leave_37 : decode cX1_leave 37 = .ok (.getfield 10, 3) := by decide +kernel
theorem dX1_leave_40 : decode cX1_leave 40 = .ok (.getfield 89, 3) := by decide +kernel
theorem dX1_leave_43 : decode cX1_leave 43 = .ok (.iload_n 1, 1) := by decide +kernel
theorem dX1_leave_44 : decode cX1_leave 44 = .ok (.iaload, 1) := by decide +kernel
theorem dX1_leave_45 : decode cX1_leave 45 = .ok (.istore_n 3, 1) := by decide +kernel
theorem dX1_leave_46 : decode cX1_leave 46 = .ok (.aload_n 0, 1) := by decide +kernel
theorem dX1_leave_47 : decode cX1_leave 47 = .ok (.getfield 10, 3) := by decide +kernel
theorem dX1_leave_50 : decode cX1_leave 50 = .ok (.getfield 89, 3) := by decide +kernel
theorem dX1_leave_53 : decode cX1_leave 53 = .ok (.iload_n 2, 1) := by decide +kernel
theorem dX1_leave_54 : decode cX1_leave 54 = .ok (.invokestatic 74, 3) := by decide +kernel
theorem dX1_leave_57 : decode cX1_leave 57 = .ok (.istore 4, 2) := by decide +kernel
theorem dX1_leave_59 : decode cX1_leave 59 = .ok (.aload_n 0, 1) := by decide +kernel
theorem dX1_leave_60 : decode cX1_leave 60 = .ok (.iload 4, 2) := by decide +kernel
theorem dX1_leave_62 : decode cX1_leave 62 = .ok (.invokevirtual 92, 3) := by decide +kernel
theorem dX1_leave_65 : decode cX1_leave 65 = .ok (.ifCond .eq 14, 3) := by decide +kernel
theorem dX1_leave_68 : decode cX1_leave 68 = .ok (.aload_n 0, 1) := by decide +kernel
theorem dX1_leave_69 : decode cX1_leave 69 = .ok (.getfield 10, 3) := by decide +kernel
theorem dX1_leave_72 : decode cX1_leave 72 = .ok (.getfield 89, 3) := by decide +kernel
theorem dX1_leave_75 : decode cX1_leave 75 = .ok (.iload 4, 2) := by decide +kernel
theorem dX1_leave_77 : decode cX1_leave 77 = .ok (.iload_n 3, 1) := by decide +kernel
theorem dX1_leave_78 : decode cX1_leave 78 = .ok (.iastore, 1) := by decide +kernel
theorem dX1_leave_79 : decode cX1_leave 79 = .ok (.aload_n 0, 1) := by decide +kernel
theorem dX1_leave_80 : decode cX1_leave 80 = .ok (.getfield 10, 3) := by decide +kernel
theorem dX1_leave_83 : decode cX1_leave 83 = .ok (.getfield 71, 3) := by decide +kernel
theorem dX1_leave_86 : decode cX1_leave 86 = .ok (.iload_n 1, 1) := by decide +kernel
theorem dX1_leave_87 : decode cX1_leave 87 = .ok (.ldc 78, 2) := by decide +kernel
theorem dX1_leave_89 : decode cX1_leave 89 = .ok (.iastore, 1) := by decide +kernel
theorem dX1_leave_90 : decode cX1_leave 90 = .ok (.aload_n 0, 1) := by decide +kernel
theorem dX1_leave_91 : decode cX1_leave 91 = .ok (.getfield 10, 3) := by decide +kernel
theorem dX1_leave_94 : decode cX1_leave 94 = .ok (.getfield 89, 3) := by decide +kernel
theorem dX1_leave_97 : decode cX1_leave 97 = .ok (.iload_n 1, 1) := by decide +kernel
theorem dX1_leave_98 : decode cX1_leave 98 = .ok (.ldc 78, 2) := by decide +kernel
theorem dX1_leave_100 : decode cX1_leave 100 = .ok (.iastore, 1) := by decide +kernel
theorem dX1_leave_101 : decode cX1_leave 101 = .ok (.iload_n 2, 1) := by decide +kernel
theorem dX1_leave_102 : decode cX1_leave 102 = .ok (.iload_n 3, 1) := by decide +kernel
theorem dX1_leave_103 : decode cX1_leave 103 = .ok (.if_icmp .ne 7, 3) := by decide +kernel
theorem dX1_leave_106 : decode cX1_leave 106 = .ok (.iconst 1, 1) := by decide +kernel
theorem dX1_leave_107 : decode cX1_leave 107 = .ok (.goto 4, 3) := by decide +kernel
theorem dX1_leave_110 : decode cX1_leave 110 = .ok (.iconst 0, 1) := by decide +kernel
theorem dX1_leave_111 : decode cX1_leave 111 = .ok (.ireturn, 1) := by decide +kernel
set_option maxRecDepth 20000 in
theorem ggX1_setPrice_X1_isWithin : GoodIn wsX1_setPrice wsX1_isWithin := goodIn_r _ [7] (by decide +kernel) (by decide +kernel)
set_option maxRecDepth 20000 in
theorem gX1_setPrice_X1_isWithin : GoodIn wsX1_setPrice (va_wsS RX1 41 yX1_isWithin wsX1_isWithin) := goodIn_app (goodIn_of _ (by decide +kernel)) ggX1_setPrice_X1_isWithin
set_option maxRecDepth 20000 in
theorem ggX1_setPrice_X1_remember : GoodIn wsX1_setPrice wsX1_remember := goodIn_r _ [11, 12, 13, 14, 2, 15, 16, 17, 6, 18, 19, 20, 21, 22, 23, 24, 25, 26, 27, 28, 29, 30, 31, 32, 33, 34, 35, 36, 37, 38, 39, 40, 41, 42, 43, 44, 45, 46, 47, 48, 49, 50, 51, 52, 53, 54, 55, 56, 57, 58, 59, 60, 61, 62, 63, 64, 65, 66, 67, 68, 69, 70, 71, 72, 73, 74] (by decide +kernel) (by decide +kernel)
set_option maxRecDepth 20000 in
theorem gX1_setPrice_X1_remember : GoodIn wsX1_setPrice (wsV RX1 46 RX1 yX1_remember wsX1_remember) := goodIn_app (goodIn_of _ (by decide +kernel)) ggX1_setPrice_X1_remember
theorem dX1_setPrice_0 : decode cX1_setPrice 0 = .ok (.iload_n 1, 1) := by decide +kernel
theorem dX1_setPrice_1 : decode cX1_setPrice 1 = .ok (.iconst 0, 1) := by decide +kernel
theorem dX1_setPrice_2 : decode cX1_setPrice 2 = .ok (.bipush 100, 2) := by decide +kernel
theorem dX1_setPrice_4 : decode cX1_setPrice 4 = .ok (.invokestatic 41, 3) := by decide +kernel
theorem dX1_setPrice_7 : decode cX1_setPrice 7 = .ok (.ifCond .ne 6, 3) := by decide +kernel
theorem dX1_setPrice_10 : decode cX1_setPrice 10 = .ok (.ldc 45, 2) := by decide +kernel
theorem dX1_setPrice_12 : decode cX1_setPrice 12 = .ok (.ireturn, 1) := by decide +kernel
theorem dX1_setPrice_13 : decode cX1_setPrice 13 = .ok (.aload_n 0, 1) := by decide +kernel
theorem dX1_setPrice_14 : decode cX1_setPrice 14 = .ok (.invokevirtual 46, 3) := by decide +kernel
theorem dX1_setPrice_17 : decode cX1_setPrice 17 = .ok (.aload_n 0, 1) := by decide +kernel
theorem dX1_setPrice_18 : decode cX1_setPrice 18 = .ok (.getfield 10, 3) := by decide +kernel
theorem dX1_setPrice_21 : decode cX1_setPrice 21 = .ok (.getfield 110, 3) := by decide +kernel
theorem dX1_setPrice_24 : decode cX1_setPrice 24 = .ok (.istore_n 2, 1) := by decide +kernel
theorem dX1_setPrice_25 : decode cX1_setPrice 25 = .ok (.aload_n 0, 1) := by decide +kernel
theorem dX1_setPrice_26 : decode cX1_setPrice 26 = .ok (.getfield 10, 3) := by decide +kernel
theorem dX1_setPrice_29 : decode cX1_setPrice 29 = .ok (.iload_n 1, 1) := by decide +kernel
theorem dX1_setPrice_30 : decode cX1_setPrice 30 = .ok (.putfield 110, 3) := by decide +kernel
theorem dX1_setPrice_33 : decode cX1_setPrice 33 = .ok (.iload_n 2, 1) := by decide +kernel
theorem dX1_setPrice_34 : decode cX1_setPrice 34 = .ok (.ireturn, 1) := by decide +kernel
set_option maxRecDepth 20000 in
theorem ggX1_accuse_X1_isPair : GoodIn wsX1_accuse wsX1_isPair := goodIn_r _ [10, 11, 12, 13, 9, 14, 3, 15, 104, 105, 106, 107, 108, 109, 110, 111, 112, 113, 114, 115, 116, 117, 118, 119, 120, 121, 122, 123, 124, 125] (by decide +kernel) (by decide +kernel)
set_option maxRecDepth 20000 in
theorem gX1_accuse_X1_isPair : GoodIn wsX1_accuse (wsV RX1 98 RX1 yX1_isPair wsX1_isPair) := goodIn_app (goodIn_of _ (by decide +kernel)) ggX1_accuse_X1_isPair
set_option maxRecDepth 20000 in
theorem ggX1_accuse_X1_isAboard : GoodIn wsX1_accuse wsX1_isAboard := goodIn_r _ [19, 3, 20, 21, 11, 12, 13, 9, 14, 15, 104, 105, 106, 107, 108, 109, 110, 111, 112, 113, 114, 115, 116, 117, 118, 119, 120, 121, 122, 123, 124, 125] (by decide +kernel) (by decide +kernel)
set_option maxRecDepth 20000 in
theorem gX1_accuse_X1_isAboard : GoodIn wsX1_accuse (wsV RX1 95 RX1 yX1_isAboard wsX1_isAboard) := goodIn_app (goodIn_of _ (by decide +kernel)) ggX1_accuse_X1_isAboard
set_option maxRecDepth 20000 in
theorem ggX1_accuse_X1_remember : GoodIn wsX1_accuse wsX1_remember := goodIn_r _ [25, 26, 27, 28, 3, 29, 30, 31, 9, 32, 33, 34, 35, 36, 37, 38, 39, 40, 41, 42, 43, 44, 45, 46, 47, 48, 49, 50, 51, 52, 53, 54, 55, 56, 57, 58, 59, 60, 61, 62, 63, 64, 65, 66, 104, 105, 106, 107, 108, 109, 110, 111, 112, 113, 114, 115, 116, 117, 118, 119, 120, 121, 122, 123, 124, 125] (by decide +kernel) (by decide +kernel)
set_option maxRecDepth 20000 in
theorem gX1_accuse_X1_remember : GoodIn wsX1_accuse (wsV RX1 46 RX1 yX1_remember wsX1_remember) := goodIn_app (goodIn_of _ (by decide +kernel)) ggX1_accuse_X1_remember
set_option maxRecDepth 20000 in
theorem ggX1_accuse_X1_exchange : GoodIn wsX1_accuse wsX1_exchange := goodIn_r _ [69] (by decide +kernel) (by decide +kernel)
set_option maxRecDepth 20000 in
theorem gX1_accuse_X1_exchange : GoodIn wsX1_accuse (va_wsS RX1 102 yX1_exchange wsX1_exchange) := goodIn_app (goodIn_of _ (by decide +kernel)) ggX1_accuse_X1_exchange
set_option maxRecDepth 20000 in
theorem ggX1_accuse_X1_errorWith : GoodIn wsX1_accuse wsX1_errorWith := goodIn_r _ [73, 74, 75, 76, 77, 61, 78, 79, 80, 81, 9, 82, 3, 83, 84, 20, 85, 57, 58, 59, 60, 62, 63, 64, 65, 66, 86, 87, 88, 89, 90, 91, 92, 93, 94, 95, 96, 97, 21, 98, 99, 100, 101, 102, 103, 104, 105, 106, 107, 108, 109, 110, 111, 112, 113, 114, 115, 116, 117, 118, 119, 120, 121, 122, 123, 124, 125] (by decide +kernel) (by decide +kernel)
set_option maxRecDepth 20000 in
theorem gX1_accuse_X1_errorWith : GoodIn wsX1_accuse (wsV RX1 106 RX1 yX1_errorWith wsX1_errorWith) := goodIn_app (goodIn_of _ (by decide +kernel)) ggX1_accuse_X1_errorWith
theorem dX1_accuse_0 : decode cX1_accuse 0 = .ok (.aload_n 0, 1) := by decide +kernel
theorem dX1_accuse_1 : decode cX1_accuse 1 = .ok (.iload_n 1, 1) := by decide +kernel
theorem dX1_accuse_2 : decode cX1_accuse 2 = .ok (.iload_n 2, 1) := by decide +kernel
theorem dX1_accuse_3 : decode cX1_accuse 3 = .ok (.invokevirtual 98, 3) := by decide +kernel
theorem dX1_accuse_6 : decode cX1_accuse 6 = .ok (.ifCond .ne 6, 3) := by decide +kernel
theorem dX1_accuse_9 : decode cX1_accuse 9 = .ok (.ldc 45, 2) := by decide +kernel
theorem dX1_accuse_11 : decode cX1_accuse 11 = .ok (.ireturn, 1) := by decide +kernel
theorem dX1_accuse_12 : decode cX1_accuse 12 = .ok (.aload_n 0, 1) := by decide +kernel
theorem dX1_accuse_13 : decode cX1_accuse 13 = .ok (.iload_n 1, 1) := by decide +kernel
theorem dX1_accuse_14 : decode cX1_accuse 14 = .ok (.invokevirtual 95, 3) := by decide +kernel
theorem dX1_accuse_17 : decode cX1_accuse 17 = .ok (.ifCond .eq 11, 3) := by decide +kernel
theorem dX1_accuse_20 : decode cX1_accuse 20 = .ok (.aload_n 0, 1) := by decide +kernel
theorem dX1_accuse_21 : decode cX1_accuse 21 = .ok (.iload_n 2, 1) := by decide +kernel
theorem dX1_accuse_22 : decode cX1_accuse 22 = .ok (.invokevirtual 95, 3) := by decide +kernel
theorem dX1_accuse_25 : decode cX1_accuse 25 = .ok (.ifCond .ne 6, 3) := by decide +kernel
theorem dX1_accuse_28 : decode cX1_accuse 28 = .ok (.ldc 55, 2) := by decide +kernel
theorem dX1_accuse_30 : decode cX1_accuse 30 = .ok (.ireturn, 1) := by decide +kernel
theorem dX1_accuse_31 : decode cX1_accuse 31 = .ok (.aload_n 0, 1) := by decide +kernel
theorem dX1_accuse_32 : decode cX1_accuse 32 = .ok (.invokevirtual 46, 3) := by decide +kernel
theorem dX1_accuse_35 : decode cX1_accuse 35 = .ok (.aload_n 0, 1) := by decide +kernel
theorem dX1_accuse_36 : decode cX1_accuse 36 = .ok (.getfield 10, 3) := by decide +kernel
theorem dX1_accuse_39 : decode cX1_accuse 39 = .ok (.getfield 89, 3) := by decide +kernel
theorem dX1_accuse_42 : decode cX1_accuse 42 = .ok (.iload_n 1, 1) := by decide +kernel
theorem dX1_accuse_43 : decode cX1_accuse 43 = .ok (.iload_n 2, 1) := by decide +kernel
theorem dX1_accuse_44 : decode cX1_accuse 44 = .ok (.invokestatic 102, 3) := by decide +kernel
theorem dX1_accuse_47 : decode cX1_accuse 47 = .ok (.aload_n 0, 1) := by decide +kernel
theorem dX1_accuse_48 : decode cX1_accuse 48 = .ok (.getfield 10, 3) := by decide +kernel
theorem dX1_accuse_51 : decode cX1_accuse 51 = .ok (.getfield 113, 3) := by decide +kernel
theorem dX1_accuse_54 : decode cX1_accuse 54 = .ok (.iload_n 1, 1) := by decide +kernel
theorem dX1_accuse_55 : decode cX1_accuse 55 = .ok (.dup2, 1) := by decide +kernel
theorem dX1_accuse_56 : decode cX1_accuse 56 = .ok (.iaload, 1) := by decide +kernel
theorem dX1_accuse_57 : decode cX1_accuse 57 = .ok (.iconst 1, 1) := by decide +kernel
theorem dX1_accuse_58 : decode cX1_accuse 58 = .ok (.iadd, 1) := by decide +kernel
theorem dX1_accuse_59 : decode cX1_accuse 59 = .ok (.iastore, 1) := by decide +kernel
theorem dX1_accuse_60 : decode cX1_accuse 60 = .ok (.aload_n 0, 1) := by decide +kernel
theorem dX1_accuse_61 : decode cX1_accuse 61 = .ok (.getfield 10, 3) := by decide +kernel
theorem dX1_accuse_64 : decode cX1_accuse 64 = .ok (.getfield 113, 3) := by decide +kernel
theorem dX1_accuse_67 : decode cX1_accuse 67 = .ok (.iload_n 2, 1) := by decide +kernel
theorem dX1_accuse_68 : decode cX1_accuse 68 = .ok (.dup2, 1) := by decide +kernel
theorem dX1_accuse_69 : decode cX1_accuse 69 = .ok (.iaload, 1) := by decide +kernel
theorem dX1_accuse_70 : decode cX1_accuse 70 = .ok (.iconst 1, 1) := by decide +kernel
theorem dX1_accuse_71 : decode cX1_accuse 71 = .ok (.iadd, 1) := by decide +kernel
theorem dX1_accuse_72 : decode cX1_accuse 72 = .ok (.iastore, 1) := by decide +kernel
theorem dX1_accuse_73 : decode cX1_accuse 73 = .ok (.aload_n 0, 1) := by decide +kernel
theorem dX1_accuse_74 : decode cX1_accuse 74 = .ok (.aload_n 0, 1) := by decide +kernel
theorem dX1_accuse_75 : decode cX1_accuse 75 = .ok (.getfield 10, 3) := by decide +kernel
theorem dX1_accuse_78 : decode cX1_accuse 78 = .ok (.getfield 89, 3) := by decide +kernel
theorem dX1_accuse_81 : decode cX1_accuse 81 = .ok (.invokevirtual 106, 3) := by decide +kernel
theorem dX1_accuse_84 : decode cX1_accuse 84 = .ok (.ireturn, 1) := by decide +kernel
set_option maxRecDepth 20000 in
theorem ggX1_bill_X1_isWalker : GoodIn wsX1_bill wsX1_isWalker := goodIn_r _ [13, 2, 14, 129, 130, 131, 132, 133, 134, 135, 136, 137, 138, 139, 140, 141, 142, 143, 144, 145, 146, 147, 148, 149, 150] (by decide +kernel) (by decide +kernel)
set_option maxRecDepth 20000 in
theorem gX1_bill_X1_isWalker : GoodIn wsX1_bill (wsV RX1 92 RX1 yX1_isWalker wsX1_isWalker) := goodIn_app (goodIn_of _ (by decide +kernel)) ggX1_bill_X1_isWalker
set_option maxRecDepth 20000 in
theorem ggX1_bill_X1_isAboard : GoodIn wsX1_bill wsX1_isAboard := goodIn_r _ [18, 2, 19, 4, 9, 10, 11, 12, 13, 14, 129, 130, 131, 132, 133, 134, 135, 136, 137, 138, 139, 140, 141, 142, 143, 144, 145, 146, 147, 148, 149, 150] (by decide +kernel) (by decide +kernel)
set_option maxRecDepth 20000 in
theorem gX1_bill_X1_isAboard : GoodIn wsX1_bill (wsV RX1 95 RX1 yX1_isAboard wsX1_isAboard) := goodIn_app (goodIn_of _ (by decide +kernel)) ggX1_bill_X1_isAboard
set_option maxRecDepth 20000 in
theorem ggX1_bill_X1_remember : GoodIn wsX1_bill wsX1_remember := goodIn_r _ [23, 24, 25, 26, 2, 27, 28, 29, 12, 30, 31, 32, 33, 34, 35, 36, 37, 38, 39, 40, 41, 42, 43, 44, 45, 46, 47, 48, 49, 50, 51, 52, 53, 54, 55, 56, 57, 58, 59, 60, 61, 62, 63, 64, 129, 130, 131, 132, 133, 134, 135, 136, 137, 138, 139, 140, 141, 142, 143, 144, 145, 146, 147, 148, 149, 150] (by decide +kernel) (by decide +kernel)
set_option maxRecDepth 20000 in
theorem gX1_bill_X1_remember : GoodIn wsX1_bill (wsV RX1 46 RX1 yX1_remember wsX1_remember) := goodIn_app (goodIn_of _ (by decide +kernel)) ggX1_bill_X1_remember
set_option maxRecDepth 20000 in
theorem ggX1_bill_X1_kilogramsToBill : GoodIn wsX1_bill wsX1_kilogramsToBill := goodIn_r _ [68, 2, 69, 57, 58, 59, 60, 70, 71, 72, 73, 74, 75, 12, 76, 77, 8, 78, 79, 15, 16, 17, 18, 19, 4, 9, 10, 11, 13, 14, 80, 81, 82, 83, 84, 85, 86, 55, 56, 61, 62, 63, 64, 87, 88, 89, 90, 91, 92, 93, 94, 95, 96, 97, 98, 99, 100, 101, 102, 103, 104, 105, 106, 107, 108, 109, 110, 111, 112, 113, 114, 115, 116, 117, 118, 119, 120, 121, 122, 123, 124, 3, 125, 126, 127, 128, 129, 130, 131, 132, 133, 134, 135, 136, 137, 138, 139, 140, 141, 142, 143, 144, 145, 146, 147, 148, 149, 150] (by decide +kernel) (by decide +kernel)
set_option maxRecDepth 20000 in
theorem gX1_bill_X1_kilogramsToBill : GoodIn wsX1_bill (wsV RX1 119 RX1 yX1_kilogramsToBill wsX1_kilogramsToBill) := goodIn_app (goodIn_of _ (by decide +kernel)) ggX1_bill_X1_kilogramsToBill
theorem dX1_bill_0 : decode cX1_bill 0 = .ok (.aload_n 0, 1) := by decide +kernel
theorem dX1_bill_1 : decode cX1_bill 1 = .ok (.iload_n 1, 1) := by decide +kernel
theorem dX1_bill_2 : decode cX1_bill 2 = .ok (.invokevirtual 92, 3) := by decide +kernel
theorem dX1_bill_5 : decode cX1_bill 5 = .ok (.ifCond .ne 6, 3) := by decide +kernel
theorem dX1_bill_8 : decode cX1_bill 8 = .ok (.ldc 45, 2) := by decide +kernel
theorem dX1_bill_10 : decode cX1_bill 10 = .ok (.ireturn, 1) := by decide +kernel
theorem dX1_bill_11 : decode cX1_bill 11 = .ok (.aload_n 0, 1) := by decide +kernel
theorem dX1_bill_12 : decode cX1_bill 12 = .ok (.iload_n 1, 1) := by decide +kernel
theorem dX1_bill_13 : decode cX1_bill 13 = .ok (.invokevirtual 95, 3) := by decide +kernel
theorem dX1_bill_16 : decode cX1_bill 16 = .ok (.ifCond .eq 17, 3) := by decide +kernel
theorem dX1_bill_19 : decode cX1_bill 19 = .ok (.aload_n 0, 1) := by decide +kernel
theorem dX1_bill_20 : decode cX1_bill 20 = .ok (.getfield 10, 3) := by decide +kernel
theorem dX1_bill_23 : decode cX1_bill 23 = .ok (.getfield 116, 3) := by decide +kernel
theorem dX1_bill_26 : decode cX1_bill 26 = .ok (.iload_n 1, 1) := by decide +kernel
theorem dX1_bill_27 : decode cX1_bill 27 = .ok (.iaload, 1) := by decide +kernel
theorem dX1_bill_28 : decode cX1_bill 28 = .ok (.ldc 78, 2) := by decide +kernel
theorem dX1_bill_30 : decode cX1_bill 30 = .ok (.if_icmp .eq 6, 3) := by decide +kernel
theorem dX1_bill_33 : decode cX1_bill 33 = .ok (.ldc 55, 2) := by decide +kernel
theorem dX1_bill_35 : decode cX1_bill 35 = .ok (.ireturn, 1) := by decide +kernel
theorem dX1_bill_36 : decode cX1_bill 36 = .ok (.aload_n 0, 1) := by decide +kernel
theorem dX1_bill_37 : decode cX1_bill 37 = .ok (.invokevirtual 46, 3) := by decide +kernel
theorem dX1_bill_40 : decode cX1_bill 40 = .ok (.aload_n 0, 1) := by decide +kernel
theorem dX1_bill_41 : decode cX1_bill 41 = .ok (.iload_n 1, 1) := by decide +kernel
theorem dX1_bill_42 : decode cX1_bill 42 = .ok (.invokevirtual 119, 3) := by decide +kernel
theorem dX1_bill_45 : decode cX1_bill 45 = .ok (.istore_n 2, 1) := by decide +kernel
theorem dX1_bill_46 : decode cX1_bill 46 = .ok (.aload_n 0, 1) := by decide +kernel
theorem dX1_bill_47 : decode cX1_bill 47 = .ok (.getfield 10, 3) := by decide +kernel
theorem dX1_bill_50 : decode cX1_bill 50 = .ok (.getfield 116, 3) := by decide +kernel
theorem dX1_bill_53 : decode cX1_bill 53 = .ok (.iload_n 1, 1) := by decide +kernel
theorem dX1_bill_54 : decode cX1_bill 54 = .ok (.iload_n 2, 1) := by decide +kernel
theorem dX1_bill_55 : decode cX1_bill 55 = .ok (.iastore, 1) := by decide +kernel
theorem dX1_bill_56 : decode cX1_bill 56 = .ok (.aload_n 0, 1) := by decide +kernel
theorem dX1_bill_57 : decode cX1_bill 57 = .ok (.getfield 10, 3) := by decide +kernel
theorem dX1_bill_60 : decode cX1_bill 60 = .ok (.getfield 123, 3) := by decide +kernel
theorem dX1_bill_63 : decode cX1_bill 63 = .ok (.iload_n 1, 1) := by decide +kernel
theorem dX1_bill_64 : decode cX1_bill 64 = .ok (.aload_n 0, 1) := by decide +kernel
theorem dX1_bill_65 : decode cX1_bill 65 = .ok (.getfield 10, 3) := by decide +kernel
theorem dX1_bill_68 : decode cX1_bill 68 = .ok (.getfield 110, 3) := by decide +kernel
theorem dX1_bill_71 : decode cX1_bill 71 = .ok (.iastore, 1) := by decide +kernel
theorem dX1_bill_72 : decode cX1_bill 72 = .ok (.iload_n 2, 1) := by decide +kernel
theorem dX1_bill_73 : decode cX1_bill 73 = .ok (.bipush 20, 2) := by decide +kernel
theorem dX1_bill_75 : decode cX1_bill 75 = .ok (.if_icmp .lt 13, 3) := by decide +kernel
theorem dX1_bill_78 : decode cX1_bill 78 = .ok (.aload_n 0, 1) := by decide +kernel
theorem dX1_bill_79 : decode cX1_bill 79 = .ok (.getfield 10, 3) := by decide +kernel
theorem dX1_bill_82 : decode cX1_bill 82 = .ok (.getfield 86, 3) := by decide +kernel
theorem dX1_bill_85 : decode cX1_bill 85 = .ok (.iload_n 1, 1) := by decide +kernel
theorem dX1_bill_86 : decode cX1_bill 86 = .ok (.iload_n 2, 1) := by decide +kernel
theorem dX1_bill_87 : decode cX1_bill 87 = .ok (.iastore, 1) := by decide +kernel
theorem dX1_bill_88 : decode cX1_bill 88 = .ok (.iload_n 2, 1) := by decide +kernel
theorem dX1_bill_89 : decode cX1_bill 89 = .ok (.ireturn, 1) := by decide +kernel
set_option maxRecDepth 20000 in
theorem ggX1_complain_X1_isWalker : GoodIn wsX1_complain wsX1_isWalker := goodIn_r _ [16, 2, 17, 75, 76, 77, 78, 79, 80, 81, 82, 83, 84, 85, 86, 87, 88, 89, 90, 91, 92, 93, 94, 95, 96] (by decide +kernel) (by decide +kernel)
set_option maxRecDepth 20000 in
theorem gX1_complain_X1_isWalker : GoodIn wsX1_complain (wsV RX1 92 RX1 yX1_isWalker wsX1_isWalker) := goodIn_app (goodIn_of _ (by decide +kernel)) ggX1_complain_X1_isWalker
set_option maxRecDepth 20000 in
theorem ggX1_complain_X1_isAboard : GoodIn wsX1_complain wsX1_isAboard := goodIn_r _ [21, 2, 22, 4, 12, 13, 14, 15, 16, 17, 75, 76, 77, 78, 79, 80, 81, 82, 83, 84, 85, 86, 87, 88, 89, 90, 91, 92, 93, 94, 95, 96] (by decide +kernel) (by decide +kernel)
set_option maxRecDepth 20000 in
theorem gX1_complain_X1_isAboard : GoodIn wsX1_complain (wsV RX1 95 RX1 yX1_isAboard wsX1_isAboard) := goodIn_app (goodIn_of _ (by decide +kernel)) ggX1_complain_X1_isAboard
set_option maxRecDepth 20000 in
theorem ggX1_complain_X1_remember : GoodIn wsX1_complain wsX1_remember := goodIn_r _ [26, 27, 28, 29, 2, 30, 31, 32, 15, 33, 34, 35, 36, 37, 38, 39, 40, 41, 42, 43, 44, 45, 46, 47, 48, 49, 50, 51, 52, 53, 54, 55, 56, 57, 58, 59, 60, 61, 10, 62, 63, 64, 65, 66, 75, 76, 77, 78, 79, 80, 81, 82, 83, 84, 85, 86, 87, 88, 89, 90, 91, 92, 93, 94, 95, 96] (by decide +kernel) (by decide +kernel)
set_option maxRecDepth 20000 in
theorem gX1_complain_X1_remember : GoodIn wsX1_complain (wsV RX1 46 RX1 yX1_remember wsX1_remember) := goodIn_app (goodIn_of _ (by decide +kernel)) ggX1_complain_X1_remember
set_option maxRecDepth 20000 in
theorem ggX1_complain_X1_backAmount : GoodIn wsX1_complain wsX1_backAmount := goodIn_r _ [70, 2, 5, 71, 12, 13, 14, 15, 16, 17, 72, 73, 74, 4, 75, 76, 77, 78, 79, 80, 81, 82, 83, 84, 85, 86, 87, 88, 89, 90, 91, 92, 93, 94, 95, 96] (by decide +kernel) (by decide +kernel)
set_option maxRecDepth 20000 in
theorem gX1_complain_X1_backAmount : GoodIn wsX1_complain (wsV RX1 135 RX1 yX1_backAmount wsX1_backAmount) := goodIn_app (goodIn_of _ (by decide +kernel)) ggX1_complain_X1_backAmount
theorem dX1_complain_0 : decode cX1_complain 0 = .ok (.aload_n 0, 1) := by decide +kernel
theorem dX1_complain_1 : decode cX1_complain 1 = .ok (.iload_n 1, 1) := by decide +kernel
theorem dX1_complain_2 : decode cX1_complain 2 = .ok (.invokevirtual 92, 3) := by decide +kernel
theorem dX1_complain_5 : decode cX1_complain 5 = .ok (.ifCond .ne 6, 3) := by decide +kernel
theorem dX1_complain_8 : decode cX1_complain 8 = .ok (.ldc 45, 2) := by decide +kernel
theorem dX1_complain_10 : decode cX1_complain 10 = .ok (.ireturn, 1) := by decide +kernel
theorem dX1_complain_11 : decode cX1_complain 11 = .ok (.aload_n 0, 1) := by decide +kernel
theorem dX1_complain_12 : decode cX1_complain 12 = .ok (.iload_n 1, 1) := by decide +kernel
theorem dX1_complain_13 : decode cX1_complain 13 = .ok (.invokevirtual 95, 3) := by decide +kernel
theorem dX1_complain_16 : decode cX1_complain 16 = .ok (.ifCond .ne 31, 3) := by decide +kernel
theorem dX1_complain_19 : decode cX1_complain 19 = .ok (.aload_n 0, 1) := by decide +kernel
theorem dX1_complain_20 : decode cX1_complain 20 = .ok (.getfield 10, 3) := by decide +kernel
theorem dX1_complain_23 : decode cX1_complain 23 = .ok (.getfield 116, 3) := by decide +kernel
theorem dX1_complain_26 : decode cX1_complain 26 = .ok (.iload_n 1, 1) := by decide +kernel
theorem dX1_complain_27 : decode cX1_complain 27 = .ok (.iaload, 1) := by decide +kernel
theorem dX1_complain_28 : decode cX1_complain 28 = .ok (.ldc 78, 2) := by decide +kernel
theorem dX1_complain_30 : decode cX1_complain 30 = .ok (.if_icmp .eq 17, 3) := by decide +kernel
theorem dX1_complain_33 : decode cX1_complain 33 = .ok (.aload_n 0, 1) := by decide +kernel
theorem dX1_complain_34 : decode cX1_complain 34 = .ok (.getfield 10, 3) := by decide +kernel
theorem dX1_complain_37 : decode cX1_complain 37 = .ok (.getfield 126, 3) := by decide +kernel
theorem dX1_complain_40 : decode cX1_complain 40 = .ok (.iload_n 1, 1) := by decide +kernel
theorem dX1_complain_41 : decode cX1_complain 41 = .ok (.iaload, 1) := by decide +kernel
theorem dX1_complain_42 : decode cX1_complain 42 = .ok (.ldc 78, 2) := by decide +kernel
theorem dX1_complain_44 : decode cX1_complain 44 = .ok (.if_icmp .eq 6, 3) := by decide +kernel
theorem dX1_complain_47 : decode cX1_complain 47 = .ok (.ldc 55, 2) := by decide +kernel
theorem dX1_complain_49 : decode cX1_complain 49 = .ok (.ireturn, 1) := by decide +kernel
theorem dX1_complain_50 : decode cX1_complain 50 = .ok (.aload_n 0, 1) := by decide +kernel
theorem dX1_complain_51 : decode cX1_complain 51 = .ok (.invokevirtual 46, 3) := by decide +kernel
theorem dX1_complain_54 : decode cX1_complain 54 = .ok (.aload_n 0, 1) := by decide +kernel
theorem dX1_complain_55 : decode cX1_complain 55 = .ok (.getfield 10, 3) := by decide +kernel
theorem dX1_complain_58 : decode cX1_complain 58 = .ok (.getfield 126, 3) := by decide +kernel
theorem dX1_complain_61 : decode cX1_complain 61 = .ok (.iload_n 1, 1) := by decide +kernel
theorem dX1_complain_62 : decode cX1_complain 62 = .ok (.iconst 0, 1) := by decide +kernel
theorem dX1_complain_63 : decode cX1_complain 63 = .ok (.aload_n 0, 1) := by decide +kernel
theorem dX1_complain_64 : decode cX1_complain 64 = .ok (.getfield 10, 3) := by decide +kernel
theorem dX1_complain_67 : decode cX1_complain 67 = .ok (.getfield 116, 3) := by decide +kernel
theorem dX1_complain_70 : decode cX1_complain 70 = .ok (.iload_n 1, 1) := by decide +kernel
theorem dX1_complain_71 : decode cX1_complain 71 = .ok (.iaload, 1) := by decide +kernel
theorem dX1_complain_72 : decode cX1_complain 72 = .ok (.aload_n 0, 1) := by decide +kernel
theorem dX1_complain_73 : decode cX1_complain 73 = .ok (.getfield 10, 3) := by decide +kernel
theorem dX1_complain_76 : decode cX1_complain 76 = .ok (.getfield 83, 3) := by decide +kernel
theorem dX1_complain_79 : decode cX1_complain 79 = .ok (.iload_n 1, 1) := by decide +kernel
theorem dX1_complain_80 : decode cX1_complain 80 = .ok (.iaload, 1) := by decide +kernel
theorem dX1_complain_81 : decode cX1_complain 81 = .ok (.isub, 1) := by decide +kernel
theorem dX1_complain_82 : decode cX1_complain 82 = .ok (.invokestatic 129, 3) := by decide +kernel
theorem dX1_complain_85 : decode cX1_complain 85 = .ok (.iastore, 1) := by decide +kernel
theorem dX1_complain_86 : decode cX1_complain 86 = .ok (.aload_n 0, 1) := by decide +kernel
theorem dX1_complain_87 : decode cX1_complain 87 = .ok (.iload_n 1, 1) := by decide +kernel
theorem dX1_complain_88 : decode cX1_complain 88 = .ok (.invokevirtual 135, 3) := by decide +kernel
theorem dX1_complain_91 : decode cX1_complain 91 = .ok (.ireturn, 1) := by decide +kernel
set_option maxRecDepth 20000 in
theorem ggX1_undo_X1_slotAfter : GoodIn wsX1_undo wsX1_slotAfter := goodIn_r _ [9, 10, 11, 12, 13, 14, 45, 46, 47, 48, 49, 50, 51] (by decide +kernel) (by decide +kernel)
set_option maxRecDepth 20000 in
theorem gX1_undo_X1_slotAfter : GoodIn wsX1_undo (wsV RX1 138 RX1 yX1_slotAfter wsX1_slotAfter) := goodIn_app (goodIn_of _ (by decide +kernel)) ggX1_undo_X1_slotAfter
set_option maxRecDepth 20000 in
theorem ggX1_undo_X0_copyFrom : GoodIn wsX1_undo wsX0_copyFrom := goodIn_r _ [19, 20, 21, 22, 23, 24, 25, 26, 27, 28, 29, 30, 31, 32, 33, 34, 35, 8, 36, 37, 38, 39, 40, 41, 42, 43, 44, 52, 53, 54, 55, 56, 57, 58, 59, 60, 61, 62, 63, 64, 65, 66] (by decide +kernel) (by decide +kernel)
set_option maxRecDepth 20000 in
theorem gX1_undo_X0_copyFrom : GoodIn wsX1_undo (wsV RX1 141 RX0 yX0_copyFrom wsX0_copyFrom) := goodIn_app (goodIn_of _ (by decide +kernel)) ggX1_undo_X0_copyFrom
theorem dX1_undo_0 : decode cX1_undo 0 = .ok (.aload_n 0, 1) := by decide +kernel
theorem dX1_undo_1 : decode cX1_undo 1 = .ok (.getfield 24, 3) := by decide +kernel
theorem dX1_undo_4 : decode cX1_undo 4 = .ok (.ifCond .gt 6, 3) := by decide +kernel
theorem dX1_undo_7 : decode cX1_undo 7 = .ok (.ldc 55, 2) := by decide +kernel
theorem dX1_undo_9 : decode cX1_undo 9 = .ok (.ireturn, 1) := by decide +kernel
theorem dX1_undo_10 : decode cX1_undo 10 = .ok (.aload_n 0, 1) := by decide +kernel
theorem dX1_undo_11 : decode cX1_undo 11 = .ok (.dup, 1) := by decide +kernel
theorem dX1_undo_12 : decode cX1_undo 12 = .ok (.getfield 24, 3) := by decide +kernel
theorem dX1_undo_15 : decode cX1_undo 15 = .ok (.iconst 1, 1) := by decide +kernel
theorem dX1_undo_16 : decode cX1_undo 16 = .ok (.isub, 1) := by decide +kernel
theorem dX1_undo_17 : decode cX1_undo 17 = .ok (.putfield 24, 3) := by decide +kernel
theorem dX1_undo_20 : decode cX1_undo 20 = .ok (.aload_n 0, 1) := by decide +kernel
theorem dX1_undo_21 : decode cX1_undo 21 = .ok (.getfield 16, 3) := by decide +kernel
theorem dX1_undo_24 : decode cX1_undo 24 = .ok (.aload_n 0, 1) := by decide +kernel
theorem dX1_undo_25 : decode cX1_undo 25 = .ok (.aload_n 0, 1) := by decide +kernel
theorem dX1_undo_26 : decode cX1_undo 26 = .ok (.getfield 24, 3) := by decide +kernel
theorem dX1_undo_29 : decode cX1_undo 29 = .ok (.invokevirtual 138, 3) := by decide +kernel
theorem dX1_undo_32 : decode cX1_undo 32 = .ok (.aaload, 1) := by decide +kernel
theorem dX1_undo_33 : decode cX1_undo 33 = .ok (.astore_n 1, 1) := by decide +kernel
theorem dX1_undo_34 : decode cX1_undo 34 = .ok (.aload_n 1, 1) := by decide +kernel
theorem dX1_undo_35 : decode cX1_undo 35 = .ok (.ifnull 11, 3) := by decide +kernel
theorem dX1_undo_38 : decode cX1_undo 38 = .ok (.aload_n 0, 1) := by decide +kernel
theorem dX1_undo_39 : decode cX1_undo 39 = .ok (.getfield 10, 3) := by decide +kernel
theorem dX1_undo_42 : decode cX1_undo 42 = .ok (.aload_n 1, 1) := by decide +kernel
theorem dX1_undo_43 : decode cX1_undo 43 = .ok (.invokevirtual 141, 3) := by decide +kernel
theorem dX1_undo_46 : decode cX1_undo 46 = .ok (.aload_n 0, 1) := by decide +kernel
theorem dX1_undo_47 : decode cX1_undo 47 = .ok (.getfield 24, 3) := by decide +kernel
theorem dX1_undo_50 : decode cX1_undo 50 = .ok (.ireturn, 1) := by decide +kernel
set_option maxRecDepth 20000 in
theorem ggX1_count_X1_walkersAboard : GoodIn wsX1_count wsX1_walkersAboard := goodIn_r _ [13, 14, 15, 16, 12, 17, 1, 18, 19, 20, 21, 22, 23, 3, 104, 105, 106, 107, 108, 109, 110, 111, 112, 113, 114, 115, 116, 117, 118, 119, 120, 121, 122, 123, 124, 125] (by decide +kernel) (by decide +kernel)
set_option maxRecDepth 20000 in
theorem gX1_count_X1_walkersAboard : GoodIn wsX1_count (wsV RX1 145 RX1 yX1_walkersAboard wsX1_walkersAboard) := goodIn_app (goodIn_of _ (by decide +kernel)) ggX1_count_X1_walkersAboard
set_option maxRecDepth 20000 in
theorem ggX1_count_X1_errorWith : GoodIn wsX1_count wsX1_errorWith := goodIn_r _ [27, 28, 29, 30, 31, 32, 33, 34, 35, 36, 12, 37, 1, 38, 39, 18, 40, 41, 42, 43, 44, 45, 46, 47, 48, 49, 50, 51, 52, 53, 54, 55, 56, 57, 58, 59, 60, 61, 19, 62, 63, 64, 65, 6, 66, 104, 105, 106, 107, 108, 109, 110, 111, 112, 113, 114, 115, 116, 117, 118, 119, 120, 121, 122, 123, 124, 125] (by decide +kernel) (by decide +kernel)
set_option maxRecDepth 20000 in
theorem gX1_count_X1_errorWith : GoodIn wsX1_count (wsV RX1 106 RX1 yX1_errorWith wsX1_errorWith) := goodIn_app (goodIn_of _ (by decide +kernel)) ggX1_count_X1_errorWith
set_option maxRecDepth 20000 in
theorem ggX1_count_X1_sumOfReadings : GoodIn wsX1_count wsX1_sumOfReadings := goodIn_r _ [70, 28, 34, 35, 36, 12, 37, 1, 38, 39, 18, 40, 41, 42, 43, 44, 32, 45, 46, 47, 48, 49, 50, 51, 52, 53, 54, 55, 56, 57, 58, 59, 60, 61, 19, 71, 72, 73, 104, 105, 106, 107, 108, 109, 110, 111, 112, 113, 114, 115, 116, 117, 118, 119, 120, 121, 122, 123, 124, 125] (by decide +kernel) (by decide +kernel)
set_option maxRecDepth 20000 in
theorem gX1_count_X1_sumOfReadings : GoodIn wsX1_count (wsV RX1 149 RX1 yX1_sumOfReadings wsX1_sumOfReadings) := goodIn_app (goodIn_of _ (by decide +kernel)) ggX1_count_X1_sumOfReadings
set_option maxRecDepth 20000 in
theorem ggX1_count_X1_sumOf : GoodIn wsX1_count wsX1_sumOf := goodIn_r _ [73] (by decide +kernel) (by decide +kernel)
set_option maxRecDepth 20000 in
theorem gX1_count_X1_sumOf : GoodIn wsX1_count (va_wsS RX1 152 yX1_sumOf wsX1_sumOf) := goodIn_app (goodIn_of _ (by decide +kernel)) ggX1_count_X1_sumOf
set_option maxRecDepth 20000 in
theorem ggX1_count_X1_walkersMisplaced : GoodIn wsX1_count wsX1_walkersMisplaced := goodIn_r _ [77, 1, 18, 5, 104, 105, 106, 107, 108, 109, 110, 111, 112, 113, 114, 115, 116, 117, 118, 119, 120, 121, 122, 123, 124, 125] (by decide +kernel) (by decide +kernel)
set_option maxRecDepth 20000 in
theorem gX1_count_X1_walkersMisplaced : GoodIn wsX1_count (wsV RX1 155 RX1 yX1_walkersMisplaced wsX1_walkersMisplaced) := goodIn_app (goodIn_of _ (by decide +kernel)) ggX1_count_X1_walkersMisplaced
set_option maxRecDepth 20000 in
theorem ggX1_count_X1_kilogramsBilled : GoodIn wsX1_count wsX1_kilogramsBilled := goodIn_r _ [81, 1, 82, 83, 84, 85, 12, 86, 19, 104, 105, 106, 107, 108, 109, 110, 111, 112, 113, 114, 115, 116, 117, 118, 119, 120, 121, 122, 123, 124, 125] (by decide +kernel) (by decide +kernel)
set_option maxRecDepth 20000 in
theorem gX1_count_X1_kilogramsBilled : GoodIn wsX1_count (wsV RX1 158 RX1 yX1_kilogramsBilled wsX1_kilogramsBilled) := goodIn_app (goodIn_of _ (by decide +kernel)) ggX1_count_X1_kilogramsBilled
set_option maxRecDepth 20000 in
theorem ggX1_count_X1_sumOfBillAmounts : GoodIn wsX1_count wsX1_sumOfBillAmounts := goodIn_r _ [90, 91, 92, 93, 12, 94, 1, 82, 95, 20, 21, 22, 23, 3, 84, 85, 86, 19, 104, 105, 106, 107, 108, 109, 110, 111, 112, 113, 114, 115, 116, 117, 118, 119, 120, 121, 122, 123, 124, 125] (by decide +kernel) (by decide +kernel)
set_option maxRecDepth 20000 in
theorem gX1_count_X1_sumOfBillAmounts : GoodIn wsX1_count (wsV RX1 161 RX1 yX1_sumOfBillAmounts wsX1_sumOfBillAmounts) := goodIn_app (goodIn_of _ (by decide +kernel)) ggX1_count_X1_sumOfBillAmounts
set_option maxRecDepth 20000 in
theorem ggX1_count_X1_sumOfBackAmounts : GoodIn wsX1_count wsX1_sumOfBackAmounts := goodIn_r _ [99, 100, 101, 102, 12, 103, 1, 83, 95, 20, 21, 22, 23, 3, 84, 85, 86, 19, 104, 105, 106, 107, 108, 109, 110, 111, 112, 113, 114, 115, 116, 117, 118, 119, 120, 121, 122, 123, 124, 125] (by decide +kernel) (by decide +kernel)
set_option maxRecDepth 20000 in
theorem gX1_count_X1_sumOfBackAmounts : GoodIn wsX1_count (wsV RX1 164 RX1 yX1_sumOfBackAmounts wsX1_sumOfBackAmounts) := goodIn_app (goodIn_of _ (by decide +kernel)) ggX1_count_X1_sumOfBackAmounts
theorem dX1_count_0 : decode cX1_count 0 = .ok (.iload_n 1, 1) := by decide +kernel
theorem dX1_count_1 : decode cX1_count 1 = .ok (.tableswitch 145 0 11 #[63, 71, 79, 84, 89, 101, 106, 117, 122, 130, 135, 140], 63) := by decide +kernel
theorem dX1_count_64 : decode cX1_count 64 = .ok (.aload_n 0, 1) := by decide +kernel
theorem dX1_count_65 : decode cX1_count 65 = .ok (.getfield 10, 3) := by decide +kernel
theorem dX1_count_68 : decode cX1_count 68 = .ok (.getfield 52, 3) := by decide +kernel
theorem dX1_count_71 : decode cX1_count 71 = .ok (.ireturn, 1) := by decide +kernel
theorem dX1_count_72 : decode cX1_count 72 = .ok (.aload_n 0, 1) := by decide +kernel
theorem dX1_count_73 : decode cX1_count 73 = .ok (.getfield 10, 3) := by decide +kernel
theorem dX1_count_76 : decode cX1_count 76 = .ok (.getfield 79, 3) := by decide +kernel
theorem dX1_count_79 : decode cX1_count 79 = .ok (.ireturn, 1) := by decide +kernel
theorem dX1_count_80 : decode cX1_count 80 = .ok (.aload_n 0, 1) := by decide +kernel
theorem dX1_count_81 : decode cX1_count 81 = .ok (.invokevirtual 145, 3) := by decide +kernel
theorem dX1_count_84 : decode cX1_count 84 = .ok (.ireturn, 1) := by decide +kernel
theorem dX1_count_85 : decode cX1_count 85 = .ok (.aload_n 0, 1) := by decide +kernel
theorem dX1_count_86 : decode cX1_count 86 = .ok (.getfield 24, 3) := by decide +kernel
theorem dX1_count_89 : decode cX1_count 89 = .ok (.ireturn, 1) := by decide +kernel
theorem dX1_count_90 : decode cX1_count 90 = .ok (.aload_n 0, 1) := by decide +kernel
theorem dX1_count_91 : decode cX1_count 91 = .ok (.aload_n 0, 1) := by decide +kernel
theorem dX1_count_92 : decode cX1_count 92 = .ok (.getfield 10, 3) := by decide +kernel
theorem dX1_count_95 : decode cX1_count 95 = .ok (.getfield 89, 3) := by decide +kernel
theorem dX1_count_98 : decode cX1_count 98 = .ok (.invokevirtual 106, 3) := by decide +kernel
theorem dX1_count_101 : decode cX1_count 101 = .ok (.ireturn, 1) := by decide +kernel
theorem dX1_count_102 : decode cX1_count 102 = .ok (.aload_n 0, 1) := by decide +kernel
theorem dX1_count_103 : decode cX1_count 103 = .ok (.invokevirtual 149, 3) := by decide +kernel
theorem dX1_count_106 : decode cX1_count 106 = .ok (.ireturn, 1) := by decide +kernel
theorem dX1_count_107 : decode cX1_count 107 = .ok (.aload_n 0, 1) := by decide +kernel
theorem dX1_count_108 : decode cX1_count 108 = .ok (.getfield 10, 3) := by decide +kernel
theorem dX1_count_111 : decode cX1_count 111 = .ok (.getfield 62, 3) := by decide +kernel
theorem dX1_count_114 : decode cX1_count 114 = .ok (.invokestatic 152, 3) := by decide +kernel
theorem dX1_count_117 : decode cX1_count 117 = .ok (.ireturn, 1) := by decide +kernel
theorem dX1_count_118 : decode cX1_count 118 = .ok (.aload_n 0, 1) := by decide +kernel
theorem dX1_count_119 : decode cX1_count 119 = .ok (.invokevirtual 155, 3) := by decide +kernel
theorem dX1_count_122 : decode cX1_count 122 = .ok (.ireturn, 1) := by decide +kernel
theorem dX1_count_123 : decode cX1_count 123 = .ok (.aload_n 0, 1) := by decide +kernel
theorem dX1_count_124 : decode cX1_count 124 = .ok (.getfield 10, 3) := by decide +kernel
theorem dX1_count_127 : decode cX1_count 127 = .ok (.getfield 110, 3) := by decide +kernel
theorem dX1_count_130 : decode cX1_count 130 = .ok (.ireturn, 1) := by decide +kernel
theorem dX1_count_131 : decode cX1_count 131 = .ok (.aload_n 0, 1) := by decide +kernel
theorem dX1_count_132 : decode cX1_count 132 = .ok (.invokevirtual 158, 3) := by decide +kernel
theorem dX1_count_135 : decode cX1_count 135 = .ok (.ireturn, 1) := by decide +kernel
theorem dX1_count_136 : decode cX1_count 136 = .ok (.aload_n 0, 1) := by decide +kernel
theorem dX1_count_137 : decode cX1_count 137 = .ok (.invokevirtual 161, 3) := by decide +kernel
theorem dX1_count_140 : decode cX1_count 140 = .ok (.ireturn, 1) := by decide +kernel
theorem dX1_count_141 : decode cX1_count 141 = .ok (.aload_n 0, 1) := by decide +kernel
theorem dX1_count_142 : decode cX1_count 142 = .ok (.invokevirtual 164, 3) := by decide +kernel
theorem dX1_count_145 : decode cX1_count 145 = .ok (.ireturn, 1) := by decide +kernel
theorem dX1_count_146 : decode cX1_count 146 = .ok (.ldc 45, 2) := by decide +kernel
theorem dX1_count_148 : decode cX1_count 148 = .ok (.ireturn, 1) := by decide +kernel
set_option maxRecDepth 20000 in
theorem ggX1_cell_X1_isCell : GoodIn wsX1_cell wsX1_isCell := goodIn_r _ [14] (by decide +kernel) (by decide +kernel)
set_option maxRecDepth 20000 in
theorem gX1_cell_X1_isCell : GoodIn wsX1_cell (va_wsS RX1 37 yX1_isCell wsX1_isCell) := goodIn_app (goodIn_of _ (by decide +kernel)) ggX1_cell_X1_isCell
set_option maxRecDepth 20000 in
theorem ggX1_cell_X1_weighAll : GoodIn wsX1_cell wsX1_weighAll := goodIn_r _ [18, 3, 4, 2, 19, 10, 20, 21, 13, 22, 23, 24, 25, 26, 27, 28, 29, 30, 31, 32, 33, 34, 35, 36, 11, 12, 14, 37, 38, 39, 40, 49, 50, 51, 52, 53, 54, 55, 56, 57, 58, 59, 60, 61, 62, 63, 64, 65, 66, 67, 68, 69, 70] (by decide +kernel) (by decide +kernel)
set_option maxRecDepth 20000 in
theorem gX1_cell_X1_weighAll : GoodIn wsX1_cell (wsV RX1 59 RX1 yX1_weighAll wsX1_weighAll) := goodIn_app (goodIn_of _ (by decide +kernel)) ggX1_cell_X1_weighAll
set_option maxRecDepth 20000 in
theorem ggX1_cell_X1_expectAll : GoodIn wsX1_cell wsX1_expectAll := goodIn_r _ [44, 3, 6, 9, 45, 20, 21, 13, 22, 23, 24, 25, 26, 27, 28, 29, 30, 31, 32, 33, 34, 35, 36, 11, 12, 14, 37, 38, 39, 40, 49, 50, 51, 52, 53, 54, 55, 56, 57, 58, 59, 60, 61, 62, 63, 64, 65, 66, 67, 68, 69, 70] (by decide +kernel) (by decide +kernel)
set_option maxRecDepth 20000 in
theorem gX1_cell_X1_expectAll : GoodIn wsX1_cell (wsV RX1 167 RX1 yX1_expectAll wsX1_expectAll) := goodIn_app (goodIn_of _ (by decide +kernel)) ggX1_cell_X1_expectAll
set_option maxRecDepth 20000 in
theorem ggX1_cell_X1_whoIsOn : GoodIn wsX1_cell wsX1_whoIsOn := goodIn_r _ [48, 40] (by decide +kernel) (by decide +kernel)
set_option maxRecDepth 20000 in
theorem gX1_cell_X1_whoIsOn : GoodIn wsX1_cell (va_wsS RX1 74 yX1_whoIsOn wsX1_whoIsOn) := goodIn_app (goodIn_of _ (by decide +kernel)) ggX1_cell_X1_whoIsOn
theorem dX1_cell_0 : decode cX1_cell 0 = .ok (.iload_n 1, 1) := by decide +kernel
theorem dX1_cell_1 : decode cX1_cell 1 = .ok (.invokestatic 37, 3) := by decide +kernel
theorem dX1_cell_4 : decode cX1_cell 4 = .ok (.ifCond .ne 6, 3) := by decide +kernel
theorem dX1_cell_7 : decode cX1_cell 7 = .ok (.ldc 45, 2) := by decide +kernel
theorem dX1_cell_9 : decode cX1_cell 9 = .ok (.ireturn, 1) := by decide +kernel
theorem dX1_cell_10 : decode cX1_cell 10 = .ok (.iload_n 2, 1) := by decide +kernel
theorem dX1_cell_11 : decode cX1_cell 11 = .ok (.tableswitch 138 0 7 #[45, 56, 66, 76, 86, 96, 114, 126], 45) := by decide +kernel
theorem dX1_cell_56 : decode cX1_cell 56 = .ok (.aload_n 0, 1) := by decide +kernel
theorem dX1_cell_57 : decode cX1_cell 57 = .ok (.invokevirtual 59, 3) := by decide +kernel
theorem dX1_cell_60 : decode cX1_cell 60 = .ok (.aload_n 0, 1) := by decide +kernel
theorem dX1_cell_61 : decode cX1_cell 61 = .ok (.getfield 27, 3) := by decide +kernel
theorem dX1_cell_64 : decode cX1_cell 64 = .ok (.iload_n 1, 1) := by decide +kernel
theorem dX1_cell_65 : decode cX1_cell 65 = .ok (.iaload, 1) := by decide +kernel
theorem dX1_cell_66 : decode cX1_cell 66 = .ok (.ireturn, 1) := by decide +kernel
theorem dX1_cell_67 : decode cX1_cell 67 = .ok (.aload_n 0, 1) := by decide +kernel
theorem dX1_cell_68 : decode cX1_cell 68 = .ok (.getfield 10, 3) := by decide +kernel
theorem dX1_cell_71 : decode cX1_cell 71 = .ok (.getfield 56, 3) := by decide +kernel
theorem dX1_cell_74 : decode cX1_cell 74 = .ok (.iload_n 1, 1) := by decide +kernel
theorem dX1_cell_75 : decode cX1_cell 75 = .ok (.iaload, 1) := by decide +kernel
theorem dX1_cell_76 : decode cX1_cell 76 = .ok (.ireturn, 1) := by decide +kernel
theorem dX1_cell_77 : decode cX1_cell 77 = .ok (.aload_n 0, 1) := by decide +kernel
theorem dX1_cell_78 : decode cX1_cell 78 = .ok (.getfield 10, 3) := by decide +kernel
theorem dX1_cell_81 : decode cX1_cell 81 = .ok (.getfield 49, 3) := by decide +kernel
theorem dX1_cell_84 : decode cX1_cell 84 = .ok (.iload_n 1, 1) := by decide +kernel
theorem dX1_cell_85 : decode cX1_cell 85 = .ok (.iaload, 1) := by decide +kernel
theorem dX1_cell_86 : decode cX1_cell 86 = .ok (.ireturn, 1) := by decide +kernel
theorem dX1_cell_87 : decode cX1_cell 87 = .ok (.aload_n 0, 1) := by decide +kernel
theorem dX1_cell_88 : decode cX1_cell 88 = .ok (.getfield 10, 3) := by decide +kernel
theorem dX1_cell_91 : decode cX1_cell 91 = .ok (.getfield 62, 3) := by decide +kernel
theorem dX1_cell_94 : decode cX1_cell 94 = .ok (.iload_n 1, 1) := by decide +kernel
theorem dX1_cell_95 : decode cX1_cell 95 = .ok (.iaload, 1) := by decide +kernel
theorem dX1_cell_96 : decode cX1_cell 96 = .ok (.ireturn, 1) := by decide +kernel
theorem dX1_cell_97 : decode cX1_cell 97 = .ok (.aload_n 0, 1) := by decide +kernel
theorem dX1_cell_98 : decode cX1_cell 98 = .ok (.getfield 10, 3) := by decide +kernel
theorem dX1_cell_101 : decode cX1_cell 101 = .ok (.getfield 65, 3) := by decide +kernel
theorem dX1_cell_104 : decode cX1_cell 104 = .ok (.iload_n 1, 1) := by decide +kernel
theorem dX1_cell_105 : decode cX1_cell 105 = .ok (.iaload, 1) := by decide +kernel
theorem dX1_cell_106 : decode cX1_cell 106 = .ok (.ireturn, 1) := by decide +kernel
theorem dX1_cell_107 : decode cX1_cell 107 = .ok (.aload_n 0, 1) := by decide +kernel
theorem dX1_cell_108 : decode cX1_cell 108 = .ok (.aload_n 0, 1) := by decide +kernel
theorem dX1_cell_109 : decode cX1_cell 109 = .ok (.getfield 10, 3) := by decide +kernel
theorem dX1_cell_112 : decode cX1_cell 112 = .ok (.getfield 89, 3) := by decide +kernel
theorem dX1_cell_115 : decode cX1_cell 115 = .ok (.invokevirtual 167, 3) := by decide +kernel
theorem dX1_cell_118 : decode cX1_cell 118 = .ok (.aload_n 0, 1) := by decide +kernel
theorem dX1_cell_119 : decode cX1_cell 119 = .ok (.getfield 31, 3) := by decide +kernel
theorem dX1_cell_122 : decode cX1_cell 122 = .ok (.iload_n 1, 1) := by decide +kernel
theorem dX1_cell_123 : decode cX1_cell 123 = .ok (.iaload, 1) := by decide +kernel
theorem dX1_cell_124 : decode cX1_cell 124 = .ok (.ireturn, 1) := by decide +kernel
theorem dX1_cell_125 : decode cX1_cell 125 = .ok (.aload_n 0, 1) := by decide +kernel
theorem dX1_cell_126 : decode cX1_cell 126 = .ok (.getfield 10, 3) := by decide +kernel
theorem dX1_cell_129 : decode cX1_cell 129 = .ok (.getfield 71, 3) := by decide +kernel
theorem dX1_cell_132 : decode cX1_cell 132 = .ok (.iload_n 1, 1) := by decide +kernel
theorem dX1_cell_133 : decode cX1_cell 133 = .ok (.invokestatic 74, 3) := by decide +kernel
theorem dX1_cell_136 : decode cX1_cell 136 = .ok (.ireturn, 1) := by decide +kernel
theorem dX1_cell_137 : decode cX1_cell 137 = .ok (.aload_n 0, 1) := by decide +kernel
theorem dX1_cell_138 : decode cX1_cell 138 = .ok (.getfield 10, 3) := by decide +kernel
theorem dX1_cell_141 : decode cX1_cell 141 = .ok (.getfield 89, 3) := by decide +kernel
theorem dX1_cell_144 : decode cX1_cell 144 = .ok (.iload_n 1, 1) := by decide +kernel
theorem dX1_cell_145 : decode cX1_cell 145 = .ok (.invokestatic 74, 3) := by decide +kernel
theorem dX1_cell_148 : decode cX1_cell 148 = .ok (.ireturn, 1) := by decide +kernel
theorem dX1_cell_149 : decode cX1_cell 149 = .ok (.ldc 45, 2) := by decide +kernel
theorem dX1_cell_151 : decode cX1_cell 151 = .ok (.ireturn, 1) := by decide +kernel
set_option maxRecDepth 20000 in
theorem ggX1_walker_X1_isWalker : GoodIn wsX1_walker wsX1_isWalker := goodIn_r _ [14, 2, 15, 33, 34, 35, 36, 37, 38, 39, 40, 41, 42, 43, 44, 45, 46, 47, 48, 49, 50, 51, 52, 53, 54] (by decide +kernel) (by decide +kernel)
set_option maxRecDepth 20000 in
theorem gX1_walker_X1_isWalker : GoodIn wsX1_walker (wsV RX1 92 RX1 yX1_isWalker wsX1_isWalker) := goodIn_app (goodIn_of _ (by decide +kernel)) ggX1_walker_X1_isWalker
set_option maxRecDepth 20000 in
theorem ggX1_walker_X1_isAboard : GoodIn wsX1_walker wsX1_isAboard := goodIn_r _ [19, 2, 4, 6, 10, 11, 12, 13, 14, 15, 33, 34, 35, 36, 37, 38, 39, 40, 41, 42, 43, 44, 45, 46, 47, 48, 49, 50, 51, 52, 53, 54] (by decide +kernel) (by decide +kernel)
set_option maxRecDepth 20000 in
theorem gX1_walker_X1_isAboard : GoodIn wsX1_walker (wsV RX1 95 RX1 yX1_isAboard wsX1_isAboard) := goodIn_app (goodIn_of _ (by decide +kernel)) ggX1_walker_X1_isAboard
set_option maxRecDepth 20000 in
theorem ggX1_walker_X1_billAmount : GoodIn wsX1_walker wsX1_billAmount := goodIn_r _ [23, 2, 9, 24, 10, 11, 12, 13, 14, 15, 25, 26, 27, 6, 33, 34, 35, 36, 37, 38, 39, 40, 41, 42, 43, 44, 45, 46, 47, 48, 49, 50, 51, 52, 53, 54] (by decide +kernel) (by decide +kernel)
set_option maxRecDepth 20000 in
theorem gX1_walker_X1_billAmount : GoodIn wsX1_walker (wsV RX1 171 RX1 yX1_billAmount wsX1_billAmount) := goodIn_app (goodIn_of _ (by decide +kernel)) ggX1_walker_X1_billAmount
set_option maxRecDepth 20000 in
theorem ggX1_walker_X1_backAmount : GoodIn wsX1_walker wsX1_backAmount := goodIn_r _ [31, 2, 32, 24, 10, 11, 12, 13, 14, 15, 25, 26, 27, 6, 33, 34, 35, 36, 37, 38, 39, 40, 41, 42, 43, 44, 45, 46, 47, 48, 49, 50, 51, 52, 53, 54] (by decide +kernel) (by decide +kernel)
set_option maxRecDepth 20000 in
theorem gX1_walker_X1_backAmount : GoodIn wsX1_walker (wsV RX1 135 RX1 yX1_backAmount wsX1_backAmount) := goodIn_app (goodIn_of _ (by decide +kernel)) ggX1_walker_X1_backAmount
theorem dX1_walker_0 : decode cX1_walker 0 = .ok (.aload_n 0, 1) := by decide +kernel
theorem dX1_walker_1 : decode cX1_walker 1 = .ok (.iload_n 1, 1) := by decide +kernel
theorem dX1_walker_2 : decode cX1_walker 2 = .ok (.invokevirtual 92, 3) := by decide +kernel
theorem dX1_walker_5 : decode cX1_walker 5 = .ok (.ifCond .ne 6, 3) := by decide +kernel
theorem dX1_walker_8 : decode cX1_walker 8 = .ok (.ldc 45, 2) := by decide +kernel
theorem dX1_walker_10 : decode cX1_walker 10 = .ok (.ireturn, 1) := by decide +kernel
theorem dX1_walker_11 : decode cX1_walker 11 = .ok (.iload_n 2, 1) := by decide +kernel
theorem dX1_walker_12 : decode cX1_walker 12 = .ok (.tableswitch 133 0 7 #[48, 58, 68, 91, 101, 111, 121, 127], 48) := by decide +kernel
theorem dX1_walker_60 : decode cX1_walker 60 = .ok (.aload_n 0, 1) := by decide +kernel
theorem dX1_walker_61 : decode cX1_walker 61 = .ok (.getfield 10, 3) := by decide +kernel
theorem dX1_walker_64 : decode cX1_walker 64 = .ok (.getfield 83, 3) := by decide +kernel
theorem dX1_walker_67 : decode cX1_walker 67 = .ok (.iload_n 1, 1) := by decide +kernel
theorem dX1_walker_68 : decode cX1_walker 68 = .ok (.iaload, 1) := by decide +kernel
theorem dX1_walker_69 : decode cX1_walker 69 = .ok (.ireturn, 1) := by decide +kernel
theorem dX1_walker_70 : decode cX1_walker 70 = .ok (.aload_n 0, 1) := by decide +kernel
theorem dX1_walker_71 : decode cX1_walker 71 = .ok (.getfield 10, 3) := by decide +kernel
theorem dX1_walker_74 : decode cX1_walker 74 = .ok (.getfield 71, 3) := by decide +kernel
theorem dX1_walker_77 : decode cX1_walker 77 = .ok (.iload_n 1, 1) := by decide +kernel
theorem dX1_walker_78 : decode cX1_walker 78 = .ok (.iaload, 1) := by decide +kernel
theorem dX1_walker_79 : decode cX1_walker 79 = .ok (.ireturn, 1) := by decide +kernel
theorem dX1_walker_80 : decode cX1_walker 80 = .ok (.aload_n 0, 1) := by decide +kernel
theorem dX1_walker_81 : decode cX1_walker 81 = .ok (.iload_n 1, 1) := by decide +kernel
theorem dX1_walker_82 : decode cX1_walker 82 = .ok (.invokevirtual 95, 3) := by decide +kernel
theorem dX1_walker_85 : decode cX1_walker 85 = .ok (.ifCond .eq 15, 3) := by decide +kernel
theorem dX1_walker_88 : decode cX1_walker 88 = .ok (.aload_n 0, 1) := by decide +kernel
theorem dX1_walker_89 : decode cX1_walker 89 = .ok (.getfield 10, 3) := by decide +kernel
theorem dX1_walker_92 : decode cX1_walker 92 = .ok (.getfield 86, 3) := by decide +kernel
theorem dX1_walker_95 : decode cX1_walker 95 = .ok (.iload_n 1, 1) := by decide +kernel
theorem dX1_walker_96 : decode cX1_walker 96 = .ok (.iaload, 1) := by decide +kernel
theorem dX1_walker_97 : decode cX1_walker 97 = .ok (.goto 5, 3) := by decide +kernel
theorem dX1_walker_100 : decode cX1_walker 100 = .ok (.ldc 78, 2) := by decide +kernel
theorem dX1_walker_102 : decode cX1_walker 102 = .ok (.ireturn, 1) := by decide +kernel
theorem dX1_walker_103 : decode cX1_walker 103 = .ok (.aload_n 0, 1) := by decide +kernel
theorem dX1_walker_104 : decode cX1_walker 104 = .ok (.getfield 10, 3) := by decide +kernel
theorem dX1_walker_107 : decode cX1_walker 107 = .ok (.getfield 89, 3) := by decide +kernel
theorem dX1_walker_110 : decode cX1_walker 110 = .ok (.iload_n 1, 1) := by decide +kernel
theorem dX1_walker_111 : decode cX1_walker 111 = .ok (.iaload, 1) := by decide +kernel
theorem dX1_walker_112 : decode cX1_walker 112 = .ok (.ireturn, 1) := by decide +kernel
theorem dX1_walker_113 : decode cX1_walker 113 = .ok (.aload_n 0, 1) := by decide +kernel
theorem dX1_walker_114 : decode cX1_walker 114 = .ok (.getfield 10, 3) := by decide +kernel
theorem dX1_walker_117 : decode cX1_walker 117 = .ok (.getfield 113, 3) := by decide +kernel
theorem dX1_walker_120 : decode cX1_walker 120 = .ok (.iload_n 1, 1) := by decide +kernel
theorem dX1_walker_121 : decode cX1_walker 121 = .ok (.iaload, 1) := by decide +kernel
theorem dX1_walker_122 : decode cX1_walker 122 = .ok (.ireturn, 1) := by decide +kernel
theorem dX1_walker_123 : decode cX1_walker 123 = .ok (.aload_n 0, 1) := by decide +kernel
theorem dX1_walker_124 : decode cX1_walker 124 = .ok (.getfield 10, 3) := by decide +kernel
theorem dX1_walker_127 : decode cX1_walker 127 = .ok (.getfield 116, 3) := by decide +kernel
theorem dX1_walker_130 : decode cX1_walker 130 = .ok (.iload_n 1, 1) := by decide +kernel
theorem dX1_walker_131 : decode cX1_walker 131 = .ok (.iaload, 1) := by decide +kernel
theorem dX1_walker_132 : decode cX1_walker 132 = .ok (.ireturn, 1) := by decide +kernel
theorem dX1_walker_133 : decode cX1_walker 133 = .ok (.aload_n 0, 1) := by decide +kernel
theorem dX1_walker_134 : decode cX1_walker 134 = .ok (.iload_n 1, 1) := by decide +kernel
theorem dX1_walker_135 : decode cX1_walker 135 = .ok (.invokevirtual 171, 3) := by decide +kernel
theorem dX1_walker_138 : decode cX1_walker 138 = .ok (.ireturn, 1) := by decide +kernel
theorem dX1_walker_139 : decode cX1_walker 139 = .ok (.aload_n 0, 1) := by decide +kernel
theorem dX1_walker_140 : decode cX1_walker 140 = .ok (.iload_n 1, 1) := by decide +kernel
theorem dX1_walker_141 : decode cX1_walker 141 = .ok (.invokevirtual 135, 3) := by decide +kernel
theorem dX1_walker_144 : decode cX1_walker 144 = .ok (.ireturn, 1) := by decide +kernel
theorem dX1_walker_145 : decode cX1_walker 145 = .ok (.ldc 45, 2) := by decide +kernel
theorem dX1_walker_147 : decode cX1_walker 147 = .ok (.ireturn, 1) := by decide +kernel
set_option maxRecDepth 20000 in
theorem ggX1_estimate_X1_isWalker : GoodIn wsX1_estimate wsX1_isWalker := goodIn_r _ [7, 8, 9, 61, 62, 63, 64, 65, 66, 67, 68, 69, 70, 71, 72, 73, 74, 75, 76, 77, 78, 79, 80, 81, 82] (by decide +kernel) (by decide +kernel)
set_option maxRecDepth 20000 in
theorem gX1_estimate_X1_isWalker : GoodIn wsX1_estimate (wsV RX1 92 RX1 yX1_isWalker wsX1_isWalker) := goodIn_app (goodIn_of _ (by decide +kernel)) ggX1_estimate_X1_isWalker
set_option maxRecDepth 20000 in
theorem ggX1_estimate_X1_isAboard : GoodIn wsX1_estimate wsX1_isAboard := goodIn_r _ [13, 8, 14, 15, 3, 4, 5, 6, 7, 9, 61, 62, 63, 64, 65, 66, 67, 68, 69, 70, 71, 72, 73, 74, 75, 76, 77, 78, 79, 80, 81, 82] (by decide +kernel) (by decide +kernel)
set_option maxRecDepth 20000 in
theorem gX1_estimate_X1_isAboard : GoodIn wsX1_estimate (wsV RX1 95 RX1 yX1_isAboard wsX1_isAboard) := goodIn_app (goodIn_of _ (by decide +kernel)) ggX1_estimate_X1_isAboard
set_option maxRecDepth 20000 in
theorem ggX1_estimate_X1_estimateFor : GoodIn wsX1_estimate wsX1_estimateFor := goodIn_r _ [19, 8, 20, 21, 22, 23, 24, 25, 26, 27, 10, 11, 12, 6, 13, 14, 15, 3, 4, 5, 7, 9, 28, 29, 30, 31, 32, 33, 34, 35, 36, 37, 38, 39, 40, 41, 42, 43, 44, 45, 46, 47, 48, 49, 50, 51, 52, 53, 54, 55, 56, 57, 58, 59, 60, 61, 62, 63, 64, 65, 66, 67, 68, 69, 70, 71, 72, 73, 74, 75, 76, 77, 78, 79, 80, 81, 82] (by decide +kernel) (by decide +kernel)
set_option maxRecDepth 20000 in
theorem gX1_estimate_X1_estimateFor : GoodIn wsX1_estimate (wsV RX1 174 RX1 yX1_estimateFor wsX1_estimateFor) := goodIn_app (goodIn_of _ (by decide +kernel)) ggX1_estimate_X1_estimateFor
theorem dX1_estimate_0 : decode cX1_estimate 0 = .ok (.aload_n 0, 1) := by decide +kernel
theorem dX1_estimate_1 : decode cX1_estimate 1 = .ok (.iload_n 1, 1) := by decide +kernel
theorem dX1_estimate_2 : decode cX1_estimate 2 = .ok (.invokevirtual 92, 3) := by decide +kernel
theorem dX1_estimate_5 : decode cX1_estimate 5 = .ok (.ifCond .ne 6, 3) := by decide +kernel
theorem dX1_estimate_8 : decode cX1_estimate 8 = .ok (.ldc 45, 2) := by decide +kernel
theorem dX1_estimate_10 : decode cX1_estimate 10 = .ok (.ireturn, 1) := by decide +kernel
theorem dX1_estimate_11 : decode cX1_estimate 11 = .ok (.aload_n 0, 1) := by decide +kernel
theorem dX1_estimate_12 : decode cX1_estimate 12 = .ok (.iload_n 1, 1) := by decide +kernel
theorem dX1_estimate_13 : decode cX1_estimate 13 = .ok (.invokevirtual 95, 3) := by decide +kernel
theorem dX1_estimate_16 : decode cX1_estimate 16 = .ok (.ifCond .ne 6, 3) := by decide +kernel
theorem dX1_estimate_19 : decode cX1_estimate 19 = .ok (.ldc 55, 2) := by decide +kernel
theorem dX1_estimate_21 : decode cX1_estimate 21 = .ok (.ireturn, 1) := by decide +kernel
theorem dX1_estimate_22 : decode cX1_estimate 22 = .ok (.aload_n 0, 1) := by decide +kernel
theorem dX1_estimate_23 : decode cX1_estimate 23 = .ok (.iload_n 1, 1) := by decide +kernel
theorem dX1_estimate_24 : decode cX1_estimate 24 = .ok (.invokevirtual 174, 3) := by decide +kernel
theorem dX1_estimate_27 : decode cX1_estimate 27 = .ok (.ireturn, 1) := by decide +kernel
set_option maxRecDepth 20000 in
theorem ggX1_certainty_X1_isWalker : GoodIn wsX1_certainty wsX1_isWalker := goodIn_r _ [7, 8, 9, 41, 42, 43, 44, 45, 46, 47, 48, 49, 50, 51, 52, 53, 54, 55, 56, 57, 58, 59, 60, 61, 62] (by decide +kernel) (by decide +kernel)
set_option maxRecDepth 20000 in
theorem gX1_certainty_X1_isWalker : GoodIn wsX1_certainty (wsV RX1 92 RX1 yX1_isWalker wsX1_isWalker) := goodIn_app (goodIn_of _ (by decide +kernel)) ggX1_certainty_X1_isWalker
set_option maxRecDepth 20000 in
theorem ggX1_certainty_X1_isAboard : GoodIn wsX1_certainty wsX1_isAboard := goodIn_r _ [13, 8, 14, 15, 3, 4, 5, 6, 7, 9, 41, 42, 43, 44, 45, 46, 47, 48, 49, 50, 51, 52, 53, 54, 55, 56, 57, 58, 59, 60, 61, 62] (by decide +kernel) (by decide +kernel)
set_option maxRecDepth 20000 in
theorem gX1_certainty_X1_isAboard : GoodIn wsX1_certainty (wsV RX1 95 RX1 yX1_isAboard wsX1_isAboard) := goodIn_app (goodIn_of _ (by decide +kernel)) ggX1_certainty_X1_isAboard
set_option maxRecDepth 20000 in
theorem ggX1_certainty_X1_certaintyFor : GoodIn wsX1_certainty wsX1_certaintyFor := goodIn_r _ [19, 8, 20, 21, 22, 23, 24, 25, 26, 10, 11, 12, 6, 13, 14, 15, 3, 4, 5, 7, 9, 27, 28, 29, 30, 31, 32, 33, 34, 35, 36, 37, 38, 39, 40, 41, 42, 43, 44, 45, 46, 47, 48, 49, 50, 51, 52, 53, 54, 55, 56, 57, 58, 59, 60, 61, 62] (by decide +kernel) (by decide +kernel)
set_option maxRecDepth 20000 in
theorem gX1_certainty_X1_certaintyFor : GoodIn wsX1_certainty (wsV RX1 177 RX1 yX1_certaintyFor wsX1_certaintyFor) := goodIn_app (goodIn_of _ (by decide +kernel)) ggX1_certainty_X1_certaintyFor
theorem dX1_certainty_0 : decode cX1_certainty 0 = .ok (.aload_n 0, 1) := by decide +kernel
theorem dX1_certainty_1 : decode cX1_certainty 1 = .ok (.iload_n 1, 1) := by decide +kernel
theorem dX1_certainty_2 : decode cX1_certainty 2 = .ok (.invokevirtual 92, 3) := by decide +kernel
theorem dX1_certainty_5 : decode cX1_certainty 5 = .ok (.ifCond .ne 6, 3) := by decide +kernel
theorem dX1_certainty_8 : decode cX1_certainty 8 = .ok (.ldc 45, 2) := by decide +kernel
theorem dX1_certainty_10 : decode cX1_certainty 10 = .ok (.ireturn, 1) := by decide +kernel
theorem dX1_certainty_11 : decode cX1_certainty 11 = .ok (.aload_n 0, 1) := by decide +kernel
theorem dX1_certainty_12 : decode cX1_certainty 12 = .ok (.iload_n 1, 1) := by decide +kernel
theorem dX1_certainty_13 : decode cX1_certainty 13 = .ok (.invokevirtual 95, 3) := by decide +kernel
theorem dX1_certainty_16 : decode cX1_certainty 16 = .ok (.ifCond .ne 6, 3) := by decide +kernel
theorem dX1_certainty_19 : decode cX1_certainty 19 = .ok (.ldc 55, 2) := by decide +kernel
theorem dX1_certainty_21 : decode cX1_certainty 21 = .ok (.ireturn, 1) := by decide +kernel
theorem dX1_certainty_22 : decode cX1_certainty 22 = .ok (.aload_n 0, 1) := by decide +kernel
theorem dX1_certainty_23 : decode cX1_certainty 23 = .ok (.iload_n 1, 1) := by decide +kernel
theorem dX1_certainty_24 : decode cX1_certainty 24 = .ok (.invokevirtual 177, 3) := by decide +kernel
theorem dX1_certainty_27 : decode cX1_certainty 27 = .ok (.ireturn, 1) := by decide +kernel
set_option maxRecDepth 20000 in
theorem ggX1_guess_X1_isWithin : GoodIn wsX1_guess wsX1_isWithin := goodIn_r _ [9] (by decide +kernel) (by decide +kernel)
set_option maxRecDepth 20000 in
theorem gX1_guess_X1_isWithin : GoodIn wsX1_guess (va_wsS RX1 41 yX1_isWithin wsX1_isWithin) := goodIn_app (goodIn_of _ (by decide +kernel)) ggX1_guess_X1_isWithin
set_option maxRecDepth 20000 in
theorem ggX1_guess_X1_copyRow : GoodIn wsX1_guess wsX1_copyRow := goodIn_r _ [12, 13, 14, 15, 16, 17, 18, 19, 20] (by decide +kernel) (by decide +kernel)
set_option maxRecDepth 20000 in
theorem gX1_guess_X1_copyRow : GoodIn wsX1_guess (va_wsS RX1 180 yX1_copyRow wsX1_copyRow) := goodIn_app (goodIn_of _ (by decide +kernel)) ggX1_guess_X1_copyRow
set_option maxRecDepth 20000 in
theorem ggX1_guess_X1_bestExchange : GoodIn wsX1_guess wsX1_bestExchange := goodIn_r _ [24, 5, 25, 26, 27, 8, 28, 29, 30, 31, 32, 15, 33, 34, 35, 36, 37, 2, 38, 39, 40, 10, 11, 12, 13, 14, 16, 17, 18, 19, 20, 41, 42, 43, 44, 45, 46, 47, 48, 49, 50, 51, 52, 53, 54, 55, 56, 57, 58, 59, 60, 61, 62, 63, 64, 65, 66, 67, 68, 69, 70, 79, 80, 81, 82, 83, 84, 85, 86, 87, 88, 89, 90, 91, 92, 93, 94, 95, 96, 97, 98, 99, 100] (by decide +kernel) (by decide +kernel)
set_option maxRecDepth 20000 in
theorem gX1_guess_X1_bestExchange : GoodIn wsX1_guess (wsV RX1 184 RX1 yX1_bestExchange wsX1_bestExchange) := goodIn_app (goodIn_of _ (by decide +kernel)) ggX1_guess_X1_bestExchange
set_option maxRecDepth 20000 in
theorem ggX1_guess_X1_exchangePair : GoodIn wsX1_guess wsX1_exchangePair := goodIn_r _ [74, 75, 76, 77, 8, 78, 63, 64, 65, 66, 2, 67, 68, 69, 70, 79, 80, 81, 82, 83, 84, 85, 86, 87, 88, 89, 90, 91, 92, 93, 94, 95, 96, 97, 98, 99, 100] (by decide +kernel) (by decide +kernel)
set_option maxRecDepth 20000 in
theorem gX1_guess_X1_exchangePair : GoodIn wsX1_guess (wsV RX1 187 RX1 yX1_exchangePair wsX1_exchangePair) := goodIn_app (goodIn_of _ (by decide +kernel)) ggX1_guess_X1_exchangePair
set_option maxRecDepth 20000 in
theorem ggX1_guess_X1_errorWith : GoodIn wsX1_guess wsX1_errorWith := goodIn_r _ [28, 29, 30, 31, 32, 15, 33, 34, 35, 36, 8, 37, 2, 38, 39, 40, 10, 11, 12, 13, 14, 16, 17, 18, 19, 20, 41, 42, 43, 44, 45, 46, 47, 48, 49, 50, 51, 52, 5, 53, 54, 55, 56, 57, 58, 79, 80, 81, 82, 83, 84, 85, 86, 87, 88, 89, 90, 91, 92, 93, 94, 95, 96, 97, 98, 99, 100] (by decide +kernel) (by decide +kernel)
set_option maxRecDepth 20000 in
theorem gX1_guess_X1_errorWith : GoodIn wsX1_guess (wsV RX1 106 RX1 yX1_errorWith wsX1_errorWith) := goodIn_app (goodIn_of _ (by decide +kernel)) ggX1_guess_X1_errorWith
theorem dX1_guess_0 : decode cX1_guess 0 = .ok (.iload_n 1, 1) := by decide +kernel
theorem dX1_guess_1 : decode cX1_guess 1 = .ok (.iconst 0, 1) := by decide +kernel
theorem dX1_guess_2 : decode cX1_guess 2 = .ok (.iconst 1, 1) := by decide +kernel
theorem dX1_guess_3 : decode cX1_guess 3 = .ok (.invokestatic 41, 3) := by decide +kernel
theorem dX1_guess_6 : decode cX1_guess 6 = .ok (.ifCond .ne 6, 3) := by decide +kernel
theorem dX1_guess_9 : decode cX1_guess 9 = .ok (.ldc 45, 2) := by decide +kernel
theorem dX1_guess_11 : decode cX1_guess 11 = .ok (.ireturn, 1) := by decide +kernel
theorem dX1_guess_12 : decode cX1_guess 12 = .ok (.aload_n 0, 1) := by decide +kernel
theorem dX1_guess_13 : decode cX1_guess 13 = .ok (.getfield 10, 3) := by decide +kernel
theorem dX1_guess_16 : decode cX1_guess 16 = .ok (.getfield 89, 3) := by decide +kernel
theorem dX1_guess_19 : decode cX1_guess 19 = .ok (.aload_n 0, 1) := by decide +kernel
theorem dX1_guess_20 : decode cX1_guess 20 = .ok (.getfield 34, 3) := by decide +kernel
theorem dX1_guess_23 : decode cX1_guess 23 = .ok (.invokestatic 180, 3) := by decide +kernel
theorem dX1_guess_26 : decode cX1_guess 26 = .ok (.aload_n 0, 1) := by decide +kernel
theorem dX1_guess_27 : decode cX1_guess 27 = .ok (.aload_n 0, 1) := by decide +kernel
theorem dX1_guess_28 : decode cX1_guess 28 = .ok (.getfield 34, 3) := by decide +kernel
theorem dX1_guess_31 : decode cX1_guess 31 = .ok (.invokevirtual 184, 3) := by decide +kernel
theorem dX1_guess_34 : decode cX1_guess 34 = .ok (.istore_n 2, 1) := by decide +kernel
theorem dX1_guess_35 : decode cX1_guess 35 = .ok (.iload_n 2, 1) := by decide +kernel
theorem dX1_guess_36 : decode cX1_guess 36 = .ok (.ldc 78, 2) := by decide +kernel
theorem dX1_guess_38 : decode cX1_guess 38 = .ok (.if_icmp .eq 7, 3) := by decide +kernel
theorem dX1_guess_41 : decode cX1_guess 41 = .ok (.iload_n 1, 1) := by decide +kernel
theorem dX1_guess_42 : decode cX1_guess 42 = .ok (.ifCond .ne 5, 3) := by decide +kernel
theorem dX1_guess_45 : decode cX1_guess 45 = .ok (.iload_n 2, 1) := by decide +kernel
theorem dX1_guess_46 : decode cX1_guess 46 = .ok (.ireturn, 1) := by decide +kernel
theorem dX1_guess_47 : decode cX1_guess 47 = .ok (.aload_n 0, 1) := by decide +kernel
theorem dX1_guess_48 : decode cX1_guess 48 = .ok (.aload_n 0, 1) := by decide +kernel
theorem dX1_guess_49 : decode cX1_guess 49 = .ok (.getfield 34, 3) := by decide +kernel
theorem dX1_guess_52 : decode cX1_guess 52 = .ok (.iload_n 2, 1) := by decide +kernel
theorem dX1_guess_53 : decode cX1_guess 53 = .ok (.invokevirtual 187, 3) := by decide +kernel
theorem dX1_guess_56 : decode cX1_guess 56 = .ok (.aload_n 0, 1) := by decide +kernel
theorem dX1_guess_57 : decode cX1_guess 57 = .ok (.aload_n 0, 1) := by decide +kernel
theorem dX1_guess_58 : decode cX1_guess 58 = .ok (.getfield 34, 3) := by decide +kernel
theorem dX1_guess_61 : decode cX1_guess 61 = .ok (.invokevirtual 106, 3) := by decide +kernel
theorem dX1_guess_64 : decode cX1_guess 64 = .ok (.ireturn, 1) := by decide +kernel
set_option maxRecDepth 20000 in
theorem ggX1_mend_X1_isWithin : GoodIn wsX1_mend wsX1_isWithin := goodIn_r _ [10] (by decide +kernel) (by decide +kernel)
set_option maxRecDepth 20000 in
theorem gX1_mend_X1_isWithin : GoodIn wsX1_mend (va_wsS RX1 41 yX1_isWithin wsX1_isWithin) := goodIn_app (goodIn_of _ (by decide +kernel)) ggX1_mend_X1_isWithin
set_option maxRecDepth 20000 in
theorem ggX1_mend_X1_copyRow : GoodIn wsX1_mend wsX1_copyRow := goodIn_r _ [13, 14, 15, 16, 17, 18, 19, 20, 21] (by decide +kernel) (by decide +kernel)
set_option maxRecDepth 20000 in
theorem gX1_mend_X1_copyRow : GoodIn wsX1_mend (va_wsS RX1 180 yX1_copyRow wsX1_copyRow) := goodIn_app (goodIn_of _ (by decide +kernel)) ggX1_mend_X1_copyRow
set_option maxRecDepth 20000 in
theorem ggX1_mend_X1_bestExchange : GoodIn wsX1_mend wsX1_bestExchange := goodIn_r _ [25, 5, 26, 27, 28, 9, 29, 30, 31, 32, 33, 16, 34, 35, 36, 37, 38, 2, 39, 40, 41, 11, 12, 13, 14, 15, 17, 18, 19, 20, 21, 42, 43, 44, 45, 46, 47, 48, 49, 50, 51, 52, 53, 54, 55, 56, 57, 58, 59, 60, 61, 62, 63, 64, 65, 66, 67, 68, 69, 70, 71, 80, 81, 82, 83, 84, 85, 86, 87, 88, 89, 90, 91, 92, 93, 94, 95, 96, 97, 98, 99, 100, 101] (by decide +kernel) (by decide +kernel)
set_option maxRecDepth 20000 in
theorem gX1_mend_X1_bestExchange : GoodIn wsX1_mend (wsV RX1 184 RX1 yX1_bestExchange wsX1_bestExchange) := goodIn_app (goodIn_of _ (by decide +kernel)) ggX1_mend_X1_bestExchange
set_option maxRecDepth 20000 in
theorem ggX1_mend_X1_exchangePair : GoodIn wsX1_mend wsX1_exchangePair := goodIn_r _ [75, 76, 77, 78, 9, 79, 64, 65, 66, 67, 2, 68, 69, 70, 71, 80, 81, 82, 83, 84, 85, 86, 87, 88, 89, 90, 91, 92, 93, 94, 95, 96, 97, 98, 99, 100, 101] (by decide +kernel) (by decide +kernel)
set_option maxRecDepth 20000 in
theorem gX1_mend_X1_exchangePair : GoodIn wsX1_mend (wsV RX1 187 RX1 yX1_exchangePair wsX1_exchangePair) := goodIn_app (goodIn_of _ (by decide +kernel)) ggX1_mend_X1_exchangePair
set_option maxRecDepth 20000 in
theorem ggX1_mend_X1_errorWith : GoodIn wsX1_mend wsX1_errorWith := goodIn_r _ [29, 30, 31, 32, 33, 16, 34, 35, 36, 37, 9, 38, 2, 39, 40, 41, 11, 12, 13, 14, 15, 17, 18, 19, 20, 21, 42, 43, 44, 45, 46, 47, 48, 49, 50, 51, 52, 53, 5, 54, 55, 56, 57, 58, 59, 80, 81, 82, 83, 84, 85, 86, 87, 88, 89, 90, 91, 92, 93, 94, 95, 96, 97, 98, 99, 100, 101] (by decide +kernel) (by decide +kernel)
set_option maxRecDepth 20000 in
theorem gX1_mend_X1_errorWith : GoodIn wsX1_mend (wsV RX1 106 RX1 yX1_errorWith wsX1_errorWith) := goodIn_app (goodIn_of _ (by decide +kernel)) ggX1_mend_X1_errorWith
theorem dX1_mend_0 : decode cX1_mend 0 = .ok (.iload_n 1, 1) := by decide +kernel
theorem dX1_mend_1 : decode cX1_mend 1 = .ok (.iconst 0, 1) := by decide +kernel
theorem dX1_mend_2 : decode cX1_mend 2 = .ok (.iconst 1, 1) := by decide +kernel
theorem dX1_mend_3 : decode cX1_mend 3 = .ok (.invokestatic 41, 3) := by decide +kernel
theorem dX1_mend_6 : decode cX1_mend 6 = .ok (.ifCond .ne 6, 3) := by decide +kernel
theorem dX1_mend_9 : decode cX1_mend 9 = .ok (.ldc 45, 2) := by decide +kernel
theorem dX1_mend_11 : decode cX1_mend 11 = .ok (.ireturn, 1) := by decide +kernel
theorem dX1_mend_12 : decode cX1_mend 12 = .ok (.aload_n 0, 1) := by decide +kernel
theorem dX1_mend_13 : decode cX1_mend 13 = .ok (.getfield 10, 3) := by decide +kernel
theorem dX1_mend_16 : decode cX1_mend 16 = .ok (.getfield 89, 3) := by decide +kernel
theorem dX1_mend_19 : decode cX1_mend 19 = .ok (.aload_n 0, 1) := by decide +kernel
theorem dX1_mend_20 : decode cX1_mend 20 = .ok (.getfield 34, 3) := by decide +kernel
theorem dX1_mend_23 : decode cX1_mend 23 = .ok (.invokestatic 180, 3) := by decide +kernel
theorem dX1_mend_26 : decode cX1_mend 26 = .ok (.iconst 0, 1) := by decide +kernel
theorem dX1_mend_27 : decode cX1_mend 27 = .ok (.istore_n 2, 1) := by decide +kernel
theorem dX1_mend_28 : decode cX1_mend 28 = .ok (.aload_n 0, 1) := by decide +kernel
theorem dX1_mend_29 : decode cX1_mend 29 = .ok (.aload_n 0, 1) := by decide +kernel
theorem dX1_mend_30 : decode cX1_mend 30 = .ok (.getfield 34, 3) := by decide +kernel
theorem dX1_mend_33 : decode cX1_mend 33 = .ok (.invokevirtual 184, 3) := by decide +kernel
theorem dX1_mend_36 : decode cX1_mend 36 = .ok (.istore_n 3, 1) := by decide +kernel
theorem dX1_mend_37 : decode cX1_mend 37 = .ok (.iload_n 3, 1) := by decide +kernel
theorem dX1_mend_38 : decode cX1_mend 38 = .ok (.ldc 78, 2) := by decide +kernel
theorem dX1_mend_40 : decode cX1_mend 40 = .ok (.if_icmp .eq 33, 3) := by decide +kernel
theorem dX1_mend_43 : decode cX1_mend 43 = .ok (.iload_n 2, 1) := by decide +kernel
theorem dX1_mend_44 : decode cX1_mend 44 = .ok (.ldc 191, 2) := by decide +kernel
theorem dX1_mend_46 : decode cX1_mend 46 = .ok (.if_icmp .ge 27, 3) := by decide +kernel
theorem dX1_mend_49 : decode cX1_mend 49 = .ok (.aload_n 0, 1) := by decide +kernel
theorem dX1_mend_50 : decode cX1_mend 50 = .ok (.aload_n 0, 1) := by decide +kernel
theorem dX1_mend_51 : decode cX1_mend 51 = .ok (.getfield 34, 3) := by decide +kernel
theorem dX1_mend_54 : decode cX1_mend 54 = .ok (.iload_n 3, 1) := by decide +kernel
theorem dX1_mend_55 : decode cX1_mend 55 = .ok (.invokevirtual 187, 3) := by decide +kernel
theorem dX1_mend_58 : decode cX1_mend 58 = .ok (.iinc 2 1, 3) := by decide +kernel
theorem dX1_mend_61 : decode cX1_mend 61 = .ok (.aload_n 0, 1) := by decide +kernel
theorem dX1_mend_62 : decode cX1_mend 62 = .ok (.aload_n 0, 1) := by decide +kernel
theorem dX1_mend_63 : decode cX1_mend 63 = .ok (.getfield 34, 3) := by decide +kernel
theorem dX1_mend_66 : decode cX1_mend 66 = .ok (.invokevirtual 184, 3) := by decide +kernel
theorem dX1_mend_69 : decode cX1_mend 69 = .ok (.istore_n 3, 1) := by decide +kernel
theorem dX1_mend_70 : decode cX1_mend 70 = .ok (.goto (-33), 3) := by decide +kernel
theorem dX1_mend_73 : decode cX1_mend 73 = .ok (.iload_n 1, 1) := by decide +kernel
theorem dX1_mend_74 : decode cX1_mend 74 = .ok (.ifCond .ne 7, 3) := by decide +kernel
theorem dX1_mend_77 : decode cX1_mend 77 = .ok (.iload_n 2, 1) := by decide +kernel
theorem dX1_mend_78 : decode cX1_mend 78 = .ok (.goto 11, 3) := by decide +kernel
theorem dX1_mend_81 : decode cX1_mend 81 = .ok (.aload_n 0, 1) := by decide +kernel
theorem dX1_mend_82 : decode cX1_mend 82 = .ok (.aload_n 0, 1) := by decide +kernel
theorem dX1_mend_83 : decode cX1_mend 83 = .ok (.getfield 34, 3) := by decide +kernel
theorem dX1_mend_86 : decode cX1_mend 86 = .ok (.invokevirtual 106, 3) := by decide +kernel
theorem dX1_mend_89 : decode cX1_mend 89 = .ok (.ireturn, 1) := by decide +kernel
set_option maxRecDepth 20000 in
theorem ggX1_bestCell_X1_whoIsOn : GoodIn wsX1_bestCell wsX1_whoIsOn := goodIn_r _ [7, 1] (by decide +kernel) (by decide +kernel)
set_option maxRecDepth 20000 in
theorem gX1_bestCell_X1_whoIsOn : GoodIn wsX1_bestCell (va_wsS RX1 74 yX1_whoIsOn wsX1_whoIsOn) := goodIn_app (goodIn_of _ (by decide +kernel)) ggX1_bestCell_X1_whoIsOn
set_option maxRecDepth 20000 in
theorem ggX1_bestCell_X1_earliestTare : GoodIn wsX1_bestCell wsX1_earliestTare := goodIn_r _ [11, 2, 12, 13, 14, 15, 16, 17, 18, 19, 6, 20, 1, 21, 22, 23, 24, 25, 26, 27, 28, 29, 30, 31, 32, 33, 34, 35, 36, 37, 38, 39, 40, 41, 42, 43, 44, 45] (by decide +kernel) (by decide +kernel)
set_option maxRecDepth 20000 in
theorem gX1_bestCell_X1_earliestTare : GoodIn wsX1_bestCell (wsV RX1 192 RX1 yX1_earliestTare wsX1_earliestTare) := goodIn_app (goodIn_of _ (by decide +kernel)) ggX1_bestCell_X1_earliestTare
theorem dX1_bestCell_0 : decode cX1_bestCell 0 = .ok (.ldc 78, 2) := by decide +kernel
theorem dX1_bestCell_2 : decode cX1_bestCell 2 = .ok (.istore_n 1, 1) := by decide +kernel
theorem dX1_bestCell_3 : decode cX1_bestCell 3 = .ok (.ldc 78, 2) := by decide +kernel
theorem dX1_bestCell_5 : decode cX1_bestCell 5 = .ok (.istore_n 2, 1) := by decide +kernel
theorem dX1_bestCell_6 : decode cX1_bestCell 6 = .ok (.iconst 0, 1) := by decide +kernel
theorem dX1_bestCell_7 : decode cX1_bestCell 7 = .ok (.istore_n 3, 1) := by decide +kernel
theorem dX1_bestCell_8 : decode cX1_bestCell 8 = .ok (.iload_n 3, 1) := by decide +kernel
theorem dX1_bestCell_9 : decode cX1_bestCell 9 = .ok (.bipush 24, 2) := by decide +kernel
theorem dX1_bestCell_11 : decode cX1_bestCell 11 = .ok (.if_icmp .ge 49, 3) := by decide +kernel
theorem dX1_bestCell_14 : decode cX1_bestCell 14 = .ok (.aload_n 0, 1) := by decide +kernel
theorem dX1_bestCell_15 : decode cX1_bestCell 15 = .ok (.getfield 10, 3) := by decide +kernel
theorem dX1_bestCell_18 : decode cX1_bestCell 18 = .ok (.getfield 71, 3) := by decide +kernel
theorem dX1_bestCell_21 : decode cX1_bestCell 21 = .ok (.iload_n 3, 1) := by decide +kernel
theorem dX1_bestCell_22 : decode cX1_bestCell 22 = .ok (.invokestatic 74, 3) := by decide +kernel
theorem dX1_bestCell_25 : decode cX1_bestCell 25 = .ok (.ldc 78, 2) := by decide +kernel
theorem dX1_bestCell_27 : decode cX1_bestCell 27 = .ok (.if_icmp .ne 27, 3) := by decide +kernel
theorem dX1_bestCell_30 : decode cX1_bestCell 30 = .ok (.aload_n 0, 1) := by decide +kernel
theorem dX1_bestCell_31 : decode cX1_bestCell 31 = .ok (.iload_n 3, 1) := by decide +kernel
theorem dX1_bestCell_32 : decode cX1_bestCell 32 = .ok (.invokevirtual 192, 3) := by decide +kernel
theorem dX1_bestCell_35 : decode cX1_bestCell 35 = .ok (.istore 4, 2) := by decide +kernel
theorem dX1_bestCell_37 : decode cX1_bestCell 37 = .ok (.iload_n 1, 1) := by decide +kernel
theorem dX1_bestCell_38 : decode cX1_bestCell 38 = .ok (.ldc 78, 2) := by decide +kernel
theorem dX1_bestCell_40 : decode cX1_bestCell 40 = .ok (.if_icmp .eq 9, 3) := by decide +kernel
theorem dX1_bestCell_43 : decode cX1_bestCell 43 = .ok (.iload 4, 2) := by decide +kernel
theorem dX1_bestCell_45 : decode cX1_bestCell 45 = .ok (.iload_n 2, 1) := by decide +kernel
theorem dX1_bestCell_46 : decode cX1_bestCell 46 = .ok (.if_icmp .le 8, 3) := by decide +kernel
theorem dX1_bestCell_49 : decode cX1_bestCell 49 = .ok (.iload_n 3, 1) := by decide +kernel
theorem dX1_bestCell_50 : decode cX1_bestCell 50 = .ok (.istore_n 1, 1) := by decide +kernel
theorem dX1_bestCell_51 : decode cX1_bestCell 51 = .ok (.iload 4, 2) := by decide +kernel
theorem dX1_bestCell_53 : decode cX1_bestCell 53 = .ok (.istore_n 2, 1) := by decide +kernel
theorem dX1_bestCell_54 : decode cX1_bestCell 54 = .ok (.iinc 3 1, 3) := by decide +kernel
theorem dX1_bestCell_57 : decode cX1_bestCell 57 = .ok (.goto (-49), 3) := by decide +kernel
theorem dX1_bestCell_60 : decode cX1_bestCell 60 = .ok (.iload_n 1, 1) := by decide +kernel
theorem dX1_bestCell_61 : decode cX1_bestCell 61 = .ok (.ireturn, 1) := by decide +kernel
set_option maxRecDepth 20000 in
theorem ggX1_until_X1_isWalker : GoodIn wsX1_until wsX1_isWalker := goodIn_r _ [7, 8, 9, 44, 45, 46, 47, 48, 49, 50, 51, 52, 53, 54, 55, 56, 57, 58, 59, 60, 61, 62, 63, 64, 65] (by decide +kernel) (by decide +kernel)
set_option maxRecDepth 20000 in
theorem gX1_until_X1_isWalker : GoodIn wsX1_until (wsV RX1 92 RX1 yX1_isWalker wsX1_isWalker) := goodIn_app (goodIn_of _ (by decide +kernel)) ggX1_until_X1_isWalker
set_option maxRecDepth 20000 in
theorem ggX1_until_X1_isWithin : GoodIn wsX1_until wsX1_isWithin := goodIn_r _ [12] (by decide +kernel) (by decide +kernel)
set_option maxRecDepth 20000 in
theorem gX1_until_X1_isWithin : GoodIn wsX1_until (va_wsS RX1 41 yX1_isWithin wsX1_isWithin) := goodIn_app (goodIn_of _ (by decide +kernel)) ggX1_until_X1_isWithin
set_option maxRecDepth 20000 in
theorem ggX1_until_X1_isAboard : GoodIn wsX1_until wsX1_isAboard := goodIn_r _ [16, 8, 17, 18, 3, 4, 5, 6, 7, 9, 44, 45, 46, 47, 48, 49, 50, 51, 52, 53, 54, 55, 56, 57, 58, 59, 60, 61, 62, 63, 64, 65] (by decide +kernel) (by decide +kernel)
set_option maxRecDepth 20000 in
theorem gX1_until_X1_isAboard : GoodIn wsX1_until (wsV RX1 95 RX1 yX1_isAboard wsX1_isAboard) := goodIn_app (goodIn_of _ (by decide +kernel)) ggX1_until_X1_isAboard
set_option maxRecDepth 20000 in
theorem ggX1_until_X1_certaintyFor : GoodIn wsX1_until wsX1_certaintyFor := goodIn_r _ [22, 8, 23, 24, 25, 26, 27, 28, 29, 13, 14, 15, 6, 16, 17, 18, 3, 4, 5, 7, 9, 30, 31, 32, 33, 34, 35, 36, 37, 38, 39, 40, 41, 42, 43, 44, 45, 46, 47, 48, 49, 50, 51, 52, 53, 54, 55, 56, 57, 58, 59, 60, 61, 62, 63, 64, 65] (by decide +kernel) (by decide +kernel)
set_option maxRecDepth 20000 in
theorem gX1_until_X1_certaintyFor : GoodIn wsX1_until (wsV RX1 177 RX1 yX1_certaintyFor wsX1_certaintyFor) := goodIn_app (goodIn_of _ (by decide +kernel)) ggX1_until_X1_certaintyFor
theorem dX1_until_0 : decode cX1_until 0 = .ok (.aload_n 0, 1) := by decide +kernel
theorem dX1_until_1 : decode cX1_until 1 = .ok (.iload_n 1, 1) := by decide +kernel
theorem dX1_until_2 : decode cX1_until 2 = .ok (.invokevirtual 92, 3) := by decide +kernel
theorem dX1_until_5 : decode cX1_until 5 = .ok (.ifCond .eq 13, 3) := by decide +kernel
theorem dX1_until_8 : decode cX1_until 8 = .ok (.iload_n 2, 1) := by decide +kernel
theorem dX1_until_9 : decode cX1_until 9 = .ok (.iconst 1, 1) := by decide +kernel
theorem dX1_until_10 : decode cX1_until 10 = .ok (.bipush 100, 2) := by decide +kernel
theorem dX1_until_12 : decode cX1_until 12 = .ok (.invokestatic 41, 3) := by decide +kernel
theorem dX1_until_15 : decode cX1_until 15 = .ok (.ifCond .ne 6, 3) := by decide +kernel
theorem dX1_until_18 : decode cX1_until 18 = .ok (.ldc 45, 2) := by decide +kernel
theorem dX1_until_20 : decode cX1_until 20 = .ok (.ireturn, 1) := by decide +kernel
theorem dX1_until_21 : decode cX1_until 21 = .ok (.aload_n 0, 1) := by decide +kernel
theorem dX1_until_22 : decode cX1_until 22 = .ok (.iload_n 1, 1) := by decide +kernel
theorem dX1_until_23 : decode cX1_until 23 = .ok (.invokevirtual 95, 3) := by decide +kernel
theorem dX1_until_26 : decode cX1_until 26 = .ok (.ifCond .ne 6, 3) := by decide +kernel
theorem dX1_until_29 : decode cX1_until 29 = .ok (.ldc 55, 2) := by decide +kernel
theorem dX1_until_31 : decode cX1_until 31 = .ok (.ireturn, 1) := by decide +kernel
theorem dX1_until_32 : decode cX1_until 32 = .ok (.aload_n 0, 1) := by decide +kernel
theorem dX1_until_33 : decode cX1_until 33 = .ok (.iload_n 1, 1) := by decide +kernel
theorem dX1_until_34 : decode cX1_until 34 = .ok (.invokevirtual 177, 3) := by decide +kernel
theorem dX1_until_37 : decode cX1_until 37 = .ok (.iload_n 2, 1) := by decide +kernel
theorem dX1_until_38 : decode cX1_until 38 = .ok (.isub, 1) := by decide +kernel
theorem dX1_until_39 : decode cX1_until 39 = .ok (.istore_n 3, 1) := by decide +kernel
theorem dX1_until_40 : decode cX1_until 40 = .ok (.iload_n 3, 1) := by decide +kernel
theorem dX1_until_41 : decode cX1_until 41 = .ok (.ifCond .ge 7, 3) := by decide +kernel
theorem dX1_until_44 : decode cX1_until 44 = .ok (.iconst 0, 1) := by decide +kernel
theorem dX1_until_45 : decode cX1_until 45 = .ok (.goto 8, 3) := by decide +kernel
theorem dX1_until_48 : decode cX1_until 48 = .ok (.iload_n 3, 1) := by decide +kernel
theorem dX1_until_49 : decode cX1_until 49 = .ok (.iconst 5, 1) := by decide +kernel
theorem dX1_until_50 : decode cX1_until 50 = .ok (.idiv, 1) := by decide +kernel
theorem dX1_until_51 : decode cX1_until 51 = .ok (.iconst 1, 1) := by decide +kernel
theorem dX1_until_52 : decode cX1_until 52 = .ok (.iadd, 1) := by decide +kernel
theorem dX1_until_53 : decode cX1_until 53 = .ok (.ireturn, 1) := by decide +kernel
theorem dX1_isWithin_0 : decode cX1_isWithin 0 = .ok (.iload_n 0, 1) := by decide +kernel
theorem dX1_isWithin_1 : decode cX1_isWithin 1 = .ok (.iload_n 1, 1) := by decide +kernel
theorem dX1_isWithin_2 : decode cX1_isWithin 2 = .ok (.if_icmp .lt 12, 3) := by decide +kernel
theorem dX1_isWithin_5 : decode cX1_isWithin 5 = .ok (.iload_n 0, 1) := by decide +kernel
theorem dX1_isWithin_6 : decode cX1_isWithin 6 = .ok (.iload_n 2, 1) := by decide +kernel
theorem dX1_isWithin_7 : decode cX1_isWithin 7 = .ok (.if_icmp .gt 7, 3) := by decide +kernel
theorem dX1_isWithin_10 : decode cX1_isWithin 10 = .ok (.iconst 1, 1) := by decide +kernel
theorem dX1_isWithin_11 : decode cX1_isWithin 11 = .ok (.goto 4, 3) := by decide +kernel
theorem dX1_isWithin_14 : decode cX1_isWithin 14 = .ok (.iconst 0, 1) := by decide +kernel
theorem dX1_isWithin_15 : decode cX1_isWithin 15 = .ok (.ireturn, 1) := by decide +kernel
theorem dX1_isCell_0 : decode cX1_isCell 0 = .ok (.iload_n 0, 1) := by decide +kernel
theorem dX1_isCell_1 : decode cX1_isCell 1 = .ok (.ifCond .lt 13, 3) := by decide +kernel
theorem dX1_isCell_4 : decode cX1_isCell 4 = .ok (.iload_n 0, 1) := by decide +kernel
theorem dX1_isCell_5 : decode cX1_isCell 5 = .ok (.bipush 24, 2) := by decide +kernel
theorem dX1_isCell_7 : decode cX1_isCell 7 = .ok (.if_icmp .ge 7, 3) := by decide +kernel
theorem dX1_isCell_10 : decode cX1_isCell 10 = .ok (.iconst 1, 1) := by decide +kernel
theorem dX1_isCell_11 : decode cX1_isCell 11 = .ok (.goto 4, 3) := by decide +kernel
theorem dX1_isCell_14 : decode cX1_isCell 14 = .ok (.iconst 0, 1) := by decide +kernel
theorem dX1_isCell_15 : decode cX1_isCell 15 = .ok (.ireturn, 1) := by decide +kernel
set_option maxRecDepth 20000 in
theorem ggX1_isWeight_X1_isWithin : GoodIn wsX1_isWeight wsX1_isWithin := goodIn_r _ [4] (by decide +kernel) (by decide +kernel)
set_option maxRecDepth 20000 in
theorem gX1_isWeight_X1_isWithin : GoodIn wsX1_isWeight (va_wsS RX1 41 yX1_isWithin wsX1_isWithin) := goodIn_app (goodIn_of _ (by decide +kernel)) ggX1_isWeight_X1_isWithin
theorem dX1_isWeight_0 : decode cX1_isWeight 0 = .ok (.iload_n 0, 1) := by decide +kernel
theorem dX1_isWeight_1 : decode cX1_isWeight 1 = .ok (.bipush 20, 2) := by decide +kernel
theorem dX1_isWeight_3 : decode cX1_isWeight 3 = .ok (.sipush 150, 3) := by decide +kernel
theorem dX1_isWeight_6 : decode cX1_isWeight 6 = .ok (.invokestatic 41, 3) := by decide +kernel
theorem dX1_isWeight_9 : decode cX1_isWeight 9 = .ok (.ireturn, 1) := by decide +kernel
theorem dX1_isWalker_0 : decode cX1_isWalker 0 = .ok (.iload_n 1, 1) := by decide +kernel
theorem dX1_isWalker_1 : decode cX1_isWalker 1 = .ok (.ifCond .lt 24, 3) := by decide +kernel
theorem dX1_isWalker_4 : decode cX1_isWalker 4 = .ok (.iload_n 1, 1) := by decide +kernel
theorem dX1_isWalker_5 : decode cX1_isWalker 5 = .ok (.aload_n 0, 1) := by decide +kernel
theorem dX1_isWalker_6 : decode cX1_isWalker 6 = .ok (.getfield 10, 3) := by decide +kernel
theorem dX1_isWalker_9 : decode cX1_isWalker 9 = .ok (.getfield 79, 3) := by decide +kernel
theorem dX1_isWalker_12 : decode cX1_isWalker 12 = .ok (.if_icmp .ge 13, 3) := by decide +kernel
theorem dX1_isWalker_15 : decode cX1_isWalker 15 = .ok (.iload_n 1, 1) := by decide +kernel
theorem dX1_isWalker_16 : decode cX1_isWalker 16 = .ok (.bipush 8, 2) := by decide +kernel
theorem dX1_isWalker_18 : decode cX1_isWalker 18 = .ok (.if_icmp .ge 7, 3) := by decide +kernel
theorem dX1_isWalker_21 : decode cX1_isWalker 21 = .ok (.iconst 1, 1) := by decide +kernel
theorem dX1_isWalker_22 : decode cX1_isWalker 22 = .ok (.goto 4, 3) := by decide +kernel
theorem dX1_isWalker_25 : decode cX1_isWalker 25 = .ok (.iconst 0, 1) := by decide +kernel
theorem dX1_isWalker_26 : decode cX1_isWalker 26 = .ok (.ireturn, 1) := by decide +kernel
set_option maxRecDepth 20000 in
theorem ggX1_isPair_X1_isWalker : GoodIn wsX1_isPair wsX1_isWalker := goodIn_r _ [5, 6, 7, 8, 9, 10, 11, 12, 13, 14, 15, 16, 17, 18, 19, 20, 21, 22, 23, 24, 25, 26, 27, 28, 29] (by decide +kernel) (by decide +kernel)
set_option maxRecDepth 20000 in
theorem gX1_isPair_X1_isWalker : GoodIn wsX1_isPair (wsV RX1 92 RX1 yX1_isWalker wsX1_isWalker) := goodIn_app (goodIn_of _ (by decide +kernel)) ggX1_isPair_X1_isWalker
theorem dX1_isPair_0 : decode cX1_isPair 0 = .ok (.aload_n 0, 1) := by decide +kernel
theorem dX1_isPair_1 : decode cX1_isPair 1 = .ok (.iload_n 1, 1) := by decide +kernel
theorem dX1_isPair_2 : decode cX1_isPair 2 = .ok (.invokevirtual 92, 3) := by decide +kernel
theorem dX1_isPair_5 : decode cX1_isPair 5 = .ok (.ifCond .eq 20, 3) := by decide +kernel
theorem dX1_isPair_8 : decode cX1_isPair 8 = .ok (.aload_n 0, 1) := by decide +kernel
theorem dX1_isPair_9 : decode cX1_isPair 9 = .ok (.iload_n 2, 1) := by decide +kernel
theorem dX1_isPair_10 : decode cX1_isPair 10 = .ok (.invokevirtual 92, 3) := by decide +kernel
theorem dX1_isPair_13 : decode cX1_isPair 13 = .ok (.ifCond .eq 12, 3) := by decide +kernel
theorem dX1_isPair_16 : decode cX1_isPair 16 = .ok (.iload_n 1, 1) := by decide +kernel
theorem dX1_isPair_17 : decode cX1_isPair 17 = .ok (.iload_n 2, 1) := by decide +kernel
theorem dX1_isPair_18 : decode cX1_isPair 18 = .ok (.if_icmp .eq 7, 3) := by decide +kernel
theorem dX1_isPair_21 : decode cX1_isPair 21 = .ok (.iconst 1, 1) := by decide +kernel
theorem dX1_isPair_22 : decode cX1_isPair 22 = .ok (.goto 4, 3) := by decide +kernel
theorem dX1_isPair_25 : decode cX1_isPair 25 = .ok (.iconst 0, 1) := by decide +kernel
theorem dX1_isPair_26 : decode cX1_isPair 26 = .ok (.ireturn, 1) := by decide +kernel
set_option maxRecDepth 20000 in
theorem ggX1_isAboard_X1_isWalker : GoodIn wsX1_isAboard wsX1_isWalker := goodIn_r _ [8, 1, 9, 10, 11, 12, 13, 14, 15, 16, 17, 18, 19, 20, 21, 22, 23, 24, 25, 26, 27, 28, 29, 30, 31] (by decide +kernel) (by decide +kernel)
set_option maxRecDepth 20000 in
theorem gX1_isAboard_X1_isWalker : GoodIn wsX1_isAboard (wsV RX1 92 RX1 yX1_isWalker wsX1_isWalker) := goodIn_app (goodIn_of _ (by decide +kernel)) ggX1_isAboard_X1_isWalker
theorem dX1_isAboard_0 : decode cX1_isAboard 0 = .ok (.aload_n 0, 1) := by decide +kernel
theorem dX1_isAboard_1 : decode cX1_isAboard 1 = .ok (.iload_n 1, 1) := by decide +kernel
theorem dX1_isAboard_2 : decode cX1_isAboard 2 = .ok (.invokevirtual 92, 3) := by decide +kernel
theorem dX1_isAboard_5 : decode cX1_isAboard 5 = .ok (.ifCond .eq 21, 3) := by decide +kernel
theorem dX1_isAboard_8 : decode cX1_isAboard 8 = .ok (.aload_n 0, 1) := by decide +kernel
theorem dX1_isAboard_9 : decode cX1_isAboard 9 = .ok (.getfield 10, 3) := by decide +kernel
theorem dX1_isAboard_12 : decode cX1_isAboard 12 = .ok (.getfield 71, 3) := by decide +kernel
theorem dX1_isAboard_15 : decode cX1_isAboard 15 = .ok (.iload_n 1, 1) := by decide +kernel
theorem dX1_isAboard_16 : decode cX1_isAboard 16 = .ok (.iaload, 1) := by decide +kernel
theorem dX1_isAboard_17 : decode cX1_isAboard 17 = .ok (.ldc 78, 2) := by decide +kernel
theorem dX1_isAboard_19 : decode cX1_isAboard 19 = .ok (.if_icmp .eq 7, 3) := by decide +kernel
theorem dX1_isAboard_22 : decode cX1_isAboard 22 = .ok (.iconst 1, 1) := by decide +kernel
theorem dX1_isAboard_23 : decode cX1_isAboard 23 = .ok (.goto 4, 3) := by decide +kernel
theorem dX1_isAboard_26 : decode cX1_isAboard 26 = .ok (.iconst 0, 1) := by decide +kernel
theorem dX1_isAboard_27 : decode cX1_isAboard 27 = .ok (.ireturn, 1) := by decide +kernel
theorem dX1_nearCell_0 : decode cX1_nearCell 0 = .ok (.iload_n 0, 1) := by decide +kernel
theorem dX1_nearCell_1 : decode cX1_nearCell 1 = .ok (.bipush 6, 2) := by decide +kernel
theorem dX1_nearCell_3 : decode cX1_nearCell 3 = .ok (.irem, 1) := by decide +kernel
theorem dX1_nearCell_4 : decode cX1_nearCell 4 = .ok (.istore_n 2, 1) := by decide +kernel
theorem dX1_nearCell_5 : decode cX1_nearCell 5 = .ok (.iload_n 1, 1) := by decide +kernel
theorem dX1_nearCell_6 : decode cX1_nearCell 6 = .ok (.tableswitch 73 0 4 #[34, 36, 41, 46, 59], 34) := by decide +kernel
theorem dX1_nearCell_40 : decode cX1_nearCell 40 = .ok (.iload_n 0, 1) := by decide +kernel
theorem dX1_nearCell_41 : decode cX1_nearCell 41 = .ok (.ireturn, 1) := by decide +kernel
theorem dX1_nearCell_42 : decode cX1_nearCell 42 = .ok (.iload_n 0, 1) := by decide +kernel
theorem dX1_nearCell_43 : decode cX1_nearCell 43 = .ok (.bipush 6, 2) := by decide +kernel
theorem dX1_nearCell_45 : decode cX1_nearCell 45 = .ok (.isub, 1) := by decide +kernel
theorem dX1_nearCell_46 : decode cX1_nearCell 46 = .ok (.ireturn, 1) := by decide +kernel
theorem dX1_nearCell_47 : decode cX1_nearCell 47 = .ok (.iload_n 0, 1) := by decide +kernel
theorem dX1_nearCell_48 : decode cX1_nearCell 48 = .ok (.bipush 6, 2) := by decide +kernel
theorem dX1_nearCell_50 : decode cX1_nearCell 50 = .ok (.iadd, 1) := by decide +kernel
theorem dX1_nearCell_51 : decode cX1_nearCell 51 = .ok (.ireturn, 1) := by decide +kernel
theorem dX1_nearCell_52 : decode cX1_nearCell 52 = .ok (.iload_n 2, 1) := by decide +kernel
theorem dX1_nearCell_53 : decode cX1_nearCell 53 = .ok (.ifCond .ne 8, 3) := by decide +kernel
theorem dX1_nearCell_56 : decode cX1_nearCell 56 = .ok (.ldc 78, 2) := by decide +kernel
theorem dX1_nearCell_58 : decode cX1_nearCell 58 = .ok (.goto 6, 3) := by decide +kernel
theorem dX1_nearCell_61 : decode cX1_nearCell 61 = .ok (.iload_n 0, 1) := by decide +kernel
theorem dX1_nearCell_62 : decode cX1_nearCell 62 = .ok (.iconst 1, 1) := by decide +kernel
theorem dX1_nearCell_63 : decode cX1_nearCell 63 = .ok (.isub, 1) := by decide +kernel
theorem dX1_nearCell_64 : decode cX1_nearCell 64 = .ok (.ireturn, 1) := by decide +kernel
theorem dX1_nearCell_65 : decode cX1_nearCell 65 = .ok (.iload_n 2, 1) := by decide +kernel
theorem dX1_nearCell_66 : decode cX1_nearCell 66 = .ok (.iconst 5, 1) := by decide +kernel
theorem dX1_nearCell_67 : decode cX1_nearCell 67 = .ok (.if_icmp .ne 8, 3) := by decide +kernel
theorem dX1_nearCell_70 : decode cX1_nearCell 70 = .ok (.ldc 78, 2) := by decide +kernel
theorem dX1_nearCell_72 : decode cX1_nearCell 72 = .ok (.goto 6, 3) := by decide +kernel
theorem dX1_nearCell_75 : decode cX1_nearCell 75 = .ok (.iload_n 0, 1) := by decide +kernel
theorem dX1_nearCell_76 : decode cX1_nearCell 76 = .ok (.iconst 1, 1) := by decide +kernel
theorem dX1_nearCell_77 : decode cX1_nearCell 77 = .ok (.iadd, 1) := by decide +kernel
theorem dX1_nearCell_78 : decode cX1_nearCell 78 = .ok (.ireturn, 1) := by decide +kernel
theorem dX1_nearCell_79 : decode cX1_nearCell 79 = .ok (.ldc 78, 2) := by decide +kernel
theorem dX1_nearCell_81 : decode cX1_nearCell 81 = .ok (.ireturn, 1) := by decide +kernel
set_option maxRecDepth 20000 in
theorem ggX1_addShares_X1_isCell : GoodIn wsX1_addShares wsX1_isCell := goodIn_r _ [4] (by decide +kernel) (by decide +kernel)
set_option maxRecDepth 20000 in
theorem gX1_addShares_X1_isCell : GoodIn wsX1_addShares (va_wsS RX1 37 yX1_isCell wsX1_isCell) := goodIn_app (goodIn_of _ (by decide +kernel)) ggX1_addShares_X1_isCell
set_option maxRecDepth 20000 in
theorem ggX1_addShares_X1_nearCell : GoodIn wsX1_addShares wsX1_nearCell := goodIn_r _ [7, 8] (by decide +kernel) (by decide +kernel)
set_option maxRecDepth 20000 in
theorem gX1_addShares_X1_nearCell : GoodIn wsX1_addShares (va_wsS RX1 195 yX1_nearCell wsX1_nearCell) := goodIn_app (goodIn_of _ (by decide +kernel)) ggX1_addShares_X1_nearCell
theorem dX1_addShares_0 : decode cX1_addShares 0 = .ok (.iload_n 2, 1) := by decide +kernel
theorem dX1_addShares_1 : decode cX1_addShares 1 = .ok (.invokestatic 37, 3) := by decide +kernel
theorem dX1_addShares_4 : decode cX1_addShares 4 = .ok (.ifCond .ne 4, 3) := by decide +kernel
theorem dX1_addShares_7 : decode cX1_addShares 7 = .ok (.return_, 1) := by decide +kernel
theorem dX1_addShares_8 : decode cX1_addShares 8 = .ok (.iload_n 1, 1) := by decide +kernel
theorem dX1_addShares_9 : decode cX1_addShares 9 = .ok (.bipush 8, 2) := by decide +kernel
theorem dX1_addShares_11 : decode cX1_addShares 11 = .ok (.idiv, 1) := by decide +kernel
theorem dX1_addShares_12 : decode cX1_addShares 12 = .ok (.istore_n 3, 1) := by decide +kernel
theorem dX1_addShares_13 : decode cX1_addShares 13 = .ok (.iload_n 1, 1) := by decide +kernel
theorem dX1_addShares_14 : decode cX1_addShares 14 = .ok (.istore 4, 2) := by decide +kernel
theorem dX1_addShares_16 : decode cX1_addShares 16 = .ok (.iconst 1, 1) := by decide +kernel
theorem dX1_addShares_17 : decode cX1_addShares 17 = .ok (.istore 5, 2) := by decide +kernel
theorem dX1_addShares_19 : decode cX1_addShares 19 = .ok (.iload 5, 2) := by decide +kernel
theorem dX1_addShares_21 : decode cX1_addShares 21 = .ok (.iconst 5, 1) := by decide +kernel
theorem dX1_addShares_22 : decode cX1_addShares 22 = .ok (.if_icmp .ge 39, 3) := by decide +kernel
theorem dX1_addShares_25 : decode cX1_addShares 25 = .ok (.iload_n 2, 1) := by decide +kernel
theorem dX1_addShares_26 : decode cX1_addShares 26 = .ok (.iload 5, 2) := by decide +kernel
theorem dX1_addShares_28 : decode cX1_addShares 28 = .ok (.invokestatic 195, 3) := by decide +kernel
theorem dX1_addShares_31 : decode cX1_addShares 31 = .ok (.istore 6, 2) := by decide +kernel
theorem dX1_addShares_33 : decode cX1_addShares 33 = .ok (.iload 6, 2) := by decide +kernel
theorem dX1_addShares_35 : decode cX1_addShares 35 = .ok (.invokestatic 37, 3) := by decide +kernel
theorem dX1_addShares_38 : decode cX1_addShares 38 = .ok (.ifCond .eq 17, 3) := by decide +kernel
theorem dX1_addShares_41 : decode cX1_addShares 41 = .ok (.aload_n 0, 1) := by decide +kernel
theorem dX1_addShares_42 : decode cX1_addShares 42 = .ok (.iload 6, 2) := by decide +kernel
theorem dX1_addShares_44 : decode cX1_addShares 44 = .ok (.dup2, 1) := by decide +kernel
theorem dX1_addShares_45 : decode cX1_addShares 45 = .ok (.iaload, 1) := by decide +kernel
theorem dX1_addShares_46 : decode cX1_addShares 46 = .ok (.iload_n 3, 1) := by decide +kernel
theorem dX1_addShares_47 : decode cX1_addShares 47 = .ok (.iadd, 1) := by decide +kernel
theorem dX1_addShares_48 : decode cX1_addShares 48 = .ok (.iastore, 1) := by decide +kernel
theorem dX1_addShares_49 : decode cX1_addShares 49 = .ok (.iload 4, 2) := by decide +kernel
theorem dX1_addShares_51 : decode cX1_addShares 51 = .ok (.iload_n 3, 1) := by decide +kernel
theorem dX1_addShares_52 : decode cX1_addShares 52 = .ok (.isub, 1) := by decide +kernel
theorem dX1_addShares_53 : decode cX1_addShares 53 = .ok (.istore 4, 2) := by decide +kernel
theorem dX1_addShares_55 : decode cX1_addShares 55 = .ok (.iinc 5 1, 3) := by decide +kernel
theorem dX1_addShares_58 : decode cX1_addShares 58 = .ok (.goto (-39), 3) := by decide +kernel
theorem dX1_addShares_61 : decode cX1_addShares 61 = .ok (.aload_n 0, 1) := by decide +kernel
theorem dX1_addShares_62 : decode cX1_addShares 62 = .ok (.iload_n 2, 1) := by decide +kernel
theorem dX1_addShares_63 : decode cX1_addShares 63 = .ok (.dup2, 1) := by decide +kernel
theorem dX1_addShares_64 : decode cX1_addShares 64 = .ok (.iaload, 1) := by decide +kernel
theorem dX1_addShares_65 : decode cX1_addShares 65 = .ok (.iload 4, 2) := by decide +kernel
theorem dX1_addShares_67 : decode cX1_addShares 67 = .ok (.iadd, 1) := by decide +kernel
theorem dX1_addShares_68 : decode cX1_addShares 68 = .ok (.iastore, 1) := by decide +kernel
theorem dX1_addShares_69 : decode cX1_addShares 69 = .ok (.return_, 1) := by decide +kernel
set_option maxRecDepth 20000 in
theorem ggX1_addAllShares_X1_addShares : GoodIn wsX1_addAllShares wsX1_addShares := goodIn_r _ [4, 5, 6, 3, 7, 8, 9, 10, 11] (by decide +kernel) (by decide +kernel)
set_option maxRecDepth 20000 in
theorem gX1_addAllShares_X1_addShares : GoodIn wsX1_addAllShares (va_wsS RX1 198 yX1_addShares wsX1_addShares) := goodIn_app (goodIn_of _ (by decide +kernel)) ggX1_addAllShares_X1_addShares
theorem dX1_addAllShares_0 : decode cX1_addAllShares 0 = .ok (.iconst 0, 1) := by decide +kernel
theorem dX1_addAllShares_1 : decode cX1_addAllShares 1 = .ok (.istore_n 3, 1) := by decide +kernel
theorem dX1_addAllShares_2 : decode cX1_addAllShares 2 = .ok (.iload_n 3, 1) := by decide +kernel
theorem dX1_addAllShares_3 : decode cX1_addAllShares 3 = .ok (.bipush 8, 2) := by decide +kernel
theorem dX1_addAllShares_5 : decode cX1_addAllShares 5 = .ok (.if_icmp .ge 19, 3) := by decide +kernel
theorem dX1_addAllShares_8 : decode cX1_addAllShares 8 = .ok (.aload_n 0, 1) := by decide +kernel
theorem dX1_addAllShares_9 : decode cX1_addAllShares 9 = .ok (.aload_n 1, 1) := by decide +kernel
theorem dX1_addAllShares_10 : decode cX1_addAllShares 10 = .ok (.iload_n 3, 1) := by decide +kernel
theorem dX1_addAllShares_11 : decode cX1_addAllShares 11 = .ok (.iaload, 1) := by decide +kernel
theorem dX1_addAllShares_12 : decode cX1_addAllShares 12 = .ok (.aload_n 2, 1) := by decide +kernel
theorem dX1_addAllShares_13 : decode cX1_addAllShares 13 = .ok (.iload_n 3, 1) := by decide +kernel
theorem dX1_addAllShares_14 : decode cX1_addAllShares 14 = .ok (.iaload, 1) := by decide +kernel
theorem dX1_addAllShares_15 : decode cX1_addAllShares 15 = .ok (.invokestatic 198, 3) := by decide +kernel
theorem dX1_addAllShares_18 : decode cX1_addAllShares 18 = .ok (.iinc 3 1, 3) := by decide +kernel
theorem dX1_addAllShares_21 : decode cX1_addAllShares 21 = .ok (.goto (-19), 3) := by decide +kernel
theorem dX1_addAllShares_24 : decode cX1_addAllShares 24 = .ok (.return_, 1) := by decide +kernel
set_option maxRecDepth 20000 in
theorem ggX1_weighAll_X1_copyRow : GoodIn wsX1_weighAll wsX1_copyRow := goodIn_r _ [9, 10, 11, 12, 13, 14, 15, 16, 17] (by decide +kernel) (by decide +kernel)
set_option maxRecDepth 20000 in
theorem gX1_weighAll_X1_copyRow : GoodIn wsX1_weighAll (va_wsS RX1 180 yX1_copyRow wsX1_copyRow) := goodIn_app (goodIn_of _ (by decide +kernel)) ggX1_weighAll_X1_copyRow
set_option maxRecDepth 20000 in
theorem ggX1_weighAll_X1_addAllShares : GoodIn wsX1_weighAll wsX1_addAllShares := goodIn_r _ [20, 21, 22, 8, 23, 24, 25, 26, 27, 28, 29, 30] (by decide +kernel) (by decide +kernel)
set_option maxRecDepth 20000 in
theorem gX1_weighAll_X1_addAllShares : GoodIn wsX1_weighAll (va_wsS RX1 201 yX1_addAllShares wsX1_addAllShares) := goodIn_app (goodIn_of _ (by decide +kernel)) ggX1_weighAll_X1_addAllShares
theorem dX1_weighAll_0 : decode cX1_weighAll 0 = .ok (.aload_n 0, 1) := by decide +kernel
theorem dX1_weighAll_1 : decode cX1_weighAll 1 = .ok (.getfield 10, 3) := by decide +kernel
theorem dX1_weighAll_4 : decode cX1_weighAll 4 = .ok (.getfield 56, 3) := by decide +kernel
theorem dX1_weighAll_7 : decode cX1_weighAll 7 = .ok (.aload_n 0, 1) := by decide +kernel
theorem dX1_weighAll_8 : decode cX1_weighAll 8 = .ok (.getfield 27, 3) := by decide +kernel
theorem dX1_weighAll_11 : decode cX1_weighAll 11 = .ok (.invokestatic 180, 3) := by decide +kernel
theorem dX1_weighAll_14 : decode cX1_weighAll 14 = .ok (.aload_n 0, 1) := by decide +kernel
theorem dX1_weighAll_15 : decode cX1_weighAll 15 = .ok (.getfield 27, 3) := by decide +kernel
theorem dX1_weighAll_18 : decode cX1_weighAll 18 = .ok (.aload_n 0, 1) := by decide +kernel
theorem dX1_weighAll_19 : decode cX1_weighAll 19 = .ok (.getfield 10, 3) := by decide +kernel
theorem dX1_weighAll_22 : decode cX1_weighAll 22 = .ok (.getfield 83, 3) := by decide +kernel
theorem dX1_weighAll_25 : decode cX1_weighAll 25 = .ok (.aload_n 0, 1) := by decide +kernel
theorem dX1_weighAll_26 : decode cX1_weighAll 26 = .ok (.getfield 10, 3) := by decide +kernel
theorem dX1_weighAll_29 : decode cX1_weighAll 29 = .ok (.getfield 71, 3) := by decide +kernel
theorem dX1_weighAll_32 : decode cX1_weighAll 32 = .ok (.invokestatic 201, 3) := by decide +kernel
theorem dX1_weighAll_35 : decode cX1_weighAll 35 = .ok (.return_, 1) := by decide +kernel
set_option maxRecDepth 20000 in
theorem ggX1_expectAll_X1_copyRow : GoodIn wsX1_expectAll wsX1_copyRow := goodIn_r _ [8, 9, 10, 11, 12, 13, 14, 15, 16] (by decide +kernel) (by decide +kernel)
set_option maxRecDepth 20000 in
theorem gX1_expectAll_X1_copyRow : GoodIn wsX1_expectAll (va_wsS RX1 180 yX1_copyRow wsX1_copyRow) := goodIn_app (goodIn_of _ (by decide +kernel)) ggX1_expectAll_X1_copyRow
set_option maxRecDepth 20000 in
theorem ggX1_expectAll_X1_addAllShares : GoodIn wsX1_expectAll wsX1_addAllShares := goodIn_r _ [19, 20, 21, 7, 22, 23, 24, 25, 26, 27, 28, 29] (by decide +kernel) (by decide +kernel)
set_option maxRecDepth 20000 in
theorem gX1_expectAll_X1_addAllShares : GoodIn wsX1_expectAll (va_wsS RX1 201 yX1_addAllShares wsX1_addAllShares) := goodIn_app (goodIn_of _ (by decide +kernel)) ggX1_expectAll_X1_addAllShares
theorem dX1_expectAll_0 : decode cX1_expectAll 0 = .ok (.aload_n 0, 1) := by decide +kernel
theorem dX1_expectAll_1 : decode cX1_expectAll 1 = .ok (.getfield 10, 3) := by decide +kernel
theorem dX1_expectAll_4 : decode cX1_expectAll 4 = .ok (.getfield 62, 3) := by decide +kernel
theorem dX1_expectAll_7 : decode cX1_expectAll 7 = .ok (.aload_n 0, 1) := by decide +kernel
theorem dX1_expectAll_8 : decode cX1_expectAll 8 = .ok (.getfield 31, 3) := by decide +kernel
theorem dX1_expectAll_11 : decode cX1_expectAll 11 = .ok (.invokestatic 180, 3) := by decide +kernel
theorem dX1_expectAll_14 : decode cX1_expectAll 14 = .ok (.aload_n 0, 1) := by decide +kernel
theorem dX1_expectAll_15 : decode cX1_expectAll 15 = .ok (.getfield 31, 3) := by decide +kernel
theorem dX1_expectAll_18 : decode cX1_expectAll 18 = .ok (.aload_n 0, 1) := by decide +kernel
theorem dX1_expectAll_19 : decode cX1_expectAll 19 = .ok (.getfield 10, 3) := by decide +kernel
theorem dX1_expectAll_22 : decode cX1_expectAll 22 = .ok (.getfield 86, 3) := by decide +kernel
theorem dX1_expectAll_25 : decode cX1_expectAll 25 = .ok (.aload_n 1, 1) := by decide +kernel
theorem dX1_expectAll_26 : decode cX1_expectAll 26 = .ok (.invokestatic 201, 3) := by decide +kernel
theorem dX1_expectAll_29 : decode cX1_expectAll 29 = .ok (.return_, 1) := by decide +kernel
set_option maxRecDepth 20000 in
theorem ggX1_earliestTare_X1_nearCell : GoodIn wsX1_earliestTare wsX1_nearCell := goodIn_r _ [11, 12] (by decide +kernel) (by decide +kernel)
set_option maxRecDepth 20000 in
theorem gX1_earliestTare_X1_nearCell : GoodIn wsX1_earliestTare (va_wsS RX1 195 yX1_nearCell wsX1_nearCell) := goodIn_app (goodIn_of _ (by decide +kernel)) ggX1_earliestTare_X1_nearCell
set_option maxRecDepth 20000 in
theorem ggX1_earliestTare_X1_isCell : GoodIn wsX1_earliestTare wsX1_isCell := goodIn_r _ [15] (by decide +kernel) (by decide +kernel)
set_option maxRecDepth 20000 in
theorem gX1_earliestTare_X1_isCell : GoodIn wsX1_earliestTare (va_wsS RX1 37 yX1_isCell wsX1_isCell) := goodIn_app (goodIn_of _ (by decide +kernel)) ggX1_earliestTare_X1_isCell
theorem dX1_earliestTare_0 : decode cX1_earliestTare 0 = .ok (.aload_n 0, 1) := by decide +kernel
theorem dX1_earliestTare_1 : decode cX1_earliestTare 1 = .ok (.getfield 10, 3) := by decide +kernel
theorem dX1_earliestTare_4 : decode cX1_earliestTare 4 = .ok (.getfield 52, 3) := by decide +kernel
theorem dX1_earliestTare_7 : decode cX1_earliestTare 7 = .ok (.istore_n 2, 1) := by decide +kernel
theorem dX1_earliestTare_8 : decode cX1_earliestTare 8 = .ok (.iconst 0, 1) := by decide +kernel
theorem dX1_earliestTare_9 : decode cX1_earliestTare 9 = .ok (.istore_n 3, 1) := by decide +kernel
theorem dX1_earliestTare_10 : decode cX1_earliestTare 10 = .ok (.iload_n 3, 1) := by decide +kernel
theorem dX1_earliestTare_11 : decode cX1_earliestTare 11 = .ok (.iconst 5, 1) := by decide +kernel
theorem dX1_earliestTare_12 : decode cX1_earliestTare 12 = .ok (.if_icmp .ge 39, 3) := by decide +kernel
theorem dX1_earliestTare_15 : decode cX1_earliestTare 15 = .ok (.iload_n 1, 1) := by decide +kernel
theorem dX1_earliestTare_16 : decode cX1_earliestTare 16 = .ok (.iload_n 3, 1) := by decide +kernel
theorem dX1_earliestTare_17 : decode cX1_earliestTare 17 = .ok (.invokestatic 195, 3) := by decide +kernel
theorem dX1_earliestTare_20 : decode cX1_earliestTare 20 = .ok (.istore 4, 2) := by decide +kernel
theorem dX1_earliestTare_22 : decode cX1_earliestTare 22 = .ok (.iload 4, 2) := by decide +kernel
theorem dX1_earliestTare_24 : decode cX1_earliestTare 24 = .ok (.invokestatic 37, 3) := by decide +kernel
theorem dX1_earliestTare_27 : decode cX1_earliestTare 27 = .ok (.ifCond .eq 18, 3) := by decide +kernel
theorem dX1_earliestTare_30 : decode cX1_earliestTare 30 = .ok (.iload_n 2, 1) := by decide +kernel
theorem dX1_earliestTare_31 : decode cX1_earliestTare 31 = .ok (.aload_n 0, 1) := by decide +kernel
theorem dX1_earliestTare_32 : decode cX1_earliestTare 32 = .ok (.getfield 10, 3) := by decide +kernel
theorem dX1_earliestTare_35 : decode cX1_earliestTare 35 = .ok (.getfield 65, 3) := by decide +kernel
theorem dX1_earliestTare_38 : decode cX1_earliestTare 38 = .ok (.iload 4, 2) := by decide +kernel
theorem dX1_earliestTare_40 : decode cX1_earliestTare 40 = .ok (.iaload, 1) := by decide +kernel
theorem dX1_earliestTare_41 : decode cX1_earliestTare 41 = .ok (.invokestatic 205, 3) := by decide +kernel
theorem dX1_earliestTare_44 : decode cX1_earliestTare 44 = .ok (.istore_n 2, 1) := by decide +kernel
theorem dX1_earliestTare_45 : decode cX1_earliestTare 45 = .ok (.iinc 3 1, 3) := by decide +kernel
theorem dX1_earliestTare_48 : decode cX1_earliestTare 48 = .ok (.goto (-38), 3) := by decide +kernel
theorem dX1_earliestTare_51 : decode cX1_earliestTare 51 = .ok (.iload_n 2, 1) := by decide +kernel
theorem dX1_earliestTare_52 : decode cX1_earliestTare 52 = .ok (.ireturn, 1) := by decide +kernel
set_option maxRecDepth 20000 in
theorem ggX1_sumOfReadings_X1_weighAll : GoodIn wsX1_sumOfReadings wsX1_weighAll := goodIn_r _ [6, 7, 8, 1, 9, 10, 11, 12, 5, 13, 14, 15, 16, 17, 18, 19, 20, 21, 22, 23, 24, 25, 26, 27, 28, 29, 30, 31, 32, 33, 34, 38, 39, 40, 41, 42, 43, 44, 45, 46, 47, 48, 49, 50, 51, 52, 53, 54, 55, 56, 57, 58, 59] (by decide +kernel) (by decide +kernel)
set_option maxRecDepth 20000 in
theorem gX1_sumOfReadings_X1_weighAll : GoodIn wsX1_sumOfReadings (wsV RX1 59 RX1 yX1_weighAll wsX1_weighAll) := goodIn_app (goodIn_of _ (by decide +kernel)) ggX1_sumOfReadings_X1_weighAll
set_option maxRecDepth 20000 in
theorem ggX1_sumOfReadings_X1_sumOf : GoodIn wsX1_sumOfReadings wsX1_sumOf := goodIn_r _ [37] (by decide +kernel) (by decide +kernel)
set_option maxRecDepth 20000 in
theorem gX1_sumOfReadings_X1_sumOf : GoodIn wsX1_sumOfReadings (va_wsS RX1 152 yX1_sumOf wsX1_sumOf) := goodIn_app (goodIn_of _ (by decide +kernel)) ggX1_sumOfReadings_X1_sumOf
theorem dX1_sumOfReadings_0 : decode cX1_sumOfReadings 0 = .ok (.aload_n 0, 1) := by decide +kernel
theorem dX1_sumOfReadings_1 : decode cX1_sumOfReadings 1 = .ok (.invokevirtual 59, 3) := by decide +kernel
theorem dX1_sumOfReadings_4 : decode cX1_sumOfReadings 4 = .ok (.aload_n 0, 1) := by decide +kernel
theorem dX1_sumOfReadings_5 : decode cX1_sumOfReadings 5 = .ok (.getfield 27, 3) := by decide +kernel
theorem dX1_sumOfReadings_8 : decode cX1_sumOfReadings 8 = .ok (.invokestatic 152, 3) := by decide +kernel
theorem dX1_sumOfReadings_11 : decode cX1_sumOfReadings 11 = .ok (.ireturn, 1) := by decide +kernel
theorem dX1_whoIsOn_0 : decode cX1_whoIsOn 0 = .ok (.iconst 0, 1) := by decide +kernel
theorem dX1_whoIsOn_1 : decode cX1_whoIsOn 1 = .ok (.istore_n 2, 1) := by decide +kernel
theorem dX1_whoIsOn_2 : decode cX1_whoIsOn 2 = .ok (.iload_n 2, 1) := by decide +kernel
theorem dX1_whoIsOn_3 : decode cX1_whoIsOn 3 = .ok (.bipush 8, 2) := by decide +kernel
theorem dX1_whoIsOn_5 : decode cX1_whoIsOn 5 = .ok (.if_icmp .ge 18, 3) := by decide +kernel
theorem dX1_whoIsOn_8 : decode cX1_whoIsOn 8 = .ok (.aload_n 0, 1) := by decide +kernel
theorem dX1_whoIsOn_9 : decode cX1_whoIsOn 9 = .ok (.iload_n 2, 1) := by decide +kernel
theorem dX1_whoIsOn_10 : decode cX1_whoIsOn 10 = .ok (.iaload, 1) := by decide +kernel
end
section
theorem dX1_whoIsOn_11 : decode cX1_whoIsOn 11 = .ok (.iload_n 1, 1) := by decide +kernel
theorem dX1_whoIsOn_12 : decode cX1_whoIsOn 12 = .ok (.if_icmp .ne 5, 3) := by decide +kernel
theorem dX1_whoIsOn_15 : decode cX1_whoIsOn 15 = .ok (.iload_n 2, 1) := by decide +kernel
theorem dX1_whoIsOn_16 : decode cX1_whoIsOn 16 = .ok (.ireturn, 1) := by decide +kernel
theorem dX1_whoIsOn_17 : decode cX1_whoIsOn 17 = .ok (.iinc 2 1, 3) := by decide +kernel
theorem dX1_whoIsOn_20 : decode cX1_whoIsOn 20 = .ok (.goto (-18), 3) := by decide +kernel
theorem dX1_whoIsOn_23 : decode cX1_whoIsOn 23 = .ok (.ldc 78, 2) := by decide +kernel
theorem dX1_whoIsOn_25 : decode cX1_whoIsOn 25 = .ok (.ireturn, 1) := by decide +kernel
theorem dX1_exchange_0 : decode cX1_exchange 0 = .ok (.aload_n 0, 1) := by decide +kernel
theorem dX1_exchange_1 : decode cX1_exchange 1 = .ok (.iload_n 1, 1) := by decide +kernel
theorem dX1_exchange_2 : decode cX1_exchange 2 = .ok (.iaload, 1) := by decide +kernel
theorem dX1_exchange_3 : decode cX1_exchange 3 = .ok (.istore_n 3, 1) := by decide +kernel
theorem dX1_exchange_4 : decode cX1_exchange 4 = .ok (.aload_n 0, 1) := by decide +kernel
theorem dX1_exchange_5 : decode cX1_exchange 5 = .ok (.iload_n 1, 1) := by decide +kernel
theorem dX1_exchange_6 : decode cX1_exchange 6 = .ok (.aload_n 0, 1) := by decide +kernel
theorem dX1_exchange_7 : decode cX1_exchange 7 = .ok (.iload_n 2, 1) := by decide +kernel
theorem dX1_exchange_8 : decode cX1_exchange 8 = .ok (.iaload, 1) := by decide +kernel
theorem dX1_exchange_9 : decode cX1_exchange 9 = .ok (.iastore, 1) := by decide +kernel
theorem dX1_exchange_10 : decode cX1_exchange 10 = .ok (.aload_n 0, 1) := by decide +kernel
theorem dX1_exchange_11 : decode cX1_exchange 11 = .ok (.iload_n 2, 1) := by decide +kernel
theorem dX1_exchange_12 : decode cX1_exchange 12 = .ok (.iload_n 3, 1) := by decide +kernel
theorem dX1_exchange_13 : decode cX1_exchange 13 = .ok (.iastore, 1) := by decide +kernel
theorem dX1_exchange_14 : decode cX1_exchange 14 = .ok (.return_, 1) := by decide +kernel
set_option maxRecDepth 20000 in
theorem ggX1_exchangePair_X1_isPair : GoodIn wsX1_exchangePair wsX1_isPair := goodIn_r _ [5, 6, 7, 8, 4, 9, 10, 11, 15, 16, 17, 18, 19, 20, 21, 22, 23, 24, 25, 26, 27, 28, 29, 30, 31, 32, 33, 34, 35, 36] (by decide +kernel) (by decide +kernel)
set_option maxRecDepth 20000 in
theorem gX1_exchangePair_X1_isPair : GoodIn wsX1_exchangePair (wsV RX1 98 RX1 yX1_isPair wsX1_isPair) := goodIn_app (goodIn_of _ (by decide +kernel)) ggX1_exchangePair_X1_isPair
set_option maxRecDepth 20000 in
theorem ggX1_exchangePair_X1_exchange : GoodIn wsX1_exchangePair wsX1_exchange := goodIn_r _ [14] (by decide +kernel) (by decide +kernel)
set_option maxRecDepth 20000 in
theorem gX1_exchangePair_X1_exchange : GoodIn wsX1_exchangePair (va_wsS RX1 102 yX1_exchange wsX1_exchange) := goodIn_app (goodIn_of _ (by decide +kernel)) ggX1_exchangePair_X1_exchange
theorem dX1_exchangePair_0 : decode cX1_exchangePair 0 = .ok (.iload_n 2, 1) := by decide +kernel
theorem dX1_exchangePair_1 : decode cX1_exchangePair 1 = .ok (.bipush 10, 2) := by decide +kernel
theorem dX1_exchangePair_3 : decode cX1_exchangePair 3 = .ok (.idiv, 1) := by decide +kernel
theorem dX1_exchangePair_4 : decode cX1_exchangePair 4 = .ok (.istore_n 3, 1) := by decide +kernel
theorem dX1_exchangePair_5 : decode cX1_exchangePair 5 = .ok (.iload_n 2, 1) := by decide +kernel
theorem dX1_exchangePair_6 : decode cX1_exchangePair 6 = .ok (.bipush 10, 2) := by decide +kernel
theorem dX1_exchangePair_8 : decode cX1_exchangePair 8 = .ok (.irem, 1) := by decide +kernel
theorem dX1_exchangePair_9 : decode cX1_exchangePair 9 = .ok (.istore 4, 2) := by decide +kernel
theorem dX1_exchangePair_11 : decode cX1_exchangePair 11 = .ok (.aload_n 0, 1) := by decide +kernel
theorem dX1_exchangePair_12 : decode cX1_exchangePair 12 = .ok (.iload_n 3, 1) := by decide +kernel
theorem dX1_exchangePair_13 : decode cX1_exchangePair 13 = .ok (.iload 4, 2) := by decide +kernel
theorem dX1_exchangePair_15 : decode cX1_exchangePair 15 = .ok (.invokevirtual 98, 3) := by decide +kernel
theorem dX1_exchangePair_18 : decode cX1_exchangePair 18 = .ok (.ifCond .eq 10, 3) := by decide +kernel
theorem dX1_exchangePair_21 : decode cX1_exchangePair 21 = .ok (.aload_n 1, 1) := by decide +kernel
theorem dX1_exchangePair_22 : decode cX1_exchangePair 22 = .ok (.iload_n 3, 1) := by decide +kernel
theorem dX1_exchangePair_23 : decode cX1_exchangePair 23 = .ok (.iload 4, 2) := by decide +kernel
theorem dX1_exchangePair_25 : decode cX1_exchangePair 25 = .ok (.invokestatic 102, 3) := by decide +kernel
theorem dX1_exchangePair_28 : decode cX1_exchangePair 28 = .ok (.return_, 1) := by decide +kernel
set_option maxRecDepth 20000 in
theorem ggX1_errorWith_X1_weighAll : GoodIn wsX1_errorWith wsX1_weighAll := goodIn_r _ [11, 12, 13, 1, 14, 15, 16, 17, 10, 18, 19, 20, 5, 21, 22, 23, 24, 25, 26, 27, 28, 29, 30, 31, 32, 33, 34, 35, 36, 37, 38, 45, 46, 47, 48, 49, 50, 51, 52, 53, 54, 55, 56, 57, 58, 59, 60, 61, 62, 63, 64, 65, 66] (by decide +kernel) (by decide +kernel)
set_option maxRecDepth 20000 in
theorem gX1_errorWith_X1_weighAll : GoodIn wsX1_errorWith (wsV RX1 59 RX1 yX1_weighAll wsX1_weighAll) := goodIn_app (goodIn_of _ (by decide +kernel)) ggX1_errorWith_X1_weighAll
set_option maxRecDepth 20000 in
theorem ggX1_errorWith_X1_expectAll : GoodIn wsX1_errorWith wsX1_expectAll := goodIn_r _ [42, 12, 43, 2, 44, 16, 17, 10, 18, 19, 20, 5, 21, 22, 23, 24, 25, 26, 27, 28, 29, 30, 31, 32, 33, 34, 35, 36, 37, 38, 45, 46, 47, 48, 49, 50, 51, 52, 53, 54, 55, 56, 57, 58, 59, 60, 61, 62, 63, 64, 65, 66] (by decide +kernel) (by decide +kernel)
set_option maxRecDepth 20000 in
theorem gX1_errorWith_X1_expectAll : GoodIn wsX1_errorWith (wsV RX1 167 RX1 yX1_expectAll wsX1_expectAll) := goodIn_app (goodIn_of _ (by decide +kernel)) ggX1_errorWith_X1_expectAll
theorem dX1_errorWith_0 : decode cX1_errorWith 0 = .ok (.aload_n 0, 1) := by decide +kernel
theorem dX1_errorWith_1 : decode cX1_errorWith 1 = .ok (.invokevirtual 59, 3) := by decide +kernel
theorem dX1_errorWith_4 : decode cX1_errorWith 4 = .ok (.aload_n 0, 1) := by decide +kernel
theorem dX1_errorWith_5 : decode cX1_errorWith 5 = .ok (.aload_n 1, 1) := by decide +kernel
theorem dX1_errorWith_6 : decode cX1_errorWith 6 = .ok (.invokevirtual 167, 3) := by decide +kernel
theorem dX1_errorWith_9 : decode cX1_errorWith 9 = .ok (.iconst 0, 1) := by decide +kernel
theorem dX1_errorWith_10 : decode cX1_errorWith 10 = .ok (.istore_n 2, 1) := by decide +kernel
theorem dX1_errorWith_11 : decode cX1_errorWith 11 = .ok (.iconst 0, 1) := by decide +kernel
theorem dX1_errorWith_12 : decode cX1_errorWith 12 = .ok (.istore_n 3, 1) := by decide +kernel
theorem dX1_errorWith_13 : decode cX1_errorWith 13 = .ok (.iload_n 3, 1) := by decide +kernel
theorem dX1_errorWith_14 : decode cX1_errorWith 14 = .ok (.bipush 24, 2) := by decide +kernel
theorem dX1_errorWith_16 : decode cX1_errorWith 16 = .ok (.if_icmp .ge 28, 3) := by decide +kernel
theorem dX1_errorWith_19 : decode cX1_errorWith 19 = .ok (.iload_n 2, 1) := by decide +kernel
theorem dX1_errorWith_20 : decode cX1_errorWith 20 = .ok (.aload_n 0, 1) := by decide +kernel
theorem dX1_errorWith_21 : decode cX1_errorWith 21 = .ok (.getfield 27, 3) := by decide +kernel
theorem dX1_errorWith_24 : decode cX1_errorWith 24 = .ok (.iload_n 3, 1) := by decide +kernel
theorem dX1_errorWith_25 : decode cX1_errorWith 25 = .ok (.iaload, 1) := by decide +kernel
theorem dX1_errorWith_26 : decode cX1_errorWith 26 = .ok (.aload_n 0, 1) := by decide +kernel
theorem dX1_errorWith_27 : decode cX1_errorWith 27 = .ok (.getfield 31, 3) := by decide +kernel
theorem dX1_errorWith_30 : decode cX1_errorWith 30 = .ok (.iload_n 3, 1) := by decide +kernel
theorem dX1_errorWith_31 : decode cX1_errorWith 31 = .ok (.iaload, 1) := by decide +kernel
theorem dX1_errorWith_32 : decode cX1_errorWith 32 = .ok (.isub, 1) := by decide +kernel
theorem dX1_errorWith_33 : decode cX1_errorWith 33 = .ok (.invokestatic 208, 3) := by decide +kernel
theorem dX1_errorWith_36 : decode cX1_errorWith 36 = .ok (.iadd, 1) := by decide +kernel
theorem dX1_errorWith_37 : decode cX1_errorWith 37 = .ok (.istore_n 2, 1) := by decide +kernel
theorem dX1_errorWith_38 : decode cX1_errorWith 38 = .ok (.iinc 3 1, 3) := by decide +kernel
theorem dX1_errorWith_41 : decode cX1_errorWith 41 = .ok (.goto (-28), 3) := by decide +kernel
theorem dX1_errorWith_44 : decode cX1_errorWith 44 = .ok (.iload_n 2, 1) := by decide +kernel
theorem dX1_errorWith_45 : decode cX1_errorWith 45 = .ok (.ireturn, 1) := by decide +kernel
set_option maxRecDepth 20000 in
theorem ggX1_bestExchange_X1_errorWith : GoodIn wsX1_bestExchange wsX1_errorWith := goodIn_r _ [6, 7, 8, 9, 10, 11, 12, 13, 14, 15, 5, 16, 17, 18, 19, 20, 21, 22, 23, 24, 25, 26, 27, 28, 29, 30, 31, 32, 33, 34, 35, 36, 37, 38, 39, 40, 41, 42, 1, 43, 44, 45, 46, 47, 48, 61, 62, 63, 64, 65, 66, 67, 68, 69, 70, 71, 72, 73, 74, 75, 76, 77, 78, 79, 80, 81, 82] (by decide +kernel) (by decide +kernel)
set_option maxRecDepth 20000 in
theorem gX1_bestExchange_X1_errorWith : GoodIn wsX1_bestExchange (wsV RX1 106 RX1 yX1_errorWith wsX1_errorWith) := goodIn_app (goodIn_of _ (by decide +kernel)) ggX1_bestExchange_X1_errorWith
set_option maxRecDepth 20000 in
theorem ggX1_bestExchange_X1_isAboard : GoodIn wsX1_bestExchange wsX1_isAboard := goodIn_r _ [52, 17, 20, 1, 53, 54, 55, 5, 56, 57, 61, 62, 63, 64, 65, 66, 67, 68, 69, 70, 71, 72, 73, 74, 75, 76, 77, 78, 79, 80, 81, 82] (by decide +kernel) (by decide +kernel)
set_option maxRecDepth 20000 in
theorem gX1_bestExchange_X1_isAboard : GoodIn wsX1_bestExchange (wsV RX1 95 RX1 yX1_isAboard wsX1_isAboard) := goodIn_app (goodIn_of _ (by decide +kernel)) ggX1_bestExchange_X1_isAboard
set_option maxRecDepth 20000 in
theorem ggX1_bestExchange_X1_exchange : GoodIn wsX1_bestExchange wsX1_exchange := goodIn_r _ [60] (by decide +kernel) (by decide +kernel)
set_option maxRecDepth 20000 in
theorem gX1_bestExchange_X1_exchange : GoodIn wsX1_bestExchange (va_wsS RX1 102 yX1_exchange wsX1_exchange) := goodIn_app (goodIn_of _ (by decide +kernel)) ggX1_bestExchange_X1_exchange
theorem dX1_bestExchange_0 : decode cX1_bestExchange 0 = .ok (.ldc 78, 2) := by decide +kernel
theorem dX1_bestExchange_2 : decode cX1_bestExchange 2 = .ok (.istore_n 2, 1) := by decide +kernel
theorem dX1_bestExchange_3 : decode cX1_bestExchange 3 = .ok (.aload_n 0, 1) := by decide +kernel
theorem dX1_bestExchange_4 : decode cX1_bestExchange 4 = .ok (.aload_n 1, 1) := by decide +kernel
theorem dX1_bestExchange_5 : decode cX1_bestExchange 5 = .ok (.invokevirtual 106, 3) := by decide +kernel
theorem dX1_bestExchange_8 : decode cX1_bestExchange 8 = .ok (.istore_n 3, 1) := by decide +kernel
theorem dX1_bestExchange_9 : decode cX1_bestExchange 9 = .ok (.iconst 0, 1) := by decide +kernel
theorem dX1_bestExchange_10 : decode cX1_bestExchange 10 = .ok (.istore 4, 2) := by decide +kernel
theorem dX1_bestExchange_12 : decode cX1_bestExchange 12 = .ok (.iload 4, 2) := by decide +kernel
theorem dX1_bestExchange_14 : decode cX1_bestExchange 14 = .ok (.bipush 8, 2) := by decide +kernel
theorem dX1_bestExchange_16 : decode cX1_bestExchange 16 = .ok (.if_icmp .ge 87, 3) := by decide +kernel
theorem dX1_bestExchange_19 : decode cX1_bestExchange 19 = .ok (.iload 4, 2) := by decide +kernel
theorem dX1_bestExchange_21 : decode cX1_bestExchange 21 = .ok (.iconst 1, 1) := by decide +kernel
theorem dX1_bestExchange_22 : decode cX1_bestExchange 22 = .ok (.iadd, 1) := by decide +kernel
theorem dX1_bestExchange_23 : decode cX1_bestExchange 23 = .ok (.istore 5, 2) := by decide +kernel
theorem dX1_bestExchange_25 : decode cX1_bestExchange 25 = .ok (.iload 5, 2) := by decide +kernel
theorem dX1_bestExchange_27 : decode cX1_bestExchange 27 = .ok (.bipush 8, 2) := by decide +kernel
theorem dX1_bestExchange_29 : decode cX1_bestExchange 29 = .ok (.if_icmp .ge 68, 3) := by decide +kernel
theorem dX1_bestExchange_32 : decode cX1_bestExchange 32 = .ok (.aload_n 0, 1) := by decide +kernel
theorem dX1_bestExchange_33 : decode cX1_bestExchange 33 = .ok (.iload 4, 2) := by decide +kernel
theorem dX1_bestExchange_35 : decode cX1_bestExchange 35 = .ok (.invokevirtual 95, 3) := by decide +kernel
theorem dX1_bestExchange_38 : decode cX1_bestExchange 38 = .ok (.ifCond .eq 53, 3) := by decide +kernel
theorem dX1_bestExchange_41 : decode cX1_bestExchange 41 = .ok (.aload_n 0, 1) := by decide +kernel
theorem dX1_bestExchange_42 : decode cX1_bestExchange 42 = .ok (.iload 5, 2) := by decide +kernel
theorem dX1_bestExchange_44 : decode cX1_bestExchange 44 = .ok (.invokevirtual 95, 3) := by decide +kernel
theorem dX1_bestExchange_47 : decode cX1_bestExchange 47 = .ok (.ifCond .eq 44, 3) := by decide +kernel
theorem dX1_bestExchange_50 : decode cX1_bestExchange 50 = .ok (.aload_n 1, 1) := by decide +kernel
theorem dX1_bestExchange_51 : decode cX1_bestExchange 51 = .ok (.iload 4, 2) := by decide +kernel
theorem dX1_bestExchange_53 : decode cX1_bestExchange 53 = .ok (.iload 5, 2) := by decide +kernel
theorem dX1_bestExchange_55 : decode cX1_bestExchange 55 = .ok (.invokestatic 102, 3) := by decide +kernel
theorem dX1_bestExchange_58 : decode cX1_bestExchange 58 = .ok (.aload_n 0, 1) := by decide +kernel
theorem dX1_bestExchange_59 : decode cX1_bestExchange 59 = .ok (.aload_n 1, 1) := by decide +kernel
theorem dX1_bestExchange_60 : decode cX1_bestExchange 60 = .ok (.invokevirtual 106, 3) := by decide +kernel
theorem dX1_bestExchange_63 : decode cX1_bestExchange 63 = .ok (.istore 6, 2) := by decide +kernel
theorem dX1_bestExchange_65 : decode cX1_bestExchange 65 = .ok (.aload_n 1, 1) := by decide +kernel
theorem dX1_bestExchange_66 : decode cX1_bestExchange 66 = .ok (.iload 4, 2) := by decide +kernel
theorem dX1_bestExchange_68 : decode cX1_bestExchange 68 = .ok (.iload 5, 2) := by decide +kernel
theorem dX1_bestExchange_70 : decode cX1_bestExchange 70 = .ok (.invokestatic 102, 3) := by decide +kernel
theorem dX1_bestExchange_73 : decode cX1_bestExchange 73 = .ok (.iload 6, 2) := by decide +kernel
theorem dX1_bestExchange_75 : decode cX1_bestExchange 75 = .ok (.iload_n 3, 1) := by decide +kernel
theorem dX1_bestExchange_76 : decode cX1_bestExchange 76 = .ok (.if_icmp .ge 15, 3) := by decide +kernel
theorem dX1_bestExchange_79 : decode cX1_bestExchange 79 = .ok (.iload 6, 2) := by decide +kernel
theorem dX1_bestExchange_81 : decode cX1_bestExchange 81 = .ok (.istore_n 3, 1) := by decide +kernel
theorem dX1_bestExchange_82 : decode cX1_bestExchange 82 = .ok (.bipush 10, 2) := by decide +kernel
theorem dX1_bestExchange_84 : decode cX1_bestExchange 84 = .ok (.iload 4, 2) := by decide +kernel
theorem dX1_bestExchange_86 : decode cX1_bestExchange 86 = .ok (.imul, 1) := by decide +kernel
theorem dX1_bestExchange_87 : decode cX1_bestExchange 87 = .ok (.iload 5, 2) := by decide +kernel
theorem dX1_bestExchange_89 : decode cX1_bestExchange 89 = .ok (.iadd, 1) := by decide +kernel
theorem dX1_bestExchange_90 : decode cX1_bestExchange 90 = .ok (.istore_n 2, 1) := by decide +kernel
theorem dX1_bestExchange_91 : decode cX1_bestExchange 91 = .ok (.iinc 5 1, 3) := by decide +kernel
theorem dX1_bestExchange_94 : decode cX1_bestExchange 94 = .ok (.goto (-69), 3) := by decide +kernel
theorem dX1_bestExchange_97 : decode cX1_bestExchange 97 = .ok (.iinc 4 1, 3) := by decide +kernel
theorem dX1_bestExchange_100 : decode cX1_bestExchange 100 = .ok (.goto (-88), 3) := by decide +kernel
theorem dX1_bestExchange_103 : decode cX1_bestExchange 103 = .ok (.iload_n 2, 1) := by decide +kernel
theorem dX1_bestExchange_104 : decode cX1_bestExchange 104 = .ok (.ireturn, 1) := by decide +kernel
set_option maxRecDepth 20000 in
theorem ggX1_walkersAboard_X1_isAboard : GoodIn wsX1_walkersAboard wsX1_isAboard := goodIn_r _ [5, 6, 7, 8, 9, 10, 11, 4, 12, 13, 14, 15, 16, 17, 18, 19, 20, 21, 22, 23, 24, 25, 26, 27, 28, 29, 30, 31, 32, 33, 34, 35] (by decide +kernel) (by decide +kernel)
set_option maxRecDepth 20000 in
theorem gX1_walkersAboard_X1_isAboard : GoodIn wsX1_walkersAboard (wsV RX1 95 RX1 yX1_isAboard wsX1_isAboard) := goodIn_app (goodIn_of _ (by decide +kernel)) ggX1_walkersAboard_X1_isAboard
theorem dX1_walkersAboard_0 : decode cX1_walkersAboard 0 = .ok (.iconst 0, 1) := by decide +kernel
theorem dX1_walkersAboard_1 : decode cX1_walkersAboard 1 = .ok (.istore_n 1, 1) := by decide +kernel
theorem dX1_walkersAboard_2 : decode cX1_walkersAboard 2 = .ok (.iconst 0, 1) := by decide +kernel
theorem dX1_walkersAboard_3 : decode cX1_walkersAboard 3 = .ok (.istore_n 2, 1) := by decide +kernel
theorem dX1_walkersAboard_4 : decode cX1_walkersAboard 4 = .ok (.iload_n 2, 1) := by decide +kernel
theorem dX1_walkersAboard_5 : decode cX1_walkersAboard 5 = .ok (.bipush 8, 2) := by decide +kernel
theorem dX1_walkersAboard_7 : decode cX1_walkersAboard 7 = .ok (.if_icmp .ge 20, 3) := by decide +kernel
theorem dX1_walkersAboard_10 : decode cX1_walkersAboard 10 = .ok (.aload_n 0, 1) := by decide +kernel
theorem dX1_walkersAboard_11 : decode cX1_walkersAboard 11 = .ok (.iload_n 2, 1) := by decide +kernel
theorem dX1_walkersAboard_12 : decode cX1_walkersAboard 12 = .ok (.invokevirtual 95, 3) := by decide +kernel
theorem dX1_walkersAboard_15 : decode cX1_walkersAboard 15 = .ok (.ifCond .eq 6, 3) := by decide +kernel
theorem dX1_walkersAboard_18 : decode cX1_walkersAboard 18 = .ok (.iinc 1 1, 3) := by decide +kernel
theorem dX1_walkersAboard_21 : decode cX1_walkersAboard 21 = .ok (.iinc 2 1, 3) := by decide +kernel
theorem dX1_walkersAboard_24 : decode cX1_walkersAboard 24 = .ok (.goto (-20), 3) := by decide +kernel
theorem dX1_walkersAboard_27 : decode cX1_walkersAboard 27 = .ok (.iload_n 1, 1) := by decide +kernel
theorem dX1_walkersAboard_28 : decode cX1_walkersAboard 28 = .ok (.ireturn, 1) := by decide +kernel
theorem dX1_walkersMisplaced_0 : decode cX1_walkersMisplaced 0 = .ok (.iconst 0, 1) := by decide +kernel
theorem dX1_walkersMisplaced_1 : decode cX1_walkersMisplaced 1 = .ok (.istore_n 1, 1) := by decide +kernel
theorem dX1_walkersMisplaced_2 : decode cX1_walkersMisplaced 2 = .ok (.iconst 0, 1) := by decide +kernel
theorem dX1_walkersMisplaced_3 : decode cX1_walkersMisplaced 3 = .ok (.istore_n 2, 1) := by decide +kernel
theorem dX1_walkersMisplaced_4 : decode cX1_walkersMisplaced 4 = .ok (.iload_n 2, 1) := by decide +kernel
theorem dX1_walkersMisplaced_5 : decode cX1_walkersMisplaced 5 = .ok (.bipush 8, 2) := by decide +kernel
theorem dX1_walkersMisplaced_7 : decode cX1_walkersMisplaced 7 = .ok (.if_icmp .ge 33, 3) := by decide +kernel
theorem dX1_walkersMisplaced_10 : decode cX1_walkersMisplaced 10 = .ok (.aload_n 0, 1) := by decide +kernel
theorem dX1_walkersMisplaced_11 : decode cX1_walkersMisplaced 11 = .ok (.getfield 10, 3) := by decide +kernel
theorem dX1_walkersMisplaced_14 : decode cX1_walkersMisplaced 14 = .ok (.getfield 71, 3) := by decide +kernel
theorem dX1_walkersMisplaced_17 : decode cX1_walkersMisplaced 17 = .ok (.iload_n 2, 1) := by decide +kernel
theorem dX1_walkersMisplaced_18 : decode cX1_walkersMisplaced 18 = .ok (.iaload, 1) := by decide +kernel
theorem dX1_walkersMisplaced_19 : decode cX1_walkersMisplaced 19 = .ok (.aload_n 0, 1) := by decide +kernel
theorem dX1_walkersMisplaced_20 : decode cX1_walkersMisplaced 20 = .ok (.getfield 10, 3) := by decide +kernel
theorem dX1_walkersMisplaced_23 : decode cX1_walkersMisplaced 23 = .ok (.getfield 89, 3) := by decide +kernel
theorem dX1_walkersMisplaced_26 : decode cX1_walkersMisplaced 26 = .ok (.iload_n 2, 1) := by decide +kernel
theorem dX1_walkersMisplaced_27 : decode cX1_walkersMisplaced 27 = .ok (.iaload, 1) := by decide +kernel
theorem dX1_walkersMisplaced_28 : decode cX1_walkersMisplaced 28 = .ok (.if_icmp .eq 6, 3) := by decide +kernel
theorem dX1_walkersMisplaced_31 : decode cX1_walkersMisplaced 31 = .ok (.iinc 1 1, 3) := by decide +kernel
theorem dX1_walkersMisplaced_34 : decode cX1_walkersMisplaced 34 = .ok (.iinc 2 1, 3) := by decide +kernel
theorem dX1_walkersMisplaced_37 : decode cX1_walkersMisplaced 37 = .ok (.goto (-33), 3) := by decide +kernel
theorem dX1_walkersMisplaced_40 : decode cX1_walkersMisplaced 40 = .ok (.iload_n 1, 1) := by decide +kernel
theorem dX1_walkersMisplaced_41 : decode cX1_walkersMisplaced 41 = .ok (.ireturn, 1) := by decide +kernel
set_option maxRecDepth 20000 in
theorem ggX1_estimateFor_X1_isAboard : GoodIn wsX1_estimateFor wsX1_isAboard := goodIn_r _ [14, 1, 15, 16, 17, 18, 19, 13, 20, 21, 55, 56, 57, 58, 59, 60, 61, 62, 63, 64, 65, 66, 67, 68, 69, 70, 71, 72, 73, 74, 75, 76] (by decide +kernel) (by decide +kernel)
set_option maxRecDepth 20000 in
theorem gX1_estimateFor_X1_isAboard : GoodIn wsX1_estimateFor (wsV RX1 95 RX1 yX1_isAboard wsX1_isAboard) := goodIn_app (goodIn_of _ (by decide +kernel)) ggX1_estimateFor_X1_isAboard
set_option maxRecDepth 20000 in
theorem ggX1_estimateFor_X1_weighAll : GoodIn wsX1_estimateFor wsX1_weighAll := goodIn_r _ [25, 1, 26, 4, 27, 15, 28, 29, 13, 30, 31, 32, 8, 33, 34, 35, 36, 37, 38, 39, 40, 41, 42, 43, 44, 45, 46, 47, 48, 49, 16, 55, 56, 57, 58, 59, 60, 61, 62, 63, 64, 65, 66, 67, 68, 69, 70, 71, 72, 73, 74, 75, 76] (by decide +kernel) (by decide +kernel)
set_option maxRecDepth 20000 in
theorem gX1_estimateFor_X1_weighAll : GoodIn wsX1_estimateFor (wsV RX1 59 RX1 yX1_weighAll wsX1_weighAll) := goodIn_app (goodIn_of _ (by decide +kernel)) ggX1_estimateFor_X1_weighAll
set_option maxRecDepth 20000 in
theorem ggX1_estimateFor_X1_expectAll : GoodIn wsX1_estimateFor wsX1_expectAll := goodIn_r _ [53, 1, 54, 5, 3, 28, 29, 13, 30, 31, 32, 8, 33, 34, 35, 36, 37, 38, 39, 40, 41, 42, 43, 44, 45, 46, 47, 48, 49, 16, 55, 56, 57, 58, 59, 60, 61, 62, 63, 64, 65, 66, 67, 68, 69, 70, 71, 72, 73, 74, 75, 76] (by decide +kernel) (by decide +kernel)
set_option maxRecDepth 20000 in
theorem gX1_estimateFor_X1_expectAll : GoodIn wsX1_estimateFor (wsV RX1 167 RX1 yX1_expectAll wsX1_expectAll) := goodIn_app (goodIn_of _ (by decide +kernel)) ggX1_estimateFor_X1_expectAll
set_option maxRecDepth 20000 in
theorem ggX1_estimateFor_X1_nearCell : GoodIn wsX1_estimateFor wsX1_nearCell := goodIn_r _ [49, 16] (by decide +kernel) (by decide +kernel)
set_option maxRecDepth 20000 in
theorem gX1_estimateFor_X1_nearCell : GoodIn wsX1_estimateFor (va_wsS RX1 195 yX1_nearCell wsX1_nearCell) := goodIn_app (goodIn_of _ (by decide +kernel)) ggX1_estimateFor_X1_nearCell
set_option maxRecDepth 20000 in
theorem ggX1_estimateFor_X1_isCell : GoodIn wsX1_estimateFor wsX1_isCell := goodIn_r _ [46] (by decide +kernel) (by decide +kernel)
set_option maxRecDepth 20000 in
theorem gX1_estimateFor_X1_isCell : GoodIn wsX1_estimateFor (va_wsS RX1 37 yX1_isCell wsX1_isCell) := goodIn_app (goodIn_of _ (by decide +kernel)) ggX1_estimateFor_X1_isCell
theorem dX1_estimateFor_0 : decode cX1_estimateFor 0 = .ok (.aload_n 0, 1) := by decide +kernel
theorem dX1_estimateFor_1 : decode cX1_estimateFor 1 = .ok (.iload_n 1, 1) := by decide +kernel
theorem dX1_estimateFor_2 : decode cX1_estimateFor 2 = .ok (.invokevirtual 95, 3) := by decide +kernel
theorem dX1_estimateFor_5 : decode cX1_estimateFor 5 = .ok (.ifCond .ne 5, 3) := by decide +kernel
theorem dX1_estimateFor_8 : decode cX1_estimateFor 8 = .ok (.iconst 0, 1) := by decide +kernel
theorem dX1_estimateFor_9 : decode cX1_estimateFor 9 = .ok (.ireturn, 1) := by decide +kernel
theorem dX1_estimateFor_10 : decode cX1_estimateFor 10 = .ok (.aload_n 0, 1) := by decide +kernel
theorem dX1_estimateFor_11 : decode cX1_estimateFor 11 = .ok (.invokevirtual 59, 3) := by decide +kernel
theorem dX1_estimateFor_14 : decode cX1_estimateFor 14 = .ok (.aload_n 0, 1) := by decide +kernel
theorem dX1_estimateFor_15 : decode cX1_estimateFor 15 = .ok (.aload_n 0, 1) := by decide +kernel
theorem dX1_estimateFor_16 : decode cX1_estimateFor 16 = .ok (.getfield 10, 3) := by decide +kernel
theorem dX1_estimateFor_19 : decode cX1_estimateFor 19 = .ok (.getfield 89, 3) := by decide +kernel
theorem dX1_estimateFor_22 : decode cX1_estimateFor 22 = .ok (.invokevirtual 167, 3) := by decide +kernel
theorem dX1_estimateFor_25 : decode cX1_estimateFor 25 = .ok (.aload_n 0, 1) := by decide +kernel
theorem dX1_estimateFor_26 : decode cX1_estimateFor 26 = .ok (.getfield 10, 3) := by decide +kernel
theorem dX1_estimateFor_29 : decode cX1_estimateFor 29 = .ok (.getfield 89, 3) := by decide +kernel
theorem dX1_estimateFor_32 : decode cX1_estimateFor 32 = .ok (.iload_n 1, 1) := by decide +kernel
theorem dX1_estimateFor_33 : decode cX1_estimateFor 33 = .ok (.iaload, 1) := by decide +kernel
theorem dX1_estimateFor_34 : decode cX1_estimateFor 34 = .ok (.istore_n 2, 1) := by decide +kernel
theorem dX1_estimateFor_35 : decode cX1_estimateFor 35 = .ok (.aload_n 0, 1) := by decide +kernel
theorem dX1_estimateFor_36 : decode cX1_estimateFor 36 = .ok (.getfield 10, 3) := by decide +kernel
theorem dX1_estimateFor_39 : decode cX1_estimateFor 39 = .ok (.getfield 86, 3) := by decide +kernel
theorem dX1_estimateFor_42 : decode cX1_estimateFor 42 = .ok (.iload_n 1, 1) := by decide +kernel
theorem dX1_estimateFor_43 : decode cX1_estimateFor 43 = .ok (.iaload, 1) := by decide +kernel
theorem dX1_estimateFor_44 : decode cX1_estimateFor 44 = .ok (.istore_n 3, 1) := by decide +kernel
theorem dX1_estimateFor_45 : decode cX1_estimateFor 45 = .ok (.iconst 0, 1) := by decide +kernel
theorem dX1_estimateFor_46 : decode cX1_estimateFor 46 = .ok (.istore 4, 2) := by decide +kernel
theorem dX1_estimateFor_48 : decode cX1_estimateFor 48 = .ok (.iload 4, 2) := by decide +kernel
theorem dX1_estimateFor_50 : decode cX1_estimateFor 50 = .ok (.iconst 5, 1) := by decide +kernel
theorem dX1_estimateFor_51 : decode cX1_estimateFor 51 = .ok (.if_icmp .ge 43, 3) := by decide +kernel
theorem dX1_estimateFor_54 : decode cX1_estimateFor 54 = .ok (.iload_n 2, 1) := by decide +kernel
theorem dX1_estimateFor_55 : decode cX1_estimateFor 55 = .ok (.iload 4, 2) := by decide +kernel
theorem dX1_estimateFor_57 : decode cX1_estimateFor 57 = .ok (.invokestatic 195, 3) := by decide +kernel
theorem dX1_estimateFor_60 : decode cX1_estimateFor 60 = .ok (.istore 5, 2) := by decide +kernel
theorem dX1_estimateFor_62 : decode cX1_estimateFor 62 = .ok (.iload 5, 2) := by decide +kernel
theorem dX1_estimateFor_64 : decode cX1_estimateFor 64 = .ok (.invokestatic 37, 3) := by decide +kernel
theorem dX1_estimateFor_67 : decode cX1_estimateFor 67 = .ok (.ifCond .eq 21, 3) := by decide +kernel
theorem dX1_estimateFor_70 : decode cX1_estimateFor 70 = .ok (.iload_n 3, 1) := by decide +kernel
theorem dX1_estimateFor_71 : decode cX1_estimateFor 71 = .ok (.aload_n 0, 1) := by decide +kernel
theorem dX1_estimateFor_72 : decode cX1_estimateFor 72 = .ok (.getfield 27, 3) := by decide +kernel
theorem dX1_estimateFor_75 : decode cX1_estimateFor 75 = .ok (.iload 5, 2) := by decide +kernel
theorem dX1_estimateFor_77 : decode cX1_estimateFor 77 = .ok (.iaload, 1) := by decide +kernel
theorem dX1_estimateFor_78 : decode cX1_estimateFor 78 = .ok (.aload_n 0, 1) := by decide +kernel
theorem dX1_estimateFor_79 : decode cX1_estimateFor 79 = .ok (.getfield 31, 3) := by decide +kernel
theorem dX1_estimateFor_82 : decode cX1_estimateFor 82 = .ok (.iload 5, 2) := by decide +kernel
theorem dX1_estimateFor_84 : decode cX1_estimateFor 84 = .ok (.iaload, 1) := by decide +kernel
theorem dX1_estimateFor_85 : decode cX1_estimateFor 85 = .ok (.isub, 1) := by decide +kernel
theorem dX1_estimateFor_86 : decode cX1_estimateFor 86 = .ok (.iadd, 1) := by decide +kernel
theorem dX1_estimateFor_87 : decode cX1_estimateFor 87 = .ok (.istore_n 3, 1) := by decide +kernel
theorem dX1_estimateFor_88 : decode cX1_estimateFor 88 = .ok (.iinc 4 1, 3) := by decide +kernel
theorem dX1_estimateFor_91 : decode cX1_estimateFor 91 = .ok (.goto (-43), 3) := by decide +kernel
theorem dX1_estimateFor_94 : decode cX1_estimateFor 94 = .ok (.iconst 0, 1) := by decide +kernel
theorem dX1_estimateFor_95 : decode cX1_estimateFor 95 = .ok (.iload_n 3, 1) := by decide +kernel
theorem dX1_estimateFor_96 : decode cX1_estimateFor 96 = .ok (.invokestatic 129, 3) := by decide +kernel
theorem dX1_estimateFor_99 : decode cX1_estimateFor 99 = .ok (.ireturn, 1) := by decide +kernel
set_option maxRecDepth 20000 in
theorem ggX1_certaintyFor_X1_isAboard : GoodIn wsX1_certaintyFor wsX1_isAboard := goodIn_r _ [13, 1, 14, 15, 16, 17, 18, 12, 19, 20, 35, 36, 37, 38, 39, 40, 41, 42, 43, 44, 45, 46, 47, 48, 49, 50, 51, 52, 53, 54, 55, 56] (by decide +kernel) (by decide +kernel)
set_option maxRecDepth 20000 in
theorem gX1_certaintyFor_X1_isAboard : GoodIn wsX1_certaintyFor (wsV RX1 95 RX1 yX1_isAboard wsX1_isAboard) := goodIn_app (goodIn_of _ (by decide +kernel)) ggX1_certaintyFor_X1_isAboard
set_option maxRecDepth 20000 in
theorem ggX1_certaintyFor_X1_earliestTare : GoodIn wsX1_certaintyFor wsX1_earliestTare := goodIn_r _ [24, 1, 2, 25, 26, 27, 7, 28, 29, 30, 12, 31, 15, 32, 33, 34, 35, 36, 37, 38, 39, 40, 41, 42, 43, 44, 45, 46, 47, 48, 49, 50, 51, 52, 53, 54, 55, 56] (by decide +kernel) (by decide +kernel)
set_option maxRecDepth 20000 in
theorem gX1_certaintyFor_X1_earliestTare : GoodIn wsX1_certaintyFor (wsV RX1 192 RX1 yX1_earliestTare wsX1_earliestTare) := goodIn_app (goodIn_of _ (by decide +kernel)) ggX1_certaintyFor_X1_earliestTare
theorem dX1_certaintyFor_0 : decode cX1_certaintyFor 0 = .ok (.aload_n 0, 1) := by decide +kernel
theorem dX1_certaintyFor_1 : decode cX1_certaintyFor 1 = .ok (.iload_n 1, 1) := by decide +kernel
theorem dX1_certaintyFor_2 : decode cX1_certaintyFor 2 = .ok (.invokevirtual 95, 3) := by decide +kernel
theorem dX1_certaintyFor_5 : decode cX1_certaintyFor 5 = .ok (.ifCond .ne 5, 3) := by decide +kernel
theorem dX1_certaintyFor_8 : decode cX1_certaintyFor 8 = .ok (.iconst 0, 1) := by decide +kernel
theorem dX1_certaintyFor_9 : decode cX1_certaintyFor 9 = .ok (.ireturn, 1) := by decide +kernel
theorem dX1_certaintyFor_10 : decode cX1_certaintyFor 10 = .ok (.aload_n 0, 1) := by decide +kernel
theorem dX1_certaintyFor_11 : decode cX1_certaintyFor 11 = .ok (.getfield 10, 3) := by decide +kernel
theorem dX1_certaintyFor_14 : decode cX1_certaintyFor 14 = .ok (.getfield 52, 3) := by decide +kernel
theorem dX1_certaintyFor_17 : decode cX1_certaintyFor 17 = .ok (.aload_n 0, 1) := by decide +kernel
theorem dX1_certaintyFor_18 : decode cX1_certaintyFor 18 = .ok (.aload_n 0, 1) := by decide +kernel
theorem dX1_certaintyFor_19 : decode cX1_certaintyFor 19 = .ok (.getfield 10, 3) := by decide +kernel
theorem dX1_certaintyFor_22 : decode cX1_certaintyFor 22 = .ok (.getfield 89, 3) := by decide +kernel
theorem dX1_certaintyFor_25 : decode cX1_certaintyFor 25 = .ok (.iload_n 1, 1) := by decide +kernel
theorem dX1_certaintyFor_26 : decode cX1_certaintyFor 26 = .ok (.iaload, 1) := by decide +kernel
theorem dX1_certaintyFor_27 : decode cX1_certaintyFor 27 = .ok (.invokevirtual 192, 3) := by decide +kernel
theorem dX1_certaintyFor_30 : decode cX1_certaintyFor 30 = .ok (.isub, 1) := by decide +kernel
theorem dX1_certaintyFor_31 : decode cX1_certaintyFor 31 = .ok (.istore_n 2, 1) := by decide +kernel
theorem dX1_certaintyFor_32 : decode cX1_certaintyFor 32 = .ok (.iconst 5, 1) := by decide +kernel
theorem dX1_certaintyFor_33 : decode cX1_certaintyFor 33 = .ok (.iload_n 2, 1) := by decide +kernel
theorem dX1_certaintyFor_34 : decode cX1_certaintyFor 34 = .ok (.imul, 1) := by decide +kernel
theorem dX1_certaintyFor_35 : decode cX1_certaintyFor 35 = .ok (.bipush 10, 2) := by decide +kernel
theorem dX1_certaintyFor_37 : decode cX1_certaintyFor 37 = .ok (.aload_n 0, 1) := by decide +kernel
theorem dX1_certaintyFor_38 : decode cX1_certaintyFor 38 = .ok (.getfield 10, 3) := by decide +kernel
theorem dX1_certaintyFor_41 : decode cX1_certaintyFor 41 = .ok (.getfield 113, 3) := by decide +kernel
theorem dX1_certaintyFor_44 : decode cX1_certaintyFor 44 = .ok (.iload_n 1, 1) := by decide +kernel
theorem dX1_certaintyFor_45 : decode cX1_certaintyFor 45 = .ok (.iaload, 1) := by decide +kernel
theorem dX1_certaintyFor_46 : decode cX1_certaintyFor 46 = .ok (.imul, 1) := by decide +kernel
theorem dX1_certaintyFor_47 : decode cX1_certaintyFor 47 = .ok (.iadd, 1) := by decide +kernel
theorem dX1_certaintyFor_48 : decode cX1_certaintyFor 48 = .ok (.istore_n 3, 1) := by decide +kernel
theorem dX1_certaintyFor_49 : decode cX1_certaintyFor 49 = .ok (.iconst 0, 1) := by decide +kernel
theorem dX1_certaintyFor_50 : decode cX1_certaintyFor 50 = .ok (.bipush 100, 2) := by decide +kernel
theorem dX1_certaintyFor_52 : decode cX1_certaintyFor 52 = .ok (.iload_n 3, 1) := by decide +kernel
theorem dX1_certaintyFor_53 : decode cX1_certaintyFor 53 = .ok (.isub, 1) := by decide +kernel
theorem dX1_certaintyFor_54 : decode cX1_certaintyFor 54 = .ok (.invokestatic 129, 3) := by decide +kernel
theorem dX1_certaintyFor_57 : decode cX1_certaintyFor 57 = .ok (.ireturn, 1) := by decide +kernel
set_option maxRecDepth 20000 in
theorem ggX1_kilogramsToBill_X1_estimateFor : GoodIn wsX1_kilogramsToBill wsX1_estimateFor := goodIn_r _ [14, 1, 15, 16, 17, 18, 7, 8, 5, 9, 19, 20, 21, 13, 22, 23, 24, 25, 26, 27, 28, 29, 30, 31, 32, 33, 34, 35, 36, 37, 38, 3, 4, 6, 39, 40, 41, 42, 43, 44, 45, 46, 47, 48, 49, 50, 51, 52, 53, 54, 55, 56, 57, 58, 2, 86, 87, 88, 89, 90, 91, 92, 93, 94, 95, 96, 97, 98, 99, 100, 101, 102, 103, 104, 105, 106, 107] (by decide +kernel) (by decide +kernel)
set_option maxRecDepth 20000 in
theorem gX1_kilogramsToBill_X1_estimateFor : GoodIn wsX1_kilogramsToBill (wsV RX1 174 RX1 yX1_estimateFor wsX1_estimateFor) := goodIn_app (goodIn_of _ (by decide +kernel)) ggX1_kilogramsToBill_X1_estimateFor
set_option maxRecDepth 20000 in
theorem ggX1_kilogramsToBill_X1_certaintyFor : GoodIn wsX1_kilogramsToBill wsX1_certaintyFor := goodIn_r _ [62, 1, 63, 15, 64, 7, 8, 5, 9, 19, 20, 21, 13, 22, 23, 24, 25, 26, 27, 28, 29, 65, 66, 67, 68, 69, 3, 4, 6, 52, 53, 54, 49, 50, 51, 86, 87, 88, 89, 90, 91, 92, 93, 94, 95, 96, 97, 98, 99, 100, 101, 102, 103, 104, 105, 106, 107] (by decide +kernel) (by decide +kernel)
set_option maxRecDepth 20000 in
theorem gX1_kilogramsToBill_X1_certaintyFor : GoodIn wsX1_kilogramsToBill (wsV RX1 177 RX1 yX1_certaintyFor wsX1_certaintyFor) := goodIn_app (goodIn_of _ (by decide +kernel)) ggX1_kilogramsToBill_X1_certaintyFor
set_option maxRecDepth 20000 in
theorem ggX1_kilogramsToBill_X1_sumOfReadings : GoodIn wsX1_kilogramsToBill wsX1_sumOfReadings := goodIn_r _ [73, 17, 30, 31, 32, 13, 33, 1, 34, 35, 23, 36, 37, 38, 3, 4, 5, 6, 39, 40, 41, 42, 43, 44, 45, 46, 47, 48, 49, 50, 51, 52, 53, 54, 24, 74, 75, 76, 86, 87, 88, 89, 90, 91, 92, 93, 94, 95, 96, 97, 98, 99, 100, 101, 102, 103, 104, 105, 106, 107] (by decide +kernel) (by decide +kernel)
set_option maxRecDepth 20000 in
theorem gX1_kilogramsToBill_X1_sumOfReadings : GoodIn wsX1_kilogramsToBill (wsV RX1 149 RX1 yX1_sumOfReadings wsX1_sumOfReadings) := goodIn_app (goodIn_of _ (by decide +kernel)) ggX1_kilogramsToBill_X1_sumOfReadings
set_option maxRecDepth 20000 in
theorem ggX1_kilogramsToBill_X1_sumOf : GoodIn wsX1_kilogramsToBill wsX1_sumOf := goodIn_r _ [76] (by decide +kernel) (by decide +kernel)
set_option maxRecDepth 20000 in
theorem gX1_kilogramsToBill_X1_sumOf : GoodIn wsX1_kilogramsToBill (va_wsS RX1 152 yX1_sumOf wsX1_sumOf) := goodIn_app (goodIn_of _ (by decide +kernel)) ggX1_kilogramsToBill_X1_sumOf
set_option maxRecDepth 20000 in
theorem ggX1_kilogramsToBill_X1_kilogramsBilled : GoodIn wsX1_kilogramsToBill wsX1_kilogramsBilled := goodIn_r _ [80, 1, 81, 82, 83, 84, 13, 85, 24, 86, 87, 88, 89, 90, 91, 92, 93, 94, 95, 96, 97, 98, 99, 100, 101, 102, 103, 104, 105, 106, 107] (by decide +kernel) (by decide +kernel)
set_option maxRecDepth 20000 in
theorem gX1_kilogramsToBill_X1_kilogramsBilled : GoodIn wsX1_kilogramsToBill (wsV RX1 158 RX1 yX1_kilogramsBilled wsX1_kilogramsBilled) := goodIn_app (goodIn_of _ (by decide +kernel)) ggX1_kilogramsToBill_X1_kilogramsBilled
theorem dX1_kilogramsToBill_0 : decode cX1_kilogramsToBill 0 = .ok (.aload_n 0, 1) := by decide +kernel
theorem dX1_kilogramsToBill_1 : decode cX1_kilogramsToBill 1 = .ok (.iload_n 1, 1) := by decide +kernel
theorem dX1_kilogramsToBill_2 : decode cX1_kilogramsToBill 2 = .ok (.invokevirtual 174, 3) := by decide +kernel
theorem dX1_kilogramsToBill_5 : decode cX1_kilogramsToBill 5 = .ok (.aload_n 0, 1) := by decide +kernel
theorem dX1_kilogramsToBill_6 : decode cX1_kilogramsToBill 6 = .ok (.iload_n 1, 1) := by decide +kernel
theorem dX1_kilogramsToBill_7 : decode cX1_kilogramsToBill 7 = .ok (.invokevirtual 177, 3) := by decide +kernel
theorem dX1_kilogramsToBill_10 : decode cX1_kilogramsToBill 10 = .ok (.imul, 1) := by decide +kernel
theorem dX1_kilogramsToBill_11 : decode cX1_kilogramsToBill 11 = .ok (.bipush 100, 2) := by decide +kernel
theorem dX1_kilogramsToBill_13 : decode cX1_kilogramsToBill 13 = .ok (.idiv, 1) := by decide +kernel
theorem dX1_kilogramsToBill_14 : decode cX1_kilogramsToBill 14 = .ok (.istore_n 2, 1) := by decide +kernel
theorem dX1_kilogramsToBill_15 : decode cX1_kilogramsToBill 15 = .ok (.aload_n 0, 1) := by decide +kernel
theorem dX1_kilogramsToBill_16 : decode cX1_kilogramsToBill 16 = .ok (.invokevirtual 149, 3) := by decide +kernel
theorem dX1_kilogramsToBill_19 : decode cX1_kilogramsToBill 19 = .ok (.aload_n 0, 1) := by decide +kernel
theorem dX1_kilogramsToBill_20 : decode cX1_kilogramsToBill 20 = .ok (.getfield 10, 3) := by decide +kernel
theorem dX1_kilogramsToBill_23 : decode cX1_kilogramsToBill 23 = .ok (.getfield 62, 3) := by decide +kernel
theorem dX1_kilogramsToBill_26 : decode cX1_kilogramsToBill 26 = .ok (.invokestatic 152, 3) := by decide +kernel
theorem dX1_kilogramsToBill_29 : decode cX1_kilogramsToBill 29 = .ok (.isub, 1) := by decide +kernel
theorem dX1_kilogramsToBill_30 : decode cX1_kilogramsToBill 30 = .ok (.aload_n 0, 1) := by decide +kernel
theorem dX1_kilogramsToBill_31 : decode cX1_kilogramsToBill 31 = .ok (.invokevirtual 158, 3) := by decide +kernel
theorem dX1_kilogramsToBill_34 : decode cX1_kilogramsToBill 34 = .ok (.isub, 1) := by decide +kernel
theorem dX1_kilogramsToBill_35 : decode cX1_kilogramsToBill 35 = .ok (.istore_n 3, 1) := by decide +kernel
theorem dX1_kilogramsToBill_36 : decode cX1_kilogramsToBill 36 = .ok (.iconst 0, 1) := by decide +kernel
theorem dX1_kilogramsToBill_37 : decode cX1_kilogramsToBill 37 = .ok (.iload_n 2, 1) := by decide +kernel
theorem dX1_kilogramsToBill_38 : decode cX1_kilogramsToBill 38 = .ok (.iload_n 3, 1) := by decide +kernel
theorem dX1_kilogramsToBill_39 : decode cX1_kilogramsToBill 39 = .ok (.invokestatic 205, 3) := by decide +kernel
theorem dX1_kilogramsToBill_42 : decode cX1_kilogramsToBill 42 = .ok (.invokestatic 129, 3) := by decide +kernel
theorem dX1_kilogramsToBill_45 : decode cX1_kilogramsToBill 45 = .ok (.ireturn, 1) := by decide +kernel
set_option maxRecDepth 20000 in
theorem ggX1_kilogramsBilled_X1_orZero : GoodIn wsX1_kilogramsBilled wsX1_orZero := goodIn_r _ [7, 8] (by decide +kernel) (by decide +kernel)
set_option maxRecDepth 20000 in
theorem gX1_kilogramsBilled_X1_orZero : GoodIn wsX1_kilogramsBilled (va_wsS RX1 211 yX1_orZero wsX1_orZero) := goodIn_app (goodIn_of _ (by decide +kernel)) ggX1_kilogramsBilled_X1_orZero
theorem dX1_kilogramsBilled_0 : decode cX1_kilogramsBilled 0 = .ok (.iconst 0, 1) := by decide +kernel
theorem dX1_kilogramsBilled_1 : decode cX1_kilogramsBilled 1 = .ok (.istore_n 1, 1) := by decide +kernel
theorem dX1_kilogramsBilled_2 : decode cX1_kilogramsBilled 2 = .ok (.iconst 0, 1) := by decide +kernel
theorem dX1_kilogramsBilled_3 : decode cX1_kilogramsBilled 3 = .ok (.istore_n 2, 1) := by decide +kernel
theorem dX1_kilogramsBilled_4 : decode cX1_kilogramsBilled 4 = .ok (.iload_n 2, 1) := by decide +kernel
theorem dX1_kilogramsBilled_5 : decode cX1_kilogramsBilled 5 = .ok (.bipush 8, 2) := by decide +kernel
theorem dX1_kilogramsBilled_7 : decode cX1_kilogramsBilled 7 = .ok (.if_icmp .ge 37, 3) := by decide +kernel
theorem dX1_kilogramsBilled_10 : decode cX1_kilogramsBilled 10 = .ok (.iload_n 1, 1) := by decide +kernel
theorem dX1_kilogramsBilled_11 : decode cX1_kilogramsBilled 11 = .ok (.aload_n 0, 1) := by decide +kernel
theorem dX1_kilogramsBilled_12 : decode cX1_kilogramsBilled 12 = .ok (.getfield 10, 3) := by decide +kernel
theorem dX1_kilogramsBilled_15 : decode cX1_kilogramsBilled 15 = .ok (.getfield 116, 3) := by decide +kernel
theorem dX1_kilogramsBilled_18 : decode cX1_kilogramsBilled 18 = .ok (.iload_n 2, 1) := by decide +kernel
theorem dX1_kilogramsBilled_19 : decode cX1_kilogramsBilled 19 = .ok (.iaload, 1) := by decide +kernel
theorem dX1_kilogramsBilled_20 : decode cX1_kilogramsBilled 20 = .ok (.invokestatic 211, 3) := by decide +kernel
theorem dX1_kilogramsBilled_23 : decode cX1_kilogramsBilled 23 = .ok (.aload_n 0, 1) := by decide +kernel
theorem dX1_kilogramsBilled_24 : decode cX1_kilogramsBilled 24 = .ok (.getfield 10, 3) := by decide +kernel
theorem dX1_kilogramsBilled_27 : decode cX1_kilogramsBilled 27 = .ok (.getfield 126, 3) := by decide +kernel
theorem dX1_kilogramsBilled_30 : decode cX1_kilogramsBilled 30 = .ok (.iload_n 2, 1) := by decide +kernel
theorem dX1_kilogramsBilled_31 : decode cX1_kilogramsBilled 31 = .ok (.iaload, 1) := by decide +kernel
theorem dX1_kilogramsBilled_32 : decode cX1_kilogramsBilled 32 = .ok (.invokestatic 211, 3) := by decide +kernel
theorem dX1_kilogramsBilled_35 : decode cX1_kilogramsBilled 35 = .ok (.isub, 1) := by decide +kernel
theorem dX1_kilogramsBilled_36 : decode cX1_kilogramsBilled 36 = .ok (.iadd, 1) := by decide +kernel
theorem dX1_kilogramsBilled_37 : decode cX1_kilogramsBilled 37 = .ok (.istore_n 1, 1) := by decide +kernel
theorem dX1_kilogramsBilled_38 : decode cX1_kilogramsBilled 38 = .ok (.iinc 2 1, 3) := by decide +kernel
theorem dX1_kilogramsBilled_41 : decode cX1_kilogramsBilled 41 = .ok (.goto (-37), 3) := by decide +kernel
theorem dX1_kilogramsBilled_44 : decode cX1_kilogramsBilled 44 = .ok (.iload_n 1, 1) := by decide +kernel
theorem dX1_kilogramsBilled_45 : decode cX1_kilogramsBilled 45 = .ok (.ireturn, 1) := by decide +kernel
set_option maxRecDepth 20000 in
theorem ggX1_billAmount_X1_isWalker : GoodIn wsX1_billAmount wsX1_isWalker := goodIn_r _ [8, 1, 9, 14, 15, 16, 17, 18, 19, 20, 21, 22, 23, 24, 25, 26, 27, 28, 29, 30, 31, 32, 33, 34, 35] (by decide +kernel) (by decide +kernel)
set_option maxRecDepth 20000 in
theorem gX1_billAmount_X1_isWalker : GoodIn wsX1_billAmount (wsV RX1 92 RX1 yX1_isWalker wsX1_isWalker) := goodIn_app (goodIn_of _ (by decide +kernel)) ggX1_billAmount_X1_isWalker
set_option maxRecDepth 20000 in
theorem ggX1_billAmount_X1_orZero : GoodIn wsX1_billAmount wsX1_orZero := goodIn_r _ [12, 13] (by decide +kernel) (by decide +kernel)
set_option maxRecDepth 20000 in
theorem gX1_billAmount_X1_orZero : GoodIn wsX1_billAmount (va_wsS RX1 211 yX1_orZero wsX1_orZero) := goodIn_app (goodIn_of _ (by decide +kernel)) ggX1_billAmount_X1_orZero
theorem dX1_billAmount_0 : decode cX1_billAmount 0 = .ok (.aload_n 0, 1) := by decide +kernel
theorem dX1_billAmount_1 : decode cX1_billAmount 1 = .ok (.iload_n 1, 1) := by decide +kernel
theorem dX1_billAmount_2 : decode cX1_billAmount 2 = .ok (.invokevirtual 92, 3) := by decide +kernel
theorem dX1_billAmount_5 : decode cX1_billAmount 5 = .ok (.ifCond .eq 28, 3) := by decide +kernel
theorem dX1_billAmount_8 : decode cX1_billAmount 8 = .ok (.aload_n 0, 1) := by decide +kernel
theorem dX1_billAmount_9 : decode cX1_billAmount 9 = .ok (.getfield 10, 3) := by decide +kernel
theorem dX1_billAmount_12 : decode cX1_billAmount 12 = .ok (.getfield 116, 3) := by decide +kernel
theorem dX1_billAmount_15 : decode cX1_billAmount 15 = .ok (.iload_n 1, 1) := by decide +kernel
theorem dX1_billAmount_16 : decode cX1_billAmount 16 = .ok (.iaload, 1) := by decide +kernel
theorem dX1_billAmount_17 : decode cX1_billAmount 17 = .ok (.invokestatic 211, 3) := by decide +kernel
theorem dX1_billAmount_20 : decode cX1_billAmount 20 = .ok (.aload_n 0, 1) := by decide +kernel
theorem dX1_billAmount_21 : decode cX1_billAmount 21 = .ok (.getfield 10, 3) := by decide +kernel
theorem dX1_billAmount_24 : decode cX1_billAmount 24 = .ok (.getfield 123, 3) := by decide +kernel
theorem dX1_billAmount_27 : decode cX1_billAmount 27 = .ok (.iload_n 1, 1) := by decide +kernel
theorem dX1_billAmount_28 : decode cX1_billAmount 28 = .ok (.iaload, 1) := by decide +kernel
theorem dX1_billAmount_29 : decode cX1_billAmount 29 = .ok (.imul, 1) := by decide +kernel
theorem dX1_billAmount_30 : decode cX1_billAmount 30 = .ok (.goto 4, 3) := by decide +kernel
theorem dX1_billAmount_33 : decode cX1_billAmount 33 = .ok (.iconst 0, 1) := by decide +kernel
theorem dX1_billAmount_34 : decode cX1_billAmount 34 = .ok (.ireturn, 1) := by decide +kernel
set_option maxRecDepth 20000 in
theorem ggX1_backAmount_X1_isWalker : GoodIn wsX1_backAmount wsX1_isWalker := goodIn_r _ [8, 1, 9, 14, 15, 16, 17, 18, 19, 20, 21, 22, 23, 24, 25, 26, 27, 28, 29, 30, 31, 32, 33, 34, 35] (by decide +kernel) (by decide +kernel)
set_option maxRecDepth 20000 in
theorem gX1_backAmount_X1_isWalker : GoodIn wsX1_backAmount (wsV RX1 92 RX1 yX1_isWalker wsX1_isWalker) := goodIn_app (goodIn_of _ (by decide +kernel)) ggX1_backAmount_X1_isWalker
set_option maxRecDepth 20000 in
theorem ggX1_backAmount_X1_orZero : GoodIn wsX1_backAmount wsX1_orZero := goodIn_r _ [12, 13] (by decide +kernel) (by decide +kernel)
set_option maxRecDepth 20000 in
theorem gX1_backAmount_X1_orZero : GoodIn wsX1_backAmount (va_wsS RX1 211 yX1_orZero wsX1_orZero) := goodIn_app (goodIn_of _ (by decide +kernel)) ggX1_backAmount_X1_orZero
theorem dX1_backAmount_0 : decode cX1_backAmount 0 = .ok (.aload_n 0, 1) := by decide +kernel
theorem dX1_backAmount_1 : decode cX1_backAmount 1 = .ok (.iload_n 1, 1) := by decide +kernel
theorem dX1_backAmount_2 : decode cX1_backAmount 2 = .ok (.invokevirtual 92, 3) := by decide +kernel
theorem dX1_backAmount_5 : decode cX1_backAmount 5 = .ok (.ifCond .eq 28, 3) := by decide +kernel
theorem dX1_backAmount_8 : decode cX1_backAmount 8 = .ok (.aload_n 0, 1) := by decide +kernel
theorem dX1_backAmount_9 : decode cX1_backAmount 9 = .ok (.getfield 10, 3) := by decide +kernel
theorem dX1_backAmount_12 : decode cX1_backAmount 12 = .ok (.getfield 126, 3) := by decide +kernel
theorem dX1_backAmount_15 : decode cX1_backAmount 15 = .ok (.iload_n 1, 1) := by decide +kernel
theorem dX1_backAmount_16 : decode cX1_backAmount 16 = .ok (.iaload, 1) := by decide +kernel
theorem dX1_backAmount_17 : decode cX1_backAmount 17 = .ok (.invokestatic 211, 3) := by decide +kernel
theorem dX1_backAmount_20 : decode cX1_backAmount 20 = .ok (.aload_n 0, 1) := by decide +kernel
theorem dX1_backAmount_21 : decode cX1_backAmount 21 = .ok (.getfield 10, 3) := by decide +kernel
theorem dX1_backAmount_24 : decode cX1_backAmount 24 = .ok (.getfield 123, 3) := by decide +kernel
theorem dX1_backAmount_27 : decode cX1_backAmount 27 = .ok (.iload_n 1, 1) := by decide +kernel
theorem dX1_backAmount_28 : decode cX1_backAmount 28 = .ok (.iaload, 1) := by decide +kernel
theorem dX1_backAmount_29 : decode cX1_backAmount 29 = .ok (.imul, 1) := by decide +kernel
theorem dX1_backAmount_30 : decode cX1_backAmount 30 = .ok (.goto 4, 3) := by decide +kernel
theorem dX1_backAmount_33 : decode cX1_backAmount 33 = .ok (.iconst 0, 1) := by decide +kernel
theorem dX1_backAmount_34 : decode cX1_backAmount 34 = .ok (.ireturn, 1) := by decide +kernel
set_option maxRecDepth 20000 in
theorem ggX1_sumOfBillAmounts_X1_billAmount : GoodIn wsX1_sumOfBillAmounts wsX1_billAmount := goodIn_r _ [5, 6, 7, 8, 9, 10, 11, 4, 12, 13, 14, 15, 16, 17, 18, 19, 20, 21, 22, 23, 24, 25, 26, 27, 28, 29, 30, 31, 32, 33, 34, 35, 36, 37, 38, 39] (by decide +kernel) (by decide +kernel)
set_option maxRecDepth 20000 in
theorem gX1_sumOfBillAmounts_X1_billAmount : GoodIn wsX1_sumOfBillAmounts (wsV RX1 171 RX1 yX1_billAmount wsX1_billAmount) := goodIn_app (goodIn_of _ (by decide +kernel)) ggX1_sumOfBillAmounts_X1_billAmount
theorem dX1_sumOfBillAmounts_0 : decode cX1_sumOfBillAmounts 0 = .ok (.iconst 0, 1) := by decide +kernel
theorem dX1_sumOfBillAmounts_1 : decode cX1_sumOfBillAmounts 1 = .ok (.istore_n 1, 1) := by decide +kernel
theorem dX1_sumOfBillAmounts_2 : decode cX1_sumOfBillAmounts 2 = .ok (.iconst 0, 1) := by decide +kernel
theorem dX1_sumOfBillAmounts_3 : decode cX1_sumOfBillAmounts 3 = .ok (.istore_n 2, 1) := by decide +kernel
theorem dX1_sumOfBillAmounts_4 : decode cX1_sumOfBillAmounts 4 = .ok (.iload_n 2, 1) := by decide +kernel
theorem dX1_sumOfBillAmounts_5 : decode cX1_sumOfBillAmounts 5 = .ok (.bipush 8, 2) := by decide +kernel
theorem dX1_sumOfBillAmounts_7 : decode cX1_sumOfBillAmounts 7 = .ok (.if_icmp .ge 17, 3) := by decide +kernel
theorem dX1_sumOfBillAmounts_10 : decode cX1_sumOfBillAmounts 10 = .ok (.iload_n 1, 1) := by decide +kernel
theorem dX1_sumOfBillAmounts_11 : decode cX1_sumOfBillAmounts 11 = .ok (.aload_n 0, 1) := by decide +kernel
theorem dX1_sumOfBillAmounts_12 : decode cX1_sumOfBillAmounts 12 = .ok (.iload_n 2, 1) := by decide +kernel
theorem dX1_sumOfBillAmounts_13 : decode cX1_sumOfBillAmounts 13 = .ok (.invokevirtual 171, 3) := by decide +kernel
theorem dX1_sumOfBillAmounts_16 : decode cX1_sumOfBillAmounts 16 = .ok (.iadd, 1) := by decide +kernel
theorem dX1_sumOfBillAmounts_17 : decode cX1_sumOfBillAmounts 17 = .ok (.istore_n 1, 1) := by decide +kernel
theorem dX1_sumOfBillAmounts_18 : decode cX1_sumOfBillAmounts 18 = .ok (.iinc 2 1, 3) := by decide +kernel
theorem dX1_sumOfBillAmounts_21 : decode cX1_sumOfBillAmounts 21 = .ok (.goto (-17), 3) := by decide +kernel
theorem dX1_sumOfBillAmounts_24 : decode cX1_sumOfBillAmounts 24 = .ok (.iload_n 1, 1) := by decide +kernel
theorem dX1_sumOfBillAmounts_25 : decode cX1_sumOfBillAmounts 25 = .ok (.ireturn, 1) := by decide +kernel
set_option maxRecDepth 20000 in
theorem ggX1_sumOfBackAmounts_X1_backAmount : GoodIn wsX1_sumOfBackAmounts wsX1_backAmount := goodIn_r _ [5, 6, 7, 8, 9, 10, 11, 4, 12, 13, 14, 15, 16, 17, 18, 19, 20, 21, 22, 23, 24, 25, 26, 27, 28, 29, 30, 31, 32, 33, 34, 35, 36, 37, 38, 39] (by decide +kernel) (by decide +kernel)
set_option maxRecDepth 20000 in
theorem gX1_sumOfBackAmounts_X1_backAmount : GoodIn wsX1_sumOfBackAmounts (wsV RX1 135 RX1 yX1_backAmount wsX1_backAmount) := goodIn_app (goodIn_of _ (by decide +kernel)) ggX1_sumOfBackAmounts_X1_backAmount
theorem dX1_sumOfBackAmounts_0 : decode cX1_sumOfBackAmounts 0 = .ok (.iconst 0, 1) := by decide +kernel
theorem dX1_sumOfBackAmounts_1 : decode cX1_sumOfBackAmounts 1 = .ok (.istore_n 1, 1) := by decide +kernel
theorem dX1_sumOfBackAmounts_2 : decode cX1_sumOfBackAmounts 2 = .ok (.iconst 0, 1) := by decide +kernel
theorem dX1_sumOfBackAmounts_3 : decode cX1_sumOfBackAmounts 3 = .ok (.istore_n 2, 1) := by decide +kernel
theorem dX1_sumOfBackAmounts_4 : decode cX1_sumOfBackAmounts 4 = .ok (.iload_n 2, 1) := by decide +kernel
theorem dX1_sumOfBackAmounts_5 : decode cX1_sumOfBackAmounts 5 = .ok (.bipush 8, 2) := by decide +kernel
theorem dX1_sumOfBackAmounts_7 : decode cX1_sumOfBackAmounts 7 = .ok (.if_icmp .ge 17, 3) := by decide +kernel
theorem dX1_sumOfBackAmounts_10 : decode cX1_sumOfBackAmounts 10 = .ok (.iload_n 1, 1) := by decide +kernel
theorem dX1_sumOfBackAmounts_11 : decode cX1_sumOfBackAmounts 11 = .ok (.aload_n 0, 1) := by decide +kernel
theorem dX1_sumOfBackAmounts_12 : decode cX1_sumOfBackAmounts 12 = .ok (.iload_n 2, 1) := by decide +kernel
theorem dX1_sumOfBackAmounts_13 : decode cX1_sumOfBackAmounts 13 = .ok (.invokevirtual 135, 3) := by decide +kernel
theorem dX1_sumOfBackAmounts_16 : decode cX1_sumOfBackAmounts 16 = .ok (.iadd, 1) := by decide +kernel
theorem dX1_sumOfBackAmounts_17 : decode cX1_sumOfBackAmounts 17 = .ok (.istore_n 1, 1) := by decide +kernel
theorem dX1_sumOfBackAmounts_18 : decode cX1_sumOfBackAmounts 18 = .ok (.iinc 2 1, 3) := by decide +kernel
theorem dX1_sumOfBackAmounts_21 : decode cX1_sumOfBackAmounts 21 = .ok (.goto (-17), 3) := by decide +kernel
theorem dX1_sumOfBackAmounts_24 : decode cX1_sumOfBackAmounts 24 = .ok (.iload_n 1, 1) := by decide +kernel
theorem dX1_sumOfBackAmounts_25 : decode cX1_sumOfBackAmounts 25 = .ok (.ireturn, 1) := by decide +kernel
theorem dX1_orZero_0 : decode cX1_orZero 0 = .ok (.iload_n 0, 1) := by decide +kernel
theorem dX1_orZero_1 : decode cX1_orZero 1 = .ok (.ldc 78, 2) := by decide +kernel
theorem dX1_orZero_3 : decode cX1_orZero 3 = .ok (.if_icmp .ne 7, 3) := by decide +kernel
theorem dX1_orZero_6 : decode cX1_orZero 6 = .ok (.iconst 0, 1) := by decide +kernel
theorem dX1_orZero_7 : decode cX1_orZero 7 = .ok (.goto 4, 3) := by decide +kernel
theorem dX1_orZero_10 : decode cX1_orZero 10 = .ok (.iload_n 0, 1) := by decide +kernel
theorem dX1_orZero_11 : decode cX1_orZero 11 = .ok (.ireturn, 1) := by decide +kernel
set_option maxRecDepth 20000 in
theorem ggX1_remember_X1_slotAfter : GoodIn wsX1_remember wsX1_slotAfter := goodIn_r _ [9, 2, 10, 11, 12, 13, 44, 45, 46, 47, 48, 49, 50] (by decide +kernel) (by decide +kernel)
set_option maxRecDepth 20000 in
theorem gX1_remember_X1_slotAfter : GoodIn wsX1_remember (wsV RX1 138 RX1 yX1_slotAfter wsX1_slotAfter) := goodIn_app (goodIn_of _ (by decide +kernel)) ggX1_remember_X1_slotAfter
set_option maxRecDepth 20000 in
theorem ggX1_remember_X0_copyFrom : GoodIn wsX1_remember wsX0_copyFrom := goodIn_r _ [18, 19, 20, 21, 22, 23, 24, 25, 26, 27, 28, 29, 30, 31, 32, 33, 34, 8, 35, 36, 37, 38, 39, 40, 41, 42, 43, 51, 52, 53, 54, 55, 56, 57, 58, 59, 60, 61, 62, 63, 64, 65] (by decide +kernel) (by decide +kernel)
set_option maxRecDepth 20000 in
theorem gX1_remember_X0_copyFrom : GoodIn wsX1_remember (wsV RX1 141 RX0 yX0_copyFrom wsX0_copyFrom) := goodIn_app (goodIn_of _ (by decide +kernel)) ggX1_remember_X0_copyFrom
theorem dX1_remember_0 : decode cX1_remember 0 = .ok (.aload_n 0, 1) := by decide +kernel
theorem dX1_remember_1 : decode cX1_remember 1 = .ok (.getfield 24, 3) := by decide +kernel
theorem dX1_remember_4 : decode cX1_remember 4 = .ok (.iconst 5, 1) := by decide +kernel
theorem dX1_remember_5 : decode cX1_remember 5 = .ok (.if_icmp .ne 22, 3) := by decide +kernel
theorem dX1_remember_8 : decode cX1_remember 8 = .ok (.aload_n 0, 1) := by decide +kernel
theorem dX1_remember_9 : decode cX1_remember 9 = .ok (.aload_n 0, 1) := by decide +kernel
theorem dX1_remember_10 : decode cX1_remember 10 = .ok (.iconst 1, 1) := by decide +kernel
theorem dX1_remember_11 : decode cX1_remember 11 = .ok (.invokevirtual 138, 3) := by decide +kernel
theorem dX1_remember_14 : decode cX1_remember 14 = .ok (.putfield 20, 3) := by decide +kernel
theorem dX1_remember_17 : decode cX1_remember 17 = .ok (.aload_n 0, 1) := by decide +kernel
theorem dX1_remember_18 : decode cX1_remember 18 = .ok (.dup, 1) := by decide +kernel
theorem dX1_remember_19 : decode cX1_remember 19 = .ok (.getfield 24, 3) := by decide +kernel
theorem dX1_remember_22 : decode cX1_remember 22 = .ok (.iconst 1, 1) := by decide +kernel
theorem dX1_remember_23 : decode cX1_remember 23 = .ok (.isub, 1) := by decide +kernel
theorem dX1_remember_24 : decode cX1_remember 24 = .ok (.putfield 24, 3) := by decide +kernel
theorem dX1_remember_27 : decode cX1_remember 27 = .ok (.aload_n 0, 1) := by decide +kernel
theorem dX1_remember_28 : decode cX1_remember 28 = .ok (.getfield 16, 3) := by decide +kernel
theorem dX1_remember_31 : decode cX1_remember 31 = .ok (.aload_n 0, 1) := by decide +kernel
theorem dX1_remember_32 : decode cX1_remember 32 = .ok (.aload_n 0, 1) := by decide +kernel
theorem dX1_remember_33 : decode cX1_remember 33 = .ok (.getfield 24, 3) := by decide +kernel
theorem dX1_remember_36 : decode cX1_remember 36 = .ok (.invokevirtual 138, 3) := by decide +kernel
theorem dX1_remember_39 : decode cX1_remember 39 = .ok (.aaload, 1) := by decide +kernel
theorem dX1_remember_40 : decode cX1_remember 40 = .ok (.astore_n 1, 1) := by decide +kernel
theorem dX1_remember_41 : decode cX1_remember 41 = .ok (.aload_n 1, 1) := by decide +kernel
theorem dX1_remember_42 : decode cX1_remember 42 = .ok (.ifnull 11, 3) := by decide +kernel
theorem dX1_remember_45 : decode cX1_remember 45 = .ok (.aload_n 1, 1) := by decide +kernel
theorem dX1_remember_46 : decode cX1_remember 46 = .ok (.aload_n 0, 1) := by decide +kernel
theorem dX1_remember_47 : decode cX1_remember 47 = .ok (.getfield 10, 3) := by decide +kernel
theorem dX1_remember_50 : decode cX1_remember 50 = .ok (.invokevirtual 141, 3) := by decide +kernel
theorem dX1_remember_53 : decode cX1_remember 53 = .ok (.aload_n 0, 1) := by decide +kernel
theorem dX1_remember_54 : decode cX1_remember 54 = .ok (.dup, 1) := by decide +kernel
theorem dX1_remember_55 : decode cX1_remember 55 = .ok (.getfield 24, 3) := by decide +kernel
theorem dX1_remember_58 : decode cX1_remember 58 = .ok (.iconst 1, 1) := by decide +kernel
theorem dX1_remember_59 : decode cX1_remember 59 = .ok (.iadd, 1) := by decide +kernel
theorem dX1_remember_60 : decode cX1_remember 60 = .ok (.putfield 24, 3) := by decide +kernel
theorem dX1_remember_63 : decode cX1_remember 63 = .ok (.return_, 1) := by decide +kernel
set_option maxRecDepth 20000 in
theorem ggX1_slotAfter_J9_floorMod_7cf53 : GoodIn wsX1_slotAfter wsJ9_floorMod_7cf53 := goodIn_r _ [5] (by decide +kernel) (by decide +kernel)
set_option maxRecDepth 20000 in
theorem gX1_slotAfter_J9_floorMod_7cf53 : GoodIn wsX1_slotAfter (va_wsS RX1 214 yJ9_floorMod_7cf53 wsJ9_floorMod_7cf53) := goodIn_app (goodIn_of _ (by decide +kernel)) ggX1_slotAfter_J9_floorMod_7cf53
theorem dX1_slotAfter_0 : decode cX1_slotAfter 0 = .ok (.aload_n 0, 1) := by decide +kernel
theorem dX1_slotAfter_1 : decode cX1_slotAfter 1 = .ok (.getfield 20, 3) := by decide +kernel
theorem dX1_slotAfter_4 : decode cX1_slotAfter 4 = .ok (.iload_n 1, 1) := by decide +kernel
theorem dX1_slotAfter_5 : decode cX1_slotAfter 5 = .ok (.iadd, 1) := by decide +kernel
theorem dX1_slotAfter_6 : decode cX1_slotAfter 6 = .ok (.iconst 5, 1) := by decide +kernel
theorem dX1_slotAfter_7 : decode cX1_slotAfter 7 = .ok (.invokestatic 214, 3) := by decide +kernel
theorem dX1_slotAfter_10 : decode cX1_slotAfter 10 = .ok (.ireturn, 1) := by decide +kernel
theorem dX1_copyRow_0 : decode cX1_copyRow 0 = .ok (.aload_n 0, 1) := by decide +kernel
theorem dX1_copyRow_1 : decode cX1_copyRow 1 = .ok (.iconst 0, 1) := by decide +kernel
theorem dX1_copyRow_2 : decode cX1_copyRow 2 = .ok (.aload_n 1, 1) := by decide +kernel
theorem dX1_copyRow_3 : decode cX1_copyRow 3 = .ok (.iconst 0, 1) := by decide +kernel
theorem dX1_copyRow_4 : decode cX1_copyRow 4 = .ok (.aload_n 0, 1) := by decide +kernel
theorem dX1_copyRow_5 : decode cX1_copyRow 5 = .ok (.arraylength, 1) := by decide +kernel
theorem dX1_copyRow_6 : decode cX1_copyRow 6 = .ok (.aload_n 1, 1) := by decide +kernel
theorem dX1_copyRow_7 : decode cX1_copyRow 7 = .ok (.arraylength, 1) := by decide +kernel
theorem dX1_copyRow_8 : decode cX1_copyRow 8 = .ok (.invokestatic 205, 3) := by decide +kernel
theorem dX1_copyRow_11 : decode cX1_copyRow 11 = .ok (.invokestatic 217, 3) := by decide +kernel
theorem dX1_copyRow_14 : decode cX1_copyRow 14 = .ok (.return_, 1) := by decide +kernel
theorem dX1_fillRow_0 : decode cX1_fillRow 0 = .ok (.iconst 0, 1) := by decide +kernel
theorem dX1_fillRow_1 : decode cX1_fillRow 1 = .ok (.istore_n 2, 1) := by decide +kernel
theorem dX1_fillRow_2 : decode cX1_fillRow 2 = .ok (.iload_n 2, 1) := by decide +kernel
theorem dX1_fillRow_3 : decode cX1_fillRow 3 = .ok (.aload_n 0, 1) := by decide +kernel
theorem dX1_fillRow_4 : decode cX1_fillRow 4 = .ok (.arraylength, 1) := by decide +kernel
theorem dX1_fillRow_5 : decode cX1_fillRow 5 = .ok (.if_icmp .ge 13, 3) := by decide +kernel
theorem dX1_fillRow_8 : decode cX1_fillRow 8 = .ok (.aload_n 0, 1) := by decide +kernel
theorem dX1_fillRow_9 : decode cX1_fillRow 9 = .ok (.iload_n 2, 1) := by decide +kernel
theorem dX1_fillRow_10 : decode cX1_fillRow 10 = .ok (.iload_n 1, 1) := by decide +kernel
theorem dX1_fillRow_11 : decode cX1_fillRow 11 = .ok (.iastore, 1) := by decide +kernel
theorem dX1_fillRow_12 : decode cX1_fillRow 12 = .ok (.iinc 2 1, 3) := by decide +kernel
theorem dX1_fillRow_15 : decode cX1_fillRow 15 = .ok (.goto (-13), 3) := by decide +kernel
theorem dX1_fillRow_18 : decode cX1_fillRow 18 = .ok (.return_, 1) := by decide +kernel
theorem dX1_sumOf_0 : decode cX1_sumOf 0 = .ok (.iconst 0, 1) := by decide +kernel
theorem dX1_sumOf_1 : decode cX1_sumOf 1 = .ok (.istore_n 1, 1) := by decide +kernel
theorem dX1_sumOf_2 : decode cX1_sumOf 2 = .ok (.iconst 0, 1) := by decide +kernel
theorem dX1_sumOf_3 : decode cX1_sumOf 3 = .ok (.istore_n 2, 1) := by decide +kernel
theorem dX1_sumOf_4 : decode cX1_sumOf 4 = .ok (.iload_n 2, 1) := by decide +kernel
theorem dX1_sumOf_5 : decode cX1_sumOf 5 = .ok (.aload_n 0, 1) := by decide +kernel
theorem dX1_sumOf_6 : decode cX1_sumOf 6 = .ok (.arraylength, 1) := by decide +kernel
theorem dX1_sumOf_7 : decode cX1_sumOf 7 = .ok (.if_icmp .ge 15, 3) := by decide +kernel
theorem dX1_sumOf_10 : decode cX1_sumOf 10 = .ok (.iload_n 1, 1) := by decide +kernel
theorem dX1_sumOf_11 : decode cX1_sumOf 11 = .ok (.aload_n 0, 1) := by decide +kernel
theorem dX1_sumOf_12 : decode cX1_sumOf 12 = .ok (.iload_n 2, 1) := by decide +kernel
theorem dX1_sumOf_13 : decode cX1_sumOf 13 = .ok (.iaload, 1) := by decide +kernel
theorem dX1_sumOf_14 : decode cX1_sumOf 14 = .ok (.iadd, 1) := by decide +kernel
theorem dX1_sumOf_15 : decode cX1_sumOf 15 = .ok (.istore_n 1, 1) := by decide +kernel
theorem dX1_sumOf_16 : decode cX1_sumOf 16 = .ok (.iinc 2 1, 3) := by decide +kernel
theorem dX1_sumOf_19 : decode cX1_sumOf 19 = .ok (.goto (-15), 3) := by decide +kernel
theorem dX1_sumOf_22 : decode cX1_sumOf 22 = .ok (.iload_n 1, 1) := by decide +kernel
theorem dX1_sumOf_23 : decode cX1_sumOf 23 = .ok (.ireturn, 1) := by decide +kernel
theorem dX2_init_0 : decode cX2_init 0 = .ok (.aload_n 0, 1) := by decide +kernel
theorem dX2_init_1 : decode cX2_init 1 = .ok (.invokespecial 1, 3) := by decide +kernel
theorem dX2_init_4 : decode cX2_init 4 = .ok (.aload_n 0, 1) := by decide +kernel
theorem dX2_init_5 : decode cX2_init 5 = .ok (.sipush 182, 3) := by decide +kernel
theorem dX2_init_8 : decode cX2_init 8 = .ok (.newarray .int, 2) := by decide +kernel
theorem dX2_init_10 : decode cX2_init 10 = .ok (.putfield 7, 3) := by decide +kernel
theorem dX2_init_13 : decode cX2_init 13 = .ok (.aload_n 0, 1) := by decide +kernel
theorem dX2_init_14 : decode cX2_init 14 = .ok (.sipush 910, 3) := by decide +kernel
theorem dX2_init_17 : decode cX2_init 17 = .ok (.newarray .int, 2) := by decide +kernel
theorem dX2_init_19 : decode cX2_init 19 = .ok (.putfield 13, 3) := by decide +kernel
theorem dX2_init_22 : decode cX2_init 22 = .ok (.aload_n 0, 1) := by decide +kernel
theorem dX2_init_23 : decode cX2_init 23 = .ok (.bipush 8, 2) := by decide +kernel
theorem dX2_init_25 : decode cX2_init 25 = .ok (.newarray .int, 2) := by decide +kernel
theorem dX2_init_27 : decode cX2_init 27 = .ok (.putfield 16, 3) := by decide +kernel
theorem dX2_init_30 : decode cX2_init 30 = .ok (.aload_n 0, 1) := by decide +kernel
theorem dX2_init_31 : decode cX2_init 31 = .ok (.getfield 7, 3) := by decide +kernel
theorem dX2_init_34 : decode cX2_init 34 = .ok (.iconst 2, 1) := by decide +kernel
theorem dX2_init_35 : decode cX2_init 35 = .ok (.bipush 10, 2) := by decide +kernel
theorem dX2_init_37 : decode cX2_init 37 = .ok (.iastore, 1) := by decide +kernel
theorem dX2_init_38 : decode cX2_init 38 = .ok (.return_, 1) := by decide +kernel
theorem dX2_in_0 : decode cX2_in 0 = .ok (.iload_n 0, 1) := by decide +kernel
theorem dX2_in_1 : decode cX2_in 1 = .ok (.iload_n 1, 1) := by decide +kernel
theorem dX2_in_2 : decode cX2_in 2 = .ok (.if_icmp .lt 12, 3) := by decide +kernel
theorem dX2_in_5 : decode cX2_in 5 = .ok (.iload_n 0, 1) := by decide +kernel
theorem dX2_in_6 : decode cX2_in 6 = .ok (.iload_n 2, 1) := by decide +kernel
theorem dX2_in_7 : decode cX2_in 7 = .ok (.if_icmp .gt 7, 3) := by decide +kernel
theorem dX2_in_10 : decode cX2_in 10 = .ok (.iconst 1, 1) := by decide +kernel
theorem dX2_in_11 : decode cX2_in 11 = .ok (.goto 4, 3) := by decide +kernel
theorem dX2_in_14 : decode cX2_in 14 = .ok (.iconst 0, 1) := by decide +kernel
theorem dX2_in_15 : decode cX2_in 15 = .ok (.ireturn, 1) := by decide +kernel
theorem dX2_acts_0 : decode cX2_acts 0 = .ok (.aload_n 0, 1) := by decide +kernel
theorem dX2_acts_1 : decode cX2_acts 1 = .ok (.getfield 19, 3) := by decide +kernel
theorem dX2_acts_4 : decode cX2_acts 4 = .ok (.iconst 5, 1) := by decide +kernel
theorem dX2_acts_5 : decode cX2_acts 5 = .ok (.if_icmp .ne 44, 3) := by decide +kernel
theorem dX2_acts_8 : decode cX2_acts 8 = .ok (.iconst 0, 1) := by decide +kernel
theorem dX2_acts_9 : decode cX2_acts 9 = .ok (.istore_n 1, 1) := by decide +kernel
theorem dX2_acts_10 : decode cX2_acts 10 = .ok (.iload_n 1, 1) := by decide +kernel
theorem dX2_acts_11 : decode cX2_acts 11 = .ok (.sipush 728, 3) := by decide +kernel
theorem dX2_acts_14 : decode cX2_acts 14 = .ok (.if_icmp .ge 25, 3) := by decide +kernel
theorem dX2_acts_17 : decode cX2_acts 17 = .ok (.aload_n 0, 1) := by decide +kernel
theorem dX2_acts_18 : decode cX2_acts 18 = .ok (.getfield 13, 3) := by decide +kernel
theorem dX2_acts_21 : decode cX2_acts 21 = .ok (.iload_n 1, 1) := by decide +kernel
theorem dX2_acts_22 : decode cX2_acts 22 = .ok (.aload_n 0, 1) := by decide +kernel
theorem dX2_acts_23 : decode cX2_acts 23 = .ok (.getfield 13, 3) := by decide +kernel
theorem dX2_acts_26 : decode cX2_acts 26 = .ok (.iload_n 1, 1) := by decide +kernel
theorem dX2_acts_27 : decode cX2_acts 27 = .ok (.sipush 182, 3) := by decide +kernel
theorem dX2_acts_30 : decode cX2_acts 30 = .ok (.iadd, 1) := by decide +kernel
theorem dX2_acts_31 : decode cX2_acts 31 = .ok (.iaload, 1) := by decide +kernel
theorem dX2_acts_32 : decode cX2_acts 32 = .ok (.iastore, 1) := by decide +kernel
theorem dX2_acts_33 : decode cX2_acts 33 = .ok (.iinc 1 1, 3) := by decide +kernel
theorem dX2_acts_36 : decode cX2_acts 36 = .ok (.goto (-26), 3) := by decide +kernel
theorem dX2_acts_39 : decode cX2_acts 39 = .ok (.aload_n 0, 1) := by decide +kernel
theorem dX2_acts_40 : decode cX2_acts 40 = .ok (.dup, 1) := by decide +kernel
theorem dX2_acts_41 : decode cX2_acts 41 = .ok (.getfield 19, 3) := by decide +kernel
theorem dX2_acts_44 : decode cX2_acts 44 = .ok (.iconst 1, 1) := by decide +kernel
theorem dX2_acts_45 : decode cX2_acts 45 = .ok (.isub, 1) := by decide +kernel
theorem dX2_acts_46 : decode cX2_acts 46 = .ok (.putfield 19, 3) := by decide +kernel
theorem dX2_acts_49 : decode cX2_acts 49 = .ok (.iconst 0, 1) := by decide +kernel
theorem dX2_acts_50 : decode cX2_acts 50 = .ok (.istore_n 1, 1) := by decide +kernel
theorem dX2_acts_51 : decode cX2_acts 51 = .ok (.iload_n 1, 1) := by decide +kernel
theorem dX2_acts_52 : decode cX2_acts 52 = .ok (.sipush 182, 3) := by decide +kernel
theorem dX2_acts_55 : decode cX2_acts 55 = .ok (.if_icmp .ge 30, 3) := by decide +kernel
theorem dX2_acts_58 : decode cX2_acts 58 = .ok (.aload_n 0, 1) := by decide +kernel
theorem dX2_acts_59 : decode cX2_acts 59 = .ok (.getfield 13, 3) := by decide +kernel
theorem dX2_acts_62 : decode cX2_acts 62 = .ok (.sipush 182, 3) := by decide +kernel
theorem dX2_acts_65 : decode cX2_acts 65 = .ok (.aload_n 0, 1) := by decide +kernel
theorem dX2_acts_66 : decode cX2_acts 66 = .ok (.getfield 19, 3) := by decide +kernel
theorem dX2_acts_69 : decode cX2_acts 69 = .ok (.imul, 1) := by decide +kernel
theorem dX2_acts_70 : decode cX2_acts 70 = .ok (.iload_n 1, 1) := by decide +kernel
theorem dX2_acts_71 : decode cX2_acts 71 = .ok (.iadd, 1) := by decide +kernel
theorem dX2_acts_72 : decode cX2_acts 72 = .ok (.aload_n 0, 1) := by decide +kernel
theorem dX2_acts_73 : decode cX2_acts 73 = .ok (.getfield 7, 3) := by decide +kernel
theorem dX2_acts_76 : decode cX2_acts 76 = .ok (.iload_n 1, 1) := by decide +kernel
theorem dX2_acts_77 : decode cX2_acts 77 = .ok (.iaload, 1) := by decide +kernel
theorem dX2_acts_78 : decode cX2_acts 78 = .ok (.iastore, 1) := by decide +kernel
theorem dX2_acts_79 : decode cX2_acts 79 = .ok (.iinc 1 1, 3) := by decide +kernel
theorem dX2_acts_82 : decode cX2_acts 82 = .ok (.goto (-31), 3) := by decide +kernel
theorem dX2_acts_85 : decode cX2_acts 85 = .ok (.aload_n 0, 1) := by decide +kernel
theorem dX2_acts_86 : decode cX2_acts 86 = .ok (.dup, 1) := by decide +kernel
theorem dX2_acts_87 : decode cX2_acts 87 = .ok (.getfield 19, 3) := by decide +kernel
theorem dX2_acts_90 : decode cX2_acts 90 = .ok (.iconst 1, 1) := by decide +kernel
theorem dX2_acts_91 : decode cX2_acts 91 = .ok (.iadd, 1) := by decide +kernel
theorem dX2_acts_92 : decode cX2_acts 92 = .ok (.putfield 19, 3) := by decide +kernel
theorem dX2_acts_95 : decode cX2_acts 95 = .ok (.return_, 1) := by decide +kernel
set_option maxRecDepth 20000 in
theorem ggX2_isCell_X2_in : GoodIn wsX2_isCell wsX2_in := goodIn_r _ [4] (by decide +kernel) (by decide +kernel)
set_option maxRecDepth 20000 in
theorem gX2_isCell_X2_in : GoodIn wsX2_isCell (va_wsS RX2 23 yX2_in wsX2_in) := goodIn_app (goodIn_of _ (by decide +kernel)) ggX2_isCell_X2_in
theorem dX2_isCell_0 : decode cX2_isCell 0 = .ok (.iload_n 0, 1) := by decide +kernel
theorem dX2_isCell_1 : decode cX2_isCell 1 = .ok (.iconst 0, 1) := by decide +kernel
theorem dX2_isCell_2 : decode cX2_isCell 2 = .ok (.bipush 23, 2) := by decide +kernel
theorem dX2_isCell_4 : decode cX2_isCell 4 = .ok (.invokestatic 23, 3) := by decide +kernel
theorem dX2_isCell_7 : decode cX2_isCell 7 = .ok (.ireturn, 1) := by decide +kernel
theorem dX2_isWalker_0 : decode cX2_isWalker 0 = .ok (.iload_n 1, 1) := by decide +kernel
theorem dX2_isWalker_1 : decode cX2_isWalker 1 = .ok (.ifCond .lt 17, 3) := by decide +kernel
theorem dX2_isWalker_4 : decode cX2_isWalker 4 = .ok (.iload_n 1, 1) := by decide +kernel
theorem dX2_isWalker_5 : decode cX2_isWalker 5 = .ok (.aload_n 0, 1) := by decide +kernel
theorem dX2_isWalker_6 : decode cX2_isWalker 6 = .ok (.getfield 7, 3) := by decide +kernel
theorem dX2_isWalker_9 : decode cX2_isWalker 9 = .ok (.iconst 1, 1) := by decide +kernel
theorem dX2_isWalker_10 : decode cX2_isWalker 10 = .ok (.iaload, 1) := by decide +kernel
theorem dX2_isWalker_11 : decode cX2_isWalker 11 = .ok (.if_icmp .ge 7, 3) := by decide +kernel
theorem dX2_isWalker_14 : decode cX2_isWalker 14 = .ok (.iconst 1, 1) := by decide +kernel
theorem dX2_isWalker_15 : decode cX2_isWalker 15 = .ok (.goto 4, 3) := by decide +kernel
theorem dX2_isWalker_18 : decode cX2_isWalker 18 = .ok (.iconst 0, 1) := by decide +kernel
theorem dX2_isWalker_19 : decode cX2_isWalker 19 = .ok (.ireturn, 1) := by decide +kernel
theorem dX2_of_0 : decode cX2_of 0 = .ok (.aload_n 0, 1) := by decide +kernel
theorem dX2_of_1 : decode cX2_of 1 = .ok (.getfield 7, 3) := by decide +kernel
theorem dX2_of_4 : decode cX2_of 4 = .ok (.bipush 6, 2) := by decide +kernel
theorem dX2_of_6 : decode cX2_of 6 = .ok (.iconst 4, 1) := by decide +kernel
theorem dX2_of_7 : decode cX2_of 7 = .ok (.iload_n 1, 1) := by decide +kernel
theorem dX2_of_8 : decode cX2_of 8 = .ok (.imul, 1) := by decide +kernel
theorem dX2_of_9 : decode cX2_of 9 = .ok (.iadd, 1) := by decide +kernel
theorem dX2_of_10 : decode cX2_of 10 = .ok (.iload_n 2, 1) := by decide +kernel
theorem dX2_of_11 : decode cX2_of 11 = .ok (.iadd, 1) := by decide +kernel
theorem dX2_of_12 : decode cX2_of 12 = .ok (.iaload, 1) := by decide +kernel
theorem dX2_of_13 : decode cX2_of 13 = .ok (.ireturn, 1) := by decide +kernel
theorem dX2_ofWalker_0 : decode cX2_ofWalker 0 = .ok (.aload_n 0, 1) := by decide +kernel
theorem dX2_ofWalker_1 : decode cX2_ofWalker 1 = .ok (.getfield 7, 3) := by decide +kernel
theorem dX2_ofWalker_4 : decode cX2_ofWalker 4 = .ok (.bipush 102, 2) := by decide +kernel
theorem dX2_ofWalker_6 : decode cX2_ofWalker 6 = .ok (.bipush 10, 2) := by decide +kernel
theorem dX2_ofWalker_8 : decode cX2_ofWalker 8 = .ok (.iload_n 1, 1) := by decide +kernel
theorem dX2_ofWalker_9 : decode cX2_ofWalker 9 = .ok (.imul, 1) := by decide +kernel
theorem dX2_ofWalker_10 : decode cX2_ofWalker 10 = .ok (.iadd, 1) := by decide +kernel
theorem dX2_ofWalker_11 : decode cX2_ofWalker 11 = .ok (.iload_n 2, 1) := by decide +kernel
theorem dX2_ofWalker_12 : decode cX2_ofWalker 12 = .ok (.iadd, 1) := by decide +kernel
theorem dX2_ofWalker_13 : decode cX2_ofWalker 13 = .ok (.iaload, 1) := by decide +kernel
theorem dX2_ofWalker_14 : decode cX2_ofWalker 14 = .ok (.ireturn, 1) := by decide +kernel
set_option maxRecDepth 20000 in
theorem ggX2_isAboard_X2_ofWalker : GoodIn wsX2_isAboard wsX2_ofWalker := goodIn_r _ [6, 7, 8, 9, 10, 11, 12] (by decide +kernel) (by decide +kernel)
set_option maxRecDepth 20000 in
theorem gX2_isAboard_X2_ofWalker : GoodIn wsX2_isAboard (wsV RX2 27 RX2 yX2_ofWalker wsX2_ofWalker) := goodIn_app (goodIn_of _ (by decide +kernel)) ggX2_isAboard_X2_ofWalker
theorem dX2_isAboard_0 : decode cX2_isAboard 0 = .ok (.aload_n 0, 1) := by decide +kernel
theorem dX2_isAboard_1 : decode cX2_isAboard 1 = .ok (.iload_n 1, 1) := by decide +kernel
theorem dX2_isAboard_2 : decode cX2_isAboard 2 = .ok (.iconst 1, 1) := by decide +kernel
theorem dX2_isAboard_3 : decode cX2_isAboard 3 = .ok (.invokevirtual 27, 3) := by decide +kernel
theorem dX2_isAboard_6 : decode cX2_isAboard 6 = .ok (.ldc 31, 2) := by decide +kernel
theorem dX2_isAboard_8 : decode cX2_isAboard 8 = .ok (.if_icmp .eq 7, 3) := by decide +kernel
theorem dX2_isAboard_11 : decode cX2_isAboard 11 = .ok (.iconst 1, 1) := by decide +kernel
theorem dX2_isAboard_12 : decode cX2_isAboard 12 = .ok (.goto 4, 3) := by decide +kernel
theorem dX2_isAboard_15 : decode cX2_isAboard 15 = .ok (.iconst 0, 1) := by decide +kernel
theorem dX2_isAboard_16 : decode cX2_isAboard 16 = .ok (.ireturn, 1) := by decide +kernel
theorem dX2_areNeighbors_0 : decode cX2_areNeighbors 0 = .ok (.iload_n 0, 1) := by decide +kernel
theorem dX2_areNeighbors_1 : decode cX2_areNeighbors 1 = .ok (.iload_n 1, 1) := by decide +kernel
theorem dX2_areNeighbors_2 : decode cX2_areNeighbors 2 = .ok (.if_icmp .ge 9, 3) := by decide +kernel
theorem dX2_areNeighbors_5 : decode cX2_areNeighbors 5 = .ok (.iload_n 1, 1) := by decide +kernel
theorem dX2_areNeighbors_6 : decode cX2_areNeighbors 6 = .ok (.iload_n 0, 1) := by decide +kernel
theorem dX2_areNeighbors_7 : decode cX2_areNeighbors 7 = .ok (.isub, 1) := by decide +kernel
theorem dX2_areNeighbors_8 : decode cX2_areNeighbors 8 = .ok (.goto 6, 3) := by decide +kernel
theorem dX2_areNeighbors_11 : decode cX2_areNeighbors 11 = .ok (.iload_n 0, 1) := by decide +kernel
theorem dX2_areNeighbors_12 : decode cX2_areNeighbors 12 = .ok (.iload_n 1, 1) := by decide +kernel
theorem dX2_areNeighbors_13 : decode cX2_areNeighbors 13 = .ok (.isub, 1) := by decide +kernel
theorem dX2_areNeighbors_14 : decode cX2_areNeighbors 14 = .ok (.istore_n 2, 1) := by decide +kernel
theorem dX2_areNeighbors_15 : decode cX2_areNeighbors 15 = .ok (.iload_n 2, 1) := by decide +kernel
theorem dX2_areNeighbors_16 : decode cX2_areNeighbors 16 = .ok (.bipush 6, 2) := by decide +kernel
theorem dX2_areNeighbors_18 : decode cX2_areNeighbors 18 = .ok (.if_icmp .eq 19, 3) := by decide +kernel
theorem dX2_areNeighbors_21 : decode cX2_areNeighbors 21 = .ok (.iload_n 2, 1) := by decide +kernel
theorem dX2_areNeighbors_22 : decode cX2_areNeighbors 22 = .ok (.iconst 1, 1) := by decide +kernel
theorem dX2_areNeighbors_23 : decode cX2_areNeighbors 23 = .ok (.if_icmp .ne 18, 3) := by decide +kernel
theorem dX2_areNeighbors_26 : decode cX2_areNeighbors 26 = .ok (.iload_n 0, 1) := by decide +kernel
theorem dX2_areNeighbors_27 : decode cX2_areNeighbors 27 = .ok (.bipush 6, 2) := by decide +kernel
theorem dX2_areNeighbors_29 : decode cX2_areNeighbors 29 = .ok (.idiv, 1) := by decide +kernel
theorem dX2_areNeighbors_30 : decode cX2_areNeighbors 30 = .ok (.iload_n 1, 1) := by decide +kernel
theorem dX2_areNeighbors_31 : decode cX2_areNeighbors 31 = .ok (.bipush 6, 2) := by decide +kernel
theorem dX2_areNeighbors_33 : decode cX2_areNeighbors 33 = .ok (.idiv, 1) := by decide +kernel
theorem dX2_areNeighbors_34 : decode cX2_areNeighbors 34 = .ok (.if_icmp .ne 7, 3) := by decide +kernel
theorem dX2_areNeighbors_37 : decode cX2_areNeighbors 37 = .ok (.iconst 1, 1) := by decide +kernel
theorem dX2_areNeighbors_38 : decode cX2_areNeighbors 38 = .ok (.goto 4, 3) := by decide +kernel
theorem dX2_areNeighbors_41 : decode cX2_areNeighbors 41 = .ok (.iconst 0, 1) := by decide +kernel
theorem dX2_areNeighbors_42 : decode cX2_areNeighbors 42 = .ok (.ireturn, 1) := by decide +kernel
set_option maxRecDepth 20000 in
theorem ggX2_neighbors_X2_areNeighbors : GoodIn wsX2_neighbors wsX2_areNeighbors := goodIn_r _ [4] (by decide +kernel) (by decide +kernel)
set_option maxRecDepth 20000 in
theorem gX2_neighbors_X2_areNeighbors : GoodIn wsX2_neighbors (va_wsS RX2 32 yX2_areNeighbors wsX2_areNeighbors) := goodIn_app (goodIn_of _ (by decide +kernel)) ggX2_neighbors_X2_areNeighbors
theorem dX2_neighbors_0 : decode cX2_neighbors 0 = .ok (.iconst 0, 1) := by decide +kernel
theorem dX2_neighbors_1 : decode cX2_neighbors 1 = .ok (.istore_n 1, 1) := by decide +kernel
theorem dX2_neighbors_2 : decode cX2_neighbors 2 = .ok (.iconst 0, 1) := by decide +kernel
theorem dX2_neighbors_3 : decode cX2_neighbors 3 = .ok (.istore_n 2, 1) := by decide +kernel
theorem dX2_neighbors_4 : decode cX2_neighbors 4 = .ok (.iload_n 2, 1) := by decide +kernel
theorem dX2_neighbors_5 : decode cX2_neighbors 5 = .ok (.bipush 24, 2) := by decide +kernel
theorem dX2_neighbors_7 : decode cX2_neighbors 7 = .ok (.if_icmp .ge 25, 3) := by decide +kernel
theorem dX2_neighbors_10 : decode cX2_neighbors 10 = .ok (.iload_n 1, 1) := by decide +kernel
theorem dX2_neighbors_11 : decode cX2_neighbors 11 = .ok (.iload_n 0, 1) := by decide +kernel
theorem dX2_neighbors_12 : decode cX2_neighbors 12 = .ok (.iload_n 2, 1) := by decide +kernel
theorem dX2_neighbors_13 : decode cX2_neighbors 13 = .ok (.invokestatic 32, 3) := by decide +kernel
theorem dX2_neighbors_16 : decode cX2_neighbors 16 = .ok (.ifCond .eq 7, 3) := by decide +kernel
theorem dX2_neighbors_19 : decode cX2_neighbors 19 = .ok (.iconst 1, 1) := by decide +kernel
theorem dX2_neighbors_20 : decode cX2_neighbors 20 = .ok (.goto 4, 3) := by decide +kernel
theorem dX2_neighbors_23 : decode cX2_neighbors 23 = .ok (.iconst 0, 1) := by decide +kernel
theorem dX2_neighbors_24 : decode cX2_neighbors 24 = .ok (.iadd, 1) := by decide +kernel
theorem dX2_neighbors_25 : decode cX2_neighbors 25 = .ok (.istore_n 1, 1) := by decide +kernel
theorem dX2_neighbors_26 : decode cX2_neighbors 26 = .ok (.iinc 2 1, 3) := by decide +kernel
theorem dX2_neighbors_29 : decode cX2_neighbors 29 = .ok (.goto (-25), 3) := by decide +kernel
theorem dX2_neighbors_32 : decode cX2_neighbors 32 = .ok (.iload_n 1, 1) := by decide +kernel
theorem dX2_neighbors_33 : decode cX2_neighbors 33 = .ok (.ireturn, 1) := by decide +kernel
set_option maxRecDepth 20000 in
theorem ggX2_share_X2_neighbors : GoodIn wsX2_share wsX2_neighbors := goodIn_r _ [4, 5, 6, 3, 7] (by decide +kernel) (by decide +kernel)
set_option maxRecDepth 20000 in
theorem gX2_share_X2_neighbors : GoodIn wsX2_share (va_wsS RX2 36 yX2_neighbors wsX2_neighbors) := goodIn_app (goodIn_of _ (by decide +kernel)) ggX2_share_X2_neighbors
set_option maxRecDepth 20000 in
theorem ggX2_share_X2_areNeighbors : GoodIn wsX2_share wsX2_areNeighbors := goodIn_r _ [7] (by decide +kernel) (by decide +kernel)
set_option maxRecDepth 20000 in
theorem gX2_share_X2_areNeighbors : GoodIn wsX2_share (va_wsS RX2 32 yX2_areNeighbors wsX2_areNeighbors) := goodIn_app (goodIn_of _ (by decide +kernel)) ggX2_share_X2_areNeighbors
theorem dX2_share_0 : decode cX2_share 0 = .ok (.iload_n 1, 1) := by decide +kernel
theorem dX2_share_1 : decode cX2_share 1 = .ok (.iload_n 2, 1) := by decide +kernel
theorem dX2_share_2 : decode cX2_share 2 = .ok (.if_icmp .ne 17, 3) := by decide +kernel
theorem dX2_share_5 : decode cX2_share 5 = .ok (.iload_n 0, 1) := by decide +kernel
theorem dX2_share_6 : decode cX2_share 6 = .ok (.iload_n 1, 1) := by decide +kernel
theorem dX2_share_7 : decode cX2_share 7 = .ok (.invokestatic 36, 3) := by decide +kernel
theorem dX2_share_10 : decode cX2_share 10 = .ok (.iload_n 0, 1) := by decide +kernel
theorem dX2_share_11 : decode cX2_share 11 = .ok (.bipush 8, 2) := by decide +kernel
theorem dX2_share_13 : decode cX2_share 13 = .ok (.idiv, 1) := by decide +kernel
theorem dX2_share_14 : decode cX2_share 14 = .ok (.imul, 1) := by decide +kernel
theorem dX2_share_15 : decode cX2_share 15 = .ok (.isub, 1) := by decide +kernel
theorem dX2_share_16 : decode cX2_share 16 = .ok (.goto 19, 3) := by decide +kernel
theorem dX2_share_19 : decode cX2_share 19 = .ok (.iload_n 1, 1) := by decide +kernel
theorem dX2_share_20 : decode cX2_share 20 = .ok (.iload_n 2, 1) := by decide +kernel
theorem dX2_share_21 : decode cX2_share 21 = .ok (.invokestatic 32, 3) := by decide +kernel
theorem dX2_share_24 : decode cX2_share 24 = .ok (.ifCond .eq 10, 3) := by decide +kernel
theorem dX2_share_27 : decode cX2_share 27 = .ok (.iload_n 0, 1) := by decide +kernel
theorem dX2_share_28 : decode cX2_share 28 = .ok (.bipush 8, 2) := by decide +kernel
theorem dX2_share_30 : decode cX2_share 30 = .ok (.idiv, 1) := by decide +kernel
theorem dX2_share_31 : decode cX2_share 31 = .ok (.goto 4, 3) := by decide +kernel
theorem dX2_share_34 : decode cX2_share 34 = .ok (.iconst 0, 1) := by decide +kernel
theorem dX2_share_35 : decode cX2_share 35 = .ok (.ireturn, 1) := by decide +kernel
set_option maxRecDepth 20000 in
theorem ggX2_shares_X2_isAboard : GoodIn wsX2_shares wsX2_isAboard := goodIn_r _ [6, 7, 8, 9, 10, 5, 11, 1, 21, 22, 23, 24, 25] (by decide +kernel) (by decide +kernel)
set_option maxRecDepth 20000 in
theorem gX2_shares_X2_isAboard : GoodIn wsX2_shares (wsV RX2 40 RX2 yX2_isAboard wsX2_isAboard) := goodIn_app (goodIn_of _ (by decide +kernel)) ggX2_shares_X2_isAboard
set_option maxRecDepth 20000 in
theorem ggX2_shares_X2_ofWalker : GoodIn wsX2_shares wsX2_ofWalker := goodIn_r _ [11, 1, 21, 22, 23, 24, 25] (by decide +kernel) (by decide +kernel)
set_option maxRecDepth 20000 in
theorem gX2_shares_X2_ofWalker : GoodIn wsX2_shares (wsV RX2 27 RX2 yX2_ofWalker wsX2_ofWalker) := goodIn_app (goodIn_of _ (by decide +kernel)) ggX2_shares_X2_ofWalker
set_option maxRecDepth 20000 in
theorem ggX2_shares_X2_share : GoodIn wsX2_shares wsX2_share := goodIn_r _ [14, 15, 16, 5, 17, 18, 19, 20] (by decide +kernel) (by decide +kernel)
set_option maxRecDepth 20000 in
theorem gX2_shares_X2_share : GoodIn wsX2_shares (va_wsS RX2 44 yX2_share wsX2_share) := goodIn_app (goodIn_of _ (by decide +kernel)) ggX2_shares_X2_share
theorem dX2_shares_0 : decode cX2_shares 0 = .ok (.iconst 0, 1) := by decide +kernel
theorem dX2_shares_1 : decode cX2_shares 1 = .ok (.istore_n 2, 1) := by decide +kernel
theorem dX2_shares_2 : decode cX2_shares 2 = .ok (.iconst 0, 1) := by decide +kernel
theorem dX2_shares_3 : decode cX2_shares 3 = .ok (.istore_n 3, 1) := by decide +kernel
theorem dX2_shares_4 : decode cX2_shares 4 = .ok (.iload_n 3, 1) := by decide +kernel
theorem dX2_shares_5 : decode cX2_shares 5 = .ok (.aload_n 0, 1) := by decide +kernel
theorem dX2_shares_6 : decode cX2_shares 6 = .ok (.getfield 7, 3) := by decide +kernel
theorem dX2_shares_9 : decode cX2_shares 9 = .ok (.iconst 1, 1) := by decide +kernel
theorem dX2_shares_10 : decode cX2_shares 10 = .ok (.iaload, 1) := by decide +kernel
theorem dX2_shares_11 : decode cX2_shares 11 = .ok (.if_icmp .ge 40, 3) := by decide +kernel
theorem dX2_shares_14 : decode cX2_shares 14 = .ok (.iload_n 2, 1) := by decide +kernel
theorem dX2_shares_15 : decode cX2_shares 15 = .ok (.aload_n 0, 1) := by decide +kernel
theorem dX2_shares_16 : decode cX2_shares 16 = .ok (.iload_n 3, 1) := by decide +kernel
theorem dX2_shares_17 : decode cX2_shares 17 = .ok (.invokevirtual 40, 3) := by decide +kernel
theorem dX2_shares_20 : decode cX2_shares 20 = .ok (.ifCond .eq 22, 3) := by decide +kernel
theorem dX2_shares_23 : decode cX2_shares 23 = .ok (.aload_n 0, 1) := by decide +kernel
theorem dX2_shares_24 : decode cX2_shares 24 = .ok (.iload_n 3, 1) := by decide +kernel
theorem dX2_shares_25 : decode cX2_shares 25 = .ok (.iconst 0, 1) := by decide +kernel
theorem dX2_shares_26 : decode cX2_shares 26 = .ok (.invokevirtual 27, 3) := by decide +kernel
theorem dX2_shares_29 : decode cX2_shares 29 = .ok (.aload_n 0, 1) := by decide +kernel
theorem dX2_shares_30 : decode cX2_shares 30 = .ok (.iload_n 3, 1) := by decide +kernel
theorem dX2_shares_31 : decode cX2_shares 31 = .ok (.iconst 1, 1) := by decide +kernel
theorem dX2_shares_32 : decode cX2_shares 32 = .ok (.invokevirtual 27, 3) := by decide +kernel
theorem dX2_shares_35 : decode cX2_shares 35 = .ok (.iload_n 1, 1) := by decide +kernel
theorem dX2_shares_36 : decode cX2_shares 36 = .ok (.invokestatic 44, 3) := by decide +kernel
theorem dX2_shares_39 : decode cX2_shares 39 = .ok (.goto 4, 3) := by decide +kernel
theorem dX2_shares_42 : decode cX2_shares 42 = .ok (.iconst 0, 1) := by decide +kernel
theorem dX2_shares_43 : decode cX2_shares 43 = .ok (.iadd, 1) := by decide +kernel
theorem dX2_shares_44 : decode cX2_shares 44 = .ok (.istore_n 2, 1) := by decide +kernel
theorem dX2_shares_45 : decode cX2_shares 45 = .ok (.iinc 3 1, 3) := by decide +kernel
theorem dX2_shares_48 : decode cX2_shares 48 = .ok (.goto (-44), 3) := by decide +kernel
theorem dX2_shares_51 : decode cX2_shares 51 = .ok (.iload_n 2, 1) := by decide +kernel
theorem dX2_shares_52 : decode cX2_shares 52 = .ok (.ireturn, 1) := by decide +kernel
set_option maxRecDepth 20000 in
theorem ggX2_reading_X2_shares : GoodIn wsX2_reading wsX2_shares := goodIn_r _ [5, 6, 7, 8, 9, 4, 10, 11, 12, 13, 14, 15, 16, 17, 18, 19, 20, 21, 22, 23, 24, 29, 30, 31, 32, 33] (by decide +kernel) (by decide +kernel)
set_option maxRecDepth 20000 in
theorem gX2_reading_X2_shares : GoodIn wsX2_reading (wsV RX2 48 RX2 yX2_shares wsX2_shares) := goodIn_app (goodIn_of _ (by decide +kernel)) ggX2_reading_X2_shares
set_option maxRecDepth 20000 in
theorem ggX2_reading_X2_of : GoodIn wsX2_reading wsX2_of := goodIn_r _ [28, 6, 29, 30, 31, 32, 33] (by decide +kernel) (by decide +kernel)
set_option maxRecDepth 20000 in
theorem gX2_reading_X2_of : GoodIn wsX2_reading (wsV RX2 51 RX2 yX2_of wsX2_of) := goodIn_app (goodIn_of _ (by decide +kernel)) ggX2_reading_X2_of
theorem dX2_reading_0 : decode cX2_reading 0 = .ok (.aload_n 0, 1) := by decide +kernel
theorem dX2_reading_1 : decode cX2_reading 1 = .ok (.iload_n 1, 1) := by decide +kernel
theorem dX2_reading_2 : decode cX2_reading 2 = .ok (.invokevirtual 48, 3) := by decide +kernel
theorem dX2_reading_5 : decode cX2_reading 5 = .ok (.aload_n 0, 1) := by decide +kernel
theorem dX2_reading_6 : decode cX2_reading 6 = .ok (.iload_n 1, 1) := by decide +kernel
theorem dX2_reading_7 : decode cX2_reading 7 = .ok (.iconst 0, 1) := by decide +kernel
theorem dX2_reading_8 : decode cX2_reading 8 = .ok (.invokevirtual 51, 3) := by decide +kernel
theorem dX2_reading_11 : decode cX2_reading 11 = .ok (.iadd, 1) := by decide +kernel
theorem dX2_reading_12 : decode cX2_reading 12 = .ok (.ireturn, 1) := by decide +kernel
set_option maxRecDepth 20000 in
theorem ggX2_booked_X2_isAboard : GoodIn wsX2_booked wsX2_isAboard := goodIn_r _ [6, 7, 8, 9, 10, 5, 11, 1, 21, 22, 23, 24, 25] (by decide +kernel) (by decide +kernel)
set_option maxRecDepth 20000 in
theorem gX2_booked_X2_isAboard : GoodIn wsX2_booked (wsV RX2 40 RX2 yX2_isAboard wsX2_isAboard) := goodIn_app (goodIn_of _ (by decide +kernel)) ggX2_booked_X2_isAboard
set_option maxRecDepth 20000 in
theorem ggX2_booked_X2_ofWalker : GoodIn wsX2_booked wsX2_ofWalker := goodIn_r _ [11, 1, 21, 22, 23, 24, 25] (by decide +kernel) (by decide +kernel)
set_option maxRecDepth 20000 in
theorem gX2_booked_X2_ofWalker : GoodIn wsX2_booked (wsV RX2 27 RX2 yX2_ofWalker wsX2_ofWalker) := goodIn_app (goodIn_of _ (by decide +kernel)) ggX2_booked_X2_ofWalker
set_option maxRecDepth 20000 in
theorem ggX2_booked_X2_share : GoodIn wsX2_booked wsX2_share := goodIn_r _ [14, 15, 16, 5, 17, 18, 19, 20] (by decide +kernel) (by decide +kernel)
set_option maxRecDepth 20000 in
theorem gX2_booked_X2_share : GoodIn wsX2_booked (va_wsS RX2 44 yX2_share wsX2_share) := goodIn_app (goodIn_of _ (by decide +kernel)) ggX2_booked_X2_share
theorem dX2_booked_0 : decode cX2_booked 0 = .ok (.iconst 0, 1) := by decide +kernel
theorem dX2_booked_1 : decode cX2_booked 1 = .ok (.istore_n 3, 1) := by decide +kernel
theorem dX2_booked_2 : decode cX2_booked 2 = .ok (.iconst 0, 1) := by decide +kernel
theorem dX2_booked_3 : decode cX2_booked 3 = .ok (.istore 4, 2) := by decide +kernel
theorem dX2_booked_5 : decode cX2_booked 5 = .ok (.iload 4, 2) := by decide +kernel
theorem dX2_booked_7 : decode cX2_booked 7 = .ok (.aload_n 0, 1) := by decide +kernel
theorem dX2_booked_8 : decode cX2_booked 8 = .ok (.getfield 7, 3) := by decide +kernel
theorem dX2_booked_11 : decode cX2_booked 11 = .ok (.iconst 1, 1) := by decide +kernel
theorem dX2_booked_12 : decode cX2_booked 12 = .ok (.iaload, 1) := by decide +kernel
theorem dX2_booked_13 : decode cX2_booked 13 = .ok (.if_icmp .ge 49, 3) := by decide +kernel
theorem dX2_booked_16 : decode cX2_booked 16 = .ok (.iload_n 3, 1) := by decide +kernel
theorem dX2_booked_17 : decode cX2_booked 17 = .ok (.aload_n 0, 1) := by decide +kernel
theorem dX2_booked_18 : decode cX2_booked 18 = .ok (.iload 4, 2) := by decide +kernel
theorem dX2_booked_20 : decode cX2_booked 20 = .ok (.invokevirtual 40, 3) := by decide +kernel
theorem dX2_booked_23 : decode cX2_booked 23 = .ok (.ifCond .eq 30, 3) := by decide +kernel
theorem dX2_booked_26 : decode cX2_booked 26 = .ok (.iload 4, 2) := by decide +kernel
theorem dX2_booked_28 : decode cX2_booked 28 = .ok (.iload_n 2, 1) := by decide +kernel
theorem dX2_booked_29 : decode cX2_booked 29 = .ok (.if_icmp .eq 24, 3) := by decide +kernel
theorem dX2_booked_32 : decode cX2_booked 32 = .ok (.aload_n 0, 1) := by decide +kernel
theorem dX2_booked_33 : decode cX2_booked 33 = .ok (.iload 4, 2) := by decide +kernel
theorem dX2_booked_35 : decode cX2_booked 35 = .ok (.iconst 2, 1) := by decide +kernel
theorem dX2_booked_36 : decode cX2_booked 36 = .ok (.invokevirtual 27, 3) := by decide +kernel
theorem dX2_booked_39 : decode cX2_booked 39 = .ok (.aload_n 0, 1) := by decide +kernel
theorem dX2_booked_40 : decode cX2_booked 40 = .ok (.iload 4, 2) := by decide +kernel
theorem dX2_booked_42 : decode cX2_booked 42 = .ok (.iconst 3, 1) := by decide +kernel
theorem dX2_booked_43 : decode cX2_booked 43 = .ok (.invokevirtual 27, 3) := by decide +kernel
theorem dX2_booked_46 : decode cX2_booked 46 = .ok (.iload_n 1, 1) := by decide +kernel
theorem dX2_booked_47 : decode cX2_booked 47 = .ok (.invokestatic 44, 3) := by decide +kernel
theorem dX2_booked_50 : decode cX2_booked 50 = .ok (.goto 4, 3) := by decide +kernel
theorem dX2_booked_53 : decode cX2_booked 53 = .ok (.iconst 0, 1) := by decide +kernel
theorem dX2_booked_54 : decode cX2_booked 54 = .ok (.iadd, 1) := by decide +kernel
theorem dX2_booked_55 : decode cX2_booked 55 = .ok (.istore_n 3, 1) := by decide +kernel
theorem dX2_booked_56 : decode cX2_booked 56 = .ok (.iinc 4 1, 3) := by decide +kernel
theorem dX2_booked_59 : decode cX2_booked 59 = .ok (.goto (-54), 3) := by decide +kernel
theorem dX2_booked_62 : decode cX2_booked 62 = .ok (.iload_n 3, 1) := by decide +kernel
theorem dX2_booked_63 : decode cX2_booked 63 = .ok (.ireturn, 1) := by decide +kernel
set_option maxRecDepth 20000 in
theorem ggX2_expected_X2_booked : GoodIn wsX2_expected wsX2_booked := goodIn_r _ [6, 7, 8, 9, 10, 5, 11, 1, 12, 13, 14, 15, 16, 17, 18, 19, 20, 21, 22, 23, 24, 29, 30, 31, 32, 33] (by decide +kernel) (by decide +kernel)
set_option maxRecDepth 20000 in
theorem gX2_expected_X2_booked : GoodIn wsX2_expected (wsV RX2 54 RX2 yX2_booked wsX2_booked) := goodIn_app (goodIn_of _ (by decide +kernel)) ggX2_expected_X2_booked
set_option maxRecDepth 20000 in
theorem ggX2_expected_X2_of : GoodIn wsX2_expected wsX2_of := goodIn_r _ [28, 7, 29, 30, 31, 32, 33] (by decide +kernel) (by decide +kernel)
set_option maxRecDepth 20000 in
theorem gX2_expected_X2_of : GoodIn wsX2_expected (wsV RX2 51 RX2 yX2_of wsX2_of) := goodIn_app (goodIn_of _ (by decide +kernel)) ggX2_expected_X2_of
theorem dX2_expected_0 : decode cX2_expected 0 = .ok (.aload_n 0, 1) := by decide +kernel
theorem dX2_expected_1 : decode cX2_expected 1 = .ok (.iload_n 1, 1) := by decide +kernel
theorem dX2_expected_2 : decode cX2_expected 2 = .ok (.ldc 31, 2) := by decide +kernel
theorem dX2_expected_4 : decode cX2_expected 4 = .ok (.invokevirtual 54, 3) := by decide +kernel
theorem dX2_expected_7 : decode cX2_expected 7 = .ok (.aload_n 0, 1) := by decide +kernel
theorem dX2_expected_8 : decode cX2_expected 8 = .ok (.iload_n 1, 1) := by decide +kernel
theorem dX2_expected_9 : decode cX2_expected 9 = .ok (.iconst 2, 1) := by decide +kernel
theorem dX2_expected_10 : decode cX2_expected 10 = .ok (.invokevirtual 51, 3) := by decide +kernel
theorem dX2_expected_13 : decode cX2_expected 13 = .ok (.iadd, 1) := by decide +kernel
theorem dX2_expected_14 : decode cX2_expected 14 = .ok (.ireturn, 1) := by decide +kernel
set_option maxRecDepth 20000 in
theorem ggX2_error_X2_reading : GoodIn wsX2_error wsX2_reading := goodIn_r _ [5, 6, 7, 8, 4, 9, 10, 11, 12, 13, 14, 15, 16, 17, 18, 19, 20, 21, 22, 23, 24, 25, 26, 27, 28, 29, 30, 31, 32, 41, 42, 43, 44, 45] (by decide +kernel) (by decide +kernel)
set_option maxRecDepth 20000 in
theorem gX2_error_X2_reading : GoodIn wsX2_error (wsV RX2 57 RX2 yX2_reading wsX2_reading) := goodIn_app (goodIn_of _ (by decide +kernel)) ggX2_error_X2_reading
set_option maxRecDepth 20000 in
theorem ggX2_error_X2_expected : GoodIn wsX2_error wsX2_expected := goodIn_r _ [36, 15, 37, 38, 39, 4, 40, 10, 11, 12, 13, 14, 16, 17, 18, 19, 20, 21, 22, 23, 24, 25, 26, 27, 28, 29, 30, 31, 32, 41, 42, 43, 44, 45] (by decide +kernel) (by decide +kernel)
set_option maxRecDepth 20000 in
theorem gX2_error_X2_expected : GoodIn wsX2_error (wsV RX2 60 RX2 yX2_expected wsX2_expected) := goodIn_app (goodIn_of _ (by decide +kernel)) ggX2_error_X2_expected
theorem dX2_error_0 : decode cX2_error 0 = .ok (.iconst 0, 1) := by decide +kernel
theorem dX2_error_1 : decode cX2_error 1 = .ok (.istore_n 1, 1) := by decide +kernel
theorem dX2_error_2 : decode cX2_error 2 = .ok (.iconst 0, 1) := by decide +kernel
theorem dX2_error_3 : decode cX2_error 3 = .ok (.istore_n 2, 1) := by decide +kernel
theorem dX2_error_4 : decode cX2_error 4 = .ok (.iload_n 2, 1) := by decide +kernel
theorem dX2_error_5 : decode cX2_error 5 = .ok (.bipush 24, 2) := by decide +kernel
theorem dX2_error_7 : decode cX2_error 7 = .ok (.if_icmp .ge 34, 3) := by decide +kernel
theorem dX2_error_10 : decode cX2_error 10 = .ok (.aload_n 0, 1) := by decide +kernel
theorem dX2_error_11 : decode cX2_error 11 = .ok (.iload_n 2, 1) := by decide +kernel
theorem dX2_error_12 : decode cX2_error 12 = .ok (.invokevirtual 57, 3) := by decide +kernel
theorem dX2_error_15 : decode cX2_error 15 = .ok (.aload_n 0, 1) := by decide +kernel
theorem dX2_error_16 : decode cX2_error 16 = .ok (.iload_n 2, 1) := by decide +kernel
theorem dX2_error_17 : decode cX2_error 17 = .ok (.invokevirtual 60, 3) := by decide +kernel
theorem dX2_error_20 : decode cX2_error 20 = .ok (.isub, 1) := by decide +kernel
theorem dX2_error_21 : decode cX2_error 21 = .ok (.istore_n 3, 1) := by decide +kernel
theorem dX2_error_22 : decode cX2_error 22 = .ok (.iload_n 1, 1) := by decide +kernel
theorem dX2_error_23 : decode cX2_error 23 = .ok (.iload_n 3, 1) := by decide +kernel
theorem dX2_error_24 : decode cX2_error 24 = .ok (.ifCond .ge 8, 3) := by decide +kernel
theorem dX2_error_27 : decode cX2_error 27 = .ok (.iload_n 3, 1) := by decide +kernel
theorem dX2_error_28 : decode cX2_error 28 = .ok (.ineg, 1) := by decide +kernel
theorem dX2_error_29 : decode cX2_error 29 = .ok (.goto 4, 3) := by decide +kernel
theorem dX2_error_32 : decode cX2_error 32 = .ok (.iload_n 3, 1) := by decide +kernel
theorem dX2_error_33 : decode cX2_error 33 = .ok (.iadd, 1) := by decide +kernel
theorem dX2_error_34 : decode cX2_error 34 = .ok (.istore_n 1, 1) := by decide +kernel
theorem dX2_error_35 : decode cX2_error 35 = .ok (.iinc 2 1, 3) := by decide +kernel
theorem dX2_error_38 : decode cX2_error 38 = .ok (.goto (-34), 3) := by decide +kernel
theorem dX2_error_41 : decode cX2_error 41 = .ok (.iload_n 1, 1) := by decide +kernel
theorem dX2_error_42 : decode cX2_error 42 = .ok (.ireturn, 1) := by decide +kernel
set_option maxRecDepth 20000 in
theorem ggX2_setDrift_X2_isCell : GoodIn wsX2_setDrift wsX2_isCell := goodIn_r _ [6, 7, 8, 5, 9] (by decide +kernel) (by decide +kernel)
set_option maxRecDepth 20000 in
theorem gX2_setDrift_X2_isCell : GoodIn wsX2_setDrift (va_wsS RX2 63 yX2_isCell wsX2_isCell) := goodIn_app (goodIn_of _ (by decide +kernel)) ggX2_setDrift_X2_isCell
set_option maxRecDepth 20000 in
theorem ggX2_setDrift_X2_in : GoodIn wsX2_setDrift wsX2_in := goodIn_r _ [9] (by decide +kernel) (by decide +kernel)
set_option maxRecDepth 20000 in
theorem gX2_setDrift_X2_in : GoodIn wsX2_setDrift (va_wsS RX2 23 yX2_in wsX2_in) := goodIn_app (goodIn_of _ (by decide +kernel)) ggX2_setDrift_X2_in
set_option maxRecDepth 20000 in
theorem ggX2_setDrift_X2_acts : GoodIn wsX2_setDrift wsX2_acts := goodIn_r _ [13, 14, 15, 2, 20, 21, 22, 23, 24] (by decide +kernel) (by decide +kernel)
set_option maxRecDepth 20000 in
theorem gX2_setDrift_X2_acts : GoodIn wsX2_setDrift (wsV RX2 67 RX2 yX2_acts wsX2_acts) := goodIn_app (goodIn_of _ (by decide +kernel)) ggX2_setDrift_X2_acts
set_option maxRecDepth 20000 in
theorem ggX2_setDrift_X2_of : GoodIn wsX2_setDrift wsX2_of := goodIn_r _ [19, 2, 20, 21, 22, 23, 24] (by decide +kernel) (by decide +kernel)
set_option maxRecDepth 20000 in
theorem gX2_setDrift_X2_of : GoodIn wsX2_setDrift (wsV RX2 51 RX2 yX2_of wsX2_of) := goodIn_app (goodIn_of _ (by decide +kernel)) ggX2_setDrift_X2_of
theorem dX2_setDrift_0 : decode cX2_setDrift 0 = .ok (.iload_n 1, 1) := by decide +kernel
theorem dX2_setDrift_1 : decode cX2_setDrift 1 = .ok (.invokestatic 63, 3) := by decide +kernel
theorem dX2_setDrift_4 : decode cX2_setDrift 4 = .ok (.ifCond .eq 13, 3) := by decide +kernel
theorem dX2_setDrift_7 : decode cX2_setDrift 7 = .ok (.iload_n 2, 1) := by decide +kernel
theorem dX2_setDrift_8 : decode cX2_setDrift 8 = .ok (.bipush (-3), 2) := by decide +kernel
theorem dX2_setDrift_10 : decode cX2_setDrift 10 = .ok (.iconst 3, 1) := by decide +kernel
theorem dX2_setDrift_11 : decode cX2_setDrift 11 = .ok (.invokestatic 23, 3) := by decide +kernel
theorem dX2_setDrift_14 : decode cX2_setDrift 14 = .ok (.ifCond .ne 6, 3) := by decide +kernel
theorem dX2_setDrift_17 : decode cX2_setDrift 17 = .ok (.ldc 66, 2) := by decide +kernel
theorem dX2_setDrift_19 : decode cX2_setDrift 19 = .ok (.ireturn, 1) := by decide +kernel
theorem dX2_setDrift_20 : decode cX2_setDrift 20 = .ok (.aload_n 0, 1) := by decide +kernel
theorem dX2_setDrift_21 : decode cX2_setDrift 21 = .ok (.invokevirtual 67, 3) := by decide +kernel
theorem dX2_setDrift_24 : decode cX2_setDrift 24 = .ok (.aload_n 0, 1) := by decide +kernel
theorem dX2_setDrift_25 : decode cX2_setDrift 25 = .ok (.iload_n 1, 1) := by decide +kernel
theorem dX2_setDrift_26 : decode cX2_setDrift 26 = .ok (.iconst 1, 1) := by decide +kernel
theorem dX2_setDrift_27 : decode cX2_setDrift 27 = .ok (.invokevirtual 51, 3) := by decide +kernel
theorem dX2_setDrift_30 : decode cX2_setDrift 30 = .ok (.istore_n 3, 1) := by decide +kernel
theorem dX2_setDrift_31 : decode cX2_setDrift 31 = .ok (.aload_n 0, 1) := by decide +kernel
theorem dX2_setDrift_32 : decode cX2_setDrift 32 = .ok (.getfield 7, 3) := by decide +kernel
theorem dX2_setDrift_35 : decode cX2_setDrift 35 = .ok (.bipush 6, 2) := by decide +kernel
theorem dX2_setDrift_37 : decode cX2_setDrift 37 = .ok (.iconst 4, 1) := by decide +kernel
theorem dX2_setDrift_38 : decode cX2_setDrift 38 = .ok (.iload_n 1, 1) := by decide +kernel
theorem dX2_setDrift_39 : decode cX2_setDrift 39 = .ok (.imul, 1) := by decide +kernel
theorem dX2_setDrift_40 : decode cX2_setDrift 40 = .ok (.iadd, 1) := by decide +kernel
theorem dX2_setDrift_41 : decode cX2_setDrift 41 = .ok (.iconst 1, 1) := by decide +kernel
theorem dX2_setDrift_42 : decode cX2_setDrift 42 = .ok (.iadd, 1) := by decide +kernel
theorem dX2_setDrift_43 : decode cX2_setDrift 43 = .ok (.iload_n 2, 1) := by decide +kernel
theorem dX2_setDrift_44 : decode cX2_setDrift 44 = .ok (.iastore, 1) := by decide +kernel
theorem dX2_setDrift_45 : decode cX2_setDrift 45 = .ok (.iload_n 3, 1) := by decide +kernel
theorem dX2_setDrift_46 : decode cX2_setDrift 46 = .ok (.ireturn, 1) := by decide +kernel
set_option maxRecDepth 20000 in
theorem ggX2_pass_X2_in : GoodIn wsX2_pass wsX2_in := goodIn_r _ [7] (by decide +kernel) (by decide +kernel)
set_option maxRecDepth 20000 in
theorem gX2_pass_X2_in : GoodIn wsX2_pass (va_wsS RX2 23 yX2_in wsX2_in) := goodIn_app (goodIn_of _ (by decide +kernel)) ggX2_pass_X2_in
set_option maxRecDepth 20000 in
theorem ggX2_pass_X2_acts : GoodIn wsX2_pass wsX2_acts := goodIn_r _ [11, 12, 13, 2, 18, 19, 20, 21, 22] (by decide +kernel) (by decide +kernel)
set_option maxRecDepth 20000 in
theorem gX2_pass_X2_acts : GoodIn wsX2_pass (wsV RX2 67 RX2 yX2_acts wsX2_acts) := goodIn_app (goodIn_of _ (by decide +kernel)) ggX2_pass_X2_acts
set_option maxRecDepth 20000 in
theorem ggX2_pass_X2_of : GoodIn wsX2_pass wsX2_of := goodIn_r _ [17, 2, 18, 19, 20, 21, 22] (by decide +kernel) (by decide +kernel)
set_option maxRecDepth 20000 in
theorem gX2_pass_X2_of : GoodIn wsX2_pass (wsV RX2 51 RX2 yX2_of wsX2_of) := goodIn_app (goodIn_of _ (by decide +kernel)) ggX2_pass_X2_of
theorem dX2_pass_0 : decode cX2_pass 0 = .ok (.iload_n 1, 1) := by decide +kernel
theorem dX2_pass_1 : decode cX2_pass 1 = .ok (.iconst 1, 1) := by decide +kernel
theorem dX2_pass_2 : decode cX2_pass 2 = .ok (.bipush 60, 2) := by decide +kernel
theorem dX2_pass_4 : decode cX2_pass 4 = .ok (.invokestatic 23, 3) := by decide +kernel
theorem dX2_pass_7 : decode cX2_pass 7 = .ok (.ifCond .ne 6, 3) := by decide +kernel
theorem dX2_pass_10 : decode cX2_pass 10 = .ok (.ldc 66, 2) := by decide +kernel
theorem dX2_pass_12 : decode cX2_pass 12 = .ok (.ireturn, 1) := by decide +kernel
theorem dX2_pass_13 : decode cX2_pass 13 = .ok (.aload_n 0, 1) := by decide +kernel
theorem dX2_pass_14 : decode cX2_pass 14 = .ok (.getfield 7, 3) := by decide +kernel
theorem dX2_pass_17 : decode cX2_pass 17 = .ok (.iconst 0, 1) := by decide +kernel
theorem dX2_pass_18 : decode cX2_pass 18 = .ok (.iaload, 1) := by decide +kernel
theorem dX2_pass_19 : decode cX2_pass 19 = .ok (.iload_n 1, 1) := by decide +kernel
theorem dX2_pass_20 : decode cX2_pass 20 = .ok (.iadd, 1) := by decide +kernel
theorem dX2_pass_21 : decode cX2_pass 21 = .ok (.sipush 2000, 3) := by decide +kernel
theorem dX2_pass_24 : decode cX2_pass 24 = .ok (.if_icmp .le 6, 3) := by decide +kernel
theorem dX2_pass_27 : decode cX2_pass 27 = .ok (.ldc 70, 2) := by decide +kernel
theorem dX2_pass_29 : decode cX2_pass 29 = .ok (.ireturn, 1) := by decide +kernel
theorem dX2_pass_30 : decode cX2_pass 30 = .ok (.aload_n 0, 1) := by decide +kernel
theorem dX2_pass_31 : decode cX2_pass 31 = .ok (.invokevirtual 67, 3) := by decide +kernel
theorem dX2_pass_34 : decode cX2_pass 34 = .ok (.aload_n 0, 1) := by decide +kernel
theorem dX2_pass_35 : decode cX2_pass 35 = .ok (.getfield 7, 3) := by decide +kernel
theorem dX2_pass_38 : decode cX2_pass 38 = .ok (.iconst 0, 1) := by decide +kernel
theorem dX2_pass_39 : decode cX2_pass 39 = .ok (.dup2, 1) := by decide +kernel
theorem dX2_pass_40 : decode cX2_pass 40 = .ok (.iaload, 1) := by decide +kernel
theorem dX2_pass_41 : decode cX2_pass 41 = .ok (.iload_n 1, 1) := by decide +kernel
theorem dX2_pass_42 : decode cX2_pass 42 = .ok (.iadd, 1) := by decide +kernel
theorem dX2_pass_43 : decode cX2_pass 43 = .ok (.iastore, 1) := by decide +kernel
theorem dX2_pass_44 : decode cX2_pass 44 = .ok (.iconst 0, 1) := by decide +kernel
theorem dX2_pass_45 : decode cX2_pass 45 = .ok (.istore_n 2, 1) := by decide +kernel
theorem dX2_pass_46 : decode cX2_pass 46 = .ok (.iload_n 2, 1) := by decide +kernel
theorem dX2_pass_47 : decode cX2_pass 47 = .ok (.bipush 24, 2) := by decide +kernel
theorem dX2_pass_49 : decode cX2_pass 49 = .ok (.if_icmp .ge 31, 3) := by decide +kernel
theorem dX2_pass_52 : decode cX2_pass 52 = .ok (.aload_n 0, 1) := by decide +kernel
theorem dX2_pass_53 : decode cX2_pass 53 = .ok (.getfield 7, 3) := by decide +kernel
theorem dX2_pass_56 : decode cX2_pass 56 = .ok (.bipush 6, 2) := by decide +kernel
theorem dX2_pass_58 : decode cX2_pass 58 = .ok (.iconst 4, 1) := by decide +kernel
theorem dX2_pass_59 : decode cX2_pass 59 = .ok (.iload_n 2, 1) := by decide +kernel
theorem dX2_pass_60 : decode cX2_pass 60 = .ok (.imul, 1) := by decide +kernel
theorem dX2_pass_61 : decode cX2_pass 61 = .ok (.iadd, 1) := by decide +kernel
theorem dX2_pass_62 : decode cX2_pass 62 = .ok (.dup2, 1) := by decide +kernel
theorem dX2_pass_63 : decode cX2_pass 63 = .ok (.iaload, 1) := by decide +kernel
theorem dX2_pass_64 : decode cX2_pass 64 = .ok (.iload_n 1, 1) := by decide +kernel
theorem dX2_pass_65 : decode cX2_pass 65 = .ok (.aload_n 0, 1) := by decide +kernel
theorem dX2_pass_66 : decode cX2_pass 66 = .ok (.iload_n 2, 1) := by decide +kernel
theorem dX2_pass_67 : decode cX2_pass 67 = .ok (.iconst 1, 1) := by decide +kernel
theorem dX2_pass_68 : decode cX2_pass 68 = .ok (.invokevirtual 51, 3) := by decide +kernel
theorem dX2_pass_71 : decode cX2_pass 71 = .ok (.imul, 1) := by decide +kernel
theorem dX2_pass_72 : decode cX2_pass 72 = .ok (.iadd, 1) := by decide +kernel
theorem dX2_pass_73 : decode cX2_pass 73 = .ok (.iastore, 1) := by decide +kernel
theorem dX2_pass_74 : decode cX2_pass 74 = .ok (.iinc 2 1, 3) := by decide +kernel
theorem dX2_pass_77 : decode cX2_pass 77 = .ok (.goto (-31), 3) := by decide +kernel
theorem dX2_pass_80 : decode cX2_pass 80 = .ok (.aload_n 0, 1) := by decide +kernel
theorem dX2_pass_81 : decode cX2_pass 81 = .ok (.getfield 7, 3) := by decide +kernel
theorem dX2_pass_84 : decode cX2_pass 84 = .ok (.iconst 0, 1) := by decide +kernel
theorem dX2_pass_85 : decode cX2_pass 85 = .ok (.iaload, 1) := by decide +kernel
theorem dX2_pass_86 : decode cX2_pass 86 = .ok (.ireturn, 1) := by decide +kernel
set_option maxRecDepth 20000 in
theorem ggX2_isPressed_X2_isAboard : GoodIn wsX2_isPressed wsX2_isAboard := goodIn_r _ [6, 7, 8, 9, 10, 5, 11, 1, 21, 22, 23, 24, 25] (by decide +kernel) (by decide +kernel)
set_option maxRecDepth 20000 in
theorem gX2_isPressed_X2_isAboard : GoodIn wsX2_isPressed (wsV RX2 40 RX2 yX2_isAboard wsX2_isAboard) := goodIn_app (goodIn_of _ (by decide +kernel)) ggX2_isPressed_X2_isAboard
set_option maxRecDepth 20000 in
theorem ggX2_isPressed_X2_ofWalker : GoodIn wsX2_isPressed wsX2_ofWalker := goodIn_r _ [11, 1, 21, 22, 23, 24, 25] (by decide +kernel) (by decide +kernel)
set_option maxRecDepth 20000 in
theorem gX2_isPressed_X2_ofWalker : GoodIn wsX2_isPressed (wsV RX2 27 RX2 yX2_ofWalker wsX2_ofWalker) := goodIn_app (goodIn_of _ (by decide +kernel)) ggX2_isPressed_X2_ofWalker
set_option maxRecDepth 20000 in
theorem ggX2_isPressed_X2_share : GoodIn wsX2_isPressed wsX2_share := goodIn_r _ [14, 15, 16, 5, 17, 18, 19, 20] (by decide +kernel) (by decide +kernel)
set_option maxRecDepth 20000 in
theorem gX2_isPressed_X2_share : GoodIn wsX2_isPressed (va_wsS RX2 44 yX2_share wsX2_share) := goodIn_app (goodIn_of _ (by decide +kernel)) ggX2_isPressed_X2_share
theorem dX2_isPressed_0 : decode cX2_isPressed 0 = .ok (.iconst 0, 1) := by decide +kernel
theorem dX2_isPressed_1 : decode cX2_isPressed 1 = .ok (.istore_n 2, 1) := by decide +kernel
theorem dX2_isPressed_2 : decode cX2_isPressed 2 = .ok (.iconst 0, 1) := by decide +kernel
theorem dX2_isPressed_3 : decode cX2_isPressed 3 = .ok (.istore_n 3, 1) := by decide +kernel
theorem dX2_isPressed_4 : decode cX2_isPressed 4 = .ok (.iload_n 3, 1) := by decide +kernel
theorem dX2_isPressed_5 : decode cX2_isPressed 5 = .ok (.aload_n 0, 1) := by decide +kernel
theorem dX2_isPressed_6 : decode cX2_isPressed 6 = .ok (.getfield 7, 3) := by decide +kernel
theorem dX2_isPressed_9 : decode cX2_isPressed 9 = .ok (.iconst 1, 1) := by decide +kernel
theorem dX2_isPressed_10 : decode cX2_isPressed 10 = .ok (.iaload, 1) := by decide +kernel
theorem dX2_isPressed_11 : decode cX2_isPressed 11 = .ok (.if_icmp .ge 46, 3) := by decide +kernel
theorem dX2_isPressed_14 : decode cX2_isPressed 14 = .ok (.iload_n 2, 1) := by decide +kernel
theorem dX2_isPressed_15 : decode cX2_isPressed 15 = .ok (.ifCond .ne 30, 3) := by decide +kernel
theorem dX2_isPressed_18 : decode cX2_isPressed 18 = .ok (.aload_n 0, 1) := by decide +kernel
theorem dX2_isPressed_19 : decode cX2_isPressed 19 = .ok (.iload_n 3, 1) := by decide +kernel
theorem dX2_isPressed_20 : decode cX2_isPressed 20 = .ok (.invokevirtual 40, 3) := by decide +kernel
theorem dX2_isPressed_23 : decode cX2_isPressed 23 = .ok (.ifCond .eq 26, 3) := by decide +kernel
theorem dX2_isPressed_26 : decode cX2_isPressed 26 = .ok (.aload_n 0, 1) := by decide +kernel
theorem dX2_isPressed_27 : decode cX2_isPressed 27 = .ok (.iload_n 3, 1) := by decide +kernel
theorem dX2_isPressed_28 : decode cX2_isPressed 28 = .ok (.iconst 0, 1) := by decide +kernel
theorem dX2_isPressed_29 : decode cX2_isPressed 29 = .ok (.invokevirtual 27, 3) := by decide +kernel
theorem dX2_isPressed_32 : decode cX2_isPressed 32 = .ok (.aload_n 0, 1) := by decide +kernel
theorem dX2_isPressed_33 : decode cX2_isPressed 33 = .ok (.iload_n 3, 1) := by decide +kernel
theorem dX2_isPressed_34 : decode cX2_isPressed 34 = .ok (.iconst 1, 1) := by decide +kernel
theorem dX2_isPressed_35 : decode cX2_isPressed 35 = .ok (.invokevirtual 27, 3) := by decide +kernel
theorem dX2_isPressed_38 : decode cX2_isPressed 38 = .ok (.iload_n 1, 1) := by decide +kernel
theorem dX2_isPressed_39 : decode cX2_isPressed 39 = .ok (.invokestatic 44, 3) := by decide +kernel
theorem dX2_isPressed_42 : decode cX2_isPressed 42 = .ok (.ifCond .le 7, 3) := by decide +kernel
theorem dX2_isPressed_45 : decode cX2_isPressed 45 = .ok (.iconst 1, 1) := by decide +kernel
theorem dX2_isPressed_46 : decode cX2_isPressed 46 = .ok (.goto 4, 3) := by decide +kernel
theorem dX2_isPressed_49 : decode cX2_isPressed 49 = .ok (.iconst 0, 1) := by decide +kernel
theorem dX2_isPressed_50 : decode cX2_isPressed 50 = .ok (.istore_n 2, 1) := by decide +kernel
theorem dX2_isPressed_51 : decode cX2_isPressed 51 = .ok (.iinc 3 1, 3) := by decide +kernel
theorem dX2_isPressed_54 : decode cX2_isPressed 54 = .ok (.goto (-50), 3) := by decide +kernel
theorem dX2_isPressed_57 : decode cX2_isPressed 57 = .ok (.iload_n 2, 1) := by decide +kernel
theorem dX2_isPressed_58 : decode cX2_isPressed 58 = .ok (.ireturn, 1) := by decide +kernel
set_option maxRecDepth 20000 in
theorem ggX2_tare_X2_isCell : GoodIn wsX2_tare wsX2_isCell := goodIn_r _ [7, 8, 9, 6, 10] (by decide +kernel) (by decide +kernel)
set_option maxRecDepth 20000 in
theorem gX2_tare_X2_isCell : GoodIn wsX2_tare (va_wsS RX2 63 yX2_isCell wsX2_isCell) := goodIn_app (goodIn_of _ (by decide +kernel)) ggX2_tare_X2_isCell
set_option maxRecDepth 20000 in
theorem ggX2_tare_X2_isPressed : GoodIn wsX2_tare wsX2_isPressed := goodIn_r _ [14, 3, 15, 16, 17, 6, 18, 19, 20, 21, 22, 23, 24, 25, 26, 27, 28, 29, 30, 31, 32, 51, 52, 53, 54, 55] (by decide +kernel) (by decide +kernel)
set_option maxRecDepth 20000 in
theorem gX2_tare_X2_isPressed : GoodIn wsX2_tare (wsV RX2 71 RX2 yX2_isPressed wsX2_isPressed) := goodIn_app (goodIn_of _ (by decide +kernel)) ggX2_tare_X2_isPressed
set_option maxRecDepth 20000 in
theorem ggX2_tare_X2_acts : GoodIn wsX2_tare wsX2_acts := goodIn_r _ [36, 37, 38, 3, 51, 52, 53, 54, 55] (by decide +kernel) (by decide +kernel)
set_option maxRecDepth 20000 in
theorem gX2_tare_X2_acts : GoodIn wsX2_tare (wsV RX2 67 RX2 yX2_acts wsX2_acts) := goodIn_app (goodIn_of _ (by decide +kernel)) ggX2_tare_X2_acts
set_option maxRecDepth 20000 in
theorem ggX2_tare_X2_reading : GoodIn wsX2_tare wsX2_reading := goodIn_r _ [42, 43, 44, 45, 6, 46, 3, 15, 16, 17, 18, 19, 20, 21, 22, 23, 24, 25, 26, 27, 28, 29, 30, 31, 32, 47, 48, 49, 50, 51, 52, 53, 54, 55] (by decide +kernel) (by decide +kernel)
set_option maxRecDepth 20000 in
theorem gX2_tare_X2_reading : GoodIn wsX2_tare (wsV RX2 57 RX2 yX2_reading wsX2_reading) := goodIn_app (goodIn_of _ (by decide +kernel)) ggX2_tare_X2_reading
set_option maxRecDepth 20000 in
theorem ggX2_tare_X2_of : GoodIn wsX2_tare wsX2_of := goodIn_r _ [50, 3, 51, 52, 53, 54, 55] (by decide +kernel) (by decide +kernel)
set_option maxRecDepth 20000 in
theorem gX2_tare_X2_of : GoodIn wsX2_tare (wsV RX2 51 RX2 yX2_of wsX2_of) := goodIn_app (goodIn_of _ (by decide +kernel)) ggX2_tare_X2_of
theorem dX2_tare_0 : decode cX2_tare 0 = .ok (.iload_n 1, 1) := by decide +kernel
theorem dX2_tare_1 : decode cX2_tare 1 = .ok (.invokestatic 63, 3) := by decide +kernel
theorem dX2_tare_4 : decode cX2_tare 4 = .ok (.ifCond .ne 6, 3) := by decide +kernel
theorem dX2_tare_7 : decode cX2_tare 7 = .ok (.ldc 66, 2) := by decide +kernel
theorem dX2_tare_9 : decode cX2_tare 9 = .ok (.ireturn, 1) := by decide +kernel
theorem dX2_tare_10 : decode cX2_tare 10 = .ok (.aload_n 0, 1) := by decide +kernel
theorem dX2_tare_11 : decode cX2_tare 11 = .ok (.iload_n 1, 1) := by decide +kernel
theorem dX2_tare_12 : decode cX2_tare 12 = .ok (.invokevirtual 71, 3) := by decide +kernel
theorem dX2_tare_15 : decode cX2_tare 15 = .ok (.ifCond .eq 6, 3) := by decide +kernel
theorem dX2_tare_18 : decode cX2_tare 18 = .ok (.ldc 70, 2) := by decide +kernel
theorem dX2_tare_20 : decode cX2_tare 20 = .ok (.ireturn, 1) := by decide +kernel
theorem dX2_tare_21 : decode cX2_tare 21 = .ok (.aload_n 0, 1) := by decide +kernel
theorem dX2_tare_22 : decode cX2_tare 22 = .ok (.invokevirtual 67, 3) := by decide +kernel
theorem dX2_tare_25 : decode cX2_tare 25 = .ok (.aload_n 0, 1) := by decide +kernel
theorem dX2_tare_26 : decode cX2_tare 26 = .ok (.getfield 7, 3) := by decide +kernel
theorem dX2_tare_29 : decode cX2_tare 29 = .ok (.bipush 6, 2) := by decide +kernel
theorem dX2_tare_31 : decode cX2_tare 31 = .ok (.iconst 4, 1) := by decide +kernel
theorem dX2_tare_32 : decode cX2_tare 32 = .ok (.iload_n 1, 1) := by decide +kernel
theorem dX2_tare_33 : decode cX2_tare 33 = .ok (.imul, 1) := by decide +kernel
theorem dX2_tare_34 : decode cX2_tare 34 = .ok (.iadd, 1) := by decide +kernel
theorem dX2_tare_35 : decode cX2_tare 35 = .ok (.iconst 2, 1) := by decide +kernel
theorem dX2_tare_36 : decode cX2_tare 36 = .ok (.iadd, 1) := by decide +kernel
theorem dX2_tare_37 : decode cX2_tare 37 = .ok (.aload_n 0, 1) := by decide +kernel
theorem dX2_tare_38 : decode cX2_tare 38 = .ok (.iload_n 1, 1) := by decide +kernel
theorem dX2_tare_39 : decode cX2_tare 39 = .ok (.invokevirtual 57, 3) := by decide +kernel
theorem dX2_tare_42 : decode cX2_tare 42 = .ok (.iastore, 1) := by decide +kernel
theorem dX2_tare_43 : decode cX2_tare 43 = .ok (.aload_n 0, 1) := by decide +kernel
theorem dX2_tare_44 : decode cX2_tare 44 = .ok (.getfield 7, 3) := by decide +kernel
theorem dX2_tare_47 : decode cX2_tare 47 = .ok (.bipush 6, 2) := by decide +kernel
theorem dX2_tare_49 : decode cX2_tare 49 = .ok (.iconst 4, 1) := by decide +kernel
theorem dX2_tare_50 : decode cX2_tare 50 = .ok (.iload_n 1, 1) := by decide +kernel
theorem dX2_tare_51 : decode cX2_tare 51 = .ok (.imul, 1) := by decide +kernel
theorem dX2_tare_52 : decode cX2_tare 52 = .ok (.iadd, 1) := by decide +kernel
theorem dX2_tare_53 : decode cX2_tare 53 = .ok (.iconst 3, 1) := by decide +kernel
theorem dX2_tare_54 : decode cX2_tare 54 = .ok (.iadd, 1) := by decide +kernel
theorem dX2_tare_55 : decode cX2_tare 55 = .ok (.aload_n 0, 1) := by decide +kernel
theorem dX2_tare_56 : decode cX2_tare 56 = .ok (.getfield 7, 3) := by decide +kernel
theorem dX2_tare_59 : decode cX2_tare 59 = .ok (.iconst 0, 1) := by decide +kernel
theorem dX2_tare_60 : decode cX2_tare 60 = .ok (.iaload, 1) := by decide +kernel
theorem dX2_tare_61 : decode cX2_tare 61 = .ok (.iastore, 1) := by decide +kernel
theorem dX2_tare_62 : decode cX2_tare 62 = .ok (.aload_n 0, 1) := by decide +kernel
theorem dX2_tare_63 : decode cX2_tare 63 = .ok (.iload_n 1, 1) := by decide +kernel
theorem dX2_tare_64 : decode cX2_tare 64 = .ok (.iconst 2, 1) := by decide +kernel
theorem dX2_tare_65 : decode cX2_tare 65 = .ok (.invokevirtual 51, 3) := by decide +kernel
theorem dX2_tare_68 : decode cX2_tare 68 = .ok (.ireturn, 1) := by decide +kernel
set_option maxRecDepth 20000 in
theorem ggX2_on_X2_isAboard : GoodIn wsX2_on wsX2_isAboard := goodIn_r _ [7, 1, 8, 9, 10, 6, 11, 2, 12, 13, 14, 15, 16] (by decide +kernel) (by decide +kernel)
set_option maxRecDepth 20000 in
theorem gX2_on_X2_isAboard : GoodIn wsX2_on (wsV RX2 40 RX2 yX2_isAboard wsX2_isAboard) := goodIn_app (goodIn_of _ (by decide +kernel)) ggX2_on_X2_isAboard
set_option maxRecDepth 20000 in
theorem ggX2_on_X2_ofWalker : GoodIn wsX2_on wsX2_ofWalker := goodIn_r _ [11, 2, 12, 13, 14, 15, 16] (by decide +kernel) (by decide +kernel)
set_option maxRecDepth 20000 in
theorem gX2_on_X2_ofWalker : GoodIn wsX2_on (wsV RX2 27 RX2 yX2_ofWalker wsX2_ofWalker) := goodIn_app (goodIn_of _ (by decide +kernel)) ggX2_on_X2_ofWalker
theorem dX2_on_0 : decode cX2_on 0 = .ok (.ldc 31, 2) := by decide +kernel
theorem dX2_on_2 : decode cX2_on 2 = .ok (.istore_n 3, 1) := by decide +kernel
theorem dX2_on_3 : decode cX2_on 3 = .ok (.iconst 0, 1) := by decide +kernel
theorem dX2_on_4 : decode cX2_on 4 = .ok (.istore 4, 2) := by decide +kernel
theorem dX2_on_6 : decode cX2_on 6 = .ok (.iload 4, 2) := by decide +kernel
theorem dX2_on_8 : decode cX2_on 8 = .ok (.aload_n 0, 1) := by decide +kernel
theorem dX2_on_9 : decode cX2_on 9 = .ok (.getfield 7, 3) := by decide +kernel
theorem dX2_on_12 : decode cX2_on 12 = .ok (.iconst 1, 1) := by decide +kernel
theorem dX2_on_13 : decode cX2_on 13 = .ok (.iaload, 1) := by decide +kernel
theorem dX2_on_14 : decode cX2_on 14 = .ok (.if_icmp .ge 36, 3) := by decide +kernel
theorem dX2_on_17 : decode cX2_on 17 = .ok (.aload_n 0, 1) := by decide +kernel
theorem dX2_on_18 : decode cX2_on 18 = .ok (.iload 4, 2) := by decide +kernel
theorem dX2_on_20 : decode cX2_on 20 = .ok (.invokevirtual 40, 3) := by decide +kernel
theorem dX2_on_23 : decode cX2_on 23 = .ok (.ifCond .eq 19, 3) := by decide +kernel
theorem dX2_on_26 : decode cX2_on 26 = .ok (.aload_n 0, 1) := by decide +kernel
theorem dX2_on_27 : decode cX2_on 27 = .ok (.iload 4, 2) := by decide +kernel
theorem dX2_on_29 : decode cX2_on 29 = .ok (.iload_n 2, 1) := by decide +kernel
theorem dX2_on_30 : decode cX2_on 30 = .ok (.invokevirtual 27, 3) := by decide +kernel
theorem dX2_on_33 : decode cX2_on 33 = .ok (.iload_n 1, 1) := by decide +kernel
theorem dX2_on_34 : decode cX2_on 34 = .ok (.if_icmp .ne 8, 3) := by decide +kernel
theorem dX2_on_37 : decode cX2_on 37 = .ok (.iload 4, 2) := by decide +kernel
theorem dX2_on_39 : decode cX2_on 39 = .ok (.goto 4, 3) := by decide +kernel
theorem dX2_on_42 : decode cX2_on 42 = .ok (.iload_n 3, 1) := by decide +kernel
theorem dX2_on_43 : decode cX2_on 43 = .ok (.istore_n 3, 1) := by decide +kernel
theorem dX2_on_44 : decode cX2_on 44 = .ok (.iinc 4 1, 3) := by decide +kernel
theorem dX2_on_47 : decode cX2_on 47 = .ok (.goto (-41), 3) := by decide +kernel
theorem dX2_on_50 : decode cX2_on 50 = .ok (.iload_n 3, 1) := by decide +kernel
theorem dX2_on_51 : decode cX2_on 51 = .ok (.ireturn, 1) := by decide +kernel
set_option maxRecDepth 20000 in
theorem ggX2_isWeight_X2_in : GoodIn wsX2_isWeight wsX2_in := goodIn_r _ [4] (by decide +kernel) (by decide +kernel)
set_option maxRecDepth 20000 in
theorem gX2_isWeight_X2_in : GoodIn wsX2_isWeight (va_wsS RX2 23 yX2_in wsX2_in) := goodIn_app (goodIn_of _ (by decide +kernel)) ggX2_isWeight_X2_in
theorem dX2_isWeight_0 : decode cX2_isWeight 0 = .ok (.iload_n 0, 1) := by decide +kernel
theorem dX2_isWeight_1 : decode cX2_isWeight 1 = .ok (.bipush 20, 2) := by decide +kernel
theorem dX2_isWeight_3 : decode cX2_isWeight 3 = .ok (.sipush 150, 3) := by decide +kernel
theorem dX2_isWeight_6 : decode cX2_isWeight 6 = .ok (.invokestatic 23, 3) := by decide +kernel
theorem dX2_isWeight_9 : decode cX2_isWeight 9 = .ok (.ireturn, 1) := by decide +kernel
set_option maxRecDepth 20000 in
theorem ggX2_board_X2_isWeight : GoodIn wsX2_board wsX2_isWeight := goodIn_r _ [9, 10, 11, 8, 12] (by decide +kernel) (by decide +kernel)
set_option maxRecDepth 20000 in
theorem gX2_board_X2_isWeight : GoodIn wsX2_board (va_wsS RX2 74 yX2_isWeight wsX2_isWeight) := goodIn_app (goodIn_of _ (by decide +kernel)) ggX2_board_X2_isWeight
set_option maxRecDepth 20000 in
theorem ggX2_board_X2_isCell : GoodIn wsX2_board wsX2_isCell := goodIn_r _ [15, 10, 11, 8, 12] (by decide +kernel) (by decide +kernel)
set_option maxRecDepth 20000 in
theorem gX2_board_X2_isCell : GoodIn wsX2_board (va_wsS RX2 63 yX2_isCell wsX2_isCell) := goodIn_app (goodIn_of _ (by decide +kernel)) ggX2_board_X2_isCell
set_option maxRecDepth 20000 in
theorem ggX2_board_X2_on : GoodIn wsX2_board wsX2_on := goodIn_r _ [19, 2, 4, 20, 21, 22, 8, 23, 24, 25, 26, 27, 34, 35, 36, 37, 38] (by decide +kernel) (by decide +kernel)
set_option maxRecDepth 20000 in
theorem gX2_board_X2_on : GoodIn wsX2_board (wsV RX2 77 RX2 yX2_on wsX2_on) := goodIn_app (goodIn_of _ (by decide +kernel)) ggX2_board_X2_on
set_option maxRecDepth 20000 in
theorem ggX2_board_X2_acts : GoodIn wsX2_board wsX2_acts := goodIn_r _ [31, 32, 33, 4, 34, 35, 36, 37, 38] (by decide +kernel) (by decide +kernel)
set_option maxRecDepth 20000 in
theorem gX2_board_X2_acts : GoodIn wsX2_board (wsV RX2 67 RX2 yX2_acts wsX2_acts) := goodIn_app (goodIn_of _ (by decide +kernel)) ggX2_board_X2_acts
theorem dX2_board_0 : decode cX2_board 0 = .ok (.iload_n 1, 1) := by decide +kernel
theorem dX2_board_1 : decode cX2_board 1 = .ok (.invokestatic 74, 3) := by decide +kernel
theorem dX2_board_4 : decode cX2_board 4 = .ok (.ifCond .eq 17, 3) := by decide +kernel
theorem dX2_board_7 : decode cX2_board 7 = .ok (.iload_n 2, 1) := by decide +kernel
theorem dX2_board_8 : decode cX2_board 8 = .ok (.invokestatic 74, 3) := by decide +kernel
theorem dX2_board_11 : decode cX2_board 11 = .ok (.ifCond .eq 10, 3) := by decide +kernel
theorem dX2_board_14 : decode cX2_board 14 = .ok (.iload_n 3, 1) := by decide +kernel
theorem dX2_board_15 : decode cX2_board 15 = .ok (.invokestatic 63, 3) := by decide +kernel
theorem dX2_board_18 : decode cX2_board 18 = .ok (.ifCond .ne 6, 3) := by decide +kernel
theorem dX2_board_21 : decode cX2_board 21 = .ok (.ldc 66, 2) := by decide +kernel
theorem dX2_board_23 : decode cX2_board 23 = .ok (.ireturn, 1) := by decide +kernel
theorem dX2_board_24 : decode cX2_board 24 = .ok (.aload_n 0, 1) := by decide +kernel
theorem dX2_board_25 : decode cX2_board 25 = .ok (.iload_n 3, 1) := by decide +kernel
theorem dX2_board_26 : decode cX2_board 26 = .ok (.iconst 1, 1) := by decide +kernel
theorem dX2_board_27 : decode cX2_board 27 = .ok (.invokevirtual 77, 3) := by decide +kernel
theorem dX2_board_30 : decode cX2_board 30 = .ok (.ldc 31, 2) := by decide +kernel
theorem dX2_board_32 : decode cX2_board 32 = .ok (.if_icmp .eq 6, 3) := by decide +kernel
theorem dX2_board_35 : decode cX2_board 35 = .ok (.ldc 70, 2) := by decide +kernel
theorem dX2_board_37 : decode cX2_board 37 = .ok (.ireturn, 1) := by decide +kernel
theorem dX2_board_38 : decode cX2_board 38 = .ok (.aload_n 0, 1) := by decide +kernel
theorem dX2_board_39 : decode cX2_board 39 = .ok (.getfield 7, 3) := by decide +kernel
theorem dX2_board_42 : decode cX2_board 42 = .ok (.iconst 1, 1) := by decide +kernel
theorem dX2_board_43 : decode cX2_board 43 = .ok (.iaload, 1) := by decide +kernel
theorem dX2_board_44 : decode cX2_board 44 = .ok (.bipush 8, 2) := by decide +kernel
theorem dX2_board_46 : decode cX2_board 46 = .ok (.if_icmp .ne 6, 3) := by decide +kernel
theorem dX2_board_49 : decode cX2_board 49 = .ok (.ldc 80, 2) := by decide +kernel
theorem dX2_board_51 : decode cX2_board 51 = .ok (.ireturn, 1) := by decide +kernel
theorem dX2_board_52 : decode cX2_board 52 = .ok (.aload_n 0, 1) := by decide +kernel
theorem dX2_board_53 : decode cX2_board 53 = .ok (.invokevirtual 67, 3) := by decide +kernel
theorem dX2_board_56 : decode cX2_board 56 = .ok (.aload_n 0, 1) := by decide +kernel
theorem dX2_board_57 : decode cX2_board 57 = .ok (.getfield 7, 3) := by decide +kernel
theorem dX2_board_60 : decode cX2_board 60 = .ok (.iconst 1, 1) := by decide +kernel
theorem dX2_board_61 : decode cX2_board 61 = .ok (.iaload, 1) := by decide +kernel
theorem dX2_board_62 : decode cX2_board 62 = .ok (.istore 4, 2) := by decide +kernel
theorem dX2_board_64 : decode cX2_board 64 = .ok (.bipush 102, 2) := by decide +kernel
theorem dX2_board_66 : decode cX2_board 66 = .ok (.bipush 10, 2) := by decide +kernel
theorem dX2_board_68 : decode cX2_board 68 = .ok (.iload 4, 2) := by decide +kernel
theorem dX2_board_70 : decode cX2_board 70 = .ok (.imul, 1) := by decide +kernel
theorem dX2_board_71 : decode cX2_board 71 = .ok (.iadd, 1) := by decide +kernel
theorem dX2_board_72 : decode cX2_board 72 = .ok (.istore 5, 2) := by decide +kernel
theorem dX2_board_74 : decode cX2_board 74 = .ok (.iconst 0, 1) := by decide +kernel
theorem dX2_board_75 : decode cX2_board 75 = .ok (.istore 6, 2) := by decide +kernel
theorem dX2_board_77 : decode cX2_board 77 = .ok (.iload 6, 2) := by decide +kernel
theorem dX2_board_79 : decode cX2_board 79 = .ok (.bipush 10, 2) := by decide +kernel
theorem dX2_board_81 : decode cX2_board 81 = .ok (.if_icmp .ge 20, 3) := by decide +kernel
theorem dX2_board_84 : decode cX2_board 84 = .ok (.aload_n 0, 1) := by decide +kernel
theorem dX2_board_85 : decode cX2_board 85 = .ok (.getfield 7, 3) := by decide +kernel
theorem dX2_board_88 : decode cX2_board 88 = .ok (.iload 5, 2) := by decide +kernel
theorem dX2_board_90 : decode cX2_board 90 = .ok (.iload 6, 2) := by decide +kernel
theorem dX2_board_92 : decode cX2_board 92 = .ok (.iadd, 1) := by decide +kernel
theorem dX2_board_93 : decode cX2_board 93 = .ok (.iconst 0, 1) := by decide +kernel
theorem dX2_board_94 : decode cX2_board 94 = .ok (.iastore, 1) := by decide +kernel
theorem dX2_board_95 : decode cX2_board 95 = .ok (.iinc 6 1, 3) := by decide +kernel
theorem dX2_board_98 : decode cX2_board 98 = .ok (.goto (-21), 3) := by decide +kernel
theorem dX2_board_101 : decode cX2_board 101 = .ok (.aload_n 0, 1) := by decide +kernel
theorem dX2_board_102 : decode cX2_board 102 = .ok (.getfield 7, 3) := by decide +kernel
theorem dX2_board_105 : decode cX2_board 105 = .ok (.iload 5, 2) := by decide +kernel
theorem dX2_board_107 : decode cX2_board 107 = .ok (.iconst 0, 1) := by decide +kernel
theorem dX2_board_108 : decode cX2_board 108 = .ok (.iadd, 1) := by decide +kernel
theorem dX2_board_109 : decode cX2_board 109 = .ok (.iload_n 1, 1) := by decide +kernel
theorem dX2_board_110 : decode cX2_board 110 = .ok (.iastore, 1) := by decide +kernel
theorem dX2_board_111 : decode cX2_board 111 = .ok (.aload_n 0, 1) := by decide +kernel
theorem dX2_board_112 : decode cX2_board 112 = .ok (.getfield 7, 3) := by decide +kernel
theorem dX2_board_115 : decode cX2_board 115 = .ok (.iload 5, 2) := by decide +kernel
theorem dX2_board_117 : decode cX2_board 117 = .ok (.iconst 1, 1) := by decide +kernel
theorem dX2_board_118 : decode cX2_board 118 = .ok (.iadd, 1) := by decide +kernel
theorem dX2_board_119 : decode cX2_board 119 = .ok (.iload_n 3, 1) := by decide +kernel
theorem dX2_board_120 : decode cX2_board 120 = .ok (.iastore, 1) := by decide +kernel
theorem dX2_board_121 : decode cX2_board 121 = .ok (.aload_n 0, 1) := by decide +kernel
theorem dX2_board_122 : decode cX2_board 122 = .ok (.getfield 7, 3) := by decide +kernel
theorem dX2_board_125 : decode cX2_board 125 = .ok (.iload 5, 2) := by decide +kernel
theorem dX2_board_127 : decode cX2_board 127 = .ok (.iconst 2, 1) := by decide +kernel
theorem dX2_board_128 : decode cX2_board 128 = .ok (.iadd, 1) := by decide +kernel
theorem dX2_board_129 : decode cX2_board 129 = .ok (.iload_n 2, 1) := by decide +kernel
theorem dX2_board_130 : decode cX2_board 130 = .ok (.iastore, 1) := by decide +kernel
theorem dX2_board_131 : decode cX2_board 131 = .ok (.aload_n 0, 1) := by decide +kernel
theorem dX2_board_132 : decode cX2_board 132 = .ok (.getfield 7, 3) := by decide +kernel
theorem dX2_board_135 : decode cX2_board 135 = .ok (.iload 5, 2) := by decide +kernel
theorem dX2_board_137 : decode cX2_board 137 = .ok (.iconst 3, 1) := by decide +kernel
theorem dX2_board_138 : decode cX2_board 138 = .ok (.iadd, 1) := by decide +kernel
theorem dX2_board_139 : decode cX2_board 139 = .ok (.iload_n 3, 1) := by decide +kernel
theorem dX2_board_140 : decode cX2_board 140 = .ok (.iastore, 1) := by decide +kernel
theorem dX2_board_141 : decode cX2_board 141 = .ok (.aload_n 0, 1) := by decide +kernel
theorem dX2_board_142 : decode cX2_board 142 = .ok (.getfield 7, 3) := by decide +kernel
theorem dX2_board_145 : decode cX2_board 145 = .ok (.iload 5, 2) := by decide +kernel
theorem dX2_board_147 : decode cX2_board 147 = .ok (.iconst 5, 1) := by decide +kernel
theorem dX2_board_148 : decode cX2_board 148 = .ok (.iadd, 1) := by decide +kernel
theorem dX2_board_149 : decode cX2_board 149 = .ok (.ldc 31, 2) := by decide +kernel
theorem dX2_board_151 : decode cX2_board 151 = .ok (.iastore, 1) := by decide +kernel
theorem dX2_board_152 : decode cX2_board 152 = .ok (.aload_n 0, 1) := by decide +kernel
theorem dX2_board_153 : decode cX2_board 153 = .ok (.getfield 7, 3) := by decide +kernel
theorem dX2_board_156 : decode cX2_board 156 = .ok (.iconst 1, 1) := by decide +kernel
theorem dX2_board_157 : decode cX2_board 157 = .ok (.dup2, 1) := by decide +kernel
theorem dX2_board_158 : decode cX2_board 158 = .ok (.iaload, 1) := by decide +kernel
theorem dX2_board_159 : decode cX2_board 159 = .ok (.iconst 1, 1) := by decide +kernel
theorem dX2_board_160 : decode cX2_board 160 = .ok (.iadd, 1) := by decide +kernel
theorem dX2_board_161 : decode cX2_board 161 = .ok (.iastore, 1) := by decide +kernel
theorem dX2_board_162 : decode cX2_board 162 = .ok (.iload 4, 2) := by decide +kernel
theorem dX2_board_164 : decode cX2_board 164 = .ok (.ireturn, 1) := by decide +kernel
theorem dX2_puts_0 : decode cX2_puts 0 = .ok (.aload_n 0, 1) := by decide +kernel
theorem dX2_puts_1 : decode cX2_puts 1 = .ok (.getfield 7, 3) := by decide +kernel
theorem dX2_puts_4 : decode cX2_puts 4 = .ok (.bipush 102, 2) := by decide +kernel
theorem dX2_puts_6 : decode cX2_puts 6 = .ok (.bipush 10, 2) := by decide +kernel
theorem dX2_puts_8 : decode cX2_puts 8 = .ok (.iload_n 1, 1) := by decide +kernel
theorem dX2_puts_9 : decode cX2_puts 9 = .ok (.imul, 1) := by decide +kernel
theorem dX2_puts_10 : decode cX2_puts 10 = .ok (.iadd, 1) := by decide +kernel
theorem dX2_puts_11 : decode cX2_puts 11 = .ok (.iload_n 2, 1) := by decide +kernel
theorem dX2_puts_12 : decode cX2_puts 12 = .ok (.iadd, 1) := by decide +kernel
theorem dX2_puts_13 : decode cX2_puts 13 = .ok (.iload_n 3, 1) := by decide +kernel
theorem dX2_puts_14 : decode cX2_puts 14 = .ok (.iastore, 1) := by decide +kernel
theorem dX2_puts_15 : decode cX2_puts 15 = .ok (.return_, 1) := by decide +kernel
set_option maxRecDepth 20000 in
theorem ggX2_walk_X2_isWalker : GoodIn wsX2_walk wsX2_isWalker := goodIn_r _ [8, 9, 38, 39, 40, 41, 42] (by decide +kernel) (by decide +kernel)
set_option maxRecDepth 20000 in
theorem gX2_walk_X2_isWalker : GoodIn wsX2_walk (wsV RX2 81 RX2 yX2_isWalker wsX2_isWalker) := goodIn_app (goodIn_of _ (by decide +kernel)) ggX2_walk_X2_isWalker
set_option maxRecDepth 20000 in
theorem ggX2_walk_X2_isCell : GoodIn wsX2_walk wsX2_isCell := goodIn_r _ [12, 13, 14, 7, 15] (by decide +kernel) (by decide +kernel)
set_option maxRecDepth 20000 in
theorem gX2_walk_X2_isCell : GoodIn wsX2_walk (va_wsS RX2 63 yX2_isCell wsX2_isCell) := goodIn_app (goodIn_of _ (by decide +kernel)) ggX2_walk_X2_isCell
set_option maxRecDepth 20000 in
theorem ggX2_walk_X2_isAboard : GoodIn wsX2_walk wsX2_isAboard := goodIn_r _ [19, 2, 20, 21, 22, 7, 23, 9, 38, 39, 40, 41, 42] (by decide +kernel) (by decide +kernel)
set_option maxRecDepth 20000 in
theorem gX2_walk_X2_isAboard : GoodIn wsX2_walk (wsV RX2 40 RX2 yX2_isAboard wsX2_isAboard) := goodIn_app (goodIn_of _ (by decide +kernel)) ggX2_walk_X2_isAboard
set_option maxRecDepth 20000 in
theorem ggX2_walk_X2_on : GoodIn wsX2_walk wsX2_on := goodIn_r _ [27, 2, 9, 16, 17, 18, 7, 19, 20, 21, 22, 23, 38, 39, 40, 41, 42] (by decide +kernel) (by decide +kernel)
set_option maxRecDepth 20000 in
theorem gX2_walk_X2_on : GoodIn wsX2_walk (wsV RX2 77 RX2 yX2_on wsX2_on) := goodIn_app (goodIn_of _ (by decide +kernel)) ggX2_walk_X2_on
set_option maxRecDepth 20000 in
theorem ggX2_walk_X2_acts : GoodIn wsX2_walk wsX2_acts := goodIn_r _ [31, 32, 33, 9, 38, 39, 40, 41, 42] (by decide +kernel) (by decide +kernel)
set_option maxRecDepth 20000 in
theorem gX2_walk_X2_acts : GoodIn wsX2_walk (wsV RX2 67 RX2 yX2_acts wsX2_acts) := goodIn_app (goodIn_of _ (by decide +kernel)) ggX2_walk_X2_acts
set_option maxRecDepth 20000 in
theorem ggX2_walk_X2_ofWalker : GoodIn wsX2_walk wsX2_ofWalker := goodIn_r _ [23, 9, 38, 39, 40, 41, 42] (by decide +kernel) (by decide +kernel)
set_option maxRecDepth 20000 in
theorem gX2_walk_X2_ofWalker : GoodIn wsX2_walk (wsV RX2 27 RX2 yX2_ofWalker wsX2_ofWalker) := goodIn_app (goodIn_of _ (by decide +kernel)) ggX2_walk_X2_ofWalker
set_option maxRecDepth 20000 in
theorem ggX2_walk_X2_puts : GoodIn wsX2_walk wsX2_puts := goodIn_r _ [37, 9, 38, 39, 40, 41, 42] (by decide +kernel) (by decide +kernel)
set_option maxRecDepth 20000 in
theorem gX2_walk_X2_puts : GoodIn wsX2_walk (wsV RX2 84 RX2 yX2_puts wsX2_puts) := goodIn_app (goodIn_of _ (by decide +kernel)) ggX2_walk_X2_puts
theorem dX2_walk_0 : decode cX2_walk 0 = .ok (.aload_n 0, 1) := by decide +kernel
theorem dX2_walk_1 : decode cX2_walk 1 = .ok (.iload_n 1, 1) := by decide +kernel
theorem dX2_walk_2 : decode cX2_walk 2 = .ok (.invokevirtual 81, 3) := by decide +kernel
theorem dX2_walk_5 : decode cX2_walk 5 = .ok (.ifCond .eq 10, 3) := by decide +kernel
theorem dX2_walk_8 : decode cX2_walk 8 = .ok (.iload_n 2, 1) := by decide +kernel
theorem dX2_walk_9 : decode cX2_walk 9 = .ok (.invokestatic 63, 3) := by decide +kernel
theorem dX2_walk_12 : decode cX2_walk 12 = .ok (.ifCond .ne 6, 3) := by decide +kernel
theorem dX2_walk_15 : decode cX2_walk 15 = .ok (.ldc 66, 2) := by decide +kernel
theorem dX2_walk_17 : decode cX2_walk 17 = .ok (.ireturn, 1) := by decide +kernel
theorem dX2_walk_18 : decode cX2_walk 18 = .ok (.aload_n 0, 1) := by decide +kernel
theorem dX2_walk_19 : decode cX2_walk 19 = .ok (.iload_n 1, 1) := by decide +kernel
theorem dX2_walk_20 : decode cX2_walk 20 = .ok (.invokevirtual 40, 3) := by decide +kernel
theorem dX2_walk_23 : decode cX2_walk 23 = .ok (.ifCond .eq 14, 3) := by decide +kernel
theorem dX2_walk_26 : decode cX2_walk 26 = .ok (.aload_n 0, 1) := by decide +kernel
theorem dX2_walk_27 : decode cX2_walk 27 = .ok (.iload_n 2, 1) := by decide +kernel
theorem dX2_walk_28 : decode cX2_walk 28 = .ok (.iconst 1, 1) := by decide +kernel
theorem dX2_walk_29 : decode cX2_walk 29 = .ok (.invokevirtual 77, 3) := by decide +kernel
theorem dX2_walk_32 : decode cX2_walk 32 = .ok (.ldc 31, 2) := by decide +kernel
theorem dX2_walk_34 : decode cX2_walk 34 = .ok (.if_icmp .eq 6, 3) := by decide +kernel
theorem dX2_walk_37 : decode cX2_walk 37 = .ok (.ldc 70, 2) := by decide +kernel
theorem dX2_walk_39 : decode cX2_walk 39 = .ok (.ireturn, 1) := by decide +kernel
theorem dX2_walk_40 : decode cX2_walk 40 = .ok (.aload_n 0, 1) := by decide +kernel
theorem dX2_walk_41 : decode cX2_walk 41 = .ok (.invokevirtual 67, 3) := by decide +kernel
theorem dX2_walk_44 : decode cX2_walk 44 = .ok (.aload_n 0, 1) := by decide +kernel
theorem dX2_walk_45 : decode cX2_walk 45 = .ok (.aload_n 0, 1) := by decide +kernel
theorem dX2_walk_46 : decode cX2_walk 46 = .ok (.iload_n 1, 1) := by decide +kernel
theorem dX2_walk_47 : decode cX2_walk 47 = .ok (.iconst 1, 1) := by decide +kernel
theorem dX2_walk_48 : decode cX2_walk 48 = .ok (.invokevirtual 27, 3) := by decide +kernel
theorem dX2_walk_51 : decode cX2_walk 51 = .ok (.iconst 3, 1) := by decide +kernel
theorem dX2_walk_52 : decode cX2_walk 52 = .ok (.invokevirtual 77, 3) := by decide +kernel
theorem dX2_walk_55 : decode cX2_walk 55 = .ok (.istore_n 3, 1) := by decide +kernel
theorem dX2_walk_56 : decode cX2_walk 56 = .ok (.aload_n 0, 1) := by decide +kernel
theorem dX2_walk_57 : decode cX2_walk 57 = .ok (.iload_n 1, 1) := by decide +kernel
theorem dX2_walk_58 : decode cX2_walk 58 = .ok (.iconst 1, 1) := by decide +kernel
theorem dX2_walk_59 : decode cX2_walk 59 = .ok (.iload_n 2, 1) := by decide +kernel
theorem dX2_walk_60 : decode cX2_walk 60 = .ok (.invokevirtual 84, 3) := by decide +kernel
theorem dX2_walk_63 : decode cX2_walk 63 = .ok (.aload_n 0, 1) := by decide +kernel
theorem dX2_walk_64 : decode cX2_walk 64 = .ok (.iload_n 3, 1) := by decide +kernel
theorem dX2_walk_65 : decode cX2_walk 65 = .ok (.iconst 3, 1) := by decide +kernel
theorem dX2_walk_66 : decode cX2_walk 66 = .ok (.iload_n 2, 1) := by decide +kernel
theorem dX2_walk_67 : decode cX2_walk 67 = .ok (.invokevirtual 84, 3) := by decide +kernel
theorem dX2_walk_70 : decode cX2_walk 70 = .ok (.iload_n 3, 1) := by decide +kernel
theorem dX2_walk_71 : decode cX2_walk 71 = .ok (.ireturn, 1) := by decide +kernel
set_option maxRecDepth 20000 in
theorem ggX2_exchanges_X2_ofWalker : GoodIn wsX2_exchanges wsX2_ofWalker := goodIn_r _ [5, 6, 11, 12, 13, 14, 15] (by decide +kernel) (by decide +kernel)
set_option maxRecDepth 20000 in
theorem gX2_exchanges_X2_ofWalker : GoodIn wsX2_exchanges (wsV RX2 27 RX2 yX2_ofWalker wsX2_ofWalker) := goodIn_app (goodIn_of _ (by decide +kernel)) ggX2_exchanges_X2_ofWalker
set_option maxRecDepth 20000 in
theorem ggX2_exchanges_X2_puts : GoodIn wsX2_exchanges wsX2_puts := goodIn_r _ [10, 6, 11, 12, 13, 14, 15] (by decide +kernel) (by decide +kernel)
set_option maxRecDepth 20000 in
theorem gX2_exchanges_X2_puts : GoodIn wsX2_exchanges (wsV RX2 84 RX2 yX2_puts wsX2_puts) := goodIn_app (goodIn_of _ (by decide +kernel)) ggX2_exchanges_X2_puts
theorem dX2_exchanges_0 : decode cX2_exchanges 0 = .ok (.aload_n 0, 1) := by decide +kernel
theorem dX2_exchanges_1 : decode cX2_exchanges 1 = .ok (.iload_n 1, 1) := by decide +kernel
theorem dX2_exchanges_2 : decode cX2_exchanges 2 = .ok (.iload_n 3, 1) := by decide +kernel
theorem dX2_exchanges_3 : decode cX2_exchanges 3 = .ok (.invokevirtual 27, 3) := by decide +kernel
theorem dX2_exchanges_6 : decode cX2_exchanges 6 = .ok (.istore 4, 2) := by decide +kernel
theorem dX2_exchanges_8 : decode cX2_exchanges 8 = .ok (.aload_n 0, 1) := by decide +kernel
theorem dX2_exchanges_9 : decode cX2_exchanges 9 = .ok (.iload_n 1, 1) := by decide +kernel
theorem dX2_exchanges_10 : decode cX2_exchanges 10 = .ok (.iload_n 3, 1) := by decide +kernel
theorem dX2_exchanges_11 : decode cX2_exchanges 11 = .ok (.aload_n 0, 1) := by decide +kernel
theorem dX2_exchanges_12 : decode cX2_exchanges 12 = .ok (.iload_n 2, 1) := by decide +kernel
theorem dX2_exchanges_13 : decode cX2_exchanges 13 = .ok (.iload_n 3, 1) := by decide +kernel
theorem dX2_exchanges_14 : decode cX2_exchanges 14 = .ok (.invokevirtual 27, 3) := by decide +kernel
theorem dX2_exchanges_17 : decode cX2_exchanges 17 = .ok (.invokevirtual 84, 3) := by decide +kernel
theorem dX2_exchanges_20 : decode cX2_exchanges 20 = .ok (.aload_n 0, 1) := by decide +kernel
theorem dX2_exchanges_21 : decode cX2_exchanges 21 = .ok (.iload_n 2, 1) := by decide +kernel
theorem dX2_exchanges_22 : decode cX2_exchanges 22 = .ok (.iload_n 3, 1) := by decide +kernel
theorem dX2_exchanges_23 : decode cX2_exchanges 23 = .ok (.iload 4, 2) := by decide +kernel
theorem dX2_exchanges_25 : decode cX2_exchanges 25 = .ok (.invokevirtual 84, 3) := by decide +kernel
theorem dX2_exchanges_28 : decode cX2_exchanges 28 = .ok (.return_, 1) := by decide +kernel
set_option maxRecDepth 20000 in
theorem ggX2_whyNotTwo_X2_isWalker : GoodIn wsX2_whyNotTwo wsX2_isWalker := goodIn_r _ [7, 8, 18, 19, 20, 21, 22] (by decide +kernel) (by decide +kernel)
set_option maxRecDepth 20000 in
theorem gX2_whyNotTwo_X2_isWalker : GoodIn wsX2_whyNotTwo (wsV RX2 81 RX2 yX2_isWalker wsX2_isWalker) := goodIn_app (goodIn_of _ (by decide +kernel)) ggX2_whyNotTwo_X2_isWalker
set_option maxRecDepth 20000 in
theorem ggX2_whyNotTwo_X2_isAboard : GoodIn wsX2_whyNotTwo wsX2_isAboard := goodIn_r _ [12, 13, 14, 15, 16, 6, 17, 8, 18, 19, 20, 21, 22] (by decide +kernel) (by decide +kernel)
set_option maxRecDepth 20000 in
theorem gX2_whyNotTwo_X2_isAboard : GoodIn wsX2_whyNotTwo (wsV RX2 40 RX2 yX2_isAboard wsX2_isAboard) := goodIn_app (goodIn_of _ (by decide +kernel)) ggX2_whyNotTwo_X2_isAboard
theorem dX2_whyNotTwo_0 : decode cX2_whyNotTwo 0 = .ok (.aload_n 0, 1) := by decide +kernel
theorem dX2_whyNotTwo_1 : decode cX2_whyNotTwo 1 = .ok (.iload_n 1, 1) := by decide +kernel
theorem dX2_whyNotTwo_2 : decode cX2_whyNotTwo 2 = .ok (.invokevirtual 81, 3) := by decide +kernel
theorem dX2_whyNotTwo_5 : decode cX2_whyNotTwo 5 = .ok (.ifCond .eq 16, 3) := by decide +kernel
theorem dX2_whyNotTwo_8 : decode cX2_whyNotTwo 8 = .ok (.aload_n 0, 1) := by decide +kernel
theorem dX2_whyNotTwo_9 : decode cX2_whyNotTwo 9 = .ok (.iload_n 2, 1) := by decide +kernel
theorem dX2_whyNotTwo_10 : decode cX2_whyNotTwo 10 = .ok (.invokevirtual 81, 3) := by decide +kernel
theorem dX2_whyNotTwo_13 : decode cX2_whyNotTwo 13 = .ok (.ifCond .eq 8, 3) := by decide +kernel
theorem dX2_whyNotTwo_16 : decode cX2_whyNotTwo 16 = .ok (.iload_n 1, 1) := by decide +kernel
theorem dX2_whyNotTwo_17 : decode cX2_whyNotTwo 17 = .ok (.iload_n 2, 1) := by decide +kernel
theorem dX2_whyNotTwo_18 : decode cX2_whyNotTwo 18 = .ok (.if_icmp .ne 6, 3) := by decide +kernel
theorem dX2_whyNotTwo_21 : decode cX2_whyNotTwo 21 = .ok (.ldc 66, 2) := by decide +kernel
theorem dX2_whyNotTwo_23 : decode cX2_whyNotTwo 23 = .ok (.ireturn, 1) := by decide +kernel
theorem dX2_whyNotTwo_24 : decode cX2_whyNotTwo 24 = .ok (.aload_n 0, 1) := by decide +kernel
theorem dX2_whyNotTwo_25 : decode cX2_whyNotTwo 25 = .ok (.iload_n 1, 1) := by decide +kernel
theorem dX2_whyNotTwo_26 : decode cX2_whyNotTwo 26 = .ok (.invokevirtual 40, 3) := by decide +kernel
theorem dX2_whyNotTwo_29 : decode cX2_whyNotTwo 29 = .ok (.ifCond .eq 15, 3) := by decide +kernel
theorem dX2_whyNotTwo_32 : decode cX2_whyNotTwo 32 = .ok (.aload_n 0, 1) := by decide +kernel
theorem dX2_whyNotTwo_33 : decode cX2_whyNotTwo 33 = .ok (.iload_n 2, 1) := by decide +kernel
theorem dX2_whyNotTwo_34 : decode cX2_whyNotTwo 34 = .ok (.invokevirtual 40, 3) := by decide +kernel
theorem dX2_whyNotTwo_37 : decode cX2_whyNotTwo 37 = .ok (.ifCond .eq 7, 3) := by decide +kernel
theorem dX2_whyNotTwo_40 : decode cX2_whyNotTwo 40 = .ok (.iconst 0, 1) := by decide +kernel
theorem dX2_whyNotTwo_41 : decode cX2_whyNotTwo 41 = .ok (.goto 5, 3) := by decide +kernel
theorem dX2_whyNotTwo_44 : decode cX2_whyNotTwo 44 = .ok (.ldc 70, 2) := by decide +kernel
theorem dX2_whyNotTwo_46 : decode cX2_whyNotTwo 46 = .ok (.ireturn, 1) := by decide +kernel
set_option maxRecDepth 20000 in
theorem ggX2_swap_X2_whyNotTwo : GoodIn wsX2_swap wsX2_whyNotTwo := goodIn_r _ [5, 6, 7, 8, 9, 10, 4, 11, 12, 13, 14, 15, 16, 17, 18, 19, 20, 21, 69, 70, 71, 72, 73] (by decide +kernel) (by decide +kernel)
set_option maxRecDepth 20000 in
theorem gX2_swap_X2_whyNotTwo : GoodIn wsX2_swap (wsV RX2 88 RX2 yX2_whyNotTwo wsX2_whyNotTwo) := goodIn_app (goodIn_of _ (by decide +kernel)) ggX2_swap_X2_whyNotTwo
set_option maxRecDepth 20000 in
theorem ggX2_swap_X2_acts : GoodIn wsX2_swap wsX2_acts := goodIn_r _ [25, 26, 27, 12, 69, 70, 71, 72, 73] (by decide +kernel) (by decide +kernel)
set_option maxRecDepth 20000 in
theorem gX2_swap_X2_acts : GoodIn wsX2_swap (wsV RX2 67 RX2 yX2_acts wsX2_acts) := goodIn_app (goodIn_of _ (by decide +kernel)) ggX2_swap_X2_acts
set_option maxRecDepth 20000 in
theorem ggX2_swap_X2_exchanges : GoodIn wsX2_swap wsX2_exchanges := goodIn_r _ [31, 18, 19, 20, 4, 21, 12, 32, 33, 34, 35, 69, 70, 71, 72, 73] (by decide +kernel) (by decide +kernel)
set_option maxRecDepth 20000 in
theorem gX2_swap_X2_exchanges : GoodIn wsX2_swap (wsV RX2 91 RX2 yX2_exchanges wsX2_exchanges) := goodIn_app (goodIn_of _ (by decide +kernel)) ggX2_swap_X2_exchanges
set_option maxRecDepth 20000 in
theorem ggX2_swap_X2_error : GoodIn wsX2_swap wsX2_error := goodIn_r _ [39, 40, 41, 42, 4, 43, 44, 45, 46, 47, 12, 13, 14, 15, 16, 17, 18, 19, 20, 21, 48, 49, 50, 51, 52, 53, 54, 55, 56, 57, 58, 59, 60, 61, 62, 63, 64, 65, 66, 67, 68, 69, 70, 71, 72, 73] (by decide +kernel) (by decide +kernel)
set_option maxRecDepth 20000 in
theorem gX2_swap_X2_error : GoodIn wsX2_swap (wsV RX2 94 RX2 yX2_error wsX2_error) := goodIn_app (goodIn_of _ (by decide +kernel)) ggX2_swap_X2_error
theorem dX2_swap_0 : decode cX2_swap 0 = .ok (.aload_n 0, 1) := by decide +kernel
theorem dX2_swap_1 : decode cX2_swap 1 = .ok (.iload_n 1, 1) := by decide +kernel
theorem dX2_swap_2 : decode cX2_swap 2 = .ok (.iload_n 2, 1) := by decide +kernel
theorem dX2_swap_3 : decode cX2_swap 3 = .ok (.invokevirtual 88, 3) := by decide +kernel
theorem dX2_swap_6 : decode cX2_swap 6 = .ok (.istore_n 3, 1) := by decide +kernel
theorem dX2_swap_7 : decode cX2_swap 7 = .ok (.iload_n 3, 1) := by decide +kernel
theorem dX2_swap_8 : decode cX2_swap 8 = .ok (.ifCond .eq 5, 3) := by decide +kernel
theorem dX2_swap_11 : decode cX2_swap 11 = .ok (.iload_n 3, 1) := by decide +kernel
theorem dX2_swap_12 : decode cX2_swap 12 = .ok (.ireturn, 1) := by decide +kernel
theorem dX2_swap_13 : decode cX2_swap 13 = .ok (.aload_n 0, 1) := by decide +kernel
theorem dX2_swap_14 : decode cX2_swap 14 = .ok (.invokevirtual 67, 3) := by decide +kernel
theorem dX2_swap_17 : decode cX2_swap 17 = .ok (.aload_n 0, 1) := by decide +kernel
theorem dX2_swap_18 : decode cX2_swap 18 = .ok (.iload_n 1, 1) := by decide +kernel
theorem dX2_swap_19 : decode cX2_swap 19 = .ok (.iload_n 2, 1) := by decide +kernel
theorem dX2_swap_20 : decode cX2_swap 20 = .ok (.iconst 1, 1) := by decide +kernel
theorem dX2_swap_21 : decode cX2_swap 21 = .ok (.invokevirtual 91, 3) := by decide +kernel
theorem dX2_swap_24 : decode cX2_swap 24 = .ok (.aload_n 0, 1) := by decide +kernel
theorem dX2_swap_25 : decode cX2_swap 25 = .ok (.invokevirtual 94, 3) := by decide +kernel
theorem dX2_swap_28 : decode cX2_swap 28 = .ok (.ireturn, 1) := by decide +kernel
set_option maxRecDepth 20000 in
theorem ggX2_leave_X2_isWalker : GoodIn wsX2_leave wsX2_isWalker := goodIn_r _ [8, 9, 32, 33, 34, 35, 36] (by decide +kernel) (by decide +kernel)
set_option maxRecDepth 20000 in
theorem gX2_leave_X2_isWalker : GoodIn wsX2_leave (wsV RX2 81 RX2 yX2_isWalker wsX2_isWalker) := goodIn_app (goodIn_of _ (by decide +kernel)) ggX2_leave_X2_isWalker
set_option maxRecDepth 20000 in
theorem ggX2_leave_X2_isAboard : GoodIn wsX2_leave wsX2_isAboard := goodIn_r _ [13, 3, 14, 15, 16, 7, 17, 9, 32, 33, 34, 35, 36] (by decide +kernel) (by decide +kernel)
set_option maxRecDepth 20000 in
theorem gX2_leave_X2_isAboard : GoodIn wsX2_leave (wsV RX2 40 RX2 yX2_isAboard wsX2_isAboard) := goodIn_app (goodIn_of _ (by decide +kernel)) ggX2_leave_X2_isAboard
set_option maxRecDepth 20000 in
theorem ggX2_leave_X2_acts : GoodIn wsX2_leave wsX2_acts := goodIn_r _ [21, 22, 23, 9, 32, 33, 34, 35, 36] (by decide +kernel) (by decide +kernel)
set_option maxRecDepth 20000 in
theorem gX2_leave_X2_acts : GoodIn wsX2_leave (wsV RX2 67 RX2 yX2_acts wsX2_acts) := goodIn_app (goodIn_of _ (by decide +kernel)) ggX2_leave_X2_acts
set_option maxRecDepth 20000 in
theorem ggX2_leave_X2_ofWalker : GoodIn wsX2_leave wsX2_ofWalker := goodIn_r _ [17, 9, 32, 33, 34, 35, 36] (by decide +kernel) (by decide +kernel)
set_option maxRecDepth 20000 in
theorem gX2_leave_X2_ofWalker : GoodIn wsX2_leave (wsV RX2 27 RX2 yX2_ofWalker wsX2_ofWalker) := goodIn_app (goodIn_of _ (by decide +kernel)) ggX2_leave_X2_ofWalker
set_option maxRecDepth 20000 in
theorem ggX2_leave_X2_on : GoodIn wsX2_leave wsX2_on := goodIn_r _ [27, 3, 9, 10, 11, 12, 7, 13, 14, 15, 16, 17, 32, 33, 34, 35, 36] (by decide +kernel) (by decide +kernel)
set_option maxRecDepth 20000 in
theorem gX2_leave_X2_on : GoodIn wsX2_leave (wsV RX2 77 RX2 yX2_on wsX2_on) := goodIn_app (goodIn_of _ (by decide +kernel)) ggX2_leave_X2_on
set_option maxRecDepth 20000 in
theorem ggX2_leave_X2_puts : GoodIn wsX2_leave wsX2_puts := goodIn_r _ [31, 9, 32, 33, 34, 35, 36] (by decide +kernel) (by decide +kernel)
set_option maxRecDepth 20000 in
theorem gX2_leave_X2_puts : GoodIn wsX2_leave (wsV RX2 84 RX2 yX2_puts wsX2_puts) := goodIn_app (goodIn_of _ (by decide +kernel)) ggX2_leave_X2_puts
theorem dX2_leave_0 : decode cX2_leave 0 = .ok (.aload_n 0, 1) := by decide +kernel
theorem dX2_leave_1 : decode cX2_leave 1 = .ok (.iload_n 1, 1) := by decide +kernel
theorem dX2_leave_2 : decode cX2_leave 2 = .ok (.invokevirtual 81, 3) := by decide +kernel
theorem dX2_leave_5 : decode cX2_leave 5 = .ok (.ifCond .ne 6, 3) := by decide +kernel
theorem dX2_leave_8 : decode cX2_leave 8 = .ok (.ldc 66, 2) := by decide +kernel
theorem dX2_leave_10 : decode cX2_leave 10 = .ok (.ireturn, 1) := by decide +kernel
theorem dX2_leave_11 : decode cX2_leave 11 = .ok (.aload_n 0, 1) := by decide +kernel
theorem dX2_leave_12 : decode cX2_leave 12 = .ok (.iload_n 1, 1) := by decide +kernel
theorem dX2_leave_13 : decode cX2_leave 13 = .ok (.invokevirtual 40, 3) := by decide +kernel
theorem dX2_leave_16 : decode cX2_leave 16 = .ok (.ifCond .ne 6, 3) := by decide +kernel
theorem dX2_leave_19 : decode cX2_leave 19 = .ok (.ldc 70, 2) := by decide +kernel
theorem dX2_leave_21 : decode cX2_leave 21 = .ok (.ireturn, 1) := by decide +kernel
theorem dX2_leave_22 : decode cX2_leave 22 = .ok (.aload_n 0, 1) := by decide +kernel
theorem dX2_leave_23 : decode cX2_leave 23 = .ok (.invokevirtual 67, 3) := by decide +kernel
theorem dX2_leave_26 : decode cX2_leave 26 = .ok (.aload_n 0, 1) := by decide +kernel
theorem dX2_leave_27 : decode cX2_leave 27 = .ok (.aload_n 0, 1) := by decide +kernel
theorem dX2_leave_28 : decode cX2_leave 28 = .ok (.iload_n 1, 1) := by decide +kernel
theorem dX2_leave_29 : decode cX2_leave 29 = .ok (.iconst 1, 1) := by decide +kernel
theorem dX2_leave_30 : decode cX2_leave 30 = .ok (.invokevirtual 27, 3) := by decide +kernel
theorem dX2_leave_33 : decode cX2_leave 33 = .ok (.iconst 3, 1) := by decide +kernel
theorem dX2_leave_34 : decode cX2_leave 34 = .ok (.invokevirtual 77, 3) := by decide +kernel
theorem dX2_leave_37 : decode cX2_leave 37 = .ok (.istore_n 2, 1) := by decide +kernel
theorem dX2_leave_38 : decode cX2_leave 38 = .ok (.aload_n 0, 1) := by decide +kernel
theorem dX2_leave_39 : decode cX2_leave 39 = .ok (.iload_n 2, 1) := by decide +kernel
theorem dX2_leave_40 : decode cX2_leave 40 = .ok (.iconst 3, 1) := by decide +kernel
theorem dX2_leave_41 : decode cX2_leave 41 = .ok (.aload_n 0, 1) := by decide +kernel
theorem dX2_leave_42 : decode cX2_leave 42 = .ok (.iload_n 1, 1) := by decide +kernel
theorem dX2_leave_43 : decode cX2_leave 43 = .ok (.iconst 3, 1) := by decide +kernel
theorem dX2_leave_44 : decode cX2_leave 44 = .ok (.invokevirtual 27, 3) := by decide +kernel
theorem dX2_leave_47 : decode cX2_leave 47 = .ok (.invokevirtual 84, 3) := by decide +kernel
theorem dX2_leave_50 : decode cX2_leave 50 = .ok (.aload_n 0, 1) := by decide +kernel
theorem dX2_leave_51 : decode cX2_leave 51 = .ok (.iload_n 1, 1) := by decide +kernel
theorem dX2_leave_52 : decode cX2_leave 52 = .ok (.iconst 1, 1) := by decide +kernel
theorem dX2_leave_53 : decode cX2_leave 53 = .ok (.ldc 31, 2) := by decide +kernel
theorem dX2_leave_55 : decode cX2_leave 55 = .ok (.invokevirtual 84, 3) := by decide +kernel
theorem dX2_leave_58 : decode cX2_leave 58 = .ok (.aload_n 0, 1) := by decide +kernel
theorem dX2_leave_59 : decode cX2_leave 59 = .ok (.iload_n 1, 1) := by decide +kernel
theorem dX2_leave_60 : decode cX2_leave 60 = .ok (.iconst 3, 1) := by decide +kernel
theorem dX2_leave_61 : decode cX2_leave 61 = .ok (.ldc 31, 2) := by decide +kernel
theorem dX2_leave_63 : decode cX2_leave 63 = .ok (.invokevirtual 84, 3) := by decide +kernel
theorem dX2_leave_66 : decode cX2_leave 66 = .ok (.aload_n 0, 1) := by decide +kernel
theorem dX2_leave_67 : decode cX2_leave 67 = .ok (.iload_n 1, 1) := by decide +kernel
theorem dX2_leave_68 : decode cX2_leave 68 = .ok (.iconst 2, 1) := by decide +kernel
theorem dX2_leave_69 : decode cX2_leave 69 = .ok (.ldc 31, 2) := by decide +kernel
theorem dX2_leave_71 : decode cX2_leave 71 = .ok (.invokevirtual 84, 3) := by decide +kernel
theorem dX2_leave_74 : decode cX2_leave 74 = .ok (.iload_n 2, 1) := by decide +kernel
theorem dX2_leave_75 : decode cX2_leave 75 = .ok (.iload_n 1, 1) := by decide +kernel
theorem dX2_leave_76 : decode cX2_leave 76 = .ok (.if_icmp .ne 7, 3) := by decide +kernel
theorem dX2_leave_79 : decode cX2_leave 79 = .ok (.iconst 1, 1) := by decide +kernel
theorem dX2_leave_80 : decode cX2_leave 80 = .ok (.goto 4, 3) := by decide +kernel
theorem dX2_leave_83 : decode cX2_leave 83 = .ok (.iconst 0, 1) := by decide +kernel
theorem dX2_leave_84 : decode cX2_leave 84 = .ok (.ireturn, 1) := by decide +kernel
set_option maxRecDepth 20000 in
theorem ggX2_setPrice_X2_in : GoodIn wsX2_setPrice wsX2_in := goodIn_r _ [6] (by decide +kernel) (by decide +kernel)
set_option maxRecDepth 20000 in
theorem gX2_setPrice_X2_in : GoodIn wsX2_setPrice (va_wsS RX2 23 yX2_in wsX2_in) := goodIn_app (goodIn_of _ (by decide +kernel)) ggX2_setPrice_X2_in
set_option maxRecDepth 20000 in
theorem ggX2_setPrice_X2_acts : GoodIn wsX2_setPrice wsX2_acts := goodIn_r _ [10, 11, 12, 2, 13, 14, 15, 16, 17] (by decide +kernel) (by decide +kernel)
set_option maxRecDepth 20000 in
theorem gX2_setPrice_X2_acts : GoodIn wsX2_setPrice (wsV RX2 67 RX2 yX2_acts wsX2_acts) := goodIn_app (goodIn_of _ (by decide +kernel)) ggX2_setPrice_X2_acts
theorem dX2_setPrice_0 : decode cX2_setPrice 0 = .ok (.iload_n 1, 1) := by decide +kernel
theorem dX2_setPrice_1 : decode cX2_setPrice 1 = .ok (.iconst 0, 1) := by decide +kernel
theorem dX2_setPrice_2 : decode cX2_setPrice 2 = .ok (.bipush 100, 2) := by decide +kernel
theorem dX2_setPrice_4 : decode cX2_setPrice 4 = .ok (.invokestatic 23, 3) := by decide +kernel
theorem dX2_setPrice_7 : decode cX2_setPrice 7 = .ok (.ifCond .ne 6, 3) := by decide +kernel
theorem dX2_setPrice_10 : decode cX2_setPrice 10 = .ok (.ldc 66, 2) := by decide +kernel
theorem dX2_setPrice_12 : decode cX2_setPrice 12 = .ok (.ireturn, 1) := by decide +kernel
theorem dX2_setPrice_13 : decode cX2_setPrice 13 = .ok (.aload_n 0, 1) := by decide +kernel
theorem dX2_setPrice_14 : decode cX2_setPrice 14 = .ok (.invokevirtual 67, 3) := by decide +kernel
theorem dX2_setPrice_17 : decode cX2_setPrice 17 = .ok (.aload_n 0, 1) := by decide +kernel
theorem dX2_setPrice_18 : decode cX2_setPrice 18 = .ok (.getfield 7, 3) := by decide +kernel
theorem dX2_setPrice_21 : decode cX2_setPrice 21 = .ok (.iconst 2, 1) := by decide +kernel
theorem dX2_setPrice_22 : decode cX2_setPrice 22 = .ok (.iaload, 1) := by decide +kernel
theorem dX2_setPrice_23 : decode cX2_setPrice 23 = .ok (.istore_n 2, 1) := by decide +kernel
theorem dX2_setPrice_24 : decode cX2_setPrice 24 = .ok (.aload_n 0, 1) := by decide +kernel
theorem dX2_setPrice_25 : decode cX2_setPrice 25 = .ok (.getfield 7, 3) := by decide +kernel
theorem dX2_setPrice_28 : decode cX2_setPrice 28 = .ok (.iconst 2, 1) := by decide +kernel
theorem dX2_setPrice_29 : decode cX2_setPrice 29 = .ok (.iload_n 1, 1) := by decide +kernel
theorem dX2_setPrice_30 : decode cX2_setPrice 30 = .ok (.iastore, 1) := by decide +kernel
theorem dX2_setPrice_31 : decode cX2_setPrice 31 = .ok (.iload_n 2, 1) := by decide +kernel
theorem dX2_setPrice_32 : decode cX2_setPrice 32 = .ok (.ireturn, 1) := by decide +kernel
set_option maxRecDepth 20000 in
theorem ggX2_accuse_X2_whyNotTwo : GoodIn wsX2_accuse wsX2_whyNotTwo := goodIn_r _ [6, 7, 8, 9, 10, 11, 5, 12, 1, 13, 14, 15, 16, 17, 18, 19, 20, 21, 69, 70, 71, 72, 73] (by decide +kernel) (by decide +kernel)
set_option maxRecDepth 20000 in
theorem gX2_accuse_X2_whyNotTwo : GoodIn wsX2_accuse (wsV RX2 88 RX2 yX2_whyNotTwo wsX2_whyNotTwo) := goodIn_app (goodIn_of _ (by decide +kernel)) ggX2_accuse_X2_whyNotTwo
set_option maxRecDepth 20000 in
theorem ggX2_accuse_X2_acts : GoodIn wsX2_accuse wsX2_acts := goodIn_r _ [25, 26, 27, 1, 69, 70, 71, 72, 73] (by decide +kernel) (by decide +kernel)
set_option maxRecDepth 20000 in
theorem gX2_accuse_X2_acts : GoodIn wsX2_accuse (wsV RX2 67 RX2 yX2_acts wsX2_acts) := goodIn_app (goodIn_of _ (by decide +kernel)) ggX2_accuse_X2_acts
set_option maxRecDepth 20000 in
theorem ggX2_accuse_X2_exchanges : GoodIn wsX2_accuse wsX2_exchanges := goodIn_r _ [31, 18, 19, 20, 5, 21, 1, 32, 33, 34, 35, 69, 70, 71, 72, 73] (by decide +kernel) (by decide +kernel)
set_option maxRecDepth 20000 in
theorem gX2_accuse_X2_exchanges : GoodIn wsX2_accuse (wsV RX2 91 RX2 yX2_exchanges wsX2_exchanges) := goodIn_app (goodIn_of _ (by decide +kernel)) ggX2_accuse_X2_exchanges
set_option maxRecDepth 20000 in
theorem ggX2_accuse_X2_error : GoodIn wsX2_accuse wsX2_error := goodIn_r _ [39, 40, 41, 42, 5, 43, 44, 45, 46, 47, 1, 13, 14, 15, 16, 17, 18, 19, 20, 21, 48, 49, 50, 51, 52, 53, 54, 55, 56, 57, 58, 59, 60, 61, 62, 63, 64, 65, 66, 67, 68, 69, 70, 71, 72, 73] (by decide +kernel) (by decide +kernel)
set_option maxRecDepth 20000 in
theorem gX2_accuse_X2_error : GoodIn wsX2_accuse (wsV RX2 94 RX2 yX2_error wsX2_error) := goodIn_app (goodIn_of _ (by decide +kernel)) ggX2_accuse_X2_error
theorem dX2_accuse_0 : decode cX2_accuse 0 = .ok (.aload_n 0, 1) := by decide +kernel
theorem dX2_accuse_1 : decode cX2_accuse 1 = .ok (.iload_n 1, 1) := by decide +kernel
theorem dX2_accuse_2 : decode cX2_accuse 2 = .ok (.iload_n 2, 1) := by decide +kernel
theorem dX2_accuse_3 : decode cX2_accuse 3 = .ok (.invokevirtual 88, 3) := by decide +kernel
theorem dX2_accuse_6 : decode cX2_accuse 6 = .ok (.istore_n 3, 1) := by decide +kernel
theorem dX2_accuse_7 : decode cX2_accuse 7 = .ok (.iload_n 3, 1) := by decide +kernel
theorem dX2_accuse_8 : decode cX2_accuse 8 = .ok (.ifCond .eq 5, 3) := by decide +kernel
theorem dX2_accuse_11 : decode cX2_accuse 11 = .ok (.iload_n 3, 1) := by decide +kernel
theorem dX2_accuse_12 : decode cX2_accuse 12 = .ok (.ireturn, 1) := by decide +kernel
theorem dX2_accuse_13 : decode cX2_accuse 13 = .ok (.aload_n 0, 1) := by decide +kernel
theorem dX2_accuse_14 : decode cX2_accuse 14 = .ok (.invokevirtual 67, 3) := by decide +kernel
theorem dX2_accuse_17 : decode cX2_accuse 17 = .ok (.aload_n 0, 1) := by decide +kernel
theorem dX2_accuse_18 : decode cX2_accuse 18 = .ok (.iload_n 1, 1) := by decide +kernel
theorem dX2_accuse_19 : decode cX2_accuse 19 = .ok (.iload_n 2, 1) := by decide +kernel
theorem dX2_accuse_20 : decode cX2_accuse 20 = .ok (.iconst 3, 1) := by decide +kernel
theorem dX2_accuse_21 : decode cX2_accuse 21 = .ok (.invokevirtual 91, 3) := by decide +kernel
theorem dX2_accuse_24 : decode cX2_accuse 24 = .ok (.aload_n 0, 1) := by decide +kernel
theorem dX2_accuse_25 : decode cX2_accuse 25 = .ok (.getfield 7, 3) := by decide +kernel
theorem dX2_accuse_28 : decode cX2_accuse 28 = .ok (.bipush 102, 2) := by decide +kernel
theorem dX2_accuse_30 : decode cX2_accuse 30 = .ok (.bipush 10, 2) := by decide +kernel
theorem dX2_accuse_32 : decode cX2_accuse 32 = .ok (.iload_n 1, 1) := by decide +kernel
theorem dX2_accuse_33 : decode cX2_accuse 33 = .ok (.imul, 1) := by decide +kernel
theorem dX2_accuse_34 : decode cX2_accuse 34 = .ok (.iadd, 1) := by decide +kernel
theorem dX2_accuse_35 : decode cX2_accuse 35 = .ok (.iconst 4, 1) := by decide +kernel
theorem dX2_accuse_36 : decode cX2_accuse 36 = .ok (.iadd, 1) := by decide +kernel
theorem dX2_accuse_37 : decode cX2_accuse 37 = .ok (.dup2, 1) := by decide +kernel
theorem dX2_accuse_38 : decode cX2_accuse 38 = .ok (.iaload, 1) := by decide +kernel
theorem dX2_accuse_39 : decode cX2_accuse 39 = .ok (.iconst 1, 1) := by decide +kernel
theorem dX2_accuse_40 : decode cX2_accuse 40 = .ok (.iadd, 1) := by decide +kernel
theorem dX2_accuse_41 : decode cX2_accuse 41 = .ok (.iastore, 1) := by decide +kernel
theorem dX2_accuse_42 : decode cX2_accuse 42 = .ok (.aload_n 0, 1) := by decide +kernel
theorem dX2_accuse_43 : decode cX2_accuse 43 = .ok (.getfield 7, 3) := by decide +kernel
theorem dX2_accuse_46 : decode cX2_accuse 46 = .ok (.bipush 102, 2) := by decide +kernel
theorem dX2_accuse_48 : decode cX2_accuse 48 = .ok (.bipush 10, 2) := by decide +kernel
theorem dX2_accuse_50 : decode cX2_accuse 50 = .ok (.iload_n 2, 1) := by decide +kernel
end
section
theorem dX2_accuse_51 : decode cX2_accuse 51 = .ok (.imul, 1) := by decide +kernel
theorem dX2_accuse_52 : decode cX2_accuse 52 = .ok (.iadd, 1) := by decide +kernel
theorem dX2_accuse_53 : decode cX2_accuse 53 = .ok (.iconst 4, 1) := by decide +kernel
theorem dX2_accuse_54 : decode cX2_accuse 54 = .ok (.iadd, 1) := by decide +kernel
theorem dX2_accuse_55 : decode cX2_accuse 55 = .ok (.dup2, 1) := by decide +kernel
theorem dX2_accuse_56 : decode cX2_accuse 56 = .ok (.iaload, 1) := by decide +kernel
theorem dX2_accuse_57 : decode cX2_accuse 57 = .ok (.iconst 1, 1) := by decide +kernel
theorem dX2_accuse_58 : decode cX2_accuse 58 = .ok (.iadd, 1) := by decide +kernel
theorem dX2_accuse_59 : decode cX2_accuse 59 = .ok (.iastore, 1) := by decide +kernel
theorem dX2_accuse_60 : decode cX2_accuse 60 = .ok (.aload_n 0, 1) := by decide +kernel
theorem dX2_accuse_61 : decode cX2_accuse 61 = .ok (.invokevirtual 94, 3) := by decide +kernel
theorem dX2_accuse_64 : decode cX2_accuse 64 = .ok (.ireturn, 1) := by decide +kernel
set_option maxRecDepth 20000 in
theorem ggX2_isNear_X2_areNeighbors : GoodIn wsX2_isNear wsX2_areNeighbors := goodIn_r _ [4] (by decide +kernel) (by decide +kernel)
set_option maxRecDepth 20000 in
theorem gX2_isNear_X2_areNeighbors : GoodIn wsX2_isNear (va_wsS RX2 32 yX2_areNeighbors wsX2_areNeighbors) := goodIn_app (goodIn_of _ (by decide +kernel)) ggX2_isNear_X2_areNeighbors
theorem dX2_isNear_0 : decode cX2_isNear 0 = .ok (.iload_n 0, 1) := by decide +kernel
theorem dX2_isNear_1 : decode cX2_isNear 1 = .ok (.iload_n 1, 1) := by decide +kernel
theorem dX2_isNear_2 : decode cX2_isNear 2 = .ok (.if_icmp .eq 11, 3) := by decide +kernel
theorem dX2_isNear_5 : decode cX2_isNear 5 = .ok (.iload_n 0, 1) := by decide +kernel
theorem dX2_isNear_6 : decode cX2_isNear 6 = .ok (.iload_n 1, 1) := by decide +kernel
theorem dX2_isNear_7 : decode cX2_isNear 7 = .ok (.invokestatic 32, 3) := by decide +kernel
theorem dX2_isNear_10 : decode cX2_isNear 10 = .ok (.ifCond .eq 7, 3) := by decide +kernel
theorem dX2_isNear_13 : decode cX2_isNear 13 = .ok (.iconst 1, 1) := by decide +kernel
theorem dX2_isNear_14 : decode cX2_isNear 14 = .ok (.goto 4, 3) := by decide +kernel
theorem dX2_isNear_17 : decode cX2_isNear 17 = .ok (.iconst 0, 1) := by decide +kernel
theorem dX2_isNear_18 : decode cX2_isNear 18 = .ok (.ireturn, 1) := by decide +kernel
set_option maxRecDepth 20000 in
theorem ggX2_estimateOf_X2_ofWalker : GoodIn wsX2_estimateOf wsX2_ofWalker := goodIn_r _ [5, 6, 40, 41, 42, 43, 44] (by decide +kernel) (by decide +kernel)
set_option maxRecDepth 20000 in
theorem gX2_estimateOf_X2_ofWalker : GoodIn wsX2_estimateOf (wsV RX2 27 RX2 yX2_ofWalker wsX2_ofWalker) := goodIn_app (goodIn_of _ (by decide +kernel)) ggX2_estimateOf_X2_ofWalker
set_option maxRecDepth 20000 in
theorem ggX2_estimateOf_X2_isNear : GoodIn wsX2_estimateOf wsX2_isNear := goodIn_r _ [9, 10, 11, 4, 12] (by decide +kernel) (by decide +kernel)
set_option maxRecDepth 20000 in
theorem gX2_estimateOf_X2_isNear : GoodIn wsX2_estimateOf (va_wsS RX2 98 yX2_isNear wsX2_isNear) := goodIn_app (goodIn_of _ (by decide +kernel)) ggX2_estimateOf_X2_isNear
set_option maxRecDepth 20000 in
theorem ggX2_estimateOf_X2_reading : GoodIn wsX2_estimateOf wsX2_reading := goodIn_r _ [16, 17, 18, 19, 4, 20, 6, 21, 22, 23, 24, 25, 1, 2, 3, 5, 26, 27, 28, 29, 30, 31, 10, 11, 12, 32, 33, 34, 35, 40, 41, 42, 43, 44] (by decide +kernel) (by decide +kernel)
set_option maxRecDepth 20000 in
theorem gX2_estimateOf_X2_reading : GoodIn wsX2_estimateOf (wsV RX2 57 RX2 yX2_reading wsX2_reading) := goodIn_app (goodIn_of _ (by decide +kernel)) ggX2_estimateOf_X2_reading
set_option maxRecDepth 20000 in
theorem ggX2_estimateOf_X2_of : GoodIn wsX2_estimateOf wsX2_of := goodIn_r _ [35, 6, 40, 41, 42, 43, 44] (by decide +kernel) (by decide +kernel)
set_option maxRecDepth 20000 in
theorem gX2_estimateOf_X2_of : GoodIn wsX2_estimateOf (wsV RX2 51 RX2 yX2_of wsX2_of) := goodIn_app (goodIn_of _ (by decide +kernel)) ggX2_estimateOf_X2_of
set_option maxRecDepth 20000 in
theorem ggX2_estimateOf_X2_booked : GoodIn wsX2_estimateOf wsX2_booked := goodIn_r _ [39, 6, 21, 22, 23, 4, 24, 25, 1, 2, 3, 5, 26, 27, 28, 29, 30, 31, 10, 11, 12, 40, 41, 42, 43, 44] (by decide +kernel) (by decide +kernel)
set_option maxRecDepth 20000 in
theorem gX2_estimateOf_X2_booked : GoodIn wsX2_estimateOf (wsV RX2 54 RX2 yX2_booked wsX2_booked) := goodIn_app (goodIn_of _ (by decide +kernel)) ggX2_estimateOf_X2_booked
theorem dX2_estimateOf_0 : decode cX2_estimateOf 0 = .ok (.iconst 0, 1) := by decide +kernel
theorem dX2_estimateOf_1 : decode cX2_estimateOf 1 = .ok (.istore_n 2, 1) := by decide +kernel
theorem dX2_estimateOf_2 : decode cX2_estimateOf 2 = .ok (.iconst 0, 1) := by decide +kernel
theorem dX2_estimateOf_3 : decode cX2_estimateOf 3 = .ok (.istore_n 3, 1) := by decide +kernel
theorem dX2_estimateOf_4 : decode cX2_estimateOf 4 = .ok (.iload_n 3, 1) := by decide +kernel
theorem dX2_estimateOf_5 : decode cX2_estimateOf 5 = .ok (.bipush 24, 2) := by decide +kernel
theorem dX2_estimateOf_7 : decode cX2_estimateOf 7 = .ok (.if_icmp .ge 48, 3) := by decide +kernel
theorem dX2_estimateOf_10 : decode cX2_estimateOf 10 = .ok (.iload_n 2, 1) := by decide +kernel
theorem dX2_estimateOf_11 : decode cX2_estimateOf 11 = .ok (.iload_n 3, 1) := by decide +kernel
theorem dX2_estimateOf_12 : decode cX2_estimateOf 12 = .ok (.aload_n 0, 1) := by decide +kernel
theorem dX2_estimateOf_13 : decode cX2_estimateOf 13 = .ok (.iload_n 1, 1) := by decide +kernel
theorem dX2_estimateOf_14 : decode cX2_estimateOf 14 = .ok (.iconst 3, 1) := by decide +kernel
theorem dX2_estimateOf_15 : decode cX2_estimateOf 15 = .ok (.invokevirtual 27, 3) := by decide +kernel
theorem dX2_estimateOf_18 : decode cX2_estimateOf 18 = .ok (.invokestatic 98, 3) := by decide +kernel
theorem dX2_estimateOf_21 : decode cX2_estimateOf 21 = .ok (.ifCond .eq 25, 3) := by decide +kernel
theorem dX2_estimateOf_24 : decode cX2_estimateOf 24 = .ok (.aload_n 0, 1) := by decide +kernel
theorem dX2_estimateOf_25 : decode cX2_estimateOf 25 = .ok (.iload_n 3, 1) := by decide +kernel
theorem dX2_estimateOf_26 : decode cX2_estimateOf 26 = .ok (.invokevirtual 57, 3) := by decide +kernel
theorem dX2_estimateOf_29 : decode cX2_estimateOf 29 = .ok (.aload_n 0, 1) := by decide +kernel
theorem dX2_estimateOf_30 : decode cX2_estimateOf 30 = .ok (.iload_n 3, 1) := by decide +kernel
theorem dX2_estimateOf_31 : decode cX2_estimateOf 31 = .ok (.iconst 2, 1) := by decide +kernel
theorem dX2_estimateOf_32 : decode cX2_estimateOf 32 = .ok (.invokevirtual 51, 3) := by decide +kernel
theorem dX2_estimateOf_35 : decode cX2_estimateOf 35 = .ok (.isub, 1) := by decide +kernel
theorem dX2_estimateOf_36 : decode cX2_estimateOf 36 = .ok (.aload_n 0, 1) := by decide +kernel
theorem dX2_estimateOf_37 : decode cX2_estimateOf 37 = .ok (.iload_n 3, 1) := by decide +kernel
theorem dX2_estimateOf_38 : decode cX2_estimateOf 38 = .ok (.iload_n 1, 1) := by decide +kernel
theorem dX2_estimateOf_39 : decode cX2_estimateOf 39 = .ok (.invokevirtual 54, 3) := by decide +kernel
theorem dX2_estimateOf_42 : decode cX2_estimateOf 42 = .ok (.isub, 1) := by decide +kernel
theorem dX2_estimateOf_43 : decode cX2_estimateOf 43 = .ok (.goto 4, 3) := by decide +kernel
theorem dX2_estimateOf_46 : decode cX2_estimateOf 46 = .ok (.iconst 0, 1) := by decide +kernel
theorem dX2_estimateOf_47 : decode cX2_estimateOf 47 = .ok (.iadd, 1) := by decide +kernel
theorem dX2_estimateOf_48 : decode cX2_estimateOf 48 = .ok (.istore_n 2, 1) := by decide +kernel
theorem dX2_estimateOf_49 : decode cX2_estimateOf 49 = .ok (.iinc 3 1, 3) := by decide +kernel
theorem dX2_estimateOf_52 : decode cX2_estimateOf 52 = .ok (.goto (-48), 3) := by decide +kernel
theorem dX2_estimateOf_55 : decode cX2_estimateOf 55 = .ok (.iload_n 2, 1) := by decide +kernel
theorem dX2_estimateOf_56 : decode cX2_estimateOf 56 = .ok (.ifCond .ge 7, 3) := by decide +kernel
theorem dX2_estimateOf_59 : decode cX2_estimateOf 59 = .ok (.iconst 0, 1) := by decide +kernel
theorem dX2_estimateOf_60 : decode cX2_estimateOf 60 = .ok (.goto 4, 3) := by decide +kernel
theorem dX2_estimateOf_63 : decode cX2_estimateOf 63 = .ok (.iload_n 2, 1) := by decide +kernel
theorem dX2_estimateOf_64 : decode cX2_estimateOf 64 = .ok (.ireturn, 1) := by decide +kernel
set_option maxRecDepth 20000 in
theorem ggX2_earliest_X2_isNear : GoodIn wsX2_earliest wsX2_isNear := goodIn_r _ [4, 5, 6, 3, 7] (by decide +kernel) (by decide +kernel)
set_option maxRecDepth 20000 in
theorem gX2_earliest_X2_isNear : GoodIn wsX2_earliest (va_wsS RX2 98 yX2_isNear wsX2_isNear) := goodIn_app (goodIn_of _ (by decide +kernel)) ggX2_earliest_X2_isNear
set_option maxRecDepth 20000 in
theorem ggX2_earliest_X2_of : GoodIn wsX2_earliest wsX2_of := goodIn_r _ [11, 12, 13, 14, 15, 16, 17] (by decide +kernel) (by decide +kernel)
set_option maxRecDepth 20000 in
theorem gX2_earliest_X2_of : GoodIn wsX2_earliest (wsV RX2 51 RX2 yX2_of wsX2_of) := goodIn_app (goodIn_of _ (by decide +kernel)) ggX2_earliest_X2_of
theorem dX2_earliest_0 : decode cX2_earliest 0 = .ok (.sipush 2000, 3) := by decide +kernel
theorem dX2_earliest_3 : decode cX2_earliest 3 = .ok (.istore_n 2, 1) := by decide +kernel
theorem dX2_earliest_4 : decode cX2_earliest 4 = .ok (.iconst 0, 1) := by decide +kernel
theorem dX2_earliest_5 : decode cX2_earliest 5 = .ok (.istore_n 3, 1) := by decide +kernel
theorem dX2_earliest_6 : decode cX2_earliest 6 = .ok (.iload_n 3, 1) := by decide +kernel
theorem dX2_earliest_7 : decode cX2_earliest 7 = .ok (.bipush 24, 2) := by decide +kernel
theorem dX2_earliest_9 : decode cX2_earliest 9 = .ok (.if_icmp .ge 38, 3) := by decide +kernel
theorem dX2_earliest_12 : decode cX2_earliest 12 = .ok (.iload_n 3, 1) := by decide +kernel
theorem dX2_earliest_13 : decode cX2_earliest 13 = .ok (.iload_n 1, 1) := by decide +kernel
theorem dX2_earliest_14 : decode cX2_earliest 14 = .ok (.invokestatic 98, 3) := by decide +kernel
theorem dX2_earliest_17 : decode cX2_earliest 17 = .ok (.ifCond .eq 22, 3) := by decide +kernel
theorem dX2_earliest_20 : decode cX2_earliest 20 = .ok (.aload_n 0, 1) := by decide +kernel
theorem dX2_earliest_21 : decode cX2_earliest 21 = .ok (.iload_n 3, 1) := by decide +kernel
theorem dX2_earliest_22 : decode cX2_earliest 22 = .ok (.iconst 3, 1) := by decide +kernel
theorem dX2_earliest_23 : decode cX2_earliest 23 = .ok (.invokevirtual 51, 3) := by decide +kernel
theorem dX2_earliest_26 : decode cX2_earliest 26 = .ok (.iload_n 2, 1) := by decide +kernel
theorem dX2_earliest_27 : decode cX2_earliest 27 = .ok (.if_icmp .ge 12, 3) := by decide +kernel
theorem dX2_earliest_30 : decode cX2_earliest 30 = .ok (.aload_n 0, 1) := by decide +kernel
theorem dX2_earliest_31 : decode cX2_earliest 31 = .ok (.iload_n 3, 1) := by decide +kernel
theorem dX2_earliest_32 : decode cX2_earliest 32 = .ok (.iconst 3, 1) := by decide +kernel
theorem dX2_earliest_33 : decode cX2_earliest 33 = .ok (.invokevirtual 51, 3) := by decide +kernel
theorem dX2_earliest_36 : decode cX2_earliest 36 = .ok (.goto 4, 3) := by decide +kernel
theorem dX2_earliest_39 : decode cX2_earliest 39 = .ok (.iload_n 2, 1) := by decide +kernel
theorem dX2_earliest_40 : decode cX2_earliest 40 = .ok (.istore_n 2, 1) := by decide +kernel
theorem dX2_earliest_41 : decode cX2_earliest 41 = .ok (.iinc 3 1, 3) := by decide +kernel
theorem dX2_earliest_44 : decode cX2_earliest 44 = .ok (.goto (-38), 3) := by decide +kernel
theorem dX2_earliest_47 : decode cX2_earliest 47 = .ok (.iload_n 2, 1) := by decide +kernel
theorem dX2_earliest_48 : decode cX2_earliest 48 = .ok (.ireturn, 1) := by decide +kernel
set_option maxRecDepth 20000 in
theorem ggX2_certaintyIn_X2_ofWalker : GoodIn wsX2_certaintyIn wsX2_ofWalker := goodIn_r _ [6, 1, 21, 22, 23, 24, 25] (by decide +kernel) (by decide +kernel)
set_option maxRecDepth 20000 in
theorem gX2_certaintyIn_X2_ofWalker : GoodIn wsX2_certaintyIn (wsV RX2 27 RX2 yX2_ofWalker wsX2_ofWalker) := goodIn_app (goodIn_of _ (by decide +kernel)) ggX2_certaintyIn_X2_ofWalker
set_option maxRecDepth 20000 in
theorem ggX2_certaintyIn_X2_earliest : GoodIn wsX2_certaintyIn wsX2_earliest := goodIn_r _ [10, 11, 12, 5, 13, 14, 15, 16, 17, 18, 19, 20, 1, 21, 22, 23, 24, 25] (by decide +kernel) (by decide +kernel)
set_option maxRecDepth 20000 in
theorem gX2_certaintyIn_X2_earliest : GoodIn wsX2_certaintyIn (wsV RX2 101 RX2 yX2_earliest wsX2_earliest) := goodIn_app (goodIn_of _ (by decide +kernel)) ggX2_certaintyIn_X2_earliest
theorem dX2_certaintyIn_0 : decode cX2_certaintyIn 0 = .ok (.bipush 100, 2) := by decide +kernel
theorem dX2_certaintyIn_2 : decode cX2_certaintyIn 2 = .ok (.iconst 5, 1) := by decide +kernel
theorem dX2_certaintyIn_3 : decode cX2_certaintyIn 3 = .ok (.aload_n 0, 1) := by decide +kernel
theorem dX2_certaintyIn_4 : decode cX2_certaintyIn 4 = .ok (.getfield 7, 3) := by decide +kernel
theorem dX2_certaintyIn_7 : decode cX2_certaintyIn 7 = .ok (.iconst 0, 1) := by decide +kernel
theorem dX2_certaintyIn_8 : decode cX2_certaintyIn 8 = .ok (.iaload, 1) := by decide +kernel
theorem dX2_certaintyIn_9 : decode cX2_certaintyIn 9 = .ok (.iload_n 2, 1) := by decide +kernel
theorem dX2_certaintyIn_10 : decode cX2_certaintyIn 10 = .ok (.iadd, 1) := by decide +kernel
theorem dX2_certaintyIn_11 : decode cX2_certaintyIn 11 = .ok (.aload_n 0, 1) := by decide +kernel
theorem dX2_certaintyIn_12 : decode cX2_certaintyIn 12 = .ok (.aload_n 0, 1) := by decide +kernel
theorem dX2_certaintyIn_13 : decode cX2_certaintyIn 13 = .ok (.iload_n 1, 1) := by decide +kernel
theorem dX2_certaintyIn_14 : decode cX2_certaintyIn 14 = .ok (.iconst 3, 1) := by decide +kernel
theorem dX2_certaintyIn_15 : decode cX2_certaintyIn 15 = .ok (.invokevirtual 27, 3) := by decide +kernel
theorem dX2_certaintyIn_18 : decode cX2_certaintyIn 18 = .ok (.invokevirtual 101, 3) := by decide +kernel
theorem dX2_certaintyIn_21 : decode cX2_certaintyIn 21 = .ok (.isub, 1) := by decide +kernel
theorem dX2_certaintyIn_22 : decode cX2_certaintyIn 22 = .ok (.imul, 1) := by decide +kernel
theorem dX2_certaintyIn_23 : decode cX2_certaintyIn 23 = .ok (.isub, 1) := by decide +kernel
theorem dX2_certaintyIn_24 : decode cX2_certaintyIn 24 = .ok (.bipush 10, 2) := by decide +kernel
theorem dX2_certaintyIn_26 : decode cX2_certaintyIn 26 = .ok (.aload_n 0, 1) := by decide +kernel
theorem dX2_certaintyIn_27 : decode cX2_certaintyIn 27 = .ok (.iload_n 1, 1) := by decide +kernel
theorem dX2_certaintyIn_28 : decode cX2_certaintyIn 28 = .ok (.iconst 4, 1) := by decide +kernel
theorem dX2_certaintyIn_29 : decode cX2_certaintyIn 29 = .ok (.invokevirtual 27, 3) := by decide +kernel
theorem dX2_certaintyIn_32 : decode cX2_certaintyIn 32 = .ok (.imul, 1) := by decide +kernel
theorem dX2_certaintyIn_33 : decode cX2_certaintyIn 33 = .ok (.isub, 1) := by decide +kernel
theorem dX2_certaintyIn_34 : decode cX2_certaintyIn 34 = .ok (.istore_n 3, 1) := by decide +kernel
theorem dX2_certaintyIn_35 : decode cX2_certaintyIn 35 = .ok (.iload_n 3, 1) := by decide +kernel
theorem dX2_certaintyIn_36 : decode cX2_certaintyIn 36 = .ok (.ifCond .ge 7, 3) := by decide +kernel
theorem dX2_certaintyIn_39 : decode cX2_certaintyIn 39 = .ok (.iconst 0, 1) := by decide +kernel
theorem dX2_certaintyIn_40 : decode cX2_certaintyIn 40 = .ok (.goto 4, 3) := by decide +kernel
theorem dX2_certaintyIn_43 : decode cX2_certaintyIn 43 = .ok (.iload_n 3, 1) := by decide +kernel
theorem dX2_certaintyIn_44 : decode cX2_certaintyIn 44 = .ok (.ireturn, 1) := by decide +kernel
set_option maxRecDepth 20000 in
theorem ggX2_sumOf_X2_reading : GoodIn wsX2_sumOf wsX2_reading := goodIn_r _ [5, 6, 7, 8, 4, 9, 10, 11, 12, 13, 14, 15, 16, 17, 18, 19, 20, 21, 22, 23, 24, 25, 26, 27, 28, 29, 30, 31, 32, 33, 34, 35, 36, 37] (by decide +kernel) (by decide +kernel)
set_option maxRecDepth 20000 in
theorem gX2_sumOf_X2_reading : GoodIn wsX2_sumOf (wsV RX2 57 RX2 yX2_reading wsX2_reading) := goodIn_app (goodIn_of _ (by decide +kernel)) ggX2_sumOf_X2_reading
set_option maxRecDepth 20000 in
theorem ggX2_sumOf_X2_of : GoodIn wsX2_sumOf wsX2_of := goodIn_r _ [32, 10, 33, 34, 35, 36, 37] (by decide +kernel) (by decide +kernel)
set_option maxRecDepth 20000 in
theorem gX2_sumOf_X2_of : GoodIn wsX2_sumOf (wsV RX2 51 RX2 yX2_of wsX2_of) := goodIn_app (goodIn_of _ (by decide +kernel)) ggX2_sumOf_X2_of
theorem dX2_sumOf_0 : decode cX2_sumOf 0 = .ok (.iconst 0, 1) := by decide +kernel
theorem dX2_sumOf_1 : decode cX2_sumOf 1 = .ok (.istore_n 2, 1) := by decide +kernel
theorem dX2_sumOf_2 : decode cX2_sumOf 2 = .ok (.iconst 0, 1) := by decide +kernel
theorem dX2_sumOf_3 : decode cX2_sumOf 3 = .ok (.istore_n 3, 1) := by decide +kernel
theorem dX2_sumOf_4 : decode cX2_sumOf 4 = .ok (.iload_n 3, 1) := by decide +kernel
theorem dX2_sumOf_5 : decode cX2_sumOf 5 = .ok (.bipush 24, 2) := by decide +kernel
theorem dX2_sumOf_7 : decode cX2_sumOf 7 = .ok (.if_icmp .ge 30, 3) := by decide +kernel
theorem dX2_sumOf_10 : decode cX2_sumOf 10 = .ok (.iload_n 2, 1) := by decide +kernel
theorem dX2_sumOf_11 : decode cX2_sumOf 11 = .ok (.iload_n 1, 1) := by decide +kernel
theorem dX2_sumOf_12 : decode cX2_sumOf 12 = .ok (.ifCond .eq 11, 3) := by decide +kernel
theorem dX2_sumOf_15 : decode cX2_sumOf 15 = .ok (.aload_n 0, 1) := by decide +kernel
theorem dX2_sumOf_16 : decode cX2_sumOf 16 = .ok (.iload_n 3, 1) := by decide +kernel
theorem dX2_sumOf_17 : decode cX2_sumOf 17 = .ok (.invokevirtual 57, 3) := by decide +kernel
theorem dX2_sumOf_20 : decode cX2_sumOf 20 = .ok (.goto 9, 3) := by decide +kernel
theorem dX2_sumOf_23 : decode cX2_sumOf 23 = .ok (.aload_n 0, 1) := by decide +kernel
theorem dX2_sumOf_24 : decode cX2_sumOf 24 = .ok (.iload_n 3, 1) := by decide +kernel
theorem dX2_sumOf_25 : decode cX2_sumOf 25 = .ok (.iconst 2, 1) := by decide +kernel
theorem dX2_sumOf_26 : decode cX2_sumOf 26 = .ok (.invokevirtual 51, 3) := by decide +kernel
theorem dX2_sumOf_29 : decode cX2_sumOf 29 = .ok (.iadd, 1) := by decide +kernel
theorem dX2_sumOf_30 : decode cX2_sumOf 30 = .ok (.istore_n 2, 1) := by decide +kernel
theorem dX2_sumOf_31 : decode cX2_sumOf 31 = .ok (.iinc 3 1, 3) := by decide +kernel
theorem dX2_sumOf_34 : decode cX2_sumOf 34 = .ok (.goto (-30), 3) := by decide +kernel
theorem dX2_sumOf_37 : decode cX2_sumOf 37 = .ok (.iload_n 2, 1) := by decide +kernel
theorem dX2_sumOf_38 : decode cX2_sumOf 38 = .ok (.ireturn, 1) := by decide +kernel
set_option maxRecDepth 20000 in
theorem ggX2_bill_X2_isWalker : GoodIn wsX2_bill wsX2_isWalker := goodIn_r _ [9, 4, 72, 73, 74, 75, 76] (by decide +kernel) (by decide +kernel)
set_option maxRecDepth 20000 in
theorem gX2_bill_X2_isWalker : GoodIn wsX2_bill (wsV RX2 81 RX2 yX2_isWalker wsX2_isWalker) := goodIn_app (goodIn_of _ (by decide +kernel)) ggX2_bill_X2_isWalker
set_option maxRecDepth 20000 in
theorem ggX2_bill_X2_isAboard : GoodIn wsX2_bill wsX2_isAboard := goodIn_r _ [13, 2, 14, 15, 16, 8, 17, 4, 72, 73, 74, 75, 76] (by decide +kernel) (by decide +kernel)
set_option maxRecDepth 20000 in
theorem gX2_bill_X2_isAboard : GoodIn wsX2_bill (wsV RX2 40 RX2 yX2_isAboard wsX2_isAboard) := goodIn_app (goodIn_of _ (by decide +kernel)) ggX2_bill_X2_isAboard
set_option maxRecDepth 20000 in
theorem ggX2_bill_X2_ofWalker : GoodIn wsX2_bill wsX2_ofWalker := goodIn_r _ [17, 4, 72, 73, 74, 75, 76] (by decide +kernel) (by decide +kernel)
set_option maxRecDepth 20000 in
theorem gX2_bill_X2_ofWalker : GoodIn wsX2_bill (wsV RX2 27 RX2 yX2_ofWalker wsX2_ofWalker) := goodIn_app (goodIn_of _ (by decide +kernel)) ggX2_bill_X2_ofWalker
set_option maxRecDepth 20000 in
theorem ggX2_bill_X2_acts : GoodIn wsX2_bill wsX2_acts := goodIn_r _ [21, 22, 23, 4, 72, 73, 74, 75, 76] (by decide +kernel) (by decide +kernel)
set_option maxRecDepth 20000 in
theorem gX2_bill_X2_acts : GoodIn wsX2_bill (wsV RX2 67 RX2 yX2_acts wsX2_acts) := goodIn_app (goodIn_of _ (by decide +kernel)) ggX2_bill_X2_acts
set_option maxRecDepth 20000 in
theorem ggX2_bill_X2_estimateOf : GoodIn wsX2_bill wsX2_estimateOf := goodIn_r _ [27, 14, 15, 16, 8, 17, 4, 28, 29, 30, 31, 32, 33, 34, 35, 36, 37, 38, 39, 40, 41, 10, 11, 12, 13, 2, 42, 43, 44, 45, 46, 47, 48, 49, 50, 51, 52, 53, 54, 55, 72, 73, 74, 75, 76] (by decide +kernel) (by decide +kernel)
set_option maxRecDepth 20000 in
theorem gX2_bill_X2_estimateOf : GoodIn wsX2_bill (wsV RX2 104 RX2 yX2_estimateOf wsX2_estimateOf) := goodIn_app (goodIn_of _ (by decide +kernel)) ggX2_bill_X2_estimateOf
set_option maxRecDepth 20000 in
theorem ggX2_bill_X2_certaintyIn : GoodIn wsX2_bill wsX2_certaintyIn := goodIn_r _ [59, 4, 14, 15, 16, 8, 17, 60, 61, 62, 63, 28, 29, 30, 31, 32, 33, 48, 49, 50, 51, 72, 73, 74, 75, 76] (by decide +kernel) (by decide +kernel)
set_option maxRecDepth 20000 in
theorem gX2_bill_X2_certaintyIn : GoodIn wsX2_bill (wsV RX2 107 RX2 yX2_certaintyIn wsX2_certaintyIn) := goodIn_app (goodIn_of _ (by decide +kernel)) ggX2_bill_X2_certaintyIn
set_option maxRecDepth 20000 in
theorem ggX2_bill_X2_sumOf : GoodIn wsX2_bill wsX2_sumOf := goodIn_r _ [67, 34, 35, 36, 8, 37, 38, 39, 40, 41, 4, 10, 11, 12, 13, 2, 14, 15, 16, 17, 42, 43, 44, 45, 46, 47, 31, 32, 33, 48, 49, 50, 51, 72, 73, 74, 75, 76] (by decide +kernel) (by decide +kernel)
set_option maxRecDepth 20000 in
theorem gX2_bill_X2_sumOf : GoodIn wsX2_bill (wsV RX2 110 RX2 yX2_sumOf wsX2_sumOf) := goodIn_app (goodIn_of _ (by decide +kernel)) ggX2_bill_X2_sumOf
set_option maxRecDepth 20000 in
theorem ggX2_bill_X2_puts : GoodIn wsX2_bill wsX2_puts := goodIn_r _ [71, 4, 72, 73, 74, 75, 76] (by decide +kernel) (by decide +kernel)
set_option maxRecDepth 20000 in
theorem gX2_bill_X2_puts : GoodIn wsX2_bill (wsV RX2 84 RX2 yX2_puts wsX2_puts) := goodIn_app (goodIn_of _ (by decide +kernel)) ggX2_bill_X2_puts
theorem dX2_bill_0 : decode cX2_bill 0 = .ok (.aload_n 0, 1) := by decide +kernel
theorem dX2_bill_1 : decode cX2_bill 1 = .ok (.iload_n 1, 1) := by decide +kernel
theorem dX2_bill_2 : decode cX2_bill 2 = .ok (.invokevirtual 81, 3) := by decide +kernel
theorem dX2_bill_5 : decode cX2_bill 5 = .ok (.ifCond .ne 6, 3) := by decide +kernel
theorem dX2_bill_8 : decode cX2_bill 8 = .ok (.ldc 66, 2) := by decide +kernel
theorem dX2_bill_10 : decode cX2_bill 10 = .ok (.ireturn, 1) := by decide +kernel
theorem dX2_bill_11 : decode cX2_bill 11 = .ok (.aload_n 0, 1) := by decide +kernel
theorem dX2_bill_12 : decode cX2_bill 12 = .ok (.iload_n 1, 1) := by decide +kernel
theorem dX2_bill_13 : decode cX2_bill 13 = .ok (.invokevirtual 40, 3) := by decide +kernel
theorem dX2_bill_16 : decode cX2_bill 16 = .ok (.ifCond .eq 14, 3) := by decide +kernel
theorem dX2_bill_19 : decode cX2_bill 19 = .ok (.aload_n 0, 1) := by decide +kernel
theorem dX2_bill_20 : decode cX2_bill 20 = .ok (.iload_n 1, 1) := by decide +kernel
theorem dX2_bill_21 : decode cX2_bill 21 = .ok (.iconst 5, 1) := by decide +kernel
theorem dX2_bill_22 : decode cX2_bill 22 = .ok (.invokevirtual 27, 3) := by decide +kernel
theorem dX2_bill_25 : decode cX2_bill 25 = .ok (.ldc 31, 2) := by decide +kernel
theorem dX2_bill_27 : decode cX2_bill 27 = .ok (.if_icmp .eq 6, 3) := by decide +kernel
theorem dX2_bill_30 : decode cX2_bill 30 = .ok (.ldc 70, 2) := by decide +kernel
theorem dX2_bill_32 : decode cX2_bill 32 = .ok (.ireturn, 1) := by decide +kernel
theorem dX2_bill_33 : decode cX2_bill 33 = .ok (.aload_n 0, 1) := by decide +kernel
theorem dX2_bill_34 : decode cX2_bill 34 = .ok (.invokevirtual 67, 3) := by decide +kernel
theorem dX2_bill_37 : decode cX2_bill 37 = .ok (.aload_n 0, 1) := by decide +kernel
theorem dX2_bill_38 : decode cX2_bill 38 = .ok (.iload_n 1, 1) := by decide +kernel
theorem dX2_bill_39 : decode cX2_bill 39 = .ok (.invokevirtual 104, 3) := by decide +kernel
theorem dX2_bill_42 : decode cX2_bill 42 = .ok (.aload_n 0, 1) := by decide +kernel
theorem dX2_bill_43 : decode cX2_bill 43 = .ok (.iload_n 1, 1) := by decide +kernel
theorem dX2_bill_44 : decode cX2_bill 44 = .ok (.iconst 0, 1) := by decide +kernel
theorem dX2_bill_45 : decode cX2_bill 45 = .ok (.invokevirtual 107, 3) := by decide +kernel
theorem dX2_bill_48 : decode cX2_bill 48 = .ok (.imul, 1) := by decide +kernel
theorem dX2_bill_49 : decode cX2_bill 49 = .ok (.bipush 100, 2) := by decide +kernel
theorem dX2_bill_51 : decode cX2_bill 51 = .ok (.idiv, 1) := by decide +kernel
theorem dX2_bill_52 : decode cX2_bill 52 = .ok (.istore_n 2, 1) := by decide +kernel
theorem dX2_bill_53 : decode cX2_bill 53 = .ok (.aload_n 0, 1) := by decide +kernel
theorem dX2_bill_54 : decode cX2_bill 54 = .ok (.getfield 7, 3) := by decide +kernel
theorem dX2_bill_57 : decode cX2_bill 57 = .ok (.iconst 3, 1) := by decide +kernel
theorem dX2_bill_58 : decode cX2_bill 58 = .ok (.iaload, 1) := by decide +kernel
theorem dX2_bill_59 : decode cX2_bill 59 = .ok (.iload_n 2, 1) := by decide +kernel
theorem dX2_bill_60 : decode cX2_bill 60 = .ok (.iadd, 1) := by decide +kernel
theorem dX2_bill_61 : decode cX2_bill 61 = .ok (.aload_n 0, 1) := by decide +kernel
theorem dX2_bill_62 : decode cX2_bill 62 = .ok (.iconst 1, 1) := by decide +kernel
theorem dX2_bill_63 : decode cX2_bill 63 = .ok (.invokevirtual 110, 3) := by decide +kernel
theorem dX2_bill_66 : decode cX2_bill 66 = .ok (.aload_n 0, 1) := by decide +kernel
theorem dX2_bill_67 : decode cX2_bill 67 = .ok (.iconst 0, 1) := by decide +kernel
theorem dX2_bill_68 : decode cX2_bill 68 = .ok (.invokevirtual 110, 3) := by decide +kernel
theorem dX2_bill_71 : decode cX2_bill 71 = .ok (.isub, 1) := by decide +kernel
theorem dX2_bill_72 : decode cX2_bill 72 = .ok (.isub, 1) := by decide +kernel
theorem dX2_bill_73 : decode cX2_bill 73 = .ok (.istore_n 3, 1) := by decide +kernel
theorem dX2_bill_74 : decode cX2_bill 74 = .ok (.iload_n 2, 1) := by decide +kernel
theorem dX2_bill_75 : decode cX2_bill 75 = .ok (.iload_n 3, 1) := by decide +kernel
theorem dX2_bill_76 : decode cX2_bill 76 = .ok (.ifCond .le 7, 3) := by decide +kernel
theorem dX2_bill_79 : decode cX2_bill 79 = .ok (.iload_n 3, 1) := by decide +kernel
theorem dX2_bill_80 : decode cX2_bill 80 = .ok (.goto 4, 3) := by decide +kernel
theorem dX2_bill_83 : decode cX2_bill 83 = .ok (.iconst 0, 1) := by decide +kernel
theorem dX2_bill_84 : decode cX2_bill 84 = .ok (.isub, 1) := by decide +kernel
theorem dX2_bill_85 : decode cX2_bill 85 = .ok (.istore_n 2, 1) := by decide +kernel
theorem dX2_bill_86 : decode cX2_bill 86 = .ok (.iload_n 2, 1) := by decide +kernel
theorem dX2_bill_87 : decode cX2_bill 87 = .ok (.ifCond .ge 7, 3) := by decide +kernel
theorem dX2_bill_90 : decode cX2_bill 90 = .ok (.iconst 0, 1) := by decide +kernel
theorem dX2_bill_91 : decode cX2_bill 91 = .ok (.goto 4, 3) := by decide +kernel
theorem dX2_bill_94 : decode cX2_bill 94 = .ok (.iload_n 2, 1) := by decide +kernel
theorem dX2_bill_95 : decode cX2_bill 95 = .ok (.istore_n 2, 1) := by decide +kernel
theorem dX2_bill_96 : decode cX2_bill 96 = .ok (.aload_n 0, 1) := by decide +kernel
theorem dX2_bill_97 : decode cX2_bill 97 = .ok (.iload_n 1, 1) := by decide +kernel
theorem dX2_bill_98 : decode cX2_bill 98 = .ok (.iconst 5, 1) := by decide +kernel
theorem dX2_bill_99 : decode cX2_bill 99 = .ok (.iload_n 2, 1) := by decide +kernel
theorem dX2_bill_100 : decode cX2_bill 100 = .ok (.invokevirtual 84, 3) := by decide +kernel
theorem dX2_bill_103 : decode cX2_bill 103 = .ok (.aload_n 0, 1) := by decide +kernel
theorem dX2_bill_104 : decode cX2_bill 104 = .ok (.iload_n 1, 1) := by decide +kernel
theorem dX2_bill_105 : decode cX2_bill 105 = .ok (.bipush 6, 2) := by decide +kernel
theorem dX2_bill_107 : decode cX2_bill 107 = .ok (.iload_n 2, 1) := by decide +kernel
theorem dX2_bill_108 : decode cX2_bill 108 = .ok (.aload_n 0, 1) := by decide +kernel
theorem dX2_bill_109 : decode cX2_bill 109 = .ok (.getfield 7, 3) := by decide +kernel
theorem dX2_bill_112 : decode cX2_bill 112 = .ok (.iconst 2, 1) := by decide +kernel
theorem dX2_bill_113 : decode cX2_bill 113 = .ok (.iaload, 1) := by decide +kernel
theorem dX2_bill_114 : decode cX2_bill 114 = .ok (.imul, 1) := by decide +kernel
theorem dX2_bill_115 : decode cX2_bill 115 = .ok (.invokevirtual 84, 3) := by decide +kernel
theorem dX2_bill_118 : decode cX2_bill 118 = .ok (.aload_n 0, 1) := by decide +kernel
theorem dX2_bill_119 : decode cX2_bill 119 = .ok (.iload_n 1, 1) := by decide +kernel
theorem dX2_bill_120 : decode cX2_bill 120 = .ok (.bipush 8, 2) := by decide +kernel
theorem dX2_bill_122 : decode cX2_bill 122 = .ok (.aload_n 0, 1) := by decide +kernel
theorem dX2_bill_123 : decode cX2_bill 123 = .ok (.getfield 7, 3) := by decide +kernel
theorem dX2_bill_126 : decode cX2_bill 126 = .ok (.iconst 2, 1) := by decide +kernel
theorem dX2_bill_127 : decode cX2_bill 127 = .ok (.iaload, 1) := by decide +kernel
theorem dX2_bill_128 : decode cX2_bill 128 = .ok (.invokevirtual 84, 3) := by decide +kernel
theorem dX2_bill_131 : decode cX2_bill 131 = .ok (.aload_n 0, 1) := by decide +kernel
theorem dX2_bill_132 : decode cX2_bill 132 = .ok (.iload_n 1, 1) := by decide +kernel
theorem dX2_bill_133 : decode cX2_bill 133 = .ok (.iconst 2, 1) := by decide +kernel
theorem dX2_bill_134 : decode cX2_bill 134 = .ok (.iload_n 2, 1) := by decide +kernel
theorem dX2_bill_135 : decode cX2_bill 135 = .ok (.bipush 20, 2) := by decide +kernel
theorem dX2_bill_137 : decode cX2_bill 137 = .ok (.if_icmp .ge 12, 3) := by decide +kernel
theorem dX2_bill_140 : decode cX2_bill 140 = .ok (.aload_n 0, 1) := by decide +kernel
theorem dX2_bill_141 : decode cX2_bill 141 = .ok (.iload_n 1, 1) := by decide +kernel
theorem dX2_bill_142 : decode cX2_bill 142 = .ok (.iconst 2, 1) := by decide +kernel
theorem dX2_bill_143 : decode cX2_bill 143 = .ok (.invokevirtual 27, 3) := by decide +kernel
theorem dX2_bill_146 : decode cX2_bill 146 = .ok (.goto 4, 3) := by decide +kernel
theorem dX2_bill_149 : decode cX2_bill 149 = .ok (.iload_n 2, 1) := by decide +kernel
theorem dX2_bill_150 : decode cX2_bill 150 = .ok (.invokevirtual 84, 3) := by decide +kernel
theorem dX2_bill_153 : decode cX2_bill 153 = .ok (.aload_n 0, 1) := by decide +kernel
theorem dX2_bill_154 : decode cX2_bill 154 = .ok (.getfield 7, 3) := by decide +kernel
theorem dX2_bill_157 : decode cX2_bill 157 = .ok (.iconst 3, 1) := by decide +kernel
theorem dX2_bill_158 : decode cX2_bill 158 = .ok (.dup2, 1) := by decide +kernel
theorem dX2_bill_159 : decode cX2_bill 159 = .ok (.iaload, 1) := by decide +kernel
theorem dX2_bill_160 : decode cX2_bill 160 = .ok (.iload_n 2, 1) := by decide +kernel
theorem dX2_bill_161 : decode cX2_bill 161 = .ok (.iadd, 1) := by decide +kernel
theorem dX2_bill_162 : decode cX2_bill 162 = .ok (.iastore, 1) := by decide +kernel
theorem dX2_bill_163 : decode cX2_bill 163 = .ok (.aload_n 0, 1) := by decide +kernel
theorem dX2_bill_164 : decode cX2_bill 164 = .ok (.getfield 7, 3) := by decide +kernel
theorem dX2_bill_167 : decode cX2_bill 167 = .ok (.iconst 4, 1) := by decide +kernel
theorem dX2_bill_168 : decode cX2_bill 168 = .ok (.dup2, 1) := by decide +kernel
theorem dX2_bill_169 : decode cX2_bill 169 = .ok (.iaload, 1) := by decide +kernel
theorem dX2_bill_170 : decode cX2_bill 170 = .ok (.iload_n 2, 1) := by decide +kernel
theorem dX2_bill_171 : decode cX2_bill 171 = .ok (.aload_n 0, 1) := by decide +kernel
theorem dX2_bill_172 : decode cX2_bill 172 = .ok (.getfield 7, 3) := by decide +kernel
theorem dX2_bill_175 : decode cX2_bill 175 = .ok (.iconst 2, 1) := by decide +kernel
theorem dX2_bill_176 : decode cX2_bill 176 = .ok (.iaload, 1) := by decide +kernel
theorem dX2_bill_177 : decode cX2_bill 177 = .ok (.imul, 1) := by decide +kernel
theorem dX2_bill_178 : decode cX2_bill 178 = .ok (.iadd, 1) := by decide +kernel
theorem dX2_bill_179 : decode cX2_bill 179 = .ok (.iastore, 1) := by decide +kernel
theorem dX2_bill_180 : decode cX2_bill 180 = .ok (.iload_n 2, 1) := by decide +kernel
theorem dX2_bill_181 : decode cX2_bill 181 = .ok (.ireturn, 1) := by decide +kernel
set_option maxRecDepth 20000 in
theorem ggX2_complain_X2_isWalker : GoodIn wsX2_complain wsX2_isWalker := goodIn_r _ [9, 4, 28, 29, 30, 31, 32] (by decide +kernel) (by decide +kernel)
set_option maxRecDepth 20000 in
theorem gX2_complain_X2_isWalker : GoodIn wsX2_complain (wsV RX2 81 RX2 yX2_isWalker wsX2_isWalker) := goodIn_app (goodIn_of _ (by decide +kernel)) ggX2_complain_X2_isWalker
set_option maxRecDepth 20000 in
theorem ggX2_complain_X2_isAboard : GoodIn wsX2_complain wsX2_isAboard := goodIn_r _ [13, 2, 14, 15, 16, 8, 17, 4, 28, 29, 30, 31, 32] (by decide +kernel) (by decide +kernel)
set_option maxRecDepth 20000 in
theorem gX2_complain_X2_isAboard : GoodIn wsX2_complain (wsV RX2 40 RX2 yX2_isAboard wsX2_isAboard) := goodIn_app (goodIn_of _ (by decide +kernel)) ggX2_complain_X2_isAboard
set_option maxRecDepth 20000 in
theorem ggX2_complain_X2_ofWalker : GoodIn wsX2_complain wsX2_ofWalker := goodIn_r _ [17, 4, 28, 29, 30, 31, 32] (by decide +kernel) (by decide +kernel)
set_option maxRecDepth 20000 in
theorem gX2_complain_X2_ofWalker : GoodIn wsX2_complain (wsV RX2 27 RX2 yX2_ofWalker wsX2_ofWalker) := goodIn_app (goodIn_of _ (by decide +kernel)) ggX2_complain_X2_ofWalker
set_option maxRecDepth 20000 in
theorem ggX2_complain_X2_acts : GoodIn wsX2_complain wsX2_acts := goodIn_r _ [21, 22, 23, 4, 28, 29, 30, 31, 32] (by decide +kernel) (by decide +kernel)
set_option maxRecDepth 20000 in
theorem gX2_complain_X2_acts : GoodIn wsX2_complain (wsV RX2 67 RX2 yX2_acts wsX2_acts) := goodIn_app (goodIn_of _ (by decide +kernel)) ggX2_complain_X2_acts
set_option maxRecDepth 20000 in
theorem ggX2_complain_X2_puts : GoodIn wsX2_complain wsX2_puts := goodIn_r _ [27, 4, 28, 29, 30, 31, 32] (by decide +kernel) (by decide +kernel)
set_option maxRecDepth 20000 in
theorem gX2_complain_X2_puts : GoodIn wsX2_complain (wsV RX2 84 RX2 yX2_puts wsX2_puts) := goodIn_app (goodIn_of _ (by decide +kernel)) ggX2_complain_X2_puts
theorem dX2_complain_0 : decode cX2_complain 0 = .ok (.aload_n 0, 1) := by decide +kernel
theorem dX2_complain_1 : decode cX2_complain 1 = .ok (.iload_n 1, 1) := by decide +kernel
theorem dX2_complain_2 : decode cX2_complain 2 = .ok (.invokevirtual 81, 3) := by decide +kernel
theorem dX2_complain_5 : decode cX2_complain 5 = .ok (.ifCond .ne 6, 3) := by decide +kernel
theorem dX2_complain_8 : decode cX2_complain 8 = .ok (.ldc 66, 2) := by decide +kernel
theorem dX2_complain_10 : decode cX2_complain 10 = .ok (.ireturn, 1) := by decide +kernel
theorem dX2_complain_11 : decode cX2_complain 11 = .ok (.aload_n 0, 1) := by decide +kernel
theorem dX2_complain_12 : decode cX2_complain 12 = .ok (.iload_n 1, 1) := by decide +kernel
theorem dX2_complain_13 : decode cX2_complain 13 = .ok (.invokevirtual 40, 3) := by decide +kernel
theorem dX2_complain_16 : decode cX2_complain 16 = .ok (.ifCond .ne 25, 3) := by decide +kernel
theorem dX2_complain_19 : decode cX2_complain 19 = .ok (.aload_n 0, 1) := by decide +kernel
theorem dX2_complain_20 : decode cX2_complain 20 = .ok (.iload_n 1, 1) := by decide +kernel
theorem dX2_complain_21 : decode cX2_complain 21 = .ok (.iconst 5, 1) := by decide +kernel
theorem dX2_complain_22 : decode cX2_complain 22 = .ok (.invokevirtual 27, 3) := by decide +kernel
theorem dX2_complain_25 : decode cX2_complain 25 = .ok (.ldc 31, 2) := by decide +kernel
theorem dX2_complain_27 : decode cX2_complain 27 = .ok (.if_icmp .eq 14, 3) := by decide +kernel
theorem dX2_complain_30 : decode cX2_complain 30 = .ok (.aload_n 0, 1) := by decide +kernel
theorem dX2_complain_31 : decode cX2_complain 31 = .ok (.iload_n 1, 1) := by decide +kernel
theorem dX2_complain_32 : decode cX2_complain 32 = .ok (.bipush 9, 2) := by decide +kernel
theorem dX2_complain_34 : decode cX2_complain 34 = .ok (.invokevirtual 27, 3) := by decide +kernel
theorem dX2_complain_37 : decode cX2_complain 37 = .ok (.iconst 1, 1) := by decide +kernel
theorem dX2_complain_38 : decode cX2_complain 38 = .ok (.if_icmp .ne 6, 3) := by decide +kernel
theorem dX2_complain_41 : decode cX2_complain 41 = .ok (.ldc 70, 2) := by decide +kernel
theorem dX2_complain_43 : decode cX2_complain 43 = .ok (.ireturn, 1) := by decide +kernel
theorem dX2_complain_44 : decode cX2_complain 44 = .ok (.aload_n 0, 1) := by decide +kernel
theorem dX2_complain_45 : decode cX2_complain 45 = .ok (.invokevirtual 67, 3) := by decide +kernel
theorem dX2_complain_48 : decode cX2_complain 48 = .ok (.aload_n 0, 1) := by decide +kernel
theorem dX2_complain_49 : decode cX2_complain 49 = .ok (.iload_n 1, 1) := by decide +kernel
theorem dX2_complain_50 : decode cX2_complain 50 = .ok (.iconst 5, 1) := by decide +kernel
theorem dX2_complain_51 : decode cX2_complain 51 = .ok (.invokevirtual 27, 3) := by decide +kernel
theorem dX2_complain_54 : decode cX2_complain 54 = .ok (.aload_n 0, 1) := by decide +kernel
theorem dX2_complain_55 : decode cX2_complain 55 = .ok (.iload_n 1, 1) := by decide +kernel
theorem dX2_complain_56 : decode cX2_complain 56 = .ok (.iconst 0, 1) := by decide +kernel
theorem dX2_complain_57 : decode cX2_complain 57 = .ok (.invokevirtual 27, 3) := by decide +kernel
theorem dX2_complain_60 : decode cX2_complain 60 = .ok (.isub, 1) := by decide +kernel
theorem dX2_complain_61 : decode cX2_complain 61 = .ok (.istore_n 2, 1) := by decide +kernel
theorem dX2_complain_62 : decode cX2_complain 62 = .ok (.iload_n 2, 1) := by decide +kernel
theorem dX2_complain_63 : decode cX2_complain 63 = .ok (.ifCond .ge 7, 3) := by decide +kernel
theorem dX2_complain_66 : decode cX2_complain 66 = .ok (.iconst 0, 1) := by decide +kernel
theorem dX2_complain_67 : decode cX2_complain 67 = .ok (.goto 4, 3) := by decide +kernel
theorem dX2_complain_70 : decode cX2_complain 70 = .ok (.iload_n 2, 1) := by decide +kernel
theorem dX2_complain_71 : decode cX2_complain 71 = .ok (.istore_n 2, 1) := by decide +kernel
theorem dX2_complain_72 : decode cX2_complain 72 = .ok (.aload_n 0, 1) := by decide +kernel
theorem dX2_complain_73 : decode cX2_complain 73 = .ok (.iload_n 1, 1) := by decide +kernel
theorem dX2_complain_74 : decode cX2_complain 74 = .ok (.bipush 9, 2) := by decide +kernel
theorem dX2_complain_76 : decode cX2_complain 76 = .ok (.iconst 1, 1) := by decide +kernel
theorem dX2_complain_77 : decode cX2_complain 77 = .ok (.invokevirtual 84, 3) := by decide +kernel
theorem dX2_complain_80 : decode cX2_complain 80 = .ok (.aload_n 0, 1) := by decide +kernel
theorem dX2_complain_81 : decode cX2_complain 81 = .ok (.iload_n 1, 1) := by decide +kernel
theorem dX2_complain_82 : decode cX2_complain 82 = .ok (.bipush 7, 2) := by decide +kernel
theorem dX2_complain_84 : decode cX2_complain 84 = .ok (.iload_n 2, 1) := by decide +kernel
theorem dX2_complain_85 : decode cX2_complain 85 = .ok (.aload_n 0, 1) := by decide +kernel
theorem dX2_complain_86 : decode cX2_complain 86 = .ok (.iload_n 1, 1) := by decide +kernel
theorem dX2_complain_87 : decode cX2_complain 87 = .ok (.bipush 8, 2) := by decide +kernel
theorem dX2_complain_89 : decode cX2_complain 89 = .ok (.invokevirtual 27, 3) := by decide +kernel
theorem dX2_complain_92 : decode cX2_complain 92 = .ok (.imul, 1) := by decide +kernel
theorem dX2_complain_93 : decode cX2_complain 93 = .ok (.invokevirtual 84, 3) := by decide +kernel
theorem dX2_complain_96 : decode cX2_complain 96 = .ok (.aload_n 0, 1) := by decide +kernel
theorem dX2_complain_97 : decode cX2_complain 97 = .ok (.getfield 7, 3) := by decide +kernel
theorem dX2_complain_100 : decode cX2_complain 100 = .ok (.iconst 3, 1) := by decide +kernel
theorem dX2_complain_101 : decode cX2_complain 101 = .ok (.dup2, 1) := by decide +kernel
theorem dX2_complain_102 : decode cX2_complain 102 = .ok (.iaload, 1) := by decide +kernel
theorem dX2_complain_103 : decode cX2_complain 103 = .ok (.iload_n 2, 1) := by decide +kernel
theorem dX2_complain_104 : decode cX2_complain 104 = .ok (.isub, 1) := by decide +kernel
theorem dX2_complain_105 : decode cX2_complain 105 = .ok (.iastore, 1) := by decide +kernel
theorem dX2_complain_106 : decode cX2_complain 106 = .ok (.aload_n 0, 1) := by decide +kernel
theorem dX2_complain_107 : decode cX2_complain 107 = .ok (.getfield 7, 3) := by decide +kernel
theorem dX2_complain_110 : decode cX2_complain 110 = .ok (.iconst 5, 1) := by decide +kernel
theorem dX2_complain_111 : decode cX2_complain 111 = .ok (.dup2, 1) := by decide +kernel
theorem dX2_complain_112 : decode cX2_complain 112 = .ok (.iaload, 1) := by decide +kernel
theorem dX2_complain_113 : decode cX2_complain 113 = .ok (.aload_n 0, 1) := by decide +kernel
theorem dX2_complain_114 : decode cX2_complain 114 = .ok (.iload_n 1, 1) := by decide +kernel
theorem dX2_complain_115 : decode cX2_complain 115 = .ok (.bipush 7, 2) := by decide +kernel
theorem dX2_complain_117 : decode cX2_complain 117 = .ok (.invokevirtual 27, 3) := by decide +kernel
theorem dX2_complain_120 : decode cX2_complain 120 = .ok (.iadd, 1) := by decide +kernel
theorem dX2_complain_121 : decode cX2_complain 121 = .ok (.iastore, 1) := by decide +kernel
theorem dX2_complain_122 : decode cX2_complain 122 = .ok (.aload_n 0, 1) := by decide +kernel
theorem dX2_complain_123 : decode cX2_complain 123 = .ok (.iload_n 1, 1) := by decide +kernel
theorem dX2_complain_124 : decode cX2_complain 124 = .ok (.bipush 7, 2) := by decide +kernel
theorem dX2_complain_126 : decode cX2_complain 126 = .ok (.invokevirtual 27, 3) := by decide +kernel
theorem dX2_complain_129 : decode cX2_complain 129 = .ok (.ireturn, 1) := by decide +kernel
theorem dX2_undo_0 : decode cX2_undo 0 = .ok (.aload_n 0, 1) := by decide +kernel
theorem dX2_undo_1 : decode cX2_undo 1 = .ok (.getfield 19, 3) := by decide +kernel
theorem dX2_undo_4 : decode cX2_undo 4 = .ok (.ifCond .ne 6, 3) := by decide +kernel
theorem dX2_undo_7 : decode cX2_undo 7 = .ok (.ldc 70, 2) := by decide +kernel
theorem dX2_undo_9 : decode cX2_undo 9 = .ok (.ireturn, 1) := by decide +kernel
theorem dX2_undo_10 : decode cX2_undo 10 = .ok (.aload_n 0, 1) := by decide +kernel
theorem dX2_undo_11 : decode cX2_undo 11 = .ok (.dup, 1) := by decide +kernel
theorem dX2_undo_12 : decode cX2_undo 12 = .ok (.getfield 19, 3) := by decide +kernel
theorem dX2_undo_15 : decode cX2_undo 15 = .ok (.iconst 1, 1) := by decide +kernel
theorem dX2_undo_16 : decode cX2_undo 16 = .ok (.isub, 1) := by decide +kernel
theorem dX2_undo_17 : decode cX2_undo 17 = .ok (.putfield 19, 3) := by decide +kernel
theorem dX2_undo_20 : decode cX2_undo 20 = .ok (.iconst 0, 1) := by decide +kernel
theorem dX2_undo_21 : decode cX2_undo 21 = .ok (.istore_n 1, 1) := by decide +kernel
theorem dX2_undo_22 : decode cX2_undo 22 = .ok (.iload_n 1, 1) := by decide +kernel
theorem dX2_undo_23 : decode cX2_undo 23 = .ok (.sipush 182, 3) := by decide +kernel
theorem dX2_undo_26 : decode cX2_undo 26 = .ok (.if_icmp .ge 30, 3) := by decide +kernel
theorem dX2_undo_29 : decode cX2_undo 29 = .ok (.aload_n 0, 1) := by decide +kernel
theorem dX2_undo_30 : decode cX2_undo 30 = .ok (.getfield 7, 3) := by decide +kernel
theorem dX2_undo_33 : decode cX2_undo 33 = .ok (.iload_n 1, 1) := by decide +kernel
theorem dX2_undo_34 : decode cX2_undo 34 = .ok (.aload_n 0, 1) := by decide +kernel
theorem dX2_undo_35 : decode cX2_undo 35 = .ok (.getfield 13, 3) := by decide +kernel
theorem dX2_undo_38 : decode cX2_undo 38 = .ok (.sipush 182, 3) := by decide +kernel
theorem dX2_undo_41 : decode cX2_undo 41 = .ok (.aload_n 0, 1) := by decide +kernel
theorem dX2_undo_42 : decode cX2_undo 42 = .ok (.getfield 19, 3) := by decide +kernel
theorem dX2_undo_45 : decode cX2_undo 45 = .ok (.imul, 1) := by decide +kernel
theorem dX2_undo_46 : decode cX2_undo 46 = .ok (.iload_n 1, 1) := by decide +kernel
theorem dX2_undo_47 : decode cX2_undo 47 = .ok (.iadd, 1) := by decide +kernel
theorem dX2_undo_48 : decode cX2_undo 48 = .ok (.iaload, 1) := by decide +kernel
theorem dX2_undo_49 : decode cX2_undo 49 = .ok (.iastore, 1) := by decide +kernel
theorem dX2_undo_50 : decode cX2_undo 50 = .ok (.iinc 1 1, 3) := by decide +kernel
theorem dX2_undo_53 : decode cX2_undo 53 = .ok (.goto (-31), 3) := by decide +kernel
theorem dX2_undo_56 : decode cX2_undo 56 = .ok (.aload_n 0, 1) := by decide +kernel
theorem dX2_undo_57 : decode cX2_undo 57 = .ok (.getfield 19, 3) := by decide +kernel
theorem dX2_undo_60 : decode cX2_undo 60 = .ok (.ireturn, 1) := by decide +kernel
set_option maxRecDepth 20000 in
theorem ggX2_many_X2_isAboard : GoodIn wsX2_many wsX2_isAboard := goodIn_r _ [6, 7, 8, 9, 10, 5, 11, 1, 12, 13, 14, 15, 16] (by decide +kernel) (by decide +kernel)
set_option maxRecDepth 20000 in
theorem gX2_many_X2_isAboard : GoodIn wsX2_many (wsV RX2 40 RX2 yX2_isAboard wsX2_isAboard) := goodIn_app (goodIn_of _ (by decide +kernel)) ggX2_many_X2_isAboard
set_option maxRecDepth 20000 in
theorem ggX2_many_X2_ofWalker : GoodIn wsX2_many wsX2_ofWalker := goodIn_r _ [11, 1, 12, 13, 14, 15, 16] (by decide +kernel) (by decide +kernel)
set_option maxRecDepth 20000 in
theorem gX2_many_X2_ofWalker : GoodIn wsX2_many (wsV RX2 27 RX2 yX2_ofWalker wsX2_ofWalker) := goodIn_app (goodIn_of _ (by decide +kernel)) ggX2_many_X2_ofWalker
theorem dX2_many_0 : decode cX2_many 0 = .ok (.iconst 0, 1) := by decide +kernel
theorem dX2_many_1 : decode cX2_many 1 = .ok (.istore_n 2, 1) := by decide +kernel
theorem dX2_many_2 : decode cX2_many 2 = .ok (.iconst 0, 1) := by decide +kernel
theorem dX2_many_3 : decode cX2_many 3 = .ok (.istore_n 3, 1) := by decide +kernel
theorem dX2_many_4 : decode cX2_many 4 = .ok (.iload_n 3, 1) := by decide +kernel
theorem dX2_many_5 : decode cX2_many 5 = .ok (.aload_n 0, 1) := by decide +kernel
theorem dX2_many_6 : decode cX2_many 6 = .ok (.getfield 7, 3) := by decide +kernel
theorem dX2_many_9 : decode cX2_many 9 = .ok (.iconst 1, 1) := by decide +kernel
theorem dX2_many_10 : decode cX2_many 10 = .ok (.iaload, 1) := by decide +kernel
theorem dX2_many_11 : decode cX2_many 11 = .ok (.if_icmp .ge 44, 3) := by decide +kernel
theorem dX2_many_14 : decode cX2_many 14 = .ok (.iload_n 2, 1) := by decide +kernel
theorem dX2_many_15 : decode cX2_many 15 = .ok (.aload_n 0, 1) := by decide +kernel
theorem dX2_many_16 : decode cX2_many 16 = .ok (.iload_n 3, 1) := by decide +kernel
theorem dX2_many_17 : decode cX2_many 17 = .ok (.invokevirtual 40, 3) := by decide +kernel
theorem dX2_many_20 : decode cX2_many 20 = .ok (.ifCond .eq 26, 3) := by decide +kernel
theorem dX2_many_23 : decode cX2_many 23 = .ok (.iload_n 1, 1) := by decide +kernel
theorem dX2_many_24 : decode cX2_many 24 = .ok (.ifCond .eq 18, 3) := by decide +kernel
theorem dX2_many_27 : decode cX2_many 27 = .ok (.aload_n 0, 1) := by decide +kernel
theorem dX2_many_28 : decode cX2_many 28 = .ok (.iload_n 3, 1) := by decide +kernel
theorem dX2_many_29 : decode cX2_many 29 = .ok (.iconst 1, 1) := by decide +kernel
theorem dX2_many_30 : decode cX2_many 30 = .ok (.invokevirtual 27, 3) := by decide +kernel
theorem dX2_many_33 : decode cX2_many 33 = .ok (.aload_n 0, 1) := by decide +kernel
theorem dX2_many_34 : decode cX2_many 34 = .ok (.iload_n 3, 1) := by decide +kernel
theorem dX2_many_35 : decode cX2_many 35 = .ok (.iconst 3, 1) := by decide +kernel
theorem dX2_many_36 : decode cX2_many 36 = .ok (.invokevirtual 27, 3) := by decide +kernel
theorem dX2_many_39 : decode cX2_many 39 = .ok (.if_icmp .eq 7, 3) := by decide +kernel
theorem dX2_many_42 : decode cX2_many 42 = .ok (.iconst 1, 1) := by decide +kernel
theorem dX2_many_43 : decode cX2_many 43 = .ok (.goto 4, 3) := by decide +kernel
theorem dX2_many_46 : decode cX2_many 46 = .ok (.iconst 0, 1) := by decide +kernel
theorem dX2_many_47 : decode cX2_many 47 = .ok (.iadd, 1) := by decide +kernel
theorem dX2_many_48 : decode cX2_many 48 = .ok (.istore_n 2, 1) := by decide +kernel
theorem dX2_many_49 : decode cX2_many 49 = .ok (.iinc 3 1, 3) := by decide +kernel
theorem dX2_many_52 : decode cX2_many 52 = .ok (.goto (-48), 3) := by decide +kernel
theorem dX2_many_55 : decode cX2_many 55 = .ok (.iload_n 2, 1) := by decide +kernel
theorem dX2_many_56 : decode cX2_many 56 = .ok (.ireturn, 1) := by decide +kernel
set_option maxRecDepth 20000 in
theorem ggX2_count_X2_many : GoodIn wsX2_count wsX2_many := goodIn_r _ [8, 1, 9, 10, 11, 7, 12, 13, 14, 15, 16, 17, 55, 56, 57, 58, 59] (by decide +kernel) (by decide +kernel)
set_option maxRecDepth 20000 in
theorem gX2_count_X2_many : GoodIn wsX2_count (wsV RX2 114 RX2 yX2_many wsX2_many) := goodIn_app (goodIn_of _ (by decide +kernel)) ggX2_count_X2_many
set_option maxRecDepth 20000 in
theorem ggX2_count_X2_error : GoodIn wsX2_count wsX2_error := goodIn_r _ [21, 22, 23, 24, 7, 25, 26, 27, 28, 29, 1, 9, 10, 11, 12, 13, 14, 15, 16, 17, 30, 31, 32, 33, 34, 35, 36, 37, 38, 39, 40, 41, 42, 43, 44, 45, 46, 47, 48, 49, 50, 55, 56, 57, 58, 59] (by decide +kernel) (by decide +kernel)
set_option maxRecDepth 20000 in
theorem gX2_count_X2_error : GoodIn wsX2_count (wsV RX2 94 RX2 yX2_error wsX2_error) := goodIn_app (goodIn_of _ (by decide +kernel)) ggX2_count_X2_error
set_option maxRecDepth 20000 in
theorem ggX2_count_X2_sumOf : GoodIn wsX2_count wsX2_sumOf := goodIn_r _ [54, 22, 23, 24, 7, 25, 26, 27, 28, 29, 1, 9, 10, 11, 12, 13, 14, 15, 16, 17, 30, 31, 32, 33, 34, 35, 36, 37, 38, 39, 40, 41, 42, 55, 56, 57, 58, 59] (by decide +kernel) (by decide +kernel)
set_option maxRecDepth 20000 in
theorem gX2_count_X2_sumOf : GoodIn wsX2_count (wsV RX2 110 RX2 yX2_sumOf wsX2_sumOf) := goodIn_app (goodIn_of _ (by decide +kernel)) ggX2_count_X2_sumOf
theorem dX2_count_0 : decode cX2_count 0 = .ok (.iload_n 1, 1) := by decide +kernel
theorem dX2_count_1 : decode cX2_count 1 = .ok (.tableswitch 116 0 11 #[63, 63, 70, 76, 81, 86, 92, 98, 104, 104, 104, 104], 63) := by decide +kernel
theorem dX2_count_64 : decode cX2_count 64 = .ok (.aload_n 0, 1) := by decide +kernel
theorem dX2_count_65 : decode cX2_count 65 = .ok (.getfield 7, 3) := by decide +kernel
theorem dX2_count_68 : decode cX2_count 68 = .ok (.iload_n 1, 1) := by decide +kernel
theorem dX2_count_69 : decode cX2_count 69 = .ok (.iaload, 1) := by decide +kernel
theorem dX2_count_70 : decode cX2_count 70 = .ok (.ireturn, 1) := by decide +kernel
theorem dX2_count_71 : decode cX2_count 71 = .ok (.aload_n 0, 1) := by decide +kernel
theorem dX2_count_72 : decode cX2_count 72 = .ok (.iconst 0, 1) := by decide +kernel
theorem dX2_count_73 : decode cX2_count 73 = .ok (.invokevirtual 114, 3) := by decide +kernel
theorem dX2_count_76 : decode cX2_count 76 = .ok (.ireturn, 1) := by decide +kernel
theorem dX2_count_77 : decode cX2_count 77 = .ok (.aload_n 0, 1) := by decide +kernel
theorem dX2_count_78 : decode cX2_count 78 = .ok (.getfield 19, 3) := by decide +kernel
theorem dX2_count_81 : decode cX2_count 81 = .ok (.ireturn, 1) := by decide +kernel
theorem dX2_count_82 : decode cX2_count 82 = .ok (.aload_n 0, 1) := by decide +kernel
theorem dX2_count_83 : decode cX2_count 83 = .ok (.invokevirtual 94, 3) := by decide +kernel
theorem dX2_count_86 : decode cX2_count 86 = .ok (.ireturn, 1) := by decide +kernel
theorem dX2_count_87 : decode cX2_count 87 = .ok (.aload_n 0, 1) := by decide +kernel
theorem dX2_count_88 : decode cX2_count 88 = .ok (.iconst 1, 1) := by decide +kernel
theorem dX2_count_89 : decode cX2_count 89 = .ok (.invokevirtual 110, 3) := by decide +kernel
theorem dX2_count_92 : decode cX2_count 92 = .ok (.ireturn, 1) := by decide +kernel
theorem dX2_count_93 : decode cX2_count 93 = .ok (.aload_n 0, 1) := by decide +kernel
theorem dX2_count_94 : decode cX2_count 94 = .ok (.iconst 0, 1) := by decide +kernel
theorem dX2_count_95 : decode cX2_count 95 = .ok (.invokevirtual 110, 3) := by decide +kernel
theorem dX2_count_98 : decode cX2_count 98 = .ok (.ireturn, 1) := by decide +kernel
theorem dX2_count_99 : decode cX2_count 99 = .ok (.aload_n 0, 1) := by decide +kernel
theorem dX2_count_100 : decode cX2_count 100 = .ok (.iconst 1, 1) := by decide +kernel
theorem dX2_count_101 : decode cX2_count 101 = .ok (.invokevirtual 114, 3) := by decide +kernel
theorem dX2_count_104 : decode cX2_count 104 = .ok (.ireturn, 1) := by decide +kernel
theorem dX2_count_105 : decode cX2_count 105 = .ok (.aload_n 0, 1) := by decide +kernel
theorem dX2_count_106 : decode cX2_count 106 = .ok (.getfield 7, 3) := by decide +kernel
theorem dX2_count_109 : decode cX2_count 109 = .ok (.iconst 2, 1) := by decide +kernel
theorem dX2_count_110 : decode cX2_count 110 = .ok (.iload_n 1, 1) := by decide +kernel
theorem dX2_count_111 : decode cX2_count 111 = .ok (.iadd, 1) := by decide +kernel
theorem dX2_count_112 : decode cX2_count 112 = .ok (.bipush 8, 2) := by decide +kernel
theorem dX2_count_114 : decode cX2_count 114 = .ok (.isub, 1) := by decide +kernel
theorem dX2_count_115 : decode cX2_count 115 = .ok (.iaload, 1) := by decide +kernel
theorem dX2_count_116 : decode cX2_count 116 = .ok (.ireturn, 1) := by decide +kernel
theorem dX2_count_117 : decode cX2_count 117 = .ok (.ldc 66, 2) := by decide +kernel
theorem dX2_count_119 : decode cX2_count 119 = .ok (.ireturn, 1) := by decide +kernel
set_option maxRecDepth 20000 in
theorem ggX2_cell_X2_isCell : GoodIn wsX2_cell wsX2_isCell := goodIn_r _ [5, 6, 7, 4, 8] (by decide +kernel) (by decide +kernel)
set_option maxRecDepth 20000 in
theorem gX2_cell_X2_isCell : GoodIn wsX2_cell (va_wsS RX2 63 yX2_isCell wsX2_isCell) := goodIn_app (goodIn_of _ (by decide +kernel)) ggX2_cell_X2_isCell
set_option maxRecDepth 20000 in
theorem ggX2_cell_X2_in : GoodIn wsX2_cell wsX2_in := goodIn_r _ [8] (by decide +kernel) (by decide +kernel)
set_option maxRecDepth 20000 in
theorem gX2_cell_X2_in : GoodIn wsX2_cell (va_wsS RX2 23 yX2_in wsX2_in) := goodIn_app (goodIn_of _ (by decide +kernel)) ggX2_cell_X2_in
set_option maxRecDepth 20000 in
theorem ggX2_cell_X2_reading : GoodIn wsX2_cell wsX2_reading := goodIn_r _ [12, 13, 14, 15, 4, 16, 17, 18, 19, 20, 21, 22, 23, 24, 25, 26, 27, 28, 29, 30, 31, 32, 33, 34, 35, 36, 37, 38, 39, 52, 53, 54, 55, 56] (by decide +kernel) (by decide +kernel)
set_option maxRecDepth 20000 in
theorem gX2_cell_X2_reading : GoodIn wsX2_cell (wsV RX2 57 RX2 yX2_reading wsX2_reading) := goodIn_app (goodIn_of _ (by decide +kernel)) ggX2_cell_X2_reading
set_option maxRecDepth 20000 in
theorem ggX2_cell_X2_expected : GoodIn wsX2_cell wsX2_expected := goodIn_r _ [43, 22, 44, 45, 46, 4, 47, 17, 18, 19, 20, 21, 23, 24, 25, 26, 27, 28, 29, 30, 31, 32, 33, 34, 35, 36, 37, 38, 39, 52, 53, 54, 55, 56] (by decide +kernel) (by decide +kernel)
set_option maxRecDepth 20000 in
theorem gX2_cell_X2_expected : GoodIn wsX2_cell (wsV RX2 60 RX2 yX2_expected wsX2_expected) := goodIn_app (goodIn_of _ (by decide +kernel)) ggX2_cell_X2_expected
set_option maxRecDepth 20000 in
theorem ggX2_cell_X2_on : GoodIn wsX2_cell wsX2_on := goodIn_r _ [51, 22, 17, 18, 19, 20, 4, 21, 23, 24, 25, 26, 52, 53, 54, 55, 56] (by decide +kernel) (by decide +kernel)
set_option maxRecDepth 20000 in
theorem gX2_cell_X2_on : GoodIn wsX2_cell (wsV RX2 77 RX2 yX2_on wsX2_on) := goodIn_app (goodIn_of _ (by decide +kernel)) ggX2_cell_X2_on
set_option maxRecDepth 20000 in
theorem ggX2_cell_X2_of : GoodIn wsX2_cell wsX2_of := goodIn_r _ [39, 17, 52, 53, 54, 55, 56] (by decide +kernel) (by decide +kernel)
set_option maxRecDepth 20000 in
theorem gX2_cell_X2_of : GoodIn wsX2_cell (wsV RX2 51 RX2 yX2_of wsX2_of) := goodIn_app (goodIn_of _ (by decide +kernel)) ggX2_cell_X2_of
theorem dX2_cell_0 : decode cX2_cell 0 = .ok (.iload_n 1, 1) := by decide +kernel
theorem dX2_cell_1 : decode cX2_cell 1 = .ok (.invokestatic 63, 3) := by decide +kernel
theorem dX2_cell_4 : decode cX2_cell 4 = .ok (.ifCond .eq 13, 3) := by decide +kernel
theorem dX2_cell_7 : decode cX2_cell 7 = .ok (.iload_n 2, 1) := by decide +kernel
theorem dX2_cell_8 : decode cX2_cell 8 = .ok (.iconst 0, 1) := by decide +kernel
theorem dX2_cell_9 : decode cX2_cell 9 = .ok (.bipush 7, 2) := by decide +kernel
theorem dX2_cell_11 : decode cX2_cell 11 = .ok (.invokestatic 23, 3) := by decide +kernel
theorem dX2_cell_14 : decode cX2_cell 14 = .ok (.ifCond .ne 6, 3) := by decide +kernel
theorem dX2_cell_17 : decode cX2_cell 17 = .ok (.ldc 66, 2) := by decide +kernel
theorem dX2_cell_19 : decode cX2_cell 19 = .ok (.ireturn, 1) := by decide +kernel
theorem dX2_cell_20 : decode cX2_cell 20 = .ok (.iload_n 2, 1) := by decide +kernel
theorem dX2_cell_21 : decode cX2_cell 21 = .ok (.tableswitch 73 0 7 #[47, 73, 73, 73, 73, 53, 59, 66], 47) := by decide +kernel
theorem dX2_cell_68 : decode cX2_cell 68 = .ok (.aload_n 0, 1) := by decide +kernel
theorem dX2_cell_69 : decode cX2_cell 69 = .ok (.iload_n 1, 1) := by decide +kernel
theorem dX2_cell_70 : decode cX2_cell 70 = .ok (.invokevirtual 57, 3) := by decide +kernel
theorem dX2_cell_73 : decode cX2_cell 73 = .ok (.ireturn, 1) := by decide +kernel
theorem dX2_cell_74 : decode cX2_cell 74 = .ok (.aload_n 0, 1) := by decide +kernel
theorem dX2_cell_75 : decode cX2_cell 75 = .ok (.iload_n 1, 1) := by decide +kernel
theorem dX2_cell_76 : decode cX2_cell 76 = .ok (.invokevirtual 60, 3) := by decide +kernel
theorem dX2_cell_79 : decode cX2_cell 79 = .ok (.ireturn, 1) := by decide +kernel
theorem dX2_cell_80 : decode cX2_cell 80 = .ok (.aload_n 0, 1) := by decide +kernel
theorem dX2_cell_81 : decode cX2_cell 81 = .ok (.iload_n 1, 1) := by decide +kernel
theorem dX2_cell_82 : decode cX2_cell 82 = .ok (.iconst 1, 1) := by decide +kernel
theorem dX2_cell_83 : decode cX2_cell 83 = .ok (.invokevirtual 77, 3) := by decide +kernel
theorem dX2_cell_86 : decode cX2_cell 86 = .ok (.ireturn, 1) := by decide +kernel
theorem dX2_cell_87 : decode cX2_cell 87 = .ok (.aload_n 0, 1) := by decide +kernel
theorem dX2_cell_88 : decode cX2_cell 88 = .ok (.iload_n 1, 1) := by decide +kernel
theorem dX2_cell_89 : decode cX2_cell 89 = .ok (.iconst 3, 1) := by decide +kernel
theorem dX2_cell_90 : decode cX2_cell 90 = .ok (.invokevirtual 77, 3) := by decide +kernel
theorem dX2_cell_93 : decode cX2_cell 93 = .ok (.ireturn, 1) := by decide +kernel
theorem dX2_cell_94 : decode cX2_cell 94 = .ok (.aload_n 0, 1) := by decide +kernel
theorem dX2_cell_95 : decode cX2_cell 95 = .ok (.iload_n 1, 1) := by decide +kernel
theorem dX2_cell_96 : decode cX2_cell 96 = .ok (.iload_n 2, 1) := by decide +kernel
theorem dX2_cell_97 : decode cX2_cell 97 = .ok (.iconst 1, 1) := by decide +kernel
theorem dX2_cell_98 : decode cX2_cell 98 = .ok (.isub, 1) := by decide +kernel
theorem dX2_cell_99 : decode cX2_cell 99 = .ok (.invokevirtual 51, 3) := by decide +kernel
theorem dX2_cell_102 : decode cX2_cell 102 = .ok (.ireturn, 1) := by decide +kernel
set_option maxRecDepth 20000 in
theorem ggX2_walker_X2_isWalker : GoodIn wsX2_walker wsX2_isWalker := goodIn_r _ [6, 7, 15, 16, 17, 18, 19] (by decide +kernel) (by decide +kernel)
set_option maxRecDepth 20000 in
theorem gX2_walker_X2_isWalker : GoodIn wsX2_walker (wsV RX2 81 RX2 yX2_isWalker wsX2_isWalker) := goodIn_app (goodIn_of _ (by decide +kernel)) ggX2_walker_X2_isWalker
set_option maxRecDepth 20000 in
theorem ggX2_walker_X2_in : GoodIn wsX2_walker wsX2_in := goodIn_r _ [10] (by decide +kernel) (by decide +kernel)
set_option maxRecDepth 20000 in
theorem gX2_walker_X2_in : GoodIn wsX2_walker (va_wsS RX2 23 yX2_in wsX2_in) := goodIn_app (goodIn_of _ (by decide +kernel)) ggX2_walker_X2_in
set_option maxRecDepth 20000 in
theorem ggX2_walker_X2_ofWalker : GoodIn wsX2_walker wsX2_ofWalker := goodIn_r _ [14, 7, 15, 16, 17, 18, 19] (by decide +kernel) (by decide +kernel)
set_option maxRecDepth 20000 in
theorem gX2_walker_X2_ofWalker : GoodIn wsX2_walker (wsV RX2 27 RX2 yX2_ofWalker wsX2_ofWalker) := goodIn_app (goodIn_of _ (by decide +kernel)) ggX2_walker_X2_ofWalker
theorem dX2_walker_0 : decode cX2_walker 0 = .ok (.aload_n 0, 1) := by decide +kernel
theorem dX2_walker_1 : decode cX2_walker 1 = .ok (.iload_n 1, 1) := by decide +kernel
theorem dX2_walker_2 : decode cX2_walker 2 = .ok (.invokevirtual 81, 3) := by decide +kernel
theorem dX2_walker_5 : decode cX2_walker 5 = .ok (.ifCond .eq 22, 3) := by decide +kernel
theorem dX2_walker_8 : decode cX2_walker 8 = .ok (.iload_n 2, 1) := by decide +kernel
theorem dX2_walker_9 : decode cX2_walker 9 = .ok (.iconst 0, 1) := by decide +kernel
theorem dX2_walker_10 : decode cX2_walker 10 = .ok (.bipush 7, 2) := by decide +kernel
theorem dX2_walker_12 : decode cX2_walker 12 = .ok (.invokestatic 23, 3) := by decide +kernel
theorem dX2_walker_15 : decode cX2_walker 15 = .ok (.ifCond .eq 12, 3) := by decide +kernel
theorem dX2_walker_18 : decode cX2_walker 18 = .ok (.aload_n 0, 1) := by decide +kernel
theorem dX2_walker_19 : decode cX2_walker 19 = .ok (.iload_n 1, 1) := by decide +kernel
theorem dX2_walker_20 : decode cX2_walker 20 = .ok (.iload_n 2, 1) := by decide +kernel
theorem dX2_walker_21 : decode cX2_walker 21 = .ok (.invokevirtual 27, 3) := by decide +kernel
theorem dX2_walker_24 : decode cX2_walker 24 = .ok (.goto 5, 3) := by decide +kernel
theorem dX2_walker_27 : decode cX2_walker 27 = .ok (.ldc 66, 2) := by decide +kernel
theorem dX2_walker_29 : decode cX2_walker 29 = .ok (.ireturn, 1) := by decide +kernel
set_option maxRecDepth 20000 in
theorem ggX2_estimate_X2_isWalker : GoodIn wsX2_estimate wsX2_isWalker := goodIn_r _ [7, 8, 50, 51, 52, 53, 54] (by decide +kernel) (by decide +kernel)
set_option maxRecDepth 20000 in
theorem gX2_estimate_X2_isWalker : GoodIn wsX2_estimate (wsV RX2 81 RX2 yX2_isWalker wsX2_isWalker) := goodIn_app (goodIn_of _ (by decide +kernel)) ggX2_estimate_X2_isWalker
set_option maxRecDepth 20000 in
theorem ggX2_estimate_X2_isAboard : GoodIn wsX2_estimate wsX2_isAboard := goodIn_r _ [12, 13, 14, 15, 16, 6, 17, 8, 50, 51, 52, 53, 54] (by decide +kernel) (by decide +kernel)
set_option maxRecDepth 20000 in
theorem gX2_estimate_X2_isAboard : GoodIn wsX2_estimate (wsV RX2 40 RX2 yX2_isAboard wsX2_isAboard) := goodIn_app (goodIn_of _ (by decide +kernel)) ggX2_estimate_X2_isAboard
set_option maxRecDepth 20000 in
theorem ggX2_estimate_X2_estimateOf : GoodIn wsX2_estimate wsX2_estimateOf := goodIn_r _ [21, 14, 15, 16, 6, 17, 8, 22, 23, 24, 25, 26, 27, 28, 29, 30, 31, 32, 33, 34, 35, 9, 10, 11, 12, 13, 36, 37, 38, 39, 40, 41, 42, 43, 44, 45, 46, 47, 48, 49, 50, 51, 52, 53, 54] (by decide +kernel) (by decide +kernel)
set_option maxRecDepth 20000 in
theorem gX2_estimate_X2_estimateOf : GoodIn wsX2_estimate (wsV RX2 104 RX2 yX2_estimateOf wsX2_estimateOf) := goodIn_app (goodIn_of _ (by decide +kernel)) ggX2_estimate_X2_estimateOf
theorem dX2_estimate_0 : decode cX2_estimate 0 = .ok (.aload_n 0, 1) := by decide +kernel
theorem dX2_estimate_1 : decode cX2_estimate 1 = .ok (.iload_n 1, 1) := by decide +kernel
theorem dX2_estimate_2 : decode cX2_estimate 2 = .ok (.invokevirtual 81, 3) := by decide +kernel
theorem dX2_estimate_5 : decode cX2_estimate 5 = .ok (.ifCond .ne 8, 3) := by decide +kernel
theorem dX2_estimate_8 : decode cX2_estimate 8 = .ok (.ldc 66, 2) := by decide +kernel
theorem dX2_estimate_10 : decode cX2_estimate 10 = .ok (.goto 21, 3) := by decide +kernel
theorem dX2_estimate_13 : decode cX2_estimate 13 = .ok (.aload_n 0, 1) := by decide +kernel
theorem dX2_estimate_14 : decode cX2_estimate 14 = .ok (.iload_n 1, 1) := by decide +kernel
theorem dX2_estimate_15 : decode cX2_estimate 15 = .ok (.invokevirtual 40, 3) := by decide +kernel
theorem dX2_estimate_18 : decode cX2_estimate 18 = .ok (.ifCond .eq 11, 3) := by decide +kernel
theorem dX2_estimate_21 : decode cX2_estimate 21 = .ok (.aload_n 0, 1) := by decide +kernel
theorem dX2_estimate_22 : decode cX2_estimate 22 = .ok (.iload_n 1, 1) := by decide +kernel
theorem dX2_estimate_23 : decode cX2_estimate 23 = .ok (.invokevirtual 104, 3) := by decide +kernel
theorem dX2_estimate_26 : decode cX2_estimate 26 = .ok (.goto 5, 3) := by decide +kernel
theorem dX2_estimate_29 : decode cX2_estimate 29 = .ok (.ldc 70, 2) := by decide +kernel
theorem dX2_estimate_31 : decode cX2_estimate 31 = .ok (.ireturn, 1) := by decide +kernel
set_option maxRecDepth 20000 in
theorem ggX2_certainty_X2_isWalker : GoodIn wsX2_certainty wsX2_isWalker := goodIn_r _ [7, 8, 36, 37, 38, 39, 40] (by decide +kernel) (by decide +kernel)
set_option maxRecDepth 20000 in
theorem gX2_certainty_X2_isWalker : GoodIn wsX2_certainty (wsV RX2 81 RX2 yX2_isWalker wsX2_isWalker) := goodIn_app (goodIn_of _ (by decide +kernel)) ggX2_certainty_X2_isWalker
set_option maxRecDepth 20000 in
theorem ggX2_certainty_X2_isAboard : GoodIn wsX2_certainty wsX2_isAboard := goodIn_r _ [12, 13, 14, 15, 16, 6, 17, 8, 36, 37, 38, 39, 40] (by decide +kernel) (by decide +kernel)
set_option maxRecDepth 20000 in
theorem gX2_certainty_X2_isAboard : GoodIn wsX2_certainty (wsV RX2 40 RX2 yX2_isAboard wsX2_isAboard) := goodIn_app (goodIn_of _ (by decide +kernel)) ggX2_certainty_X2_isAboard
set_option maxRecDepth 20000 in
theorem ggX2_certainty_X2_certaintyIn : GoodIn wsX2_certainty wsX2_certaintyIn := goodIn_r _ [21, 8, 14, 15, 16, 6, 17, 22, 23, 24, 25, 26, 27, 28, 29, 30, 31, 32, 33, 34, 35, 36, 37, 38, 39, 40] (by decide +kernel) (by decide +kernel)
set_option maxRecDepth 20000 in
theorem gX2_certainty_X2_certaintyIn : GoodIn wsX2_certainty (wsV RX2 107 RX2 yX2_certaintyIn wsX2_certaintyIn) := goodIn_app (goodIn_of _ (by decide +kernel)) ggX2_certainty_X2_certaintyIn
theorem dX2_certainty_0 : decode cX2_certainty 0 = .ok (.aload_n 0, 1) := by decide +kernel
theorem dX2_certainty_1 : decode cX2_certainty 1 = .ok (.iload_n 1, 1) := by decide +kernel
theorem dX2_certainty_2 : decode cX2_certainty 2 = .ok (.invokevirtual 81, 3) := by decide +kernel
theorem dX2_certainty_5 : decode cX2_certainty 5 = .ok (.ifCond .ne 8, 3) := by decide +kernel
theorem dX2_certainty_8 : decode cX2_certainty 8 = .ok (.ldc 66, 2) := by decide +kernel
theorem dX2_certainty_10 : decode cX2_certainty 10 = .ok (.goto 22, 3) := by decide +kernel
theorem dX2_certainty_13 : decode cX2_certainty 13 = .ok (.aload_n 0, 1) := by decide +kernel
theorem dX2_certainty_14 : decode cX2_certainty 14 = .ok (.iload_n 1, 1) := by decide +kernel
theorem dX2_certainty_15 : decode cX2_certainty 15 = .ok (.invokevirtual 40, 3) := by decide +kernel
theorem dX2_certainty_18 : decode cX2_certainty 18 = .ok (.ifCond .eq 12, 3) := by decide +kernel
theorem dX2_certainty_21 : decode cX2_certainty 21 = .ok (.aload_n 0, 1) := by decide +kernel
theorem dX2_certainty_22 : decode cX2_certainty 22 = .ok (.iload_n 1, 1) := by decide +kernel
theorem dX2_certainty_23 : decode cX2_certainty 23 = .ok (.iconst 0, 1) := by decide +kernel
theorem dX2_certainty_24 : decode cX2_certainty 24 = .ok (.invokevirtual 107, 3) := by decide +kernel
theorem dX2_certainty_27 : decode cX2_certainty 27 = .ok (.goto 5, 3) := by decide +kernel
theorem dX2_certainty_30 : decode cX2_certainty 30 = .ok (.ldc 70, 2) := by decide +kernel
theorem dX2_certainty_32 : decode cX2_certainty 32 = .ok (.ireturn, 1) := by decide +kernel
set_option maxRecDepth 20000 in
theorem ggX2_bestTwo_X2_error : GoodIn wsX2_bestTwo wsX2_error := goodIn_r _ [8, 9, 10, 11, 7, 12, 13, 14, 15, 16, 3, 17, 18, 19, 20, 1, 21, 22, 23, 24, 25, 26, 27, 28, 29, 30, 31, 32, 33, 34, 35, 36, 37, 38, 39, 40, 41, 42, 43, 44, 45, 54, 55, 56, 57, 58] (by decide +kernel) (by decide +kernel)
set_option maxRecDepth 20000 in
theorem gX2_bestTwo_X2_error : GoodIn wsX2_bestTwo (wsV RX2 94 RX2 yX2_error wsX2_error) := goodIn_app (goodIn_of _ (by decide +kernel)) ggX2_bestTwo_X2_error
set_option maxRecDepth 20000 in
theorem ggX2_bestTwo_X2_isAboard : GoodIn wsX2_bestTwo wsX2_isAboard := goodIn_r _ [20, 1, 21, 22, 23, 7, 24, 3, 54, 55, 56, 57, 58] (by decide +kernel) (by decide +kernel)
set_option maxRecDepth 20000 in
theorem gX2_bestTwo_X2_isAboard : GoodIn wsX2_bestTwo (wsV RX2 40 RX2 yX2_isAboard wsX2_isAboard) := goodIn_app (goodIn_of _ (by decide +kernel)) ggX2_bestTwo_X2_isAboard
set_option maxRecDepth 20000 in
theorem ggX2_bestTwo_X2_exchanges : GoodIn wsX2_bestTwo wsX2_exchanges := goodIn_r _ [49, 21, 22, 23, 7, 24, 3, 50, 51, 52, 53, 54, 55, 56, 57, 58] (by decide +kernel) (by decide +kernel)
set_option maxRecDepth 20000 in
theorem gX2_bestTwo_X2_exchanges : GoodIn wsX2_bestTwo (wsV RX2 91 RX2 yX2_exchanges wsX2_exchanges) := goodIn_app (goodIn_of _ (by decide +kernel)) ggX2_bestTwo_X2_exchanges
theorem dX2_bestTwo_0 : decode cX2_bestTwo 0 = .ok (.ldc 31, 2) := by decide +kernel
theorem dX2_bestTwo_2 : decode cX2_bestTwo 2 = .ok (.istore_n 1, 1) := by decide +kernel
theorem dX2_bestTwo_3 : decode cX2_bestTwo 3 = .ok (.aload_n 0, 1) := by decide +kernel
theorem dX2_bestTwo_4 : decode cX2_bestTwo 4 = .ok (.aload_n 0, 1) := by decide +kernel
theorem dX2_bestTwo_5 : decode cX2_bestTwo 5 = .ok (.invokevirtual 94, 3) := by decide +kernel
theorem dX2_bestTwo_8 : decode cX2_bestTwo 8 = .ok (.putfield 117, 3) := by decide +kernel
theorem dX2_bestTwo_11 : decode cX2_bestTwo 11 = .ok (.iconst 0, 1) := by decide +kernel
theorem dX2_bestTwo_12 : decode cX2_bestTwo 12 = .ok (.istore_n 2, 1) := by decide +kernel
theorem dX2_bestTwo_13 : decode cX2_bestTwo 13 = .ok (.iload_n 2, 1) := by decide +kernel
theorem dX2_bestTwo_14 : decode cX2_bestTwo 14 = .ok (.aload_n 0, 1) := by decide +kernel
theorem dX2_bestTwo_15 : decode cX2_bestTwo 15 = .ok (.getfield 7, 3) := by decide +kernel
theorem dX2_bestTwo_18 : decode cX2_bestTwo 18 = .ok (.iconst 1, 1) := by decide +kernel
theorem dX2_bestTwo_19 : decode cX2_bestTwo 19 = .ok (.iaload, 1) := by decide +kernel
theorem dX2_bestTwo_20 : decode cX2_bestTwo 20 = .ok (.if_icmp .ge 107, 3) := by decide +kernel
theorem dX2_bestTwo_23 : decode cX2_bestTwo 23 = .ok (.iload_n 2, 1) := by decide +kernel
theorem dX2_bestTwo_24 : decode cX2_bestTwo 24 = .ok (.iconst 1, 1) := by decide +kernel
theorem dX2_bestTwo_25 : decode cX2_bestTwo 25 = .ok (.iadd, 1) := by decide +kernel
theorem dX2_bestTwo_26 : decode cX2_bestTwo 26 = .ok (.istore_n 3, 1) := by decide +kernel
theorem dX2_bestTwo_27 : decode cX2_bestTwo 27 = .ok (.iload_n 3, 1) := by decide +kernel
theorem dX2_bestTwo_28 : decode cX2_bestTwo 28 = .ok (.aload_n 0, 1) := by decide +kernel
theorem dX2_bestTwo_29 : decode cX2_bestTwo 29 = .ok (.getfield 7, 3) := by decide +kernel
theorem dX2_bestTwo_32 : decode cX2_bestTwo 32 = .ok (.iconst 1, 1) := by decide +kernel
theorem dX2_bestTwo_33 : decode cX2_bestTwo 33 = .ok (.iaload, 1) := by decide +kernel
theorem dX2_bestTwo_34 : decode cX2_bestTwo 34 = .ok (.if_icmp .ge 87, 3) := by decide +kernel
theorem dX2_bestTwo_37 : decode cX2_bestTwo 37 = .ok (.aload_n 0, 1) := by decide +kernel
theorem dX2_bestTwo_38 : decode cX2_bestTwo 38 = .ok (.iload_n 2, 1) := by decide +kernel
theorem dX2_bestTwo_39 : decode cX2_bestTwo 39 = .ok (.invokevirtual 40, 3) := by decide +kernel
theorem dX2_bestTwo_42 : decode cX2_bestTwo 42 = .ok (.ifCond .eq 73, 3) := by decide +kernel
theorem dX2_bestTwo_45 : decode cX2_bestTwo 45 = .ok (.aload_n 0, 1) := by decide +kernel
theorem dX2_bestTwo_46 : decode cX2_bestTwo 46 = .ok (.iload_n 3, 1) := by decide +kernel
theorem dX2_bestTwo_47 : decode cX2_bestTwo 47 = .ok (.invokevirtual 40, 3) := by decide +kernel
theorem dX2_bestTwo_50 : decode cX2_bestTwo 50 = .ok (.ifCond .eq 65, 3) := by decide +kernel
theorem dX2_bestTwo_53 : decode cX2_bestTwo 53 = .ok (.aload_n 0, 1) := by decide +kernel
theorem dX2_bestTwo_54 : decode cX2_bestTwo 54 = .ok (.iload_n 2, 1) := by decide +kernel
theorem dX2_bestTwo_55 : decode cX2_bestTwo 55 = .ok (.iload_n 3, 1) := by decide +kernel
theorem dX2_bestTwo_56 : decode cX2_bestTwo 56 = .ok (.iconst 3, 1) := by decide +kernel
theorem dX2_bestTwo_57 : decode cX2_bestTwo 57 = .ok (.invokevirtual 91, 3) := by decide +kernel
theorem dX2_bestTwo_60 : decode cX2_bestTwo 60 = .ok (.aload_n 0, 1) := by decide +kernel
theorem dX2_bestTwo_61 : decode cX2_bestTwo 61 = .ok (.invokevirtual 94, 3) := by decide +kernel
theorem dX2_bestTwo_64 : decode cX2_bestTwo 64 = .ok (.istore 4, 2) := by decide +kernel
theorem dX2_bestTwo_66 : decode cX2_bestTwo 66 = .ok (.aload_n 0, 1) := by decide +kernel
theorem dX2_bestTwo_67 : decode cX2_bestTwo 67 = .ok (.iload_n 2, 1) := by decide +kernel
theorem dX2_bestTwo_68 : decode cX2_bestTwo 68 = .ok (.iload_n 3, 1) := by decide +kernel
theorem dX2_bestTwo_69 : decode cX2_bestTwo 69 = .ok (.iconst 3, 1) := by decide +kernel
theorem dX2_bestTwo_70 : decode cX2_bestTwo 70 = .ok (.invokevirtual 91, 3) := by decide +kernel
theorem dX2_bestTwo_73 : decode cX2_bestTwo 73 = .ok (.iload 4, 2) := by decide +kernel
theorem dX2_bestTwo_75 : decode cX2_bestTwo 75 = .ok (.aload_n 0, 1) := by decide +kernel
theorem dX2_bestTwo_76 : decode cX2_bestTwo 76 = .ok (.getfield 117, 3) := by decide +kernel
theorem dX2_bestTwo_79 : decode cX2_bestTwo 79 = .ok (.if_icmp .ge 12, 3) := by decide +kernel
theorem dX2_bestTwo_82 : decode cX2_bestTwo 82 = .ok (.bipush 10, 2) := by decide +kernel
theorem dX2_bestTwo_84 : decode cX2_bestTwo 84 = .ok (.iload_n 2, 1) := by decide +kernel
theorem dX2_bestTwo_85 : decode cX2_bestTwo 85 = .ok (.imul, 1) := by decide +kernel
theorem dX2_bestTwo_86 : decode cX2_bestTwo 86 = .ok (.iload_n 3, 1) := by decide +kernel
theorem dX2_bestTwo_87 : decode cX2_bestTwo 87 = .ok (.iadd, 1) := by decide +kernel
theorem dX2_bestTwo_88 : decode cX2_bestTwo 88 = .ok (.goto 4, 3) := by decide +kernel
theorem dX2_bestTwo_91 : decode cX2_bestTwo 91 = .ok (.iload_n 1, 1) := by decide +kernel
theorem dX2_bestTwo_92 : decode cX2_bestTwo 92 = .ok (.istore_n 1, 1) := by decide +kernel
theorem dX2_bestTwo_93 : decode cX2_bestTwo 93 = .ok (.aload_n 0, 1) := by decide +kernel
theorem dX2_bestTwo_94 : decode cX2_bestTwo 94 = .ok (.iload 4, 2) := by decide +kernel
theorem dX2_bestTwo_96 : decode cX2_bestTwo 96 = .ok (.aload_n 0, 1) := by decide +kernel
theorem dX2_bestTwo_97 : decode cX2_bestTwo 97 = .ok (.getfield 117, 3) := by decide +kernel
theorem dX2_bestTwo_100 : decode cX2_bestTwo 100 = .ok (.if_icmp .ge 8, 3) := by decide +kernel
theorem dX2_bestTwo_103 : decode cX2_bestTwo 103 = .ok (.iload 4, 2) := by decide +kernel
theorem dX2_bestTwo_105 : decode cX2_bestTwo 105 = .ok (.goto 7, 3) := by decide +kernel
theorem dX2_bestTwo_108 : decode cX2_bestTwo 108 = .ok (.aload_n 0, 1) := by decide +kernel
theorem dX2_bestTwo_109 : decode cX2_bestTwo 109 = .ok (.getfield 117, 3) := by decide +kernel
theorem dX2_bestTwo_112 : decode cX2_bestTwo 112 = .ok (.putfield 117, 3) := by decide +kernel
theorem dX2_bestTwo_115 : decode cX2_bestTwo 115 = .ok (.iinc 3 1, 3) := by decide +kernel
theorem dX2_bestTwo_118 : decode cX2_bestTwo 118 = .ok (.goto (-91), 3) := by decide +kernel
theorem dX2_bestTwo_121 : decode cX2_bestTwo 121 = .ok (.iinc 2 1, 3) := by decide +kernel
theorem dX2_bestTwo_124 : decode cX2_bestTwo 124 = .ok (.goto (-111), 3) := by decide +kernel
theorem dX2_bestTwo_127 : decode cX2_bestTwo 127 = .ok (.iload_n 1, 1) := by decide +kernel
theorem dX2_bestTwo_128 : decode cX2_bestTwo 128 = .ok (.ireturn, 1) := by decide +kernel
set_option maxRecDepth 20000 in
theorem ggX2_guess_X2_in : GoodIn wsX2_guess wsX2_in := goodIn_r _ [7] (by decide +kernel) (by decide +kernel)
set_option maxRecDepth 20000 in
theorem gX2_guess_X2_in : GoodIn wsX2_guess (va_wsS RX2 23 yX2_in wsX2_in) := goodIn_app (goodIn_of _ (by decide +kernel)) ggX2_guess_X2_in
set_option maxRecDepth 20000 in
theorem ggX2_guess_X2_bestTwo : GoodIn wsX2_guess wsX2_bestTwo := goodIn_r _ [11, 2, 3, 12, 13, 14, 15, 6, 16, 17, 18, 19, 20, 21, 22, 23, 24, 25, 26, 27, 28, 29, 30, 31, 32, 33, 34, 35, 36, 37, 38, 39, 40, 41, 42, 43, 44, 45, 46, 47, 48, 49, 50, 51, 52, 53, 54, 55, 56, 57, 58, 59, 60, 61, 62, 63, 64, 65, 66] (by decide +kernel) (by decide +kernel)
set_option maxRecDepth 20000 in
theorem gX2_guess_X2_bestTwo : GoodIn wsX2_guess (wsV RX2 120 RX2 yX2_bestTwo wsX2_bestTwo) := goodIn_app (goodIn_of _ (by decide +kernel)) ggX2_guess_X2_bestTwo
theorem dX2_guess_0 : decode cX2_guess 0 = .ok (.iload_n 1, 1) := by decide +kernel
theorem dX2_guess_1 : decode cX2_guess 1 = .ok (.iconst 0, 1) := by decide +kernel
theorem dX2_guess_2 : decode cX2_guess 2 = .ok (.iconst 1, 1) := by decide +kernel
theorem dX2_guess_3 : decode cX2_guess 3 = .ok (.invokestatic 23, 3) := by decide +kernel
theorem dX2_guess_6 : decode cX2_guess 6 = .ok (.ifCond .ne 6, 3) := by decide +kernel
theorem dX2_guess_9 : decode cX2_guess 9 = .ok (.ldc 66, 2) := by decide +kernel
theorem dX2_guess_11 : decode cX2_guess 11 = .ok (.ireturn, 1) := by decide +kernel
theorem dX2_guess_12 : decode cX2_guess 12 = .ok (.aload_n 0, 1) := by decide +kernel
theorem dX2_guess_13 : decode cX2_guess 13 = .ok (.invokevirtual 120, 3) := by decide +kernel
theorem dX2_guess_16 : decode cX2_guess 16 = .ok (.istore_n 2, 1) := by decide +kernel
theorem dX2_guess_17 : decode cX2_guess 17 = .ok (.iload_n 2, 1) := by decide +kernel
theorem dX2_guess_18 : decode cX2_guess 18 = .ok (.ldc 31, 2) := by decide +kernel
theorem dX2_guess_20 : decode cX2_guess 20 = .ok (.if_icmp .eq 7, 3) := by decide +kernel
theorem dX2_guess_23 : decode cX2_guess 23 = .ok (.iload_n 1, 1) := by decide +kernel
theorem dX2_guess_24 : decode cX2_guess 24 = .ok (.ifCond .ne 7, 3) := by decide +kernel
theorem dX2_guess_27 : decode cX2_guess 27 = .ok (.iload_n 2, 1) := by decide +kernel
theorem dX2_guess_28 : decode cX2_guess 28 = .ok (.goto 7, 3) := by decide +kernel
theorem dX2_guess_31 : decode cX2_guess 31 = .ok (.aload_n 0, 1) := by decide +kernel
theorem dX2_guess_32 : decode cX2_guess 32 = .ok (.getfield 117, 3) := by decide +kernel
theorem dX2_guess_35 : decode cX2_guess 35 = .ok (.ireturn, 1) := by decide +kernel
set_option maxRecDepth 20000 in
theorem ggX2_mend_X2_in : GoodIn wsX2_mend wsX2_in := goodIn_r _ [7] (by decide +kernel) (by decide +kernel)
set_option maxRecDepth 20000 in
theorem gX2_mend_X2_in : GoodIn wsX2_mend (va_wsS RX2 23 yX2_in wsX2_in) := goodIn_app (goodIn_of _ (by decide +kernel)) ggX2_mend_X2_in
set_option maxRecDepth 20000 in
theorem ggX2_mend_X2_ofWalker : GoodIn wsX2_mend wsX2_ofWalker := goodIn_r _ [11, 12, 63, 64, 65, 66, 67] (by decide +kernel) (by decide +kernel)
set_option maxRecDepth 20000 in
theorem gX2_mend_X2_ofWalker : GoodIn wsX2_mend (wsV RX2 27 RX2 yX2_ofWalker wsX2_ofWalker) := goodIn_app (goodIn_of _ (by decide +kernel)) ggX2_mend_X2_ofWalker
set_option maxRecDepth 20000 in
theorem ggX2_mend_X2_bestTwo : GoodIn wsX2_mend wsX2_bestTwo := goodIn_r _ [16, 3, 17, 12, 18, 19, 20, 6, 21, 22, 23, 24, 25, 26, 27, 28, 29, 30, 31, 32, 33, 8, 9, 10, 11, 34, 35, 36, 37, 38, 39, 40, 41, 42, 43, 44, 45, 46, 47, 48, 49, 50, 51, 52, 53, 54, 55, 56, 57, 58, 59, 60, 61, 62, 63, 64, 65, 66, 67] (by decide +kernel) (by decide +kernel)
set_option maxRecDepth 20000 in
theorem gX2_mend_X2_bestTwo : GoodIn wsX2_mend (wsV RX2 120 RX2 yX2_bestTwo wsX2_bestTwo) := goodIn_app (goodIn_of _ (by decide +kernel)) ggX2_mend_X2_bestTwo
set_option maxRecDepth 20000 in
theorem ggX2_mend_X2_exchanges : GoodIn wsX2_mend wsX2_exchanges := goodIn_r _ [58, 8, 9, 10, 6, 11, 12, 59, 60, 61, 62, 63, 64, 65, 66, 67] (by decide +kernel) (by decide +kernel)
set_option maxRecDepth 20000 in
theorem gX2_mend_X2_exchanges : GoodIn wsX2_mend (wsV RX2 91 RX2 yX2_exchanges wsX2_exchanges) := goodIn_app (goodIn_of _ (by decide +kernel)) ggX2_mend_X2_exchanges
set_option maxRecDepth 20000 in
theorem ggX2_mend_X2_error : GoodIn wsX2_mend wsX2_error := goodIn_r _ [21, 22, 23, 24, 6, 25, 26, 27, 28, 29, 12, 30, 31, 32, 33, 3, 8, 9, 10, 11, 34, 35, 36, 37, 38, 39, 40, 41, 42, 43, 44, 45, 46, 47, 48, 49, 50, 51, 52, 53, 54, 63, 64, 65, 66, 67] (by decide +kernel) (by decide +kernel)
set_option maxRecDepth 20000 in
theorem gX2_mend_X2_error : GoodIn wsX2_mend (wsV RX2 94 RX2 yX2_error wsX2_error) := goodIn_app (goodIn_of _ (by decide +kernel)) ggX2_mend_X2_error
set_option maxRecDepth 20000 in
theorem ggX2_mend_X2_puts : GoodIn wsX2_mend wsX2_puts := goodIn_r _ [62, 12, 63, 64, 65, 66, 67] (by decide +kernel) (by decide +kernel)
set_option maxRecDepth 20000 in
theorem gX2_mend_X2_puts : GoodIn wsX2_mend (wsV RX2 84 RX2 yX2_puts wsX2_puts) := goodIn_app (goodIn_of _ (by decide +kernel)) ggX2_mend_X2_puts
theorem dX2_mend_0 : decode cX2_mend 0 = .ok (.iload_n 1, 1) := by decide +kernel
theorem dX2_mend_1 : decode cX2_mend 1 = .ok (.iconst 0, 1) := by decide +kernel
theorem dX2_mend_2 : decode cX2_mend 2 = .ok (.iconst 1, 1) := by decide +kernel
theorem dX2_mend_3 : decode cX2_mend 3 = .ok (.invokestatic 23, 3) := by decide +kernel
theorem dX2_mend_6 : decode cX2_mend 6 = .ok (.ifCond .ne 6, 3) := by decide +kernel
theorem dX2_mend_9 : decode cX2_mend 9 = .ok (.ldc 66, 2) := by decide +kernel
theorem dX2_mend_11 : decode cX2_mend 11 = .ok (.ireturn, 1) := by decide +kernel
theorem dX2_mend_12 : decode cX2_mend 12 = .ok (.iconst 0, 1) := by decide +kernel
theorem dX2_mend_13 : decode cX2_mend 13 = .ok (.istore_n 2, 1) := by decide +kernel
theorem dX2_mend_14 : decode cX2_mend 14 = .ok (.iload_n 2, 1) := by decide +kernel
theorem dX2_mend_15 : decode cX2_mend 15 = .ok (.bipush 8, 2) := by decide +kernel
theorem dX2_mend_17 : decode cX2_mend 17 = .ok (.if_icmp .ge 21, 3) := by decide +kernel
theorem dX2_mend_20 : decode cX2_mend 20 = .ok (.aload_n 0, 1) := by decide +kernel
theorem dX2_mend_21 : decode cX2_mend 21 = .ok (.getfield 16, 3) := by decide +kernel
theorem dX2_mend_24 : decode cX2_mend 24 = .ok (.iload_n 2, 1) := by decide +kernel
theorem dX2_mend_25 : decode cX2_mend 25 = .ok (.aload_n 0, 1) := by decide +kernel
theorem dX2_mend_26 : decode cX2_mend 26 = .ok (.iload_n 2, 1) := by decide +kernel
theorem dX2_mend_27 : decode cX2_mend 27 = .ok (.iconst 3, 1) := by decide +kernel
theorem dX2_mend_28 : decode cX2_mend 28 = .ok (.invokevirtual 27, 3) := by decide +kernel
theorem dX2_mend_31 : decode cX2_mend 31 = .ok (.iastore, 1) := by decide +kernel
theorem dX2_mend_32 : decode cX2_mend 32 = .ok (.iinc 2 1, 3) := by decide +kernel
theorem dX2_mend_35 : decode cX2_mend 35 = .ok (.goto (-21), 3) := by decide +kernel
theorem dX2_mend_38 : decode cX2_mend 38 = .ok (.iconst 0, 1) := by decide +kernel
theorem dX2_mend_39 : decode cX2_mend 39 = .ok (.istore_n 2, 1) := by decide +kernel
theorem dX2_mend_40 : decode cX2_mend 40 = .ok (.aload_n 0, 1) := by decide +kernel
theorem dX2_mend_41 : decode cX2_mend 41 = .ok (.invokevirtual 120, 3) := by decide +kernel
theorem dX2_mend_44 : decode cX2_mend 44 = .ok (.istore_n 3, 1) := by decide +kernel
theorem dX2_mend_45 : decode cX2_mend 45 = .ok (.iload_n 3, 1) := by decide +kernel
theorem dX2_mend_46 : decode cX2_mend 46 = .ok (.ldc 31, 2) := by decide +kernel
theorem dX2_mend_48 : decode cX2_mend 48 = .ok (.if_icmp .eq 27, 3) := by decide +kernel
theorem dX2_mend_51 : decode cX2_mend 51 = .ok (.aload_n 0, 1) := by decide +kernel
theorem dX2_mend_52 : decode cX2_mend 52 = .ok (.iload_n 3, 1) := by decide +kernel
theorem dX2_mend_53 : decode cX2_mend 53 = .ok (.bipush 10, 2) := by decide +kernel
theorem dX2_mend_55 : decode cX2_mend 55 = .ok (.idiv, 1) := by decide +kernel
theorem dX2_mend_56 : decode cX2_mend 56 = .ok (.iload_n 3, 1) := by decide +kernel
theorem dX2_mend_57 : decode cX2_mend 57 = .ok (.bipush 10, 2) := by decide +kernel
theorem dX2_mend_59 : decode cX2_mend 59 = .ok (.irem, 1) := by decide +kernel
theorem dX2_mend_60 : decode cX2_mend 60 = .ok (.iconst 3, 1) := by decide +kernel
theorem dX2_mend_61 : decode cX2_mend 61 = .ok (.invokevirtual 91, 3) := by decide +kernel
theorem dX2_mend_64 : decode cX2_mend 64 = .ok (.iinc 2 1, 3) := by decide +kernel
theorem dX2_mend_67 : decode cX2_mend 67 = .ok (.aload_n 0, 1) := by decide +kernel
theorem dX2_mend_68 : decode cX2_mend 68 = .ok (.invokevirtual 120, 3) := by decide +kernel
theorem dX2_mend_71 : decode cX2_mend 71 = .ok (.istore_n 3, 1) := by decide +kernel
theorem dX2_mend_72 : decode cX2_mend 72 = .ok (.goto (-27), 3) := by decide +kernel
theorem dX2_mend_75 : decode cX2_mend 75 = .ok (.aload_n 0, 1) := by decide +kernel
theorem dX2_mend_76 : decode cX2_mend 76 = .ok (.invokevirtual 94, 3) := by decide +kernel
theorem dX2_mend_79 : decode cX2_mend 79 = .ok (.istore 4, 2) := by decide +kernel
theorem dX2_mend_81 : decode cX2_mend 81 = .ok (.iconst 0, 1) := by decide +kernel
theorem dX2_mend_82 : decode cX2_mend 82 = .ok (.istore 5, 2) := by decide +kernel
theorem dX2_mend_84 : decode cX2_mend 84 = .ok (.iload 5, 2) := by decide +kernel
theorem dX2_mend_86 : decode cX2_mend 86 = .ok (.bipush 8, 2) := by decide +kernel
theorem dX2_mend_88 : decode cX2_mend 88 = .ok (.if_icmp .ge 23, 3) := by decide +kernel
theorem dX2_mend_91 : decode cX2_mend 91 = .ok (.aload_n 0, 1) := by decide +kernel
theorem dX2_mend_92 : decode cX2_mend 92 = .ok (.iload 5, 2) := by decide +kernel
theorem dX2_mend_94 : decode cX2_mend 94 = .ok (.iconst 3, 1) := by decide +kernel
theorem dX2_mend_95 : decode cX2_mend 95 = .ok (.aload_n 0, 1) := by decide +kernel
theorem dX2_mend_96 : decode cX2_mend 96 = .ok (.getfield 16, 3) := by decide +kernel
theorem dX2_mend_99 : decode cX2_mend 99 = .ok (.iload 5, 2) := by decide +kernel
theorem dX2_mend_101 : decode cX2_mend 101 = .ok (.iaload, 1) := by decide +kernel
theorem dX2_mend_102 : decode cX2_mend 102 = .ok (.invokevirtual 84, 3) := by decide +kernel
theorem dX2_mend_105 : decode cX2_mend 105 = .ok (.iinc 5 1, 3) := by decide +kernel
theorem dX2_mend_108 : decode cX2_mend 108 = .ok (.goto (-24), 3) := by decide +kernel
theorem dX2_mend_111 : decode cX2_mend 111 = .ok (.iload_n 1, 1) := by decide +kernel
theorem dX2_mend_112 : decode cX2_mend 112 = .ok (.ifCond .ne 7, 3) := by decide +kernel
theorem dX2_mend_115 : decode cX2_mend 115 = .ok (.iload_n 2, 1) := by decide +kernel
theorem dX2_mend_116 : decode cX2_mend 116 = .ok (.goto 5, 3) := by decide +kernel
theorem dX2_mend_119 : decode cX2_mend 119 = .ok (.iload 4, 2) := by decide +kernel
theorem dX2_mend_121 : decode cX2_mend 121 = .ok (.ireturn, 1) := by decide +kernel
set_option maxRecDepth 20000 in
theorem ggX2_bestCell_X2_on : GoodIn wsX2_bestCell wsX2_on := goodIn_r _ [6, 1, 7, 8, 9, 10, 5, 11, 12, 13, 14, 15, 30, 31, 32, 33, 34] (by decide +kernel) (by decide +kernel)
set_option maxRecDepth 20000 in
theorem gX2_bestCell_X2_on : GoodIn wsX2_bestCell (wsV RX2 77 RX2 yX2_on wsX2_on) := goodIn_app (goodIn_of _ (by decide +kernel)) ggX2_bestCell_X2_on
set_option maxRecDepth 20000 in
theorem ggX2_bestCell_X2_earliest : GoodIn wsX2_bestCell wsX2_earliest := goodIn_r _ [19, 20, 21, 5, 22, 23, 24, 25, 26, 27, 28, 29, 7, 30, 31, 32, 33, 34] (by decide +kernel) (by decide +kernel)
set_option maxRecDepth 20000 in
theorem gX2_bestCell_X2_earliest : GoodIn wsX2_bestCell (wsV RX2 101 RX2 yX2_earliest wsX2_earliest) := goodIn_app (goodIn_of _ (by decide +kernel)) ggX2_bestCell_X2_earliest
theorem dX2_bestCell_0 : decode cX2_bestCell 0 = .ok (.ldc 31, 2) := by decide +kernel
theorem dX2_bestCell_2 : decode cX2_bestCell 2 = .ok (.istore_n 1, 1) := by decide +kernel
theorem dX2_bestCell_3 : decode cX2_bestCell 3 = .ok (.iconst (-1), 1) := by decide +kernel
theorem dX2_bestCell_4 : decode cX2_bestCell 4 = .ok (.istore_n 2, 1) := by decide +kernel
theorem dX2_bestCell_5 : decode cX2_bestCell 5 = .ok (.iconst 0, 1) := by decide +kernel
theorem dX2_bestCell_6 : decode cX2_bestCell 6 = .ok (.istore_n 3, 1) := by decide +kernel
theorem dX2_bestCell_7 : decode cX2_bestCell 7 = .ok (.iload_n 3, 1) := by decide +kernel
theorem dX2_bestCell_8 : decode cX2_bestCell 8 = .ok (.bipush 24, 2) := by decide +kernel
theorem dX2_bestCell_10 : decode cX2_bestCell 10 = .ok (.if_icmp .ge 62, 3) := by decide +kernel
theorem dX2_bestCell_13 : decode cX2_bestCell 13 = .ok (.aload_n 0, 1) := by decide +kernel
theorem dX2_bestCell_14 : decode cX2_bestCell 14 = .ok (.iload_n 3, 1) := by decide +kernel
theorem dX2_bestCell_15 : decode cX2_bestCell 15 = .ok (.iconst 1, 1) := by decide +kernel
theorem dX2_bestCell_16 : decode cX2_bestCell 16 = .ok (.invokevirtual 77, 3) := by decide +kernel
theorem dX2_bestCell_19 : decode cX2_bestCell 19 = .ok (.ldc 31, 2) := by decide +kernel
theorem dX2_bestCell_21 : decode cX2_bestCell 21 = .ok (.if_icmp .ne 16, 3) := by decide +kernel
theorem dX2_bestCell_24 : decode cX2_bestCell 24 = .ok (.aload_n 0, 1) := by decide +kernel
theorem dX2_bestCell_25 : decode cX2_bestCell 25 = .ok (.iload_n 3, 1) := by decide +kernel
theorem dX2_bestCell_26 : decode cX2_bestCell 26 = .ok (.invokevirtual 101, 3) := by decide +kernel
theorem dX2_bestCell_29 : decode cX2_bestCell 29 = .ok (.iload_n 2, 1) := by decide +kernel
theorem dX2_bestCell_30 : decode cX2_bestCell 30 = .ok (.if_icmp .le 7, 3) := by decide +kernel
theorem dX2_bestCell_33 : decode cX2_bestCell 33 = .ok (.iconst 1, 1) := by decide +kernel
theorem dX2_bestCell_34 : decode cX2_bestCell 34 = .ok (.goto 4, 3) := by decide +kernel
theorem dX2_bestCell_37 : decode cX2_bestCell 37 = .ok (.iconst 0, 1) := by decide +kernel
theorem dX2_bestCell_38 : decode cX2_bestCell 38 = .ok (.istore 4, 2) := by decide +kernel
theorem dX2_bestCell_40 : decode cX2_bestCell 40 = .ok (.iload 4, 2) := by decide +kernel
theorem dX2_bestCell_42 : decode cX2_bestCell 42 = .ok (.ifCond .eq 7, 3) := by decide +kernel
theorem dX2_bestCell_45 : decode cX2_bestCell 45 = .ok (.iload_n 3, 1) := by decide +kernel
theorem dX2_bestCell_46 : decode cX2_bestCell 46 = .ok (.goto 4, 3) := by decide +kernel
theorem dX2_bestCell_49 : decode cX2_bestCell 49 = .ok (.iload_n 1, 1) := by decide +kernel
theorem dX2_bestCell_50 : decode cX2_bestCell 50 = .ok (.istore_n 1, 1) := by decide +kernel
theorem dX2_bestCell_51 : decode cX2_bestCell 51 = .ok (.iload 4, 2) := by decide +kernel
theorem dX2_bestCell_53 : decode cX2_bestCell 53 = .ok (.ifCond .eq 11, 3) := by decide +kernel
theorem dX2_bestCell_56 : decode cX2_bestCell 56 = .ok (.aload_n 0, 1) := by decide +kernel
theorem dX2_bestCell_57 : decode cX2_bestCell 57 = .ok (.iload_n 3, 1) := by decide +kernel
theorem dX2_bestCell_58 : decode cX2_bestCell 58 = .ok (.invokevirtual 101, 3) := by decide +kernel
theorem dX2_bestCell_61 : decode cX2_bestCell 61 = .ok (.goto 4, 3) := by decide +kernel
theorem dX2_bestCell_64 : decode cX2_bestCell 64 = .ok (.iload_n 2, 1) := by decide +kernel
theorem dX2_bestCell_65 : decode cX2_bestCell 65 = .ok (.istore_n 2, 1) := by decide +kernel
theorem dX2_bestCell_66 : decode cX2_bestCell 66 = .ok (.iinc 3 1, 3) := by decide +kernel
theorem dX2_bestCell_69 : decode cX2_bestCell 69 = .ok (.goto (-62), 3) := by decide +kernel
theorem dX2_bestCell_72 : decode cX2_bestCell 72 = .ok (.iload_n 1, 1) := by decide +kernel
theorem dX2_bestCell_73 : decode cX2_bestCell 73 = .ok (.ireturn, 1) := by decide +kernel
set_option maxRecDepth 20000 in
theorem ggX2_until_X2_isWalker : GoodIn wsX2_until wsX2_isWalker := goodIn_r _ [7, 8, 39, 40, 41, 42, 43] (by decide +kernel) (by decide +kernel)
set_option maxRecDepth 20000 in
theorem gX2_until_X2_isWalker : GoodIn wsX2_until (wsV RX2 81 RX2 yX2_isWalker wsX2_isWalker) := goodIn_app (goodIn_of _ (by decide +kernel)) ggX2_until_X2_isWalker
set_option maxRecDepth 20000 in
theorem ggX2_until_X2_in : GoodIn wsX2_until wsX2_in := goodIn_r _ [11] (by decide +kernel) (by decide +kernel)
set_option maxRecDepth 20000 in
theorem gX2_until_X2_in : GoodIn wsX2_until (va_wsS RX2 23 yX2_in wsX2_in) := goodIn_app (goodIn_of _ (by decide +kernel)) ggX2_until_X2_in
set_option maxRecDepth 20000 in
theorem ggX2_until_X2_isAboard : GoodIn wsX2_until wsX2_isAboard := goodIn_r _ [15, 16, 17, 18, 19, 6, 20, 8, 39, 40, 41, 42, 43] (by decide +kernel) (by decide +kernel)
set_option maxRecDepth 20000 in
theorem gX2_until_X2_isAboard : GoodIn wsX2_until (wsV RX2 40 RX2 yX2_isAboard wsX2_isAboard) := goodIn_app (goodIn_of _ (by decide +kernel)) ggX2_until_X2_isAboard
set_option maxRecDepth 20000 in
theorem ggX2_until_X2_certaintyIn : GoodIn wsX2_until wsX2_certaintyIn := goodIn_r _ [24, 8, 17, 18, 19, 6, 20, 25, 26, 27, 28, 29, 30, 31, 32, 33, 34, 35, 36, 37, 38, 39, 40, 41, 42, 43] (by decide +kernel) (by decide +kernel)
set_option maxRecDepth 20000 in
theorem gX2_until_X2_certaintyIn : GoodIn wsX2_until (wsV RX2 107 RX2 yX2_certaintyIn wsX2_certaintyIn) := goodIn_app (goodIn_of _ (by decide +kernel)) ggX2_until_X2_certaintyIn
theorem dX2_until_0 : decode cX2_until 0 = .ok (.aload_n 0, 1) := by decide +kernel
theorem dX2_until_1 : decode cX2_until 1 = .ok (.iload_n 1, 1) := by decide +kernel
theorem dX2_until_2 : decode cX2_until 2 = .ok (.invokevirtual 81, 3) := by decide +kernel
theorem dX2_until_5 : decode cX2_until 5 = .ok (.ifCond .eq 13, 3) := by decide +kernel
theorem dX2_until_8 : decode cX2_until 8 = .ok (.iload_n 2, 1) := by decide +kernel
theorem dX2_until_9 : decode cX2_until 9 = .ok (.iconst 1, 1) := by decide +kernel
theorem dX2_until_10 : decode cX2_until 10 = .ok (.bipush 100, 2) := by decide +kernel
theorem dX2_until_12 : decode cX2_until 12 = .ok (.invokestatic 23, 3) := by decide +kernel
theorem dX2_until_15 : decode cX2_until 15 = .ok (.ifCond .ne 6, 3) := by decide +kernel
theorem dX2_until_18 : decode cX2_until 18 = .ok (.ldc 66, 2) := by decide +kernel
theorem dX2_until_20 : decode cX2_until 20 = .ok (.ireturn, 1) := by decide +kernel
theorem dX2_until_21 : decode cX2_until 21 = .ok (.aload_n 0, 1) := by decide +kernel
theorem dX2_until_22 : decode cX2_until 22 = .ok (.iload_n 1, 1) := by decide +kernel
theorem dX2_until_23 : decode cX2_until 23 = .ok (.invokevirtual 40, 3) := by decide +kernel
theorem dX2_until_26 : decode cX2_until 26 = .ok (.ifCond .ne 6, 3) := by decide +kernel
theorem dX2_until_29 : decode cX2_until 29 = .ok (.ldc 70, 2) := by decide +kernel
theorem dX2_until_31 : decode cX2_until 31 = .ok (.ireturn, 1) := by decide +kernel
theorem dX2_until_32 : decode cX2_until 32 = .ok (.iconst 0, 1) := by decide +kernel
theorem dX2_until_33 : decode cX2_until 33 = .ok (.istore_n 3, 1) := by decide +kernel
theorem dX2_until_34 : decode cX2_until 34 = .ok (.aload_n 0, 1) := by decide +kernel
theorem dX2_until_35 : decode cX2_until 35 = .ok (.iload_n 1, 1) := by decide +kernel
theorem dX2_until_36 : decode cX2_until 36 = .ok (.iload_n 3, 1) := by decide +kernel
theorem dX2_until_37 : decode cX2_until 37 = .ok (.invokevirtual 107, 3) := by decide +kernel
theorem dX2_until_40 : decode cX2_until 40 = .ok (.iload_n 2, 1) := by decide +kernel
theorem dX2_until_41 : decode cX2_until 41 = .ok (.if_icmp .lt 9, 3) := by decide +kernel
theorem dX2_until_44 : decode cX2_until 44 = .ok (.iinc 3 1, 3) := by decide +kernel
theorem dX2_until_47 : decode cX2_until 47 = .ok (.goto (-13), 3) := by decide +kernel
theorem dX2_until_50 : decode cX2_until 50 = .ok (.iload_n 3, 1) := by decide +kernel
theorem dX2_until_51 : decode cX2_until 51 = .ok (.ireturn, 1) := by decide +kernel
theorem dJ9_floorMod_7cf53_0 : decode cJ9_floorMod_7cf53 0 = .ok (.iload_n 0, 1) := by decide +kernel
theorem dJ9_floorMod_7cf53_1 : decode cJ9_floorMod_7cf53 1 = .ok (.iload_n 1, 1) := by decide +kernel
theorem dJ9_floorMod_7cf53_2 : decode cJ9_floorMod_7cf53 2 = .ok (.irem, 1) := by decide +kernel
theorem dJ9_floorMod_7cf53_3 : decode cJ9_floorMod_7cf53 3 = .ok (.istore_n 2, 1) := by decide +kernel
theorem dJ9_floorMod_7cf53_4 : decode cJ9_floorMod_7cf53 4 = .ok (.iload_n 0, 1) := by decide +kernel
theorem dJ9_floorMod_7cf53_5 : decode cJ9_floorMod_7cf53 5 = .ok (.iload_n 1, 1) := by decide +kernel
theorem dJ9_floorMod_7cf53_6 : decode cJ9_floorMod_7cf53 6 = .ok (.ixor, 1) := by decide +kernel
theorem dJ9_floorMod_7cf53_7 : decode cJ9_floorMod_7cf53 7 = .ok (.ifCond .ge 11, 3) := by decide +kernel
theorem dJ9_floorMod_7cf53_10 : decode cJ9_floorMod_7cf53 10 = .ok (.iload_n 2, 1) := by decide +kernel
theorem dJ9_floorMod_7cf53_11 : decode cJ9_floorMod_7cf53 11 = .ok (.ifCond .eq 7, 3) := by decide +kernel
theorem dJ9_floorMod_7cf53_14 : decode cJ9_floorMod_7cf53 14 = .ok (.iload_n 2, 1) := by decide +kernel
theorem dJ9_floorMod_7cf53_15 : decode cJ9_floorMod_7cf53 15 = .ok (.iload_n 1, 1) := by decide +kernel
theorem dJ9_floorMod_7cf53_16 : decode cJ9_floorMod_7cf53 16 = .ok (.iadd, 1) := by decide +kernel
theorem dJ9_floorMod_7cf53_17 : decode cJ9_floorMod_7cf53 17 = .ok (.ireturn, 1) := by decide +kernel
theorem dJ9_floorMod_7cf53_18 : decode cJ9_floorMod_7cf53 18 = .ok (.iload_n 2, 1) := by decide +kernel
theorem dJ9_floorMod_7cf53_19 : decode cJ9_floorMod_7cf53 19 = .ok (.ireturn, 1) := by decide +kernel
theorem dJ9_abs_0f7a4_0 : decode cJ9_abs_0f7a4 0 = .ok (.iload_n 0, 1) := by decide +kernel
theorem dJ9_abs_0f7a4_1 : decode cJ9_abs_0f7a4 1 = .ok (.ifCond .ge 8, 3) := by decide +kernel
theorem dJ9_abs_0f7a4_4 : decode cJ9_abs_0f7a4 4 = .ok (.iload_n 0, 1) := by decide +kernel
theorem dJ9_abs_0f7a4_5 : decode cJ9_abs_0f7a4 5 = .ok (.ineg, 1) := by decide +kernel
theorem dJ9_abs_0f7a4_6 : decode cJ9_abs_0f7a4 6 = .ok (.goto 4, 3) := by decide +kernel
theorem dJ9_abs_0f7a4_9 : decode cJ9_abs_0f7a4 9 = .ok (.iload_n 0, 1) := by decide +kernel
theorem dJ9_abs_0f7a4_10 : decode cJ9_abs_0f7a4 10 = .ok (.ireturn, 1) := by decide +kernel
theorem dJ9_max_7cf53_0 : decode cJ9_max_7cf53 0 = .ok (.iload_n 0, 1) := by decide +kernel
theorem dJ9_max_7cf53_1 : decode cJ9_max_7cf53 1 = .ok (.iload_n 1, 1) := by decide +kernel
theorem dJ9_max_7cf53_2 : decode cJ9_max_7cf53 2 = .ok (.if_icmp .lt 7, 3) := by decide +kernel
theorem dJ9_max_7cf53_5 : decode cJ9_max_7cf53 5 = .ok (.iload_n 0, 1) := by decide +kernel
theorem dJ9_max_7cf53_6 : decode cJ9_max_7cf53 6 = .ok (.goto 4, 3) := by decide +kernel
theorem dJ9_max_7cf53_9 : decode cJ9_max_7cf53 9 = .ok (.iload_n 1, 1) := by decide +kernel
theorem dJ9_max_7cf53_10 : decode cJ9_max_7cf53 10 = .ok (.ireturn, 1) := by decide +kernel
theorem dJ9_min_7cf53_0 : decode cJ9_min_7cf53 0 = .ok (.iload_n 0, 1) := by decide +kernel
theorem dJ9_min_7cf53_1 : decode cJ9_min_7cf53 1 = .ok (.iload_n 1, 1) := by decide +kernel
theorem dJ9_min_7cf53_2 : decode cJ9_min_7cf53 2 = .ok (.if_icmp .gt 7, 3) := by decide +kernel
theorem dJ9_min_7cf53_5 : decode cJ9_min_7cf53 5 = .ok (.iload_n 0, 1) := by decide +kernel
theorem dJ9_min_7cf53_6 : decode cJ9_min_7cf53 6 = .ok (.goto 4, 3) := by decide +kernel
theorem dJ9_min_7cf53_9 : decode cJ9_min_7cf53 9 = .ok (.iload_n 1, 1) := by decide +kernel
theorem dJ9_min_7cf53_10 : decode cJ9_min_7cf53 10 = .ok (.ireturn, 1) := by decide +kernel
set_option maxRecDepth 20000 in
theorem ggL_law_X1_init : GoodIn wsL_law wsX1_init := goodIn_r _ [8, 9, 10, 11, 12, 13, 14, 15, 16, 17, 18, 19, 20, 21, 22, 23, 24, 25, 26, 27, 28, 29, 30, 31, 32, 33, 34, 35, 36, 37, 38, 39, 40, 41, 42, 43, 2, 44, 506, 507, 508, 509, 510, 511, 512, 513, 514, 515, 516, 517, 518, 519, 520, 494, 495, 496, 497, 498, 499, 500] (by decide +kernel) (by decide +kernel)
set_option maxRecDepth 20000 in
theorem gL_law_X1_init : GoodIn wsL_law (wsX1_init) := ggL_law_X1_init
set_option maxRecDepth 20000 in
theorem ggL_law_X2_init : GoodIn wsL_law wsX2_init := goodIn_r _ [47, 48, 10, 11, 19, 49, 50, 51, 501, 502, 503, 504, 505] (by decide +kernel) (by decide +kernel)
set_option maxRecDepth 20000 in
theorem gL_law_X2_init : GoodIn wsL_law (wsX2_init) := ggL_law_X2_init
set_option maxRecDepth 20000 in
theorem ggL_law_X1_setDrift : GoodIn wsL_law wsX1_setDrift := goodIn_r _ [55, 56, 15, 57, 58, 59, 2, 60, 61, 62, 63, 64, 65, 66, 67, 18, 17, 16, 68, 69, 70, 71, 72, 73, 74, 75, 76, 77, 78, 14, 79, 27, 28, 29, 30, 31, 32, 33, 34, 35, 36, 37, 38, 39, 40, 41, 80, 81, 82, 83, 84, 85, 86, 87, 88, 89, 494, 495, 496, 497, 498, 499, 500, 506, 507, 508, 509, 510, 511, 512, 513, 514, 515, 516, 517, 518, 519, 520] (by decide +kernel) (by decide +kernel)
set_option maxRecDepth 20000 in
theorem gL_law_X1_setDrift : GoodIn wsL_law (wsV RL 13 RX1 yX1_setDrift wsX1_setDrift) := goodIn_app (goodIn_of _ (by decide +kernel)) ggL_law_X1_setDrift
set_option maxRecDepth 20000 in
theorem ggL_law_X2_setDrift : GoodIn wsL_law wsX2_setDrift := goodIn_r _ [93, 94, 49, 95, 96, 5, 97, 98, 99, 100, 101, 102, 103, 104, 105, 50, 106, 107, 108, 109, 501, 502, 503, 504, 505] (by decide +kernel) (by decide +kernel)
set_option maxRecDepth 20000 in
theorem gL_law_X2_setDrift : GoodIn wsL_law (wsV RL 17 RX2 yX2_setDrift wsX2_setDrift) := goodIn_app (goodIn_of _ (by decide +kernel)) ggL_law_X2_setDrift
set_option maxRecDepth 20000 in
theorem ggL_law_X1_pass : GoodIn wsL_law wsX1_pass := goodIn_r _ [113, 56, 15, 114, 115, 116, 57, 61, 62, 2, 63, 64, 65, 66, 67, 18, 17, 16, 68, 69, 70, 71, 72, 73, 74, 75, 76, 77, 78, 14, 79, 27, 28, 29, 30, 31, 32, 33, 34, 35, 36, 37, 38, 39, 40, 41, 80, 81, 82, 83, 84, 85, 86, 87, 88, 89, 494, 495, 496, 497, 498, 499, 500, 506, 507, 508, 509, 510, 511, 512, 513, 514, 515, 516, 517, 518, 519, 520] (by decide +kernel) (by decide +kernel)
set_option maxRecDepth 20000 in
theorem gL_law_X1_pass : GoodIn wsL_law (wsV RL 18 RX1 yX1_pass wsX1_pass) := goodIn_app (goodIn_of _ (by decide +kernel)) ggL_law_X1_pass
set_option maxRecDepth 20000 in
theorem ggL_law_X2_pass : GoodIn wsL_law wsX2_pass := goodIn_r _ [120, 94, 49, 121, 98, 99, 5, 100, 101, 102, 103, 104, 105, 50, 106, 107, 108, 109, 501, 502, 503, 504, 505] (by decide +kernel) (by decide +kernel)
set_option maxRecDepth 20000 in
theorem gL_law_X2_pass : GoodIn wsL_law (wsV RL 22 RX2 yX2_pass wsX2_pass) := goodIn_app (goodIn_of _ (by decide +kernel)) ggL_law_X2_pass
set_option maxRecDepth 20000 in
theorem ggL_law_X1_tare : GoodIn wsL_law wsX1_tare := goodIn_r _ [125, 56, 20, 15, 116, 115, 126, 127, 114, 58, 59, 2, 60, 128, 129, 130, 131, 132, 133, 134, 80, 81, 82, 83, 84, 85, 86, 87, 88, 89, 135, 136, 137, 138, 139, 140, 141, 142, 143, 144, 64, 65, 66, 67, 18, 17, 16, 68, 69, 70, 71, 72, 73, 74, 75, 76, 77, 78, 14, 79, 27, 28, 29, 30, 31, 32, 33, 34, 35, 36, 37, 38, 39, 40, 41, 494, 495, 496, 497, 498, 499, 500, 506, 507, 508, 509, 510, 511, 512, 513, 514, 515, 516, 517, 518, 519, 520] (by decide +kernel) (by decide +kernel)
set_option maxRecDepth 20000 in
theorem gL_law_X1_tare : GoodIn wsL_law (wsV RL 23 RX1 yX1_tare wsX1_tare) := goodIn_app (goodIn_of _ (by decide +kernel)) ggL_law_X1_tare
set_option maxRecDepth 20000 in
theorem ggL_law_X2_tare : GoodIn wsL_law wsX2_tare := goodIn_r _ [148, 94, 121, 49, 95, 96, 5, 97, 98, 99, 100, 149, 150, 151, 152, 153, 154, 155, 156, 157, 158, 159, 160, 161, 162, 163, 164, 165, 166, 167, 168, 169, 170, 101, 102, 103, 104, 105, 50, 171, 172, 173, 174, 175, 176, 177, 178, 106, 107, 108, 109, 501, 502, 503, 504, 505] (by decide +kernel) (by decide +kernel)
set_option maxRecDepth 20000 in
theorem gL_law_X2_tare : GoodIn wsL_law (wsV RL 26 RX2 yX2_tare wsX2_tare) := goodIn_app (goodIn_of _ (by decide +kernel)) ggL_law_X2_tare
set_option maxRecDepth 20000 in
theorem ggL_law_X1_board : GoodIn wsL_law wsX1_board := goodIn_r _ [182, 56, 15, 133, 144, 115, 183, 184, 132, 185, 186, 187, 188, 2, 189, 61, 62, 63, 58, 59, 60, 190, 191, 192, 64, 65, 66, 67, 18, 17, 16, 68, 69, 70, 71, 72, 73, 74, 75, 76, 77, 78, 14, 79, 27, 28, 29, 30, 31, 32, 33, 34, 35, 36, 37, 38, 39, 40, 41, 80, 81, 82, 83, 84, 85, 86, 87, 88, 89, 494, 495, 496, 497, 498, 499, 500, 506, 507, 508, 509, 510, 511, 512, 513, 514, 515, 516, 517, 518, 519, 520] (by decide +kernel) (by decide +kernel)
set_option maxRecDepth 20000 in
theorem gL_law_X1_board : GoodIn wsL_law (wsV RL 27 RX1 yX1_board wsX1_board) := goodIn_app (goodIn_of _ (by decide +kernel)) ggL_law_X1_board
set_option maxRecDepth 20000 in
theorem ggL_law_X2_board : GoodIn wsL_law wsX2_board := goodIn_r _ [196, 94, 157, 121, 49, 197, 198, 199, 5, 200, 98, 99, 100, 95, 96, 97, 201, 202, 203, 204, 153, 154, 155, 156, 158, 159, 160, 161, 101, 102, 103, 104, 105, 50, 501, 502, 503, 504, 505] (by decide +kernel) (by decide +kernel)
set_option maxRecDepth 20000 in
theorem gL_law_X2_board : GoodIn wsL_law (wsV RL 31 RX2 yX2_board wsX2_board) := goodIn_app (goodIn_of _ (by decide +kernel)) ggL_law_X2_board
set_option maxRecDepth 20000 in
theorem ggL_law_X1_walk : GoodIn wsL_law wsX1_walk := goodIn_r _ [208, 56, 15, 133, 144, 115, 186, 209, 210, 211, 2, 212, 183, 58, 59, 60, 213, 214, 215, 216, 190, 191, 192, 64, 65, 66, 67, 18, 17, 16, 68, 69, 70, 71, 72, 73, 74, 75, 76, 77, 78, 14, 79, 27, 28, 29, 30, 31, 32, 33, 34, 35, 36, 37, 38, 39, 40, 41, 80, 81, 82, 83, 84, 85, 86, 87, 88, 89, 494, 495, 496, 497, 498, 499, 500, 506, 507, 508, 509, 510, 511, 512, 513, 514, 515, 516, 517, 518, 519, 520] (by decide +kernel) (by decide +kernel)
set_option maxRecDepth 20000 in
theorem gL_law_X1_walk : GoodIn wsL_law (wsV RL 32 RX1 yX1_walk wsX1_walk) := goodIn_app (goodIn_of _ (by decide +kernel)) ggL_law_X1_walk
set_option maxRecDepth 20000 in
theorem ggL_law_X2_walk : GoodIn wsL_law wsX2_walk := goodIn_r _ [220, 94, 157, 121, 221, 222, 223, 5, 224, 49, 95, 96, 97, 98, 99, 100, 153, 154, 155, 156, 158, 159, 160, 161, 201, 202, 203, 204, 101, 102, 103, 104, 105, 50, 225, 226, 227, 228, 501, 502, 503, 504, 505] (by decide +kernel) (by decide +kernel)
set_option maxRecDepth 20000 in
theorem gL_law_X2_walk : GoodIn wsL_law (wsV RL 35 RX2 yX2_walk wsX2_walk) := goodIn_app (goodIn_of _ (by decide +kernel)) ggL_law_X2_walk
set_option maxRecDepth 20000 in
theorem ggL_law_X1_swap : GoodIn wsL_law wsX1_swap := goodIn_r _ [232, 56, 115, 15, 133, 186, 233, 234, 235, 2, 236, 209, 210, 211, 212, 183, 213, 214, 215, 216, 144, 64, 65, 66, 67, 18, 17, 16, 68, 69, 70, 71, 72, 73, 74, 75, 76, 77, 78, 14, 79, 27, 28, 29, 30, 31, 32, 33, 34, 35, 36, 37, 38, 39, 40, 41, 80, 81, 82, 83, 84, 85, 86, 87, 88, 89, 237, 238, 239, 240, 241, 242, 243, 20, 21, 244, 245, 246, 128, 129, 130, 131, 116, 132, 134, 135, 136, 137, 138, 139, 140, 58, 59, 60, 141, 142, 143, 247, 248, 249, 250, 126, 185, 494, 495, 496, 497, 498, 499, 500, 506, 507, 508, 509, 510, 511, 512, 513, 514, 515, 516, 517, 518, 519, 520] (by decide +kernel) (by decide +kernel)
set_option maxRecDepth 20000 in
theorem gL_law_X1_swap : GoodIn wsL_law (wsV RL 36 RX1 yX1_swap wsX1_swap) := goodIn_app (goodIn_of _ (by decide +kernel)) ggL_law_X1_swap
set_option maxRecDepth 20000 in
theorem ggL_law_X2_swap : GoodIn wsL_law wsX2_swap := goodIn_r _ [254, 255, 256, 257, 5, 258, 94, 121, 221, 222, 223, 224, 49, 153, 154, 155, 156, 157, 158, 159, 160, 161, 101, 102, 103, 104, 105, 50, 259, 260, 261, 262, 225, 226, 227, 228, 263, 264, 265, 266, 171, 172, 173, 174, 175, 176, 177, 178, 162, 163, 164, 165, 166, 167, 168, 169, 170, 106, 107, 108, 109, 267, 268, 269, 270, 271, 272, 273, 274, 501, 502, 503, 504, 505] (by decide +kernel) (by decide +kernel)
set_option maxRecDepth 20000 in
theorem gL_law_X2_swap : GoodIn wsL_law (wsV RL 39 RX2 yX2_swap wsX2_swap) := goodIn_app (goodIn_of _ (by decide +kernel)) ggL_law_X2_swap
set_option maxRecDepth 20000 in
theorem ggL_law_X1_leave : GoodIn wsL_law wsX1_leave := goodIn_r _ [278, 56, 115, 15, 133, 186, 144, 209, 210, 211, 2, 212, 183, 213, 214, 215, 216, 64, 65, 66, 67, 18, 17, 16, 68, 69, 70, 71, 72, 73, 74, 75, 76, 77, 78, 14, 79, 27, 28, 29, 30, 31, 32, 33, 34, 35, 36, 37, 38, 39, 40, 41, 80, 81, 82, 83, 84, 85, 86, 87, 88, 89, 190, 191, 192, 494, 495, 496, 497, 498, 499, 500, 506, 507, 508, 509, 510, 511, 512, 513, 514, 515, 516, 517, 518, 519, 520] (by decide +kernel) (by decide +kernel)
set_option maxRecDepth 20000 in
theorem gL_law_X1_leave : GoodIn wsL_law (wsV RL 40 RX1 yX1_leave wsX1_leave) := goodIn_app (goodIn_of _ (by decide +kernel)) ggL_law_X1_leave
set_option maxRecDepth 20000 in
theorem ggL_law_X2_leave : GoodIn wsL_law wsX2_leave := goodIn_r _ [282, 94, 121, 157, 221, 222, 223, 5, 224, 49, 153, 154, 155, 156, 158, 159, 160, 161, 101, 102, 103, 104, 105, 50, 201, 202, 203, 204, 225, 226, 227, 228, 501, 502, 503, 504, 505] (by decide +kernel) (by decide +kernel)
set_option maxRecDepth 20000 in
theorem gL_law_X2_leave : GoodIn wsL_law (wsV RL 43 RX2 yX2_leave wsX2_leave) := goodIn_app (goodIn_of _ (by decide +kernel)) ggL_law_X2_leave
set_option maxRecDepth 20000 in
theorem ggL_law_X1_setPrice : GoodIn wsL_law wsX1_setPrice := goodIn_r _ [286, 56, 15, 287, 61, 62, 2, 63, 64, 65, 66, 67, 18, 17, 16, 68, 69, 70, 71, 72, 73, 74, 75, 76, 77, 78, 14, 79, 27, 28, 29, 30, 31, 32, 33, 34, 35, 36, 37, 38, 39, 40, 41, 80, 81, 82, 83, 84, 85, 86, 87, 88, 89, 494, 495, 496, 497, 498, 499, 500, 506, 507, 508, 509, 510, 511, 512, 513, 514, 515, 516, 517, 518, 519, 520] (by decide +kernel) (by decide +kernel)
set_option maxRecDepth 20000 in
theorem gL_law_X1_setPrice : GoodIn wsL_law (wsV RL 44 RX1 yX1_setPrice wsX1_setPrice) := goodIn_app (goodIn_of _ (by decide +kernel)) ggL_law_X1_setPrice
set_option maxRecDepth 20000 in
theorem ggL_law_X2_setPrice : GoodIn wsL_law wsX2_setPrice := goodIn_r _ [291, 94, 49, 98, 99, 5, 100, 101, 102, 103, 104, 105, 50, 501, 502, 503, 504, 505] (by decide +kernel) (by decide +kernel)
set_option maxRecDepth 20000 in
theorem gL_law_X2_setPrice : GoodIn wsL_law (wsV RL 47 RX2 yX2_setPrice wsX2_setPrice) := goodIn_app (goodIn_of _ (by decide +kernel)) ggL_law_X2_setPrice
set_option maxRecDepth 20000 in
theorem ggL_law_X1_accuse : GoodIn wsL_law wsX1_accuse := goodIn_r _ [295, 56, 115, 15, 186, 296, 233, 234, 235, 2, 236, 209, 210, 211, 212, 183, 213, 214, 215, 216, 133, 144, 64, 65, 66, 67, 18, 17, 16, 68, 69, 70, 71, 72, 73, 74, 75, 76, 77, 78, 14, 79, 27, 28, 29, 30, 31, 32, 33, 34, 35, 36, 37, 38, 39, 40, 41, 80, 81, 82, 83, 84, 85, 86, 87, 88, 89, 237, 238, 239, 240, 241, 242, 243, 20, 21, 244, 245, 246, 128, 129, 130, 131, 116, 132, 134, 135, 136, 137, 138, 139, 140, 58, 59, 60, 141, 142, 143, 247, 248, 249, 250, 126, 185, 494, 495, 496, 497, 498, 499, 500, 506, 507, 508, 509, 510, 511, 512, 513, 514, 515, 516, 517, 518, 519, 520] (by decide +kernel) (by decide +kernel)
set_option maxRecDepth 20000 in
theorem gL_law_X1_accuse : GoodIn wsL_law (wsV RL 48 RX1 yX1_accuse wsX1_accuse) := goodIn_app (goodIn_of _ (by decide +kernel)) ggL_law_X1_accuse
set_option maxRecDepth 20000 in
theorem ggL_law_X2_accuse : GoodIn wsL_law wsX2_accuse := goodIn_r _ [300, 49, 255, 256, 257, 5, 258, 94, 121, 221, 222, 223, 224, 153, 154, 155, 156, 157, 158, 159, 160, 161, 101, 102, 103, 104, 105, 50, 259, 260, 261, 262, 225, 226, 227, 228, 263, 264, 265, 266, 171, 172, 173, 174, 175, 176, 177, 178, 162, 163, 164, 165, 166, 167, 168, 169, 170, 106, 107, 108, 109, 267, 268, 269, 270, 271, 272, 273, 274, 501, 502, 503, 504, 505] (by decide +kernel) (by decide +kernel)
set_option maxRecDepth 20000 in
theorem gL_law_X2_accuse : GoodIn wsL_law (wsV RL 51 RX2 yX2_accuse wsX2_accuse) := goodIn_app (goodIn_of _ (by decide +kernel)) ggL_law_X2_accuse
set_option maxRecDepth 20000 in
theorem ggL_law_X1_bill : GoodIn wsL_law wsX1_bill := goodIn_r _ [304, 56, 15, 305, 144, 115, 306, 287, 185, 209, 210, 211, 2, 212, 183, 213, 214, 215, 216, 133, 64, 65, 66, 67, 18, 17, 16, 68, 69, 70, 71, 72, 73, 74, 75, 76, 77, 78, 14, 79, 27, 28, 29, 30, 31, 32, 33, 34, 35, 36, 37, 38, 39, 40, 41, 80, 81, 82, 83, 84, 85, 86, 87, 88, 89, 307, 308, 309, 310, 126, 311, 312, 313, 314, 315, 316, 317, 186, 20, 21, 128, 129, 130, 131, 116, 132, 134, 135, 136, 137, 138, 139, 140, 58, 59, 60, 141, 142, 143, 247, 248, 249, 250, 318, 319, 320, 321, 114, 296, 322, 323, 324, 325, 127, 326, 327, 328, 329, 330, 331, 332, 333, 334, 335, 336, 337, 338, 339, 340, 494, 495, 496, 497, 498, 499, 500, 506, 507, 508, 509, 510, 511, 512, 513, 514, 515, 516, 517, 518, 519, 520] (by decide +kernel) (by decide +kernel)
set_option maxRecDepth 20000 in
theorem gL_law_X1_bill : GoodIn wsL_law (wsV RL 52 RX1 yX1_bill wsX1_bill) := goodIn_app (goodIn_of _ (by decide +kernel)) ggL_law_X1_bill
set_option maxRecDepth 20000 in
theorem ggL_law_X2_bill : GoodIn wsL_law wsX2_bill := goodIn_r _ [344, 94, 157, 121, 49, 221, 222, 223, 5, 224, 153, 154, 155, 156, 158, 159, 160, 161, 101, 102, 103, 104, 105, 50, 345, 346, 347, 348, 349, 350, 351, 168, 169, 170, 171, 172, 173, 174, 175, 176, 177, 178, 162, 163, 164, 165, 166, 167, 106, 107, 108, 109, 271, 272, 273, 274, 352, 353, 354, 355, 356, 357, 358, 359, 360, 361, 362, 363, 225, 226, 227, 228, 501, 502, 503, 504, 505] (by decide +kernel) (by decide +kernel)
set_option maxRecDepth 20000 in
theorem gL_law_X2_bill : GoodIn wsL_law (wsV RL 55 RX2 yX2_bill wsX2_bill) := goodIn_app (goodIn_of _ (by decide +kernel)) ggL_law_X2_bill
set_option maxRecDepth 20000 in
theorem ggL_law_X1_complain : GoodIn wsL_law wsX1_complain := goodIn_r _ [367, 56, 15, 305, 144, 337, 115, 132, 311, 312, 84, 313, 209, 210, 211, 2, 212, 183, 213, 214, 215, 216, 133, 64, 65, 66, 67, 18, 17, 16, 68, 69, 70, 71, 72, 73, 74, 75, 76, 77, 78, 14, 79, 27, 28, 29, 30, 31, 32, 33, 34, 35, 36, 37, 38, 39, 40, 41, 80, 81, 82, 83, 85, 86, 87, 88, 89, 368, 369, 370, 371, 306, 338, 339, 340, 494, 495, 496, 497, 498, 499, 500, 506, 507, 508, 509, 510, 511, 512, 513, 514, 515, 516, 517, 518, 519, 520] (by decide +kernel) (by decide +kernel)
set_option maxRecDepth 20000 in
theorem gL_law_X1_complain : GoodIn wsL_law (wsV RL 56 RX1 yX1_complain wsX1_complain) := goodIn_app (goodIn_of _ (by decide +kernel)) ggL_law_X1_complain
set_option maxRecDepth 20000 in
theorem ggL_law_X2_complain : GoodIn wsL_law wsX2_complain := goodIn_r _ [375, 94, 157, 121, 49, 221, 222, 223, 5, 224, 153, 154, 155, 156, 158, 159, 160, 161, 101, 102, 103, 104, 105, 50, 225, 226, 227, 228, 501, 502, 503, 504, 505] (by decide +kernel) (by decide +kernel)
set_option maxRecDepth 20000 in
theorem gL_law_X2_complain : GoodIn wsL_law (wsV RL 59 RX2 yX2_complain wsX2_complain) := goodIn_app (goodIn_of _ (by decide +kernel)) ggL_law_X2_complain
set_option maxRecDepth 20000 in
theorem ggL_law_X1_undo : GoodIn wsL_law wsX1_undo := goodIn_r _ [379, 18, 115, 16, 15, 68, 69, 70, 2, 71, 17, 72, 73, 74, 75, 76, 77, 78, 14, 79, 27, 28, 29, 30, 31, 32, 33, 34, 35, 36, 37, 38, 39, 40, 41, 80, 81, 82, 83, 84, 85, 86, 87, 88, 89, 494, 495, 496, 497, 498, 499, 500, 506, 507, 508, 509, 510, 511, 512, 513, 514, 515, 516, 517, 518, 519, 520] (by decide +kernel) (by decide +kernel)
set_option maxRecDepth 20000 in
theorem gL_law_X1_undo : GoodIn wsL_law (wsV RL 60 RX1 yX1_undo wsX1_undo) := goodIn_app (goodIn_of _ (by decide +kernel)) ggL_law_X1_undo
set_option maxRecDepth 20000 in
theorem ggL_law_X2_undo : GoodIn wsL_law wsX2_undo := goodIn_r _ [383, 105, 121, 49, 50, 501, 502, 503, 504, 505] (by decide +kernel) (by decide +kernel)
set_option maxRecDepth 20000 in
theorem gL_law_X2_undo : GoodIn wsL_law (wsV RL 64 RX2 yX2_undo wsX2_undo) := goodIn_app (goodIn_of _ (by decide +kernel)) ggL_law_X2_undo
set_option maxRecDepth 20000 in
theorem ggL_law_X1_count : GoodIn wsL_law wsX1_count := goodIn_r _ [387, 15, 114, 183, 18, 186, 126, 287, 56, 388, 389, 390, 2, 391, 213, 214, 215, 216, 133, 144, 209, 210, 211, 212, 240, 241, 242, 243, 20, 21, 244, 245, 84, 246, 128, 129, 130, 131, 116, 132, 134, 80, 81, 82, 83, 85, 86, 87, 88, 89, 135, 136, 137, 138, 139, 140, 58, 59, 60, 141, 142, 143, 247, 248, 249, 250, 185, 326, 327, 328, 329, 330, 331, 332, 392, 393, 394, 395, 333, 334, 335, 336, 305, 337, 338, 339, 340, 396, 397, 398, 399, 400, 401, 402, 403, 306, 404, 405, 406, 407, 368, 369, 370, 371, 494, 495, 496, 497, 498, 499, 500, 506, 507, 508, 509, 510, 511, 512, 513, 514, 515, 516, 517, 518, 519, 520] (by decide +kernel) (by decide +kernel)
set_option maxRecDepth 20000 in
theorem gL_law_X1_count : GoodIn wsL_law (wsV RL 65 RX1 yX1_count wsX1_count) := goodIn_app (goodIn_of _ (by decide +kernel)) ggL_law_X1_count
set_option maxRecDepth 20000 in
theorem ggL_law_X2_count : GoodIn wsL_law wsX2_count := goodIn_r _ [411, 49, 105, 94, 412, 413, 414, 5, 415, 153, 154, 155, 156, 157, 158, 159, 160, 161, 263, 264, 265, 266, 171, 172, 173, 174, 175, 176, 177, 178, 162, 163, 164, 165, 166, 167, 168, 169, 170, 106, 107, 108, 109, 267, 268, 269, 270, 271, 272, 273, 274, 360, 361, 362, 363, 501, 502, 503, 504, 505] (by decide +kernel) (by decide +kernel)
set_option maxRecDepth 20000 in
theorem gL_law_X2_count : GoodIn wsL_law (wsV RL 68 RX2 yX2_count wsX2_count) := goodIn_app (goodIn_of _ (by decide +kernel)) ggL_law_X2_count
set_option maxRecDepth 20000 in
theorem ggL_law_X1_cell : GoodIn wsL_law wsX1_cell := goodIn_r _ [419, 56, 20, 15, 116, 57, 126, 127, 186, 21, 133, 58, 59, 2, 60, 128, 129, 130, 131, 132, 134, 80, 81, 82, 83, 84, 85, 86, 87, 88, 89, 135, 136, 137, 138, 139, 140, 141, 142, 143, 144, 247, 248, 249, 250, 185, 190, 191, 192, 494, 495, 496, 497, 498, 499, 500, 506, 507, 508, 509, 510, 511, 512, 513, 514, 515, 516, 517, 518, 519, 520] (by decide +kernel) (by decide +kernel)
set_option maxRecDepth 20000 in
theorem gL_law_X1_cell : GoodIn wsL_law (wsV RL 69 RX1 yX1_cell wsX1_cell) := goodIn_app (goodIn_of _ (by decide +kernel)) ggL_law_X1_cell
set_option maxRecDepth 20000 in
theorem ggL_law_X2_cell : GoodIn wsL_law wsX2_cell := goodIn_r _ [423, 94, 95, 96, 5, 97, 98, 99, 100, 171, 172, 173, 174, 175, 176, 177, 178, 49, 153, 154, 155, 156, 157, 158, 159, 160, 161, 162, 163, 164, 165, 166, 167, 168, 169, 170, 106, 107, 108, 109, 267, 268, 269, 270, 271, 272, 273, 274, 201, 202, 203, 204, 501, 502, 503, 504, 505] (by decide +kernel) (by decide +kernel)
set_option maxRecDepth 20000 in
theorem gL_law_X2_cell : GoodIn wsL_law (wsV RL 72 RX2 yX2_cell wsX2_cell) := goodIn_app (goodIn_of _ (by decide +kernel)) ggL_law_X2_cell
set_option maxRecDepth 20000 in
theorem ggL_law_X1_walker : GoodIn wsL_law wsX1_walker := goodIn_r _ [427, 56, 15, 132, 133, 185, 144, 186, 296, 305, 209, 210, 211, 2, 212, 183, 213, 214, 215, 216, 400, 401, 402, 403, 306, 338, 339, 340, 368, 369, 370, 371, 337, 494, 495, 496, 497, 498, 499, 500, 506, 507, 508, 509, 510, 511, 512, 513, 514, 515, 516, 517, 518, 519, 520] (by decide +kernel) (by decide +kernel)
set_option maxRecDepth 20000 in
theorem gL_law_X1_walker : GoodIn wsL_law (wsV RL 73 RX1 yX1_walker wsX1_walker) := goodIn_app (goodIn_of _ (by decide +kernel)) ggL_law_X1_walker
set_option maxRecDepth 20000 in
theorem ggL_law_X2_walker : GoodIn wsL_law wsX2_walker := goodIn_r _ [431, 94, 221, 222, 223, 5, 224, 49, 98, 99, 100, 158, 159, 160, 161, 501, 502, 503, 504, 505] (by decide +kernel) (by decide +kernel)
set_option maxRecDepth 20000 in
theorem gL_law_X2_walker : GoodIn wsL_law (wsV RL 76 RX2 yX2_walker wsX2_walker) := goodIn_app (goodIn_of _ (by decide +kernel)) ggL_law_X2_walker
set_option maxRecDepth 20000 in
theorem ggL_law_X1_estimate : GoodIn wsL_law wsX1_estimate := goodIn_r _ [435, 56, 115, 209, 210, 211, 2, 212, 15, 183, 213, 214, 215, 216, 133, 144, 314, 315, 316, 317, 186, 185, 20, 21, 311, 312, 84, 313, 128, 129, 130, 131, 116, 132, 134, 80, 81, 82, 83, 85, 86, 87, 88, 89, 135, 136, 137, 138, 139, 140, 58, 59, 60, 141, 142, 143, 247, 248, 249, 250, 126, 494, 495, 496, 497, 498, 499, 500, 506, 507, 508, 509, 510, 511, 512, 513, 514, 515, 516, 517, 518, 519, 520] (by decide +kernel) (by decide +kernel)
set_option maxRecDepth 20000 in
theorem gL_law_X1_estimate : GoodIn wsL_law (wsV RL 77 RX1 yX1_estimate wsX1_estimate) := goodIn_app (goodIn_of _ (by decide +kernel)) ggL_law_X1_estimate
set_option maxRecDepth 20000 in
theorem ggL_law_X2_estimate : GoodIn wsL_law wsX2_estimate := goodIn_r _ [439, 94, 121, 221, 222, 223, 5, 224, 49, 153, 154, 155, 156, 157, 158, 159, 160, 161, 345, 346, 347, 348, 349, 350, 351, 168, 169, 170, 171, 172, 173, 174, 175, 176, 177, 178, 162, 163, 164, 165, 166, 167, 106, 107, 108, 109, 271, 272, 273, 274, 501, 502, 503, 504, 505] (by decide +kernel) (by decide +kernel)
set_option maxRecDepth 20000 in
theorem gL_law_X2_estimate : GoodIn wsL_law (wsV RL 80 RX2 yX2_estimate wsX2_estimate) := goodIn_app (goodIn_of _ (by decide +kernel)) ggL_law_X2_estimate
set_option maxRecDepth 20000 in
theorem ggL_law_X1_certainty : GoodIn wsL_law wsX1_certainty := goodIn_r _ [443, 56, 115, 209, 210, 211, 2, 212, 15, 183, 213, 214, 215, 216, 133, 144, 318, 319, 320, 321, 114, 186, 296, 311, 312, 84, 313, 322, 323, 324, 325, 127, 82, 83, 85, 141, 142, 143, 58, 59, 60, 494, 495, 496, 497, 498, 499, 500, 506, 507, 508, 509, 510, 511, 512, 513, 514, 515, 516, 517, 518, 519, 520] (by decide +kernel) (by decide +kernel)
set_option maxRecDepth 20000 in
theorem gL_law_X1_certainty : GoodIn wsL_law (wsV RL 81 RX1 yX1_certainty wsX1_certainty) := goodIn_app (goodIn_of _ (by decide +kernel)) ggL_law_X1_certainty
set_option maxRecDepth 20000 in
theorem ggL_law_X2_certainty : GoodIn wsL_law wsX2_certainty := goodIn_r _ [447, 94, 121, 221, 222, 223, 5, 224, 49, 153, 154, 155, 156, 157, 158, 159, 160, 161, 352, 353, 354, 355, 356, 357, 358, 359, 349, 350, 351, 168, 169, 170, 106, 107, 108, 109, 501, 502, 503, 504, 505] (by decide +kernel) (by decide +kernel)
set_option maxRecDepth 20000 in
theorem gL_law_X2_certainty : GoodIn wsL_law (wsV RL 84 RX2 yX2_certainty wsX2_certainty) := goodIn_app (goodIn_of _ (by decide +kernel)) ggL_law_X2_certainty
set_option maxRecDepth 20000 in
theorem ggL_law_X1_guess : GoodIn wsL_law wsX1_guess := goodIn_r _ [451, 56, 15, 186, 22, 144, 61, 62, 2, 63, 134, 80, 81, 82, 83, 84, 85, 86, 87, 88, 89, 452, 453, 454, 455, 240, 241, 242, 243, 20, 21, 244, 245, 246, 128, 129, 130, 131, 116, 132, 133, 135, 136, 137, 138, 139, 140, 58, 59, 60, 141, 142, 143, 247, 248, 249, 250, 126, 185, 213, 214, 215, 216, 209, 210, 211, 212, 183, 237, 238, 239, 456, 457, 458, 459, 233, 234, 235, 236, 494, 495, 496, 497, 498, 499, 500, 506, 507, 508, 509, 510, 511, 512, 513, 514, 515, 516, 517, 518, 519, 520] (by decide +kernel) (by decide +kernel)
set_option maxRecDepth 20000 in
theorem gL_law_X1_guess : GoodIn wsL_law (wsV RL 85 RX1 yX1_guess wsX1_guess) := goodIn_app (goodIn_of _ (by decide +kernel)) ggL_law_X1_guess
set_option maxRecDepth 20000 in
theorem ggL_law_X2_guess : GoodIn wsL_law wsX2_guess := goodIn_r _ [463, 94, 157, 464, 98, 99, 5, 100, 465, 466, 467, 468, 49, 263, 264, 265, 266, 171, 172, 173, 174, 175, 176, 177, 178, 153, 154, 155, 156, 158, 159, 160, 161, 162, 163, 164, 165, 166, 167, 168, 169, 170, 106, 107, 108, 109, 267, 268, 269, 270, 271, 272, 273, 274, 259, 260, 261, 262, 225, 226, 227, 228, 501, 502, 503, 504, 505] (by decide +kernel) (by decide +kernel)
set_option maxRecDepth 20000 in
theorem gL_law_X2_guess : GoodIn wsL_law (wsV RL 88 RX2 yX2_guess wsX2_guess) := goodIn_app (goodIn_of _ (by decide +kernel)) ggL_law_X2_guess
set_option maxRecDepth 20000 in
theorem ggL_law_X1_mend : GoodIn wsL_law wsX1_mend := goodIn_r _ [472, 56, 15, 186, 22, 144, 473, 61, 62, 2, 63, 134, 80, 81, 82, 83, 84, 85, 86, 87, 88, 89, 452, 453, 454, 455, 240, 241, 242, 243, 20, 21, 244, 245, 246, 128, 129, 130, 131, 116, 132, 133, 135, 136, 137, 138, 139, 140, 58, 59, 60, 141, 142, 143, 247, 248, 249, 250, 126, 185, 213, 214, 215, 216, 209, 210, 211, 212, 183, 237, 238, 239, 456, 457, 458, 459, 233, 234, 235, 236, 494, 495, 496, 497, 498, 499, 500, 506, 507, 508, 509, 510, 511, 512, 513, 514, 515, 516, 517, 518, 519, 520] (by decide +kernel) (by decide +kernel)
set_option maxRecDepth 20000 in
theorem gL_law_X1_mend : GoodIn wsL_law (wsV RL 89 RX1 yX1_mend wsX1_mend) := goodIn_app (goodIn_of _ (by decide +kernel)) ggL_law_X1_mend
set_option maxRecDepth 20000 in
theorem ggL_law_X2_mend : GoodIn wsL_law wsX2_mend := goodIn_r _ [477, 94, 51, 157, 98, 99, 5, 100, 158, 159, 160, 161, 49, 465, 466, 467, 468, 464, 263, 264, 265, 266, 171, 172, 173, 174, 175, 176, 177, 178, 153, 154, 155, 156, 162, 163, 164, 165, 166, 167, 168, 169, 170, 106, 107, 108, 109, 267, 268, 269, 270, 271, 272, 273, 274, 259, 260, 261, 262, 225, 226, 227, 228, 501, 502, 503, 504, 505] (by decide +kernel) (by decide +kernel)
set_option maxRecDepth 20000 in
theorem gL_law_X2_mend : GoodIn wsL_law (wsV RL 92 RX2 yX2_mend wsX2_mend) := goodIn_app (goodIn_of _ (by decide +kernel)) ggL_law_X2_mend
set_option maxRecDepth 20000 in
theorem ggL_law_X1_bestCell : GoodIn wsL_law wsX1_bestCell := goodIn_r _ [481, 144, 15, 133, 190, 191, 2, 192, 322, 323, 324, 325, 114, 127, 82, 83, 84, 85, 141, 142, 143, 58, 59, 60, 494, 495, 496, 497, 498, 499, 500, 506, 507, 508, 509, 510, 511, 512, 513, 514, 515, 516, 517, 518, 519, 520] (by decide +kernel) (by decide +kernel)
set_option maxRecDepth 20000 in
theorem gL_law_X1_bestCell : GoodIn wsL_law (wsV RL 93 RX1 yX1_bestCell wsX1_bestCell) := goodIn_app (goodIn_of _ (by decide +kernel)) ggL_law_X1_bestCell
set_option maxRecDepth 20000 in
theorem ggL_law_X2_bestCell : GoodIn wsL_law wsX2_bestCell := goodIn_r _ [485, 157, 201, 202, 203, 5, 204, 49, 153, 154, 155, 156, 158, 159, 160, 161, 356, 357, 358, 359, 349, 350, 351, 168, 169, 170, 106, 107, 108, 109, 501, 502, 503, 504, 505] (by decide +kernel) (by decide +kernel)
set_option maxRecDepth 20000 in
theorem gL_law_X2_bestCell : GoodIn wsL_law (wsV RL 96 RX2 yX2_bestCell wsX2_bestCell) := goodIn_app (goodIn_of _ (by decide +kernel)) ggL_law_X2_bestCell
set_option maxRecDepth 20000 in
theorem ggL_law_X1_until : GoodIn wsL_law wsX1_until := goodIn_r _ [489, 56, 115, 209, 210, 211, 2, 212, 15, 183, 61, 62, 63, 213, 214, 215, 216, 133, 144, 318, 319, 320, 321, 114, 186, 296, 311, 312, 84, 313, 322, 323, 324, 325, 127, 82, 83, 85, 141, 142, 143, 58, 59, 60, 494, 495, 496, 497, 498, 499, 500, 506, 507, 508, 509, 510, 511, 512, 513, 514, 515, 516, 517, 518, 519, 520] (by decide +kernel) (by decide +kernel)
set_option maxRecDepth 20000 in
theorem gL_law_X1_until : GoodIn wsL_law (wsV RL 97 RX1 yX1_until wsX1_until) := goodIn_app (goodIn_of _ (by decide +kernel)) ggL_law_X1_until
set_option maxRecDepth 20000 in
theorem ggL_law_X2_until : GoodIn wsL_law wsX2_until := goodIn_r _ [493, 94, 121, 221, 222, 223, 5, 224, 49, 98, 99, 100, 153, 154, 155, 156, 157, 158, 159, 160, 161, 352, 353, 354, 355, 356, 357, 358, 359, 349, 350, 351, 168, 169, 170, 106, 107, 108, 109, 501, 502, 503, 504, 505] (by decide +kernel) (by decide +kernel)
set_option maxRecDepth 20000 in
theorem gL_law_X2_until : GoodIn wsL_law (wsV RL 100 RX2 yX2_until wsX2_until) := goodIn_app (goodIn_of _ (by decide +kernel)) ggL_law_X2_until
theorem dL_law_0 : decode cL_law 0 = .ok (.new 7, 3) := by decide +kernel
theorem dL_law_3 : decode cL_law 3 = .ok (.dup, 1) := by decide +kernel
theorem dL_law_4 : decode cL_law 4 = .ok (.invokespecial 9, 3) := by decide +kernel
theorem dL_law_7 : decode cL_law 7 = .ok (.astore_n 1, 1) := by decide +kernel
theorem dL_law_8 : decode cL_law 8 = .ok (.new 10, 3) := by decide +kernel
theorem dL_law_11 : decode cL_law 11 = .ok (.dup, 1) := by decide +kernel
theorem dL_law_12 : decode cL_law 12 = .ok (.invokespecial 12, 3) := by decide +kernel
theorem dL_law_15 : decode cL_law 15 = .ok (.astore_n 2, 1) := by decide +kernel
theorem dL_law_16 : decode cL_law 16 = .ok (.iconst 0, 1) := by decide +kernel
theorem dL_law_17 : decode cL_law 17 = .ok (.istore_n 3, 1) := by decide +kernel
theorem dL_law_18 : decode cL_law 18 = .ok (.iload_n 3, 1) := by decide +kernel
theorem dL_law_19 : decode cL_law 19 = .ok (.aload_n 0, 1) := by decide +kernel
theorem dL_law_20 : decode cL_law 20 = .ok (.arraylength, 1) := by decide +kernel
theorem dL_law_21 : decode cL_law 21 = .ok (.iconst 4, 1) := by decide +kernel
theorem dL_law_22 : decode cL_law 22 = .ok (.isub, 1) := by decide +kernel
theorem dL_law_23 : decode cL_law 23 = .ok (.if_icmp .gt 668, 3) := by decide +kernel
theorem dL_law_26 : decode cL_law 26 = .ok (.aload_n 0, 1) := by decide +kernel
theorem dL_law_27 : decode cL_law 27 = .ok (.iload_n 3, 1) := by decide +kernel
theorem dL_law_28 : decode cL_law 28 = .ok (.iaload, 1) := by decide +kernel
theorem dL_law_29 : decode cL_law 29 = .ok (.bipush 31, 2) := by decide +kernel
theorem dL_law_31 : decode cL_law 31 = .ok (.iand, 1) := by decide +kernel
theorem dL_law_32 : decode cL_law 32 = .ok (.tableswitch 653 0 20 #[100, 133, 156, 179, 222, 255, 288, 311, 334, 367, 390, 413, 426, 449, 482, 515, 538, 561, 584, 607, 620], 100) := by decide +kernel
theorem dL_law_132 : decode cL_law 132 = .ok (.aload_n 1, 1) := by decide +kernel
theorem dL_law_133 : decode cL_law 133 = .ok (.aload_n 0, 1) := by decide +kernel
theorem dL_law_134 : decode cL_law 134 = .ok (.iload_n 3, 1) := by decide +kernel
theorem dL_law_135 : decode cL_law 135 = .ok (.iconst 1, 1) := by decide +kernel
theorem dL_law_136 : decode cL_law 136 = .ok (.iadd, 1) := by decide +kernel
theorem dL_law_137 : decode cL_law 137 = .ok (.iaload, 1) := by decide +kernel
theorem dL_law_138 : decode cL_law 138 = .ok (.aload_n 0, 1) := by decide +kernel
theorem dL_law_139 : decode cL_law 139 = .ok (.iload_n 3, 1) := by decide +kernel
theorem dL_law_140 : decode cL_law 140 = .ok (.iconst 2, 1) := by decide +kernel
theorem dL_law_141 : decode cL_law 141 = .ok (.iadd, 1) := by decide +kernel
theorem dL_law_142 : decode cL_law 142 = .ok (.iaload, 1) := by decide +kernel
theorem dL_law_143 : decode cL_law 143 = .ok (.invokevirtual 13, 3) := by decide +kernel
theorem dL_law_146 : decode cL_law 146 = .ok (.aload_n 2, 1) := by decide +kernel
theorem dL_law_147 : decode cL_law 147 = .ok (.aload_n 0, 1) := by decide +kernel
theorem dL_law_148 : decode cL_law 148 = .ok (.iload_n 3, 1) := by decide +kernel
theorem dL_law_149 : decode cL_law 149 = .ok (.iconst 1, 1) := by decide +kernel
theorem dL_law_150 : decode cL_law 150 = .ok (.iadd, 1) := by decide +kernel
theorem dL_law_151 : decode cL_law 151 = .ok (.iaload, 1) := by decide +kernel
theorem dL_law_152 : decode cL_law 152 = .ok (.aload_n 0, 1) := by decide +kernel
theorem dL_law_153 : decode cL_law 153 = .ok (.iload_n 3, 1) := by decide +kernel
theorem dL_law_154 : decode cL_law 154 = .ok (.iconst 2, 1) := by decide +kernel
theorem dL_law_155 : decode cL_law 155 = .ok (.iadd, 1) := by decide +kernel
theorem dL_law_156 : decode cL_law 156 = .ok (.iaload, 1) := by decide +kernel
theorem dL_law_157 : decode cL_law 157 = .ok (.invokevirtual 17, 3) := by decide +kernel
theorem dL_law_160 : decode cL_law 160 = .ok (.if_icmp .eq 525, 3) := by decide +kernel
theorem dL_law_163 : decode cL_law 163 = .ok (.iconst 0, 1) := by decide +kernel
theorem dL_law_164 : decode cL_law 164 = .ok (.ireturn, 1) := by decide +kernel
theorem dL_law_165 : decode cL_law 165 = .ok (.aload_n 1, 1) := by decide +kernel
theorem dL_law_166 : decode cL_law 166 = .ok (.aload_n 0, 1) := by decide +kernel
theorem dL_law_167 : decode cL_law 167 = .ok (.iload_n 3, 1) := by decide +kernel
theorem dL_law_168 : decode cL_law 168 = .ok (.iconst 1, 1) := by decide +kernel
theorem dL_law_169 : decode cL_law 169 = .ok (.iadd, 1) := by decide +kernel
theorem dL_law_170 : decode cL_law 170 = .ok (.iaload, 1) := by decide +kernel
theorem dL_law_171 : decode cL_law 171 = .ok (.invokevirtual 18, 3) := by decide +kernel
theorem dL_law_174 : decode cL_law 174 = .ok (.aload_n 2, 1) := by decide +kernel
theorem dL_law_175 : decode cL_law 175 = .ok (.aload_n 0, 1) := by decide +kernel
theorem dL_law_176 : decode cL_law 176 = .ok (.iload_n 3, 1) := by decide +kernel
theorem dL_law_177 : decode cL_law 177 = .ok (.iconst 1, 1) := by decide +kernel
theorem dL_law_178 : decode cL_law 178 = .ok (.iadd, 1) := by decide +kernel
theorem dL_law_179 : decode cL_law 179 = .ok (.iaload, 1) := by decide +kernel
theorem dL_law_180 : decode cL_law 180 = .ok (.invokevirtual 22, 3) := by decide +kernel
theorem dL_law_183 : decode cL_law 183 = .ok (.if_icmp .eq 502, 3) := by decide +kernel
theorem dL_law_186 : decode cL_law 186 = .ok (.iconst 0, 1) := by decide +kernel
theorem dL_law_187 : decode cL_law 187 = .ok (.ireturn, 1) := by decide +kernel
theorem dL_law_188 : decode cL_law 188 = .ok (.aload_n 1, 1) := by decide +kernel
theorem dL_law_189 : decode cL_law 189 = .ok (.aload_n 0, 1) := by decide +kernel
theorem dL_law_190 : decode cL_law 190 = .ok (.iload_n 3, 1) := by decide +kernel
theorem dL_law_191 : decode cL_law 191 = .ok (.iconst 1, 1) := by decide +kernel
theorem dL_law_192 : decode cL_law 192 = .ok (.iadd, 1) := by decide +kernel
theorem dL_law_193 : decode cL_law 193 = .ok (.iaload, 1) := by decide +kernel
theorem dL_law_194 : decode cL_law 194 = .ok (.invokevirtual 23, 3) := by decide +kernel
theorem dL_law_197 : decode cL_law 197 = .ok (.aload_n 2, 1) := by decide +kernel
theorem dL_law_198 : decode cL_law 198 = .ok (.aload_n 0, 1) := by decide +kernel
theorem dL_law_199 : decode cL_law 199 = .ok (.iload_n 3, 1) := by decide +kernel
theorem dL_law_200 : decode cL_law 200 = .ok (.iconst 1, 1) := by decide +kernel
theorem dL_law_201 : decode cL_law 201 = .ok (.iadd, 1) := by decide +kernel
theorem dL_law_202 : decode cL_law 202 = .ok (.iaload, 1) := by decide +kernel
theorem dL_law_203 : decode cL_law 203 = .ok (.invokevirtual 26, 3) := by decide +kernel
theorem dL_law_206 : decode cL_law 206 = .ok (.if_icmp .eq 479, 3) := by decide +kernel
theorem dL_law_209 : decode cL_law 209 = .ok (.iconst 0, 1) := by decide +kernel
theorem dL_law_210 : decode cL_law 210 = .ok (.ireturn, 1) := by decide +kernel
theorem dL_law_211 : decode cL_law 211 = .ok (.aload_n 1, 1) := by decide +kernel
theorem dL_law_212 : decode cL_law 212 = .ok (.aload_n 0, 1) := by decide +kernel
theorem dL_law_213 : decode cL_law 213 = .ok (.iload_n 3, 1) := by decide +kernel
theorem dL_law_214 : decode cL_law 214 = .ok (.iconst 1, 1) := by decide +kernel
theorem dL_law_215 : decode cL_law 215 = .ok (.iadd, 1) := by decide +kernel
theorem dL_law_216 : decode cL_law 216 = .ok (.iaload, 1) := by decide +kernel
theorem dL_law_217 : decode cL_law 217 = .ok (.aload_n 0, 1) := by decide +kernel
theorem dL_law_218 : decode cL_law 218 = .ok (.iload_n 3, 1) := by decide +kernel
theorem dL_law_219 : decode cL_law 219 = .ok (.iconst 2, 1) := by decide +kernel
theorem dL_law_220 : decode cL_law 220 = .ok (.iadd, 1) := by decide +kernel
theorem dL_law_221 : decode cL_law 221 = .ok (.iaload, 1) := by decide +kernel
theorem dL_law_222 : decode cL_law 222 = .ok (.aload_n 0, 1) := by decide +kernel
theorem dL_law_223 : decode cL_law 223 = .ok (.iload_n 3, 1) := by decide +kernel
theorem dL_law_224 : decode cL_law 224 = .ok (.iconst 3, 1) := by decide +kernel
theorem dL_law_225 : decode cL_law 225 = .ok (.iadd, 1) := by decide +kernel
theorem dL_law_226 : decode cL_law 226 = .ok (.iaload, 1) := by decide +kernel
theorem dL_law_227 : decode cL_law 227 = .ok (.invokevirtual 27, 3) := by decide +kernel
theorem dL_law_230 : decode cL_law 230 = .ok (.aload_n 2, 1) := by decide +kernel
theorem dL_law_231 : decode cL_law 231 = .ok (.aload_n 0, 1) := by decide +kernel
theorem dL_law_232 : decode cL_law 232 = .ok (.iload_n 3, 1) := by decide +kernel
theorem dL_law_233 : decode cL_law 233 = .ok (.iconst 1, 1) := by decide +kernel
theorem dL_law_234 : decode cL_law 234 = .ok (.iadd, 1) := by decide +kernel
theorem dL_law_235 : decode cL_law 235 = .ok (.iaload, 1) := by decide +kernel
theorem dL_law_236 : decode cL_law 236 = .ok (.aload_n 0, 1) := by decide +kernel
theorem dL_law_237 : decode cL_law 237 = .ok (.iload_n 3, 1) := by decide +kernel
theorem dL_law_238 : decode cL_law 238 = .ok (.iconst 2, 1) := by decide +kernel
theorem dL_law_239 : decode cL_law 239 = .ok (.iadd, 1) := by decide +kernel
theorem dL_law_240 : decode cL_law 240 = .ok (.iaload, 1) := by decide +kernel
theorem dL_law_241 : decode cL_law 241 = .ok (.aload_n 0, 1) := by decide +kernel
theorem dL_law_242 : decode cL_law 242 = .ok (.iload_n 3, 1) := by decide +kernel
theorem dL_law_243 : decode cL_law 243 = .ok (.iconst 3, 1) := by decide +kernel
theorem dL_law_244 : decode cL_law 244 = .ok (.iadd, 1) := by decide +kernel
theorem dL_law_245 : decode cL_law 245 = .ok (.iaload, 1) := by decide +kernel
theorem dL_law_246 : decode cL_law 246 = .ok (.invokevirtual 31, 3) := by decide +kernel
theorem dL_law_249 : decode cL_law 249 = .ok (.if_icmp .eq 436, 3) := by decide +kernel
theorem dL_law_252 : decode cL_law 252 = .ok (.iconst 0, 1) := by decide +kernel
theorem dL_law_253 : decode cL_law 253 = .ok (.ireturn, 1) := by decide +kernel
theorem dL_law_254 : decode cL_law 254 = .ok (.aload_n 1, 1) := by decide +kernel
theorem dL_law_255 : decode cL_law 255 = .ok (.aload_n 0, 1) := by decide +kernel
theorem dL_law_256 : decode cL_law 256 = .ok (.iload_n 3, 1) := by decide +kernel
theorem dL_law_257 : decode cL_law 257 = .ok (.iconst 1, 1) := by decide +kernel
theorem dL_law_258 : decode cL_law 258 = .ok (.iadd, 1) := by decide +kernel
theorem dL_law_259 : decode cL_law 259 = .ok (.iaload, 1) := by decide +kernel
theorem dL_law_260 : decode cL_law 260 = .ok (.aload_n 0, 1) := by decide +kernel
theorem dL_law_261 : decode cL_law 261 = .ok (.iload_n 3, 1) := by decide +kernel
theorem dL_law_262 : decode cL_law 262 = .ok (.iconst 2, 1) := by decide +kernel
theorem dL_law_263 : decode cL_law 263 = .ok (.iadd, 1) := by decide +kernel
theorem dL_law_264 : decode cL_law 264 = .ok (.iaload, 1) := by decide +kernel
theorem dL_law_265 : decode cL_law 265 = .ok (.invokevirtual 32, 3) := by decide +kernel
theorem dL_law_268 : decode cL_law 268 = .ok (.aload_n 2, 1) := by decide +kernel
theorem dL_law_269 : decode cL_law 269 = .ok (.aload_n 0, 1) := by decide +kernel
theorem dL_law_270 : decode cL_law 270 = .ok (.iload_n 3, 1) := by decide +kernel
theorem dL_law_271 : decode cL_law 271 = .ok (.iconst 1, 1) := by decide +kernel
theorem dL_law_272 : decode cL_law 272 = .ok (.iadd, 1) := by decide +kernel
theorem dL_law_273 : decode cL_law 273 = .ok (.iaload, 1) := by decide +kernel
theorem dL_law_274 : decode cL_law 274 = .ok (.aload_n 0, 1) := by decide +kernel
theorem dL_law_275 : decode cL_law 275 = .ok (.iload_n 3, 1) := by decide +kernel
theorem dL_law_276 : decode cL_law 276 = .ok (.iconst 2, 1) := by decide +kernel
theorem dL_law_277 : decode cL_law 277 = .ok (.iadd, 1) := by decide +kernel
theorem dL_law_278 : decode cL_law 278 = .ok (.iaload, 1) := by decide +kernel
theorem dL_law_279 : decode cL_law 279 = .ok (.invokevirtual 35, 3) := by decide +kernel
theorem dL_law_282 : decode cL_law 282 = .ok (.if_icmp .eq 403, 3) := by decide +kernel
theorem dL_law_285 : decode cL_law 285 = .ok (.iconst 0, 1) := by decide +kernel
theorem dL_law_286 : decode cL_law 286 = .ok (.ireturn, 1) := by decide +kernel
theorem dL_law_287 : decode cL_law 287 = .ok (.aload_n 1, 1) := by decide +kernel
theorem dL_law_288 : decode cL_law 288 = .ok (.aload_n 0, 1) := by decide +kernel
theorem dL_law_289 : decode cL_law 289 = .ok (.iload_n 3, 1) := by decide +kernel
theorem dL_law_290 : decode cL_law 290 = .ok (.iconst 1, 1) := by decide +kernel
theorem dL_law_291 : decode cL_law 291 = .ok (.iadd, 1) := by decide +kernel
theorem dL_law_292 : decode cL_law 292 = .ok (.iaload, 1) := by decide +kernel
theorem dL_law_293 : decode cL_law 293 = .ok (.aload_n 0, 1) := by decide +kernel
theorem dL_law_294 : decode cL_law 294 = .ok (.iload_n 3, 1) := by decide +kernel
theorem dL_law_295 : decode cL_law 295 = .ok (.iconst 2, 1) := by decide +kernel
theorem dL_law_296 : decode cL_law 296 = .ok (.iadd, 1) := by decide +kernel
theorem dL_law_297 : decode cL_law 297 = .ok (.iaload, 1) := by decide +kernel
theorem dL_law_298 : decode cL_law 298 = .ok (.invokevirtual 36, 3) := by decide +kernel
theorem dL_law_301 : decode cL_law 301 = .ok (.aload_n 2, 1) := by decide +kernel
theorem dL_law_302 : decode cL_law 302 = .ok (.aload_n 0, 1) := by decide +kernel
theorem dL_law_303 : decode cL_law 303 = .ok (.iload_n 3, 1) := by decide +kernel
theorem dL_law_304 : decode cL_law 304 = .ok (.iconst 1, 1) := by decide +kernel
theorem dL_law_305 : decode cL_law 305 = .ok (.iadd, 1) := by decide +kernel
theorem dL_law_306 : decode cL_law 306 = .ok (.iaload, 1) := by decide +kernel
theorem dL_law_307 : decode cL_law 307 = .ok (.aload_n 0, 1) := by decide +kernel
theorem dL_law_308 : decode cL_law 308 = .ok (.iload_n 3, 1) := by decide +kernel
theorem dL_law_309 : decode cL_law 309 = .ok (.iconst 2, 1) := by decide +kernel
theorem dL_law_310 : decode cL_law 310 = .ok (.iadd, 1) := by decide +kernel
theorem dL_law_311 : decode cL_law 311 = .ok (.iaload, 1) := by decide +kernel
theorem dL_law_312 : decode cL_law 312 = .ok (.invokevirtual 39, 3) := by decide +kernel
theorem dL_law_315 : decode cL_law 315 = .ok (.if_icmp .eq 370, 3) := by decide +kernel
theorem dL_law_318 : decode cL_law 318 = .ok (.iconst 0, 1) := by decide +kernel
theorem dL_law_319 : decode cL_law 319 = .ok (.ireturn, 1) := by decide +kernel
theorem dL_law_320 : decode cL_law 320 = .ok (.aload_n 1, 1) := by decide +kernel
theorem dL_law_321 : decode cL_law 321 = .ok (.aload_n 0, 1) := by decide +kernel
theorem dL_law_322 : decode cL_law 322 = .ok (.iload_n 3, 1) := by decide +kernel
theorem dL_law_323 : decode cL_law 323 = .ok (.iconst 1, 1) := by decide +kernel
theorem dL_law_324 : decode cL_law 324 = .ok (.iadd, 1) := by decide +kernel
theorem dL_law_325 : decode cL_law 325 = .ok (.iaload, 1) := by decide +kernel
theorem dL_law_326 : decode cL_law 326 = .ok (.invokevirtual 40, 3) := by decide +kernel
theorem dL_law_329 : decode cL_law 329 = .ok (.aload_n 2, 1) := by decide +kernel
theorem dL_law_330 : decode cL_law 330 = .ok (.aload_n 0, 1) := by decide +kernel
theorem dL_law_331 : decode cL_law 331 = .ok (.iload_n 3, 1) := by decide +kernel
theorem dL_law_332 : decode cL_law 332 = .ok (.iconst 1, 1) := by decide +kernel
theorem dL_law_333 : decode cL_law 333 = .ok (.iadd, 1) := by decide +kernel
theorem dL_law_334 : decode cL_law 334 = .ok (.iaload, 1) := by decide +kernel
theorem dL_law_335 : decode cL_law 335 = .ok (.invokevirtual 43, 3) := by decide +kernel
theorem dL_law_338 : decode cL_law 338 = .ok (.if_icmp .eq 347, 3) := by decide +kernel
theorem dL_law_341 : decode cL_law 341 = .ok (.iconst 0, 1) := by decide +kernel
theorem dL_law_342 : decode cL_law 342 = .ok (.ireturn, 1) := by decide +kernel
theorem dL_law_343 : decode cL_law 343 = .ok (.aload_n 1, 1) := by decide +kernel
theorem dL_law_344 : decode cL_law 344 = .ok (.aload_n 0, 1) := by decide +kernel
theorem dL_law_345 : decode cL_law 345 = .ok (.iload_n 3, 1) := by decide +kernel
theorem dL_law_346 : decode cL_law 346 = .ok (.iconst 1, 1) := by decide +kernel
theorem dL_law_347 : decode cL_law 347 = .ok (.iadd, 1) := by decide +kernel
theorem dL_law_348 : decode cL_law 348 = .ok (.iaload, 1) := by decide +kernel
theorem dL_law_349 : decode cL_law 349 = .ok (.invokevirtual 44, 3) := by decide +kernel
theorem dL_law_352 : decode cL_law 352 = .ok (.aload_n 2, 1) := by decide +kernel
theorem dL_law_353 : decode cL_law 353 = .ok (.aload_n 0, 1) := by decide +kernel
theorem dL_law_354 : decode cL_law 354 = .ok (.iload_n 3, 1) := by decide +kernel
theorem dL_law_355 : decode cL_law 355 = .ok (.iconst 1, 1) := by decide +kernel
theorem dL_law_356 : decode cL_law 356 = .ok (.iadd, 1) := by decide +kernel
theorem dL_law_357 : decode cL_law 357 = .ok (.iaload, 1) := by decide +kernel
theorem dL_law_358 : decode cL_law 358 = .ok (.invokevirtual 47, 3) := by decide +kernel
theorem dL_law_361 : decode cL_law 361 = .ok (.if_icmp .eq 324, 3) := by decide +kernel
theorem dL_law_364 : decode cL_law 364 = .ok (.iconst 0, 1) := by decide +kernel
theorem dL_law_365 : decode cL_law 365 = .ok (.ireturn, 1) := by decide +kernel
theorem dL_law_366 : decode cL_law 366 = .ok (.aload_n 1, 1) := by decide +kernel
theorem dL_law_367 : decode cL_law 367 = .ok (.aload_n 0, 1) := by decide +kernel
theorem dL_law_368 : decode cL_law 368 = .ok (.iload_n 3, 1) := by decide +kernel
theorem dL_law_369 : decode cL_law 369 = .ok (.iconst 1, 1) := by decide +kernel
theorem dL_law_370 : decode cL_law 370 = .ok (.iadd, 1) := by decide +kernel
theorem dL_law_371 : decode cL_law 371 = .ok (.iaload, 1) := by decide +kernel
theorem dL_law_372 : decode cL_law 372 = .ok (.aload_n 0, 1) := by decide +kernel
theorem dL_law_373 : decode cL_law 373 = .ok (.iload_n 3, 1) := by decide +kernel
theorem dL_law_374 : decode cL_law 374 = .ok (.iconst 2, 1) := by decide +kernel
theorem dL_law_375 : decode cL_law 375 = .ok (.iadd, 1) := by decide +kernel
theorem dL_law_376 : decode cL_law 376 = .ok (.iaload, 1) := by decide +kernel
theorem dL_law_377 : decode cL_law 377 = .ok (.invokevirtual 48, 3) := by decide +kernel
theorem dL_law_380 : decode cL_law 380 = .ok (.aload_n 2, 1) := by decide +kernel
theorem dL_law_381 : decode cL_law 381 = .ok (.aload_n 0, 1) := by decide +kernel
theorem dL_law_382 : decode cL_law 382 = .ok (.iload_n 3, 1) := by decide +kernel
theorem dL_law_383 : decode cL_law 383 = .ok (.iconst 1, 1) := by decide +kernel
theorem dL_law_384 : decode cL_law 384 = .ok (.iadd, 1) := by decide +kernel
theorem dL_law_385 : decode cL_law 385 = .ok (.iaload, 1) := by decide +kernel
theorem dL_law_386 : decode cL_law 386 = .ok (.aload_n 0, 1) := by decide +kernel
theorem dL_law_387 : decode cL_law 387 = .ok (.iload_n 3, 1) := by decide +kernel
theorem dL_law_388 : decode cL_law 388 = .ok (.iconst 2, 1) := by decide +kernel
theorem dL_law_389 : decode cL_law 389 = .ok (.iadd, 1) := by decide +kernel
theorem dL_law_390 : decode cL_law 390 = .ok (.iaload, 1) := by decide +kernel
theorem dL_law_391 : decode cL_law 391 = .ok (.invokevirtual 51, 3) := by decide +kernel
theorem dL_law_394 : decode cL_law 394 = .ok (.if_icmp .eq 291, 3) := by decide +kernel
theorem dL_law_397 : decode cL_law 397 = .ok (.iconst 0, 1) := by decide +kernel
theorem dL_law_398 : decode cL_law 398 = .ok (.ireturn, 1) := by decide +kernel
theorem dL_law_399 : decode cL_law 399 = .ok (.aload_n 1, 1) := by decide +kernel
theorem dL_law_400 : decode cL_law 400 = .ok (.aload_n 0, 1) := by decide +kernel
theorem dL_law_401 : decode cL_law 401 = .ok (.iload_n 3, 1) := by decide +kernel
theorem dL_law_402 : decode cL_law 402 = .ok (.iconst 1, 1) := by decide +kernel
theorem dL_law_403 : decode cL_law 403 = .ok (.iadd, 1) := by decide +kernel
theorem dL_law_404 : decode cL_law 404 = .ok (.iaload, 1) := by decide +kernel
theorem dL_law_405 : decode cL_law 405 = .ok (.invokevirtual 52, 3) := by decide +kernel
theorem dL_law_408 : decode cL_law 408 = .ok (.aload_n 2, 1) := by decide +kernel
theorem dL_law_409 : decode cL_law 409 = .ok (.aload_n 0, 1) := by decide +kernel
theorem dL_law_410 : decode cL_law 410 = .ok (.iload_n 3, 1) := by decide +kernel
theorem dL_law_411 : decode cL_law 411 = .ok (.iconst 1, 1) := by decide +kernel
theorem dL_law_412 : decode cL_law 412 = .ok (.iadd, 1) := by decide +kernel
theorem dL_law_413 : decode cL_law 413 = .ok (.iaload, 1) := by decide +kernel
theorem dL_law_414 : decode cL_law 414 = .ok (.invokevirtual 55, 3) := by decide +kernel
theorem dL_law_417 : decode cL_law 417 = .ok (.if_icmp .eq 268, 3) := by decide +kernel
theorem dL_law_420 : decode cL_law 420 = .ok (.iconst 0, 1) := by decide +kernel
theorem dL_law_421 : decode cL_law 421 = .ok (.ireturn, 1) := by decide +kernel
theorem dL_law_422 : decode cL_law 422 = .ok (.aload_n 1, 1) := by decide +kernel
theorem dL_law_423 : decode cL_law 423 = .ok (.aload_n 0, 1) := by decide +kernel
theorem dL_law_424 : decode cL_law 424 = .ok (.iload_n 3, 1) := by decide +kernel
theorem dL_law_425 : decode cL_law 425 = .ok (.iconst 1, 1) := by decide +kernel
theorem dL_law_426 : decode cL_law 426 = .ok (.iadd, 1) := by decide +kernel
theorem dL_law_427 : decode cL_law 427 = .ok (.iaload, 1) := by decide +kernel
theorem dL_law_428 : decode cL_law 428 = .ok (.invokevirtual 56, 3) := by decide +kernel
theorem dL_law_431 : decode cL_law 431 = .ok (.aload_n 2, 1) := by decide +kernel
theorem dL_law_432 : decode cL_law 432 = .ok (.aload_n 0, 1) := by decide +kernel
theorem dL_law_433 : decode cL_law 433 = .ok (.iload_n 3, 1) := by decide +kernel
theorem dL_law_434 : decode cL_law 434 = .ok (.iconst 1, 1) := by decide +kernel
theorem dL_law_435 : decode cL_law 435 = .ok (.iadd, 1) := by decide +kernel
theorem dL_law_436 : decode cL_law 436 = .ok (.iaload, 1) := by decide +kernel
theorem dL_law_437 : decode cL_law 437 = .ok (.invokevirtual 59, 3) := by decide +kernel
theorem dL_law_440 : decode cL_law 440 = .ok (.if_icmp .eq 245, 3) := by decide +kernel
theorem dL_law_443 : decode cL_law 443 = .ok (.iconst 0, 1) := by decide +kernel
theorem dL_law_444 : decode cL_law 444 = .ok (.ireturn, 1) := by decide +kernel
theorem dL_law_445 : decode cL_law 445 = .ok (.aload_n 1, 1) := by decide +kernel
theorem dL_law_446 : decode cL_law 446 = .ok (.invokevirtual 60, 3) := by decide +kernel
theorem dL_law_449 : decode cL_law 449 = .ok (.aload_n 2, 1) := by decide +kernel
theorem dL_law_450 : decode cL_law 450 = .ok (.invokevirtual 64, 3) := by decide +kernel
theorem dL_law_453 : decode cL_law 453 = .ok (.if_icmp .eq 232, 3) := by decide +kernel
theorem dL_law_456 : decode cL_law 456 = .ok (.iconst 0, 1) := by decide +kernel
theorem dL_law_457 : decode cL_law 457 = .ok (.ireturn, 1) := by decide +kernel
theorem dL_law_458 : decode cL_law 458 = .ok (.aload_n 1, 1) := by decide +kernel
theorem dL_law_459 : decode cL_law 459 = .ok (.aload_n 0, 1) := by decide +kernel
theorem dL_law_460 : decode cL_law 460 = .ok (.iload_n 3, 1) := by decide +kernel
theorem dL_law_461 : decode cL_law 461 = .ok (.iconst 1, 1) := by decide +kernel
theorem dL_law_462 : decode cL_law 462 = .ok (.iadd, 1) := by decide +kernel
theorem dL_law_463 : decode cL_law 463 = .ok (.iaload, 1) := by decide +kernel
theorem dL_law_464 : decode cL_law 464 = .ok (.invokevirtual 65, 3) := by decide +kernel
theorem dL_law_467 : decode cL_law 467 = .ok (.aload_n 2, 1) := by decide +kernel
theorem dL_law_468 : decode cL_law 468 = .ok (.aload_n 0, 1) := by decide +kernel
theorem dL_law_469 : decode cL_law 469 = .ok (.iload_n 3, 1) := by decide +kernel
theorem dL_law_470 : decode cL_law 470 = .ok (.iconst 1, 1) := by decide +kernel
theorem dL_law_471 : decode cL_law 471 = .ok (.iadd, 1) := by decide +kernel
theorem dL_law_472 : decode cL_law 472 = .ok (.iaload, 1) := by decide +kernel
theorem dL_law_473 : decode cL_law 473 = .ok (.invokevirtual 68, 3) := by decide +kernel
theorem dL_law_476 : decode cL_law 476 = .ok (.if_icmp .eq 209, 3) := by decide +kernel
theorem dL_law_479 : decode cL_law 479 = .ok (.iconst 0, 1) := by decide +kernel
theorem dL_law_480 : decode cL_law 480 = .ok (.ireturn, 1) := by decide +kernel
theorem dL_law_481 : decode cL_law 481 = .ok (.aload_n 1, 1) := by decide +kernel
theorem dL_law_482 : decode cL_law 482 = .ok (.aload_n 0, 1) := by decide +kernel
theorem dL_law_483 : decode cL_law 483 = .ok (.iload_n 3, 1) := by decide +kernel
theorem dL_law_484 : decode cL_law 484 = .ok (.iconst 1, 1) := by decide +kernel
theorem dL_law_485 : decode cL_law 485 = .ok (.iadd, 1) := by decide +kernel
theorem dL_law_486 : decode cL_law 486 = .ok (.iaload, 1) := by decide +kernel
theorem dL_law_487 : decode cL_law 487 = .ok (.aload_n 0, 1) := by decide +kernel
theorem dL_law_488 : decode cL_law 488 = .ok (.iload_n 3, 1) := by decide +kernel
theorem dL_law_489 : decode cL_law 489 = .ok (.iconst 2, 1) := by decide +kernel
theorem dL_law_490 : decode cL_law 490 = .ok (.iadd, 1) := by decide +kernel
theorem dL_law_491 : decode cL_law 491 = .ok (.iaload, 1) := by decide +kernel
theorem dL_law_492 : decode cL_law 492 = .ok (.invokevirtual 69, 3) := by decide +kernel
theorem dL_law_495 : decode cL_law 495 = .ok (.aload_n 2, 1) := by decide +kernel
theorem dL_law_496 : decode cL_law 496 = .ok (.aload_n 0, 1) := by decide +kernel
theorem dL_law_497 : decode cL_law 497 = .ok (.iload_n 3, 1) := by decide +kernel
theorem dL_law_498 : decode cL_law 498 = .ok (.iconst 1, 1) := by decide +kernel
theorem dL_law_499 : decode cL_law 499 = .ok (.iadd, 1) := by decide +kernel
theorem dL_law_500 : decode cL_law 500 = .ok (.iaload, 1) := by decide +kernel
theorem dL_law_501 : decode cL_law 501 = .ok (.aload_n 0, 1) := by decide +kernel
theorem dL_law_502 : decode cL_law 502 = .ok (.iload_n 3, 1) := by decide +kernel
theorem dL_law_503 : decode cL_law 503 = .ok (.iconst 2, 1) := by decide +kernel
theorem dL_law_504 : decode cL_law 504 = .ok (.iadd, 1) := by decide +kernel
theorem dL_law_505 : decode cL_law 505 = .ok (.iaload, 1) := by decide +kernel
theorem dL_law_506 : decode cL_law 506 = .ok (.invokevirtual 72, 3) := by decide +kernel
theorem dL_law_509 : decode cL_law 509 = .ok (.if_icmp .eq 176, 3) := by decide +kernel
theorem dL_law_512 : decode cL_law 512 = .ok (.iconst 0, 1) := by decide +kernel
theorem dL_law_513 : decode cL_law 513 = .ok (.ireturn, 1) := by decide +kernel
theorem dL_law_514 : decode cL_law 514 = .ok (.aload_n 1, 1) := by decide +kernel
theorem dL_law_515 : decode cL_law 515 = .ok (.aload_n 0, 1) := by decide +kernel
theorem dL_law_516 : decode cL_law 516 = .ok (.iload_n 3, 1) := by decide +kernel
theorem dL_law_517 : decode cL_law 517 = .ok (.iconst 1, 1) := by decide +kernel
theorem dL_law_518 : decode cL_law 518 = .ok (.iadd, 1) := by decide +kernel
theorem dL_law_519 : decode cL_law 519 = .ok (.iaload, 1) := by decide +kernel
theorem dL_law_520 : decode cL_law 520 = .ok (.aload_n 0, 1) := by decide +kernel
theorem dL_law_521 : decode cL_law 521 = .ok (.iload_n 3, 1) := by decide +kernel
theorem dL_law_522 : decode cL_law 522 = .ok (.iconst 2, 1) := by decide +kernel
theorem dL_law_523 : decode cL_law 523 = .ok (.iadd, 1) := by decide +kernel
theorem dL_law_524 : decode cL_law 524 = .ok (.iaload, 1) := by decide +kernel
theorem dL_law_525 : decode cL_law 525 = .ok (.invokevirtual 73, 3) := by decide +kernel
theorem dL_law_528 : decode cL_law 528 = .ok (.aload_n 2, 1) := by decide +kernel
theorem dL_law_529 : decode cL_law 529 = .ok (.aload_n 0, 1) := by decide +kernel
theorem dL_law_530 : decode cL_law 530 = .ok (.iload_n 3, 1) := by decide +kernel
theorem dL_law_531 : decode cL_law 531 = .ok (.iconst 1, 1) := by decide +kernel
theorem dL_law_532 : decode cL_law 532 = .ok (.iadd, 1) := by decide +kernel
theorem dL_law_533 : decode cL_law 533 = .ok (.iaload, 1) := by decide +kernel
theorem dL_law_534 : decode cL_law 534 = .ok (.aload_n 0, 1) := by decide +kernel
theorem dL_law_535 : decode cL_law 535 = .ok (.iload_n 3, 1) := by decide +kernel
theorem dL_law_536 : decode cL_law 536 = .ok (.iconst 2, 1) := by decide +kernel
theorem dL_law_537 : decode cL_law 537 = .ok (.iadd, 1) := by decide +kernel
theorem dL_law_538 : decode cL_law 538 = .ok (.iaload, 1) := by decide +kernel
theorem dL_law_539 : decode cL_law 539 = .ok (.invokevirtual 76, 3) := by decide +kernel
theorem dL_law_542 : decode cL_law 542 = .ok (.if_icmp .eq 143, 3) := by decide +kernel
theorem dL_law_545 : decode cL_law 545 = .ok (.iconst 0, 1) := by decide +kernel
theorem dL_law_546 : decode cL_law 546 = .ok (.ireturn, 1) := by decide +kernel
theorem dL_law_547 : decode cL_law 547 = .ok (.aload_n 1, 1) := by decide +kernel
theorem dL_law_548 : decode cL_law 548 = .ok (.aload_n 0, 1) := by decide +kernel
theorem dL_law_549 : decode cL_law 549 = .ok (.iload_n 3, 1) := by decide +kernel
theorem dL_law_550 : decode cL_law 550 = .ok (.iconst 1, 1) := by decide +kernel
theorem dL_law_551 : decode cL_law 551 = .ok (.iadd, 1) := by decide +kernel
theorem dL_law_552 : decode cL_law 552 = .ok (.iaload, 1) := by decide +kernel
theorem dL_law_553 : decode cL_law 553 = .ok (.invokevirtual 77, 3) := by decide +kernel
theorem dL_law_556 : decode cL_law 556 = .ok (.aload_n 2, 1) := by decide +kernel
theorem dL_law_557 : decode cL_law 557 = .ok (.aload_n 0, 1) := by decide +kernel
theorem dL_law_558 : decode cL_law 558 = .ok (.iload_n 3, 1) := by decide +kernel
theorem dL_law_559 : decode cL_law 559 = .ok (.iconst 1, 1) := by decide +kernel
theorem dL_law_560 : decode cL_law 560 = .ok (.iadd, 1) := by decide +kernel
theorem dL_law_561 : decode cL_law 561 = .ok (.iaload, 1) := by decide +kernel
theorem dL_law_562 : decode cL_law 562 = .ok (.invokevirtual 80, 3) := by decide +kernel
theorem dL_law_565 : decode cL_law 565 = .ok (.if_icmp .eq 120, 3) := by decide +kernel
theorem dL_law_568 : decode cL_law 568 = .ok (.iconst 0, 1) := by decide +kernel
theorem dL_law_569 : decode cL_law 569 = .ok (.ireturn, 1) := by decide +kernel
theorem dL_law_570 : decode cL_law 570 = .ok (.aload_n 1, 1) := by decide +kernel
theorem dL_law_571 : decode cL_law 571 = .ok (.aload_n 0, 1) := by decide +kernel
theorem dL_law_572 : decode cL_law 572 = .ok (.iload_n 3, 1) := by decide +kernel
theorem dL_law_573 : decode cL_law 573 = .ok (.iconst 1, 1) := by decide +kernel
theorem dL_law_574 : decode cL_law 574 = .ok (.iadd, 1) := by decide +kernel
theorem dL_law_575 : decode cL_law 575 = .ok (.iaload, 1) := by decide +kernel
theorem dL_law_576 : decode cL_law 576 = .ok (.invokevirtual 81, 3) := by decide +kernel
theorem dL_law_579 : decode cL_law 579 = .ok (.aload_n 2, 1) := by decide +kernel
theorem dL_law_580 : decode cL_law 580 = .ok (.aload_n 0, 1) := by decide +kernel
theorem dL_law_581 : decode cL_law 581 = .ok (.iload_n 3, 1) := by decide +kernel
theorem dL_law_582 : decode cL_law 582 = .ok (.iconst 1, 1) := by decide +kernel
theorem dL_law_583 : decode cL_law 583 = .ok (.iadd, 1) := by decide +kernel
theorem dL_law_584 : decode cL_law 584 = .ok (.iaload, 1) := by decide +kernel
theorem dL_law_585 : decode cL_law 585 = .ok (.invokevirtual 84, 3) := by decide +kernel
theorem dL_law_588 : decode cL_law 588 = .ok (.if_icmp .eq 97, 3) := by decide +kernel
theorem dL_law_591 : decode cL_law 591 = .ok (.iconst 0, 1) := by decide +kernel
theorem dL_law_592 : decode cL_law 592 = .ok (.ireturn, 1) := by decide +kernel
theorem dL_law_593 : decode cL_law 593 = .ok (.aload_n 1, 1) := by decide +kernel
theorem dL_law_594 : decode cL_law 594 = .ok (.aload_n 0, 1) := by decide +kernel
theorem dL_law_595 : decode cL_law 595 = .ok (.iload_n 3, 1) := by decide +kernel
theorem dL_law_596 : decode cL_law 596 = .ok (.iconst 1, 1) := by decide +kernel
theorem dL_law_597 : decode cL_law 597 = .ok (.iadd, 1) := by decide +kernel
theorem dL_law_598 : decode cL_law 598 = .ok (.iaload, 1) := by decide +kernel
theorem dL_law_599 : decode cL_law 599 = .ok (.invokevirtual 85, 3) := by decide +kernel
theorem dL_law_602 : decode cL_law 602 = .ok (.aload_n 2, 1) := by decide +kernel
theorem dL_law_603 : decode cL_law 603 = .ok (.aload_n 0, 1) := by decide +kernel
theorem dL_law_604 : decode cL_law 604 = .ok (.iload_n 3, 1) := by decide +kernel
theorem dL_law_605 : decode cL_law 605 = .ok (.iconst 1, 1) := by decide +kernel
theorem dL_law_606 : decode cL_law 606 = .ok (.iadd, 1) := by decide +kernel
theorem dL_law_607 : decode cL_law 607 = .ok (.iaload, 1) := by decide +kernel
theorem dL_law_608 : decode cL_law 608 = .ok (.invokevirtual 88, 3) := by decide +kernel
theorem dL_law_611 : decode cL_law 611 = .ok (.if_icmp .eq 74, 3) := by decide +kernel
theorem dL_law_614 : decode cL_law 614 = .ok (.iconst 0, 1) := by decide +kernel
theorem dL_law_615 : decode cL_law 615 = .ok (.ireturn, 1) := by decide +kernel
theorem dL_law_616 : decode cL_law 616 = .ok (.aload_n 1, 1) := by decide +kernel
theorem dL_law_617 : decode cL_law 617 = .ok (.aload_n 0, 1) := by decide +kernel
theorem dL_law_618 : decode cL_law 618 = .ok (.iload_n 3, 1) := by decide +kernel
theorem dL_law_619 : decode cL_law 619 = .ok (.iconst 1, 1) := by decide +kernel
theorem dL_law_620 : decode cL_law 620 = .ok (.iadd, 1) := by decide +kernel
theorem dL_law_621 : decode cL_law 621 = .ok (.iaload, 1) := by decide +kernel
theorem dL_law_622 : decode cL_law 622 = .ok (.invokevirtual 89, 3) := by decide +kernel
theorem dL_law_625 : decode cL_law 625 = .ok (.aload_n 2, 1) := by decide +kernel
theorem dL_law_626 : decode cL_law 626 = .ok (.aload_n 0, 1) := by decide +kernel
theorem dL_law_627 : decode cL_law 627 = .ok (.iload_n 3, 1) := by decide +kernel
theorem dL_law_628 : decode cL_law 628 = .ok (.iconst 1, 1) := by decide +kernel
theorem dL_law_629 : decode cL_law 629 = .ok (.iadd, 1) := by decide +kernel
theorem dL_law_630 : decode cL_law 630 = .ok (.iaload, 1) := by decide +kernel
theorem dL_law_631 : decode cL_law 631 = .ok (.invokevirtual 92, 3) := by decide +kernel
theorem dL_law_634 : decode cL_law 634 = .ok (.if_icmp .eq 51, 3) := by decide +kernel
theorem dL_law_637 : decode cL_law 637 = .ok (.iconst 0, 1) := by decide +kernel
theorem dL_law_638 : decode cL_law 638 = .ok (.ireturn, 1) := by decide +kernel
theorem dL_law_639 : decode cL_law 639 = .ok (.aload_n 1, 1) := by decide +kernel
theorem dL_law_640 : decode cL_law 640 = .ok (.invokevirtual 93, 3) := by decide +kernel
theorem dL_law_643 : decode cL_law 643 = .ok (.aload_n 2, 1) := by decide +kernel
theorem dL_law_644 : decode cL_law 644 = .ok (.invokevirtual 96, 3) := by decide +kernel
theorem dL_law_647 : decode cL_law 647 = .ok (.if_icmp .eq 38, 3) := by decide +kernel
theorem dL_law_650 : decode cL_law 650 = .ok (.iconst 0, 1) := by decide +kernel
theorem dL_law_651 : decode cL_law 651 = .ok (.ireturn, 1) := by decide +kernel
theorem dL_law_652 : decode cL_law 652 = .ok (.aload_n 1, 1) := by decide +kernel
theorem dL_law_653 : decode cL_law 653 = .ok (.aload_n 0, 1) := by decide +kernel
theorem dL_law_654 : decode cL_law 654 = .ok (.iload_n 3, 1) := by decide +kernel
theorem dL_law_655 : decode cL_law 655 = .ok (.iconst 1, 1) := by decide +kernel
theorem dL_law_656 : decode cL_law 656 = .ok (.iadd, 1) := by decide +kernel
theorem dL_law_657 : decode cL_law 657 = .ok (.iaload, 1) := by decide +kernel
theorem dL_law_658 : decode cL_law 658 = .ok (.aload_n 0, 1) := by decide +kernel
theorem dL_law_659 : decode cL_law 659 = .ok (.iload_n 3, 1) := by decide +kernel
theorem dL_law_660 : decode cL_law 660 = .ok (.iconst 2, 1) := by decide +kernel
theorem dL_law_661 : decode cL_law 661 = .ok (.iadd, 1) := by decide +kernel
theorem dL_law_662 : decode cL_law 662 = .ok (.iaload, 1) := by decide +kernel
theorem dL_law_663 : decode cL_law 663 = .ok (.invokevirtual 97, 3) := by decide +kernel
theorem dL_law_666 : decode cL_law 666 = .ok (.aload_n 2, 1) := by decide +kernel
theorem dL_law_667 : decode cL_law 667 = .ok (.aload_n 0, 1) := by decide +kernel
theorem dL_law_668 : decode cL_law 668 = .ok (.iload_n 3, 1) := by decide +kernel
theorem dL_law_669 : decode cL_law 669 = .ok (.iconst 1, 1) := by decide +kernel
theorem dL_law_670 : decode cL_law 670 = .ok (.iadd, 1) := by decide +kernel
theorem dL_law_671 : decode cL_law 671 = .ok (.iaload, 1) := by decide +kernel
theorem dL_law_672 : decode cL_law 672 = .ok (.aload_n 0, 1) := by decide +kernel
theorem dL_law_673 : decode cL_law 673 = .ok (.iload_n 3, 1) := by decide +kernel
theorem dL_law_674 : decode cL_law 674 = .ok (.iconst 2, 1) := by decide +kernel
theorem dL_law_675 : decode cL_law 675 = .ok (.iadd, 1) := by decide +kernel
theorem dL_law_676 : decode cL_law 676 = .ok (.iaload, 1) := by decide +kernel
theorem dL_law_677 : decode cL_law 677 = .ok (.invokevirtual 100, 3) := by decide +kernel
theorem dL_law_680 : decode cL_law 680 = .ok (.if_icmp .eq 5, 3) := by decide +kernel
theorem dL_law_683 : decode cL_law 683 = .ok (.iconst 0, 1) := by decide +kernel
theorem dL_law_684 : decode cL_law 684 = .ok (.ireturn, 1) := by decide +kernel
theorem dL_law_685 : decode cL_law 685 = .ok (.iinc 3 4, 3) := by decide +kernel
theorem dL_law_688 : decode cL_law 688 = .ok (.goto (-670), 3) := by decide +kernel
theorem dL_law_691 : decode cL_law 691 = .ok (.iconst 1, 1) := by decide +kernel
theorem dL_law_692 : decode cL_law 692 = .ok (.ireturn, 1) := by decide +kernel
end
section
/-! THE WORLD: 87 cells at addresses ad 0 .. ad 86, apart. 0 the FerryFloor, 1 its state now (rows 2 to 13), 14 the history, 15 readings, 16 expected, 17 trial, 18 + 13 k the k-th kept state (rows 19 + 13 k to 30 + 13 k), 83 the model, 84 s, 85 past, 86 held. R i: what the row i holds; F i: the whole numbers of the object i. -/
def wl (ad : Nat → Nat) (C : Nat → va_E) : va_W := (List.range 87).map (fun i => (ad i, C i))
def AA (ad : Nat → Nat) : Nat → Prop := fun q => ∃ i, i < 87 ∧ ad i = q
def Inj (ad : Nat → Nat) : Prop := ∀ i j, i < 87 → j < 87 → ad i = ad j → i = j
theorem wl_at {ad : Nat → Nat} {C : Nat → va_E} {i : Nat} (h : i < 87) : (wl ad C)[i]? = some (ad i, C i) := by
  unfold wl
  rw [List.getElem?_map, List.getElem?_range h]
  rfl
theorem wl_len {ad : Nat → Nat} {C : Nat → va_E} : (wl ad C).length = 87 := by simp [wl]
theorem wl_lt {ad : Nat → Nat} {C : Nat → va_E} {i : Nat} {q : Nat × va_E} (h : (wl ad C)[i]? = some q) : i < 87 ∧ q = (ad i, C i) := by
  have h1 : i < 87 := by
    have := (List.getElem?_eq_some_iff.mp h).1
    rw [wl_len] at this
    exact this
  rw [wl_at h1] at h
  exact ⟨h1, (Option.some.inj h).symm⟩
theorem wl_set {ad : Nat → Nat} {C : Nat → va_E} {i : Nat} (h : i < 87) (e : va_E) : (wl ad C).set i (ad i, e) = wl ad (va_up C i e) := by
  apply List.ext_getElem?
  intro j
  by_cases hj : j = i
  · subst hj
    rw [List.getElem?_set_self (by rw [wl_len]; exact h), wl_at h]
    simp [va_up]
  · rw [List.getElem?_set_ne (Ne.symm hj)]
    by_cases hl : j < 87
    · rw [wl_at hl, wl_at hl]
      simp [va_up, hj]
    · rw [List.getElem?_eq_none (by rw [wl_len]; omega), List.getElem?_eq_none (by rw [wl_len]; omega)]
theorem wl_D {ad : Nat → Nat} {C : Nat → va_E} (hI : Inj ad) : va_D (AA ad) (wl ad C) := by
  refine ⟨fun i j p q hi hj hpq => ?_, fun k q hk => ?_⟩
  · obtain ⟨a1, rfl⟩ := wl_lt hi
    obtain ⟨b1, rfl⟩ := wl_lt hj
    exact hI i j a1 b1 hpq
  · obtain ⟨a1, rfl⟩ := wl_lt hk
    exact ⟨k, a1, rfl⟩
def St (i : Nat) : Bool := i == 1 || i == 18 || i == 31 || i == 44 || i == 57 || i == 70
def ln (i : Nat) : Nat := if i = 84 then 182 else if i = 85 then 910 else if i = 86 ∨ i = 17 then 8 else if i = 15 ∨ i = 16 then 24 else if (if i < 14 then i - 1 else (i - 18) % 13) ≤ 4 then 24 else 8
def isA (i : Nat) : Bool := decide (i < 87) && (!(i == 0) && (!(i == 14) && (!(i == 83) && !(St i))))
def fsF (ad : Nat → Nat) (F : Nat → Nat → Int32) : List Value := [.ref (ad 1), .ref (ad 14), .int (F 0 0), .int (F 0 1), .ref (ad 15), .ref (ad 16), .ref (ad 17)]
def fsS (ad : Nat → Nat) (F : Nat → Nat → Int32) (i : Nat) : List Value := [.int (F i 0), .int (F i 1), .int (F i 2), .ref (ad (i + 1)), .ref (ad (i + 2)), .ref (ad (i + 3)), .ref (ad (i + 4)), .ref (ad (i + 5)), .ref (ad (i + 6)), .ref (ad (i + 7)), .ref (ad (i + 8)), .ref (ad (i + 9)), .ref (ad (i + 10)), .ref (ad (i + 11)), .ref (ad (i + 12))]
def fsM (ad : Nat → Nat) (F : Nat → Nat → Int32) : List Value := [.ref (ad 84), .ref (ad 85), .int (F 83 0), .int (F 83 1), .ref (ad 86)]
def CC (cI cS : ClassId) (ad : Nat → Nat) (R F : Nat → Nat → Int32) (i : Nat) : va_E :=
  if isA i = true then .inl (cI, ln i, .inl (R i))
  else if St i = true then .inr (0, fsS ad F i)
  else if i = 0 then .inr (1, fsF ad F)
  else if i = 83 then .inr (2, fsM ad F)
  else .inl (cS, 5, .inr (.inr (.inr (.inr (fun k => some (ad (18 + 13 * k)))))))
def Ar (i n : Nat) : Prop := isA i = true ∧ ln i = n
theorem isA_lt {i : Nat} (h : isA i = true) : i < 87 := by
  unfold isA at h
  simp only [Bool.and_eq_true, decide_eq_true_eq] at h
  exact h.1
theorem St_lt {i : Nat} (h : St i = true) : i < 87 := by
  simp only [St, Bool.or_eq_true, beq_iff_eq] at h
  omega
theorem St_A {i : Nat} (h : St i = true) : isA i = false := by
  unfold isA
  rw [h]
  simp
theorem CC_A {cI cS : ClassId} {ad : Nat → Nat} {R F : Nat → Nat → Int32} {i n : Nat} (h : Ar i n) : CC cI cS ad R F i = .inl (cI, n, .inl (R i)) := by
  obtain ⟨h1, rfl⟩ := h
  unfold CC
  rw [if_pos h1]
theorem CC_S {cI cS : ClassId} {ad : Nat → Nat} {R F : Nat → Nat → Int32} {i : Nat} (h : St i = true) : CC cI cS ad R F i = .inr (0, fsS ad F i) := by
  unfold CC
  rw [if_neg (by rw [St_A h]; decide), if_pos h]
theorem CC_0 {cI cS : ClassId} {ad : Nat → Nat} {R F : Nat → Nat → Int32} : CC cI cS ad R F 0 = .inr (1, fsF ad F) := by
  unfold CC
  rw [if_neg (by decide), if_neg (by decide), if_pos rfl]
theorem CC_83 {cI cS : ClassId} {ad : Nat → Nat} {R F : Nat → Nat → Int32} : CC cI cS ad R F 83 = .inr (2, fsM ad F) := by
  unfold CC
  rw [if_neg (by decide), if_neg (by decide), if_neg (by decide), if_pos rfl]
theorem CC_14 {cI cS : ClassId} {ad : Nat → Nat} {R F : Nat → Nat → Int32} : CC cI cS ad R F 14 = .inl (cS, 5, .inr (.inr (.inr (.inr (fun k => some (ad (18 + 13 * k))))))) := by
  unfold CC
  rw [if_neg (by decide), if_neg (by decide), if_neg (by decide), if_neg (by decide)]
theorem CC_cong {cI cS : ClassId} {ad : Nat → Nat} {R F R' F' : Nat → Nat → Int32} {i : Nat} (hR : R' i = R i) (hF : F' i = F i) : CC cI cS ad R' F' i = CC cI cS ad R F i := by
  have h1 : fsS ad F' i = fsS ad F i := by unfold fsS; rw [hF]
  unfold CC
  rw [hR, h1]
  by_cases h0 : i = 0
  · subst h0
    have h2 : fsF ad F' = fsF ad F := by unfold fsF; rw [hF]
    rw [h2]
    rfl
  · by_cases h83 : i = 83
    · subst h83
      have h2 : fsM ad F' = fsM ad F := by unfold fsM; rw [hF]
      rw [h2]
      rfl
    · simp only [if_neg h0, if_neg h83]
theorem up_same {α : Type} (f : Nat → α) (k : Nat) (v : α) : va_up f k v k = v := by simp [va_up]
theorem up_ne {α : Type} (f : Nat → α) {k j : Nat} (v : α) (h : j ≠ k) : va_up f k v j = f j := by simp [va_up, h]
theorem CC_upA {cI cS : ClassId} {ad : Nat → Nat} {R F : Nat → Nat → Int32} {i n : Nat} (h : Ar i n) (f : Nat → Int32) : va_up (CC cI cS ad R F) i (.inl (cI, n, .inl f)) = CC cI cS ad (va_up R i f) F := by
  funext j
  by_cases hj : j = i
  · subst hj
    rw [up_same, CC_A h, up_same]
  · rw [up_ne _ _ hj]
    exact (CC_cong (up_ne _ _ hj) rfl).symm
theorem CC_upO {cI cS : ClassId} {ad : Nat → Nat} {R F : Nat → Nat → Int32} {i : Nat} {f : Nat → Int32} {e : va_E} (h : CC cI cS ad R (va_up F i f) i = e) : va_up (CC cI cS ad R F) i e = CC cI cS ad R (va_up F i f) := by
  funext j
  by_cases hj : j = i
  · subst hj
    rw [up_same, h]
  · rw [up_ne _ _ hj]
    exact (CC_cong rfl (up_ne _ _ hj)).symm
def WP (D : va_G) (cI cS : ClassId) (ad : Nat → Nat) (R F : Nat → Nat → Int32) (H : Heap) : Prop := va_P D vwCl (wl ad (CC cI cS ad R F)) H
/-- the classes, the rows' classes, and the two links from State to FerryFloor's own methods -/
def KK (D : va_G) (cI cS : ClassId) (s : State) : Prop := va_K D vwCl [(cI, .int), (cS, .object "FerryFloor$State")] s ∧ va_Nw (.methodLinkNest RX0 59 yX1_fillRow RX1) s ∧ va_Nw (.methodLinkNest RX0 63 yX1_copyRow RX1) s
theorem KK.warm {D : va_G} {cI cS : ClassId} {s U : State} (hW : s.WarmedH U.vm) (h : KK D cI cS s) : KK D cI cS U := ⟨va_K.moved hW.alike h.1, va_Nw.warmM hW h.2.1, va_Nw.warmM hW h.2.2⟩
def PW (D : va_G) (cI cS : ClassId) (ad : Nat → Nat) (R F : Nat → Nat → Int32) (av : List Value) : Array Value → State → Prop := va_Pc av (fun U => WP D cI cS ad R F U.heap ∧ KK D cI cS U)
def QS (r : Int32) : Array Value → State → Outcome → State → Prop := fun _ st o t => o = .returned (some (.int r)) ∧ t.heap = st.heap
def QI (D : va_G) (cI cS : ClassId) (ad : Nat → Nat) (r : Int32) (R' F' : Nat → Nat → Int32) : Array Value → State → Outcome → State → Prop := fun _ st o t => o = .returned (some (.int r)) ∧ WP D cI cS ad R' F' t.heap ∧ va_F (AA ad) st t
def QV (D : va_G) (cI cS : ClassId) (ad : Nat → Nat) (R' F' : Nat → Nat → Int32) : Array Value → State → Outcome → State → Prop := fun _ st o t => o = .returned none ∧ WP D cI cS ad R' F' t.heap ∧ va_F (AA ad) st t
theorem PW_blind {D : va_G} {cI cS : ClassId} {ad : Nat → Nat} {R F : Nat → Nat → Int32} {av : List Value} : FrameBlind (PW D cI cS ad R F av) := fun a U g mk q => ⟨q.1, q.2.1, va_K.moved (u := U) (U := U.calling g mk a) (Vm.Alike.refl U.vm) q.2.2.1, va_Nw.same (u := U) (U := U.calling g mk a) rfl rfl q.2.2.2.1, va_Nw.same (u := U) (U := U.calling g mk a) rfl rfl q.2.2.2.2⟩
theorem PW_preS {D : va_G} {cI cS : ClassId} {ad : Nat → Nat} {R F : Nat → Nat → Int32} {As : List Value} {s : State} {H : Heap} (hK : KK D cI cS s) (hP : WP D cI cS ad R F H) : PreS s H (PW D cI cS ad R F As) As := ⟨PW_blind, fun U hU hW => ⟨rfl, by rw [hU]; exact hP, hK.warm hW⟩⟩
theorem PW_preV {D : va_G} {cI cS : ClassId} {ad : Nat → Nat} {R F : Nat → Nat → Int32} {As : List Value} {s : State} {H : Heap} {C : String} {i ci : Nat} {fs : List Value} {q : vw_C} (hi : i < 87) (he : CC cI cS ad R F i = .inr (ci, fs)) (hc : vwCl[ci]? = some q) (hC : q.1 = C) (hK : KK D cI cS s) (hP : WP D cI cS ad R F H) : PreV s H C (ad i) (PW D cI cS ad R F (.ref (ad i) :: As)) As :=
  ⟨PW_blind, by rw [← hC]; exact va_recv hK.1 hP hc ((wl_at hi).trans (by rw [he])), fun U hU hW => ⟨rfl, by rw [hU]; exact hP, hK.warm hW⟩⟩
theorem Ar_hist {k j n : Nat} (hk : k < 5) (hj : Ar (1 + j) n) (h1 : 1 ≤ j) (h2 : j ≤ 12) : Ar (18 + 13 * k + j) n := by
  have h : ∀ k, k < 5 → ∀ j, j < 13 → 1 ≤ j → isA (18 + 13 * k + j) = true ∧ ln (18 + 13 * k + j) = ln (1 + j) := by decide
  obtain ⟨a, b⟩ := h k hk j (by omega) h1
  exact ⟨a, b.trans hj.2⟩
theorem St_hist {k : Nat} (hk : k < 5) : St (18 + 13 * k) = true := by
  have h : ∀ k, k < 5 → St (18 + 13 * k) = true := by decide
  exact h k hk
/-- one place of a row (or one number of an object) gets another value -/
def sR (R : Nat → Nat → Int32) (i k : Nat) (v : Int32) : Nat → Nat → Int32 := va_up R i (upd (R i) k v)
end
section
/-! ROWS over the world of 02 -/
section
variable {p : Program} {l : Launch} {e : Env} {rm : Room} {s : State} {m : MethodId} {args : Array Value} {below : List Frame} {meth : Method} {c : Code} {H H0 : Heap} {locs : List Loc} {cells slots : Nat} {Q : State → Prop} {cc : ByteArray} {pc : Nat} {ls : Array Slot} {rest st0 : List Value} {D : va_G} {cI cS : ClassId} {ad : Nat → Nat} {R F : Nat → Nat → Int32} {own : String} {index : Nat} {Ts : List Cond}
theorem q_ild (hx : p.tables.exec = Jvm.exec) (hb : c.code = cc) (hK : KK D cI cS s) (hP : WP D cI cS ad R F H) (i n : Nat) (ha : Ar i n) {x : Int32} (hdg : decode cc pc = .ok (.iaload, 1)) (hin : vp_in x n)
    (kk : W p l e rm s m args below meth c H locs cells slots Q (F0 m (pc + 1) ls (.int (R i x.toNatClampNeg) :: rest))) : W p l e rm s m args below meth c H locs cells slots Q (F0 m pc ls (.int x :: .ref (ad i) :: rest)) :=
  va_iald hx hb hK.1 hP i 0 ((wl_at (isA_lt ha.1)).trans (by rw [CC_A ha])) rfl hin hdg kk
theorem q_ist (hx : p.tables.exec = Jvm.exec) (hb : c.code = cc) (hK : KK D cI cS s) (hI : Inj ad) (hP : WP D cI cS ad R F H) (hS : va_S (AA ad) H0 H locs) (i n : Nat) (ha : Ar i n) {x v : Int32} (hdg : decode cc pc = .ok (.iastore, 1)) (hin : vp_in x n)
    (kk : ∀ (H1 : Heap) (locs1 : List Loc), WP D cI cS ad (sR R i x.toNatClampNeg v) F H1 → va_S (AA ad) H0 H1 locs1 → W p l e rm s m args below meth c H1 locs1 cells slots Q (F0 m (pc + 1) ls rest)) : W p l e rm s m args below meth c H locs cells slots Q (F0 m pc ls (.int v :: .int x :: .ref (ad i) :: rest)) := by
  have hi := isA_lt ha.1
  refine va_iast hx hb hK.1 hP (wl_D hI) hS i 0 ((wl_at hi).trans (by rw [CC_A ha])) rfl hin hdg (fun H1 locs1 hP1 _ hS1 => kk H1 locs1 ?_ hS1)
  rw [wl_set hi, CC_upA ha] at hP1
  exact hP1
theorem q_len (hx : p.tables.exec = Jvm.exec) (hb : c.code = cc) (hK : KK D cI cS s) (hP : WP D cI cS ad R F H) (i n : Nat) (ha : Ar i n) (hdg : decode cc pc = .ok (.arraylength, 1))
    (kk : W p l e rm s m args below meth c H locs cells slots Q (F0 m (pc + 1) ls (.int (nI n) :: rest))) : W p l e rm s m args below meth c H locs cells slots Q (F0 m pc ls (.ref (ad i) :: rest)) :=
  va_alen hx hb hK.1 hP i 0 (x := (n, .inl (R i))) (ty := .int) ((wl_at (isA_lt ha.1)).trans (by rw [CC_A ha])) rfl rfl hdg kk
theorem q_getF (hx : p.tables.exec = Jvm.exec) (hb : c.code = cc) (hts : ∀ w ∈ Ts, w.before args s = true) (hin : ∀ w ∈ u_ws RX1 TX1 7, w ∈ Ts) (hown : s.vm.findClass own = some m.cls) (hK : KK D cI cS s) (hP : WP D cI cS ad R F H) (k : Nat) (hk : k < 7) {ref : String} (hlink : (Cond.fieldLink own index ref (TX1 k).2.1 (TX1 k).2.2.1).before args s = true) (hsame : ∀ x, s.fieldFound? (TX1 k).1 (TX1 k).2.1 (TX1 k).2.2.1 = some x → s.fieldFound? ref (TX1 k).2.1 (TX1 k).2.2.1 = some x) {v : Value} (hv : (fsF ad F)[k]? = some v) (hdg : decode cc pc = .ok (.getfield index, 3))
    (kk : W p l e rm s m args below meth c H locs cells slots Q (F0 m (pc + 3) ls (v :: rest))) : W p l e rm s m args below meth c H locs cells slots Q (F0 m pc ls (.ref (ad 0) :: rest)) :=
  va_get (D := D) (ci := 1) (C := RX1) (T := TX1) (N := 7) hx hb hts hin hown hK.1 hP 0 ((wl_at (by decide)).trans (by rw [CC_0])) rfl k hk hlink hsame hv hdg kk
theorem q_getS (hx : p.tables.exec = Jvm.exec) (hb : c.code = cc) (hts : ∀ w ∈ Ts, w.before args s = true) (hin : ∀ w ∈ u_ws RX0 TX0 15, w ∈ Ts) (hown : s.vm.findClass own = some m.cls) (hK : KK D cI cS s) (hP : WP D cI cS ad R F H) (i : Nat) (hi : St i = true) (k : Nat) (hk : k < 15) {ref : String} (hlink : (Cond.fieldLink own index ref (TX0 k).2.1 (TX0 k).2.2.1).before args s = true) (hsame : ∀ x, s.fieldFound? (TX0 k).1 (TX0 k).2.1 (TX0 k).2.2.1 = some x → s.fieldFound? ref (TX0 k).2.1 (TX0 k).2.2.1 = some x) {v : Value} (hv : (fsS ad F i)[k]? = some v) (hdg : decode cc pc = .ok (.getfield index, 3))
    (kk : W p l e rm s m args below meth c H locs cells slots Q (F0 m (pc + 3) ls (v :: rest))) : W p l e rm s m args below meth c H locs cells slots Q (F0 m pc ls (.ref (ad i) :: rest)) :=
  va_get (D := D) (ci := 0) (C := RX0) (T := TX0) (N := 15) hx hb hts hin hown hK.1 hP i ((wl_at (St_lt hi)).trans (by rw [CC_S hi])) rfl k hk hlink hsame hv hdg kk
theorem q_getM (hx : p.tables.exec = Jvm.exec) (hb : c.code = cc) (hts : ∀ w ∈ Ts, w.before args s = true) (hin : ∀ w ∈ u_ws RX2 TX2 5, w ∈ Ts) (hown : s.vm.findClass own = some m.cls) (hK : KK D cI cS s) (hP : WP D cI cS ad R F H) (k : Nat) (hk : k < 5) {ref : String} (hlink : (Cond.fieldLink own index ref (TX2 k).2.1 (TX2 k).2.2.1).before args s = true) (hsame : ∀ x, s.fieldFound? (TX2 k).1 (TX2 k).2.1 (TX2 k).2.2.1 = some x → s.fieldFound? ref (TX2 k).2.1 (TX2 k).2.2.1 = some x) {v : Value} (hv : (fsM ad F)[k]? = some v) (hdg : decode cc pc = .ok (.getfield index, 3))
    (kk : W p l e rm s m args below meth c H locs cells slots Q (F0 m (pc + 3) ls (v :: rest))) : W p l e rm s m args below meth c H locs cells slots Q (F0 m pc ls (.ref (ad 83) :: rest)) :=
  va_get (D := D) (ci := 2) (C := RX2) (T := TX2) (N := 5) hx hb hts hin hown hK.1 hP 83 ((wl_at (by decide)).trans (by rw [CC_83])) rfl k hk hlink hsame hv hdg kk
/-- a whole number's field: of the FerryFloor (k = 2, 3), of the model (2, 3), of a state (0, 1, 2) -/
theorem q_putF (hx : p.tables.exec = Jvm.exec) (hb : c.code = cc) (hts : ∀ w ∈ Ts, w.before args s = true) (hin : ∀ w ∈ u_ws RX1 TX1 7, w ∈ Ts) (hown : s.vm.findClass own = some m.cls) (hK : KK D cI cS s) (hI : Inj ad) (hP : WP D cI cS ad R F H) (hS : va_S (AA ad) H0 H locs) (k : Nat) (hk : k = 2 ∨ k = 3) {ref : String} (hlink : (Cond.fieldLink own index ref (TX1 k).2.1 (TX1 k).2.2.1).before args s = true) (hsame : ∀ x, s.fieldFound? (TX1 k).1 (TX1 k).2.1 (TX1 k).2.2.1 = some x → s.fieldFound? ref (TX1 k).2.1 (TX1 k).2.2.1 = some x) {v : Int32} (hdg : decode cc pc = .ok (.putfield index, 3))
    (kk : ∀ (H1 : Heap) (locs1 : List Loc), WP D cI cS ad R (sR F 0 (k - 2) v) H1 → va_S (AA ad) H0 H1 locs1 → W p l e rm s m args below meth c H1 locs1 cells slots Q (F0 m (pc + 3) ls rest)) : W p l e rm s m args below meth c H locs cells slots Q (F0 m pc ls (.int v :: .ref (ad 0) :: rest)) := by
  have hk7 : k < 7 := by omega
  refine va_put (D := D) (ci := 1) (fs := fsF ad F) (v := .int v) (ty := .int) (C := RX1) (T := TX1) (N := 7) hx hb hts hin tyX1 tyX1_ok nmX1 hown hK.1 hP (wl_D hI) hS 0 ((wl_at (by decide)).trans (by rw [CC_0])) rfl k hk7 hlink hsame (by rcases hk with rfl | rfl <;> rfl) (by rcases hk with rfl | rfl <;> decide +kernel) rfl rfl hk7 hdg (fun H1 locs1 hP1 _ hS1 => kk H1 locs1 ?_ hS1)
  rw [wl_set (by decide), CC_upO (f := upd (F 0) (k - 2) v) (by rw [CC_0]; rcases hk with rfl | rfl <;> rfl)] at hP1
  exact hP1
theorem q_putM (hx : p.tables.exec = Jvm.exec) (hb : c.code = cc) (hts : ∀ w ∈ Ts, w.before args s = true) (hin : ∀ w ∈ u_ws RX2 TX2 5, w ∈ Ts) (hown : s.vm.findClass own = some m.cls) (hK : KK D cI cS s) (hI : Inj ad) (hP : WP D cI cS ad R F H) (hS : va_S (AA ad) H0 H locs) (k : Nat) (hk : k = 2 ∨ k = 3) {ref : String} (hlink : (Cond.fieldLink own index ref (TX2 k).2.1 (TX2 k).2.2.1).before args s = true) (hsame : ∀ x, s.fieldFound? (TX2 k).1 (TX2 k).2.1 (TX2 k).2.2.1 = some x → s.fieldFound? ref (TX2 k).2.1 (TX2 k).2.2.1 = some x) {v : Int32} (hdg : decode cc pc = .ok (.putfield index, 3))
    (kk : ∀ (H1 : Heap) (locs1 : List Loc), WP D cI cS ad R (sR F 83 (k - 2) v) H1 → va_S (AA ad) H0 H1 locs1 → W p l e rm s m args below meth c H1 locs1 cells slots Q (F0 m (pc + 3) ls rest)) : W p l e rm s m args below meth c H locs cells slots Q (F0 m pc ls (.int v :: .ref (ad 83) :: rest)) := by
  have hk7 : k < 5 := by omega
  refine va_put (D := D) (ci := 2) (fs := fsM ad F) (v := .int v) (ty := .int) (C := RX2) (T := TX2) (N := 5) hx hb hts hin tyX2 tyX2_ok nmX2 hown hK.1 hP (wl_D hI) hS 83 ((wl_at (by decide)).trans (by rw [CC_83])) rfl k hk7 hlink hsame (by rcases hk with rfl | rfl <;> rfl) (by rcases hk with rfl | rfl <;> decide +kernel) rfl rfl hk7 hdg (fun H1 locs1 hP1 _ hS1 => kk H1 locs1 ?_ hS1)
  rw [wl_set (by decide), CC_upO (f := upd (F 83) (k - 2) v) (by rw [CC_83]; rcases hk with rfl | rfl <;> rfl)] at hP1
  exact hP1
theorem q_putS (hx : p.tables.exec = Jvm.exec) (hb : c.code = cc) (hts : ∀ w ∈ Ts, w.before args s = true) (hin : ∀ w ∈ u_ws RX0 TX0 15, w ∈ Ts) (hown : s.vm.findClass own = some m.cls) (hK : KK D cI cS s) (hI : Inj ad) (hP : WP D cI cS ad R F H) (hS : va_S (AA ad) H0 H locs) (i : Nat) (hi : St i = true) (k : Nat) (hk : k = 0 ∨ k = 1 ∨ k = 2) {ref : String} (hlink : (Cond.fieldLink own index ref (TX0 k).2.1 (TX0 k).2.2.1).before args s = true) (hsame : ∀ x, s.fieldFound? (TX0 k).1 (TX0 k).2.1 (TX0 k).2.2.1 = some x → s.fieldFound? ref (TX0 k).2.1 (TX0 k).2.2.1 = some x) {v : Int32} (hdg : decode cc pc = .ok (.putfield index, 3))
    (kk : ∀ (H1 : Heap) (locs1 : List Loc), WP D cI cS ad R (sR F i k v) H1 → va_S (AA ad) H0 H1 locs1 → W p l e rm s m args below meth c H1 locs1 cells slots Q (F0 m (pc + 3) ls rest)) : W p l e rm s m args below meth c H locs cells slots Q (F0 m pc ls (.int v :: .ref (ad i) :: rest)) := by
  have hk7 : k < 15 := by omega
  refine va_put (D := D) (ci := 0) (fs := fsS ad F i) (v := .int v) (ty := .int) (C := RX0) (T := TX0) (N := 15) hx hb hts hin tyX0 tyX0_ok nmX0 hown hK.1 hP (wl_D hI) hS i ((wl_at (St_lt hi)).trans (by rw [CC_S hi])) rfl k hk7 hlink hsame (by rcases hk with rfl | rfl | rfl <;> rfl) (by rcases hk with rfl | rfl | rfl <;> decide +kernel) rfl rfl hk7 hdg (fun H1 locs1 hP1 _ hS1 => kk H1 locs1 ?_ hS1)
  rw [wl_set (St_lt hi), CC_upO (f := upd (F i) k v) (by rw [CC_S hi]; rcases hk with rfl | rfl | rfl <;> simp [fsS, va_up, upd])] at hP1
  exact hP1
theorem q_callS {r : Int32} {a : Array Value} (hr : va_Run p l e rm s m args below meth c H locs cells slots 0 0 (F0 m pc ls st0) rest (QS r a) (fun _ => False))
    (kk : W p l e rm s m args below meth c H locs cells slots Q (F0 m (pc + 3) ls (.int r :: rest))) : W p l e rm s m args below meth c H locs cells slots Q (F0 m pc ls st0) := by
  intro T hT X
  obtain ⟨v, st₀, t, T', L, h0, X', hL, e1, e2, ⟨hv, hh⟩, st⟩ := hr T hT X
  cases hv
  have hnil : L = [] := by
    cases L with
    | nil => rfl
    | cons q L => exact (hL q List.mem_cons_self).elim
  subst hnil
  rw [List.append_nil] at X'
  obtain ⟨t2, a1, b1⟩ := kk T' (by rw [e1, hh, h0]) X'
  exact ⟨t2, st t2 a1, b1⟩
theorem q_callI {r : Int32} {R' F' : Nat → Nat → Int32} {a : Array Value} (hr : va_Run p l e rm s m args below meth c H locs cells slots 0 0 (F0 m pc ls st0) rest (QI D cI cS ad r R' F' a) (AA ad)) (hS : va_S (AA ad) H0 H locs)
    (kk : ∀ (H1 : Heap) (locs1 : List Loc), WP D cI cS ad R' F' H1 → va_S (AA ad) H0 H1 locs1 → W p l e rm s m args below meth c H1 locs1 cells slots Q (F0 m (pc + 3) ls (.int r :: rest))) : W p l e rm s m args below meth c H locs cells slots Q (F0 m pc ls st0) := by
  intro T hT X
  obtain ⟨v, st₀, t, T', L, h0, X', hL, e1, e2, ⟨hv, hp, hz, hk⟩, st⟩ := hr T hT X
  cases hv
  rw [h0] at hz hk
  obtain ⟨t2, a1, b1⟩ := kk T'.heap (locs ++ L) (by rw [e1]; exact hp)
    ⟨Nat.le_trans hS.1 (by rw [e1]; exact hz), fun q h1 h2 => by rw [e1, hk q (Nat.lt_of_lt_of_le h1 hS.1) h2]; exact hS.2.1 q h1 h2, fun q hq => by
      rcases List.mem_append.mp hq with h | h
      · exact hS.2.2 q h
      · exact hL q h⟩ T' rfl X'
  exact ⟨t2, st t2 a1, b1⟩
theorem q_callV {R' F' : Nat → Nat → Int32} {a : Array Value} (hr : va_Run p l e rm s m args below meth c H locs cells slots 0 0 (F0 m pc ls st0) rest (QV D cI cS ad R' F' a) (AA ad)) (hS : va_S (AA ad) H0 H locs)
    (kk : ∀ (H1 : Heap) (locs1 : List Loc), WP D cI cS ad R' F' H1 → va_S (AA ad) H0 H1 locs1 → W p l e rm s m args below meth c H1 locs1 cells slots Q (F0 m (pc + 3) ls rest)) : W p l e rm s m args below meth c H locs cells slots Q (F0 m pc ls st0) := by
  intro T hT X
  obtain ⟨v, st₀, t, T', L, h0, X', hL, e1, e2, ⟨hv, hp, hz, hk⟩, st⟩ := hr T hT X
  cases hv
  rw [h0] at hz hk
  obtain ⟨t2, a1, b1⟩ := kk T'.heap (locs ++ L) (by rw [e1]; exact hp)
    ⟨Nat.le_trans hS.1 (by rw [e1]; exact hz), fun q h1 h2 => by rw [e1, hk q (Nat.lt_of_lt_of_le h1 hS.1) h2]; exact hS.2.1 q h1 h2, fun q hq => by
      rcases List.mem_append.mp hq with h | h
      · exact hS.2.2 q h
      · exact hL q h⟩ T' rfl X'
  exact ⟨t2, st t2 a1, b1⟩
/-- a loop: n rounds are left -/
theorem q_loop {pc0 : Nat} {st : List Value} (I : Nat → Heap → List Loc → Array Slot → Prop) (n : Nat) (h0 : I n H locs ls)
    (hz : ∀ (H : Heap) (locs : List Loc) (ls : Array Slot), I 0 H locs ls → W p l e rm s m args below meth c H locs cells slots Q (F0 m pc0 ls st))
    (hs : ∀ n : Nat, (∀ (H : Heap) (locs : List Loc) (ls : Array Slot), I n H locs ls → W p l e rm s m args below meth c H locs cells slots Q (F0 m pc0 ls st)) → ∀ (H : Heap) (locs : List Loc) (ls : Array Slot), I (n + 1) H locs ls → W p l e rm s m args below meth c H locs cells slots Q (F0 m pc0 ls st)) :
    W p l e rm s m args below meth c H locs cells slots Q (F0 m pc0 ls st) := by
  have key : ∀ (n : Nat) (H : Heap) (locs : List Loc) (ls : Array Slot), I n H locs ls → W p l e rm s m args below meth c H locs cells slots Q (F0 m pc0 ls st) := by
    intro n
    induction n with
    | zero => exact hz
    | succ n ih => exact hs n ih
  exact key n H locs ls h0
end
end
section
/-! more rows: places, indices that are numbers, switches -/
theorem ar_2 : Ar 2 24 := ⟨by decide, by decide⟩
theorem ar_3 : Ar 3 24 := ⟨by decide, by decide⟩
theorem ar_4 : Ar 4 24 := ⟨by decide, by decide⟩
theorem ar_5 : Ar 5 24 := ⟨by decide, by decide⟩
theorem ar_6 : Ar 6 8 := ⟨by decide, by decide⟩
theorem ar_7 : Ar 7 8 := ⟨by decide, by decide⟩
theorem ar_8 : Ar 8 8 := ⟨by decide, by decide⟩
theorem ar_9 : Ar 9 8 := ⟨by decide, by decide⟩
theorem ar_10 : Ar 10 8 := ⟨by decide, by decide⟩
theorem ar_11 : Ar 11 8 := ⟨by decide, by decide⟩
theorem ar_12 : Ar 12 8 := ⟨by decide, by decide⟩
theorem ar_13 : Ar 13 8 := ⟨by decide, by decide⟩
theorem ar_15 : Ar 15 24 := ⟨by decide, by decide⟩
theorem ar_16 : Ar 16 24 := ⟨by decide, by decide⟩
theorem ar_17 : Ar 17 8 := ⟨by decide, by decide⟩
theorem ar_84 : Ar 84 182 := ⟨by decide, by decide⟩
theorem ar_85 : Ar 85 910 := ⟨by decide, by decide⟩
theorem ar_86 : Ar 86 8 := ⟨by decide, by decide⟩
theorem st_1 : St 1 = true := by decide
theorem St_cases {i : Nat} (h : St i = true) : i = 1 ∨ ∃ k, k < 5 ∧ i = 18 + 13 * k := by
  simp only [St, Bool.or_eq_true, beq_iff_eq] at h
  rcases h with ((((h | h) | h) | h) | h) | h
  · exact Or.inl h
  · exact Or.inr ⟨0, by omega, by omega⟩
  · exact Or.inr ⟨1, by omega, by omega⟩
  · exact Or.inr ⟨2, by omega, by omega⟩
  · exact Or.inr ⟨3, by omega, by omega⟩
  · exact Or.inr ⟨4, by omega, by omega⟩
theorem Ar_S1 {i : Nat} (h : St i = true) : Ar (i + 1) 24 := by
  rcases St_cases h with rfl | ⟨k, hk, rfl⟩
  · exact ar_2
  · exact Ar_hist (j := 1) hk ar_2 (by decide) (by decide)
theorem Ar_S2 {i : Nat} (h : St i = true) : Ar (i + 2) 24 := by
  rcases St_cases h with rfl | ⟨k, hk, rfl⟩
  · exact ar_3
  · exact Ar_hist (j := 2) hk ar_3 (by decide) (by decide)
theorem Ar_S3 {i : Nat} (h : St i = true) : Ar (i + 3) 24 := by
  rcases St_cases h with rfl | ⟨k, hk, rfl⟩
  · exact ar_4
  · exact Ar_hist (j := 3) hk ar_4 (by decide) (by decide)
theorem Ar_S4 {i : Nat} (h : St i = true) : Ar (i + 4) 24 := by
  rcases St_cases h with rfl | ⟨k, hk, rfl⟩
  · exact ar_5
  · exact Ar_hist (j := 4) hk ar_5 (by decide) (by decide)
theorem Ar_S5 {i : Nat} (h : St i = true) : Ar (i + 5) 8 := by
  rcases St_cases h with rfl | ⟨k, hk, rfl⟩
  · exact ar_6
  · exact Ar_hist (j := 5) hk ar_6 (by decide) (by decide)
theorem Ar_S6 {i : Nat} (h : St i = true) : Ar (i + 6) 8 := by
  rcases St_cases h with rfl | ⟨k, hk, rfl⟩
  · exact ar_7
  · exact Ar_hist (j := 6) hk ar_7 (by decide) (by decide)
theorem Ar_S7 {i : Nat} (h : St i = true) : Ar (i + 7) 8 := by
  rcases St_cases h with rfl | ⟨k, hk, rfl⟩
  · exact ar_8
  · exact Ar_hist (j := 7) hk ar_8 (by decide) (by decide)
theorem Ar_S8 {i : Nat} (h : St i = true) : Ar (i + 8) 8 := by
  rcases St_cases h with rfl | ⟨k, hk, rfl⟩
  · exact ar_9
  · exact Ar_hist (j := 8) hk ar_9 (by decide) (by decide)
theorem Ar_S9 {i : Nat} (h : St i = true) : Ar (i + 9) 8 := by
  rcases St_cases h with rfl | ⟨k, hk, rfl⟩
  · exact ar_10
  · exact Ar_hist (j := 9) hk ar_10 (by decide) (by decide)
theorem Ar_S10 {i : Nat} (h : St i = true) : Ar (i + 10) 8 := by
  rcases St_cases h with rfl | ⟨k, hk, rfl⟩
  · exact ar_11
  · exact Ar_hist (j := 10) hk ar_11 (by decide) (by decide)
theorem Ar_S11 {i : Nat} (h : St i = true) : Ar (i + 11) 8 := by
  rcases St_cases h with rfl | ⟨k, hk, rfl⟩
  · exact ar_12
  · exact Ar_hist (j := 11) hk ar_12 (by decide) (by decide)
theorem Ar_S12 {i : Nat} (h : St i = true) : Ar (i + 12) 8 := by
  rcases St_cases h with rfl | ⟨k, hk, rfl⟩
  · exact ar_13
  · exact Ar_hist (j := 12) hk ar_13 (by decide) (by decide)
section
variable {p : Program} {l : Launch} {e : Env} {rm : Room} {s : State} {m : MethodId} {args : Array Value} {below : List Frame} {meth : Method} {c : Code} {H H0 : Heap} {locs : List Loc} {cells slots : Nat} {Q : State → Prop} {cc : ByteArray} {pc : Nat} {ls : Array Slot} {rest st0 : List Value} {D : va_G} {cI cS : ClassId} {ad : Nat → Nat} {R F : Nat → Nat → Int32} {own : String} {index : Nat} {Ts : List Cond}
theorem q_top {x y : Int32} (h : x = y) (kk : W p l e rm s m args below meth c H locs cells slots Q (F0 m pc ls (.int y :: rest))) : W p l e rm s m args below meth c H locs cells slots Q (F0 m pc ls (.int x :: rest)) := h ▸ kk
theorem q_ildN (hx : p.tables.exec = Jvm.exec) (hb : c.code = cc) (hK : KK D cI cS s) (hP : WP D cI cS ad R F H) (i n : Nat) (ha : Ar i n) (k : Nat) {x : Int32} (hdg : decode cc pc = .ok (.iaload, 1)) (hxk : x = nI k) (hk : k < n) (hn : n < 2 ^ 31)
    (kk : W p l e rm s m args below meth c H locs cells slots Q (F0 m (pc + 1) ls (.int (R i k) :: rest))) : W p l e rm s m args below meth c H locs cells slots Q (F0 m pc ls (.int x :: .ref (ad i) :: rest)) := by
  subst hxk
  refine q_ild hx hb hK hP i n ha hdg (vp_in_nI hk hn) ?_
  rw [nI_clamp (by omega)]
  exact kk
theorem q_istN (hx : p.tables.exec = Jvm.exec) (hb : c.code = cc) (hK : KK D cI cS s) (hI : Inj ad) (hP : WP D cI cS ad R F H) (hS : va_S (AA ad) H0 H locs) (i n : Nat) (ha : Ar i n) (k : Nat) {x v : Int32} (hdg : decode cc pc = .ok (.iastore, 1)) (hxk : x = nI k) (hk : k < n) (hn : n < 2 ^ 31)
    (kk : ∀ (H1 : Heap) (locs1 : List Loc), WP D cI cS ad (sR R i k v) F H1 → va_S (AA ad) H0 H1 locs1 → W p l e rm s m args below meth c H1 locs1 cells slots Q (F0 m (pc + 1) ls rest)) : W p l e rm s m args below meth c H locs cells slots Q (F0 m pc ls (.int v :: .int x :: .ref (ad i) :: rest)) := by
  subst hxk
  refine q_ist hx hb hK hI hP hS i n ha hdg (vp_in_nI hk hn) ?_
  rw [nI_clamp (by omega)]
  exact kk
theorem q_copy (hx : p.tables.exec = Jvm.exec) (hb : c.code = cc) (hml : c.maxLocals = ls.size) (hown : s.vm.findClass own = some m.cls) (hlink : (Cond.methodLink own index arraycopyName).before args s = true) (hnat : (Cond.native arraycopyName).before args s = true) (hstat : (Cond.static arraycopyName).before args s = true) (hini : (Cond.initialized "java/lang/System").before args s = true) (hK : KK D cI cS s) (hI : Inj ad) (hP : WP D cI cS ad R F H) (hS : va_S (AA ad) H0 H locs) (i j n : Nat) (hi : Ar i n) (hj : Ar j n) (hn : n < 2 ^ 31) (hframes : 1 ≤ rm.frames) (hlocals : (rest.map fun v => v.category).sum + (nativeFrameWords "java/lang/System" "arraycopy" 5 + 11) ≤ rm.locals) (hdg : decode cc pc = .ok (.invokestatic index, 3))
    (kk : ∀ (H1 : Heap) (locs1 : List Loc), WP D cI cS ad (va_up R j (va_cpy (R i) (R j) 0 0 n)) F H1 → va_S (AA ad) H0 H1 locs1 → W p l e rm s m args below meth c H1 locs1 cells slots Q (F0 m (pc + 3) ls rest)) : W p l e rm s m args below meth c H locs cells slots Q (F0 m pc ls (.int (nI n) :: .int 0 :: .ref (ad j) :: .int 0 :: .ref (ad i) :: rest)) := by
  have hcl : (nI n).toNatClampNeg = n := nI_clamp hn
  have h0 : (0 : Int32).toNatClampNeg = 0 := rfl
  refine va_copyi hx hb hml hown hlink hnat hstat hini hK.1 hP (wl_D hI) hS i j 0 0 ((wl_at (isA_lt hi.1)).trans (by rw [CC_A hi])) ((wl_at (isA_lt hj.1)).trans (by rw [CC_A hj])) rfl rfl rfl (by decide) (by decide) (nI_pos hn) (by rw [hcl, h0]; omega) (by rw [hcl, h0]; omega) (fun _ _ => rfl) hframes hlocals hdg (fun H1 locs1 hP1 _ hS1 => kk H1 locs1 ?_ hS1)
  rw [wl_set (isA_lt hj.1), CC_upA hj, hcl, h0] at hP1
  exact hP1
theorem q_hld (hx : p.tables.exec = Jvm.exec) (hb : c.code = cc) (hK : KK D cI cS s) (hP : WP D cI cS ad R F H) (k : Nat) {x : Int32} (hdg : decode cc pc = .ok (.aaload, 1)) (hxk : x = nI k) (hk : k < 5)
    (kk : W p l e rm s m args below meth c H locs cells slots Q (F0 m (pc + 1) ls (.ref (ad (18 + 13 * k)) :: rest))) : W p l e rm s m args below meth c H locs cells slots Q (F0 m pc ls (.int x :: .ref (ad 14) :: rest)) := by
  subst hxk
  refine va_aldq hx hb hK.1 hP 14 1 ((wl_at (by decide)).trans (by rw [CC_14])) rfl (vp_in_nI hk (by decide)) hdg ?_
  rw [nI_clamp (by omega)]
  exact kk
end
theorem ne_toInt {x : Int32} {v : Int32} {n : Int} (hn : v.toInt = n) (h : ¬ x = v) : x.toInt ≠ n := fun e => h (Int32.toInt_inj.mp (e.trans hn.symm))
theorem sw_out5 {x : Int32} (h0 : ¬ x = (0 : Int32)) (h1 : ¬ x = (1 : Int32)) (h2 : ¬ x = (2 : Int32)) (h3 : ¬ x = (3 : Int32)) (h4 : ¬ x = (4 : Int32)) : x.toInt < 0 ∨ 4 < x.toInt := by
  have g0 := ne_toInt (n := 0) (by decide) h0
  have g1 := ne_toInt (n := 1) (by decide) h1
  have g2 := ne_toInt (n := 2) (by decide) h2
  have g3 := ne_toInt (n := 3) (by decide) h3
  have g4 := ne_toInt (n := 4) (by decide) h4
  omega
theorem sw_out8 {x : Int32} (h0 : ¬ x = (0 : Int32)) (h1 : ¬ x = (1 : Int32)) (h2 : ¬ x = (2 : Int32)) (h3 : ¬ x = (3 : Int32)) (h4 : ¬ x = (4 : Int32)) (h5 : ¬ x = (5 : Int32)) (h6 : ¬ x = (6 : Int32)) (h7 : ¬ x = (7 : Int32)) : x.toInt < 0 ∨ 7 < x.toInt := by
  have g0 := ne_toInt (n := 0) (by decide) h0
  have g1 := ne_toInt (n := 1) (by decide) h1
  have g2 := ne_toInt (n := 2) (by decide) h2
  have g3 := ne_toInt (n := 3) (by decide) h3
  have g4 := ne_toInt (n := 4) (by decide) h4
  have g5 := ne_toInt (n := 5) (by decide) h5
  have g6 := ne_toInt (n := 6) (by decide) h6
  have g7 := ne_toInt (n := 7) (by decide) h7
  omega
theorem sw_out12 {x : Int32} (h0 : ¬ x = (0 : Int32)) (h1 : ¬ x = (1 : Int32)) (h2 : ¬ x = (2 : Int32)) (h3 : ¬ x = (3 : Int32)) (h4 : ¬ x = (4 : Int32)) (h5 : ¬ x = (5 : Int32)) (h6 : ¬ x = (6 : Int32)) (h7 : ¬ x = (7 : Int32)) (h8 : ¬ x = (8 : Int32)) (h9 : ¬ x = (9 : Int32)) (h10 : ¬ x = (10 : Int32)) (h11 : ¬ x = (11 : Int32)) : x.toInt < 0 ∨ 11 < x.toInt := by
  have g0 := ne_toInt (n := 0) (by decide) h0
  have g1 := ne_toInt (n := 1) (by decide) h1
  have g2 := ne_toInt (n := 2) (by decide) h2
  have g3 := ne_toInt (n := 3) (by decide) h3
  have g4 := ne_toInt (n := 4) (by decide) h4
  have g5 := ne_toInt (n := 5) (by decide) h5
  have g6 := ne_toInt (n := 6) (by decide) h6
  have g7 := ne_toInt (n := 7) (by decide) h7
  have g8 := ne_toInt (n := 8) (by decide) h8
  have g9 := ne_toInt (n := 9) (by decide) h9
  have g10 := ne_toInt (n := 10) (by decide) h10
  have g11 := ne_toInt (n := 11) (by decide) h11
  omega
theorem sw_out21 {x : Int32} (h0 : ¬ x = (0 : Int32)) (h1 : ¬ x = (1 : Int32)) (h2 : ¬ x = (2 : Int32)) (h3 : ¬ x = (3 : Int32)) (h4 : ¬ x = (4 : Int32)) (h5 : ¬ x = (5 : Int32)) (h6 : ¬ x = (6 : Int32)) (h7 : ¬ x = (7 : Int32)) (h8 : ¬ x = (8 : Int32)) (h9 : ¬ x = (9 : Int32)) (h10 : ¬ x = (10 : Int32)) (h11 : ¬ x = (11 : Int32)) (h12 : ¬ x = (12 : Int32)) (h13 : ¬ x = (13 : Int32)) (h14 : ¬ x = (14 : Int32)) (h15 : ¬ x = (15 : Int32)) (h16 : ¬ x = (16 : Int32)) (h17 : ¬ x = (17 : Int32)) (h18 : ¬ x = (18 : Int32)) (h19 : ¬ x = (19 : Int32)) (h20 : ¬ x = (20 : Int32)) : x.toInt < 0 ∨ 20 < x.toInt := by
  have g0 := ne_toInt (n := 0) (by decide) h0
  have g1 := ne_toInt (n := 1) (by decide) h1
  have g2 := ne_toInt (n := 2) (by decide) h2
  have g3 := ne_toInt (n := 3) (by decide) h3
  have g4 := ne_toInt (n := 4) (by decide) h4
  have g5 := ne_toInt (n := 5) (by decide) h5
  have g6 := ne_toInt (n := 6) (by decide) h6
  have g7 := ne_toInt (n := 7) (by decide) h7
  have g8 := ne_toInt (n := 8) (by decide) h8
  have g9 := ne_toInt (n := 9) (by decide) h9
  have g10 := ne_toInt (n := 10) (by decide) h10
  have g11 := ne_toInt (n := 11) (by decide) h11
  have g12 := ne_toInt (n := 12) (by decide) h12
  have g13 := ne_toInt (n := 13) (by decide) h13
  have g14 := ne_toInt (n := 14) (by decide) h14
  have g15 := ne_toInt (n := 15) (by decide) h15
  have g16 := ne_toInt (n := 16) (by decide) h16
  have g17 := ne_toInt (n := 17) (by decide) h17
  have g18 := ne_toInt (n := 18) (by decide) h18
  have g19 := ne_toInt (n := 19) (by decide) h19
  have g20 := ne_toInt (n := 20) (by decide) h20
  omega
theorem Met.ofWF {l : Launch} {y : MethodName} {ws ws' : List Cond} {rm : Room} {Pc : Array Value → State → Prop} {Qc : Array Value → State → Outcome → State → Prop} {mc ms : Nat} {free : Addr → Prop} {cc : ByteArray} {maxL : Nat} {ret : Option FieldType}
    (hy : plainFor y = true) (hw : ws = Cond.code y cc maxL ret :: ws')
    (body : ∀ p e s m args below meth c s₁, BodyLoose p l y (headSpec ws rm) cc maxL ret e s m args below meth c s₁ → c.maxLocals = maxL → Pc args s →
      W p l e (headSpec ws rm).room s m args below meth c s.heap [] 0 0 (MQ below Qc args s mc ms free) (entryFrame m args maxL)) : Met l y ws rm Pc Qc mc ms free := by
  refine MetFree.of_bodySF (code := cc) (maxLocals := maxL) (ret := ret) hy ?_ ?_
  · intro args s m h hn
    obtain ⟨meth, c, h1, h2, h3, h4, h5, h6, -, -⟩ := Cond.code_spec hn (atoms_spec (ws := ws) h _ (by rw [hw]; exact List.mem_cons_self))
    exact ⟨meth, c, h1, h2, h3, h4, h5, h6⟩
  · intro p e s m args below meth c s₁ B hml hP _
    have hh0 : s₁.heap = s.heap := by rw [B.state]; rfl
    obtain ⟨t, a1, o, b1, b2, b3⟩ := body p e s m args below meth c s₁ B hml hP s₁ hh0 (Stand.of_body B)
    exact ⟨t, o, a1, b1, b2, ⟨b3.1, b3.2⟩⟩
end
section
theorem i_nlt {a b : Int32} (h : ¬ a < b) : b.toInt ≤ a.toInt := by
  rw [Int32.lt_iff_toInt_lt] at h
  omega
theorem i_nle {a b : Int32} (h : ¬ a ≤ b) : b.toInt < a.toInt := by
  rw [Int32.le_iff_toInt_le] at h
  omega
theorem i_0 : (0 : Int32).toInt = 0 := rfl
theorem i_7 : (7 : Int32).toInt = 7 := rfl
theorem i_8 : (8 : Int32).toInt = 8 := rfl
theorem i_24 : (24 : Int32).toInt = 24 := rfl
def xJ9_floorMod_7cf53 (p1 : Int32) (p2 : Int32) : Int32 :=
  (if (0 : Int32) ≤ (p1 ^^^ p2) then (p1 - p1 / p2 * p2) else (if (p1 - p1 / p2 * p2) = (0 : Int32) then (p1 - p1 / p2 * p2) else ((p1 - p1 / p2 * p2) + p2)))
set_option maxHeartbeats 4000000 in
set_option maxRecDepth 100000 in
theorem mJ9_floorMod_7cf53 (l : Launch) (D : va_G) (cI cS : ClassId) (ad : Nat → Nat) (hI : Inj ad) (R F : Nat → Nat → Int32) (p1 : Int32) (p2 : Int32) (hne : ¬ p2 = 0) : Met l yJ9_floorMod_7cf53 wsJ9_floorMod_7cf53 ({ frames := 0, cells := 0, slots := 0, locals := 0 }) (PW D cI cS ad R F [.int p1, .int p2]) (QS (xJ9_floorMod_7cf53 p1 p2)) 0 0 (fun _ => False) := by
  refine Met.ofWF (cc := cJ9_floorMod_7cf53) (maxL := 3) (ret := (some .int)) (by decide +kernel) rfl ?_
  intro p e s m args below meth c s₁ B hml hv
  obtain ⟨rfl, hP, hK⟩ := hv
  have hx := B.exec
  have hb := B.bytes
  have hr := B.returns
  have hts := atoms_spec (ws := wsJ9_floorMod_7cf53) B.pre
  have hown : s.vm.findClass RJ9 = some m.cls := findClass_of_methodNamed B.named
  have hlocks := B.notSynchronized
  have hS : va_S (AA ad) s.heap s.heap [] := va_S.rf
  have hl := lv_entry ([.int p1, .int p2]) (n := 3) (Nat.le_of_ble_eq_true rfl)
  rw [lg_entry_eq]
  generalize (lg_sl ([.int p1, .int p2]) ++ List.replicate (3 - (lg_sl ([.int p1, .int p2])).length) Slot.unset).toArray = ls at hl ⊢
  have hl : lv_has ls 3 [(0, .int p1), (1, .int p2)] := hl
  refine lv_iload_n hx hb dJ9_floorMod_7cf53_0 rfl (lv_at hl 0 rfl) ?_
  refine lv_iload_n hx hb dJ9_floorMod_7cf53_1 rfl (lv_at hl 1 rfl) ?_
  refine lv_irem hx hb dJ9_floorMod_7cf53_2 hne ?_
  refine lv_istore_n (lv' := [(2, .int (p1 - p1 / p2 * p2)), (0, .int p1), (1, .int p2)]) hx hb dJ9_floorMod_7cf53_3 rfl hl (by decide) rfl (fun ls hl => ?_)
  refine lv_iload_n hx hb dJ9_floorMod_7cf53_4 rfl (lv_at hl 1 rfl) ?_
  refine lv_iload_n hx hb dJ9_floorMod_7cf53_5 rfl (lv_at hl 2 rfl) ?_
  refine lv_ixor hx hb dJ9_floorMod_7cf53_6 ?_
  refine lv_if_ge (tgt := 18) hx hb dJ9_floorMod_7cf53_7 (by decide) (fun c_7 => ?_) (fun c_7 => ?_)
  · refine lv_iload_n hx hb dJ9_floorMod_7cf53_18 rfl (lv_at hl 0 rfl) ?_
    have hX : (xJ9_floorMod_7cf53 p1 p2) = (p1 - p1 / p2 * p2) := by unfold xJ9_floorMod_7cf53; rw [if_pos c_7]
    exact W.iret (v := (p1 - p1 / p2 * p2)) hx hb hr (fun t ht hW => ⟨by rw [hX], ht⟩) (fun _ h => by cases h) dJ9_floorMod_7cf53_19
  · refine lv_iload_n hx hb dJ9_floorMod_7cf53_10 rfl (lv_at hl 0 rfl) ?_
    refine lv_if_eq (tgt := 18) hx hb dJ9_floorMod_7cf53_11 (by decide) (fun c_11 => ?_) (fun c_11 => ?_)
    · refine lv_iload_n hx hb dJ9_floorMod_7cf53_18 rfl (lv_at hl 0 rfl) ?_
      have hX : (xJ9_floorMod_7cf53 p1 p2) = (p1 - p1 / p2 * p2) := by unfold xJ9_floorMod_7cf53; rw [if_neg c_7, if_pos c_11]
      exact W.iret (v := (p1 - p1 / p2 * p2)) hx hb hr (fun t ht hW => ⟨by rw [hX], ht⟩) (fun _ h => by cases h) dJ9_floorMod_7cf53_19
    · refine lv_iload_n hx hb dJ9_floorMod_7cf53_14 rfl (lv_at hl 0 rfl) ?_
      refine lv_iload_n hx hb dJ9_floorMod_7cf53_15 rfl (lv_at hl 2 rfl) ?_
      refine lv_iadd hx hb dJ9_floorMod_7cf53_16 ?_
      have hX : (xJ9_floorMod_7cf53 p1 p2) = ((p1 - p1 / p2 * p2) + p2) := by unfold xJ9_floorMod_7cf53; rw [if_neg c_7, if_neg c_11]
      exact W.iret (v := ((p1 - p1 / p2 * p2) + p2)) hx hb hr (fun t ht hW => ⟨by rw [hX], ht⟩) (fun _ h => by cases h) dJ9_floorMod_7cf53_17

def xX1_isWithin (p1 : Int32) (p2 : Int32) (p3 : Int32) : Int32 :=
  (if p1 < p2 then (0 : Int32) else (if p3 < p1 then (0 : Int32) else (1 : Int32)))
set_option maxHeartbeats 4000000 in
set_option maxRecDepth 100000 in
theorem mX1_isWithin (l : Launch) (D : va_G) (cI cS : ClassId) (ad : Nat → Nat) (hI : Inj ad) (R F : Nat → Nat → Int32) (p1 : Int32) (p2 : Int32) (p3 : Int32) : Met l yX1_isWithin wsX1_isWithin ({ frames := 0, cells := 0, slots := 0, locals := 0 }) (PW D cI cS ad R F [.int p1, .int p2, .int p3]) (QS (xX1_isWithin p1 p2 p3)) 0 0 (fun _ => False) := by
  refine Met.ofW (cc := cX1_isWithin) (maxL := 3) (ret := (some .boolean)) (by decide) rfl ?_
  intro p e s m args below meth c s₁ B hml hv
  obtain ⟨rfl, hP, hK⟩ := hv
  have hx := B.exec
  have hb := B.bytes
  have hr := B.returns
  have hts := atoms_spec (ws := wsX1_isWithin) B.pre
  have hown : s.vm.findClass RX1 = some m.cls := findClass_of_methodNamed B.named
  have hlocks := B.notSynchronized
  have hS : va_S (AA ad) s.heap s.heap [] := va_S.rf
  have hl := lv_entry ([.int p1, .int p2, .int p3]) (n := 3) (Nat.le_of_ble_eq_true rfl)
  rw [lg_entry_eq]
  generalize (lg_sl ([.int p1, .int p2, .int p3]) ++ List.replicate (3 - (lg_sl ([.int p1, .int p2, .int p3])).length) Slot.unset).toArray = ls at hl ⊢
  have hl : lv_has ls 3 [(0, .int p1), (1, .int p2), (2, .int p3)] := hl
  refine lv_iload_n hx hb dX1_isWithin_0 rfl (lv_at hl 0 rfl) ?_
  refine lv_iload_n hx hb dX1_isWithin_1 rfl (lv_at hl 1 rfl) ?_
  refine lv_icmp_lt (tgt := 14) hx hb dX1_isWithin_2 (by decide) (fun c_2 => ?_) (fun c_2 => ?_)
  · refine lv_iconst (v := 0) hx hb dX1_isWithin_14 (by decide) ?_
    have hX : (xX1_isWithin p1 p2 p3) = (0 : Int32) := by unfold xX1_isWithin; rw [if_pos c_2]
    exact W.zret (v := (0 : Int32)) hx hb hr rfl (fun t ht hW => ⟨by rw [hX], ht⟩) (fun _ h => by cases h) dX1_isWithin_15
  · refine lv_iload_n hx hb dX1_isWithin_5 rfl (lv_at hl 0 rfl) ?_
    refine lv_iload_n hx hb dX1_isWithin_6 rfl (lv_at hl 2 rfl) ?_
    refine lv_icmp_gt (tgt := 14) hx hb dX1_isWithin_7 (by decide) (fun c_7 => ?_) (fun c_7 => ?_)
    · refine lv_iconst (v := 0) hx hb dX1_isWithin_14 (by decide) ?_
      have hX : (xX1_isWithin p1 p2 p3) = (0 : Int32) := by unfold xX1_isWithin; rw [if_neg c_2, if_pos c_7]
      exact W.zret (v := (0 : Int32)) hx hb hr rfl (fun t ht hW => ⟨by rw [hX], ht⟩) (fun _ h => by cases h) dX1_isWithin_15
    · refine lv_iconst (v := 1) hx hb dX1_isWithin_10 (by decide) ?_
      refine lv_goto (tgt := 15) hx hb dX1_isWithin_11 (by decide) ?_
      have hX : (xX1_isWithin p1 p2 p3) = (1 : Int32) := by unfold xX1_isWithin; rw [if_neg c_2, if_neg c_7]
      exact W.zret (v := (1 : Int32)) hx hb hr rfl (fun t ht hW => ⟨by rw [hX], ht⟩) (fun _ h => by cases h) dX1_isWithin_15

theorem nz_X1_isWithin (a b c : Int32) : narrow .boolean (.int (xX1_isWithin a b c)) = .int (xX1_isWithin a b c) := by
  unfold xX1_isWithin
  split
  · rfl
  · split <;> rfl
def xX1_isCell (p1 : Int32) : Int32 :=
  (if p1 < (0 : Int32) then (0 : Int32) else (if (24 : Int32) ≤ p1 then (0 : Int32) else (1 : Int32)))
set_option maxHeartbeats 4000000 in
set_option maxRecDepth 100000 in
theorem mX1_isCell (l : Launch) (D : va_G) (cI cS : ClassId) (ad : Nat → Nat) (hI : Inj ad) (R F : Nat → Nat → Int32) (p1 : Int32) : Met l yX1_isCell wsX1_isCell ({ frames := 0, cells := 0, slots := 0, locals := 0 }) (PW D cI cS ad R F [.int p1]) (QS (xX1_isCell p1)) 0 0 (fun _ => False) := by
  refine Met.ofW (cc := cX1_isCell) (maxL := 1) (ret := (some .boolean)) (by decide) rfl ?_
  intro p e s m args below meth c s₁ B hml hv
  obtain ⟨rfl, hP, hK⟩ := hv
  have hx := B.exec
  have hb := B.bytes
  have hr := B.returns
  have hts := atoms_spec (ws := wsX1_isCell) B.pre
  have hown : s.vm.findClass RX1 = some m.cls := findClass_of_methodNamed B.named
  have hlocks := B.notSynchronized
  have hS : va_S (AA ad) s.heap s.heap [] := va_S.rf
  have hl := lv_entry ([.int p1]) (n := 1) (Nat.le_of_ble_eq_true rfl)
  rw [lg_entry_eq]
  generalize (lg_sl ([.int p1]) ++ List.replicate (1 - (lg_sl ([.int p1])).length) Slot.unset).toArray = ls at hl ⊢
  have hl : lv_has ls 1 [(0, .int p1)] := hl
  refine lv_iload_n hx hb dX1_isCell_0 rfl (lv_at hl 0 rfl) ?_
  refine lv_if_lt (tgt := 14) hx hb dX1_isCell_1 (by decide) (fun c_1 => ?_) (fun c_1 => ?_)
  · refine lv_iconst (v := 0) hx hb dX1_isCell_14 (by decide) ?_
    have hX : (xX1_isCell p1) = (0 : Int32) := by unfold xX1_isCell; rw [if_pos c_1]
    exact W.zret (v := (0 : Int32)) hx hb hr rfl (fun t ht hW => ⟨by rw [hX], ht⟩) (fun _ h => by cases h) dX1_isCell_15
  · refine lv_iload_n hx hb dX1_isCell_4 rfl (lv_at hl 0 rfl) ?_
    refine lv_bipush (v := 24) hx hb dX1_isCell_5 (by decide) ?_
    refine lv_icmp_ge (tgt := 14) hx hb dX1_isCell_7 (by decide) (fun c_7 => ?_) (fun c_7 => ?_)
    · refine lv_iconst (v := 0) hx hb dX1_isCell_14 (by decide) ?_
      have hX : (xX1_isCell p1) = (0 : Int32) := by unfold xX1_isCell; rw [if_neg c_1, if_pos c_7]
      exact W.zret (v := (0 : Int32)) hx hb hr rfl (fun t ht hW => ⟨by rw [hX], ht⟩) (fun _ h => by cases h) dX1_isCell_15
    · refine lv_iconst (v := 1) hx hb dX1_isCell_10 (by decide) ?_
      refine lv_goto (tgt := 15) hx hb dX1_isCell_11 (by decide) ?_
      have hX : (xX1_isCell p1) = (1 : Int32) := by unfold xX1_isCell; rw [if_neg c_1, if_neg c_7]
      exact W.zret (v := (1 : Int32)) hx hb hr rfl (fun t ht hW => ⟨by rw [hX], ht⟩) (fun _ h => by cases h) dX1_isCell_15

def xX1_isWeight (p1 : Int32) : Int32 :=
  (xX1_isWithin p1 (20 : Int32) (150 : Int32))
set_option maxHeartbeats 4000000 in
set_option maxRecDepth 100000 in
theorem mX1_isWeight (l : Launch) (D : va_G) (cI cS : ClassId) (ad : Nat → Nat) (hI : Inj ad) (R F : Nat → Nat → Int32) (p1 : Int32) : Met l yX1_isWeight wsX1_isWeight ({ frames := 1, cells := 0, slots := 0, locals := 22 }) (PW D cI cS ad R F [.int p1]) (QS (xX1_isWeight p1)) 0 0 (fun _ => False) := by
  refine Met.ofW (cc := cX1_isWeight) (maxL := 1) (ret := (some .boolean)) (by decide) rfl ?_
  intro p e s m args below meth c s₁ B hml hv
  obtain ⟨rfl, hP, hK⟩ := hv
  have hx := B.exec
  have hb := B.bytes
  have hr := B.returns
  have hts := atoms_spec (ws := wsX1_isWeight) B.pre
  have hown : s.vm.findClass RX1 = some m.cls := findClass_of_methodNamed B.named
  have hlocks := B.notSynchronized
  have hS : va_S (AA ad) s.heap s.heap [] := va_S.rf
  have hl := lv_entry ([.int p1]) (n := 1) (Nat.le_of_ble_eq_true rfl)
  rw [lg_entry_eq]
  generalize (lg_sl ([.int p1]) ++ List.replicate (1 - (lg_sl ([.int p1])).length) Slot.unset).toArray = ls at hl ⊢
  have hl : lv_has ls 1 [(0, .int p1)] := hl
  refine lv_iload_n hx hb dX1_isWeight_0 rfl (lv_at hl 0 rfl) ?_
  refine lv_bipush (v := 20) hx hb dX1_isWeight_1 (by decide) ?_
  refine lv_sipush (v := 150) hx hb dX1_isWeight_3 (by decide) ?_
  refine q_callS (va_runS (As := [.int p1, .int (20 : Int32), .int (150 : Int32)]) (rest := []) ⟨hx, hb, hml, hown, hts⟩ (mX1_isWithin l D cI cS ad hI R F p1 (20 : Int32) (150 : Int32)) (va_cwS 3 hts gX1_isWeight_X1_isWithin rfl rfl rfl (by decide +kernel) ⟨Nat.le_of_ble_eq_true rfl, Nat.le_of_ble_eq_true rfl⟩) (PW_preS hK hP) rfl rfl hl.1 rfl (lv_room (Nat.le_of_ble_eq_true rfl)) dX1_isWeight_6 ⟨Nat.zero_le _, Nat.zero_le _⟩) ?_
  have hX : (xX1_isWeight p1) = (xX1_isWithin p1 (20 : Int32) (150 : Int32)) := by unfold xX1_isWeight; rfl
  exact W.zret (v := (xX1_isWithin p1 (20 : Int32) (150 : Int32))) hx hb hr (nz_X1_isWithin _ _ _) (fun t ht hW => ⟨by rw [hX], ht⟩) (fun _ h => by cases h) dX1_isWeight_9

def xX1_isWalker (R F : Nat → Nat → Int32) (p1 : Int32) : Int32 :=
  (if p1 < (0 : Int32) then (0 : Int32) else (if (F 1 2) ≤ p1 then (0 : Int32) else (if (8 : Int32) ≤ p1 then (0 : Int32) else (1 : Int32))))
set_option maxHeartbeats 4000000 in
set_option maxRecDepth 100000 in
theorem mX1_isWalker (l : Launch) (D : va_G) (cI cS : ClassId) (ad : Nat → Nat) (hI : Inj ad) (R F : Nat → Nat → Int32) (p1 : Int32) : Met l yX1_isWalker wsX1_isWalker ({ frames := 0, cells := 0, slots := 0, locals := 0 }) (PW D cI cS ad R F [.ref (ad 0), .int p1]) (QS (xX1_isWalker R F p1)) 0 0 (fun _ => False) := by
  refine Met.ofW (cc := cX1_isWalker) (maxL := 2) (ret := (some .boolean)) (by decide) rfl ?_
  intro p e s m args below meth c s₁ B hml hv
  obtain ⟨rfl, hP, hK⟩ := hv
  have hx := B.exec
  have hb := B.bytes
  have hr := B.returns
  have hts := atoms_spec (ws := wsX1_isWalker) B.pre
  have hown : s.vm.findClass RX1 = some m.cls := findClass_of_methodNamed B.named
  have hlocks := B.notSynchronized
  have hS : va_S (AA ad) s.heap s.heap [] := va_S.rf
  have hl := lv_entry ([.ref (ad 0), .int p1]) (n := 2) (Nat.le_of_ble_eq_true rfl)
  rw [lg_entry_eq]
  generalize (lg_sl ([.ref (ad 0), .int p1]) ++ List.replicate (2 - (lg_sl ([.ref (ad 0), .int p1])).length) Slot.unset).toArray = ls at hl ⊢
  have hl : lv_has ls 2 [(0, .ref (ad 0)), (1, .int p1)] := hl
  have lk10 := hts (.fieldLink RX1 10 "FerryFloor" "now" "LFerryFloor$State;") (by decide +kernel)
  have lk79 := hts (.fieldLink RX1 79 "FerryFloor$State" "walkers" "I") (by decide +kernel)
  have hin1 : ∀ w ∈ u_ws RX1 TX1 7, w ∈ wsX1_isWalker := by decide +kernel
  have hin0 : ∀ w ∈ u_ws RX0 TX0 15, w ∈ wsX1_isWalker := by decide +kernel
  refine lv_iload_n hx hb dX1_isWalker_0 rfl (lv_at hl 1 rfl) ?_
  refine lv_if_lt (tgt := 25) hx hb dX1_isWalker_1 (by decide) (fun c_1 => ?_) (fun c_1 => ?_)
  · refine lv_iconst (v := 0) hx hb dX1_isWalker_25 (by decide) ?_
    have hX : (xX1_isWalker R F p1) = (0 : Int32) := by unfold xX1_isWalker; rw [if_pos c_1]
    exact W.zret (v := (0 : Int32)) hx hb hr rfl (fun t ht hW => ⟨by rw [hX], ht⟩) (fun _ h => by cases h) dX1_isWalker_26
  · refine lv_iload_n hx hb dX1_isWalker_4 rfl (lv_at hl 1 rfl) ?_
    refine lv_aload_n hx hb dX1_isWalker_5 rfl (lv_at hl 0 rfl) ?_
    refine q_getF (v := .ref (ad 1)) hx hb hts hin1 hown hK hP 0 (by decide) lk10 (fun _ h => h) rfl dX1_isWalker_6 ?_
    refine q_getS (v := .int (F 1 2)) hx hb hts hin0 hown hK hP 1 st_1 2 (by decide) lk79 (fun _ h => h) rfl dX1_isWalker_9 ?_
    refine lv_icmp_ge (tgt := 25) hx hb dX1_isWalker_12 (by decide) (fun c_12 => ?_) (fun c_12 => ?_)
    · refine lv_iconst (v := 0) hx hb dX1_isWalker_25 (by decide) ?_
      have hX : (xX1_isWalker R F p1) = (0 : Int32) := by unfold xX1_isWalker; rw [if_neg c_1, if_pos c_12]
      exact W.zret (v := (0 : Int32)) hx hb hr rfl (fun t ht hW => ⟨by rw [hX], ht⟩) (fun _ h => by cases h) dX1_isWalker_26
    · refine lv_iload_n hx hb dX1_isWalker_15 rfl (lv_at hl 1 rfl) ?_
      refine lv_bipush (v := 8) hx hb dX1_isWalker_16 (by decide) ?_
      refine lv_icmp_ge (tgt := 25) hx hb dX1_isWalker_18 (by decide) (fun c_18 => ?_) (fun c_18 => ?_)
      · refine lv_iconst (v := 0) hx hb dX1_isWalker_25 (by decide) ?_
        have hX : (xX1_isWalker R F p1) = (0 : Int32) := by unfold xX1_isWalker; rw [if_neg c_1, if_neg c_12, if_pos c_18]
        exact W.zret (v := (0 : Int32)) hx hb hr rfl (fun t ht hW => ⟨by rw [hX], ht⟩) (fun _ h => by cases h) dX1_isWalker_26
      · refine lv_iconst (v := 1) hx hb dX1_isWalker_21 (by decide) ?_
        refine lv_goto (tgt := 26) hx hb dX1_isWalker_22 (by decide) ?_
        have hX : (xX1_isWalker R F p1) = (1 : Int32) := by unfold xX1_isWalker; rw [if_neg c_1, if_neg c_12, if_neg c_18]
        exact W.zret (v := (1 : Int32)) hx hb hr rfl (fun t ht hW => ⟨by rw [hX], ht⟩) (fun _ h => by cases h) dX1_isWalker_26

theorem isCell_in {p : Int32} (h : ¬ xX1_isCell p = 0) : vp_in p 24 := by
  unfold xX1_isCell at h
  split at h
  · exact absurd rfl h
  · next h1 =>
    split at h
    · exact absurd rfl h
    · next h2 =>
      have a := i_nlt h1
      have b := i_nle h2
      rw [i_0] at a
      rw [i_24] at b
      exact vp_in_iff.mpr ⟨a, b⟩
theorem isWalker_in {R F : Nat → Nat → Int32} {p : Int32} (h : ¬ xX1_isWalker R F p = 0) : vp_in p 8 := by
  unfold xX1_isWalker at h
  split at h
  · exact absurd rfl h
  · next h1 =>
    split at h
    · exact absurd rfl h
    · split at h
      · exact absurd rfl h
      · next h2 =>
        have a := i_nlt h1
        have b := i_nle h2
        rw [i_0] at a
        rw [i_8] at b
        exact vp_in_iff.mpr ⟨a, b⟩
def xX1_isPair (R F : Nat → Nat → Int32) (p1 : Int32) (p2 : Int32) : Int32 :=
  (if (xX1_isWalker R F p1) = (0 : Int32) then (0 : Int32) else (if (xX1_isWalker R F p2) = (0 : Int32) then (0 : Int32) else (if p1 = p2 then (0 : Int32) else (1 : Int32))))
set_option maxHeartbeats 4000000 in
set_option maxRecDepth 100000 in
theorem mX1_isPair (l : Launch) (D : va_G) (cI cS : ClassId) (ad : Nat → Nat) (hI : Inj ad) (R F : Nat → Nat → Int32) (p1 : Int32) (p2 : Int32) : Met l yX1_isPair wsX1_isPair ({ frames := 1, cells := 0, slots := 0, locals := 21 }) (PW D cI cS ad R F [.ref (ad 0), .int p1, .int p2]) (QS (xX1_isPair R F p1 p2)) 0 0 (fun _ => False) := by
  refine Met.ofW (cc := cX1_isPair) (maxL := 3) (ret := (some .boolean)) (by decide) rfl ?_
  intro p e s m args below meth c s₁ B hml hv
  obtain ⟨rfl, hP, hK⟩ := hv
  have hx := B.exec
  have hb := B.bytes
  have hr := B.returns
  have hts := atoms_spec (ws := wsX1_isPair) B.pre
  have hown : s.vm.findClass RX1 = some m.cls := findClass_of_methodNamed B.named
  have hlocks := B.notSynchronized
  have hS : va_S (AA ad) s.heap s.heap [] := va_S.rf
  have hl := lv_entry ([.ref (ad 0), .int p1, .int p2]) (n := 3) (Nat.le_of_ble_eq_true rfl)
  rw [lg_entry_eq]
  generalize (lg_sl ([.ref (ad 0), .int p1, .int p2]) ++ List.replicate (3 - (lg_sl ([.ref (ad 0), .int p1, .int p2])).length) Slot.unset).toArray = ls at hl ⊢
  have hl : lv_has ls 3 [(0, .ref (ad 0)), (1, .int p1), (2, .int p2)] := hl
  refine lv_aload_n hx hb dX1_isPair_0 rfl (lv_at hl 0 rfl) ?_
  refine lv_iload_n hx hb dX1_isPair_1 rfl (lv_at hl 1 rfl) ?_
  refine q_callS (va_runV (As := [.int p1]) (rest := []) ⟨hx, hb, hml, hown, hts⟩ (mX1_isWalker l D cI cS ad hI R F p1) (cwV 1 hts gX1_isPair_X1_isWalker rfl rfl rfl (by decide +kernel) ⟨Nat.le_of_ble_eq_true rfl, Nat.le_of_ble_eq_true rfl⟩) (PW_preV (i := 0) (by decide) CC_0 rfl rfl hK hP) rfl rfl hl.1 rfl (lv_room (Nat.le_of_ble_eq_true rfl)) dX1_isPair_2 ⟨Nat.zero_le _, Nat.zero_le _⟩) ?_
  refine lv_if_eq (tgt := 25) hx hb dX1_isPair_5 (by decide) (fun c_5 => ?_) (fun c_5 => ?_)
  · refine lv_iconst (v := 0) hx hb dX1_isPair_25 (by decide) ?_
    have hX : (xX1_isPair R F p1 p2) = (0 : Int32) := by unfold xX1_isPair; rw [if_pos c_5]
    exact W.zret (v := (0 : Int32)) hx hb hr rfl (fun t ht hW => ⟨by rw [hX], ht⟩) (fun _ h => by cases h) dX1_isPair_26
  · refine lv_aload_n hx hb dX1_isPair_8 rfl (lv_at hl 0 rfl) ?_
    refine lv_iload_n hx hb dX1_isPair_9 rfl (lv_at hl 2 rfl) ?_
    refine q_callS (va_runV (As := [.int p2]) (rest := []) ⟨hx, hb, hml, hown, hts⟩ (mX1_isWalker l D cI cS ad hI R F p2) (cwV 1 hts gX1_isPair_X1_isWalker rfl rfl rfl (by decide +kernel) ⟨Nat.le_of_ble_eq_true rfl, Nat.le_of_ble_eq_true rfl⟩) (PW_preV (i := 0) (by decide) CC_0 rfl rfl hK hP) rfl rfl hl.1 rfl (lv_room (Nat.le_of_ble_eq_true rfl)) dX1_isPair_10 ⟨Nat.zero_le _, Nat.zero_le _⟩) ?_
    refine lv_if_eq (tgt := 25) hx hb dX1_isPair_13 (by decide) (fun c_13 => ?_) (fun c_13 => ?_)
    · refine lv_iconst (v := 0) hx hb dX1_isPair_25 (by decide) ?_
      have hX : (xX1_isPair R F p1 p2) = (0 : Int32) := by unfold xX1_isPair; rw [if_neg c_5, if_pos c_13]
      exact W.zret (v := (0 : Int32)) hx hb hr rfl (fun t ht hW => ⟨by rw [hX], ht⟩) (fun _ h => by cases h) dX1_isPair_26
    · refine lv_iload_n hx hb dX1_isPair_16 rfl (lv_at hl 1 rfl) ?_
      refine lv_iload_n hx hb dX1_isPair_17 rfl (lv_at hl 2 rfl) ?_
      refine lv_icmp_eq (tgt := 25) hx hb dX1_isPair_18 (by decide) (fun c_18 => ?_) (fun c_18 => ?_)
      · refine lv_iconst (v := 0) hx hb dX1_isPair_25 (by decide) ?_
        have hX : (xX1_isPair R F p1 p2) = (0 : Int32) := by unfold xX1_isPair; rw [if_neg c_5, if_neg c_13, if_pos c_18]
        exact W.zret (v := (0 : Int32)) hx hb hr rfl (fun t ht hW => ⟨by rw [hX], ht⟩) (fun _ h => by cases h) dX1_isPair_26
      · refine lv_iconst (v := 1) hx hb dX1_isPair_21 (by decide) ?_
        refine lv_goto (tgt := 26) hx hb dX1_isPair_22 (by decide) ?_
        have hX : (xX1_isPair R F p1 p2) = (1 : Int32) := by unfold xX1_isPair; rw [if_neg c_5, if_neg c_13, if_neg c_18]
        exact W.zret (v := (1 : Int32)) hx hb hr rfl (fun t ht hW => ⟨by rw [hX], ht⟩) (fun _ h => by cases h) dX1_isPair_26

def xX1_isAboard (R F : Nat → Nat → Int32) (p1 : Int32) : Int32 :=
  (if (xX1_isWalker R F p1) = (0 : Int32) then (0 : Int32) else (if (R 7 (p1).toNatClampNeg) = (-100009 : Int32) then (0 : Int32) else (1 : Int32)))
set_option maxHeartbeats 4000000 in
set_option maxRecDepth 100000 in
theorem mX1_isAboard (l : Launch) (D : va_G) (cI cS : ClassId) (ad : Nat → Nat) (hI : Inj ad) (R F : Nat → Nat → Int32) (p1 : Int32) : Met l yX1_isAboard wsX1_isAboard ({ frames := 1, cells := 0, slots := 0, locals := 21 }) (PW D cI cS ad R F [.ref (ad 0), .int p1]) (QS (xX1_isAboard R F p1)) 0 0 (fun _ => False) := by
  refine Met.ofW (cc := cX1_isAboard) (maxL := 2) (ret := (some .boolean)) (by decide) rfl ?_
  intro p e s m args below meth c s₁ B hml hv
  obtain ⟨rfl, hP, hK⟩ := hv
  have hx := B.exec
  have hb := B.bytes
  have hr := B.returns
  have hts := atoms_spec (ws := wsX1_isAboard) B.pre
  have hown : s.vm.findClass RX1 = some m.cls := findClass_of_methodNamed B.named
  have hlocks := B.notSynchronized
  have hS : va_S (AA ad) s.heap s.heap [] := va_S.rf
  have hl := lv_entry ([.ref (ad 0), .int p1]) (n := 2) (Nat.le_of_ble_eq_true rfl)
  rw [lg_entry_eq]
  generalize (lg_sl ([.ref (ad 0), .int p1]) ++ List.replicate (2 - (lg_sl ([.ref (ad 0), .int p1])).length) Slot.unset).toArray = ls at hl ⊢
  have hl : lv_has ls 2 [(0, .ref (ad 0)), (1, .int p1)] := hl
  have lk10 := hts (.fieldLink RX1 10 "FerryFloor" "now" "LFerryFloor$State;") (by decide +kernel)
  have lk71 := hts (.fieldLink RX1 71 "FerryFloor$State" "places" "[I") (by decide +kernel)
  have lk78 := hts (.constant RX1 78 (-100009)) (by decide +kernel)
  have hin1 : ∀ w ∈ u_ws RX1 TX1 7, w ∈ wsX1_isAboard := by decide +kernel
  have hin0 : ∀ w ∈ u_ws RX0 TX0 15, w ∈ wsX1_isAboard := by decide +kernel
  refine lv_aload_n hx hb dX1_isAboard_0 rfl (lv_at hl 0 rfl) ?_
  refine lv_iload_n hx hb dX1_isAboard_1 rfl (lv_at hl 1 rfl) ?_
  refine q_callS (va_runV (As := [.int p1]) (rest := []) ⟨hx, hb, hml, hown, hts⟩ (mX1_isWalker l D cI cS ad hI R F p1) (cwV 1 hts gX1_isAboard_X1_isWalker rfl rfl rfl (by decide +kernel) ⟨Nat.le_of_ble_eq_true rfl, Nat.le_of_ble_eq_true rfl⟩) (PW_preV (i := 0) (by decide) CC_0 rfl rfl hK hP) rfl rfl hl.1 rfl (lv_room (Nat.le_of_ble_eq_true rfl)) dX1_isAboard_2 ⟨Nat.zero_le _, Nat.zero_le _⟩) ?_
  refine lv_if_eq (tgt := 26) hx hb dX1_isAboard_5 (by decide) (fun c_5 => ?_) (fun c_5 => ?_)
  · refine lv_iconst (v := 0) hx hb dX1_isAboard_26 (by decide) ?_
    have hX : (xX1_isAboard R F p1) = (0 : Int32) := by unfold xX1_isAboard; rw [if_pos c_5]
    exact W.zret (v := (0 : Int32)) hx hb hr rfl (fun t ht hW => ⟨by rw [hX], ht⟩) (fun _ h => by cases h) dX1_isAboard_27
  · refine lv_aload_n hx hb dX1_isAboard_8 rfl (lv_at hl 0 rfl) ?_
    refine q_getF (v := .ref (ad 1)) hx hb hts hin1 hown hK hP 0 (by decide) lk10 (fun _ h => h) rfl dX1_isAboard_9 ?_
    refine q_getS (v := .ref (ad 7)) hx hb hts hin0 hown hK hP 1 st_1 8 (by decide) lk71 (fun _ h => h) rfl dX1_isAboard_12 ?_
    refine lv_iload_n hx hb dX1_isAboard_15 rfl (lv_at hl 1 rfl) ?_
    refine q_ild hx hb hK hP 7 8 (ar_7) dX1_isAboard_16 (by first | assumption | exact isCell_in (by assumption) | exact isWalker_in (by assumption) | exact isAboard_in (by assumption) | exact isPair_in1 (by assumption) | exact isPair_in2 (by assumption) | exact isWithin7_in (by assumption) | exact vp_in_nI (by omega) (by decide)) ?_
    refine lv_ldc (v := -100009) hx hb hown lk78 dX1_isAboard_17 ?_
    refine lv_icmp_eq (tgt := 26) hx hb dX1_isAboard_19 (by decide) (fun c_19 => ?_) (fun c_19 => ?_)
    · refine lv_iconst (v := 0) hx hb dX1_isAboard_26 (by decide) ?_
      have hX : (xX1_isAboard R F p1) = (0 : Int32) := by unfold xX1_isAboard; rw [if_neg c_5, if_pos c_19]
      exact W.zret (v := (0 : Int32)) hx hb hr rfl (fun t ht hW => ⟨by rw [hX], ht⟩) (fun _ h => by cases h) dX1_isAboard_27
    · refine lv_iconst (v := 1) hx hb dX1_isAboard_22 (by decide) ?_
      refine lv_goto (tgt := 27) hx hb dX1_isAboard_23 (by decide) ?_
      have hX : (xX1_isAboard R F p1) = (1 : Int32) := by unfold xX1_isAboard; rw [if_neg c_5, if_neg c_19]
      exact W.zret (v := (1 : Int32)) hx hb hr rfl (fun t ht hW => ⟨by rw [hX], ht⟩) (fun _ h => by cases h) dX1_isAboard_27

theorem isAboard_in {R F : Nat → Nat → Int32} {p : Int32} (h : ¬ xX1_isAboard R F p = 0) : vp_in p 8 := by
  unfold xX1_isAboard at h
  split at h
  · exact absurd rfl h
  · next h1 => exact isWalker_in h1
theorem isPair_in1 {R F : Nat → Nat → Int32} {p r : Int32} (h : ¬ xX1_isPair R F p r = 0) : vp_in p 8 := by
  unfold xX1_isPair at h
  split at h
  · exact absurd rfl h
  · next h1 => exact isWalker_in h1
theorem isPair_in2 {R F : Nat → Nat → Int32} {p r : Int32} (h : ¬ xX1_isPair R F p r = 0) : vp_in r 8 := by
  unfold xX1_isPair at h
  split at h
  · exact absurd rfl h
  · split at h
    · exact absurd rfl h
    · next h1 => exact isWalker_in h1
theorem isWithin7_in {p : Int32} (h : ¬ xX1_isWithin p 0 7 = 0) : vp_in p 8 := by
  unfold xX1_isWithin at h
  split at h
  · exact absurd rfl h
  · next h1 =>
    split at h
    · exact absurd rfl h
    · next h2 =>
      have a := i_nlt h1
      have b := i_nlt h2
      rw [i_0] at a
      rw [i_7] at b
      exact vp_in_iff.mpr ⟨a, by omega⟩
end
section
def xX1_nearCell (p1 : Int32) (p2 : Int32) : Int32 :=
  (if p2 = (0 : Int32) then p1 else (if p2 = (1 : Int32) then (p1 - (6 : Int32)) else (if p2 = (2 : Int32) then (p1 + (6 : Int32)) else (if p2 = (3 : Int32) then (if (p1 - p1 / (6 : Int32) * (6 : Int32)) = (0 : Int32) then (-100009 : Int32) else (p1 - (1 : Int32))) else (if p2 = (4 : Int32) then (if (p1 - p1 / (6 : Int32) * (6 : Int32)) = (5 : Int32) then (-100009 : Int32) else (p1 + (1 : Int32))) else (-100009 : Int32))))))
set_option maxHeartbeats 4000000 in
set_option maxRecDepth 100000 in
theorem mX1_nearCell (l : Launch) (D : va_G) (cI cS : ClassId) (ad : Nat → Nat) (hI : Inj ad) (R F : Nat → Nat → Int32) (p1 : Int32) (p2 : Int32) : Met l yX1_nearCell wsX1_nearCell ({ frames := 0, cells := 0, slots := 0, locals := 0 }) (PW D cI cS ad R F [.int p1, .int p2]) (QS (xX1_nearCell p1 p2)) 0 0 (fun _ => False) := by
  refine Met.ofW (cc := cX1_nearCell) (maxL := 3) (ret := (some .int)) (by decide) rfl ?_
  intro p e s m args below meth c s₁ B hml hv
  obtain ⟨rfl, hP, hK⟩ := hv
  have hx := B.exec
  have hb := B.bytes
  have hr := B.returns
  have hts := atoms_spec (ws := wsX1_nearCell) B.pre
  have hown : s.vm.findClass RX1 = some m.cls := findClass_of_methodNamed B.named
  have hlocks := B.notSynchronized
  have hS : va_S (AA ad) s.heap s.heap [] := va_S.rf
  have hl := lv_entry ([.int p1, .int p2]) (n := 3) (Nat.le_of_ble_eq_true rfl)
  rw [lg_entry_eq]
  generalize (lg_sl ([.int p1, .int p2]) ++ List.replicate (3 - (lg_sl ([.int p1, .int p2])).length) Slot.unset).toArray = ls at hl ⊢
  have hl : lv_has ls 3 [(0, .int p1), (1, .int p2)] := hl
  have lk78 := hts (.constant RX1 78 (-100009)) (by decide +kernel)
  refine lv_iload_n hx hb dX1_nearCell_0 rfl (lv_at hl 0 rfl) ?_
  refine lv_bipush (v := 6) hx hb dX1_nearCell_1 (by decide) ?_
  refine lv_irem hx hb dX1_nearCell_3 (by decide) ?_
  refine lv_istore_n (lv' := [(2, .int (p1 - p1 / (6 : Int32) * (6 : Int32))), (0, .int p1), (1, .int p2)]) hx hb dX1_nearCell_4 rfl hl (by decide) rfl (fun ls hl => ?_)
  refine lv_iload_n hx hb dX1_nearCell_5 rfl (lv_at hl 2 rfl) ?_
  by_cases c_6_0 : p2 = (0 : Int32)
  · refine lv_tableIn (x := p2) (off := 34) (tgt := 40) hx hb dX1_nearCell_6 (by rw [c_6_0]; decide) (by rw [c_6_0]; decide) (by rw [c_6_0]; rfl) (by decide) ?_
    refine lv_iload_n hx hb dX1_nearCell_40 rfl (lv_at hl 1 rfl) ?_
    have hX : (xX1_nearCell p1 p2) = p1 := by unfold xX1_nearCell; rw [if_pos c_6_0]
    exact W.iret (v := p1) hx hb hr (fun t ht hW => ⟨by rw [hX], ht⟩) (fun _ h => by cases h) dX1_nearCell_41
  by_cases c_6_1 : p2 = (1 : Int32)
  · refine lv_tableIn (x := p2) (off := 36) (tgt := 42) hx hb dX1_nearCell_6 (by rw [c_6_1]; decide) (by rw [c_6_1]; decide) (by rw [c_6_1]; rfl) (by decide) ?_
    refine lv_iload_n hx hb dX1_nearCell_42 rfl (lv_at hl 1 rfl) ?_
    refine lv_bipush (v := 6) hx hb dX1_nearCell_43 (by decide) ?_
    refine lv_isub hx hb dX1_nearCell_45 ?_
    have hX : (xX1_nearCell p1 p2) = (p1 - (6 : Int32)) := by unfold xX1_nearCell; rw [if_neg c_6_0, if_pos c_6_1]
    exact W.iret (v := (p1 - (6 : Int32))) hx hb hr (fun t ht hW => ⟨by rw [hX], ht⟩) (fun _ h => by cases h) dX1_nearCell_46
  by_cases c_6_2 : p2 = (2 : Int32)
  · refine lv_tableIn (x := p2) (off := 41) (tgt := 47) hx hb dX1_nearCell_6 (by rw [c_6_2]; decide) (by rw [c_6_2]; decide) (by rw [c_6_2]; rfl) (by decide) ?_
    refine lv_iload_n hx hb dX1_nearCell_47 rfl (lv_at hl 1 rfl) ?_
    refine lv_bipush (v := 6) hx hb dX1_nearCell_48 (by decide) ?_
    refine lv_iadd hx hb dX1_nearCell_50 ?_
    have hX : (xX1_nearCell p1 p2) = (p1 + (6 : Int32)) := by unfold xX1_nearCell; rw [if_neg c_6_0, if_neg c_6_1, if_pos c_6_2]
    exact W.iret (v := (p1 + (6 : Int32))) hx hb hr (fun t ht hW => ⟨by rw [hX], ht⟩) (fun _ h => by cases h) dX1_nearCell_51
  by_cases c_6_3 : p2 = (3 : Int32)
  · refine lv_tableIn (x := p2) (off := 46) (tgt := 52) hx hb dX1_nearCell_6 (by rw [c_6_3]; decide) (by rw [c_6_3]; decide) (by rw [c_6_3]; rfl) (by decide) ?_
    refine lv_iload_n hx hb dX1_nearCell_52 rfl (lv_at hl 0 rfl) ?_
    refine lv_if_ne (tgt := 61) hx hb dX1_nearCell_53 (by decide) (fun c_53 => ?_) (fun c_53 => ?_)
    · refine lv_iload_n hx hb dX1_nearCell_61 rfl (lv_at hl 1 rfl) ?_
      refine lv_iconst (v := 1) hx hb dX1_nearCell_62 (by decide) ?_
      refine lv_isub hx hb dX1_nearCell_63 ?_
      have hX : (xX1_nearCell p1 p2) = (p1 - (1 : Int32)) := by unfold xX1_nearCell; rw [if_neg c_6_0, if_neg c_6_1, if_neg c_6_2, if_pos c_6_3, if_neg c_53]
      exact W.iret (v := (p1 - (1 : Int32))) hx hb hr (fun t ht hW => ⟨by rw [hX], ht⟩) (fun _ h => by cases h) dX1_nearCell_64
    · refine lv_ldc (v := -100009) hx hb hown lk78 dX1_nearCell_56 ?_
      refine lv_goto (tgt := 64) hx hb dX1_nearCell_58 (by decide) ?_
      have hX : (xX1_nearCell p1 p2) = (-100009 : Int32) := by unfold xX1_nearCell; rw [if_neg c_6_0, if_neg c_6_1, if_neg c_6_2, if_pos c_6_3, if_pos c_53]
      exact W.iret (v := (-100009 : Int32)) hx hb hr (fun t ht hW => ⟨by rw [hX], ht⟩) (fun _ h => by cases h) dX1_nearCell_64
  by_cases c_6_4 : p2 = (4 : Int32)
  · refine lv_tableIn (x := p2) (off := 59) (tgt := 65) hx hb dX1_nearCell_6 (by rw [c_6_4]; decide) (by rw [c_6_4]; decide) (by rw [c_6_4]; rfl) (by decide) ?_
    refine lv_iload_n hx hb dX1_nearCell_65 rfl (lv_at hl 0 rfl) ?_
    refine lv_iconst (v := 5) hx hb dX1_nearCell_66 (by decide) ?_
    refine lv_icmp_ne (tgt := 75) hx hb dX1_nearCell_67 (by decide) (fun c_67 => ?_) (fun c_67 => ?_)
    · refine lv_iload_n hx hb dX1_nearCell_75 rfl (lv_at hl 1 rfl) ?_
      refine lv_iconst (v := 1) hx hb dX1_nearCell_76 (by decide) ?_
      refine lv_iadd hx hb dX1_nearCell_77 ?_
      have hX : (xX1_nearCell p1 p2) = (p1 + (1 : Int32)) := by unfold xX1_nearCell; rw [if_neg c_6_0, if_neg c_6_1, if_neg c_6_2, if_neg c_6_3, if_pos c_6_4, if_neg c_67]
      exact W.iret (v := (p1 + (1 : Int32))) hx hb hr (fun t ht hW => ⟨by rw [hX], ht⟩) (fun _ h => by cases h) dX1_nearCell_78
    · refine lv_ldc (v := -100009) hx hb hown lk78 dX1_nearCell_70 ?_
      refine lv_goto (tgt := 78) hx hb dX1_nearCell_72 (by decide) ?_
      have hX : (xX1_nearCell p1 p2) = (-100009 : Int32) := by unfold xX1_nearCell; rw [if_neg c_6_0, if_neg c_6_1, if_neg c_6_2, if_neg c_6_3, if_pos c_6_4, if_pos c_67]
      exact W.iret (v := (-100009 : Int32)) hx hb hr (fun t ht hW => ⟨by rw [hX], ht⟩) (fun _ h => by cases h) dX1_nearCell_78
  refine lv_tableOut (x := p2) (tgt := 79) hx hb dX1_nearCell_6 (sw_out5 c_6_0 c_6_1 c_6_2 c_6_3 c_6_4) (by decide) ?_
  refine lv_ldc (v := -100009) hx hb hown lk78 dX1_nearCell_79 ?_
  have hX : (xX1_nearCell p1 p2) = (-100009 : Int32) := by unfold xX1_nearCell; rw [if_neg c_6_0, if_neg c_6_1, if_neg c_6_2, if_neg c_6_3, if_neg c_6_4]
  exact W.iret (v := (-100009 : Int32)) hx hb hr (fun t ht hW => ⟨by rw [hX], ht⟩) (fun _ h => by cases h) dX1_nearCell_81

def hX1_whoIsOn_2 (R F : Nat → Nat → Int32) (i1 : Nat) (p2 : Int32) : Nat → Nat → Int32
  | 0, k => (-100009 : Int32)
  | n + 1, k => (if (R i1 k) = p2 then (nI k) else (hX1_whoIsOn_2 R F i1 p2 n (k + 1)))
theorem hX1_whoIsOn_2_z (R F : Nat → Nat → Int32) (i1 : Nat) (p2 : Int32) (k : Nat) : hX1_whoIsOn_2 R F i1 p2 0 k = (-100009 : Int32) := rfl
theorem hX1_whoIsOn_2_s (R F : Nat → Nat → Int32) (i1 : Nat) (p2 : Int32) (n : Nat) (k : Nat) : hX1_whoIsOn_2 R F i1 p2 (n + 1) k = (if (R i1 k) = p2 then (nI k) else (hX1_whoIsOn_2 R F i1 p2 n (k + 1))) := rfl
def xX1_whoIsOn (R F : Nat → Nat → Int32) (i1 : Nat) (p2 : Int32) : Int32 :=
  (hX1_whoIsOn_2 R F i1 p2 8 0)
set_option maxHeartbeats 4000000 in
set_option maxRecDepth 100000 in
theorem mX1_whoIsOn (l : Launch) (D : va_G) (cI cS : ClassId) (ad : Nat → Nat) (hI : Inj ad) (R F : Nat → Nat → Int32) (i1 : Nat) (p2 : Int32) (hi1 : Ar i1 8) : Met l yX1_whoIsOn wsX1_whoIsOn ({ frames := 0, cells := 0, slots := 0, locals := 0 }) (PW D cI cS ad R F [.ref (ad i1), .int p2]) (QS (xX1_whoIsOn R F i1 p2)) 0 0 (fun _ => False) := by
  refine Met.ofW (cc := cX1_whoIsOn) (maxL := 3) (ret := (some .int)) (by decide) rfl ?_
  intro p e s m args below meth c s₁ B hml hv
  obtain ⟨rfl, hP, hK⟩ := hv
  have hx := B.exec
  have hb := B.bytes
  have hr := B.returns
  have hts := atoms_spec (ws := wsX1_whoIsOn) B.pre
  have hown : s.vm.findClass RX1 = some m.cls := findClass_of_methodNamed B.named
  have hlocks := B.notSynchronized
  have hS : va_S (AA ad) s.heap s.heap [] := va_S.rf
  have hl := lv_entry ([.ref (ad i1), .int p2]) (n := 3) (Nat.le_of_ble_eq_true rfl)
  rw [lg_entry_eq]
  generalize (lg_sl ([.ref (ad i1), .int p2]) ++ List.replicate (3 - (lg_sl ([.ref (ad i1), .int p2])).length) Slot.unset).toArray = ls at hl ⊢
  have hl : lv_has ls 3 [(0, .ref (ad i1)), (1, .int p2)] := hl
  have lk78 := hts (.constant RX1 78 (-100009)) (by decide +kernel)
  refine lv_iconst (v := 0) hx hb dX1_whoIsOn_0 (by decide) ?_
  refine lv_istore_n (lv' := [(2, .int (0 : Int32)), (0, .ref (ad i1)), (1, .int p2)]) hx hb dX1_whoIsOn_1 rfl hl (by decide) rfl (fun ls hl => ?_)
  refine q_loop (fun nn H locs ls => ∃ (k : Nat), k + nn = 8 ∧ hX1_whoIsOn_2 R F i1 p2 nn k = (xX1_whoIsOn R F i1 p2) ∧ WP D cI cS ad R F H ∧ locs = [] ∧ H = s.heap ∧ lv_has ls 3 [(2, .int (nI k)), (0, .ref (ad i1)), (1, .int p2)]) 8 ⟨0, by omega, by unfold xX1_whoIsOn; rfl, hP, rfl, rfl, lv_sub hl [0, 1, 2] rfl⟩ ?_ ?_
  · intro H locs ls hz
    obtain ⟨k, hkn, hsp, hP, rfl, rfl, hl⟩ := hz
    refine lv_iload_n hx hb dX1_whoIsOn_2 rfl (lv_at hl 0 rfl) ?_
    refine lv_bipush (v := 8) hx hb dX1_whoIsOn_3 (by decide) ?_
    refine lv_icmp_ge (tgt := 23) hx hb dX1_whoIsOn_5 (by decide) (fun c_5 => ?_) (fun c_5 => ?_)
    · refine lv_ldc (v := -100009) hx hb hown lk78 dX1_whoIsOn_23 ?_
      have hX : (xX1_whoIsOn R F i1 p2) = (-100009 : Int32) := by rw [← hsp, hX1_whoIsOn_2_z]
      exact W.iret (v := (-100009 : Int32)) hx hb hr (fun t ht hW => ⟨by rw [hX], ht⟩) (fun _ h => by cases h) dX1_whoIsOn_25
    · exact absurd (nI_le (a := 8) (b := k) (by omega) (by omega)) c_5
  · intro n ih H locs ls hz
    obtain ⟨k, hkn, hsp, hP, rfl, rfl, hl⟩ := hz
    refine lv_iload_n hx hb dX1_whoIsOn_2 rfl (lv_at hl 0 rfl) ?_
    refine lv_bipush (v := 8) hx hb dX1_whoIsOn_3 (by decide) ?_
    refine lv_icmp_ge (tgt := 23) hx hb dX1_whoIsOn_5 (by decide) (fun c_5 => ?_) (fun c_5 => ?_)
    · exact absurd c_5 (nI_ge (a := k) (b := 8) (by omega) (by omega))
    · refine lv_aload_n hx hb dX1_whoIsOn_8 rfl (lv_at hl 1 rfl) ?_
      refine lv_iload_n hx hb dX1_whoIsOn_9 rfl (lv_at hl 0 rfl) ?_
      refine q_ildN hx hb hK hP i1 8 hi1 k dX1_whoIsOn_10 rfl (by omega) (by decide) ?_
      refine lv_iload_n hx hb dX1_whoIsOn_11 rfl (lv_at hl 2 rfl) ?_
      refine lv_icmp_ne (tgt := 17) hx hb dX1_whoIsOn_12 (by decide) (fun c_12 => ?_) (fun c_12 => ?_)
      · refine lv_iinc (v := (nI (k + 1))) (lv' := [(2, .int (nI (k + 1))), (0, .ref (ad i1)), (1, .int p2)]) hx hb dX1_whoIsOn_17 hl (k := 0) rfl (nI_1 k) (by decide) rfl (fun ls hl => ?_)
        refine lv_goto (tgt := 2) hx hb dX1_whoIsOn_20 (by decide) ?_
        exact ih _ _ _ ⟨(k + 1), by omega, by rw [← hsp, hX1_whoIsOn_2_s, if_neg c_12], hP, rfl, rfl, lv_sub hl [0, 1, 2] rfl⟩
      · refine lv_iload_n hx hb dX1_whoIsOn_15 rfl (lv_at hl 0 rfl) ?_
        have hX : (xX1_whoIsOn R F i1 p2) = (nI k) := by rw [← hsp, hX1_whoIsOn_2_s, if_pos c_12]
        exact W.iret (v := (nI k)) hx hb hr (fun t ht hW => ⟨by rw [hX], ht⟩) (fun _ h => by cases h) dX1_whoIsOn_16

def xX1_exchange (R F : Nat → Nat → Int32) (i1 : Nat) (p2 : Int32) (p3 : Int32) : (Nat → Nat → Int32) :=
  (sR (sR R i1 ((p2).toNatClampNeg) (R i1 (p3).toNatClampNeg)) i1 ((p3).toNatClampNeg) (R i1 (p2).toNatClampNeg))
set_option maxHeartbeats 4000000 in
set_option maxRecDepth 100000 in
theorem mX1_exchange (l : Launch) (D : va_G) (cI cS : ClassId) (ad : Nat → Nat) (hI : Inj ad) (R F : Nat → Nat → Int32) (i1 : Nat) (p2 : Int32) (p3 : Int32) (hi1 : Ar i1 8) (h2 : vp_in p2 8) (h3 : vp_in p3 8) : Met l yX1_exchange wsX1_exchange ({ frames := 0, cells := 0, slots := 0, locals := 0 }) (PW D cI cS ad R F [.ref (ad i1), .int p2, .int p3]) (QV D cI cS ad (xX1_exchange R F i1 p2 p3) F) 0 0 (AA ad) := by
  refine Met.ofW (cc := cX1_exchange) (maxL := 4) (ret := none) (by decide) rfl ?_
  intro p e s m args below meth c s₁ B hml hv
  obtain ⟨rfl, hP, hK⟩ := hv
  have hx := B.exec
  have hb := B.bytes
  have hr := B.returns
  have hts := atoms_spec (ws := wsX1_exchange) B.pre
  have hown : s.vm.findClass RX1 = some m.cls := findClass_of_methodNamed B.named
  have hlocks := B.notSynchronized
  have hS : va_S (AA ad) s.heap s.heap [] := va_S.rf
  have hl := lv_entry ([.ref (ad i1), .int p2, .int p3]) (n := 4) (Nat.le_of_ble_eq_true rfl)
  rw [lg_entry_eq]
  generalize (lg_sl ([.ref (ad i1), .int p2, .int p3]) ++ List.replicate (4 - (lg_sl ([.ref (ad i1), .int p2, .int p3])).length) Slot.unset).toArray = ls at hl ⊢
  have hl : lv_has ls 4 [(0, .ref (ad i1)), (1, .int p2), (2, .int p3)] := hl
  refine lv_aload_n hx hb dX1_exchange_0 rfl (lv_at hl 0 rfl) ?_
  refine lv_iload_n hx hb dX1_exchange_1 rfl (lv_at hl 1 rfl) ?_
  refine q_ild hx hb hK hP i1 8 hi1 dX1_exchange_2 (by first | assumption | exact isCell_in (by assumption) | exact isWalker_in (by assumption) | exact isAboard_in (by assumption) | exact isPair_in1 (by assumption) | exact isPair_in2 (by assumption) | exact isWithin7_in (by assumption) | exact vp_in_nI (by omega) (by decide)) ?_
  refine lv_istore_n (lv' := [(3, .int (R i1 (p2).toNatClampNeg)), (0, .ref (ad i1)), (1, .int p2), (2, .int p3)]) hx hb dX1_exchange_3 rfl hl (by decide) rfl (fun ls hl => ?_)
  refine lv_aload_n hx hb dX1_exchange_4 rfl (lv_at hl 1 rfl) ?_
  refine lv_iload_n hx hb dX1_exchange_5 rfl (lv_at hl 2 rfl) ?_
  refine lv_aload_n hx hb dX1_exchange_6 rfl (lv_at hl 1 rfl) ?_
  refine lv_iload_n hx hb dX1_exchange_7 rfl (lv_at hl 3 rfl) ?_
  refine q_ild hx hb hK hP i1 8 hi1 dX1_exchange_8 (by first | assumption | exact isCell_in (by assumption) | exact isWalker_in (by assumption) | exact isAboard_in (by assumption) | exact isPair_in1 (by assumption) | exact isPair_in2 (by assumption) | exact isWithin7_in (by assumption) | exact vp_in_nI (by omega) (by decide)) ?_
  refine q_ist hx hb hK hI hP hS i1 8 hi1 dX1_exchange_9 (by first | assumption | exact isCell_in (by assumption) | exact isWalker_in (by assumption) | exact isAboard_in (by assumption) | exact isPair_in1 (by assumption) | exact isPair_in2 (by assumption) | exact isWithin7_in (by assumption) | exact vp_in_nI (by omega) (by decide)) (fun H locs hP hS => ?_)
  have hP : WP D cI cS ad (sR R i1 ((p2).toNatClampNeg) (R i1 (p3).toNatClampNeg)) F H := hP
  refine lv_aload_n hx hb dX1_exchange_10 rfl (lv_at hl 1 rfl) ?_
  refine lv_iload_n hx hb dX1_exchange_11 rfl (lv_at hl 3 rfl) ?_
  refine lv_iload_n hx hb dX1_exchange_12 rfl (lv_at hl 0 rfl) ?_
  refine q_ist hx hb hK hI hP hS i1 8 hi1 dX1_exchange_13 (by first | assumption | exact isCell_in (by assumption) | exact isWalker_in (by assumption) | exact isAboard_in (by assumption) | exact isPair_in1 (by assumption) | exact isPair_in2 (by assumption) | exact isWithin7_in (by assumption) | exact vp_in_nI (by omega) (by decide)) (fun H locs hP hS => ?_)
  have hP : WP D cI cS ad (sR (sR R i1 ((p2).toNatClampNeg) (R i1 (p3).toNatClampNeg)) i1 ((p3).toNatClampNeg) (R i1 (p2).toNatClampNeg)) F H := hP
  have hX : (xX1_exchange R F i1 p2 p3) = (sR (sR R i1 ((p2).toNatClampNeg) (R i1 (p3).toNatClampNeg)) i1 ((p3).toNatClampNeg) (R i1 (p2).toNatClampNeg)) := by unfold xX1_exchange; rfl
  exact W.vret hx hb hr (fun t ht hW => ⟨rfl, by rw [hX, ht]; with_reducible exact hP, hS.F ht⟩) hS.2.2 dX1_exchange_14

def xX1_orZero (p1 : Int32) : Int32 :=
  (if p1 = (-100009 : Int32) then (0 : Int32) else p1)
set_option maxHeartbeats 4000000 in
set_option maxRecDepth 100000 in
theorem mX1_orZero (l : Launch) (D : va_G) (cI cS : ClassId) (ad : Nat → Nat) (hI : Inj ad) (R F : Nat → Nat → Int32) (p1 : Int32) : Met l yX1_orZero wsX1_orZero ({ frames := 0, cells := 0, slots := 0, locals := 0 }) (PW D cI cS ad R F [.int p1]) (QS (xX1_orZero p1)) 0 0 (fun _ => False) := by
  refine Met.ofW (cc := cX1_orZero) (maxL := 1) (ret := (some .int)) (by decide) rfl ?_
  intro p e s m args below meth c s₁ B hml hv
  obtain ⟨rfl, hP, hK⟩ := hv
  have hx := B.exec
  have hb := B.bytes
  have hr := B.returns
  have hts := atoms_spec (ws := wsX1_orZero) B.pre
  have hown : s.vm.findClass RX1 = some m.cls := findClass_of_methodNamed B.named
  have hlocks := B.notSynchronized
  have hS : va_S (AA ad) s.heap s.heap [] := va_S.rf
  have hl := lv_entry ([.int p1]) (n := 1) (Nat.le_of_ble_eq_true rfl)
  rw [lg_entry_eq]
  generalize (lg_sl ([.int p1]) ++ List.replicate (1 - (lg_sl ([.int p1])).length) Slot.unset).toArray = ls at hl ⊢
  have hl : lv_has ls 1 [(0, .int p1)] := hl
  have lk78 := hts (.constant RX1 78 (-100009)) (by decide +kernel)
  refine lv_iload_n hx hb dX1_orZero_0 rfl (lv_at hl 0 rfl) ?_
  refine lv_ldc (v := -100009) hx hb hown lk78 dX1_orZero_1 ?_
  refine lv_icmp_ne (tgt := 10) hx hb dX1_orZero_3 (by decide) (fun c_3 => ?_) (fun c_3 => ?_)
  · refine lv_iload_n hx hb dX1_orZero_10 rfl (lv_at hl 0 rfl) ?_
    have hX : (xX1_orZero p1) = p1 := by unfold xX1_orZero; rw [if_neg c_3]
    exact W.iret (v := p1) hx hb hr (fun t ht hW => ⟨by rw [hX], ht⟩) (fun _ h => by cases h) dX1_orZero_11
  · refine lv_iconst (v := 0) hx hb dX1_orZero_6 (by decide) ?_
    refine lv_goto (tgt := 11) hx hb dX1_orZero_7 (by decide) ?_
    have hX : (xX1_orZero p1) = (0 : Int32) := by unfold xX1_orZero; rw [if_pos c_3]
    exact W.iret (v := (0 : Int32)) hx hb hr (fun t ht hW => ⟨by rw [hX], ht⟩) (fun _ h => by cases h) dX1_orZero_11

def xX1_slotAfter (R F : Nat → Nat → Int32) (p1 : Int32) : Int32 :=
  (xJ9_floorMod_7cf53 ((F 0 0) + p1) (5 : Int32))
set_option maxHeartbeats 4000000 in
set_option maxRecDepth 100000 in
theorem mX1_slotAfter (l : Launch) (D : va_G) (cI cS : ClassId) (ad : Nat → Nat) (hI : Inj ad) (R F : Nat → Nat → Int32) (p1 : Int32) : Met l yX1_slotAfter wsX1_slotAfter ({ frames := 1, cells := 0, slots := 0, locals := 22 }) (PW D cI cS ad R F [.ref (ad 0), .int p1]) (QS (xX1_slotAfter R F p1)) 0 0 (fun _ => False) := by
  refine Met.ofW (cc := cX1_slotAfter) (maxL := 2) (ret := (some .int)) (by decide) rfl ?_
  intro p e s m args below meth c s₁ B hml hv
  obtain ⟨rfl, hP, hK⟩ := hv
  have hx := B.exec
  have hb := B.bytes
  have hr := B.returns
  have hts := atoms_spec (ws := wsX1_slotAfter) B.pre
  have hown : s.vm.findClass RX1 = some m.cls := findClass_of_methodNamed B.named
  have hlocks := B.notSynchronized
  have hS : va_S (AA ad) s.heap s.heap [] := va_S.rf
  have hl := lv_entry ([.ref (ad 0), .int p1]) (n := 2) (Nat.le_of_ble_eq_true rfl)
  rw [lg_entry_eq]
  generalize (lg_sl ([.ref (ad 0), .int p1]) ++ List.replicate (2 - (lg_sl ([.ref (ad 0), .int p1])).length) Slot.unset).toArray = ls at hl ⊢
  have hl : lv_has ls 2 [(0, .ref (ad 0)), (1, .int p1)] := hl
  have lk20 := hts (.fieldLink RX1 20 "FerryFloor" "oldest" "I") (by decide +kernel)
  have hin1 : ∀ w ∈ u_ws RX1 TX1 7, w ∈ wsX1_slotAfter := by decide +kernel
  refine lv_aload_n hx hb dX1_slotAfter_0 rfl (lv_at hl 0 rfl) ?_
  refine q_getF (v := .int (F 0 0)) hx hb hts hin1 hown hK hP 2 (by decide) lk20 (fun _ h => h) rfl dX1_slotAfter_1 ?_
  refine lv_iload_n hx hb dX1_slotAfter_4 rfl (lv_at hl 1 rfl) ?_
  refine lv_iadd hx hb dX1_slotAfter_5 ?_
  refine lv_iconst (v := 5) hx hb dX1_slotAfter_6 (by decide) ?_
  refine q_callS (va_runS (As := [.int ((F 0 0) + p1), .int (5 : Int32)]) (rest := []) ⟨hx, hb, hml, hown, hts⟩ (mJ9_floorMod_7cf53 l D cI cS ad hI R F ((F 0 0) + p1) (5 : Int32) (by decide)) (va_cwS 2 hts gX1_slotAfter_J9_floorMod_7cf53 rfl rfl rfl (by decide +kernel) ⟨Nat.le_of_ble_eq_true rfl, Nat.le_of_ble_eq_true rfl⟩) (PW_preS hK hP) rfl rfl hl.1 rfl (lv_room (Nat.le_of_ble_eq_true rfl)) dX1_slotAfter_7 ⟨Nat.zero_le _, Nat.zero_le _⟩) ?_
  have hX : (xX1_slotAfter R F p1) = (xJ9_floorMod_7cf53 ((F 0 0) + p1) (5 : Int32)) := by unfold xX1_slotAfter; rfl
  exact W.iret (v := (xJ9_floorMod_7cf53 ((F 0 0) + p1) (5 : Int32))) hx hb hr (fun t ht hW => ⟨by rw [hX], ht⟩) (fun _ h => by cases h) dX1_slotAfter_10

def xX1_copyRow (R F : Nat → Nat → Int32) (i1 : Nat) (i2 : Nat) (n0 : Nat) : (Nat → Nat → Int32) :=
  (va_up R i2 (va_cpy (R i1) (R i2) 0 0 n0))
set_option maxHeartbeats 4000000 in
set_option maxRecDepth 100000 in
theorem mX1_copyRow (l : Launch) (D : va_G) (cI cS : ClassId) (ad : Nat → Nat) (hI : Inj ad) (R F : Nat → Nat → Int32) (i1 : Nat) (i2 : Nat) (n0 : Nat) (hi1 : Ar i1 n0) (hi2 : Ar i2 n0) (hn : n0 < 2 ^ 31) : Met l yX1_copyRow wsX1_copyRow ({ frames := 1, cells := 0, slots := 0, locals := 48 }) (PW D cI cS ad R F [.ref (ad i1), .ref (ad i2)]) (QV D cI cS ad (xX1_copyRow R F i1 i2 n0) F) 0 0 (AA ad) := by
  refine Met.ofW (cc := cX1_copyRow) (maxL := 2) (ret := none) (by decide) rfl ?_
  intro p e s m args below meth c s₁ B hml hv
  obtain ⟨rfl, hP, hK⟩ := hv
  have hx := B.exec
  have hb := B.bytes
  have hr := B.returns
  have hts := atoms_spec (ws := wsX1_copyRow) B.pre
  have hown : s.vm.findClass RX1 = some m.cls := findClass_of_methodNamed B.named
  have hlocks := B.notSynchronized
  have hS : va_S (AA ad) s.heap s.heap [] := va_S.rf
  have hl := lv_entry ([.ref (ad i1), .ref (ad i2)]) (n := 2) (Nat.le_of_ble_eq_true rfl)
  rw [lg_entry_eq]
  generalize (lg_sl ([.ref (ad i1), .ref (ad i2)]) ++ List.replicate (2 - (lg_sl ([.ref (ad i1), .ref (ad i2)])).length) Slot.unset).toArray = ls at hl ⊢
  have hl : lv_has ls 2 [(0, .ref (ad i1)), (1, .ref (ad i2))] := hl
  refine lv_aload_n hx hb dX1_copyRow_0 rfl (lv_at hl 0 rfl) ?_
  refine lv_iconst (v := 0) hx hb dX1_copyRow_1 (by decide) ?_
  refine lv_aload_n hx hb dX1_copyRow_2 rfl (lv_at hl 1 rfl) ?_
  refine lv_iconst (v := 0) hx hb dX1_copyRow_3 (by decide) ?_
  refine lv_aload_n hx hb dX1_copyRow_4 rfl (lv_at hl 0 rfl) ?_
  refine q_len hx hb hK hP i1 n0 hi1 dX1_copyRow_5 ?_
  refine lv_aload_n hx hb dX1_copyRow_6 rfl (lv_at hl 1 rfl) ?_
  refine q_len hx hb hK hP i2 n0 hi2 dX1_copyRow_7 ?_
  refine va_mmin hx hb (hml.trans hl.1.symm) hown (hts (.methodLink RX1 205 Lib.Math.min.name) (by decide +kernel)) (hts (.static Lib.Math.min.name) (by decide +kernel)) (hts (.initialized "java/lang/Math") (by decide +kernel)) (hts (.code Lib.Math.min.name Lib.Math.min.code 2 (some .int)) (by decide +kernel)) (Nat.le_of_ble_eq_true rfl) (Nat.le_of_ble_eq_true rfl) (Nat.zero_le _) (Nat.zero_le _) dX1_copyRow_8 ?_
  refine q_top (y := (nI n0)) (by split <;> rfl) ?_
  refine q_copy hx hb (hml.trans hl.1.symm) hown (hts (.methodLink RX1 217 arraycopyName) (by decide +kernel)) (hts (.native arraycopyName) (by decide +kernel)) (hts (.static arraycopyName) (by decide +kernel)) (hts (.initialized "java/lang/System") (by decide +kernel)) hK hI hP hS i1 i2 n0 hi1 hi2 hn (Nat.le_of_ble_eq_true rfl) (by decide) dX1_copyRow_11 (fun H locs hP hS => ?_)
  have hX : (xX1_copyRow R F i1 i2 n0) = (va_up R i2 (va_cpy (R i1) (R i2) 0 0 n0)) := by unfold xX1_copyRow; rfl
  exact W.vret hx hb hr (fun t ht hW => ⟨rfl, by rw [hX, ht]; with_reducible exact hP, hS.F ht⟩) hS.2.2 dX1_copyRow_14

def hX1_sumOf_4 (R F : Nat → Nat → Int32) (i1 : Nat) : Nat → Nat → Int32 → Int32
  | 0, k, x1 => x1
  | n + 1, k, x1 => (hX1_sumOf_4 R F i1 n (k + 1) (x1 + (R i1 k)))
theorem hX1_sumOf_4_z (R F : Nat → Nat → Int32) (i1 : Nat) (k : Nat) (x1 : Int32) : hX1_sumOf_4 R F i1 0 k x1 = x1 := rfl
theorem hX1_sumOf_4_s (R F : Nat → Nat → Int32) (i1 : Nat) (n : Nat) (k : Nat) (x1 : Int32) : hX1_sumOf_4 R F i1 (n + 1) k x1 = (hX1_sumOf_4 R F i1 n (k + 1) (x1 + (R i1 k))) := rfl
def xX1_sumOf (R F : Nat → Nat → Int32) (i1 : Nat) : Int32 :=
  (hX1_sumOf_4 R F i1 24 0 (0 : Int32))
set_option maxHeartbeats 4000000 in
set_option maxRecDepth 100000 in
theorem mX1_sumOf (l : Launch) (D : va_G) (cI cS : ClassId) (ad : Nat → Nat) (hI : Inj ad) (R F : Nat → Nat → Int32) (i1 : Nat) (hi1 : Ar i1 24) : Met l yX1_sumOf wsX1_sumOf ({ frames := 0, cells := 0, slots := 0, locals := 0 }) (PW D cI cS ad R F [.ref (ad i1)]) (QS (xX1_sumOf R F i1)) 0 0 (fun _ => False) := by
  refine Met.ofW (cc := cX1_sumOf) (maxL := 3) (ret := (some .int)) (by decide) rfl ?_
  intro p e s m args below meth c s₁ B hml hv
  obtain ⟨rfl, hP, hK⟩ := hv
  have hx := B.exec
  have hb := B.bytes
  have hr := B.returns
  have hts := atoms_spec (ws := wsX1_sumOf) B.pre
  have hown : s.vm.findClass RX1 = some m.cls := findClass_of_methodNamed B.named
  have hlocks := B.notSynchronized
  have hS : va_S (AA ad) s.heap s.heap [] := va_S.rf
  have hl := lv_entry ([.ref (ad i1)]) (n := 3) (Nat.le_of_ble_eq_true rfl)
  rw [lg_entry_eq]
  generalize (lg_sl ([.ref (ad i1)]) ++ List.replicate (3 - (lg_sl ([.ref (ad i1)])).length) Slot.unset).toArray = ls at hl ⊢
  have hl : lv_has ls 3 [(0, .ref (ad i1))] := hl
  refine lv_iconst (v := 0) hx hb dX1_sumOf_0 (by decide) ?_
  refine lv_istore_n (lv' := [(1, .int (0 : Int32)), (0, .ref (ad i1))]) hx hb dX1_sumOf_1 rfl hl (by decide) rfl (fun ls hl => ?_)
  refine lv_iconst (v := 0) hx hb dX1_sumOf_2 (by decide) ?_
  refine lv_istore_n (lv' := [(2, .int (0 : Int32)), (1, .int (0 : Int32)), (0, .ref (ad i1))]) hx hb dX1_sumOf_3 rfl hl (by decide) rfl (fun ls hl => ?_)
  refine q_loop (fun nn H locs ls => ∃ (k : Nat) (x1 : Int32), k + nn = 24 ∧ hX1_sumOf_4 R F i1 nn k x1 = (xX1_sumOf R F i1) ∧ WP D cI cS ad R F H ∧ locs = [] ∧ H = s.heap ∧ lv_has ls 3 [(2, .int (nI k)), (1, .int x1), (0, .ref (ad i1))]) 24 ⟨0, (0 : Int32), by omega, by unfold xX1_sumOf; rfl, hP, rfl, rfl, lv_sub hl [0, 1, 2] rfl⟩ ?_ ?_
  · intro H locs ls hz
    obtain ⟨k, x1, hkn, hsp, hP, rfl, rfl, hl⟩ := hz
    refine lv_iload_n hx hb dX1_sumOf_4 rfl (lv_at hl 0 rfl) ?_
    refine lv_aload_n hx hb dX1_sumOf_5 rfl (lv_at hl 2 rfl) ?_
    refine q_len hx hb hK hP i1 24 hi1 dX1_sumOf_6 ?_
    refine lv_icmp_ge (tgt := 22) hx hb dX1_sumOf_7 (by decide) (fun c_7 => ?_) (fun c_7 => ?_)
    · refine lv_iload_n hx hb dX1_sumOf_22 rfl (lv_at hl 1 rfl) ?_
      have hX : (xX1_sumOf R F i1) = x1 := by rw [← hsp, hX1_sumOf_4_z]
      exact W.iret (v := x1) hx hb hr (fun t ht hW => ⟨by rw [hX], ht⟩) (fun _ h => by cases h) dX1_sumOf_23
    · exact absurd (nI_le (a := 24) (b := k) (by omega) (by omega)) c_7
  · intro n ih H locs ls hz
    obtain ⟨k, x1, hkn, hsp, hP, rfl, rfl, hl⟩ := hz
    refine lv_iload_n hx hb dX1_sumOf_4 rfl (lv_at hl 0 rfl) ?_
    refine lv_aload_n hx hb dX1_sumOf_5 rfl (lv_at hl 2 rfl) ?_
    refine q_len hx hb hK hP i1 24 hi1 dX1_sumOf_6 ?_
    refine lv_icmp_ge (tgt := 22) hx hb dX1_sumOf_7 (by decide) (fun c_7 => ?_) (fun c_7 => ?_)
    · exact absurd c_7 (nI_ge (a := k) (b := 24) (by omega) (by omega))
    · refine lv_iload_n hx hb dX1_sumOf_10 rfl (lv_at hl 1 rfl) ?_
      refine lv_aload_n hx hb dX1_sumOf_11 rfl (lv_at hl 2 rfl) ?_
      refine lv_iload_n hx hb dX1_sumOf_12 rfl (lv_at hl 0 rfl) ?_
      refine q_ildN hx hb hK hP i1 24 hi1 k dX1_sumOf_13 rfl (by omega) (by decide) ?_
      refine lv_iadd hx hb dX1_sumOf_14 ?_
      refine lv_istore_n (lv' := [(1, .int (x1 + (R i1 k))), (2, .int (nI k)), (0, .ref (ad i1))]) hx hb dX1_sumOf_15 rfl hl (by decide) rfl (fun ls hl => ?_)
      refine lv_iinc (v := (nI (k + 1))) (lv' := [(2, .int (nI (k + 1))), (1, .int (x1 + (R i1 k))), (0, .ref (ad i1))]) hx hb dX1_sumOf_16 hl (k := 1) rfl (nI_1 k) (by decide) rfl (fun ls hl => ?_)
      refine lv_goto (tgt := 4) hx hb dX1_sumOf_19 (by decide) ?_
      exact ih _ _ _ ⟨(k + 1), (x1 + (R i1 k)), by omega, by rw [← hsp, hX1_sumOf_4_s], hP, rfl, rfl, lv_sub hl [0, 1, 2] rfl⟩

theorem nx_xor (a b : Nat) : nI a ^^^ nI b = nI (a ^^^ b) := by
  apply Int32.toBitVec_inj.1
  show BitVec.ofNat 32 a ^^^ BitVec.ofNat 32 b = BitVec.ofNat 32 (a ^^^ b)
  apply BitVec.eq_of_getLsbD_eq
  intro i hi
  simp [hi]
theorem fm_eq {a : Nat} (h : a < 2 ^ 31) : xJ9_floorMod_7cf53 (nI a) 5 = nI (a % 5) := by
  have e : nI a - nI a / 5 * 5 = nI (a % 5) := pk_rem (d := 5) h (by decide) (by decide)
  unfold xJ9_floorMod_7cf53
  rw [e]
  split
  · rfl
  · next h1 =>
    exfalso
    apply h1
    rw [show nI a ^^^ (5 : Int32) = nI (a ^^^ 5) from nx_xor a 5]
    exact nI_pos' (Nat.xor_lt_two_pow h (by decide))
theorem slot_eq {R F : Nat → Nat → Int32} {a b : Nat} {p : Int32} (h0 : F 0 0 = nI a) (hp : p = nI b) (h : a + b < 2 ^ 31) : xX1_slotAfter R F p = nI ((a + b) % 5) := by
  unfold xX1_slotAfter
  rw [h0, hp, nI_add]
  exact fm_eq h
end
section
def hX1_addShares_19 (R F : Nat → Nat → Int32) (i1 : Nat) (p2 : Int32) (p3 : Int32) : Nat → Nat → Int32 → (Nat → Nat → Int32) → (Nat → Nat → Int32)
  | 0, k, x4, R1 => (sR R1 i1 ((p3).toNatClampNeg) ((R1 i1 (p3).toNatClampNeg) + x4))
  | n + 1, k, x4, R1 => (if (xX1_isCell (xX1_nearCell p3 (nI k))) = (0 : Int32) then (hX1_addShares_19 R F i1 p2 p3 n (k + 1) x4 R1) else (hX1_addShares_19 R F i1 p2 p3 n (k + 1) (x4 - (p2 / (8 : Int32))) (sR R1 i1 (((xX1_nearCell p3 (nI k))).toNatClampNeg) ((R1 i1 ((xX1_nearCell p3 (nI k))).toNatClampNeg) + (p2 / (8 : Int32))))))
theorem hX1_addShares_19_z (R F : Nat → Nat → Int32) (i1 : Nat) (p2 : Int32) (p3 : Int32) (k : Nat) (x4 : Int32) (R1 : Nat → Nat → Int32) : hX1_addShares_19 R F i1 p2 p3 0 k x4 R1 = (sR R1 i1 ((p3).toNatClampNeg) ((R1 i1 (p3).toNatClampNeg) + x4)) := rfl
theorem hX1_addShares_19_s (R F : Nat → Nat → Int32) (i1 : Nat) (p2 : Int32) (p3 : Int32) (n : Nat) (k : Nat) (x4 : Int32) (R1 : Nat → Nat → Int32) : hX1_addShares_19 R F i1 p2 p3 (n + 1) k x4 R1 = (if (xX1_isCell (xX1_nearCell p3 (nI k))) = (0 : Int32) then (hX1_addShares_19 R F i1 p2 p3 n (k + 1) x4 R1) else (hX1_addShares_19 R F i1 p2 p3 n (k + 1) (x4 - (p2 / (8 : Int32))) (sR R1 i1 (((xX1_nearCell p3 (nI k))).toNatClampNeg) ((R1 i1 ((xX1_nearCell p3 (nI k))).toNatClampNeg) + (p2 / (8 : Int32)))))) := rfl
def xX1_addShares (R F : Nat → Nat → Int32) (i1 : Nat) (p2 : Int32) (p3 : Int32) : (Nat → Nat → Int32) :=
  (if (xX1_isCell p3) = (0 : Int32) then R else (hX1_addShares_19 R F i1 p2 p3 (5 - 1) 1 p2 R))
set_option maxHeartbeats 4000000 in
set_option maxRecDepth 100000 in
theorem mX1_addShares (l : Launch) (D : va_G) (cI cS : ClassId) (ad : Nat → Nat) (hI : Inj ad) (R F : Nat → Nat → Int32) (i1 : Nat) (p2 : Int32) (p3 : Int32) (hi1 : Ar i1 24) : Met l yX1_addShares wsX1_addShares ({ frames := 1, cells := 0, slots := 0, locals := 22 }) (PW D cI cS ad R F [.ref (ad i1), .int p2, .int p3]) (QV D cI cS ad (xX1_addShares R F i1 p2 p3) F) 0 0 (AA ad) := by
  refine Met.ofW (cc := cX1_addShares) (maxL := 7) (ret := none) (by decide) rfl ?_
  intro p e s m args below meth c s₁ B hml hv
  obtain ⟨rfl, hP, hK⟩ := hv
  have hx := B.exec
  have hb := B.bytes
  have hr := B.returns
  have hts := atoms_spec (ws := wsX1_addShares) B.pre
  have hown : s.vm.findClass RX1 = some m.cls := findClass_of_methodNamed B.named
  have hlocks := B.notSynchronized
  have hS : va_S (AA ad) s.heap s.heap [] := va_S.rf
  have hl := lv_entry ([.ref (ad i1), .int p2, .int p3]) (n := 7) (Nat.le_of_ble_eq_true rfl)
  rw [lg_entry_eq]
  generalize (lg_sl ([.ref (ad i1), .int p2, .int p3]) ++ List.replicate (7 - (lg_sl ([.ref (ad i1), .int p2, .int p3])).length) Slot.unset).toArray = ls at hl ⊢
  have hl : lv_has ls 7 [(0, .ref (ad i1)), (1, .int p2), (2, .int p3)] := hl
  refine lv_iload_n hx hb dX1_addShares_0 rfl (lv_at hl 2 rfl) ?_
  refine q_callS (va_runS (As := [.int p3]) (rest := []) ⟨hx, hb, hml, hown, hts⟩ (mX1_isCell l D cI cS ad hI R F p3) (va_cwS 1 hts gX1_addShares_X1_isCell rfl rfl rfl (by decide +kernel) ⟨Nat.le_of_ble_eq_true rfl, Nat.le_of_ble_eq_true rfl⟩) (PW_preS hK hP) rfl rfl hl.1 rfl (lv_room (Nat.le_of_ble_eq_true rfl)) dX1_addShares_1 ⟨Nat.zero_le _, Nat.zero_le _⟩) ?_
  refine lv_if_ne (tgt := 8) hx hb dX1_addShares_4 (by decide) (fun c_4 => ?_) (fun c_4 => ?_)
  · refine lv_iload_n hx hb dX1_addShares_8 rfl (lv_at hl 1 rfl) ?_
    refine lv_bipush (v := 8) hx hb dX1_addShares_9 (by decide) ?_
    refine lv_idiv hx hb dX1_addShares_11 (by decide) ?_
    refine lv_istore_n (lv' := [(3, .int (p2 / (8 : Int32))), (0, .ref (ad i1)), (1, .int p2), (2, .int p3)]) hx hb dX1_addShares_12 rfl hl (by decide) rfl (fun ls hl => ?_)
    refine lv_iload_n hx hb dX1_addShares_13 rfl (lv_at hl 2 rfl) ?_
    refine lv_istore (lv' := [(4, .int p2), (3, .int (p2 / (8 : Int32))), (0, .ref (ad i1)), (1, .int p2), (2, .int p3)]) hx hb dX1_addShares_14 hl (by decide) rfl (fun ls hl => ?_)
    refine lv_iconst (v := 1) hx hb dX1_addShares_16 (by decide) ?_
    refine lv_istore (lv' := [(5, .int (1 : Int32)), (4, .int p2), (3, .int (p2 / (8 : Int32))), (0, .ref (ad i1)), (1, .int p2), (2, .int p3)]) hx hb dX1_addShares_17 hl (by decide) rfl (fun ls hl => ?_)
    refine q_loop (fun nn H locs ls => ∃ (k : Nat) (x4 : Int32) (R1 : Nat → Nat → Int32), k + nn = 5 ∧ hX1_addShares_19 R F i1 p2 p3 nn k x4 R1 = (xX1_addShares R F i1 p2 p3) ∧ WP D cI cS ad R1 F H ∧ va_S (AA ad) s.heap H locs ∧ lv_has ls 7 [(5, .int (nI k)), (4, .int x4), (3, .int (p2 / (8 : Int32))), (0, .ref (ad i1)), (1, .int p2), (2, .int p3)]) (5 - 1) ⟨1, p2, R, by omega, by unfold xX1_addShares; rw [if_neg c_4], hP, hS, lv_sub hl [0, 1, 2, 3, 4, 5] rfl⟩ ?_ ?_
    · intro H locs ls hz
      obtain ⟨k, x4, R1, hkn, hsp, hP, hS, hl⟩ := hz
      refine lv_iload hx hb dX1_addShares_19 (lv_at hl 0 rfl) ?_
      refine lv_iconst (v := 5) hx hb dX1_addShares_21 (by decide) ?_
      refine lv_icmp_ge (tgt := 61) hx hb dX1_addShares_22 (by decide) (fun c_22 => ?_) (fun c_22 => ?_)
      · refine lv_aload_n hx hb dX1_addShares_61 rfl (lv_at hl 3 rfl) ?_
        refine lv_iload_n hx hb dX1_addShares_62 rfl (lv_at hl 5 rfl) ?_
        refine lv_dup2_11 hx hb dX1_addShares_63 rfl rfl ?_
        refine q_ild hx hb hK hP i1 24 hi1 dX1_addShares_64 (by first | assumption | exact isCell_in (by assumption) | exact isWalker_in (by assumption) | exact isAboard_in (by assumption) | exact isPair_in1 (by assumption) | exact isPair_in2 (by assumption) | exact isWithin7_in (by assumption) | exact vp_in_nI (by omega) (by decide)) ?_
        refine lv_iload hx hb dX1_addShares_65 (lv_at hl 1 rfl) ?_
        refine lv_iadd hx hb dX1_addShares_67 ?_
        refine q_ist hx hb hK hI hP hS i1 24 hi1 dX1_addShares_68 (by first | assumption | exact isCell_in (by assumption) | exact isWalker_in (by assumption) | exact isAboard_in (by assumption) | exact isPair_in1 (by assumption) | exact isPair_in2 (by assumption) | exact isWithin7_in (by assumption) | exact vp_in_nI (by omega) (by decide)) (fun H locs hP hS => ?_)
        have hP : WP D cI cS ad (sR R1 i1 ((p3).toNatClampNeg) ((R1 i1 (p3).toNatClampNeg) + x4)) F H := hP
        have hX : (xX1_addShares R F i1 p2 p3) = (sR R1 i1 ((p3).toNatClampNeg) ((R1 i1 (p3).toNatClampNeg) + x4)) := by rw [← hsp, hX1_addShares_19_z]
        exact W.vret hx hb hr (fun t ht hW => ⟨rfl, by rw [hX, ht]; with_reducible exact hP, hS.F ht⟩) hS.2.2 dX1_addShares_69
      · exact absurd (nI_le (a := 5) (b := k) (by omega) (by omega)) c_22
    · intro n ih H locs ls hz
      obtain ⟨k, x4, R1, hkn, hsp, hP, hS, hl⟩ := hz
      refine lv_iload hx hb dX1_addShares_19 (lv_at hl 0 rfl) ?_
      refine lv_iconst (v := 5) hx hb dX1_addShares_21 (by decide) ?_
      refine lv_icmp_ge (tgt := 61) hx hb dX1_addShares_22 (by decide) (fun c_22 => ?_) (fun c_22 => ?_)
      · exact absurd c_22 (nI_ge (a := k) (b := 5) (by omega) (by omega))
      · refine lv_iload_n hx hb dX1_addShares_25 rfl (lv_at hl 5 rfl) ?_
        refine lv_iload hx hb dX1_addShares_26 (lv_at hl 0 rfl) ?_
        refine q_callS (va_runS (As := [.int p3, .int (nI k)]) (rest := []) ⟨hx, hb, hml, hown, hts⟩ (mX1_nearCell l D cI cS ad hI R1 F p3 (nI k)) (va_cwS 2 hts gX1_addShares_X1_nearCell rfl rfl rfl (by decide +kernel) ⟨Nat.le_of_ble_eq_true rfl, Nat.le_of_ble_eq_true rfl⟩) (PW_preS hK hP) rfl rfl hl.1 rfl (lv_room (Nat.le_of_ble_eq_true rfl)) dX1_addShares_28 ⟨Nat.zero_le _, Nat.zero_le _⟩) ?_
        refine lv_istore (lv' := [(6, .int (xX1_nearCell p3 (nI k))), (5, .int (nI k)), (4, .int x4), (3, .int (p2 / (8 : Int32))), (0, .ref (ad i1)), (1, .int p2), (2, .int p3)]) hx hb dX1_addShares_31 hl (by decide) rfl (fun ls hl => ?_)
        refine lv_iload hx hb dX1_addShares_33 (lv_at hl 0 rfl) ?_
        refine q_callS (va_runS (As := [.int (xX1_nearCell p3 (nI k))]) (rest := []) ⟨hx, hb, hml, hown, hts⟩ (mX1_isCell l D cI cS ad hI R1 F (xX1_nearCell p3 (nI k))) (va_cwS 1 hts gX1_addShares_X1_isCell rfl rfl rfl (by decide +kernel) ⟨Nat.le_of_ble_eq_true rfl, Nat.le_of_ble_eq_true rfl⟩) (PW_preS hK hP) rfl rfl hl.1 rfl (lv_room (Nat.le_of_ble_eq_true rfl)) dX1_addShares_35 ⟨Nat.zero_le _, Nat.zero_le _⟩) ?_
        refine lv_if_eq (tgt := 55) hx hb dX1_addShares_38 (by decide) (fun c_38 => ?_) (fun c_38 => ?_)
        · refine lv_iinc (v := (nI (k + 1))) (lv' := [(5, .int (nI (k + 1))), (6, .int (xX1_nearCell p3 (nI k))), (4, .int x4), (3, .int (p2 / (8 : Int32))), (0, .ref (ad i1)), (1, .int p2), (2, .int p3)]) hx hb dX1_addShares_55 hl (k := 1) rfl (nI_1 k) (by decide) rfl (fun ls hl => ?_)
          refine lv_goto (tgt := 19) hx hb dX1_addShares_58 (by decide) ?_
          exact ih _ _ _ ⟨(k + 1), x4, R1, by omega, by rw [← hsp, hX1_addShares_19_s, if_pos c_38], hP, hS, lv_sub hl [0, 2, 3, 4, 5, 6] rfl⟩
        · refine lv_aload_n hx hb dX1_addShares_41 rfl (lv_at hl 4 rfl) ?_
          refine lv_iload hx hb dX1_addShares_42 (lv_at hl 0 rfl) ?_
          refine lv_dup2_11 hx hb dX1_addShares_44 rfl rfl ?_
          refine q_ild hx hb hK hP i1 24 hi1 dX1_addShares_45 (by first | assumption | exact isCell_in (by assumption) | exact isWalker_in (by assumption) | exact isAboard_in (by assumption) | exact isPair_in1 (by assumption) | exact isPair_in2 (by assumption) | exact isWithin7_in (by assumption) | exact vp_in_nI (by omega) (by decide)) ?_
          refine lv_iload_n hx hb dX1_addShares_46 rfl (lv_at hl 3 rfl) ?_
          refine lv_iadd hx hb dX1_addShares_47 ?_
          refine q_ist hx hb hK hI hP hS i1 24 hi1 dX1_addShares_48 (by first | assumption | exact isCell_in (by assumption) | exact isWalker_in (by assumption) | exact isAboard_in (by assumption) | exact isPair_in1 (by assumption) | exact isPair_in2 (by assumption) | exact isWithin7_in (by assumption) | exact vp_in_nI (by omega) (by decide)) (fun H locs hP hS => ?_)
          have hP : WP D cI cS ad (sR R1 i1 (((xX1_nearCell p3 (nI k))).toNatClampNeg) ((R1 i1 ((xX1_nearCell p3 (nI k))).toNatClampNeg) + (p2 / (8 : Int32)))) F H := hP
          refine lv_iload hx hb dX1_addShares_49 (lv_at hl 2 rfl) ?_
          refine lv_iload_n hx hb dX1_addShares_51 rfl (lv_at hl 3 rfl) ?_
          refine lv_isub hx hb dX1_addShares_52 ?_
          refine lv_istore (lv' := [(4, .int (x4 - (p2 / (8 : Int32)))), (6, .int (xX1_nearCell p3 (nI k))), (5, .int (nI k)), (3, .int (p2 / (8 : Int32))), (0, .ref (ad i1)), (1, .int p2), (2, .int p3)]) hx hb dX1_addShares_53 hl (by decide) rfl (fun ls hl => ?_)
          refine lv_iinc (v := (nI (k + 1))) (lv' := [(5, .int (nI (k + 1))), (4, .int (x4 - (p2 / (8 : Int32)))), (6, .int (xX1_nearCell p3 (nI k))), (3, .int (p2 / (8 : Int32))), (0, .ref (ad i1)), (1, .int p2), (2, .int p3)]) hx hb dX1_addShares_55 hl (k := 2) rfl (nI_1 k) (by decide) rfl (fun ls hl => ?_)
          refine lv_goto (tgt := 19) hx hb dX1_addShares_58 (by decide) ?_
          exact ih _ _ _ ⟨(k + 1), (x4 - (p2 / (8 : Int32))), (sR R1 i1 (((xX1_nearCell p3 (nI k))).toNatClampNeg) ((R1 i1 ((xX1_nearCell p3 (nI k))).toNatClampNeg) + (p2 / (8 : Int32)))), by omega, by rw [← hsp, hX1_addShares_19_s, if_neg c_38], hP, hS, lv_sub hl [0, 1, 3, 4, 5, 6] rfl⟩
  · have hX : (xX1_addShares R F i1 p2 p3) = R := by unfold xX1_addShares; rw [if_pos c_4]
    exact W.vret hx hb hr (fun t ht hW => ⟨rfl, by rw [hX, ht]; with_reducible exact hP, hS.F ht⟩) hS.2.2 dX1_addShares_7

def hX1_addAllShares_2 (R F : Nat → Nat → Int32) (i1 : Nat) (i2 : Nat) (i3 : Nat) : Nat → Nat → (Nat → Nat → Int32) → (Nat → Nat → Int32)
  | 0, k, R1 => R1
  | n + 1, k, R1 => (hX1_addAllShares_2 R F i1 i2 i3 n (k + 1) (xX1_addShares R1 F i1 (R1 i2 k) (R1 i3 k)))
theorem hX1_addAllShares_2_z (R F : Nat → Nat → Int32) (i1 : Nat) (i2 : Nat) (i3 : Nat) (k : Nat) (R1 : Nat → Nat → Int32) : hX1_addAllShares_2 R F i1 i2 i3 0 k R1 = R1 := rfl
theorem hX1_addAllShares_2_s (R F : Nat → Nat → Int32) (i1 : Nat) (i2 : Nat) (i3 : Nat) (n : Nat) (k : Nat) (R1 : Nat → Nat → Int32) : hX1_addAllShares_2 R F i1 i2 i3 (n + 1) k R1 = (hX1_addAllShares_2 R F i1 i2 i3 n (k + 1) (xX1_addShares R1 F i1 (R1 i2 k) (R1 i3 k))) := rfl
def xX1_addAllShares (R F : Nat → Nat → Int32) (i1 : Nat) (i2 : Nat) (i3 : Nat) : (Nat → Nat → Int32) :=
  (hX1_addAllShares_2 R F i1 i2 i3 8 0 R)
set_option maxHeartbeats 4000000 in
set_option maxRecDepth 100000 in
theorem mX1_addAllShares (l : Launch) (D : va_G) (cI cS : ClassId) (ad : Nat → Nat) (hI : Inj ad) (R F : Nat → Nat → Int32) (i1 : Nat) (i2 : Nat) (i3 : Nat) (hi1 : Ar i1 24) (hi2 : Ar i2 8) (hi3 : Ar i3 8) : Met l yX1_addAllShares wsX1_addAllShares ({ frames := 2, cells := 0, slots := 0, locals := 48 }) (PW D cI cS ad R F [.ref (ad i1), .ref (ad i2), .ref (ad i3)]) (QV D cI cS ad (xX1_addAllShares R F i1 i2 i3) F) 0 0 (AA ad) := by
  refine Met.ofW (cc := cX1_addAllShares) (maxL := 4) (ret := none) (by decide) rfl ?_
  intro p e s m args below meth c s₁ B hml hv
  obtain ⟨rfl, hP, hK⟩ := hv
  have hx := B.exec
  have hb := B.bytes
  have hr := B.returns
  have hts := atoms_spec (ws := wsX1_addAllShares) B.pre
  have hown : s.vm.findClass RX1 = some m.cls := findClass_of_methodNamed B.named
  have hlocks := B.notSynchronized
  have hS : va_S (AA ad) s.heap s.heap [] := va_S.rf
  have hl := lv_entry ([.ref (ad i1), .ref (ad i2), .ref (ad i3)]) (n := 4) (Nat.le_of_ble_eq_true rfl)
  rw [lg_entry_eq]
  generalize (lg_sl ([.ref (ad i1), .ref (ad i2), .ref (ad i3)]) ++ List.replicate (4 - (lg_sl ([.ref (ad i1), .ref (ad i2), .ref (ad i3)])).length) Slot.unset).toArray = ls at hl ⊢
  have hl : lv_has ls 4 [(0, .ref (ad i1)), (1, .ref (ad i2)), (2, .ref (ad i3))] := hl
  refine lv_iconst (v := 0) hx hb dX1_addAllShares_0 (by decide) ?_
  refine lv_istore_n (lv' := [(3, .int (0 : Int32)), (0, .ref (ad i1)), (1, .ref (ad i2)), (2, .ref (ad i3))]) hx hb dX1_addAllShares_1 rfl hl (by decide) rfl (fun ls hl => ?_)
  refine q_loop (fun nn H locs ls => ∃ (k : Nat) (R1 : Nat → Nat → Int32), k + nn = 8 ∧ hX1_addAllShares_2 R F i1 i2 i3 nn k R1 = (xX1_addAllShares R F i1 i2 i3) ∧ WP D cI cS ad R1 F H ∧ va_S (AA ad) s.heap H locs ∧ lv_has ls 4 [(3, .int (nI k)), (0, .ref (ad i1)), (1, .ref (ad i2)), (2, .ref (ad i3))]) 8 ⟨0, R, by omega, by unfold xX1_addAllShares; rfl, hP, hS, lv_sub hl [0, 1, 2, 3] rfl⟩ ?_ ?_
  · intro H locs ls hz
    obtain ⟨k, R1, hkn, hsp, hP, hS, hl⟩ := hz
    refine lv_iload_n hx hb dX1_addAllShares_2 rfl (lv_at hl 0 rfl) ?_
    refine lv_bipush (v := 8) hx hb dX1_addAllShares_3 (by decide) ?_
    refine lv_icmp_ge (tgt := 24) hx hb dX1_addAllShares_5 (by decide) (fun c_5 => ?_) (fun c_5 => ?_)
    · have hX : (xX1_addAllShares R F i1 i2 i3) = R1 := by rw [← hsp, hX1_addAllShares_2_z]
      exact W.vret hx hb hr (fun t ht hW => ⟨rfl, by rw [hX, ht]; with_reducible exact hP, hS.F ht⟩) hS.2.2 dX1_addAllShares_24
    · exact absurd (nI_le (a := 8) (b := k) (by omega) (by omega)) c_5
  · intro n ih H locs ls hz
    obtain ⟨k, R1, hkn, hsp, hP, hS, hl⟩ := hz
    refine lv_iload_n hx hb dX1_addAllShares_2 rfl (lv_at hl 0 rfl) ?_
    refine lv_bipush (v := 8) hx hb dX1_addAllShares_3 (by decide) ?_
    refine lv_icmp_ge (tgt := 24) hx hb dX1_addAllShares_5 (by decide) (fun c_5 => ?_) (fun c_5 => ?_)
    · exact absurd c_5 (nI_ge (a := k) (b := 8) (by omega) (by omega))
    · refine lv_aload_n hx hb dX1_addAllShares_8 rfl (lv_at hl 1 rfl) ?_
      refine lv_aload_n hx hb dX1_addAllShares_9 rfl (lv_at hl 2 rfl) ?_
      refine lv_iload_n hx hb dX1_addAllShares_10 rfl (lv_at hl 0 rfl) ?_
      refine q_ildN hx hb hK hP i2 8 hi2 k dX1_addAllShares_11 rfl (by omega) (by decide) ?_
      refine lv_aload_n hx hb dX1_addAllShares_12 rfl (lv_at hl 3 rfl) ?_
      refine lv_iload_n hx hb dX1_addAllShares_13 rfl (lv_at hl 0 rfl) ?_
      refine q_ildN hx hb hK hP i3 8 hi3 k dX1_addAllShares_14 rfl (by omega) (by decide) ?_
      refine q_callV (va_runS (As := [.ref (ad i1), .int (R1 i2 k), .int (R1 i3 k)]) (rest := []) ⟨hx, hb, hml, hown, hts⟩ (mX1_addShares l D cI cS ad hI R1 F i1 (R1 i2 k) (R1 i3 k) hi1) (va_cwS 3 hts gX1_addAllShares_X1_addShares rfl rfl rfl (by decide +kernel) ⟨Nat.le_of_ble_eq_true rfl, Nat.le_of_ble_eq_true rfl⟩) (PW_preS hK hP) rfl rfl hl.1 rfl (lv_room (Nat.le_of_ble_eq_true rfl)) dX1_addAllShares_15 ⟨Nat.zero_le _, Nat.zero_le _⟩) hS (fun H locs hP hS => ?_)
      refine lv_iinc (v := (nI (k + 1))) (lv' := [(3, .int (nI (k + 1))), (0, .ref (ad i1)), (1, .ref (ad i2)), (2, .ref (ad i3))]) hx hb dX1_addAllShares_18 hl (k := 0) rfl (nI_1 k) (by decide) rfl (fun ls hl => ?_)
      refine lv_goto (tgt := 2) hx hb dX1_addAllShares_21 (by decide) ?_
      exact ih _ _ _ ⟨(k + 1), (xX1_addShares R1 F i1 (R1 i2 k) (R1 i3 k)), by omega, by rw [← hsp, hX1_addAllShares_2_s], hP, hS, lv_sub hl [0, 1, 2, 3] rfl⟩

def xX1_weighAll (R F : Nat → Nat → Int32) : (Nat → Nat → Int32) :=
  (xX1_addAllShares (xX1_copyRow R F 2 15 24) F 15 6 7)
set_option maxHeartbeats 4000000 in
set_option maxRecDepth 100000 in
theorem mX1_weighAll (l : Launch) (D : va_G) (cI cS : ClassId) (ad : Nat → Nat) (hI : Inj ad) (R F : Nat → Nat → Int32)  : Met l yX1_weighAll wsX1_weighAll ({ frames := 3, cells := 0, slots := 0, locals := 71 }) (PW D cI cS ad R F [.ref (ad 0)]) (QV D cI cS ad (xX1_weighAll R F) F) 0 0 (AA ad) := by
  refine Met.ofW (cc := cX1_weighAll) (maxL := 1) (ret := none) (by decide) rfl ?_
  intro p e s m args below meth c s₁ B hml hv
  obtain ⟨rfl, hP, hK⟩ := hv
  have hx := B.exec
  have hb := B.bytes
  have hr := B.returns
  have hts := atoms_spec (ws := wsX1_weighAll) B.pre
  have hown : s.vm.findClass RX1 = some m.cls := findClass_of_methodNamed B.named
  have hlocks := B.notSynchronized
  have hS : va_S (AA ad) s.heap s.heap [] := va_S.rf
  have hl := lv_entry ([.ref (ad 0)]) (n := 1) (Nat.le_of_ble_eq_true rfl)
  rw [lg_entry_eq]
  generalize (lg_sl ([.ref (ad 0)]) ++ List.replicate (1 - (lg_sl ([.ref (ad 0)])).length) Slot.unset).toArray = ls at hl ⊢
  have hl : lv_has ls 1 [(0, .ref (ad 0))] := hl
  have lk10 := hts (.fieldLink RX1 10 "FerryFloor" "now" "LFerryFloor$State;") (by decide +kernel)
  have lk56 := hts (.fieldLink RX1 56 "FerryFloor$State" "zeros" "[I") (by decide +kernel)
  have lk27 := hts (.fieldLink RX1 27 "FerryFloor" "readings" "[I") (by decide +kernel)
  have lk83 := hts (.fieldLink RX1 83 "FerryFloor$State" "weights" "[I") (by decide +kernel)
  have lk71 := hts (.fieldLink RX1 71 "FerryFloor$State" "places" "[I") (by decide +kernel)
  have hin1 : ∀ w ∈ u_ws RX1 TX1 7, w ∈ wsX1_weighAll := by decide +kernel
  have hin0 : ∀ w ∈ u_ws RX0 TX0 15, w ∈ wsX1_weighAll := by decide +kernel
  refine lv_aload_n hx hb dX1_weighAll_0 rfl (lv_at hl 0 rfl) ?_
  refine q_getF (v := .ref (ad 1)) hx hb hts hin1 hown hK hP 0 (by decide) lk10 (fun _ h => h) rfl dX1_weighAll_1 ?_
  refine q_getS (v := .ref (ad 2)) hx hb hts hin0 hown hK hP 1 st_1 3 (by decide) lk56 (fun _ h => h) rfl dX1_weighAll_4 ?_
  refine lv_aload_n hx hb dX1_weighAll_7 rfl (lv_at hl 0 rfl) ?_
  refine q_getF (v := .ref (ad 15)) hx hb hts hin1 hown hK hP 4 (by decide) lk27 (fun _ h => h) rfl dX1_weighAll_8 ?_
  refine q_callV (va_runS (As := [.ref (ad 2), .ref (ad 15)]) (rest := []) ⟨hx, hb, hml, hown, hts⟩ (mX1_copyRow l D cI cS ad hI R F 2 15 24 (ar_2) (ar_15) (by decide)) (va_cwS 2 hts gX1_weighAll_X1_copyRow rfl rfl rfl (by decide +kernel) ⟨Nat.le_of_ble_eq_true rfl, Nat.le_of_ble_eq_true rfl⟩) (PW_preS hK hP) rfl rfl hl.1 rfl (lv_room (Nat.le_of_ble_eq_true rfl)) dX1_weighAll_11 ⟨Nat.zero_le _, Nat.zero_le _⟩) hS (fun H locs hP hS => ?_)
  refine lv_aload_n hx hb dX1_weighAll_14 rfl (lv_at hl 0 rfl) ?_
  refine q_getF (v := .ref (ad 15)) hx hb hts hin1 hown hK hP 4 (by decide) lk27 (fun _ h => h) rfl dX1_weighAll_15 ?_
  refine lv_aload_n hx hb dX1_weighAll_18 rfl (lv_at hl 0 rfl) ?_
  refine q_getF (v := .ref (ad 1)) hx hb hts hin1 hown hK hP 0 (by decide) lk10 (fun _ h => h) rfl dX1_weighAll_19 ?_
  refine q_getS (v := .ref (ad 6)) hx hb hts hin0 hown hK hP 1 st_1 7 (by decide) lk83 (fun _ h => h) rfl dX1_weighAll_22 ?_
  refine lv_aload_n hx hb dX1_weighAll_25 rfl (lv_at hl 0 rfl) ?_
  refine q_getF (v := .ref (ad 1)) hx hb hts hin1 hown hK hP 0 (by decide) lk10 (fun _ h => h) rfl dX1_weighAll_26 ?_
  refine q_getS (v := .ref (ad 7)) hx hb hts hin0 hown hK hP 1 st_1 8 (by decide) lk71 (fun _ h => h) rfl dX1_weighAll_29 ?_
  refine q_callV (va_runS (As := [.ref (ad 15), .ref (ad 6), .ref (ad 7)]) (rest := []) ⟨hx, hb, hml, hown, hts⟩ (mX1_addAllShares l D cI cS ad hI (xX1_copyRow R F 2 15 24) F 15 6 7 (ar_15) (ar_6) (ar_7)) (va_cwS 3 hts gX1_weighAll_X1_addAllShares rfl rfl rfl (by decide +kernel) ⟨Nat.le_of_ble_eq_true rfl, Nat.le_of_ble_eq_true rfl⟩) (PW_preS hK hP) rfl rfl hl.1 rfl (lv_room (Nat.le_of_ble_eq_true rfl)) dX1_weighAll_32 ⟨Nat.zero_le _, Nat.zero_le _⟩) hS (fun H locs hP hS => ?_)
  have hX : (xX1_weighAll R F) = (xX1_addAllShares (xX1_copyRow R F 2 15 24) F 15 6 7) := by unfold xX1_weighAll; rfl
  exact W.vret hx hb hr (fun t ht hW => ⟨rfl, by rw [hX, ht]; with_reducible exact hP, hS.F ht⟩) hS.2.2 dX1_weighAll_35

def xX1_expectAll (R F : Nat → Nat → Int32) (i1 : Nat) : (Nat → Nat → Int32) :=
  (xX1_addAllShares (xX1_copyRow R F 4 16 24) F 16 8 i1)
set_option maxHeartbeats 4000000 in
set_option maxRecDepth 100000 in
theorem mX1_expectAll (l : Launch) (D : va_G) (cI cS : ClassId) (ad : Nat → Nat) (hI : Inj ad) (R F : Nat → Nat → Int32) (i1 : Nat) (hi1 : Ar i1 8) : Met l yX1_expectAll wsX1_expectAll ({ frames := 3, cells := 0, slots := 0, locals := 71 }) (PW D cI cS ad R F [.ref (ad 0), .ref (ad i1)]) (QV D cI cS ad (xX1_expectAll R F i1) F) 0 0 (AA ad) := by
  refine Met.ofW (cc := cX1_expectAll) (maxL := 2) (ret := none) (by decide) rfl ?_
  intro p e s m args below meth c s₁ B hml hv
  obtain ⟨rfl, hP, hK⟩ := hv
  have hx := B.exec
  have hb := B.bytes
  have hr := B.returns
  have hts := atoms_spec (ws := wsX1_expectAll) B.pre
  have hown : s.vm.findClass RX1 = some m.cls := findClass_of_methodNamed B.named
  have hlocks := B.notSynchronized
  have hS : va_S (AA ad) s.heap s.heap [] := va_S.rf
  have hl := lv_entry ([.ref (ad 0), .ref (ad i1)]) (n := 2) (Nat.le_of_ble_eq_true rfl)
  rw [lg_entry_eq]
  generalize (lg_sl ([.ref (ad 0), .ref (ad i1)]) ++ List.replicate (2 - (lg_sl ([.ref (ad 0), .ref (ad i1)])).length) Slot.unset).toArray = ls at hl ⊢
  have hl : lv_has ls 2 [(0, .ref (ad 0)), (1, .ref (ad i1))] := hl
  have lk10 := hts (.fieldLink RX1 10 "FerryFloor" "now" "LFerryFloor$State;") (by decide +kernel)
  have lk62 := hts (.fieldLink RX1 62 "FerryFloor$State" "tares" "[I") (by decide +kernel)
  have lk31 := hts (.fieldLink RX1 31 "FerryFloor" "expected" "[I") (by decide +kernel)
  have lk86 := hts (.fieldLink RX1 86 "FerryFloor$State" "bookWeights" "[I") (by decide +kernel)
  have hin1 : ∀ w ∈ u_ws RX1 TX1 7, w ∈ wsX1_expectAll := by decide +kernel
  have hin0 : ∀ w ∈ u_ws RX0 TX0 15, w ∈ wsX1_expectAll := by decide +kernel
  refine lv_aload_n hx hb dX1_expectAll_0 rfl (lv_at hl 0 rfl) ?_
  refine q_getF (v := .ref (ad 1)) hx hb hts hin1 hown hK hP 0 (by decide) lk10 (fun _ h => h) rfl dX1_expectAll_1 ?_
  refine q_getS (v := .ref (ad 4)) hx hb hts hin0 hown hK hP 1 st_1 5 (by decide) lk62 (fun _ h => h) rfl dX1_expectAll_4 ?_
  refine lv_aload_n hx hb dX1_expectAll_7 rfl (lv_at hl 0 rfl) ?_
  refine q_getF (v := .ref (ad 16)) hx hb hts hin1 hown hK hP 5 (by decide) lk31 (fun _ h => h) rfl dX1_expectAll_8 ?_
  refine q_callV (va_runS (As := [.ref (ad 4), .ref (ad 16)]) (rest := []) ⟨hx, hb, hml, hown, hts⟩ (mX1_copyRow l D cI cS ad hI R F 4 16 24 (ar_4) (ar_16) (by decide)) (va_cwS 2 hts gX1_expectAll_X1_copyRow rfl rfl rfl (by decide +kernel) ⟨Nat.le_of_ble_eq_true rfl, Nat.le_of_ble_eq_true rfl⟩) (PW_preS hK hP) rfl rfl hl.1 rfl (lv_room (Nat.le_of_ble_eq_true rfl)) dX1_expectAll_11 ⟨Nat.zero_le _, Nat.zero_le _⟩) hS (fun H locs hP hS => ?_)
  refine lv_aload_n hx hb dX1_expectAll_14 rfl (lv_at hl 0 rfl) ?_
  refine q_getF (v := .ref (ad 16)) hx hb hts hin1 hown hK hP 5 (by decide) lk31 (fun _ h => h) rfl dX1_expectAll_15 ?_
  refine lv_aload_n hx hb dX1_expectAll_18 rfl (lv_at hl 0 rfl) ?_
  refine q_getF (v := .ref (ad 1)) hx hb hts hin1 hown hK hP 0 (by decide) lk10 (fun _ h => h) rfl dX1_expectAll_19 ?_
  refine q_getS (v := .ref (ad 8)) hx hb hts hin0 hown hK hP 1 st_1 9 (by decide) lk86 (fun _ h => h) rfl dX1_expectAll_22 ?_
  refine lv_aload_n hx hb dX1_expectAll_25 rfl (lv_at hl 1 rfl) ?_
  refine q_callV (va_runS (As := [.ref (ad 16), .ref (ad 8), .ref (ad i1)]) (rest := []) ⟨hx, hb, hml, hown, hts⟩ (mX1_addAllShares l D cI cS ad hI (xX1_copyRow R F 4 16 24) F 16 8 i1 (ar_16) (ar_8) hi1) (va_cwS 3 hts gX1_expectAll_X1_addAllShares rfl rfl rfl (by decide +kernel) ⟨Nat.le_of_ble_eq_true rfl, Nat.le_of_ble_eq_true rfl⟩) (PW_preS hK hP) rfl rfl hl.1 rfl (lv_room (Nat.le_of_ble_eq_true rfl)) dX1_expectAll_26 ⟨Nat.zero_le _, Nat.zero_le _⟩) hS (fun H locs hP hS => ?_)
  have hX : (xX1_expectAll R F i1) = (xX1_addAllShares (xX1_copyRow R F 4 16 24) F 16 8 i1) := by unfold xX1_expectAll; rfl
  exact W.vret hx hb hr (fun t ht hW => ⟨rfl, by rw [hX, ht]; with_reducible exact hP, hS.F ht⟩) hS.2.2 dX1_expectAll_29

def hX1_earliestTare_10 (R F : Nat → Nat → Int32) (p1 : Int32) : Nat → Nat → Int32 → Int32
  | 0, k, x2 => x2
  | n + 1, k, x2 => (if (xX1_isCell (xX1_nearCell p1 (nI k))) = (0 : Int32) then (hX1_earliestTare_10 R F p1 n (k + 1) x2) else (hX1_earliestTare_10 R F p1 n (k + 1) (if (R 5 ((xX1_nearCell p1 (nI k))).toNatClampNeg) < x2 then (R 5 ((xX1_nearCell p1 (nI k))).toNatClampNeg) else x2)))
theorem hX1_earliestTare_10_z (R F : Nat → Nat → Int32) (p1 : Int32) (k : Nat) (x2 : Int32) : hX1_earliestTare_10 R F p1 0 k x2 = x2 := rfl
theorem hX1_earliestTare_10_s (R F : Nat → Nat → Int32) (p1 : Int32) (n : Nat) (k : Nat) (x2 : Int32) : hX1_earliestTare_10 R F p1 (n + 1) k x2 = (if (xX1_isCell (xX1_nearCell p1 (nI k))) = (0 : Int32) then (hX1_earliestTare_10 R F p1 n (k + 1) x2) else (hX1_earliestTare_10 R F p1 n (k + 1) (if (R 5 ((xX1_nearCell p1 (nI k))).toNatClampNeg) < x2 then (R 5 ((xX1_nearCell p1 (nI k))).toNatClampNeg) else x2))) := rfl
def xX1_earliestTare (R F : Nat → Nat → Int32) (p1 : Int32) : Int32 :=
  (hX1_earliestTare_10 R F p1 5 0 (F 1 0))
set_option maxHeartbeats 4000000 in
set_option maxRecDepth 100000 in
theorem mX1_earliestTare (l : Launch) (D : va_G) (cI cS : ClassId) (ad : Nat → Nat) (hI : Inj ad) (R F : Nat → Nat → Int32) (p1 : Int32) : Met l yX1_earliestTare wsX1_earliestTare ({ frames := 1, cells := 0, slots := 0, locals := 22 }) (PW D cI cS ad R F [.ref (ad 0), .int p1]) (QS (xX1_earliestTare R F p1)) 0 0 (fun _ => False) := by
  refine Met.ofW (cc := cX1_earliestTare) (maxL := 5) (ret := (some .int)) (by decide) rfl ?_
  intro p e s m args below meth c s₁ B hml hv
  obtain ⟨rfl, hP, hK⟩ := hv
  have hx := B.exec
  have hb := B.bytes
  have hr := B.returns
  have hts := atoms_spec (ws := wsX1_earliestTare) B.pre
  have hown : s.vm.findClass RX1 = some m.cls := findClass_of_methodNamed B.named
  have hlocks := B.notSynchronized
  have hS : va_S (AA ad) s.heap s.heap [] := va_S.rf
  have hl := lv_entry ([.ref (ad 0), .int p1]) (n := 5) (Nat.le_of_ble_eq_true rfl)
  rw [lg_entry_eq]
  generalize (lg_sl ([.ref (ad 0), .int p1]) ++ List.replicate (5 - (lg_sl ([.ref (ad 0), .int p1])).length) Slot.unset).toArray = ls at hl ⊢
  have hl : lv_has ls 5 [(0, .ref (ad 0)), (1, .int p1)] := hl
  have lk10 := hts (.fieldLink RX1 10 "FerryFloor" "now" "LFerryFloor$State;") (by decide +kernel)
  have lk52 := hts (.fieldLink RX1 52 "FerryFloor$State" "minute" "I") (by decide +kernel)
  have lk65 := hts (.fieldLink RX1 65 "FerryFloor$State" "tareMinutes" "[I") (by decide +kernel)
  have hin1 : ∀ w ∈ u_ws RX1 TX1 7, w ∈ wsX1_earliestTare := by decide +kernel
  have hin0 : ∀ w ∈ u_ws RX0 TX0 15, w ∈ wsX1_earliestTare := by decide +kernel
  refine lv_aload_n hx hb dX1_earliestTare_0 rfl (lv_at hl 0 rfl) ?_
  refine q_getF (v := .ref (ad 1)) hx hb hts hin1 hown hK hP 0 (by decide) lk10 (fun _ h => h) rfl dX1_earliestTare_1 ?_
  refine q_getS (v := .int (F 1 0)) hx hb hts hin0 hown hK hP 1 st_1 0 (by decide) lk52 (fun _ h => h) rfl dX1_earliestTare_4 ?_
  refine lv_istore_n (lv' := [(2, .int (F 1 0)), (0, .ref (ad 0)), (1, .int p1)]) hx hb dX1_earliestTare_7 rfl hl (by decide) rfl (fun ls hl => ?_)
  refine lv_iconst (v := 0) hx hb dX1_earliestTare_8 (by decide) ?_
  refine lv_istore_n (lv' := [(3, .int (0 : Int32)), (2, .int (F 1 0)), (0, .ref (ad 0)), (1, .int p1)]) hx hb dX1_earliestTare_9 rfl hl (by decide) rfl (fun ls hl => ?_)
  refine q_loop (fun nn H locs ls => ∃ (k : Nat) (x2 : Int32), k + nn = 5 ∧ hX1_earliestTare_10 R F p1 nn k x2 = (xX1_earliestTare R F p1) ∧ WP D cI cS ad R F H ∧ locs = [] ∧ H = s.heap ∧ lv_has ls 5 [(3, .int (nI k)), (2, .int x2), (0, .ref (ad 0)), (1, .int p1)]) 5 ⟨0, (F 1 0), by omega, by unfold xX1_earliestTare; rfl, hP, rfl, rfl, lv_sub hl [0, 1, 2, 3] rfl⟩ ?_ ?_
  · intro H locs ls hz
    obtain ⟨k, x2, hkn, hsp, hP, rfl, rfl, hl⟩ := hz
    refine lv_iload_n hx hb dX1_earliestTare_10 rfl (lv_at hl 0 rfl) ?_
    refine lv_iconst (v := 5) hx hb dX1_earliestTare_11 (by decide) ?_
    refine lv_icmp_ge (tgt := 51) hx hb dX1_earliestTare_12 (by decide) (fun c_12 => ?_) (fun c_12 => ?_)
    · refine lv_iload_n hx hb dX1_earliestTare_51 rfl (lv_at hl 1 rfl) ?_
      have hX : (xX1_earliestTare R F p1) = x2 := by rw [← hsp, hX1_earliestTare_10_z]
      exact W.iret (v := x2) hx hb hr (fun t ht hW => ⟨by rw [hX], ht⟩) (fun _ h => by cases h) dX1_earliestTare_52
    · exact absurd (nI_le (a := 5) (b := k) (by omega) (by omega)) c_12
  · intro n ih H locs ls hz
    obtain ⟨k, x2, hkn, hsp, hP, rfl, rfl, hl⟩ := hz
    refine lv_iload_n hx hb dX1_earliestTare_10 rfl (lv_at hl 0 rfl) ?_
    refine lv_iconst (v := 5) hx hb dX1_earliestTare_11 (by decide) ?_
    refine lv_icmp_ge (tgt := 51) hx hb dX1_earliestTare_12 (by decide) (fun c_12 => ?_) (fun c_12 => ?_)
    · exact absurd c_12 (nI_ge (a := k) (b := 5) (by omega) (by omega))
    · refine lv_iload_n hx hb dX1_earliestTare_15 rfl (lv_at hl 3 rfl) ?_
      refine lv_iload_n hx hb dX1_earliestTare_16 rfl (lv_at hl 0 rfl) ?_
      refine q_callS (va_runS (As := [.int p1, .int (nI k)]) (rest := []) ⟨hx, hb, hml, hown, hts⟩ (mX1_nearCell l D cI cS ad hI R F p1 (nI k)) (va_cwS 2 hts gX1_earliestTare_X1_nearCell rfl rfl rfl (by decide +kernel) ⟨Nat.le_of_ble_eq_true rfl, Nat.le_of_ble_eq_true rfl⟩) (PW_preS hK hP) rfl rfl hl.1 rfl (lv_room (Nat.le_of_ble_eq_true rfl)) dX1_earliestTare_17 ⟨Nat.zero_le _, Nat.zero_le _⟩) ?_
      refine lv_istore (lv' := [(4, .int (xX1_nearCell p1 (nI k))), (3, .int (nI k)), (2, .int x2), (0, .ref (ad 0)), (1, .int p1)]) hx hb dX1_earliestTare_20 hl (by decide) rfl (fun ls hl => ?_)
      refine lv_iload hx hb dX1_earliestTare_22 (lv_at hl 0 rfl) ?_
      refine q_callS (va_runS (As := [.int (xX1_nearCell p1 (nI k))]) (rest := []) ⟨hx, hb, hml, hown, hts⟩ (mX1_isCell l D cI cS ad hI R F (xX1_nearCell p1 (nI k))) (va_cwS 1 hts gX1_earliestTare_X1_isCell rfl rfl rfl (by decide +kernel) ⟨Nat.le_of_ble_eq_true rfl, Nat.le_of_ble_eq_true rfl⟩) (PW_preS hK hP) rfl rfl hl.1 rfl (lv_room (Nat.le_of_ble_eq_true rfl)) dX1_earliestTare_24 ⟨Nat.zero_le _, Nat.zero_le _⟩) ?_
      refine lv_if_eq (tgt := 45) hx hb dX1_earliestTare_27 (by decide) (fun c_27 => ?_) (fun c_27 => ?_)
      · refine lv_iinc (v := (nI (k + 1))) (lv' := [(3, .int (nI (k + 1))), (4, .int (xX1_nearCell p1 (nI k))), (2, .int x2), (0, .ref (ad 0)), (1, .int p1)]) hx hb dX1_earliestTare_45 hl (k := 1) rfl (nI_1 k) (by decide) rfl (fun ls hl => ?_)
        refine lv_goto (tgt := 10) hx hb dX1_earliestTare_48 (by decide) ?_
        exact ih _ _ _ ⟨(k + 1), x2, by omega, by rw [← hsp, hX1_earliestTare_10_s, if_pos c_27], hP, rfl, rfl, lv_sub hl [0, 2, 3, 4] rfl⟩
      · refine lv_iload_n hx hb dX1_earliestTare_30 rfl (lv_at hl 2 rfl) ?_
        refine lv_aload_n hx hb dX1_earliestTare_31 rfl (lv_at hl 3 rfl) ?_
        refine q_getF (v := .ref (ad 1)) hx hb hts hin1 hown hK hP 0 (by decide) lk10 (fun _ h => h) rfl dX1_earliestTare_32 ?_
        refine q_getS (v := .ref (ad 5)) hx hb hts hin0 hown hK hP 1 st_1 6 (by decide) lk65 (fun _ h => h) rfl dX1_earliestTare_35 ?_
        refine lv_iload hx hb dX1_earliestTare_38 (lv_at hl 0 rfl) ?_
        refine q_ild hx hb hK hP 5 24 (ar_5) dX1_earliestTare_40 (by first | assumption | exact isCell_in (by assumption) | exact isWalker_in (by assumption) | exact isAboard_in (by assumption) | exact isPair_in1 (by assumption) | exact isPair_in2 (by assumption) | exact isWithin7_in (by assumption) | exact vp_in_nI (by omega) (by decide)) ?_
        refine va_mmin hx hb (hml.trans hl.1.symm) hown (hts (.methodLink RX1 205 Lib.Math.min.name) (by decide +kernel)) (hts (.static Lib.Math.min.name) (by decide +kernel)) (hts (.initialized "java/lang/Math") (by decide +kernel)) (hts (.code Lib.Math.min.name Lib.Math.min.code 2 (some .int)) (by decide +kernel)) (Nat.le_of_ble_eq_true rfl) (Nat.le_of_ble_eq_true rfl) (Nat.zero_le _) (Nat.zero_le _) dX1_earliestTare_41 ?_
        refine lv_istore_n (lv' := [(2, .int (if (R 5 ((xX1_nearCell p1 (nI k))).toNatClampNeg) < x2 then (R 5 ((xX1_nearCell p1 (nI k))).toNatClampNeg) else x2)), (4, .int (xX1_nearCell p1 (nI k))), (3, .int (nI k)), (0, .ref (ad 0)), (1, .int p1)]) hx hb dX1_earliestTare_44 rfl hl (by decide) rfl (fun ls hl => ?_)
        refine lv_iinc (v := (nI (k + 1))) (lv' := [(3, .int (nI (k + 1))), (2, .int (if (R 5 ((xX1_nearCell p1 (nI k))).toNatClampNeg) < x2 then (R 5 ((xX1_nearCell p1 (nI k))).toNatClampNeg) else x2)), (4, .int (xX1_nearCell p1 (nI k))), (0, .ref (ad 0)), (1, .int p1)]) hx hb dX1_earliestTare_45 hl (k := 2) rfl (nI_1 k) (by decide) rfl (fun ls hl => ?_)
        refine lv_goto (tgt := 10) hx hb dX1_earliestTare_48 (by decide) ?_
        exact ih _ _ _ ⟨(k + 1), (if (R 5 ((xX1_nearCell p1 (nI k))).toNatClampNeg) < x2 then (R 5 ((xX1_nearCell p1 (nI k))).toNatClampNeg) else x2), by omega, by rw [← hsp, hX1_earliestTare_10_s, if_neg c_27], hP, rfl, rfl, lv_sub hl [0, 1, 3, 4] rfl⟩

def xX1_exchangePair (R F : Nat → Nat → Int32) (i1 : Nat) (p2 : Int32) : (Nat → Nat → Int32) :=
  (if (xX1_isPair R F (p2 / (10 : Int32)) (p2 - p2 / (10 : Int32) * (10 : Int32))) = (0 : Int32) then R else (xX1_exchange R F i1 (p2 / (10 : Int32)) (p2 - p2 / (10 : Int32) * (10 : Int32))))
set_option maxHeartbeats 4000000 in
set_option maxRecDepth 100000 in
theorem mX1_exchangePair (l : Launch) (D : va_G) (cI cS : ClassId) (ad : Nat → Nat) (hI : Inj ad) (R F : Nat → Nat → Int32) (i1 : Nat) (p2 : Int32) (hi1 : Ar i1 8) : Met l yX1_exchangePair wsX1_exchangePair ({ frames := 2, cells := 0, slots := 0, locals := 43 }) (PW D cI cS ad R F [.ref (ad 0), .ref (ad i1), .int p2]) (QV D cI cS ad (xX1_exchangePair R F i1 p2) F) 0 0 (AA ad) := by
  refine Met.ofW (cc := cX1_exchangePair) (maxL := 5) (ret := none) (by decide) rfl ?_
  intro p e s m args below meth c s₁ B hml hv
  obtain ⟨rfl, hP, hK⟩ := hv
  have hx := B.exec
  have hb := B.bytes
  have hr := B.returns
  have hts := atoms_spec (ws := wsX1_exchangePair) B.pre
  have hown : s.vm.findClass RX1 = some m.cls := findClass_of_methodNamed B.named
  have hlocks := B.notSynchronized
  have hS : va_S (AA ad) s.heap s.heap [] := va_S.rf
  have hl := lv_entry ([.ref (ad 0), .ref (ad i1), .int p2]) (n := 5) (Nat.le_of_ble_eq_true rfl)
  rw [lg_entry_eq]
  generalize (lg_sl ([.ref (ad 0), .ref (ad i1), .int p2]) ++ List.replicate (5 - (lg_sl ([.ref (ad 0), .ref (ad i1), .int p2])).length) Slot.unset).toArray = ls at hl ⊢
  have hl : lv_has ls 5 [(0, .ref (ad 0)), (1, .ref (ad i1)), (2, .int p2)] := hl
  refine lv_iload_n hx hb dX1_exchangePair_0 rfl (lv_at hl 2 rfl) ?_
  refine lv_bipush (v := 10) hx hb dX1_exchangePair_1 (by decide) ?_
  refine lv_idiv hx hb dX1_exchangePair_3 (by decide) ?_
  refine lv_istore_n (lv' := [(3, .int (p2 / (10 : Int32))), (0, .ref (ad 0)), (1, .ref (ad i1)), (2, .int p2)]) hx hb dX1_exchangePair_4 rfl hl (by decide) rfl (fun ls hl => ?_)
  refine lv_iload_n hx hb dX1_exchangePair_5 rfl (lv_at hl 3 rfl) ?_
  refine lv_bipush (v := 10) hx hb dX1_exchangePair_6 (by decide) ?_
  refine lv_irem hx hb dX1_exchangePair_8 (by decide) ?_
  refine lv_istore (lv' := [(4, .int (p2 - p2 / (10 : Int32) * (10 : Int32))), (3, .int (p2 / (10 : Int32))), (0, .ref (ad 0)), (1, .ref (ad i1)), (2, .int p2)]) hx hb dX1_exchangePair_9 hl (by decide) rfl (fun ls hl => ?_)
  refine lv_aload_n hx hb dX1_exchangePair_11 rfl (lv_at hl 2 rfl) ?_
  refine lv_iload_n hx hb dX1_exchangePair_12 rfl (lv_at hl 1 rfl) ?_
  refine lv_iload hx hb dX1_exchangePair_13 (lv_at hl 0 rfl) ?_
  refine q_callS (va_runV (As := [.int (p2 / (10 : Int32)), .int (p2 - p2 / (10 : Int32) * (10 : Int32))]) (rest := []) ⟨hx, hb, hml, hown, hts⟩ (mX1_isPair l D cI cS ad hI R F (p2 / (10 : Int32)) (p2 - p2 / (10 : Int32) * (10 : Int32))) (cwV 2 hts gX1_exchangePair_X1_isPair rfl rfl rfl (by decide +kernel) ⟨Nat.le_of_ble_eq_true rfl, Nat.le_of_ble_eq_true rfl⟩) (PW_preV (i := 0) (by decide) CC_0 rfl rfl hK hP) rfl rfl hl.1 rfl (lv_room (Nat.le_of_ble_eq_true rfl)) dX1_exchangePair_15 ⟨Nat.zero_le _, Nat.zero_le _⟩) ?_
  refine lv_if_eq (tgt := 28) hx hb dX1_exchangePair_18 (by decide) (fun c_18 => ?_) (fun c_18 => ?_)
  · have hX : (xX1_exchangePair R F i1 p2) = R := by unfold xX1_exchangePair; rw [if_pos c_18]
    exact W.vret hx hb hr (fun t ht hW => ⟨rfl, by rw [hX, ht]; with_reducible exact hP, hS.F ht⟩) hS.2.2 dX1_exchangePair_28
  · refine lv_aload_n hx hb dX1_exchangePair_21 rfl (lv_at hl 3 rfl) ?_
    refine lv_iload_n hx hb dX1_exchangePair_22 rfl (lv_at hl 1 rfl) ?_
    refine lv_iload hx hb dX1_exchangePair_23 (lv_at hl 0 rfl) ?_
    refine q_callV (va_runS (As := [.ref (ad i1), .int (p2 / (10 : Int32)), .int (p2 - p2 / (10 : Int32) * (10 : Int32))]) (rest := []) ⟨hx, hb, hml, hown, hts⟩ (mX1_exchange l D cI cS ad hI R F i1 (p2 / (10 : Int32)) (p2 - p2 / (10 : Int32) * (10 : Int32)) hi1 (by first | assumption | exact isCell_in (by assumption) | exact isWalker_in (by assumption) | exact isAboard_in (by assumption) | exact isPair_in1 (by assumption) | exact isPair_in2 (by assumption) | exact isWithin7_in (by assumption) | exact vp_in_nI (by omega) (by decide)) (by first | assumption | exact isCell_in (by assumption) | exact isWalker_in (by assumption) | exact isAboard_in (by assumption) | exact isPair_in1 (by assumption) | exact isPair_in2 (by assumption) | exact isWithin7_in (by assumption) | exact vp_in_nI (by omega) (by decide))) (va_cwS 3 hts gX1_exchangePair_X1_exchange rfl rfl rfl (by decide +kernel) ⟨Nat.le_of_ble_eq_true rfl, Nat.le_of_ble_eq_true rfl⟩) (PW_preS hK hP) rfl rfl hl.1 rfl (lv_room (Nat.le_of_ble_eq_true rfl)) dX1_exchangePair_25 ⟨Nat.zero_le _, Nat.zero_le _⟩) hS (fun H locs hP hS => ?_)
    have hX : (xX1_exchangePair R F i1 p2) = (xX1_exchange R F i1 (p2 / (10 : Int32)) (p2 - p2 / (10 : Int32) * (10 : Int32))) := by unfold xX1_exchangePair; rw [if_neg c_18]
    exact W.vret hx hb hr (fun t ht hW => ⟨rfl, by rw [hX, ht]; with_reducible exact hP, hS.F ht⟩) hS.2.2 dX1_exchangePair_28

def hX1_errorWith_13 (R F : Nat → Nat → Int32) (i1 : Nat) : Nat → Nat → Int32 → Int32 × (Nat → Nat → Int32)
  | 0, k, x2 => (x2, (xX1_expectAll (xX1_weighAll R F) F i1))
  | n + 1, k, x2 => (hX1_errorWith_13 R F i1 n (k + 1) (x2 + (if (0 : Int32) ≤ (((xX1_expectAll (xX1_weighAll R F) F i1) 15 k) - ((xX1_expectAll (xX1_weighAll R F) F i1) 16 k)) then (((xX1_expectAll (xX1_weighAll R F) F i1) 15 k) - ((xX1_expectAll (xX1_weighAll R F) F i1) 16 k)) else (0 : Int32) - (((xX1_expectAll (xX1_weighAll R F) F i1) 15 k) - ((xX1_expectAll (xX1_weighAll R F) F i1) 16 k)))))
theorem hX1_errorWith_13_z (R F : Nat → Nat → Int32) (i1 : Nat) (k : Nat) (x2 : Int32) : hX1_errorWith_13 R F i1 0 k x2 = (x2, (xX1_expectAll (xX1_weighAll R F) F i1)) := rfl
theorem hX1_errorWith_13_s (R F : Nat → Nat → Int32) (i1 : Nat) (n : Nat) (k : Nat) (x2 : Int32) : hX1_errorWith_13 R F i1 (n + 1) k x2 = (hX1_errorWith_13 R F i1 n (k + 1) (x2 + (if (0 : Int32) ≤ (((xX1_expectAll (xX1_weighAll R F) F i1) 15 k) - ((xX1_expectAll (xX1_weighAll R F) F i1) 16 k)) then (((xX1_expectAll (xX1_weighAll R F) F i1) 15 k) - ((xX1_expectAll (xX1_weighAll R F) F i1) 16 k)) else (0 : Int32) - (((xX1_expectAll (xX1_weighAll R F) F i1) 15 k) - ((xX1_expectAll (xX1_weighAll R F) F i1) 16 k))))) := rfl
def xX1_errorWith (R F : Nat → Nat → Int32) (i1 : Nat) : Int32 × (Nat → Nat → Int32) :=
  (hX1_errorWith_13 R F i1 24 0 (0 : Int32))
set_option maxHeartbeats 4000000 in
set_option maxRecDepth 100000 in
theorem mX1_errorWith (l : Launch) (D : va_G) (cI cS : ClassId) (ad : Nat → Nat) (hI : Inj ad) (R F : Nat → Nat → Int32) (i1 : Nat) (hi1 : Ar i1 8) : Met l yX1_errorWith wsX1_errorWith ({ frames := 4, cells := 0, slots := 0, locals := 92 }) (PW D cI cS ad R F [.ref (ad 0), .ref (ad i1)]) (QI D cI cS ad ((xX1_errorWith R F i1).1) ((xX1_errorWith R F i1).2) F) 0 0 (AA ad) := by
  refine Met.ofW (cc := cX1_errorWith) (maxL := 4) (ret := (some .int)) (by decide) rfl ?_
  intro p e s m args below meth c s₁ B hml hv
  obtain ⟨rfl, hP, hK⟩ := hv
  have hx := B.exec
  have hb := B.bytes
  have hr := B.returns
  have hts := atoms_spec (ws := wsX1_errorWith) B.pre
  have hown : s.vm.findClass RX1 = some m.cls := findClass_of_methodNamed B.named
  have hlocks := B.notSynchronized
  have hS : va_S (AA ad) s.heap s.heap [] := va_S.rf
  have hl := lv_entry ([.ref (ad 0), .ref (ad i1)]) (n := 4) (Nat.le_of_ble_eq_true rfl)
  rw [lg_entry_eq]
  generalize (lg_sl ([.ref (ad 0), .ref (ad i1)]) ++ List.replicate (4 - (lg_sl ([.ref (ad 0), .ref (ad i1)])).length) Slot.unset).toArray = ls at hl ⊢
  have hl : lv_has ls 4 [(0, .ref (ad 0)), (1, .ref (ad i1))] := hl
  have lk27 := hts (.fieldLink RX1 27 "FerryFloor" "readings" "[I") (by decide +kernel)
  have lk31 := hts (.fieldLink RX1 31 "FerryFloor" "expected" "[I") (by decide +kernel)
  have hin1 : ∀ w ∈ u_ws RX1 TX1 7, w ∈ wsX1_errorWith := by decide +kernel
  refine lv_aload_n hx hb dX1_errorWith_0 rfl (lv_at hl 0 rfl) ?_
  refine q_callV (va_runV (As := []) (rest := []) ⟨hx, hb, hml, hown, hts⟩ (mX1_weighAll l D cI cS ad hI R F) (cwV 0 hts gX1_errorWith_X1_weighAll rfl rfl rfl (by decide +kernel) ⟨Nat.le_of_ble_eq_true rfl, Nat.le_of_ble_eq_true rfl⟩) (PW_preV (i := 0) (by decide) CC_0 rfl rfl hK hP) rfl rfl hl.1 rfl (lv_room (Nat.le_of_ble_eq_true rfl)) dX1_errorWith_1 ⟨Nat.zero_le _, Nat.zero_le _⟩) hS (fun H locs hP hS => ?_)
  refine lv_aload_n hx hb dX1_errorWith_4 rfl (lv_at hl 0 rfl) ?_
  refine lv_aload_n hx hb dX1_errorWith_5 rfl (lv_at hl 1 rfl) ?_
  refine q_callV (va_runV (As := [.ref (ad i1)]) (rest := []) ⟨hx, hb, hml, hown, hts⟩ (mX1_expectAll l D cI cS ad hI (xX1_weighAll R F) F i1 hi1) (cwV 1 hts gX1_errorWith_X1_expectAll rfl rfl rfl (by decide +kernel) ⟨Nat.le_of_ble_eq_true rfl, Nat.le_of_ble_eq_true rfl⟩) (PW_preV (i := 0) (by decide) CC_0 rfl rfl hK hP) rfl rfl hl.1 rfl (lv_room (Nat.le_of_ble_eq_true rfl)) dX1_errorWith_6 ⟨Nat.zero_le _, Nat.zero_le _⟩) hS (fun H locs hP hS => ?_)
  refine lv_iconst (v := 0) hx hb dX1_errorWith_9 (by decide) ?_
  refine lv_istore_n (lv' := [(2, .int (0 : Int32)), (0, .ref (ad 0)), (1, .ref (ad i1))]) hx hb dX1_errorWith_10 rfl hl (by decide) rfl (fun ls hl => ?_)
  refine lv_iconst (v := 0) hx hb dX1_errorWith_11 (by decide) ?_
  refine lv_istore_n (lv' := [(3, .int (0 : Int32)), (2, .int (0 : Int32)), (0, .ref (ad 0)), (1, .ref (ad i1))]) hx hb dX1_errorWith_12 rfl hl (by decide) rfl (fun ls hl => ?_)
  refine q_loop (fun nn H locs ls => ∃ (k : Nat) (x2 : Int32), k + nn = 24 ∧ hX1_errorWith_13 R F i1 nn k x2 = (xX1_errorWith R F i1) ∧ WP D cI cS ad (xX1_expectAll (xX1_weighAll R F) F i1) F H ∧ va_S (AA ad) s.heap H locs ∧ lv_has ls 4 [(3, .int (nI k)), (2, .int x2), (0, .ref (ad 0)), (1, .ref (ad i1))]) 24 ⟨0, (0 : Int32), by omega, by unfold xX1_errorWith; rfl, hP, hS, lv_sub hl [0, 1, 2, 3] rfl⟩ ?_ ?_
  · intro H locs ls hz
    obtain ⟨k, x2, hkn, hsp, hP, hS, hl⟩ := hz
    refine lv_iload_n hx hb dX1_errorWith_13 rfl (lv_at hl 0 rfl) ?_
    refine lv_bipush (v := 24) hx hb dX1_errorWith_14 (by decide) ?_
    refine lv_icmp_ge (tgt := 44) hx hb dX1_errorWith_16 (by decide) (fun c_16 => ?_) (fun c_16 => ?_)
    · refine lv_iload_n hx hb dX1_errorWith_44 rfl (lv_at hl 1 rfl) ?_
      have hX : (xX1_errorWith R F i1) = (x2, (xX1_expectAll (xX1_weighAll R F) F i1)) := by rw [← hsp, hX1_errorWith_13_z]
      exact W.iret (v := x2) hx hb hr (fun t ht hW => ⟨by rw [hX], by rw [hX, ht]; with_reducible exact hP, hS.F ht⟩) hS.2.2 dX1_errorWith_45
    · exact absurd (nI_le (a := 24) (b := k) (by omega) (by omega)) c_16
  · intro n ih H locs ls hz
    obtain ⟨k, x2, hkn, hsp, hP, hS, hl⟩ := hz
    refine lv_iload_n hx hb dX1_errorWith_13 rfl (lv_at hl 0 rfl) ?_
    refine lv_bipush (v := 24) hx hb dX1_errorWith_14 (by decide) ?_
    refine lv_icmp_ge (tgt := 44) hx hb dX1_errorWith_16 (by decide) (fun c_16 => ?_) (fun c_16 => ?_)
    · exact absurd c_16 (nI_ge (a := k) (b := 24) (by omega) (by omega))
    · refine lv_iload_n hx hb dX1_errorWith_19 rfl (lv_at hl 1 rfl) ?_
      refine lv_aload_n hx hb dX1_errorWith_20 rfl (lv_at hl 2 rfl) ?_
      refine q_getF (v := .ref (ad 15)) hx hb hts hin1 hown hK hP 4 (by decide) lk27 (fun _ h => h) rfl dX1_errorWith_21 ?_
      refine lv_iload_n hx hb dX1_errorWith_24 rfl (lv_at hl 0 rfl) ?_
      refine q_ildN hx hb hK hP 15 24 (ar_15) k dX1_errorWith_25 rfl (by omega) (by decide) ?_
      refine lv_aload_n hx hb dX1_errorWith_26 rfl (lv_at hl 2 rfl) ?_
      refine q_getF (v := .ref (ad 16)) hx hb hts hin1 hown hK hP 5 (by decide) lk31 (fun _ h => h) rfl dX1_errorWith_27 ?_
      refine lv_iload_n hx hb dX1_errorWith_30 rfl (lv_at hl 0 rfl) ?_
      refine q_ildN hx hb hK hP 16 24 (ar_16) k dX1_errorWith_31 rfl (by omega) (by decide) ?_
      refine lv_isub hx hb dX1_errorWith_32 ?_
      refine va_mabs hx hb (hml.trans hl.1.symm) hown (hts (.methodLink RX1 208 Lib.Math.abs.name) (by decide +kernel)) (hts (.static Lib.Math.abs.name) (by decide +kernel)) (hts (.initialized "java/lang/Math") (by decide +kernel)) (hts (.code Lib.Math.abs.name Lib.Math.abs.code 1 (some .int)) (by decide +kernel)) (Nat.le_of_ble_eq_true rfl) (Nat.le_of_ble_eq_true rfl) (Nat.zero_le _) (Nat.zero_le _) dX1_errorWith_33 ?_
      refine lv_iadd hx hb dX1_errorWith_36 ?_
      refine lv_istore_n (lv' := [(2, .int (x2 + (if (0 : Int32) ≤ (((xX1_expectAll (xX1_weighAll R F) F i1) 15 k) - ((xX1_expectAll (xX1_weighAll R F) F i1) 16 k)) then (((xX1_expectAll (xX1_weighAll R F) F i1) 15 k) - ((xX1_expectAll (xX1_weighAll R F) F i1) 16 k)) else (0 : Int32) - (((xX1_expectAll (xX1_weighAll R F) F i1) 15 k) - ((xX1_expectAll (xX1_weighAll R F) F i1) 16 k))))), (3, .int (nI k)), (0, .ref (ad 0)), (1, .ref (ad i1))]) hx hb dX1_errorWith_37 rfl hl (by decide) rfl (fun ls hl => ?_)
      refine lv_iinc (v := (nI (k + 1))) (lv' := [(3, .int (nI (k + 1))), (2, .int (x2 + (if (0 : Int32) ≤ (((xX1_expectAll (xX1_weighAll R F) F i1) 15 k) - ((xX1_expectAll (xX1_weighAll R F) F i1) 16 k)) then (((xX1_expectAll (xX1_weighAll R F) F i1) 15 k) - ((xX1_expectAll (xX1_weighAll R F) F i1) 16 k)) else (0 : Int32) - (((xX1_expectAll (xX1_weighAll R F) F i1) 15 k) - ((xX1_expectAll (xX1_weighAll R F) F i1) 16 k))))), (0, .ref (ad 0)), (1, .ref (ad i1))]) hx hb dX1_errorWith_38 hl (k := 1) rfl (nI_1 k) (by decide) rfl (fun ls hl => ?_)
      refine lv_goto (tgt := 13) hx hb dX1_errorWith_41 (by decide) ?_
      exact ih _ _ _ ⟨(k + 1), (x2 + (if (0 : Int32) ≤ (((xX1_expectAll (xX1_weighAll R F) F i1) 15 k) - ((xX1_expectAll (xX1_weighAll R F) F i1) 16 k)) then (((xX1_expectAll (xX1_weighAll R F) F i1) 15 k) - ((xX1_expectAll (xX1_weighAll R F) F i1) 16 k)) else (0 : Int32) - (((xX1_expectAll (xX1_weighAll R F) F i1) 15 k) - ((xX1_expectAll (xX1_weighAll R F) F i1) 16 k)))), by omega, by rw [← hsp, hX1_errorWith_13_s], hP, hS, lv_sub hl [0, 1, 2, 3] rfl⟩
end
section
def xX0_copyFrom (R F : Nat → Nat → Int32) (i0 : Nat) (i1 : Nat) : (Nat → Nat → Int32) × (Nat → Nat → Int32) :=
  ((xX1_copyRow (xX1_copyRow (xX1_copyRow (xX1_copyRow (xX1_copyRow (xX1_copyRow (xX1_copyRow (xX1_copyRow (xX1_copyRow (xX1_copyRow (xX1_copyRow (xX1_copyRow R (sR (sR (sR F i0 0 (F i1 0)) i0 1 ((sR F i0 0 (F i1 0)) i1 1)) i0 2 ((sR (sR F i0 0 (F i1 0)) i0 1 ((sR F i0 0 (F i1 0)) i1 1)) i1 2)) (i1 + 1) (i0 + 1) 24) (sR (sR (sR F i0 0 (F i1 0)) i0 1 ((sR F i0 0 (F i1 0)) i1 1)) i0 2 ((sR (sR F i0 0 (F i1 0)) i0 1 ((sR F i0 0 (F i1 0)) i1 1)) i1 2)) (i1 + 2) (i0 + 2) 24) (sR (sR (sR F i0 0 (F i1 0)) i0 1 ((sR F i0 0 (F i1 0)) i1 1)) i0 2 ((sR (sR F i0 0 (F i1 0)) i0 1 ((sR F i0 0 (F i1 0)) i1 1)) i1 2)) (i1 + 3) (i0 + 3) 24) (sR (sR (sR F i0 0 (F i1 0)) i0 1 ((sR F i0 0 (F i1 0)) i1 1)) i0 2 ((sR (sR F i0 0 (F i1 0)) i0 1 ((sR F i0 0 (F i1 0)) i1 1)) i1 2)) (i1 + 4) (i0 + 4) 24) (sR (sR (sR F i0 0 (F i1 0)) i0 1 ((sR F i0 0 (F i1 0)) i1 1)) i0 2 ((sR (sR F i0 0 (F i1 0)) i0 1 ((sR F i0 0 (F i1 0)) i1 1)) i1 2)) (i1 + 5) (i0 + 5) 8) (sR (sR (sR F i0 0 (F i1 0)) i0 1 ((sR F i0 0 (F i1 0)) i1 1)) i0 2 ((sR (sR F i0 0 (F i1 0)) i0 1 ((sR F i0 0 (F i1 0)) i1 1)) i1 2)) (i1 + 6) (i0 + 6) 8) (sR (sR (sR F i0 0 (F i1 0)) i0 1 ((sR F i0 0 (F i1 0)) i1 1)) i0 2 ((sR (sR F i0 0 (F i1 0)) i0 1 ((sR F i0 0 (F i1 0)) i1 1)) i1 2)) (i1 + 7) (i0 + 7) 8) (sR (sR (sR F i0 0 (F i1 0)) i0 1 ((sR F i0 0 (F i1 0)) i1 1)) i0 2 ((sR (sR F i0 0 (F i1 0)) i0 1 ((sR F i0 0 (F i1 0)) i1 1)) i1 2)) (i1 + 8) (i0 + 8) 8) (sR (sR (sR F i0 0 (F i1 0)) i0 1 ((sR F i0 0 (F i1 0)) i1 1)) i0 2 ((sR (sR F i0 0 (F i1 0)) i0 1 ((sR F i0 0 (F i1 0)) i1 1)) i1 2)) (i1 + 9) (i0 + 9) 8) (sR (sR (sR F i0 0 (F i1 0)) i0 1 ((sR F i0 0 (F i1 0)) i1 1)) i0 2 ((sR (sR F i0 0 (F i1 0)) i0 1 ((sR F i0 0 (F i1 0)) i1 1)) i1 2)) (i1 + 10) (i0 + 10) 8) (sR (sR (sR F i0 0 (F i1 0)) i0 1 ((sR F i0 0 (F i1 0)) i1 1)) i0 2 ((sR (sR F i0 0 (F i1 0)) i0 1 ((sR F i0 0 (F i1 0)) i1 1)) i1 2)) (i1 + 11) (i0 + 11) 8) (sR (sR (sR F i0 0 (F i1 0)) i0 1 ((sR F i0 0 (F i1 0)) i1 1)) i0 2 ((sR (sR F i0 0 (F i1 0)) i0 1 ((sR F i0 0 (F i1 0)) i1 1)) i1 2)) (i1 + 12) (i0 + 12) 8), (sR (sR (sR F i0 0 (F i1 0)) i0 1 ((sR F i0 0 (F i1 0)) i1 1)) i0 2 ((sR (sR F i0 0 (F i1 0)) i0 1 ((sR F i0 0 (F i1 0)) i1 1)) i1 2)))
set_option maxHeartbeats 4000000 in
set_option maxRecDepth 100000 in
theorem mX0_copyFrom (l : Launch) (D : va_G) (cI cS : ClassId) (ad : Nat → Nat) (hI : Inj ad) (R F : Nat → Nat → Int32) (i0 : Nat) (i1 : Nat) (hi0 : St i0 = true) (hi1 : St i1 = true) : Met l yX0_copyFrom wsX0_copyFrom ({ frames := 2, cells := 0, slots := 0, locals := 69 }) (PW D cI cS ad R F [.ref (ad i0), .ref (ad i1)]) (QV D cI cS ad ((xX0_copyFrom R F i0 i1).1) ((xX0_copyFrom R F i0 i1).2)) 0 0 (AA ad) := by
  refine Met.ofW (cc := cX0_copyFrom) (maxL := 2) (ret := none) (by decide) rfl ?_
  intro p e s m args below meth c s₁ B hml hv
  obtain ⟨rfl, hP, hK⟩ := hv
  have hx := B.exec
  have hb := B.bytes
  have hr := B.returns
  have hts := atoms_spec (ws := wsX0_copyFrom) B.pre
  have hown : s.vm.findClass RX0 = some m.cls := findClass_of_methodNamed B.named
  have hlocks := B.notSynchronized
  have hS : va_S (AA ad) s.heap s.heap [] := va_S.rf
  have hl := lv_entry ([.ref (ad i0), .ref (ad i1)]) (n := 2) (Nat.le_of_ble_eq_true rfl)
  rw [lg_entry_eq]
  generalize (lg_sl ([.ref (ad i0), .ref (ad i1)]) ++ List.replicate (2 - (lg_sl ([.ref (ad i0), .ref (ad i1)])).length) Slot.unset).toArray = ls at hl ⊢
  have hl : lv_has ls 2 [(0, .ref (ad i0)), (1, .ref (ad i1))] := hl
  have lk9 := hts (.fieldLink RX0 9 "FerryFloor$State" "minute" "I") (by decide +kernel)
  have lk15 := hts (.fieldLink RX0 15 "FerryFloor$State" "price" "I") (by decide +kernel)
  have lk18 := hts (.fieldLink RX0 18 "FerryFloor$State" "walkers" "I") (by decide +kernel)
  have lk21 := hts (.fieldLink RX0 21 "FerryFloor$State" "zeros" "[I") (by decide +kernel)
  have lk25 := hts (.fieldLink RX0 25 "FerryFloor$State" "drifts" "[I") (by decide +kernel)
  have lk28 := hts (.fieldLink RX0 28 "FerryFloor$State" "tares" "[I") (by decide +kernel)
  have lk31 := hts (.fieldLink RX0 31 "FerryFloor$State" "tareMinutes" "[I") (by decide +kernel)
  have lk34 := hts (.fieldLink RX0 34 "FerryFloor$State" "weights" "[I") (by decide +kernel)
  have lk37 := hts (.fieldLink RX0 37 "FerryFloor$State" "places" "[I") (by decide +kernel)
  have lk40 := hts (.fieldLink RX0 40 "FerryFloor$State" "bookWeights" "[I") (by decide +kernel)
  have lk43 := hts (.fieldLink RX0 43 "FerryFloor$State" "bookPlaces" "[I") (by decide +kernel)
  have lk46 := hts (.fieldLink RX0 46 "FerryFloor$State" "accusations" "[I") (by decide +kernel)
  have lk49 := hts (.fieldLink RX0 49 "FerryFloor$State" "billKilograms" "[I") (by decide +kernel)
  have lk52 := hts (.fieldLink RX0 52 "FerryFloor$State" "billPrices" "[I") (by decide +kernel)
  have lk55 := hts (.fieldLink RX0 55 "FerryFloor$State" "backKilograms" "[I") (by decide +kernel)
  have hin0 : ∀ w ∈ u_ws RX0 TX0 15, w ∈ wsX0_copyFrom := by decide +kernel
  refine lv_aload_n hx hb dX0_copyFrom_0 rfl (lv_at hl 0 rfl) ?_
  refine lv_aload_n hx hb dX0_copyFrom_1 rfl (lv_at hl 1 rfl) ?_
  refine q_getS (v := .int (F i1 0)) hx hb hts hin0 hown hK hP i1 hi1 0 (by decide) lk9 (fun _ h => h) rfl dX0_copyFrom_2 ?_
  refine q_putS hx hb hts hin0 hown hK hI hP hS i0 hi0 0 (by decide) lk9 (fun _ h => h) dX0_copyFrom_5 (fun H locs hP hS => ?_)
  have hP : WP D cI cS ad R (sR F i0 0 (F i1 0)) H := hP
  refine lv_aload_n hx hb dX0_copyFrom_8 rfl (lv_at hl 0 rfl) ?_
  refine lv_aload_n hx hb dX0_copyFrom_9 rfl (lv_at hl 1 rfl) ?_
  refine q_getS (v := .int ((sR F i0 0 (F i1 0)) i1 1)) hx hb hts hin0 hown hK hP i1 hi1 1 (by decide) lk15 (fun _ h => h) rfl dX0_copyFrom_10 ?_
  refine q_putS hx hb hts hin0 hown hK hI hP hS i0 hi0 1 (by decide) lk15 (fun _ h => h) dX0_copyFrom_13 (fun H locs hP hS => ?_)
  have hP : WP D cI cS ad R (sR (sR F i0 0 (F i1 0)) i0 1 ((sR F i0 0 (F i1 0)) i1 1)) H := hP
  refine lv_aload_n hx hb dX0_copyFrom_16 rfl (lv_at hl 0 rfl) ?_
  refine lv_aload_n hx hb dX0_copyFrom_17 rfl (lv_at hl 1 rfl) ?_
  refine q_getS (v := .int ((sR (sR F i0 0 (F i1 0)) i0 1 ((sR F i0 0 (F i1 0)) i1 1)) i1 2)) hx hb hts hin0 hown hK hP i1 hi1 2 (by decide) lk18 (fun _ h => h) rfl dX0_copyFrom_18 ?_
  refine q_putS hx hb hts hin0 hown hK hI hP hS i0 hi0 2 (by decide) lk18 (fun _ h => h) dX0_copyFrom_21 (fun H locs hP hS => ?_)
  have hP : WP D cI cS ad R (sR (sR (sR F i0 0 (F i1 0)) i0 1 ((sR F i0 0 (F i1 0)) i1 1)) i0 2 ((sR (sR F i0 0 (F i1 0)) i0 1 ((sR F i0 0 (F i1 0)) i1 1)) i1 2)) H := hP
  refine lv_aload_n hx hb dX0_copyFrom_24 rfl (lv_at hl 1 rfl) ?_
  refine q_getS (v := .ref (ad (i1 + 1))) hx hb hts hin0 hown hK hP i1 hi1 3 (by decide) lk21 (fun _ h => h) rfl dX0_copyFrom_25 ?_
  refine lv_aload_n hx hb dX0_copyFrom_28 rfl (lv_at hl 0 rfl) ?_
  refine q_getS (v := .ref (ad (i0 + 1))) hx hb hts hin0 hown hK hP i0 hi0 3 (by decide) lk21 (fun _ h => h) rfl dX0_copyFrom_29 ?_
  refine q_callV (va_runSN (As := [.ref (ad (i1 + 1)), .ref (ad (i0 + 1))]) (rest := []) ⟨hx, hb, hml, hown, hts⟩ (mX1_copyRow l D cI cS ad hI R (sR (sR (sR F i0 0 (F i1 0)) i0 1 ((sR F i0 0 (F i1 0)) i1 1)) i0 2 ((sR (sR F i0 0 (F i1 0)) i0 1 ((sR F i0 0 (F i1 0)) i1 1)) i1 2)) (i1 + 1) (i0 + 1) 24 (Ar_S1 hi1) (Ar_S1 hi0) (by decide)) ⟨va_cnB 2 hts gX0_copyFrom_X1_copyRow_n63 rfl rfl rfl hK.2.2 (hts (.initialized RX1) (by decide +kernel)) (by decide +kernel) ⟨Nat.le_of_ble_eq_true rfl, Nat.le_of_ble_eq_true rfl⟩, hts (.static yX1_copyRow) (by decide +kernel), trivial⟩ (PW_preS hK hP) rfl rfl hl.1 rfl (lv_room (Nat.le_of_ble_eq_true rfl)) dX0_copyFrom_32 ⟨Nat.zero_le _, Nat.zero_le _⟩) hS (fun H locs hP hS => ?_)
  refine lv_aload_n hx hb dX0_copyFrom_35 rfl (lv_at hl 1 rfl) ?_
  refine q_getS (v := .ref (ad (i1 + 2))) hx hb hts hin0 hown hK hP i1 hi1 4 (by decide) lk25 (fun _ h => h) rfl dX0_copyFrom_36 ?_
  refine lv_aload_n hx hb dX0_copyFrom_39 rfl (lv_at hl 0 rfl) ?_
  refine q_getS (v := .ref (ad (i0 + 2))) hx hb hts hin0 hown hK hP i0 hi0 4 (by decide) lk25 (fun _ h => h) rfl dX0_copyFrom_40 ?_
  refine q_callV (va_runSN (As := [.ref (ad (i1 + 2)), .ref (ad (i0 + 2))]) (rest := []) ⟨hx, hb, hml, hown, hts⟩ (mX1_copyRow l D cI cS ad hI (xX1_copyRow R (sR (sR (sR F i0 0 (F i1 0)) i0 1 ((sR F i0 0 (F i1 0)) i1 1)) i0 2 ((sR (sR F i0 0 (F i1 0)) i0 1 ((sR F i0 0 (F i1 0)) i1 1)) i1 2)) (i1 + 1) (i0 + 1) 24) (sR (sR (sR F i0 0 (F i1 0)) i0 1 ((sR F i0 0 (F i1 0)) i1 1)) i0 2 ((sR (sR F i0 0 (F i1 0)) i0 1 ((sR F i0 0 (F i1 0)) i1 1)) i1 2)) (i1 + 2) (i0 + 2) 24 (Ar_S2 hi1) (Ar_S2 hi0) (by decide)) ⟨va_cnB 2 hts gX0_copyFrom_X1_copyRow_n63 rfl rfl rfl hK.2.2 (hts (.initialized RX1) (by decide +kernel)) (by decide +kernel) ⟨Nat.le_of_ble_eq_true rfl, Nat.le_of_ble_eq_true rfl⟩, hts (.static yX1_copyRow) (by decide +kernel), trivial⟩ (PW_preS hK hP) rfl rfl hl.1 rfl (lv_room (Nat.le_of_ble_eq_true rfl)) dX0_copyFrom_43 ⟨Nat.zero_le _, Nat.zero_le _⟩) hS (fun H locs hP hS => ?_)
  refine lv_aload_n hx hb dX0_copyFrom_46 rfl (lv_at hl 1 rfl) ?_
  refine q_getS (v := .ref (ad (i1 + 3))) hx hb hts hin0 hown hK hP i1 hi1 5 (by decide) lk28 (fun _ h => h) rfl dX0_copyFrom_47 ?_
  refine lv_aload_n hx hb dX0_copyFrom_50 rfl (lv_at hl 0 rfl) ?_
  refine q_getS (v := .ref (ad (i0 + 3))) hx hb hts hin0 hown hK hP i0 hi0 5 (by decide) lk28 (fun _ h => h) rfl dX0_copyFrom_51 ?_
  refine q_callV (va_runSN (As := [.ref (ad (i1 + 3)), .ref (ad (i0 + 3))]) (rest := []) ⟨hx, hb, hml, hown, hts⟩ (mX1_copyRow l D cI cS ad hI (xX1_copyRow (xX1_copyRow R (sR (sR (sR F i0 0 (F i1 0)) i0 1 ((sR F i0 0 (F i1 0)) i1 1)) i0 2 ((sR (sR F i0 0 (F i1 0)) i0 1 ((sR F i0 0 (F i1 0)) i1 1)) i1 2)) (i1 + 1) (i0 + 1) 24) (sR (sR (sR F i0 0 (F i1 0)) i0 1 ((sR F i0 0 (F i1 0)) i1 1)) i0 2 ((sR (sR F i0 0 (F i1 0)) i0 1 ((sR F i0 0 (F i1 0)) i1 1)) i1 2)) (i1 + 2) (i0 + 2) 24) (sR (sR (sR F i0 0 (F i1 0)) i0 1 ((sR F i0 0 (F i1 0)) i1 1)) i0 2 ((sR (sR F i0 0 (F i1 0)) i0 1 ((sR F i0 0 (F i1 0)) i1 1)) i1 2)) (i1 + 3) (i0 + 3) 24 (Ar_S3 hi1) (Ar_S3 hi0) (by decide)) ⟨va_cnB 2 hts gX0_copyFrom_X1_copyRow_n63 rfl rfl rfl hK.2.2 (hts (.initialized RX1) (by decide +kernel)) (by decide +kernel) ⟨Nat.le_of_ble_eq_true rfl, Nat.le_of_ble_eq_true rfl⟩, hts (.static yX1_copyRow) (by decide +kernel), trivial⟩ (PW_preS hK hP) rfl rfl hl.1 rfl (lv_room (Nat.le_of_ble_eq_true rfl)) dX0_copyFrom_54 ⟨Nat.zero_le _, Nat.zero_le _⟩) hS (fun H locs hP hS => ?_)
  refine lv_aload_n hx hb dX0_copyFrom_57 rfl (lv_at hl 1 rfl) ?_
  refine q_getS (v := .ref (ad (i1 + 4))) hx hb hts hin0 hown hK hP i1 hi1 6 (by decide) lk31 (fun _ h => h) rfl dX0_copyFrom_58 ?_
  refine lv_aload_n hx hb dX0_copyFrom_61 rfl (lv_at hl 0 rfl) ?_
  refine q_getS (v := .ref (ad (i0 + 4))) hx hb hts hin0 hown hK hP i0 hi0 6 (by decide) lk31 (fun _ h => h) rfl dX0_copyFrom_62 ?_
  refine q_callV (va_runSN (As := [.ref (ad (i1 + 4)), .ref (ad (i0 + 4))]) (rest := []) ⟨hx, hb, hml, hown, hts⟩ (mX1_copyRow l D cI cS ad hI (xX1_copyRow (xX1_copyRow (xX1_copyRow R (sR (sR (sR F i0 0 (F i1 0)) i0 1 ((sR F i0 0 (F i1 0)) i1 1)) i0 2 ((sR (sR F i0 0 (F i1 0)) i0 1 ((sR F i0 0 (F i1 0)) i1 1)) i1 2)) (i1 + 1) (i0 + 1) 24) (sR (sR (sR F i0 0 (F i1 0)) i0 1 ((sR F i0 0 (F i1 0)) i1 1)) i0 2 ((sR (sR F i0 0 (F i1 0)) i0 1 ((sR F i0 0 (F i1 0)) i1 1)) i1 2)) (i1 + 2) (i0 + 2) 24) (sR (sR (sR F i0 0 (F i1 0)) i0 1 ((sR F i0 0 (F i1 0)) i1 1)) i0 2 ((sR (sR F i0 0 (F i1 0)) i0 1 ((sR F i0 0 (F i1 0)) i1 1)) i1 2)) (i1 + 3) (i0 + 3) 24) (sR (sR (sR F i0 0 (F i1 0)) i0 1 ((sR F i0 0 (F i1 0)) i1 1)) i0 2 ((sR (sR F i0 0 (F i1 0)) i0 1 ((sR F i0 0 (F i1 0)) i1 1)) i1 2)) (i1 + 4) (i0 + 4) 24 (Ar_S4 hi1) (Ar_S4 hi0) (by decide)) ⟨va_cnB 2 hts gX0_copyFrom_X1_copyRow_n63 rfl rfl rfl hK.2.2 (hts (.initialized RX1) (by decide +kernel)) (by decide +kernel) ⟨Nat.le_of_ble_eq_true rfl, Nat.le_of_ble_eq_true rfl⟩, hts (.static yX1_copyRow) (by decide +kernel), trivial⟩ (PW_preS hK hP) rfl rfl hl.1 rfl (lv_room (Nat.le_of_ble_eq_true rfl)) dX0_copyFrom_65 ⟨Nat.zero_le _, Nat.zero_le _⟩) hS (fun H locs hP hS => ?_)
  refine lv_aload_n hx hb dX0_copyFrom_68 rfl (lv_at hl 1 rfl) ?_
  refine q_getS (v := .ref (ad (i1 + 5))) hx hb hts hin0 hown hK hP i1 hi1 7 (by decide) lk34 (fun _ h => h) rfl dX0_copyFrom_69 ?_
  refine lv_aload_n hx hb dX0_copyFrom_72 rfl (lv_at hl 0 rfl) ?_
  refine q_getS (v := .ref (ad (i0 + 5))) hx hb hts hin0 hown hK hP i0 hi0 7 (by decide) lk34 (fun _ h => h) rfl dX0_copyFrom_73 ?_
  refine q_callV (va_runSN (As := [.ref (ad (i1 + 5)), .ref (ad (i0 + 5))]) (rest := []) ⟨hx, hb, hml, hown, hts⟩ (mX1_copyRow l D cI cS ad hI (xX1_copyRow (xX1_copyRow (xX1_copyRow (xX1_copyRow R (sR (sR (sR F i0 0 (F i1 0)) i0 1 ((sR F i0 0 (F i1 0)) i1 1)) i0 2 ((sR (sR F i0 0 (F i1 0)) i0 1 ((sR F i0 0 (F i1 0)) i1 1)) i1 2)) (i1 + 1) (i0 + 1) 24) (sR (sR (sR F i0 0 (F i1 0)) i0 1 ((sR F i0 0 (F i1 0)) i1 1)) i0 2 ((sR (sR F i0 0 (F i1 0)) i0 1 ((sR F i0 0 (F i1 0)) i1 1)) i1 2)) (i1 + 2) (i0 + 2) 24) (sR (sR (sR F i0 0 (F i1 0)) i0 1 ((sR F i0 0 (F i1 0)) i1 1)) i0 2 ((sR (sR F i0 0 (F i1 0)) i0 1 ((sR F i0 0 (F i1 0)) i1 1)) i1 2)) (i1 + 3) (i0 + 3) 24) (sR (sR (sR F i0 0 (F i1 0)) i0 1 ((sR F i0 0 (F i1 0)) i1 1)) i0 2 ((sR (sR F i0 0 (F i1 0)) i0 1 ((sR F i0 0 (F i1 0)) i1 1)) i1 2)) (i1 + 4) (i0 + 4) 24) (sR (sR (sR F i0 0 (F i1 0)) i0 1 ((sR F i0 0 (F i1 0)) i1 1)) i0 2 ((sR (sR F i0 0 (F i1 0)) i0 1 ((sR F i0 0 (F i1 0)) i1 1)) i1 2)) (i1 + 5) (i0 + 5) 8 (Ar_S5 hi1) (Ar_S5 hi0) (by decide)) ⟨va_cnB 2 hts gX0_copyFrom_X1_copyRow_n63 rfl rfl rfl hK.2.2 (hts (.initialized RX1) (by decide +kernel)) (by decide +kernel) ⟨Nat.le_of_ble_eq_true rfl, Nat.le_of_ble_eq_true rfl⟩, hts (.static yX1_copyRow) (by decide +kernel), trivial⟩ (PW_preS hK hP) rfl rfl hl.1 rfl (lv_room (Nat.le_of_ble_eq_true rfl)) dX0_copyFrom_76 ⟨Nat.zero_le _, Nat.zero_le _⟩) hS (fun H locs hP hS => ?_)
  refine lv_aload_n hx hb dX0_copyFrom_79 rfl (lv_at hl 1 rfl) ?_
  refine q_getS (v := .ref (ad (i1 + 6))) hx hb hts hin0 hown hK hP i1 hi1 8 (by decide) lk37 (fun _ h => h) rfl dX0_copyFrom_80 ?_
  refine lv_aload_n hx hb dX0_copyFrom_83 rfl (lv_at hl 0 rfl) ?_
  refine q_getS (v := .ref (ad (i0 + 6))) hx hb hts hin0 hown hK hP i0 hi0 8 (by decide) lk37 (fun _ h => h) rfl dX0_copyFrom_84 ?_
  refine q_callV (va_runSN (As := [.ref (ad (i1 + 6)), .ref (ad (i0 + 6))]) (rest := []) ⟨hx, hb, hml, hown, hts⟩ (mX1_copyRow l D cI cS ad hI (xX1_copyRow (xX1_copyRow (xX1_copyRow (xX1_copyRow (xX1_copyRow R (sR (sR (sR F i0 0 (F i1 0)) i0 1 ((sR F i0 0 (F i1 0)) i1 1)) i0 2 ((sR (sR F i0 0 (F i1 0)) i0 1 ((sR F i0 0 (F i1 0)) i1 1)) i1 2)) (i1 + 1) (i0 + 1) 24) (sR (sR (sR F i0 0 (F i1 0)) i0 1 ((sR F i0 0 (F i1 0)) i1 1)) i0 2 ((sR (sR F i0 0 (F i1 0)) i0 1 ((sR F i0 0 (F i1 0)) i1 1)) i1 2)) (i1 + 2) (i0 + 2) 24) (sR (sR (sR F i0 0 (F i1 0)) i0 1 ((sR F i0 0 (F i1 0)) i1 1)) i0 2 ((sR (sR F i0 0 (F i1 0)) i0 1 ((sR F i0 0 (F i1 0)) i1 1)) i1 2)) (i1 + 3) (i0 + 3) 24) (sR (sR (sR F i0 0 (F i1 0)) i0 1 ((sR F i0 0 (F i1 0)) i1 1)) i0 2 ((sR (sR F i0 0 (F i1 0)) i0 1 ((sR F i0 0 (F i1 0)) i1 1)) i1 2)) (i1 + 4) (i0 + 4) 24) (sR (sR (sR F i0 0 (F i1 0)) i0 1 ((sR F i0 0 (F i1 0)) i1 1)) i0 2 ((sR (sR F i0 0 (F i1 0)) i0 1 ((sR F i0 0 (F i1 0)) i1 1)) i1 2)) (i1 + 5) (i0 + 5) 8) (sR (sR (sR F i0 0 (F i1 0)) i0 1 ((sR F i0 0 (F i1 0)) i1 1)) i0 2 ((sR (sR F i0 0 (F i1 0)) i0 1 ((sR F i0 0 (F i1 0)) i1 1)) i1 2)) (i1 + 6) (i0 + 6) 8 (Ar_S6 hi1) (Ar_S6 hi0) (by decide)) ⟨va_cnB 2 hts gX0_copyFrom_X1_copyRow_n63 rfl rfl rfl hK.2.2 (hts (.initialized RX1) (by decide +kernel)) (by decide +kernel) ⟨Nat.le_of_ble_eq_true rfl, Nat.le_of_ble_eq_true rfl⟩, hts (.static yX1_copyRow) (by decide +kernel), trivial⟩ (PW_preS hK hP) rfl rfl hl.1 rfl (lv_room (Nat.le_of_ble_eq_true rfl)) dX0_copyFrom_87 ⟨Nat.zero_le _, Nat.zero_le _⟩) hS (fun H locs hP hS => ?_)
  refine lv_aload_n hx hb dX0_copyFrom_90 rfl (lv_at hl 1 rfl) ?_
  refine q_getS (v := .ref (ad (i1 + 7))) hx hb hts hin0 hown hK hP i1 hi1 9 (by decide) lk40 (fun _ h => h) rfl dX0_copyFrom_91 ?_
  refine lv_aload_n hx hb dX0_copyFrom_94 rfl (lv_at hl 0 rfl) ?_
  refine q_getS (v := .ref (ad (i0 + 7))) hx hb hts hin0 hown hK hP i0 hi0 9 (by decide) lk40 (fun _ h => h) rfl dX0_copyFrom_95 ?_
  refine q_callV (va_runSN (As := [.ref (ad (i1 + 7)), .ref (ad (i0 + 7))]) (rest := []) ⟨hx, hb, hml, hown, hts⟩ (mX1_copyRow l D cI cS ad hI (xX1_copyRow (xX1_copyRow (xX1_copyRow (xX1_copyRow (xX1_copyRow (xX1_copyRow R (sR (sR (sR F i0 0 (F i1 0)) i0 1 ((sR F i0 0 (F i1 0)) i1 1)) i0 2 ((sR (sR F i0 0 (F i1 0)) i0 1 ((sR F i0 0 (F i1 0)) i1 1)) i1 2)) (i1 + 1) (i0 + 1) 24) (sR (sR (sR F i0 0 (F i1 0)) i0 1 ((sR F i0 0 (F i1 0)) i1 1)) i0 2 ((sR (sR F i0 0 (F i1 0)) i0 1 ((sR F i0 0 (F i1 0)) i1 1)) i1 2)) (i1 + 2) (i0 + 2) 24) (sR (sR (sR F i0 0 (F i1 0)) i0 1 ((sR F i0 0 (F i1 0)) i1 1)) i0 2 ((sR (sR F i0 0 (F i1 0)) i0 1 ((sR F i0 0 (F i1 0)) i1 1)) i1 2)) (i1 + 3) (i0 + 3) 24) (sR (sR (sR F i0 0 (F i1 0)) i0 1 ((sR F i0 0 (F i1 0)) i1 1)) i0 2 ((sR (sR F i0 0 (F i1 0)) i0 1 ((sR F i0 0 (F i1 0)) i1 1)) i1 2)) (i1 + 4) (i0 + 4) 24) (sR (sR (sR F i0 0 (F i1 0)) i0 1 ((sR F i0 0 (F i1 0)) i1 1)) i0 2 ((sR (sR F i0 0 (F i1 0)) i0 1 ((sR F i0 0 (F i1 0)) i1 1)) i1 2)) (i1 + 5) (i0 + 5) 8) (sR (sR (sR F i0 0 (F i1 0)) i0 1 ((sR F i0 0 (F i1 0)) i1 1)) i0 2 ((sR (sR F i0 0 (F i1 0)) i0 1 ((sR F i0 0 (F i1 0)) i1 1)) i1 2)) (i1 + 6) (i0 + 6) 8) (sR (sR (sR F i0 0 (F i1 0)) i0 1 ((sR F i0 0 (F i1 0)) i1 1)) i0 2 ((sR (sR F i0 0 (F i1 0)) i0 1 ((sR F i0 0 (F i1 0)) i1 1)) i1 2)) (i1 + 7) (i0 + 7) 8 (Ar_S7 hi1) (Ar_S7 hi0) (by decide)) ⟨va_cnB 2 hts gX0_copyFrom_X1_copyRow_n63 rfl rfl rfl hK.2.2 (hts (.initialized RX1) (by decide +kernel)) (by decide +kernel) ⟨Nat.le_of_ble_eq_true rfl, Nat.le_of_ble_eq_true rfl⟩, hts (.static yX1_copyRow) (by decide +kernel), trivial⟩ (PW_preS hK hP) rfl rfl hl.1 rfl (lv_room (Nat.le_of_ble_eq_true rfl)) dX0_copyFrom_98 ⟨Nat.zero_le _, Nat.zero_le _⟩) hS (fun H locs hP hS => ?_)
  refine lv_aload_n hx hb dX0_copyFrom_101 rfl (lv_at hl 1 rfl) ?_
  refine q_getS (v := .ref (ad (i1 + 8))) hx hb hts hin0 hown hK hP i1 hi1 10 (by decide) lk43 (fun _ h => h) rfl dX0_copyFrom_102 ?_
  refine lv_aload_n hx hb dX0_copyFrom_105 rfl (lv_at hl 0 rfl) ?_
  refine q_getS (v := .ref (ad (i0 + 8))) hx hb hts hin0 hown hK hP i0 hi0 10 (by decide) lk43 (fun _ h => h) rfl dX0_copyFrom_106 ?_
  refine q_callV (va_runSN (As := [.ref (ad (i1 + 8)), .ref (ad (i0 + 8))]) (rest := []) ⟨hx, hb, hml, hown, hts⟩ (mX1_copyRow l D cI cS ad hI (xX1_copyRow (xX1_copyRow (xX1_copyRow (xX1_copyRow (xX1_copyRow (xX1_copyRow (xX1_copyRow R (sR (sR (sR F i0 0 (F i1 0)) i0 1 ((sR F i0 0 (F i1 0)) i1 1)) i0 2 ((sR (sR F i0 0 (F i1 0)) i0 1 ((sR F i0 0 (F i1 0)) i1 1)) i1 2)) (i1 + 1) (i0 + 1) 24) (sR (sR (sR F i0 0 (F i1 0)) i0 1 ((sR F i0 0 (F i1 0)) i1 1)) i0 2 ((sR (sR F i0 0 (F i1 0)) i0 1 ((sR F i0 0 (F i1 0)) i1 1)) i1 2)) (i1 + 2) (i0 + 2) 24) (sR (sR (sR F i0 0 (F i1 0)) i0 1 ((sR F i0 0 (F i1 0)) i1 1)) i0 2 ((sR (sR F i0 0 (F i1 0)) i0 1 ((sR F i0 0 (F i1 0)) i1 1)) i1 2)) (i1 + 3) (i0 + 3) 24) (sR (sR (sR F i0 0 (F i1 0)) i0 1 ((sR F i0 0 (F i1 0)) i1 1)) i0 2 ((sR (sR F i0 0 (F i1 0)) i0 1 ((sR F i0 0 (F i1 0)) i1 1)) i1 2)) (i1 + 4) (i0 + 4) 24) (sR (sR (sR F i0 0 (F i1 0)) i0 1 ((sR F i0 0 (F i1 0)) i1 1)) i0 2 ((sR (sR F i0 0 (F i1 0)) i0 1 ((sR F i0 0 (F i1 0)) i1 1)) i1 2)) (i1 + 5) (i0 + 5) 8) (sR (sR (sR F i0 0 (F i1 0)) i0 1 ((sR F i0 0 (F i1 0)) i1 1)) i0 2 ((sR (sR F i0 0 (F i1 0)) i0 1 ((sR F i0 0 (F i1 0)) i1 1)) i1 2)) (i1 + 6) (i0 + 6) 8) (sR (sR (sR F i0 0 (F i1 0)) i0 1 ((sR F i0 0 (F i1 0)) i1 1)) i0 2 ((sR (sR F i0 0 (F i1 0)) i0 1 ((sR F i0 0 (F i1 0)) i1 1)) i1 2)) (i1 + 7) (i0 + 7) 8) (sR (sR (sR F i0 0 (F i1 0)) i0 1 ((sR F i0 0 (F i1 0)) i1 1)) i0 2 ((sR (sR F i0 0 (F i1 0)) i0 1 ((sR F i0 0 (F i1 0)) i1 1)) i1 2)) (i1 + 8) (i0 + 8) 8 (Ar_S8 hi1) (Ar_S8 hi0) (by decide)) ⟨va_cnB 2 hts gX0_copyFrom_X1_copyRow_n63 rfl rfl rfl hK.2.2 (hts (.initialized RX1) (by decide +kernel)) (by decide +kernel) ⟨Nat.le_of_ble_eq_true rfl, Nat.le_of_ble_eq_true rfl⟩, hts (.static yX1_copyRow) (by decide +kernel), trivial⟩ (PW_preS hK hP) rfl rfl hl.1 rfl (lv_room (Nat.le_of_ble_eq_true rfl)) dX0_copyFrom_109 ⟨Nat.zero_le _, Nat.zero_le _⟩) hS (fun H locs hP hS => ?_)
  refine lv_aload_n hx hb dX0_copyFrom_112 rfl (lv_at hl 1 rfl) ?_
  refine q_getS (v := .ref (ad (i1 + 9))) hx hb hts hin0 hown hK hP i1 hi1 11 (by decide) lk46 (fun _ h => h) rfl dX0_copyFrom_113 ?_
  refine lv_aload_n hx hb dX0_copyFrom_116 rfl (lv_at hl 0 rfl) ?_
  refine q_getS (v := .ref (ad (i0 + 9))) hx hb hts hin0 hown hK hP i0 hi0 11 (by decide) lk46 (fun _ h => h) rfl dX0_copyFrom_117 ?_
  refine q_callV (va_runSN (As := [.ref (ad (i1 + 9)), .ref (ad (i0 + 9))]) (rest := []) ⟨hx, hb, hml, hown, hts⟩ (mX1_copyRow l D cI cS ad hI (xX1_copyRow (xX1_copyRow (xX1_copyRow (xX1_copyRow (xX1_copyRow (xX1_copyRow (xX1_copyRow (xX1_copyRow R (sR (sR (sR F i0 0 (F i1 0)) i0 1 ((sR F i0 0 (F i1 0)) i1 1)) i0 2 ((sR (sR F i0 0 (F i1 0)) i0 1 ((sR F i0 0 (F i1 0)) i1 1)) i1 2)) (i1 + 1) (i0 + 1) 24) (sR (sR (sR F i0 0 (F i1 0)) i0 1 ((sR F i0 0 (F i1 0)) i1 1)) i0 2 ((sR (sR F i0 0 (F i1 0)) i0 1 ((sR F i0 0 (F i1 0)) i1 1)) i1 2)) (i1 + 2) (i0 + 2) 24) (sR (sR (sR F i0 0 (F i1 0)) i0 1 ((sR F i0 0 (F i1 0)) i1 1)) i0 2 ((sR (sR F i0 0 (F i1 0)) i0 1 ((sR F i0 0 (F i1 0)) i1 1)) i1 2)) (i1 + 3) (i0 + 3) 24) (sR (sR (sR F i0 0 (F i1 0)) i0 1 ((sR F i0 0 (F i1 0)) i1 1)) i0 2 ((sR (sR F i0 0 (F i1 0)) i0 1 ((sR F i0 0 (F i1 0)) i1 1)) i1 2)) (i1 + 4) (i0 + 4) 24) (sR (sR (sR F i0 0 (F i1 0)) i0 1 ((sR F i0 0 (F i1 0)) i1 1)) i0 2 ((sR (sR F i0 0 (F i1 0)) i0 1 ((sR F i0 0 (F i1 0)) i1 1)) i1 2)) (i1 + 5) (i0 + 5) 8) (sR (sR (sR F i0 0 (F i1 0)) i0 1 ((sR F i0 0 (F i1 0)) i1 1)) i0 2 ((sR (sR F i0 0 (F i1 0)) i0 1 ((sR F i0 0 (F i1 0)) i1 1)) i1 2)) (i1 + 6) (i0 + 6) 8) (sR (sR (sR F i0 0 (F i1 0)) i0 1 ((sR F i0 0 (F i1 0)) i1 1)) i0 2 ((sR (sR F i0 0 (F i1 0)) i0 1 ((sR F i0 0 (F i1 0)) i1 1)) i1 2)) (i1 + 7) (i0 + 7) 8) (sR (sR (sR F i0 0 (F i1 0)) i0 1 ((sR F i0 0 (F i1 0)) i1 1)) i0 2 ((sR (sR F i0 0 (F i1 0)) i0 1 ((sR F i0 0 (F i1 0)) i1 1)) i1 2)) (i1 + 8) (i0 + 8) 8) (sR (sR (sR F i0 0 (F i1 0)) i0 1 ((sR F i0 0 (F i1 0)) i1 1)) i0 2 ((sR (sR F i0 0 (F i1 0)) i0 1 ((sR F i0 0 (F i1 0)) i1 1)) i1 2)) (i1 + 9) (i0 + 9) 8 (Ar_S9 hi1) (Ar_S9 hi0) (by decide)) ⟨va_cnB 2 hts gX0_copyFrom_X1_copyRow_n63 rfl rfl rfl hK.2.2 (hts (.initialized RX1) (by decide +kernel)) (by decide +kernel) ⟨Nat.le_of_ble_eq_true rfl, Nat.le_of_ble_eq_true rfl⟩, hts (.static yX1_copyRow) (by decide +kernel), trivial⟩ (PW_preS hK hP) rfl rfl hl.1 rfl (lv_room (Nat.le_of_ble_eq_true rfl)) dX0_copyFrom_120 ⟨Nat.zero_le _, Nat.zero_le _⟩) hS (fun H locs hP hS => ?_)
  refine lv_aload_n hx hb dX0_copyFrom_123 rfl (lv_at hl 1 rfl) ?_
  refine q_getS (v := .ref (ad (i1 + 10))) hx hb hts hin0 hown hK hP i1 hi1 12 (by decide) lk49 (fun _ h => h) rfl dX0_copyFrom_124 ?_
  refine lv_aload_n hx hb dX0_copyFrom_127 rfl (lv_at hl 0 rfl) ?_
  refine q_getS (v := .ref (ad (i0 + 10))) hx hb hts hin0 hown hK hP i0 hi0 12 (by decide) lk49 (fun _ h => h) rfl dX0_copyFrom_128 ?_
  refine q_callV (va_runSN (As := [.ref (ad (i1 + 10)), .ref (ad (i0 + 10))]) (rest := []) ⟨hx, hb, hml, hown, hts⟩ (mX1_copyRow l D cI cS ad hI (xX1_copyRow (xX1_copyRow (xX1_copyRow (xX1_copyRow (xX1_copyRow (xX1_copyRow (xX1_copyRow (xX1_copyRow (xX1_copyRow R (sR (sR (sR F i0 0 (F i1 0)) i0 1 ((sR F i0 0 (F i1 0)) i1 1)) i0 2 ((sR (sR F i0 0 (F i1 0)) i0 1 ((sR F i0 0 (F i1 0)) i1 1)) i1 2)) (i1 + 1) (i0 + 1) 24) (sR (sR (sR F i0 0 (F i1 0)) i0 1 ((sR F i0 0 (F i1 0)) i1 1)) i0 2 ((sR (sR F i0 0 (F i1 0)) i0 1 ((sR F i0 0 (F i1 0)) i1 1)) i1 2)) (i1 + 2) (i0 + 2) 24) (sR (sR (sR F i0 0 (F i1 0)) i0 1 ((sR F i0 0 (F i1 0)) i1 1)) i0 2 ((sR (sR F i0 0 (F i1 0)) i0 1 ((sR F i0 0 (F i1 0)) i1 1)) i1 2)) (i1 + 3) (i0 + 3) 24) (sR (sR (sR F i0 0 (F i1 0)) i0 1 ((sR F i0 0 (F i1 0)) i1 1)) i0 2 ((sR (sR F i0 0 (F i1 0)) i0 1 ((sR F i0 0 (F i1 0)) i1 1)) i1 2)) (i1 + 4) (i0 + 4) 24) (sR (sR (sR F i0 0 (F i1 0)) i0 1 ((sR F i0 0 (F i1 0)) i1 1)) i0 2 ((sR (sR F i0 0 (F i1 0)) i0 1 ((sR F i0 0 (F i1 0)) i1 1)) i1 2)) (i1 + 5) (i0 + 5) 8) (sR (sR (sR F i0 0 (F i1 0)) i0 1 ((sR F i0 0 (F i1 0)) i1 1)) i0 2 ((sR (sR F i0 0 (F i1 0)) i0 1 ((sR F i0 0 (F i1 0)) i1 1)) i1 2)) (i1 + 6) (i0 + 6) 8) (sR (sR (sR F i0 0 (F i1 0)) i0 1 ((sR F i0 0 (F i1 0)) i1 1)) i0 2 ((sR (sR F i0 0 (F i1 0)) i0 1 ((sR F i0 0 (F i1 0)) i1 1)) i1 2)) (i1 + 7) (i0 + 7) 8) (sR (sR (sR F i0 0 (F i1 0)) i0 1 ((sR F i0 0 (F i1 0)) i1 1)) i0 2 ((sR (sR F i0 0 (F i1 0)) i0 1 ((sR F i0 0 (F i1 0)) i1 1)) i1 2)) (i1 + 8) (i0 + 8) 8) (sR (sR (sR F i0 0 (F i1 0)) i0 1 ((sR F i0 0 (F i1 0)) i1 1)) i0 2 ((sR (sR F i0 0 (F i1 0)) i0 1 ((sR F i0 0 (F i1 0)) i1 1)) i1 2)) (i1 + 9) (i0 + 9) 8) (sR (sR (sR F i0 0 (F i1 0)) i0 1 ((sR F i0 0 (F i1 0)) i1 1)) i0 2 ((sR (sR F i0 0 (F i1 0)) i0 1 ((sR F i0 0 (F i1 0)) i1 1)) i1 2)) (i1 + 10) (i0 + 10) 8 (Ar_S10 hi1) (Ar_S10 hi0) (by decide)) ⟨va_cnB 2 hts gX0_copyFrom_X1_copyRow_n63 rfl rfl rfl hK.2.2 (hts (.initialized RX1) (by decide +kernel)) (by decide +kernel) ⟨Nat.le_of_ble_eq_true rfl, Nat.le_of_ble_eq_true rfl⟩, hts (.static yX1_copyRow) (by decide +kernel), trivial⟩ (PW_preS hK hP) rfl rfl hl.1 rfl (lv_room (Nat.le_of_ble_eq_true rfl)) dX0_copyFrom_131 ⟨Nat.zero_le _, Nat.zero_le _⟩) hS (fun H locs hP hS => ?_)
  refine lv_aload_n hx hb dX0_copyFrom_134 rfl (lv_at hl 1 rfl) ?_
  refine q_getS (v := .ref (ad (i1 + 11))) hx hb hts hin0 hown hK hP i1 hi1 13 (by decide) lk52 (fun _ h => h) rfl dX0_copyFrom_135 ?_
  refine lv_aload_n hx hb dX0_copyFrom_138 rfl (lv_at hl 0 rfl) ?_
  refine q_getS (v := .ref (ad (i0 + 11))) hx hb hts hin0 hown hK hP i0 hi0 13 (by decide) lk52 (fun _ h => h) rfl dX0_copyFrom_139 ?_
  refine q_callV (va_runSN (As := [.ref (ad (i1 + 11)), .ref (ad (i0 + 11))]) (rest := []) ⟨hx, hb, hml, hown, hts⟩ (mX1_copyRow l D cI cS ad hI (xX1_copyRow (xX1_copyRow (xX1_copyRow (xX1_copyRow (xX1_copyRow (xX1_copyRow (xX1_copyRow (xX1_copyRow (xX1_copyRow (xX1_copyRow R (sR (sR (sR F i0 0 (F i1 0)) i0 1 ((sR F i0 0 (F i1 0)) i1 1)) i0 2 ((sR (sR F i0 0 (F i1 0)) i0 1 ((sR F i0 0 (F i1 0)) i1 1)) i1 2)) (i1 + 1) (i0 + 1) 24) (sR (sR (sR F i0 0 (F i1 0)) i0 1 ((sR F i0 0 (F i1 0)) i1 1)) i0 2 ((sR (sR F i0 0 (F i1 0)) i0 1 ((sR F i0 0 (F i1 0)) i1 1)) i1 2)) (i1 + 2) (i0 + 2) 24) (sR (sR (sR F i0 0 (F i1 0)) i0 1 ((sR F i0 0 (F i1 0)) i1 1)) i0 2 ((sR (sR F i0 0 (F i1 0)) i0 1 ((sR F i0 0 (F i1 0)) i1 1)) i1 2)) (i1 + 3) (i0 + 3) 24) (sR (sR (sR F i0 0 (F i1 0)) i0 1 ((sR F i0 0 (F i1 0)) i1 1)) i0 2 ((sR (sR F i0 0 (F i1 0)) i0 1 ((sR F i0 0 (F i1 0)) i1 1)) i1 2)) (i1 + 4) (i0 + 4) 24) (sR (sR (sR F i0 0 (F i1 0)) i0 1 ((sR F i0 0 (F i1 0)) i1 1)) i0 2 ((sR (sR F i0 0 (F i1 0)) i0 1 ((sR F i0 0 (F i1 0)) i1 1)) i1 2)) (i1 + 5) (i0 + 5) 8) (sR (sR (sR F i0 0 (F i1 0)) i0 1 ((sR F i0 0 (F i1 0)) i1 1)) i0 2 ((sR (sR F i0 0 (F i1 0)) i0 1 ((sR F i0 0 (F i1 0)) i1 1)) i1 2)) (i1 + 6) (i0 + 6) 8) (sR (sR (sR F i0 0 (F i1 0)) i0 1 ((sR F i0 0 (F i1 0)) i1 1)) i0 2 ((sR (sR F i0 0 (F i1 0)) i0 1 ((sR F i0 0 (F i1 0)) i1 1)) i1 2)) (i1 + 7) (i0 + 7) 8) (sR (sR (sR F i0 0 (F i1 0)) i0 1 ((sR F i0 0 (F i1 0)) i1 1)) i0 2 ((sR (sR F i0 0 (F i1 0)) i0 1 ((sR F i0 0 (F i1 0)) i1 1)) i1 2)) (i1 + 8) (i0 + 8) 8) (sR (sR (sR F i0 0 (F i1 0)) i0 1 ((sR F i0 0 (F i1 0)) i1 1)) i0 2 ((sR (sR F i0 0 (F i1 0)) i0 1 ((sR F i0 0 (F i1 0)) i1 1)) i1 2)) (i1 + 9) (i0 + 9) 8) (sR (sR (sR F i0 0 (F i1 0)) i0 1 ((sR F i0 0 (F i1 0)) i1 1)) i0 2 ((sR (sR F i0 0 (F i1 0)) i0 1 ((sR F i0 0 (F i1 0)) i1 1)) i1 2)) (i1 + 10) (i0 + 10) 8) (sR (sR (sR F i0 0 (F i1 0)) i0 1 ((sR F i0 0 (F i1 0)) i1 1)) i0 2 ((sR (sR F i0 0 (F i1 0)) i0 1 ((sR F i0 0 (F i1 0)) i1 1)) i1 2)) (i1 + 11) (i0 + 11) 8 (Ar_S11 hi1) (Ar_S11 hi0) (by decide)) ⟨va_cnB 2 hts gX0_copyFrom_X1_copyRow_n63 rfl rfl rfl hK.2.2 (hts (.initialized RX1) (by decide +kernel)) (by decide +kernel) ⟨Nat.le_of_ble_eq_true rfl, Nat.le_of_ble_eq_true rfl⟩, hts (.static yX1_copyRow) (by decide +kernel), trivial⟩ (PW_preS hK hP) rfl rfl hl.1 rfl (lv_room (Nat.le_of_ble_eq_true rfl)) dX0_copyFrom_142 ⟨Nat.zero_le _, Nat.zero_le _⟩) hS (fun H locs hP hS => ?_)
  refine lv_aload_n hx hb dX0_copyFrom_145 rfl (lv_at hl 1 rfl) ?_
  refine q_getS (v := .ref (ad (i1 + 12))) hx hb hts hin0 hown hK hP i1 hi1 14 (by decide) lk55 (fun _ h => h) rfl dX0_copyFrom_146 ?_
  refine lv_aload_n hx hb dX0_copyFrom_149 rfl (lv_at hl 0 rfl) ?_
  refine q_getS (v := .ref (ad (i0 + 12))) hx hb hts hin0 hown hK hP i0 hi0 14 (by decide) lk55 (fun _ h => h) rfl dX0_copyFrom_150 ?_
  refine q_callV (va_runSN (As := [.ref (ad (i1 + 12)), .ref (ad (i0 + 12))]) (rest := []) ⟨hx, hb, hml, hown, hts⟩ (mX1_copyRow l D cI cS ad hI (xX1_copyRow (xX1_copyRow (xX1_copyRow (xX1_copyRow (xX1_copyRow (xX1_copyRow (xX1_copyRow (xX1_copyRow (xX1_copyRow (xX1_copyRow (xX1_copyRow R (sR (sR (sR F i0 0 (F i1 0)) i0 1 ((sR F i0 0 (F i1 0)) i1 1)) i0 2 ((sR (sR F i0 0 (F i1 0)) i0 1 ((sR F i0 0 (F i1 0)) i1 1)) i1 2)) (i1 + 1) (i0 + 1) 24) (sR (sR (sR F i0 0 (F i1 0)) i0 1 ((sR F i0 0 (F i1 0)) i1 1)) i0 2 ((sR (sR F i0 0 (F i1 0)) i0 1 ((sR F i0 0 (F i1 0)) i1 1)) i1 2)) (i1 + 2) (i0 + 2) 24) (sR (sR (sR F i0 0 (F i1 0)) i0 1 ((sR F i0 0 (F i1 0)) i1 1)) i0 2 ((sR (sR F i0 0 (F i1 0)) i0 1 ((sR F i0 0 (F i1 0)) i1 1)) i1 2)) (i1 + 3) (i0 + 3) 24) (sR (sR (sR F i0 0 (F i1 0)) i0 1 ((sR F i0 0 (F i1 0)) i1 1)) i0 2 ((sR (sR F i0 0 (F i1 0)) i0 1 ((sR F i0 0 (F i1 0)) i1 1)) i1 2)) (i1 + 4) (i0 + 4) 24) (sR (sR (sR F i0 0 (F i1 0)) i0 1 ((sR F i0 0 (F i1 0)) i1 1)) i0 2 ((sR (sR F i0 0 (F i1 0)) i0 1 ((sR F i0 0 (F i1 0)) i1 1)) i1 2)) (i1 + 5) (i0 + 5) 8) (sR (sR (sR F i0 0 (F i1 0)) i0 1 ((sR F i0 0 (F i1 0)) i1 1)) i0 2 ((sR (sR F i0 0 (F i1 0)) i0 1 ((sR F i0 0 (F i1 0)) i1 1)) i1 2)) (i1 + 6) (i0 + 6) 8) (sR (sR (sR F i0 0 (F i1 0)) i0 1 ((sR F i0 0 (F i1 0)) i1 1)) i0 2 ((sR (sR F i0 0 (F i1 0)) i0 1 ((sR F i0 0 (F i1 0)) i1 1)) i1 2)) (i1 + 7) (i0 + 7) 8) (sR (sR (sR F i0 0 (F i1 0)) i0 1 ((sR F i0 0 (F i1 0)) i1 1)) i0 2 ((sR (sR F i0 0 (F i1 0)) i0 1 ((sR F i0 0 (F i1 0)) i1 1)) i1 2)) (i1 + 8) (i0 + 8) 8) (sR (sR (sR F i0 0 (F i1 0)) i0 1 ((sR F i0 0 (F i1 0)) i1 1)) i0 2 ((sR (sR F i0 0 (F i1 0)) i0 1 ((sR F i0 0 (F i1 0)) i1 1)) i1 2)) (i1 + 9) (i0 + 9) 8) (sR (sR (sR F i0 0 (F i1 0)) i0 1 ((sR F i0 0 (F i1 0)) i1 1)) i0 2 ((sR (sR F i0 0 (F i1 0)) i0 1 ((sR F i0 0 (F i1 0)) i1 1)) i1 2)) (i1 + 10) (i0 + 10) 8) (sR (sR (sR F i0 0 (F i1 0)) i0 1 ((sR F i0 0 (F i1 0)) i1 1)) i0 2 ((sR (sR F i0 0 (F i1 0)) i0 1 ((sR F i0 0 (F i1 0)) i1 1)) i1 2)) (i1 + 11) (i0 + 11) 8) (sR (sR (sR F i0 0 (F i1 0)) i0 1 ((sR F i0 0 (F i1 0)) i1 1)) i0 2 ((sR (sR F i0 0 (F i1 0)) i0 1 ((sR F i0 0 (F i1 0)) i1 1)) i1 2)) (i1 + 12) (i0 + 12) 8 (Ar_S12 hi1) (Ar_S12 hi0) (by decide)) ⟨va_cnB 2 hts gX0_copyFrom_X1_copyRow_n63 rfl rfl rfl hK.2.2 (hts (.initialized RX1) (by decide +kernel)) (by decide +kernel) ⟨Nat.le_of_ble_eq_true rfl, Nat.le_of_ble_eq_true rfl⟩, hts (.static yX1_copyRow) (by decide +kernel), trivial⟩ (PW_preS hK hP) rfl rfl hl.1 rfl (lv_room (Nat.le_of_ble_eq_true rfl)) dX0_copyFrom_153 ⟨Nat.zero_le _, Nat.zero_le _⟩) hS (fun H locs hP hS => ?_)
  have hX : (xX0_copyFrom R F i0 i1) = ((xX1_copyRow (xX1_copyRow (xX1_copyRow (xX1_copyRow (xX1_copyRow (xX1_copyRow (xX1_copyRow (xX1_copyRow (xX1_copyRow (xX1_copyRow (xX1_copyRow (xX1_copyRow R (sR (sR (sR F i0 0 (F i1 0)) i0 1 ((sR F i0 0 (F i1 0)) i1 1)) i0 2 ((sR (sR F i0 0 (F i1 0)) i0 1 ((sR F i0 0 (F i1 0)) i1 1)) i1 2)) (i1 + 1) (i0 + 1) 24) (sR (sR (sR F i0 0 (F i1 0)) i0 1 ((sR F i0 0 (F i1 0)) i1 1)) i0 2 ((sR (sR F i0 0 (F i1 0)) i0 1 ((sR F i0 0 (F i1 0)) i1 1)) i1 2)) (i1 + 2) (i0 + 2) 24) (sR (sR (sR F i0 0 (F i1 0)) i0 1 ((sR F i0 0 (F i1 0)) i1 1)) i0 2 ((sR (sR F i0 0 (F i1 0)) i0 1 ((sR F i0 0 (F i1 0)) i1 1)) i1 2)) (i1 + 3) (i0 + 3) 24) (sR (sR (sR F i0 0 (F i1 0)) i0 1 ((sR F i0 0 (F i1 0)) i1 1)) i0 2 ((sR (sR F i0 0 (F i1 0)) i0 1 ((sR F i0 0 (F i1 0)) i1 1)) i1 2)) (i1 + 4) (i0 + 4) 24) (sR (sR (sR F i0 0 (F i1 0)) i0 1 ((sR F i0 0 (F i1 0)) i1 1)) i0 2 ((sR (sR F i0 0 (F i1 0)) i0 1 ((sR F i0 0 (F i1 0)) i1 1)) i1 2)) (i1 + 5) (i0 + 5) 8) (sR (sR (sR F i0 0 (F i1 0)) i0 1 ((sR F i0 0 (F i1 0)) i1 1)) i0 2 ((sR (sR F i0 0 (F i1 0)) i0 1 ((sR F i0 0 (F i1 0)) i1 1)) i1 2)) (i1 + 6) (i0 + 6) 8) (sR (sR (sR F i0 0 (F i1 0)) i0 1 ((sR F i0 0 (F i1 0)) i1 1)) i0 2 ((sR (sR F i0 0 (F i1 0)) i0 1 ((sR F i0 0 (F i1 0)) i1 1)) i1 2)) (i1 + 7) (i0 + 7) 8) (sR (sR (sR F i0 0 (F i1 0)) i0 1 ((sR F i0 0 (F i1 0)) i1 1)) i0 2 ((sR (sR F i0 0 (F i1 0)) i0 1 ((sR F i0 0 (F i1 0)) i1 1)) i1 2)) (i1 + 8) (i0 + 8) 8) (sR (sR (sR F i0 0 (F i1 0)) i0 1 ((sR F i0 0 (F i1 0)) i1 1)) i0 2 ((sR (sR F i0 0 (F i1 0)) i0 1 ((sR F i0 0 (F i1 0)) i1 1)) i1 2)) (i1 + 9) (i0 + 9) 8) (sR (sR (sR F i0 0 (F i1 0)) i0 1 ((sR F i0 0 (F i1 0)) i1 1)) i0 2 ((sR (sR F i0 0 (F i1 0)) i0 1 ((sR F i0 0 (F i1 0)) i1 1)) i1 2)) (i1 + 10) (i0 + 10) 8) (sR (sR (sR F i0 0 (F i1 0)) i0 1 ((sR F i0 0 (F i1 0)) i1 1)) i0 2 ((sR (sR F i0 0 (F i1 0)) i0 1 ((sR F i0 0 (F i1 0)) i1 1)) i1 2)) (i1 + 11) (i0 + 11) 8) (sR (sR (sR F i0 0 (F i1 0)) i0 1 ((sR F i0 0 (F i1 0)) i1 1)) i0 2 ((sR (sR F i0 0 (F i1 0)) i0 1 ((sR F i0 0 (F i1 0)) i1 1)) i1 2)) (i1 + 12) (i0 + 12) 8), (sR (sR (sR F i0 0 (F i1 0)) i0 1 ((sR F i0 0 (F i1 0)) i1 1)) i0 2 ((sR (sR F i0 0 (F i1 0)) i0 1 ((sR F i0 0 (F i1 0)) i1 1)) i1 2))) := by unfold xX0_copyFrom; rfl
  exact W.vret hx hb hr (fun t ht hW => ⟨rfl, by rw [hX, ht]; with_reducible exact hP, hS.F ht⟩) hS.2.2 dX0_copyFrom_156

theorem sR_ne {R : Nat → Nat → Int32} {i j : Nat} (h : j ≠ i) (k : Nat) (v : Int32) : sR R i k v j = R j := by
  unfold sR
  exact up_ne _ _ h
theorem sR_same {R : Nat → Nat → Int32} {i k : Nat} {v : Int32} : sR R i k v i k = v := by
  unfold sR
  rw [up_same]
  exact pk_us
theorem sR_same_ne {R : Nat → Nat → Int32} {i k j : Nat} {v : Int32} (h : j ≠ k) : sR R i k v i j = R i j := by
  unfold sR
  rw [up_same]
  exact pk_un h
theorem cf_F0 {R F : Nat → Nat → Int32} {i j : Nat} (h : i ≠ 0) : (xX0_copyFrom R F i j).2 0 = F 0 := by
  unfold xX0_copyFrom
  show sR (sR (sR F _ _ _) _ _ _) _ _ _ 0 = F 0
  rw [sR_ne (Ne.symm h), sR_ne (Ne.symm h), sR_ne (Ne.symm h)]
def xX1_remember (R F : Nat → Nat → Int32) (o : Nat) (q : Nat) : (Nat → Nat → Int32) × (Nat → Nat → Int32) :=
  (if (F 0 1) = (5 : Int32) then (((xX0_copyFrom R (sR (sR F 0 0 (nI ((o + 1) % 5))) 0 1 (nI 4)) (18 + 13 * (((o + 1) % 5 + 4) % 5)) 1).1), (sR ((xX0_copyFrom R (sR (sR F 0 0 (nI ((o + 1) % 5))) 0 1 (nI 4)) (18 + 13 * (((o + 1) % 5 + 4) % 5)) 1).2) 0 1 (nI (4 + 1)))) else (((xX0_copyFrom R F (18 + 13 * ((o + q) % 5)) 1).1), (sR ((xX0_copyFrom R F (18 + 13 * ((o + q) % 5)) 1).2) 0 1 (nI (q + 1)))))
set_option maxHeartbeats 4000000 in
set_option maxRecDepth 100000 in
theorem mX1_remember (l : Launch) (D : va_G) (cI cS : ClassId) (ad : Nat → Nat) (hI : Inj ad) (R F : Nat → Nat → Int32) (o : Nat) (q : Nat) (ho : o < 5) (hq : q ≤ 5) (hF0 : F 0 0 = nI o) (hF1 : F 0 1 = nI q) : Met l yX1_remember wsX1_remember ({ frames := 3, cells := 0, slots := 0, locals := 90 }) (PW D cI cS ad R F [.ref (ad 0)]) (QV D cI cS ad ((xX1_remember R F o q).1) ((xX1_remember R F o q).2)) 0 0 (AA ad) := by
  refine Met.ofW (cc := cX1_remember) (maxL := 2) (ret := none) (by decide) rfl ?_
  intro p e s m args below meth c s₁ B hml hv
  obtain ⟨rfl, hP, hK⟩ := hv
  have hx := B.exec
  have hb := B.bytes
  have hr := B.returns
  have hts := atoms_spec (ws := wsX1_remember) B.pre
  have hown : s.vm.findClass RX1 = some m.cls := findClass_of_methodNamed B.named
  have hlocks := B.notSynchronized
  have hS : va_S (AA ad) s.heap s.heap [] := va_S.rf
  have hl := lv_entry ([.ref (ad 0)]) (n := 2) (Nat.le_of_ble_eq_true rfl)
  rw [lg_entry_eq]
  generalize (lg_sl ([.ref (ad 0)]) ++ List.replicate (2 - (lg_sl ([.ref (ad 0)])).length) Slot.unset).toArray = ls at hl ⊢
  have hl : lv_has ls 2 [(0, .ref (ad 0))] := hl
  have lk24 := hts (.fieldLink RX1 24 "FerryFloor" "kept" "I") (by decide +kernel)
  have lk20 := hts (.fieldLink RX1 20 "FerryFloor" "oldest" "I") (by decide +kernel)
  have lk16 := hts (.fieldLink RX1 16 "FerryFloor" "history" "[LFerryFloor$State;") (by decide +kernel)
  have lk10 := hts (.fieldLink RX1 10 "FerryFloor" "now" "LFerryFloor$State;") (by decide +kernel)
  have hin1 : ∀ w ∈ u_ws RX1 TX1 7, w ∈ wsX1_remember := by decide +kernel
  refine lv_aload_n hx hb dX1_remember_0 rfl (lv_at hl 0 rfl) ?_
  refine q_getF (v := .int (F 0 1)) hx hb hts hin1 hown hK hP 3 (by decide) lk24 (fun _ h => h) rfl dX1_remember_1 ?_
  refine lv_iconst (v := 5) hx hb dX1_remember_4 (by decide) ?_
  refine lv_icmp_ne (tgt := 27) hx hb dX1_remember_5 (by decide) (fun c_5 => ?_) (fun c_5 => ?_)
  · refine lv_aload_n hx hb dX1_remember_27 rfl (lv_at hl 0 rfl) ?_
    refine q_getF (v := .ref (ad 14)) hx hb hts hin1 hown hK hP 1 (by decide) lk16 (fun _ h => h) rfl dX1_remember_28 ?_
    refine lv_aload_n hx hb dX1_remember_31 rfl (lv_at hl 0 rfl) ?_
    refine lv_aload_n hx hb dX1_remember_32 rfl (lv_at hl 0 rfl) ?_
    refine q_getF (v := .int (F 0 1)) hx hb hts hin1 hown hK hP 3 (by decide) lk24 (fun _ h => h) rfl dX1_remember_33 ?_
    refine q_top (y := (nI q)) hF1 ?_
    refine q_callS (va_runV (As := [.int (nI q)]) (rest := [.ref (ad 14)]) ⟨hx, hb, hml, hown, hts⟩ (mX1_slotAfter l D cI cS ad hI R F (nI q)) (cwV 1 hts gX1_remember_X1_slotAfter rfl rfl rfl (by decide +kernel) ⟨Nat.le_of_ble_eq_true rfl, Nat.le_of_ble_eq_true rfl⟩) (PW_preV (i := 0) (by decide) CC_0 rfl rfl hK hP) rfl rfl hl.1 rfl (lv_room (Nat.le_of_ble_eq_true rfl)) dX1_remember_36 ⟨Nat.zero_le _, Nat.zero_le _⟩) ?_
    refine q_top (y := (nI ((o + q) % 5))) (slot_eq hF0 rfl (by omega)) ?_
    refine q_hld hx hb hK hP ((o + q) % 5) dX1_remember_39 rfl (by omega) ?_
    refine lv_astore_n (lv' := [(1, .ref (ad (18 + 13 * ((o + q) % 5)))), (0, .ref (ad 0))]) hx hb dX1_remember_40 rfl hl (by decide) rfl (fun ls hl => ?_)
    refine lv_aload_n hx hb dX1_remember_41 rfl (lv_at hl 0 rfl) ?_
    refine lv_ifnull hx hb dX1_remember_42 ?_
    refine lv_aload_n hx hb dX1_remember_45 rfl (lv_at hl 0 rfl) ?_
    refine lv_aload_n hx hb dX1_remember_46 rfl (lv_at hl 1 rfl) ?_
    refine q_getF (v := .ref (ad 1)) hx hb hts hin1 hown hK hP 0 (by decide) lk10 (fun _ h => h) rfl dX1_remember_47 ?_
    refine q_callV (va_runV (As := [.ref (ad 1)]) (rest := []) ⟨hx, hb, hml, hown, hts⟩ (mX0_copyFrom l D cI cS ad hI R F (18 + 13 * ((o + q) % 5)) 1 (St_hist (k := ((o + q) % 5)) (by omega)) st_1) (cwV 1 hts gX1_remember_X0_copyFrom rfl rfl rfl (by decide +kernel) ⟨Nat.le_of_ble_eq_true rfl, Nat.le_of_ble_eq_true rfl⟩) (PW_preV (i := (18 + 13 * ((o + q) % 5))) (St_lt (St_hist (k := ((o + q) % 5)) (by omega))) (CC_S (St_hist (k := ((o + q) % 5)) (by omega))) rfl rfl hK hP) rfl rfl hl.1 rfl (lv_room (Nat.le_of_ble_eq_true rfl)) dX1_remember_50 ⟨Nat.zero_le _, Nat.zero_le _⟩) hS (fun H locs hP hS => ?_)
    refine lv_aload_n hx hb dX1_remember_53 rfl (lv_at hl 1 rfl) ?_
    refine lv_dup hx hb dX1_remember_54 rfl ?_
    refine q_getF (v := .int (((xX0_copyFrom R F (18 + 13 * ((o + q) % 5)) 1).2) 0 1)) hx hb hts hin1 hown hK hP 3 (by decide) lk24 (fun _ h => h) rfl dX1_remember_55 ?_
    refine q_top (y := (nI q)) ((congrFun (cf_F0 (by omega)) 1).trans hF1) ?_
    refine lv_iconst (v := 1) hx hb dX1_remember_58 (by decide) ?_
    refine lv_iadd hx hb dX1_remember_59 ?_
    refine q_top (y := (nI (q + 1))) (nI_add q 1) ?_
    refine q_putF hx hb hts hin1 hown hK hI hP hS 3 (by decide) lk24 (fun _ h => h) dX1_remember_60 (fun H locs hP hS => ?_)
    have hP : WP D cI cS ad ((xX0_copyFrom R F (18 + 13 * ((o + q) % 5)) 1).1) (sR ((xX0_copyFrom R F (18 + 13 * ((o + q) % 5)) 1).2) 0 1 (nI (q + 1))) H := hP
    have hX : (xX1_remember R F o q) = (((xX0_copyFrom R F (18 + 13 * ((o + q) % 5)) 1).1), (sR ((xX0_copyFrom R F (18 + 13 * ((o + q) % 5)) 1).2) 0 1 (nI (q + 1)))) := by unfold xX1_remember; rw [if_neg c_5]
    exact W.vret hx hb hr (fun t ht hW => ⟨rfl, by rw [hX, ht]; with_reducible exact hP, hS.F ht⟩) hS.2.2 dX1_remember_63
  · refine lv_aload_n hx hb dX1_remember_8 rfl (lv_at hl 0 rfl) ?_
    refine lv_aload_n hx hb dX1_remember_9 rfl (lv_at hl 0 rfl) ?_
    refine lv_iconst (v := 1) hx hb dX1_remember_10 (by decide) ?_
    refine q_callS (va_runV (As := [.int (1 : Int32)]) (rest := [.ref (ad 0)]) ⟨hx, hb, hml, hown, hts⟩ (mX1_slotAfter l D cI cS ad hI R F (1 : Int32)) (cwV 1 hts gX1_remember_X1_slotAfter rfl rfl rfl (by decide +kernel) ⟨Nat.le_of_ble_eq_true rfl, Nat.le_of_ble_eq_true rfl⟩) (PW_preV (i := 0) (by decide) CC_0 rfl rfl hK hP) rfl rfl hl.1 rfl (lv_room (Nat.le_of_ble_eq_true rfl)) dX1_remember_11 ⟨Nat.zero_le _, Nat.zero_le _⟩) ?_
    refine q_top (y := (nI ((o + 1) % 5))) (slot_eq hF0 rfl (by omega)) ?_
    refine q_putF hx hb hts hin1 hown hK hI hP hS 2 (by decide) lk20 (fun _ h => h) dX1_remember_14 (fun H locs hP hS => ?_)
    have hP : WP D cI cS ad R (sR F 0 0 (nI ((o + 1) % 5))) H := hP
    refine lv_aload_n hx hb dX1_remember_17 rfl (lv_at hl 0 rfl) ?_
    refine lv_dup hx hb dX1_remember_18 rfl ?_
    refine q_getF (v := .int ((sR F 0 0 (nI ((o + 1) % 5))) 0 1)) hx hb hts hin1 hown hK hP 3 (by decide) lk24 (fun _ h => h) rfl dX1_remember_19 ?_
    refine q_top (y := (5 : Int32)) c_5 ?_
    refine lv_iconst (v := 1) hx hb dX1_remember_22 (by decide) ?_
    refine lv_isub hx hb dX1_remember_23 ?_
    refine q_top (y := (nI 4)) (by decide) ?_
    refine q_putF hx hb hts hin1 hown hK hI hP hS 3 (by decide) lk24 (fun _ h => h) dX1_remember_24 (fun H locs hP hS => ?_)
    have hP : WP D cI cS ad R (sR (sR F 0 0 (nI ((o + 1) % 5))) 0 1 (nI 4)) H := hP
    refine lv_aload_n hx hb dX1_remember_27 rfl (lv_at hl 0 rfl) ?_
    refine q_getF (v := .ref (ad 14)) hx hb hts hin1 hown hK hP 1 (by decide) lk16 (fun _ h => h) rfl dX1_remember_28 ?_
    refine lv_aload_n hx hb dX1_remember_31 rfl (lv_at hl 0 rfl) ?_
    refine lv_aload_n hx hb dX1_remember_32 rfl (lv_at hl 0 rfl) ?_
    refine q_getF (v := .int ((sR (sR F 0 0 (nI ((o + 1) % 5))) 0 1 (nI 4)) 0 1)) hx hb hts hin1 hown hK hP 3 (by decide) lk24 (fun _ h => h) rfl dX1_remember_33 ?_
    refine q_top (y := (nI 4)) rfl ?_
    refine q_callS (va_runV (As := [.int (nI 4)]) (rest := [.ref (ad 14)]) ⟨hx, hb, hml, hown, hts⟩ (mX1_slotAfter l D cI cS ad hI R (sR (sR F 0 0 (nI ((o + 1) % 5))) 0 1 (nI 4)) (nI 4)) (cwV 1 hts gX1_remember_X1_slotAfter rfl rfl rfl (by decide +kernel) ⟨Nat.le_of_ble_eq_true rfl, Nat.le_of_ble_eq_true rfl⟩) (PW_preV (i := 0) (by decide) CC_0 rfl rfl hK hP) rfl rfl hl.1 rfl (lv_room (Nat.le_of_ble_eq_true rfl)) dX1_remember_36 ⟨Nat.zero_le _, Nat.zero_le _⟩) ?_
    refine q_top (y := (nI (((o + 1) % 5 + 4) % 5))) (slot_eq (a := (o + 1) % 5) rfl rfl (by omega)) ?_
    refine q_hld hx hb hK hP (((o + 1) % 5 + 4) % 5) dX1_remember_39 rfl (by omega) ?_
    refine lv_astore_n (lv' := [(1, .ref (ad (18 + 13 * (((o + 1) % 5 + 4) % 5)))), (0, .ref (ad 0))]) hx hb dX1_remember_40 rfl hl (by decide) rfl (fun ls hl => ?_)
    refine lv_aload_n hx hb dX1_remember_41 rfl (lv_at hl 0 rfl) ?_
    refine lv_ifnull hx hb dX1_remember_42 ?_
    refine lv_aload_n hx hb dX1_remember_45 rfl (lv_at hl 0 rfl) ?_
    refine lv_aload_n hx hb dX1_remember_46 rfl (lv_at hl 1 rfl) ?_
    refine q_getF (v := .ref (ad 1)) hx hb hts hin1 hown hK hP 0 (by decide) lk10 (fun _ h => h) rfl dX1_remember_47 ?_
    refine q_callV (va_runV (As := [.ref (ad 1)]) (rest := []) ⟨hx, hb, hml, hown, hts⟩ (mX0_copyFrom l D cI cS ad hI R (sR (sR F 0 0 (nI ((o + 1) % 5))) 0 1 (nI 4)) (18 + 13 * (((o + 1) % 5 + 4) % 5)) 1 (St_hist (k := (((o + 1) % 5 + 4) % 5)) (by omega)) st_1) (cwV 1 hts gX1_remember_X0_copyFrom rfl rfl rfl (by decide +kernel) ⟨Nat.le_of_ble_eq_true rfl, Nat.le_of_ble_eq_true rfl⟩) (PW_preV (i := (18 + 13 * (((o + 1) % 5 + 4) % 5))) (St_lt (St_hist (k := (((o + 1) % 5 + 4) % 5)) (by omega))) (CC_S (St_hist (k := (((o + 1) % 5 + 4) % 5)) (by omega))) rfl rfl hK hP) rfl rfl hl.1 rfl (lv_room (Nat.le_of_ble_eq_true rfl)) dX1_remember_50 ⟨Nat.zero_le _, Nat.zero_le _⟩) hS (fun H locs hP hS => ?_)
    refine lv_aload_n hx hb dX1_remember_53 rfl (lv_at hl 1 rfl) ?_
    refine lv_dup hx hb dX1_remember_54 rfl ?_
    refine q_getF (v := .int (((xX0_copyFrom R (sR (sR F 0 0 (nI ((o + 1) % 5))) 0 1 (nI 4)) (18 + 13 * (((o + 1) % 5 + 4) % 5)) 1).2) 0 1)) hx hb hts hin1 hown hK hP 3 (by decide) lk24 (fun _ h => h) rfl dX1_remember_55 ?_
    refine q_top (y := (nI 4)) ((congrFun (cf_F0 (by omega)) 1).trans rfl) ?_
    refine lv_iconst (v := 1) hx hb dX1_remember_58 (by decide) ?_
    refine lv_iadd hx hb dX1_remember_59 ?_
    refine q_top (y := (nI (4 + 1))) (nI_add 4 1) ?_
    refine q_putF hx hb hts hin1 hown hK hI hP hS 3 (by decide) lk24 (fun _ h => h) dX1_remember_60 (fun H locs hP hS => ?_)
    have hP : WP D cI cS ad ((xX0_copyFrom R (sR (sR F 0 0 (nI ((o + 1) % 5))) 0 1 (nI 4)) (18 + 13 * (((o + 1) % 5 + 4) % 5)) 1).1) (sR ((xX0_copyFrom R (sR (sR F 0 0 (nI ((o + 1) % 5))) 0 1 (nI 4)) (18 + 13 * (((o + 1) % 5 + 4) % 5)) 1).2) 0 1 (nI (4 + 1))) H := hP
    have hX : (xX1_remember R F o q) = (((xX0_copyFrom R (sR (sR F 0 0 (nI ((o + 1) % 5))) 0 1 (nI 4)) (18 + 13 * (((o + 1) % 5 + 4) % 5)) 1).1), (sR ((xX0_copyFrom R (sR (sR F 0 0 (nI ((o + 1) % 5))) 0 1 (nI 4)) (18 + 13 * (((o + 1) % 5 + 4) % 5)) 1).2) 0 1 (nI (4 + 1)))) := by unfold xX1_remember; rw [if_pos c_5]
    exact W.vret hx hb hr (fun t ht hW => ⟨rfl, by rw [hX, ht]; with_reducible exact hP, hS.F ht⟩) hS.2.2 dX1_remember_63

def xX1_undo (R F : Nat → Nat → Int32) (o : Nat) (q : Nat) : Int32 × (Nat → Nat → Int32) × (Nat → Nat → Int32) :=
  (if (0 : Int32) < (F 0 1) then ((nI (q - 1)), ((xX0_copyFrom R (sR F 0 1 (nI (q - 1))) 1 (18 + 13 * ((o + (q - 1)) % 5))).1), ((xX0_copyFrom R (sR F 0 1 (nI (q - 1))) 1 (18 + 13 * ((o + (q - 1)) % 5))).2)) else ((-100002 : Int32), R, F))
set_option maxHeartbeats 4000000 in
set_option maxRecDepth 100000 in
theorem mX1_undo (l : Launch) (D : va_G) (cI cS : ClassId) (ad : Nat → Nat) (hI : Inj ad) (R F : Nat → Nat → Int32) (o : Nat) (q : Nat) (ho : o < 5) (hq : q ≤ 5) (hF0 : F 0 0 = nI o) (hF1 : F 0 1 = nI q) : Met l yX1_undo wsX1_undo ({ frames := 3, cells := 0, slots := 0, locals := 90 }) (PW D cI cS ad R F [.ref (ad 0)]) (QI D cI cS ad ((xX1_undo R F o q).1) ((xX1_undo R F o q).2.1) ((xX1_undo R F o q).2.2)) 0 0 (AA ad) := by
  refine Met.ofW (cc := cX1_undo) (maxL := 2) (ret := (some .int)) (by decide) rfl ?_
  intro p e s m args below meth c s₁ B hml hv
  obtain ⟨rfl, hP, hK⟩ := hv
  have hx := B.exec
  have hb := B.bytes
  have hr := B.returns
  have hts := atoms_spec (ws := wsX1_undo) B.pre
  have hown : s.vm.findClass RX1 = some m.cls := findClass_of_methodNamed B.named
  have hlocks := B.notSynchronized
  have hS : va_S (AA ad) s.heap s.heap [] := va_S.rf
  have hl := lv_entry ([.ref (ad 0)]) (n := 2) (Nat.le_of_ble_eq_true rfl)
  rw [lg_entry_eq]
  generalize (lg_sl ([.ref (ad 0)]) ++ List.replicate (2 - (lg_sl ([.ref (ad 0)])).length) Slot.unset).toArray = ls at hl ⊢
  have hl : lv_has ls 2 [(0, .ref (ad 0))] := hl
  have lk24 := hts (.fieldLink RX1 24 "FerryFloor" "kept" "I") (by decide +kernel)
  have lk55 := hts (.constant RX1 55 (-100002)) (by decide +kernel)
  have lk16 := hts (.fieldLink RX1 16 "FerryFloor" "history" "[LFerryFloor$State;") (by decide +kernel)
  have lk10 := hts (.fieldLink RX1 10 "FerryFloor" "now" "LFerryFloor$State;") (by decide +kernel)
  have hin1 : ∀ w ∈ u_ws RX1 TX1 7, w ∈ wsX1_undo := by decide +kernel
  refine lv_aload_n hx hb dX1_undo_0 rfl (lv_at hl 0 rfl) ?_
  refine q_getF (v := .int (F 0 1)) hx hb hts hin1 hown hK hP 3 (by decide) lk24 (fun _ h => h) rfl dX1_undo_1 ?_
  refine lv_if_gt (tgt := 10) hx hb dX1_undo_4 (by decide) (fun c_4 => ?_) (fun c_4 => ?_)
  · have hq1 : 1 ≤ q := by
      rcases Nat.eq_zero_or_pos q with h | h
      · rw [hF1, h] at c_4
        exact absurd c_4 (by decide)
      · exact h
    refine lv_aload_n hx hb dX1_undo_10 rfl (lv_at hl 0 rfl) ?_
    refine lv_dup hx hb dX1_undo_11 rfl ?_
    refine q_getF (v := .int (F 0 1)) hx hb hts hin1 hown hK hP 3 (by decide) lk24 (fun _ h => h) rfl dX1_undo_12 ?_
    refine q_top (y := (nI q)) hF1 ?_
    refine lv_iconst (v := 1) hx hb dX1_undo_15 (by decide) ?_
    refine lv_isub hx hb dX1_undo_16 ?_
    refine q_top (y := (nI (q - 1))) (pk_sub hq1) ?_
    refine q_putF hx hb hts hin1 hown hK hI hP hS 3 (by decide) lk24 (fun _ h => h) dX1_undo_17 (fun H locs hP hS => ?_)
    have hP : WP D cI cS ad R (sR F 0 1 (nI (q - 1))) H := hP
    refine lv_aload_n hx hb dX1_undo_20 rfl (lv_at hl 0 rfl) ?_
    refine q_getF (v := .ref (ad 14)) hx hb hts hin1 hown hK hP 1 (by decide) lk16 (fun _ h => h) rfl dX1_undo_21 ?_
    refine lv_aload_n hx hb dX1_undo_24 rfl (lv_at hl 0 rfl) ?_
    refine lv_aload_n hx hb dX1_undo_25 rfl (lv_at hl 0 rfl) ?_
    refine q_getF (v := .int ((sR F 0 1 (nI (q - 1))) 0 1)) hx hb hts hin1 hown hK hP 3 (by decide) lk24 (fun _ h => h) rfl dX1_undo_26 ?_
    refine q_top (y := (nI (q - 1))) rfl ?_
    refine q_callS (va_runV (As := [.int (nI (q - 1))]) (rest := [.ref (ad 14)]) ⟨hx, hb, hml, hown, hts⟩ (mX1_slotAfter l D cI cS ad hI R (sR F 0 1 (nI (q - 1))) (nI (q - 1))) (cwV 1 hts gX1_undo_X1_slotAfter rfl rfl rfl (by decide +kernel) ⟨Nat.le_of_ble_eq_true rfl, Nat.le_of_ble_eq_true rfl⟩) (PW_preV (i := 0) (by decide) CC_0 rfl rfl hK hP) rfl rfl hl.1 rfl (lv_room (Nat.le_of_ble_eq_true rfl)) dX1_undo_29 ⟨Nat.zero_le _, Nat.zero_le _⟩) ?_
    refine q_top (y := (nI ((o + (q - 1)) % 5))) (slot_eq (a := o) hF0 rfl (by omega)) ?_
    refine q_hld hx hb hK hP ((o + (q - 1)) % 5) dX1_undo_32 rfl (by omega) ?_
    refine lv_astore_n (lv' := [(1, .ref (ad (18 + 13 * ((o + (q - 1)) % 5)))), (0, .ref (ad 0))]) hx hb dX1_undo_33 rfl hl (by decide) rfl (fun ls hl => ?_)
    refine lv_aload_n hx hb dX1_undo_34 rfl (lv_at hl 0 rfl) ?_
    refine lv_ifnull hx hb dX1_undo_35 ?_
    refine lv_aload_n hx hb dX1_undo_38 rfl (lv_at hl 1 rfl) ?_
    refine q_getF (v := .ref (ad 1)) hx hb hts hin1 hown hK hP 0 (by decide) lk10 (fun _ h => h) rfl dX1_undo_39 ?_
    refine lv_aload_n hx hb dX1_undo_42 rfl (lv_at hl 0 rfl) ?_
    refine q_callV (va_runV (As := [.ref (ad (18 + 13 * ((o + (q - 1)) % 5)))]) (rest := []) ⟨hx, hb, hml, hown, hts⟩ (mX0_copyFrom l D cI cS ad hI R (sR F 0 1 (nI (q - 1))) 1 (18 + 13 * ((o + (q - 1)) % 5)) st_1 (St_hist (k := ((o + (q - 1)) % 5)) (by omega))) (cwV 1 hts gX1_undo_X0_copyFrom rfl rfl rfl (by decide +kernel) ⟨Nat.le_of_ble_eq_true rfl, Nat.le_of_ble_eq_true rfl⟩) (PW_preV (i := 1) (St_lt st_1) (CC_S st_1) rfl rfl hK hP) rfl rfl hl.1 rfl (lv_room (Nat.le_of_ble_eq_true rfl)) dX1_undo_43 ⟨Nat.zero_le _, Nat.zero_le _⟩) hS (fun H locs hP hS => ?_)
    refine lv_aload_n hx hb dX1_undo_46 rfl (lv_at hl 1 rfl) ?_
    refine q_getF (v := .int (((xX0_copyFrom R (sR F 0 1 (nI (q - 1))) 1 (18 + 13 * ((o + (q - 1)) % 5))).2) 0 1)) hx hb hts hin1 hown hK hP 3 (by decide) lk24 (fun _ h => h) rfl dX1_undo_47 ?_
    refine q_top (y := (nI (q - 1))) ((congrFun (cf_F0 (by decide)) 1).trans rfl) ?_
    have hX : (xX1_undo R F o q) = ((nI (q - 1)), ((xX0_copyFrom R (sR F 0 1 (nI (q - 1))) 1 (18 + 13 * ((o + (q - 1)) % 5))).1), ((xX0_copyFrom R (sR F 0 1 (nI (q - 1))) 1 (18 + 13 * ((o + (q - 1)) % 5))).2)) := by unfold xX1_undo; rw [if_pos c_4]
    exact W.iret (v := (nI (q - 1))) hx hb hr (fun t ht hW => ⟨by rw [hX], by rw [hX, ht]; with_reducible exact hP, hS.F ht⟩) hS.2.2 dX1_undo_50
  · refine lv_ldc (v := -100002) hx hb hown lk55 dX1_undo_7 ?_
    have hX : (xX1_undo R F o q) = ((-100002 : Int32), R, F) := by unfold xX1_undo; rw [if_neg c_4]
    exact W.iret (v := (-100002 : Int32)) hx hb hr (fun t ht hW => ⟨by rw [hX], by rw [hX, ht]; with_reducible exact hP, hS.F ht⟩) hS.2.2 dX1_undo_9
end
section
def hX1_bestExchange_25 (R F : Nat → Nat → Int32) (i1 : Nat) (k : Nat) (x2 : Int32) (x3 : Int32) (R1 : Nat → Nat → Int32) (κ1 : Nat → Int32 → Int32 → (Nat → Nat → Int32) → Int32 × (Nat → Nat → Int32)) : Nat → Nat → Int32 → Int32 → (Nat → Nat → Int32) → Int32 × (Nat → Nat → Int32)
  | 0, k2, x22, x32, R2 => (κ1 (k + 1) x22 x32 R2)
  | n2 + 1, k2, x22, x32, R2 => (if (xX1_isAboard R2 F (nI k)) = (0 : Int32) then (hX1_bestExchange_25 R F i1 k x2 x3 R1 κ1 n2 (k2 + 1) x22 x32 R2) else (if (xX1_isAboard R2 F (nI k2)) = (0 : Int32) then (hX1_bestExchange_25 R F i1 k x2 x3 R1 κ1 n2 (k2 + 1) x22 x32 R2) else (if x32 ≤ ((xX1_errorWith (xX1_exchange R2 F i1 (nI k) (nI k2)) F i1).1) then (hX1_bestExchange_25 R F i1 k x2 x3 R1 κ1 n2 (k2 + 1) x22 x32 (xX1_exchange ((xX1_errorWith (xX1_exchange R2 F i1 (nI k) (nI k2)) F i1).2) F i1 (nI k) (nI k2))) else (hX1_bestExchange_25 R F i1 k x2 x3 R1 κ1 n2 (k2 + 1) (nI ((10 * k) + k2)) ((xX1_errorWith (xX1_exchange R2 F i1 (nI k) (nI k2)) F i1).1) (xX1_exchange ((xX1_errorWith (xX1_exchange R2 F i1 (nI k) (nI k2)) F i1).2) F i1 (nI k) (nI k2))))))
theorem hX1_bestExchange_25_z (R F : Nat → Nat → Int32) (i1 : Nat) (k : Nat) (x2 : Int32) (x3 : Int32) (R1 : Nat → Nat → Int32) (κ1 : Nat → Int32 → Int32 → (Nat → Nat → Int32) → Int32 × (Nat → Nat → Int32)) (k2 : Nat) (x22 : Int32) (x32 : Int32) (R2 : Nat → Nat → Int32) : hX1_bestExchange_25 R F i1 k x2 x3 R1 κ1 0 k2 x22 x32 R2 = (κ1 (k + 1) x22 x32 R2) := rfl
theorem hX1_bestExchange_25_s (R F : Nat → Nat → Int32) (i1 : Nat) (k : Nat) (x2 : Int32) (x3 : Int32) (R1 : Nat → Nat → Int32) (κ1 : Nat → Int32 → Int32 → (Nat → Nat → Int32) → Int32 × (Nat → Nat → Int32)) (n2 : Nat) (k2 : Nat) (x22 : Int32) (x32 : Int32) (R2 : Nat → Nat → Int32) : hX1_bestExchange_25 R F i1 k x2 x3 R1 κ1 (n2 + 1) k2 x22 x32 R2 = (if (xX1_isAboard R2 F (nI k)) = (0 : Int32) then (hX1_bestExchange_25 R F i1 k x2 x3 R1 κ1 n2 (k2 + 1) x22 x32 R2) else (if (xX1_isAboard R2 F (nI k2)) = (0 : Int32) then (hX1_bestExchange_25 R F i1 k x2 x3 R1 κ1 n2 (k2 + 1) x22 x32 R2) else (if x32 ≤ ((xX1_errorWith (xX1_exchange R2 F i1 (nI k) (nI k2)) F i1).1) then (hX1_bestExchange_25 R F i1 k x2 x3 R1 κ1 n2 (k2 + 1) x22 x32 (xX1_exchange ((xX1_errorWith (xX1_exchange R2 F i1 (nI k) (nI k2)) F i1).2) F i1 (nI k) (nI k2))) else (hX1_bestExchange_25 R F i1 k x2 x3 R1 κ1 n2 (k2 + 1) (nI ((10 * k) + k2)) ((xX1_errorWith (xX1_exchange R2 F i1 (nI k) (nI k2)) F i1).1) (xX1_exchange ((xX1_errorWith (xX1_exchange R2 F i1 (nI k) (nI k2)) F i1).2) F i1 (nI k) (nI k2)))))) := rfl
def hX1_bestExchange_12 (R F : Nat → Nat → Int32) (i1 : Nat) : Nat → Nat → Int32 → Int32 → (Nat → Nat → Int32) → Int32 × (Nat → Nat → Int32)
  | 0, k, x2, x3, R1 => (x2, R1)
  | n + 1, k, x2, x3, R1 => (hX1_bestExchange_25 R F i1 k x2 x3 R1 (fun z0 z1 z2 z3 => hX1_bestExchange_12 R F i1 n z0 z1 z2 z3) (8 - (k + 1)) (k + 1) x2 x3 R1)
theorem hX1_bestExchange_12_z (R F : Nat → Nat → Int32) (i1 : Nat) (k : Nat) (x2 : Int32) (x3 : Int32) (R1 : Nat → Nat → Int32) : hX1_bestExchange_12 R F i1 0 k x2 x3 R1 = (x2, R1) := rfl
theorem hX1_bestExchange_12_s (R F : Nat → Nat → Int32) (i1 : Nat) (n : Nat) (k : Nat) (x2 : Int32) (x3 : Int32) (R1 : Nat → Nat → Int32) : hX1_bestExchange_12 R F i1 (n + 1) k x2 x3 R1 = (hX1_bestExchange_25 R F i1 k x2 x3 R1 (fun z0 z1 z2 z3 => hX1_bestExchange_12 R F i1 n z0 z1 z2 z3) (8 - (k + 1)) (k + 1) x2 x3 R1) := rfl
def xX1_bestExchange (R F : Nat → Nat → Int32) (i1 : Nat) : Int32 × (Nat → Nat → Int32) :=
  (hX1_bestExchange_12 R F i1 8 0 (-100009 : Int32) ((xX1_errorWith R F i1).1) ((xX1_errorWith R F i1).2))
set_option maxHeartbeats 4000000 in
set_option maxRecDepth 100000 in
theorem mX1_bestExchange (l : Launch) (D : va_G) (cI cS : ClassId) (ad : Nat → Nat) (hI : Inj ad) (R F : Nat → Nat → Int32) (i1 : Nat) (hi1 : Ar i1 8) : Met l yX1_bestExchange wsX1_bestExchange ({ frames := 5, cells := 0, slots := 0, locals := 115 }) (PW D cI cS ad R F [.ref (ad 0), .ref (ad i1)]) (QI D cI cS ad ((xX1_bestExchange R F i1).1) ((xX1_bestExchange R F i1).2) F) 0 0 (AA ad) := by
  refine Met.ofW (cc := cX1_bestExchange) (maxL := 7) (ret := (some .int)) (by decide) rfl ?_
  intro p e s m args below meth c s₁ B hml hv
  obtain ⟨rfl, hP, hK⟩ := hv
  have hx := B.exec
  have hb := B.bytes
  have hr := B.returns
  have hts := atoms_spec (ws := wsX1_bestExchange) B.pre
  have hown : s.vm.findClass RX1 = some m.cls := findClass_of_methodNamed B.named
  have hlocks := B.notSynchronized
  have hS : va_S (AA ad) s.heap s.heap [] := va_S.rf
  have hl := lv_entry ([.ref (ad 0), .ref (ad i1)]) (n := 7) (Nat.le_of_ble_eq_true rfl)
  rw [lg_entry_eq]
  generalize (lg_sl ([.ref (ad 0), .ref (ad i1)]) ++ List.replicate (7 - (lg_sl ([.ref (ad 0), .ref (ad i1)])).length) Slot.unset).toArray = ls at hl ⊢
  have hl : lv_has ls 7 [(0, .ref (ad 0)), (1, .ref (ad i1))] := hl
  have lk78 := hts (.constant RX1 78 (-100009)) (by decide +kernel)
  refine lv_ldc (v := -100009) hx hb hown lk78 dX1_bestExchange_0 ?_
  refine lv_istore_n (lv' := [(2, .int (-100009 : Int32)), (0, .ref (ad 0)), (1, .ref (ad i1))]) hx hb dX1_bestExchange_2 rfl hl (by decide) rfl (fun ls hl => ?_)
  refine lv_aload_n hx hb dX1_bestExchange_3 rfl (lv_at hl 1 rfl) ?_
  refine lv_aload_n hx hb dX1_bestExchange_4 rfl (lv_at hl 2 rfl) ?_
  refine q_callI (va_runV (As := [.ref (ad i1)]) (rest := []) ⟨hx, hb, hml, hown, hts⟩ (mX1_errorWith l D cI cS ad hI R F i1 hi1) (cwV 1 hts gX1_bestExchange_X1_errorWith rfl rfl rfl (by decide +kernel) ⟨Nat.le_of_ble_eq_true rfl, Nat.le_of_ble_eq_true rfl⟩) (PW_preV (i := 0) (by decide) CC_0 rfl rfl hK hP) rfl rfl hl.1 rfl (lv_room (Nat.le_of_ble_eq_true rfl)) dX1_bestExchange_5 ⟨Nat.zero_le _, Nat.zero_le _⟩) hS (fun H locs hP hS => ?_)
  refine lv_istore_n (lv' := [(3, .int ((xX1_errorWith R F i1).1)), (2, .int (-100009 : Int32)), (0, .ref (ad 0)), (1, .ref (ad i1))]) hx hb dX1_bestExchange_8 rfl hl (by decide) rfl (fun ls hl => ?_)
  refine lv_iconst (v := 0) hx hb dX1_bestExchange_9 (by decide) ?_
  refine lv_istore (lv' := [(4, .int (0 : Int32)), (3, .int ((xX1_errorWith R F i1).1)), (2, .int (-100009 : Int32)), (0, .ref (ad 0)), (1, .ref (ad i1))]) hx hb dX1_bestExchange_10 hl (by decide) rfl (fun ls hl => ?_)
  refine q_loop (fun nn H locs ls => ∃ (k : Nat) (x2 : Int32) (x3 : Int32) (R1 : Nat → Nat → Int32), k + nn = 8 ∧ hX1_bestExchange_12 R F i1 nn k x2 x3 R1 = (xX1_bestExchange R F i1) ∧ WP D cI cS ad R1 F H ∧ va_S (AA ad) s.heap H locs ∧ lv_has ls 7 [(4, .int (nI k)), (3, .int x3), (2, .int x2), (0, .ref (ad 0)), (1, .ref (ad i1))]) 8 ⟨0, (-100009 : Int32), ((xX1_errorWith R F i1).1), ((xX1_errorWith R F i1).2), by omega, by unfold xX1_bestExchange; rfl, hP, hS, lv_sub hl [0, 1, 2, 3, 4] rfl⟩ ?_ ?_
  · intro H locs ls hz
    obtain ⟨k, x2, x3, R1, hkn, hsp, hP, hS, hl⟩ := hz
    refine lv_iload hx hb dX1_bestExchange_12 (lv_at hl 0 rfl) ?_
    refine lv_bipush (v := 8) hx hb dX1_bestExchange_14 (by decide) ?_
    refine lv_icmp_ge (tgt := 103) hx hb dX1_bestExchange_16 (by decide) (fun c_16 => ?_) (fun c_16 => ?_)
    · refine lv_iload_n hx hb dX1_bestExchange_103 rfl (lv_at hl 2 rfl) ?_
      have hX : (xX1_bestExchange R F i1) = (x2, R1) := by rw [← hsp, hX1_bestExchange_12_z]
      exact W.iret (v := x2) hx hb hr (fun t ht hW => ⟨by rw [hX], by rw [hX, ht]; with_reducible exact hP, hS.F ht⟩) hS.2.2 dX1_bestExchange_104
    · exact absurd (nI_le (a := 8) (b := k) (by omega) (by omega)) c_16
  · intro n ih H locs ls hz
    obtain ⟨k, x2, x3, R1, hkn, hsp, hP, hS, hl⟩ := hz
    refine lv_iload hx hb dX1_bestExchange_12 (lv_at hl 0 rfl) ?_
    refine lv_bipush (v := 8) hx hb dX1_bestExchange_14 (by decide) ?_
    refine lv_icmp_ge (tgt := 103) hx hb dX1_bestExchange_16 (by decide) (fun c_16 => ?_) (fun c_16 => ?_)
    · exact absurd c_16 (nI_ge (a := k) (b := 8) (by omega) (by omega))
    · refine lv_iload hx hb dX1_bestExchange_19 (lv_at hl 0 rfl) ?_
      refine lv_iconst (v := 1) hx hb dX1_bestExchange_21 (by decide) ?_
      refine lv_iadd hx hb dX1_bestExchange_22 ?_
      refine q_top (y := (nI (k + 1))) (nI_add k 1) ?_
      refine lv_istore (lv' := [(5, .int (nI (k + 1))), (4, .int (nI k)), (3, .int x3), (2, .int x2), (0, .ref (ad 0)), (1, .ref (ad i1))]) hx hb dX1_bestExchange_23 hl (by decide) rfl (fun ls hl => ?_)
      refine q_loop (fun nn H locs ls => ∃ (k2 : Nat) (x22 : Int32) (x32 : Int32) (R2 : Nat → Nat → Int32), k2 + nn = 8 ∧ hX1_bestExchange_25 R F i1 k x2 x3 R1 (fun z0 z1 z2 z3 => hX1_bestExchange_12 R F i1 n z0 z1 z2 z3) nn k2 x22 x32 R2 = (xX1_bestExchange R F i1) ∧ WP D cI cS ad R2 F H ∧ va_S (AA ad) s.heap H locs ∧ lv_has ls 7 [(5, .int (nI k2)), (4, .int (nI k)), (3, .int x32), (2, .int x22), (0, .ref (ad 0)), (1, .ref (ad i1))]) (8 - (k + 1)) ⟨(k + 1), x2, x3, R1, by omega, by rw [← hsp, hX1_bestExchange_12_s], hP, hS, lv_sub hl [0, 1, 2, 3, 4, 5] rfl⟩ ?_ ?_
      · intro H locs ls hz
        obtain ⟨k2, x22, x32, R2, hkn2, hsp2, hP, hS, hl⟩ := hz
        refine lv_iload hx hb dX1_bestExchange_25 (lv_at hl 0 rfl) ?_
        refine lv_bipush (v := 8) hx hb dX1_bestExchange_27 (by decide) ?_
        refine lv_icmp_ge (tgt := 97) hx hb dX1_bestExchange_29 (by decide) (fun c_29 => ?_) (fun c_29 => ?_)
        · refine lv_iinc (v := (nI (k + 1))) (lv' := [(4, .int (nI (k + 1))), (5, .int (nI k2)), (3, .int x32), (2, .int x22), (0, .ref (ad 0)), (1, .ref (ad i1))]) hx hb dX1_bestExchange_97 hl (k := 1) rfl (nI_1 k) (by decide) rfl (fun ls hl => ?_)
          refine lv_goto (tgt := 12) hx hb dX1_bestExchange_100 (by decide) ?_
          exact ih _ _ _ ⟨(k + 1), x22, x32, R2, by omega, by rw [← hsp2, hX1_bestExchange_25_z], hP, hS, lv_sub hl [0, 2, 3, 4, 5] rfl⟩
        · exact absurd (nI_le (a := 8) (b := k2) (by omega) (by omega)) c_29
      · intro n2 ih2 H locs ls hz
        obtain ⟨k2, x22, x32, R2, hkn2, hsp2, hP, hS, hl⟩ := hz
        refine lv_iload hx hb dX1_bestExchange_25 (lv_at hl 0 rfl) ?_
        refine lv_bipush (v := 8) hx hb dX1_bestExchange_27 (by decide) ?_
        refine lv_icmp_ge (tgt := 97) hx hb dX1_bestExchange_29 (by decide) (fun c_29 => ?_) (fun c_29 => ?_)
        · exact absurd c_29 (nI_ge (a := k2) (b := 8) (by omega) (by omega))
        · refine lv_aload_n hx hb dX1_bestExchange_32 rfl (lv_at hl 4 rfl) ?_
          refine lv_iload hx hb dX1_bestExchange_33 (lv_at hl 1 rfl) ?_
          refine q_callS (va_runV (As := [.int (nI k)]) (rest := []) ⟨hx, hb, hml, hown, hts⟩ (mX1_isAboard l D cI cS ad hI R2 F (nI k)) (cwV 1 hts gX1_bestExchange_X1_isAboard rfl rfl rfl (by decide +kernel) ⟨Nat.le_of_ble_eq_true rfl, Nat.le_of_ble_eq_true rfl⟩) (PW_preV (i := 0) (by decide) CC_0 rfl rfl hK hP) rfl rfl hl.1 rfl (lv_room (Nat.le_of_ble_eq_true rfl)) dX1_bestExchange_35 ⟨Nat.zero_le _, Nat.zero_le _⟩) ?_
          refine lv_if_eq (tgt := 91) hx hb dX1_bestExchange_38 (by decide) (fun c_38 => ?_) (fun c_38 => ?_)
          · refine lv_iinc (v := (nI (k2 + 1))) (lv' := [(5, .int (nI (k2 + 1))), (4, .int (nI k)), (3, .int x32), (2, .int x22), (0, .ref (ad 0)), (1, .ref (ad i1))]) hx hb dX1_bestExchange_91 hl (k := 0) rfl (nI_1 k2) (by decide) rfl (fun ls hl => ?_)
            refine lv_goto (tgt := 25) hx hb dX1_bestExchange_94 (by decide) ?_
            exact ih2 _ _ _ ⟨(k2 + 1), x22, x32, R2, by omega, by rw [← hsp2, hX1_bestExchange_25_s, if_pos c_38], hP, hS, lv_sub hl [0, 1, 2, 3, 4, 5] rfl⟩
          · refine lv_aload_n hx hb dX1_bestExchange_41 rfl (lv_at hl 4 rfl) ?_
            refine lv_iload hx hb dX1_bestExchange_42 (lv_at hl 0 rfl) ?_
            refine q_callS (va_runV (As := [.int (nI k2)]) (rest := []) ⟨hx, hb, hml, hown, hts⟩ (mX1_isAboard l D cI cS ad hI R2 F (nI k2)) (cwV 1 hts gX1_bestExchange_X1_isAboard rfl rfl rfl (by decide +kernel) ⟨Nat.le_of_ble_eq_true rfl, Nat.le_of_ble_eq_true rfl⟩) (PW_preV (i := 0) (by decide) CC_0 rfl rfl hK hP) rfl rfl hl.1 rfl (lv_room (Nat.le_of_ble_eq_true rfl)) dX1_bestExchange_44 ⟨Nat.zero_le _, Nat.zero_le _⟩) ?_
            refine lv_if_eq (tgt := 91) hx hb dX1_bestExchange_47 (by decide) (fun c_47 => ?_) (fun c_47 => ?_)
            · refine lv_iinc (v := (nI (k2 + 1))) (lv' := [(5, .int (nI (k2 + 1))), (4, .int (nI k)), (3, .int x32), (2, .int x22), (0, .ref (ad 0)), (1, .ref (ad i1))]) hx hb dX1_bestExchange_91 hl (k := 0) rfl (nI_1 k2) (by decide) rfl (fun ls hl => ?_)
              refine lv_goto (tgt := 25) hx hb dX1_bestExchange_94 (by decide) ?_
              exact ih2 _ _ _ ⟨(k2 + 1), x22, x32, R2, by omega, by rw [← hsp2, hX1_bestExchange_25_s, if_neg c_38, if_pos c_47], hP, hS, lv_sub hl [0, 1, 2, 3, 4, 5] rfl⟩
            · refine lv_aload_n hx hb dX1_bestExchange_50 rfl (lv_at hl 5 rfl) ?_
              refine lv_iload hx hb dX1_bestExchange_51 (lv_at hl 1 rfl) ?_
              refine lv_iload hx hb dX1_bestExchange_53 (lv_at hl 0 rfl) ?_
              refine q_callV (va_runS (As := [.ref (ad i1), .int (nI k), .int (nI k2)]) (rest := []) ⟨hx, hb, hml, hown, hts⟩ (mX1_exchange l D cI cS ad hI R2 F i1 (nI k) (nI k2) hi1 (by first | assumption | exact isCell_in (by assumption) | exact isWalker_in (by assumption) | exact isAboard_in (by assumption) | exact isPair_in1 (by assumption) | exact isPair_in2 (by assumption) | exact isWithin7_in (by assumption) | exact vp_in_nI (by omega) (by decide)) (by first | assumption | exact isCell_in (by assumption) | exact isWalker_in (by assumption) | exact isAboard_in (by assumption) | exact isPair_in1 (by assumption) | exact isPair_in2 (by assumption) | exact isWithin7_in (by assumption) | exact vp_in_nI (by omega) (by decide))) (va_cwS 3 hts gX1_bestExchange_X1_exchange rfl rfl rfl (by decide +kernel) ⟨Nat.le_of_ble_eq_true rfl, Nat.le_of_ble_eq_true rfl⟩) (PW_preS hK hP) rfl rfl hl.1 rfl (lv_room (Nat.le_of_ble_eq_true rfl)) dX1_bestExchange_55 ⟨Nat.zero_le _, Nat.zero_le _⟩) hS (fun H locs hP hS => ?_)
              refine lv_aload_n hx hb dX1_bestExchange_58 rfl (lv_at hl 4 rfl) ?_
              refine lv_aload_n hx hb dX1_bestExchange_59 rfl (lv_at hl 5 rfl) ?_
              refine q_callI (va_runV (As := [.ref (ad i1)]) (rest := []) ⟨hx, hb, hml, hown, hts⟩ (mX1_errorWith l D cI cS ad hI (xX1_exchange R2 F i1 (nI k) (nI k2)) F i1 hi1) (cwV 1 hts gX1_bestExchange_X1_errorWith rfl rfl rfl (by decide +kernel) ⟨Nat.le_of_ble_eq_true rfl, Nat.le_of_ble_eq_true rfl⟩) (PW_preV (i := 0) (by decide) CC_0 rfl rfl hK hP) rfl rfl hl.1 rfl (lv_room (Nat.le_of_ble_eq_true rfl)) dX1_bestExchange_60 ⟨Nat.zero_le _, Nat.zero_le _⟩) hS (fun H locs hP hS => ?_)
              refine lv_istore (lv' := [(6, .int ((xX1_errorWith (xX1_exchange R2 F i1 (nI k) (nI k2)) F i1).1)), (5, .int (nI k2)), (4, .int (nI k)), (3, .int x32), (2, .int x22), (0, .ref (ad 0)), (1, .ref (ad i1))]) hx hb dX1_bestExchange_63 hl (by decide) rfl (fun ls hl => ?_)
              refine lv_aload_n hx hb dX1_bestExchange_65 rfl (lv_at hl 6 rfl) ?_
              refine lv_iload hx hb dX1_bestExchange_66 (lv_at hl 2 rfl) ?_
              refine lv_iload hx hb dX1_bestExchange_68 (lv_at hl 1 rfl) ?_
              refine q_callV (va_runS (As := [.ref (ad i1), .int (nI k), .int (nI k2)]) (rest := []) ⟨hx, hb, hml, hown, hts⟩ (mX1_exchange l D cI cS ad hI ((xX1_errorWith (xX1_exchange R2 F i1 (nI k) (nI k2)) F i1).2) F i1 (nI k) (nI k2) hi1 (by first | assumption | exact isCell_in (by assumption) | exact isWalker_in (by assumption) | exact isAboard_in (by assumption) | exact isPair_in1 (by assumption) | exact isPair_in2 (by assumption) | exact isWithin7_in (by assumption) | exact vp_in_nI (by omega) (by decide)) (by first | assumption | exact isCell_in (by assumption) | exact isWalker_in (by assumption) | exact isAboard_in (by assumption) | exact isPair_in1 (by assumption) | exact isPair_in2 (by assumption) | exact isWithin7_in (by assumption) | exact vp_in_nI (by omega) (by decide))) (va_cwS 3 hts gX1_bestExchange_X1_exchange rfl rfl rfl (by decide +kernel) ⟨Nat.le_of_ble_eq_true rfl, Nat.le_of_ble_eq_true rfl⟩) (PW_preS hK hP) rfl rfl hl.1 rfl (lv_room (Nat.le_of_ble_eq_true rfl)) dX1_bestExchange_70 ⟨Nat.zero_le _, Nat.zero_le _⟩) hS (fun H locs hP hS => ?_)
              refine lv_iload hx hb dX1_bestExchange_73 (lv_at hl 0 rfl) ?_
              refine lv_iload_n hx hb dX1_bestExchange_75 rfl (lv_at hl 3 rfl) ?_
              refine lv_icmp_ge (tgt := 91) hx hb dX1_bestExchange_76 (by decide) (fun c_76 => ?_) (fun c_76 => ?_)
              · refine lv_iinc (v := (nI (k2 + 1))) (lv' := [(5, .int (nI (k2 + 1))), (6, .int ((xX1_errorWith (xX1_exchange R2 F i1 (nI k) (nI k2)) F i1).1)), (4, .int (nI k)), (3, .int x32), (2, .int x22), (0, .ref (ad 0)), (1, .ref (ad i1))]) hx hb dX1_bestExchange_91 hl (k := 1) rfl (nI_1 k2) (by decide) rfl (fun ls hl => ?_)
                refine lv_goto (tgt := 25) hx hb dX1_bestExchange_94 (by decide) ?_
                exact ih2 _ _ _ ⟨(k2 + 1), x22, x32, (xX1_exchange ((xX1_errorWith (xX1_exchange R2 F i1 (nI k) (nI k2)) F i1).2) F i1 (nI k) (nI k2)), by omega, by rw [← hsp2, hX1_bestExchange_25_s, if_neg c_38, if_neg c_47, if_pos c_76], hP, hS, lv_sub hl [0, 2, 3, 4, 5, 6] rfl⟩
              · refine lv_iload hx hb dX1_bestExchange_79 (lv_at hl 0 rfl) ?_
                refine lv_istore_n (lv' := [(3, .int ((xX1_errorWith (xX1_exchange R2 F i1 (nI k) (nI k2)) F i1).1)), (6, .int ((xX1_errorWith (xX1_exchange R2 F i1 (nI k) (nI k2)) F i1).1)), (5, .int (nI k2)), (4, .int (nI k)), (2, .int x22), (0, .ref (ad 0)), (1, .ref (ad i1))]) hx hb dX1_bestExchange_81 rfl hl (by decide) rfl (fun ls hl => ?_)
                refine lv_bipush (v := 10) hx hb dX1_bestExchange_82 (by decide) ?_
                refine lv_iload hx hb dX1_bestExchange_84 (lv_at hl 3 rfl) ?_
                refine lv_imul hx hb dX1_bestExchange_86 ?_
                refine q_top (y := (nI (10 * k))) (pk_mul 10 k) ?_
                refine lv_iload hx hb dX1_bestExchange_87 (lv_at hl 2 rfl) ?_
                refine lv_iadd hx hb dX1_bestExchange_89 ?_
                refine q_top (y := (nI ((10 * k) + k2))) (nI_add (10 * k) k2) ?_
                refine lv_istore_n (lv' := [(2, .int (nI ((10 * k) + k2))), (3, .int ((xX1_errorWith (xX1_exchange R2 F i1 (nI k) (nI k2)) F i1).1)), (6, .int ((xX1_errorWith (xX1_exchange R2 F i1 (nI k) (nI k2)) F i1).1)), (5, .int (nI k2)), (4, .int (nI k)), (0, .ref (ad 0)), (1, .ref (ad i1))]) hx hb dX1_bestExchange_90 rfl hl (by decide) rfl (fun ls hl => ?_)
                refine lv_iinc (v := (nI (k2 + 1))) (lv' := [(5, .int (nI (k2 + 1))), (2, .int (nI ((10 * k) + k2))), (3, .int ((xX1_errorWith (xX1_exchange R2 F i1 (nI k) (nI k2)) F i1).1)), (6, .int ((xX1_errorWith (xX1_exchange R2 F i1 (nI k) (nI k2)) F i1).1)), (4, .int (nI k)), (0, .ref (ad 0)), (1, .ref (ad i1))]) hx hb dX1_bestExchange_91 hl (k := 3) rfl (nI_1 k2) (by decide) rfl (fun ls hl => ?_)
                refine lv_goto (tgt := 25) hx hb dX1_bestExchange_94 (by decide) ?_
                exact ih2 _ _ _ ⟨(k2 + 1), (nI ((10 * k) + k2)), ((xX1_errorWith (xX1_exchange R2 F i1 (nI k) (nI k2)) F i1).1), (xX1_exchange ((xX1_errorWith (xX1_exchange R2 F i1 (nI k) (nI k2)) F i1).2) F i1 (nI k) (nI k2)), by omega, by rw [← hsp2, hX1_bestExchange_25_s, if_neg c_38, if_neg c_47, if_neg c_76], hP, hS, lv_sub hl [0, 4, 2, 1, 5, 6] rfl⟩

def hX1_walkersAboard_4 (R F : Nat → Nat → Int32) : Nat → Nat → Int32 → Int32
  | 0, k, x1 => x1
  | n + 1, k, x1 => (if (xX1_isAboard R F (nI k)) = (0 : Int32) then (hX1_walkersAboard_4 R F n (k + 1) x1) else (hX1_walkersAboard_4 R F n (k + 1) (x1 + (1 : Int32))))
theorem hX1_walkersAboard_4_z (R F : Nat → Nat → Int32) (k : Nat) (x1 : Int32) : hX1_walkersAboard_4 R F 0 k x1 = x1 := rfl
theorem hX1_walkersAboard_4_s (R F : Nat → Nat → Int32) (n : Nat) (k : Nat) (x1 : Int32) : hX1_walkersAboard_4 R F (n + 1) k x1 = (if (xX1_isAboard R F (nI k)) = (0 : Int32) then (hX1_walkersAboard_4 R F n (k + 1) x1) else (hX1_walkersAboard_4 R F n (k + 1) (x1 + (1 : Int32)))) := rfl
def xX1_walkersAboard (R F : Nat → Nat → Int32) : Int32 :=
  (hX1_walkersAboard_4 R F 8 0 (0 : Int32))
set_option maxHeartbeats 4000000 in
set_option maxRecDepth 100000 in
theorem mX1_walkersAboard (l : Launch) (D : va_G) (cI cS : ClassId) (ad : Nat → Nat) (hI : Inj ad) (R F : Nat → Nat → Int32)  : Met l yX1_walkersAboard wsX1_walkersAboard ({ frames := 2, cells := 0, slots := 0, locals := 42 }) (PW D cI cS ad R F [.ref (ad 0)]) (QS (xX1_walkersAboard R F)) 0 0 (fun _ => False) := by
  refine Met.ofW (cc := cX1_walkersAboard) (maxL := 3) (ret := (some .int)) (by decide) rfl ?_
  intro p e s m args below meth c s₁ B hml hv
  obtain ⟨rfl, hP, hK⟩ := hv
  have hx := B.exec
  have hb := B.bytes
  have hr := B.returns
  have hts := atoms_spec (ws := wsX1_walkersAboard) B.pre
  have hown : s.vm.findClass RX1 = some m.cls := findClass_of_methodNamed B.named
  have hlocks := B.notSynchronized
  have hS : va_S (AA ad) s.heap s.heap [] := va_S.rf
  have hl := lv_entry ([.ref (ad 0)]) (n := 3) (Nat.le_of_ble_eq_true rfl)
  rw [lg_entry_eq]
  generalize (lg_sl ([.ref (ad 0)]) ++ List.replicate (3 - (lg_sl ([.ref (ad 0)])).length) Slot.unset).toArray = ls at hl ⊢
  have hl : lv_has ls 3 [(0, .ref (ad 0))] := hl
  refine lv_iconst (v := 0) hx hb dX1_walkersAboard_0 (by decide) ?_
  refine lv_istore_n (lv' := [(1, .int (0 : Int32)), (0, .ref (ad 0))]) hx hb dX1_walkersAboard_1 rfl hl (by decide) rfl (fun ls hl => ?_)
  refine lv_iconst (v := 0) hx hb dX1_walkersAboard_2 (by decide) ?_
  refine lv_istore_n (lv' := [(2, .int (0 : Int32)), (1, .int (0 : Int32)), (0, .ref (ad 0))]) hx hb dX1_walkersAboard_3 rfl hl (by decide) rfl (fun ls hl => ?_)
  refine q_loop (fun nn H locs ls => ∃ (k : Nat) (x1 : Int32), k + nn = 8 ∧ hX1_walkersAboard_4 R F nn k x1 = (xX1_walkersAboard R F) ∧ WP D cI cS ad R F H ∧ locs = [] ∧ H = s.heap ∧ lv_has ls 3 [(2, .int (nI k)), (1, .int x1), (0, .ref (ad 0))]) 8 ⟨0, (0 : Int32), by omega, by unfold xX1_walkersAboard; rfl, hP, rfl, rfl, lv_sub hl [0, 1, 2] rfl⟩ ?_ ?_
  · intro H locs ls hz
    obtain ⟨k, x1, hkn, hsp, hP, rfl, rfl, hl⟩ := hz
    refine lv_iload_n hx hb dX1_walkersAboard_4 rfl (lv_at hl 0 rfl) ?_
    refine lv_bipush (v := 8) hx hb dX1_walkersAboard_5 (by decide) ?_
    refine lv_icmp_ge (tgt := 27) hx hb dX1_walkersAboard_7 (by decide) (fun c_7 => ?_) (fun c_7 => ?_)
    · refine lv_iload_n hx hb dX1_walkersAboard_27 rfl (lv_at hl 1 rfl) ?_
      have hX : (xX1_walkersAboard R F) = x1 := by rw [← hsp, hX1_walkersAboard_4_z]
      exact W.iret (v := x1) hx hb hr (fun t ht hW => ⟨by rw [hX], ht⟩) (fun _ h => by cases h) dX1_walkersAboard_28
    · exact absurd (nI_le (a := 8) (b := k) (by omega) (by omega)) c_7
  · intro n ih H locs ls hz
    obtain ⟨k, x1, hkn, hsp, hP, rfl, rfl, hl⟩ := hz
    refine lv_iload_n hx hb dX1_walkersAboard_4 rfl (lv_at hl 0 rfl) ?_
    refine lv_bipush (v := 8) hx hb dX1_walkersAboard_5 (by decide) ?_
    refine lv_icmp_ge (tgt := 27) hx hb dX1_walkersAboard_7 (by decide) (fun c_7 => ?_) (fun c_7 => ?_)
    · exact absurd c_7 (nI_ge (a := k) (b := 8) (by omega) (by omega))
    · refine lv_aload_n hx hb dX1_walkersAboard_10 rfl (lv_at hl 2 rfl) ?_
      refine lv_iload_n hx hb dX1_walkersAboard_11 rfl (lv_at hl 0 rfl) ?_
      refine q_callS (va_runV (As := [.int (nI k)]) (rest := []) ⟨hx, hb, hml, hown, hts⟩ (mX1_isAboard l D cI cS ad hI R F (nI k)) (cwV 1 hts gX1_walkersAboard_X1_isAboard rfl rfl rfl (by decide +kernel) ⟨Nat.le_of_ble_eq_true rfl, Nat.le_of_ble_eq_true rfl⟩) (PW_preV (i := 0) (by decide) CC_0 rfl rfl hK hP) rfl rfl hl.1 rfl (lv_room (Nat.le_of_ble_eq_true rfl)) dX1_walkersAboard_12 ⟨Nat.zero_le _, Nat.zero_le _⟩) ?_
      refine lv_if_eq (tgt := 21) hx hb dX1_walkersAboard_15 (by decide) (fun c_15 => ?_) (fun c_15 => ?_)
      · refine lv_iinc (v := (nI (k + 1))) (lv' := [(2, .int (nI (k + 1))), (1, .int x1), (0, .ref (ad 0))]) hx hb dX1_walkersAboard_21 hl (k := 0) rfl (nI_1 k) (by decide) rfl (fun ls hl => ?_)
        refine lv_goto (tgt := 4) hx hb dX1_walkersAboard_24 (by decide) ?_
        exact ih _ _ _ ⟨(k + 1), x1, by omega, by rw [← hsp, hX1_walkersAboard_4_s, if_pos c_15], hP, rfl, rfl, lv_sub hl [0, 1, 2] rfl⟩
      · refine lv_iinc (v := (x1 + (1 : Int32))) (lv' := [(1, .int (x1 + (1 : Int32))), (2, .int (nI k)), (0, .ref (ad 0))]) hx hb dX1_walkersAboard_18 hl (k := 1) rfl rfl (by decide) rfl (fun ls hl => ?_)
        refine lv_iinc (v := (nI (k + 1))) (lv' := [(2, .int (nI (k + 1))), (1, .int (x1 + (1 : Int32))), (0, .ref (ad 0))]) hx hb dX1_walkersAboard_21 hl (k := 1) rfl (nI_1 k) (by decide) rfl (fun ls hl => ?_)
        refine lv_goto (tgt := 4) hx hb dX1_walkersAboard_24 (by decide) ?_
        exact ih _ _ _ ⟨(k + 1), (x1 + (1 : Int32)), by omega, by rw [← hsp, hX1_walkersAboard_4_s, if_neg c_15], hP, rfl, rfl, lv_sub hl [0, 1, 2] rfl⟩

def hX1_walkersMisplaced_4 (R F : Nat → Nat → Int32) : Nat → Nat → Int32 → Int32
  | 0, k, x1 => x1
  | n + 1, k, x1 => (if (R 7 k) = (R 9 k) then (hX1_walkersMisplaced_4 R F n (k + 1) x1) else (hX1_walkersMisplaced_4 R F n (k + 1) (x1 + (1 : Int32))))
theorem hX1_walkersMisplaced_4_z (R F : Nat → Nat → Int32) (k : Nat) (x1 : Int32) : hX1_walkersMisplaced_4 R F 0 k x1 = x1 := rfl
theorem hX1_walkersMisplaced_4_s (R F : Nat → Nat → Int32) (n : Nat) (k : Nat) (x1 : Int32) : hX1_walkersMisplaced_4 R F (n + 1) k x1 = (if (R 7 k) = (R 9 k) then (hX1_walkersMisplaced_4 R F n (k + 1) x1) else (hX1_walkersMisplaced_4 R F n (k + 1) (x1 + (1 : Int32)))) := rfl
def xX1_walkersMisplaced (R F : Nat → Nat → Int32) : Int32 :=
  (hX1_walkersMisplaced_4 R F 8 0 (0 : Int32))
set_option maxHeartbeats 4000000 in
set_option maxRecDepth 100000 in
theorem mX1_walkersMisplaced (l : Launch) (D : va_G) (cI cS : ClassId) (ad : Nat → Nat) (hI : Inj ad) (R F : Nat → Nat → Int32)  : Met l yX1_walkersMisplaced wsX1_walkersMisplaced ({ frames := 0, cells := 0, slots := 0, locals := 0 }) (PW D cI cS ad R F [.ref (ad 0)]) (QS (xX1_walkersMisplaced R F)) 0 0 (fun _ => False) := by
  refine Met.ofW (cc := cX1_walkersMisplaced) (maxL := 3) (ret := (some .int)) (by decide) rfl ?_
  intro p e s m args below meth c s₁ B hml hv
  obtain ⟨rfl, hP, hK⟩ := hv
  have hx := B.exec
  have hb := B.bytes
  have hr := B.returns
  have hts := atoms_spec (ws := wsX1_walkersMisplaced) B.pre
  have hown : s.vm.findClass RX1 = some m.cls := findClass_of_methodNamed B.named
  have hlocks := B.notSynchronized
  have hS : va_S (AA ad) s.heap s.heap [] := va_S.rf
  have hl := lv_entry ([.ref (ad 0)]) (n := 3) (Nat.le_of_ble_eq_true rfl)
  rw [lg_entry_eq]
  generalize (lg_sl ([.ref (ad 0)]) ++ List.replicate (3 - (lg_sl ([.ref (ad 0)])).length) Slot.unset).toArray = ls at hl ⊢
  have hl : lv_has ls 3 [(0, .ref (ad 0))] := hl
  have lk10 := hts (.fieldLink RX1 10 "FerryFloor" "now" "LFerryFloor$State;") (by decide +kernel)
  have lk71 := hts (.fieldLink RX1 71 "FerryFloor$State" "places" "[I") (by decide +kernel)
  have lk89 := hts (.fieldLink RX1 89 "FerryFloor$State" "bookPlaces" "[I") (by decide +kernel)
  have hin1 : ∀ w ∈ u_ws RX1 TX1 7, w ∈ wsX1_walkersMisplaced := by decide +kernel
  have hin0 : ∀ w ∈ u_ws RX0 TX0 15, w ∈ wsX1_walkersMisplaced := by decide +kernel
  refine lv_iconst (v := 0) hx hb dX1_walkersMisplaced_0 (by decide) ?_
  refine lv_istore_n (lv' := [(1, .int (0 : Int32)), (0, .ref (ad 0))]) hx hb dX1_walkersMisplaced_1 rfl hl (by decide) rfl (fun ls hl => ?_)
  refine lv_iconst (v := 0) hx hb dX1_walkersMisplaced_2 (by decide) ?_
  refine lv_istore_n (lv' := [(2, .int (0 : Int32)), (1, .int (0 : Int32)), (0, .ref (ad 0))]) hx hb dX1_walkersMisplaced_3 rfl hl (by decide) rfl (fun ls hl => ?_)
  refine q_loop (fun nn H locs ls => ∃ (k : Nat) (x1 : Int32), k + nn = 8 ∧ hX1_walkersMisplaced_4 R F nn k x1 = (xX1_walkersMisplaced R F) ∧ WP D cI cS ad R F H ∧ locs = [] ∧ H = s.heap ∧ lv_has ls 3 [(2, .int (nI k)), (1, .int x1), (0, .ref (ad 0))]) 8 ⟨0, (0 : Int32), by omega, by unfold xX1_walkersMisplaced; rfl, hP, rfl, rfl, lv_sub hl [0, 1, 2] rfl⟩ ?_ ?_
  · intro H locs ls hz
    obtain ⟨k, x1, hkn, hsp, hP, rfl, rfl, hl⟩ := hz
    refine lv_iload_n hx hb dX1_walkersMisplaced_4 rfl (lv_at hl 0 rfl) ?_
    refine lv_bipush (v := 8) hx hb dX1_walkersMisplaced_5 (by decide) ?_
    refine lv_icmp_ge (tgt := 40) hx hb dX1_walkersMisplaced_7 (by decide) (fun c_7 => ?_) (fun c_7 => ?_)
    · refine lv_iload_n hx hb dX1_walkersMisplaced_40 rfl (lv_at hl 1 rfl) ?_
      have hX : (xX1_walkersMisplaced R F) = x1 := by rw [← hsp, hX1_walkersMisplaced_4_z]
      exact W.iret (v := x1) hx hb hr (fun t ht hW => ⟨by rw [hX], ht⟩) (fun _ h => by cases h) dX1_walkersMisplaced_41
    · exact absurd (nI_le (a := 8) (b := k) (by omega) (by omega)) c_7
  · intro n ih H locs ls hz
    obtain ⟨k, x1, hkn, hsp, hP, rfl, rfl, hl⟩ := hz
    refine lv_iload_n hx hb dX1_walkersMisplaced_4 rfl (lv_at hl 0 rfl) ?_
    refine lv_bipush (v := 8) hx hb dX1_walkersMisplaced_5 (by decide) ?_
    refine lv_icmp_ge (tgt := 40) hx hb dX1_walkersMisplaced_7 (by decide) (fun c_7 => ?_) (fun c_7 => ?_)
    · exact absurd c_7 (nI_ge (a := k) (b := 8) (by omega) (by omega))
    · refine lv_aload_n hx hb dX1_walkersMisplaced_10 rfl (lv_at hl 2 rfl) ?_
      refine q_getF (v := .ref (ad 1)) hx hb hts hin1 hown hK hP 0 (by decide) lk10 (fun _ h => h) rfl dX1_walkersMisplaced_11 ?_
      refine q_getS (v := .ref (ad 7)) hx hb hts hin0 hown hK hP 1 st_1 8 (by decide) lk71 (fun _ h => h) rfl dX1_walkersMisplaced_14 ?_
      refine lv_iload_n hx hb dX1_walkersMisplaced_17 rfl (lv_at hl 0 rfl) ?_
      refine q_ildN hx hb hK hP 7 8 (ar_7) k dX1_walkersMisplaced_18 rfl (by omega) (by decide) ?_
      refine lv_aload_n hx hb dX1_walkersMisplaced_19 rfl (lv_at hl 2 rfl) ?_
      refine q_getF (v := .ref (ad 1)) hx hb hts hin1 hown hK hP 0 (by decide) lk10 (fun _ h => h) rfl dX1_walkersMisplaced_20 ?_
      refine q_getS (v := .ref (ad 9)) hx hb hts hin0 hown hK hP 1 st_1 10 (by decide) lk89 (fun _ h => h) rfl dX1_walkersMisplaced_23 ?_
      refine lv_iload_n hx hb dX1_walkersMisplaced_26 rfl (lv_at hl 0 rfl) ?_
      refine q_ildN hx hb hK hP 9 8 (ar_9) k dX1_walkersMisplaced_27 rfl (by omega) (by decide) ?_
      refine lv_icmp_eq (tgt := 34) hx hb dX1_walkersMisplaced_28 (by decide) (fun c_28 => ?_) (fun c_28 => ?_)
      · refine lv_iinc (v := (nI (k + 1))) (lv' := [(2, .int (nI (k + 1))), (1, .int x1), (0, .ref (ad 0))]) hx hb dX1_walkersMisplaced_34 hl (k := 0) rfl (nI_1 k) (by decide) rfl (fun ls hl => ?_)
        refine lv_goto (tgt := 4) hx hb dX1_walkersMisplaced_37 (by decide) ?_
        exact ih _ _ _ ⟨(k + 1), x1, by omega, by rw [← hsp, hX1_walkersMisplaced_4_s, if_pos c_28], hP, rfl, rfl, lv_sub hl [0, 1, 2] rfl⟩
      · refine lv_iinc (v := (x1 + (1 : Int32))) (lv' := [(1, .int (x1 + (1 : Int32))), (2, .int (nI k)), (0, .ref (ad 0))]) hx hb dX1_walkersMisplaced_31 hl (k := 1) rfl rfl (by decide) rfl (fun ls hl => ?_)
        refine lv_iinc (v := (nI (k + 1))) (lv' := [(2, .int (nI (k + 1))), (1, .int (x1 + (1 : Int32))), (0, .ref (ad 0))]) hx hb dX1_walkersMisplaced_34 hl (k := 1) rfl (nI_1 k) (by decide) rfl (fun ls hl => ?_)
        refine lv_goto (tgt := 4) hx hb dX1_walkersMisplaced_37 (by decide) ?_
        exact ih _ _ _ ⟨(k + 1), (x1 + (1 : Int32)), by omega, by rw [← hsp, hX1_walkersMisplaced_4_s, if_neg c_28], hP, rfl, rfl, lv_sub hl [0, 1, 2] rfl⟩

def hX1_estimateFor_48 (R F : Nat → Nat → Int32) (p1 : Int32) : Nat → Nat → Int32 → Int32 × (Nat → Nat → Int32)
  | 0, k, x3 => ((if (0 : Int32) < x3 then x3 else (0 : Int32)), (xX1_expectAll (xX1_weighAll R F) F 9))
  | n + 1, k, x3 => (if (xX1_isCell (xX1_nearCell ((xX1_expectAll (xX1_weighAll R F) F 9) 9 (p1).toNatClampNeg) (nI k))) = (0 : Int32) then (hX1_estimateFor_48 R F p1 n (k + 1) x3) else (hX1_estimateFor_48 R F p1 n (k + 1) (x3 + (((xX1_expectAll (xX1_weighAll R F) F 9) 15 ((xX1_nearCell ((xX1_expectAll (xX1_weighAll R F) F 9) 9 (p1).toNatClampNeg) (nI k))).toNatClampNeg) - ((xX1_expectAll (xX1_weighAll R F) F 9) 16 ((xX1_nearCell ((xX1_expectAll (xX1_weighAll R F) F 9) 9 (p1).toNatClampNeg) (nI k))).toNatClampNeg)))))
theorem hX1_estimateFor_48_z (R F : Nat → Nat → Int32) (p1 : Int32) (k : Nat) (x3 : Int32) : hX1_estimateFor_48 R F p1 0 k x3 = ((if (0 : Int32) < x3 then x3 else (0 : Int32)), (xX1_expectAll (xX1_weighAll R F) F 9)) := rfl
theorem hX1_estimateFor_48_s (R F : Nat → Nat → Int32) (p1 : Int32) (n : Nat) (k : Nat) (x3 : Int32) : hX1_estimateFor_48 R F p1 (n + 1) k x3 = (if (xX1_isCell (xX1_nearCell ((xX1_expectAll (xX1_weighAll R F) F 9) 9 (p1).toNatClampNeg) (nI k))) = (0 : Int32) then (hX1_estimateFor_48 R F p1 n (k + 1) x3) else (hX1_estimateFor_48 R F p1 n (k + 1) (x3 + (((xX1_expectAll (xX1_weighAll R F) F 9) 15 ((xX1_nearCell ((xX1_expectAll (xX1_weighAll R F) F 9) 9 (p1).toNatClampNeg) (nI k))).toNatClampNeg) - ((xX1_expectAll (xX1_weighAll R F) F 9) 16 ((xX1_nearCell ((xX1_expectAll (xX1_weighAll R F) F 9) 9 (p1).toNatClampNeg) (nI k))).toNatClampNeg))))) := rfl
def xX1_estimateFor (R F : Nat → Nat → Int32) (p1 : Int32) : Int32 × (Nat → Nat → Int32) :=
  (if (xX1_isAboard R F p1) = (0 : Int32) then ((0 : Int32), R) else (hX1_estimateFor_48 R F p1 5 0 ((xX1_expectAll (xX1_weighAll R F) F 9) 8 (p1).toNatClampNeg)))
set_option maxHeartbeats 4000000 in
set_option maxRecDepth 100000 in
theorem mX1_estimateFor (l : Launch) (D : va_G) (cI cS : ClassId) (ad : Nat → Nat) (hI : Inj ad) (R F : Nat → Nat → Int32) (p1 : Int32) : Met l yX1_estimateFor wsX1_estimateFor ({ frames := 4, cells := 0, slots := 0, locals := 92 }) (PW D cI cS ad R F [.ref (ad 0), .int p1]) (QI D cI cS ad ((xX1_estimateFor R F p1).1) ((xX1_estimateFor R F p1).2) F) 0 0 (AA ad) := by
  refine Met.ofW (cc := cX1_estimateFor) (maxL := 6) (ret := (some .int)) (by decide) rfl ?_
  intro p e s m args below meth c s₁ B hml hv
  obtain ⟨rfl, hP, hK⟩ := hv
  have hx := B.exec
  have hb := B.bytes
  have hr := B.returns
  have hts := atoms_spec (ws := wsX1_estimateFor) B.pre
  have hown : s.vm.findClass RX1 = some m.cls := findClass_of_methodNamed B.named
  have hlocks := B.notSynchronized
  have hS : va_S (AA ad) s.heap s.heap [] := va_S.rf
  have hl := lv_entry ([.ref (ad 0), .int p1]) (n := 6) (Nat.le_of_ble_eq_true rfl)
  rw [lg_entry_eq]
  generalize (lg_sl ([.ref (ad 0), .int p1]) ++ List.replicate (6 - (lg_sl ([.ref (ad 0), .int p1])).length) Slot.unset).toArray = ls at hl ⊢
  have hl : lv_has ls 6 [(0, .ref (ad 0)), (1, .int p1)] := hl
  have lk10 := hts (.fieldLink RX1 10 "FerryFloor" "now" "LFerryFloor$State;") (by decide +kernel)
  have lk89 := hts (.fieldLink RX1 89 "FerryFloor$State" "bookPlaces" "[I") (by decide +kernel)
  have lk86 := hts (.fieldLink RX1 86 "FerryFloor$State" "bookWeights" "[I") (by decide +kernel)
  have lk27 := hts (.fieldLink RX1 27 "FerryFloor" "readings" "[I") (by decide +kernel)
  have lk31 := hts (.fieldLink RX1 31 "FerryFloor" "expected" "[I") (by decide +kernel)
  have hin1 : ∀ w ∈ u_ws RX1 TX1 7, w ∈ wsX1_estimateFor := by decide +kernel
  have hin0 : ∀ w ∈ u_ws RX0 TX0 15, w ∈ wsX1_estimateFor := by decide +kernel
  refine lv_aload_n hx hb dX1_estimateFor_0 rfl (lv_at hl 0 rfl) ?_
  refine lv_iload_n hx hb dX1_estimateFor_1 rfl (lv_at hl 1 rfl) ?_
  refine q_callS (va_runV (As := [.int p1]) (rest := []) ⟨hx, hb, hml, hown, hts⟩ (mX1_isAboard l D cI cS ad hI R F p1) (cwV 1 hts gX1_estimateFor_X1_isAboard rfl rfl rfl (by decide +kernel) ⟨Nat.le_of_ble_eq_true rfl, Nat.le_of_ble_eq_true rfl⟩) (PW_preV (i := 0) (by decide) CC_0 rfl rfl hK hP) rfl rfl hl.1 rfl (lv_room (Nat.le_of_ble_eq_true rfl)) dX1_estimateFor_2 ⟨Nat.zero_le _, Nat.zero_le _⟩) ?_
  refine lv_if_ne (tgt := 10) hx hb dX1_estimateFor_5 (by decide) (fun c_5 => ?_) (fun c_5 => ?_)
  · refine lv_aload_n hx hb dX1_estimateFor_10 rfl (lv_at hl 0 rfl) ?_
    refine q_callV (va_runV (As := []) (rest := []) ⟨hx, hb, hml, hown, hts⟩ (mX1_weighAll l D cI cS ad hI R F) (cwV 0 hts gX1_estimateFor_X1_weighAll rfl rfl rfl (by decide +kernel) ⟨Nat.le_of_ble_eq_true rfl, Nat.le_of_ble_eq_true rfl⟩) (PW_preV (i := 0) (by decide) CC_0 rfl rfl hK hP) rfl rfl hl.1 rfl (lv_room (Nat.le_of_ble_eq_true rfl)) dX1_estimateFor_11 ⟨Nat.zero_le _, Nat.zero_le _⟩) hS (fun H locs hP hS => ?_)
    refine lv_aload_n hx hb dX1_estimateFor_14 rfl (lv_at hl 0 rfl) ?_
    refine lv_aload_n hx hb dX1_estimateFor_15 rfl (lv_at hl 0 rfl) ?_
    refine q_getF (v := .ref (ad 1)) hx hb hts hin1 hown hK hP 0 (by decide) lk10 (fun _ h => h) rfl dX1_estimateFor_16 ?_
    refine q_getS (v := .ref (ad 9)) hx hb hts hin0 hown hK hP 1 st_1 10 (by decide) lk89 (fun _ h => h) rfl dX1_estimateFor_19 ?_
    refine q_callV (va_runV (As := [.ref (ad 9)]) (rest := []) ⟨hx, hb, hml, hown, hts⟩ (mX1_expectAll l D cI cS ad hI (xX1_weighAll R F) F 9 (ar_9)) (cwV 1 hts gX1_estimateFor_X1_expectAll rfl rfl rfl (by decide +kernel) ⟨Nat.le_of_ble_eq_true rfl, Nat.le_of_ble_eq_true rfl⟩) (PW_preV (i := 0) (by decide) CC_0 rfl rfl hK hP) rfl rfl hl.1 rfl (lv_room (Nat.le_of_ble_eq_true rfl)) dX1_estimateFor_22 ⟨Nat.zero_le _, Nat.zero_le _⟩) hS (fun H locs hP hS => ?_)
    refine lv_aload_n hx hb dX1_estimateFor_25 rfl (lv_at hl 0 rfl) ?_
    refine q_getF (v := .ref (ad 1)) hx hb hts hin1 hown hK hP 0 (by decide) lk10 (fun _ h => h) rfl dX1_estimateFor_26 ?_
    refine q_getS (v := .ref (ad 9)) hx hb hts hin0 hown hK hP 1 st_1 10 (by decide) lk89 (fun _ h => h) rfl dX1_estimateFor_29 ?_
    refine lv_iload_n hx hb dX1_estimateFor_32 rfl (lv_at hl 1 rfl) ?_
    refine q_ild hx hb hK hP 9 8 (ar_9) dX1_estimateFor_33 (by first | assumption | exact isCell_in (by assumption) | exact isWalker_in (by assumption) | exact isAboard_in (by assumption) | exact isPair_in1 (by assumption) | exact isPair_in2 (by assumption) | exact isWithin7_in (by assumption) | exact vp_in_nI (by omega) (by decide)) ?_
    refine lv_istore_n (lv' := [(2, .int ((xX1_expectAll (xX1_weighAll R F) F 9) 9 (p1).toNatClampNeg)), (0, .ref (ad 0)), (1, .int p1)]) hx hb dX1_estimateFor_34 rfl hl (by decide) rfl (fun ls hl => ?_)
    refine lv_aload_n hx hb dX1_estimateFor_35 rfl (lv_at hl 1 rfl) ?_
    refine q_getF (v := .ref (ad 1)) hx hb hts hin1 hown hK hP 0 (by decide) lk10 (fun _ h => h) rfl dX1_estimateFor_36 ?_
    refine q_getS (v := .ref (ad 8)) hx hb hts hin0 hown hK hP 1 st_1 9 (by decide) lk86 (fun _ h => h) rfl dX1_estimateFor_39 ?_
    refine lv_iload_n hx hb dX1_estimateFor_42 rfl (lv_at hl 2 rfl) ?_
    refine q_ild hx hb hK hP 8 8 (ar_8) dX1_estimateFor_43 (by first | assumption | exact isCell_in (by assumption) | exact isWalker_in (by assumption) | exact isAboard_in (by assumption) | exact isPair_in1 (by assumption) | exact isPair_in2 (by assumption) | exact isWithin7_in (by assumption) | exact vp_in_nI (by omega) (by decide)) ?_
    refine lv_istore_n (lv' := [(3, .int ((xX1_expectAll (xX1_weighAll R F) F 9) 8 (p1).toNatClampNeg)), (2, .int ((xX1_expectAll (xX1_weighAll R F) F 9) 9 (p1).toNatClampNeg)), (0, .ref (ad 0)), (1, .int p1)]) hx hb dX1_estimateFor_44 rfl hl (by decide) rfl (fun ls hl => ?_)
    refine lv_iconst (v := 0) hx hb dX1_estimateFor_45 (by decide) ?_
    refine lv_istore (lv' := [(4, .int (0 : Int32)), (3, .int ((xX1_expectAll (xX1_weighAll R F) F 9) 8 (p1).toNatClampNeg)), (2, .int ((xX1_expectAll (xX1_weighAll R F) F 9) 9 (p1).toNatClampNeg)), (0, .ref (ad 0)), (1, .int p1)]) hx hb dX1_estimateFor_46 hl (by decide) rfl (fun ls hl => ?_)
    refine q_loop (fun nn H locs ls => ∃ (k : Nat) (x3 : Int32), k + nn = 5 ∧ hX1_estimateFor_48 R F p1 nn k x3 = (xX1_estimateFor R F p1) ∧ WP D cI cS ad (xX1_expectAll (xX1_weighAll R F) F 9) F H ∧ va_S (AA ad) s.heap H locs ∧ lv_has ls 6 [(4, .int (nI k)), (3, .int x3), (2, .int ((xX1_expectAll (xX1_weighAll R F) F 9) 9 (p1).toNatClampNeg)), (0, .ref (ad 0)), (1, .int p1)]) 5 ⟨0, ((xX1_expectAll (xX1_weighAll R F) F 9) 8 (p1).toNatClampNeg), by omega, by unfold xX1_estimateFor; rw [if_neg c_5], hP, hS, lv_sub hl [0, 1, 2, 3, 4] rfl⟩ ?_ ?_
    · intro H locs ls hz
      obtain ⟨k, x3, hkn, hsp, hP, hS, hl⟩ := hz
      refine lv_iload hx hb dX1_estimateFor_48 (lv_at hl 0 rfl) ?_
      refine lv_iconst (v := 5) hx hb dX1_estimateFor_50 (by decide) ?_
      refine lv_icmp_ge (tgt := 94) hx hb dX1_estimateFor_51 (by decide) (fun c_51 => ?_) (fun c_51 => ?_)
      · refine lv_iconst (v := 0) hx hb dX1_estimateFor_94 (by decide) ?_
        refine lv_iload_n hx hb dX1_estimateFor_95 rfl (lv_at hl 1 rfl) ?_
        refine va_mmax hx hb (hml.trans hl.1.symm) hown (hts (.methodLink RX1 129 Lib.Math.max.name) (by decide +kernel)) (hts (.static Lib.Math.max.name) (by decide +kernel)) (hts (.initialized "java/lang/Math") (by decide +kernel)) (hts (.code Lib.Math.max.name Lib.Math.max.code 2 (some .int)) (by decide +kernel)) (Nat.le_of_ble_eq_true rfl) (Nat.le_of_ble_eq_true rfl) (Nat.zero_le _) (Nat.zero_le _) dX1_estimateFor_96 ?_
        have hX : (xX1_estimateFor R F p1) = ((if (0 : Int32) < x3 then x3 else (0 : Int32)), (xX1_expectAll (xX1_weighAll R F) F 9)) := by rw [← hsp, hX1_estimateFor_48_z]
        exact W.iret (v := (if (0 : Int32) < x3 then x3 else (0 : Int32))) hx hb hr (fun t ht hW => ⟨by rw [hX], by rw [hX, ht]; with_reducible exact hP, hS.F ht⟩) hS.2.2 dX1_estimateFor_99
      · exact absurd (nI_le (a := 5) (b := k) (by omega) (by omega)) c_51
    · intro n ih H locs ls hz
      obtain ⟨k, x3, hkn, hsp, hP, hS, hl⟩ := hz
      refine lv_iload hx hb dX1_estimateFor_48 (lv_at hl 0 rfl) ?_
      refine lv_iconst (v := 5) hx hb dX1_estimateFor_50 (by decide) ?_
      refine lv_icmp_ge (tgt := 94) hx hb dX1_estimateFor_51 (by decide) (fun c_51 => ?_) (fun c_51 => ?_)
      · exact absurd c_51 (nI_ge (a := k) (b := 5) (by omega) (by omega))
      · refine lv_iload_n hx hb dX1_estimateFor_54 rfl (lv_at hl 2 rfl) ?_
        refine lv_iload hx hb dX1_estimateFor_55 (lv_at hl 0 rfl) ?_
        refine q_callS (va_runS (As := [.int ((xX1_expectAll (xX1_weighAll R F) F 9) 9 (p1).toNatClampNeg), .int (nI k)]) (rest := []) ⟨hx, hb, hml, hown, hts⟩ (mX1_nearCell l D cI cS ad hI (xX1_expectAll (xX1_weighAll R F) F 9) F ((xX1_expectAll (xX1_weighAll R F) F 9) 9 (p1).toNatClampNeg) (nI k)) (va_cwS 2 hts gX1_estimateFor_X1_nearCell rfl rfl rfl (by decide +kernel) ⟨Nat.le_of_ble_eq_true rfl, Nat.le_of_ble_eq_true rfl⟩) (PW_preS hK hP) rfl rfl hl.1 rfl (lv_room (Nat.le_of_ble_eq_true rfl)) dX1_estimateFor_57 ⟨Nat.zero_le _, Nat.zero_le _⟩) ?_
        refine lv_istore (lv' := [(5, .int (xX1_nearCell ((xX1_expectAll (xX1_weighAll R F) F 9) 9 (p1).toNatClampNeg) (nI k))), (4, .int (nI k)), (3, .int x3), (2, .int ((xX1_expectAll (xX1_weighAll R F) F 9) 9 (p1).toNatClampNeg)), (0, .ref (ad 0)), (1, .int p1)]) hx hb dX1_estimateFor_60 hl (by decide) rfl (fun ls hl => ?_)
        refine lv_iload hx hb dX1_estimateFor_62 (lv_at hl 0 rfl) ?_
        refine q_callS (va_runS (As := [.int (xX1_nearCell ((xX1_expectAll (xX1_weighAll R F) F 9) 9 (p1).toNatClampNeg) (nI k))]) (rest := []) ⟨hx, hb, hml, hown, hts⟩ (mX1_isCell l D cI cS ad hI (xX1_expectAll (xX1_weighAll R F) F 9) F (xX1_nearCell ((xX1_expectAll (xX1_weighAll R F) F 9) 9 (p1).toNatClampNeg) (nI k))) (va_cwS 1 hts gX1_estimateFor_X1_isCell rfl rfl rfl (by decide +kernel) ⟨Nat.le_of_ble_eq_true rfl, Nat.le_of_ble_eq_true rfl⟩) (PW_preS hK hP) rfl rfl hl.1 rfl (lv_room (Nat.le_of_ble_eq_true rfl)) dX1_estimateFor_64 ⟨Nat.zero_le _, Nat.zero_le _⟩) ?_
        refine lv_if_eq (tgt := 88) hx hb dX1_estimateFor_67 (by decide) (fun c_67 => ?_) (fun c_67 => ?_)
        · refine lv_iinc (v := (nI (k + 1))) (lv' := [(4, .int (nI (k + 1))), (5, .int (xX1_nearCell ((xX1_expectAll (xX1_weighAll R F) F 9) 9 (p1).toNatClampNeg) (nI k))), (3, .int x3), (2, .int ((xX1_expectAll (xX1_weighAll R F) F 9) 9 (p1).toNatClampNeg)), (0, .ref (ad 0)), (1, .int p1)]) hx hb dX1_estimateFor_88 hl (k := 1) rfl (nI_1 k) (by decide) rfl (fun ls hl => ?_)
          refine lv_goto (tgt := 48) hx hb dX1_estimateFor_91 (by decide) ?_
          exact ih _ _ _ ⟨(k + 1), x3, by omega, by rw [← hsp, hX1_estimateFor_48_s, if_pos c_67], hP, hS, lv_sub hl [0, 2, 3, 4, 5] rfl⟩
        · refine lv_iload_n hx hb dX1_estimateFor_70 rfl (lv_at hl 2 rfl) ?_
          refine lv_aload_n hx hb dX1_estimateFor_71 rfl (lv_at hl 4 rfl) ?_
          refine q_getF (v := .ref (ad 15)) hx hb hts hin1 hown hK hP 4 (by decide) lk27 (fun _ h => h) rfl dX1_estimateFor_72 ?_
          refine lv_iload hx hb dX1_estimateFor_75 (lv_at hl 0 rfl) ?_
          refine q_ild hx hb hK hP 15 24 (ar_15) dX1_estimateFor_77 (by first | assumption | exact isCell_in (by assumption) | exact isWalker_in (by assumption) | exact isAboard_in (by assumption) | exact isPair_in1 (by assumption) | exact isPair_in2 (by assumption) | exact isWithin7_in (by assumption) | exact vp_in_nI (by omega) (by decide)) ?_
          refine lv_aload_n hx hb dX1_estimateFor_78 rfl (lv_at hl 4 rfl) ?_
          refine q_getF (v := .ref (ad 16)) hx hb hts hin1 hown hK hP 5 (by decide) lk31 (fun _ h => h) rfl dX1_estimateFor_79 ?_
          refine lv_iload hx hb dX1_estimateFor_82 (lv_at hl 0 rfl) ?_
          refine q_ild hx hb hK hP 16 24 (ar_16) dX1_estimateFor_84 (by first | assumption | exact isCell_in (by assumption) | exact isWalker_in (by assumption) | exact isAboard_in (by assumption) | exact isPair_in1 (by assumption) | exact isPair_in2 (by assumption) | exact isWithin7_in (by assumption) | exact vp_in_nI (by omega) (by decide)) ?_
          refine lv_isub hx hb dX1_estimateFor_85 ?_
          refine lv_iadd hx hb dX1_estimateFor_86 ?_
          refine lv_istore_n (lv' := [(3, .int (x3 + (((xX1_expectAll (xX1_weighAll R F) F 9) 15 ((xX1_nearCell ((xX1_expectAll (xX1_weighAll R F) F 9) 9 (p1).toNatClampNeg) (nI k))).toNatClampNeg) - ((xX1_expectAll (xX1_weighAll R F) F 9) 16 ((xX1_nearCell ((xX1_expectAll (xX1_weighAll R F) F 9) 9 (p1).toNatClampNeg) (nI k))).toNatClampNeg)))), (5, .int (xX1_nearCell ((xX1_expectAll (xX1_weighAll R F) F 9) 9 (p1).toNatClampNeg) (nI k))), (4, .int (nI k)), (2, .int ((xX1_expectAll (xX1_weighAll R F) F 9) 9 (p1).toNatClampNeg)), (0, .ref (ad 0)), (1, .int p1)]) hx hb dX1_estimateFor_87 rfl hl (by decide) rfl (fun ls hl => ?_)
          refine lv_iinc (v := (nI (k + 1))) (lv' := [(4, .int (nI (k + 1))), (3, .int (x3 + (((xX1_expectAll (xX1_weighAll R F) F 9) 15 ((xX1_nearCell ((xX1_expectAll (xX1_weighAll R F) F 9) 9 (p1).toNatClampNeg) (nI k))).toNatClampNeg) - ((xX1_expectAll (xX1_weighAll R F) F 9) 16 ((xX1_nearCell ((xX1_expectAll (xX1_weighAll R F) F 9) 9 (p1).toNatClampNeg) (nI k))).toNatClampNeg)))), (5, .int (xX1_nearCell ((xX1_expectAll (xX1_weighAll R F) F 9) 9 (p1).toNatClampNeg) (nI k))), (2, .int ((xX1_expectAll (xX1_weighAll R F) F 9) 9 (p1).toNatClampNeg)), (0, .ref (ad 0)), (1, .int p1)]) hx hb dX1_estimateFor_88 hl (k := 2) rfl (nI_1 k) (by decide) rfl (fun ls hl => ?_)
          refine lv_goto (tgt := 48) hx hb dX1_estimateFor_91 (by decide) ?_
          exact ih _ _ _ ⟨(k + 1), (x3 + (((xX1_expectAll (xX1_weighAll R F) F 9) 15 ((xX1_nearCell ((xX1_expectAll (xX1_weighAll R F) F 9) 9 (p1).toNatClampNeg) (nI k))).toNatClampNeg) - ((xX1_expectAll (xX1_weighAll R F) F 9) 16 ((xX1_nearCell ((xX1_expectAll (xX1_weighAll R F) F 9) 9 (p1).toNatClampNeg) (nI k))).toNatClampNeg))), by omega, by rw [← hsp, hX1_estimateFor_48_s, if_neg c_67], hP, hS, lv_sub hl [0, 1, 3, 4, 5] rfl⟩
  · refine lv_iconst (v := 0) hx hb dX1_estimateFor_8 (by decide) ?_
    have hX : (xX1_estimateFor R F p1) = ((0 : Int32), R) := by unfold xX1_estimateFor; rw [if_pos c_5]
    exact W.iret (v := (0 : Int32)) hx hb hr (fun t ht hW => ⟨by rw [hX], by rw [hX, ht]; with_reducible exact hP, hS.F ht⟩) hS.2.2 dX1_estimateFor_9

def xX1_certaintyFor (R F : Nat → Nat → Int32) (p1 : Int32) : Int32 :=
  (if (xX1_isAboard R F p1) = (0 : Int32) then (0 : Int32) else (if (0 : Int32) < ((100 : Int32) - (((5 : Int32) * ((F 1 0) - (xX1_earliestTare R F (R 9 (p1).toNatClampNeg)))) + ((10 : Int32) * (R 10 (p1).toNatClampNeg)))) then ((100 : Int32) - (((5 : Int32) * ((F 1 0) - (xX1_earliestTare R F (R 9 (p1).toNatClampNeg)))) + ((10 : Int32) * (R 10 (p1).toNatClampNeg)))) else (0 : Int32)))
set_option maxHeartbeats 4000000 in
set_option maxRecDepth 100000 in
theorem mX1_certaintyFor (l : Launch) (D : va_G) (cI cS : ClassId) (ad : Nat → Nat) (hI : Inj ad) (R F : Nat → Nat → Int32) (p1 : Int32) : Met l yX1_certaintyFor wsX1_certaintyFor ({ frames := 2, cells := 0, slots := 0, locals := 46 }) (PW D cI cS ad R F [.ref (ad 0), .int p1]) (QS (xX1_certaintyFor R F p1)) 0 0 (fun _ => False) := by
  refine Met.ofW (cc := cX1_certaintyFor) (maxL := 4) (ret := (some .int)) (by decide) rfl ?_
  intro p e s m args below meth c s₁ B hml hv
  obtain ⟨rfl, hP, hK⟩ := hv
  have hx := B.exec
  have hb := B.bytes
  have hr := B.returns
  have hts := atoms_spec (ws := wsX1_certaintyFor) B.pre
  have hown : s.vm.findClass RX1 = some m.cls := findClass_of_methodNamed B.named
  have hlocks := B.notSynchronized
  have hS : va_S (AA ad) s.heap s.heap [] := va_S.rf
  have hl := lv_entry ([.ref (ad 0), .int p1]) (n := 4) (Nat.le_of_ble_eq_true rfl)
  rw [lg_entry_eq]
  generalize (lg_sl ([.ref (ad 0), .int p1]) ++ List.replicate (4 - (lg_sl ([.ref (ad 0), .int p1])).length) Slot.unset).toArray = ls at hl ⊢
  have hl : lv_has ls 4 [(0, .ref (ad 0)), (1, .int p1)] := hl
  have lk10 := hts (.fieldLink RX1 10 "FerryFloor" "now" "LFerryFloor$State;") (by decide +kernel)
  have lk52 := hts (.fieldLink RX1 52 "FerryFloor$State" "minute" "I") (by decide +kernel)
  have lk89 := hts (.fieldLink RX1 89 "FerryFloor$State" "bookPlaces" "[I") (by decide +kernel)
  have lk113 := hts (.fieldLink RX1 113 "FerryFloor$State" "accusations" "[I") (by decide +kernel)
  have hin1 : ∀ w ∈ u_ws RX1 TX1 7, w ∈ wsX1_certaintyFor := by decide +kernel
  have hin0 : ∀ w ∈ u_ws RX0 TX0 15, w ∈ wsX1_certaintyFor := by decide +kernel
  refine lv_aload_n hx hb dX1_certaintyFor_0 rfl (lv_at hl 0 rfl) ?_
  refine lv_iload_n hx hb dX1_certaintyFor_1 rfl (lv_at hl 1 rfl) ?_
  refine q_callS (va_runV (As := [.int p1]) (rest := []) ⟨hx, hb, hml, hown, hts⟩ (mX1_isAboard l D cI cS ad hI R F p1) (cwV 1 hts gX1_certaintyFor_X1_isAboard rfl rfl rfl (by decide +kernel) ⟨Nat.le_of_ble_eq_true rfl, Nat.le_of_ble_eq_true rfl⟩) (PW_preV (i := 0) (by decide) CC_0 rfl rfl hK hP) rfl rfl hl.1 rfl (lv_room (Nat.le_of_ble_eq_true rfl)) dX1_certaintyFor_2 ⟨Nat.zero_le _, Nat.zero_le _⟩) ?_
  refine lv_if_ne (tgt := 10) hx hb dX1_certaintyFor_5 (by decide) (fun c_5 => ?_) (fun c_5 => ?_)
  · refine lv_aload_n hx hb dX1_certaintyFor_10 rfl (lv_at hl 0 rfl) ?_
    refine q_getF (v := .ref (ad 1)) hx hb hts hin1 hown hK hP 0 (by decide) lk10 (fun _ h => h) rfl dX1_certaintyFor_11 ?_
    refine q_getS (v := .int (F 1 0)) hx hb hts hin0 hown hK hP 1 st_1 0 (by decide) lk52 (fun _ h => h) rfl dX1_certaintyFor_14 ?_
    refine lv_aload_n hx hb dX1_certaintyFor_17 rfl (lv_at hl 0 rfl) ?_
    refine lv_aload_n hx hb dX1_certaintyFor_18 rfl (lv_at hl 0 rfl) ?_
    refine q_getF (v := .ref (ad 1)) hx hb hts hin1 hown hK hP 0 (by decide) lk10 (fun _ h => h) rfl dX1_certaintyFor_19 ?_
    refine q_getS (v := .ref (ad 9)) hx hb hts hin0 hown hK hP 1 st_1 10 (by decide) lk89 (fun _ h => h) rfl dX1_certaintyFor_22 ?_
    refine lv_iload_n hx hb dX1_certaintyFor_25 rfl (lv_at hl 1 rfl) ?_
    refine q_ild hx hb hK hP 9 8 (ar_9) dX1_certaintyFor_26 (by first | assumption | exact isCell_in (by assumption) | exact isWalker_in (by assumption) | exact isAboard_in (by assumption) | exact isPair_in1 (by assumption) | exact isPair_in2 (by assumption) | exact isWithin7_in (by assumption) | exact vp_in_nI (by omega) (by decide)) ?_
    refine q_callS (va_runV (As := [.int (R 9 (p1).toNatClampNeg)]) (rest := [.int (F 1 0)]) ⟨hx, hb, hml, hown, hts⟩ (mX1_earliestTare l D cI cS ad hI R F (R 9 (p1).toNatClampNeg)) (cwV 1 hts gX1_certaintyFor_X1_earliestTare rfl rfl rfl (by decide +kernel) ⟨Nat.le_of_ble_eq_true rfl, Nat.le_of_ble_eq_true rfl⟩) (PW_preV (i := 0) (by decide) CC_0 rfl rfl hK hP) rfl rfl hl.1 rfl (lv_room (Nat.le_of_ble_eq_true rfl)) dX1_certaintyFor_27 ⟨Nat.zero_le _, Nat.zero_le _⟩) ?_
    refine lv_isub hx hb dX1_certaintyFor_30 ?_
    refine lv_istore_n (lv' := [(2, .int ((F 1 0) - (xX1_earliestTare R F (R 9 (p1).toNatClampNeg)))), (0, .ref (ad 0)), (1, .int p1)]) hx hb dX1_certaintyFor_31 rfl hl (by decide) rfl (fun ls hl => ?_)
    refine lv_iconst (v := 5) hx hb dX1_certaintyFor_32 (by decide) ?_
    refine lv_iload_n hx hb dX1_certaintyFor_33 rfl (lv_at hl 0 rfl) ?_
    refine lv_imul hx hb dX1_certaintyFor_34 ?_
    refine lv_bipush (v := 10) hx hb dX1_certaintyFor_35 (by decide) ?_
    refine lv_aload_n hx hb dX1_certaintyFor_37 rfl (lv_at hl 1 rfl) ?_
    refine q_getF (v := .ref (ad 1)) hx hb hts hin1 hown hK hP 0 (by decide) lk10 (fun _ h => h) rfl dX1_certaintyFor_38 ?_
    refine q_getS (v := .ref (ad 10)) hx hb hts hin0 hown hK hP 1 st_1 11 (by decide) lk113 (fun _ h => h) rfl dX1_certaintyFor_41 ?_
    refine lv_iload_n hx hb dX1_certaintyFor_44 rfl (lv_at hl 2 rfl) ?_
    refine q_ild hx hb hK hP 10 8 (ar_10) dX1_certaintyFor_45 (by first | assumption | exact isCell_in (by assumption) | exact isWalker_in (by assumption) | exact isAboard_in (by assumption) | exact isPair_in1 (by assumption) | exact isPair_in2 (by assumption) | exact isWithin7_in (by assumption) | exact vp_in_nI (by omega) (by decide)) ?_
    refine lv_imul hx hb dX1_certaintyFor_46 ?_
    refine lv_iadd hx hb dX1_certaintyFor_47 ?_
    refine lv_istore_n (lv' := [(3, .int (((5 : Int32) * ((F 1 0) - (xX1_earliestTare R F (R 9 (p1).toNatClampNeg)))) + ((10 : Int32) * (R 10 (p1).toNatClampNeg)))), (2, .int ((F 1 0) - (xX1_earliestTare R F (R 9 (p1).toNatClampNeg)))), (0, .ref (ad 0)), (1, .int p1)]) hx hb dX1_certaintyFor_48 rfl hl (by decide) rfl (fun ls hl => ?_)
    refine lv_iconst (v := 0) hx hb dX1_certaintyFor_49 (by decide) ?_
    refine lv_bipush (v := 100) hx hb dX1_certaintyFor_50 (by decide) ?_
    refine lv_iload_n hx hb dX1_certaintyFor_52 rfl (lv_at hl 0 rfl) ?_
    refine lv_isub hx hb dX1_certaintyFor_53 ?_
    refine va_mmax hx hb (hml.trans hl.1.symm) hown (hts (.methodLink RX1 129 Lib.Math.max.name) (by decide +kernel)) (hts (.static Lib.Math.max.name) (by decide +kernel)) (hts (.initialized "java/lang/Math") (by decide +kernel)) (hts (.code Lib.Math.max.name Lib.Math.max.code 2 (some .int)) (by decide +kernel)) (Nat.le_of_ble_eq_true rfl) (Nat.le_of_ble_eq_true rfl) (Nat.zero_le _) (Nat.zero_le _) dX1_certaintyFor_54 ?_
    have hX : (xX1_certaintyFor R F p1) = (if (0 : Int32) < ((100 : Int32) - (((5 : Int32) * ((F 1 0) - (xX1_earliestTare R F (R 9 (p1).toNatClampNeg)))) + ((10 : Int32) * (R 10 (p1).toNatClampNeg)))) then ((100 : Int32) - (((5 : Int32) * ((F 1 0) - (xX1_earliestTare R F (R 9 (p1).toNatClampNeg)))) + ((10 : Int32) * (R 10 (p1).toNatClampNeg)))) else (0 : Int32)) := by unfold xX1_certaintyFor; rw [if_neg c_5]
    exact W.iret (v := (if (0 : Int32) < ((100 : Int32) - (((5 : Int32) * ((F 1 0) - (xX1_earliestTare R F (R 9 (p1).toNatClampNeg)))) + ((10 : Int32) * (R 10 (p1).toNatClampNeg)))) then ((100 : Int32) - (((5 : Int32) * ((F 1 0) - (xX1_earliestTare R F (R 9 (p1).toNatClampNeg)))) + ((10 : Int32) * (R 10 (p1).toNatClampNeg)))) else (0 : Int32))) hx hb hr (fun t ht hW => ⟨by rw [hX], ht⟩) (fun _ h => by cases h) dX1_certaintyFor_57
  · refine lv_iconst (v := 0) hx hb dX1_certaintyFor_8 (by decide) ?_
    have hX : (xX1_certaintyFor R F p1) = (0 : Int32) := by unfold xX1_certaintyFor; rw [if_pos c_5]
    exact W.iret (v := (0 : Int32)) hx hb hr (fun t ht hW => ⟨by rw [hX], ht⟩) (fun _ h => by cases h) dX1_certaintyFor_9

def xX1_sumOfReadings (R F : Nat → Nat → Int32) : Int32 × (Nat → Nat → Int32) :=
  ((xX1_sumOf (xX1_weighAll R F) F 15), (xX1_weighAll R F))
set_option maxHeartbeats 4000000 in
set_option maxRecDepth 100000 in
theorem mX1_sumOfReadings (l : Launch) (D : va_G) (cI cS : ClassId) (ad : Nat → Nat) (hI : Inj ad) (R F : Nat → Nat → Int32)  : Met l yX1_sumOfReadings wsX1_sumOfReadings ({ frames := 4, cells := 0, slots := 0, locals := 91 }) (PW D cI cS ad R F [.ref (ad 0)]) (QI D cI cS ad ((xX1_sumOfReadings R F).1) ((xX1_sumOfReadings R F).2) F) 0 0 (AA ad) := by
  refine Met.ofW (cc := cX1_sumOfReadings) (maxL := 1) (ret := (some .int)) (by decide) rfl ?_
  intro p e s m args below meth c s₁ B hml hv
  obtain ⟨rfl, hP, hK⟩ := hv
  have hx := B.exec
  have hb := B.bytes
  have hr := B.returns
  have hts := atoms_spec (ws := wsX1_sumOfReadings) B.pre
  have hown : s.vm.findClass RX1 = some m.cls := findClass_of_methodNamed B.named
  have hlocks := B.notSynchronized
  have hS : va_S (AA ad) s.heap s.heap [] := va_S.rf
  have hl := lv_entry ([.ref (ad 0)]) (n := 1) (Nat.le_of_ble_eq_true rfl)
  rw [lg_entry_eq]
  generalize (lg_sl ([.ref (ad 0)]) ++ List.replicate (1 - (lg_sl ([.ref (ad 0)])).length) Slot.unset).toArray = ls at hl ⊢
  have hl : lv_has ls 1 [(0, .ref (ad 0))] := hl
  have lk27 := hts (.fieldLink RX1 27 "FerryFloor" "readings" "[I") (by decide +kernel)
  have hin1 : ∀ w ∈ u_ws RX1 TX1 7, w ∈ wsX1_sumOfReadings := by decide +kernel
  refine lv_aload_n hx hb dX1_sumOfReadings_0 rfl (lv_at hl 0 rfl) ?_
  refine q_callV (va_runV (As := []) (rest := []) ⟨hx, hb, hml, hown, hts⟩ (mX1_weighAll l D cI cS ad hI R F) (cwV 0 hts gX1_sumOfReadings_X1_weighAll rfl rfl rfl (by decide +kernel) ⟨Nat.le_of_ble_eq_true rfl, Nat.le_of_ble_eq_true rfl⟩) (PW_preV (i := 0) (by decide) CC_0 rfl rfl hK hP) rfl rfl hl.1 rfl (lv_room (Nat.le_of_ble_eq_true rfl)) dX1_sumOfReadings_1 ⟨Nat.zero_le _, Nat.zero_le _⟩) hS (fun H locs hP hS => ?_)
  refine lv_aload_n hx hb dX1_sumOfReadings_4 rfl (lv_at hl 0 rfl) ?_
  refine q_getF (v := .ref (ad 15)) hx hb hts hin1 hown hK hP 4 (by decide) lk27 (fun _ h => h) rfl dX1_sumOfReadings_5 ?_
  refine q_callS (va_runS (As := [.ref (ad 15)]) (rest := []) ⟨hx, hb, hml, hown, hts⟩ (mX1_sumOf l D cI cS ad hI (xX1_weighAll R F) F 15 (ar_15)) (va_cwS 1 hts gX1_sumOfReadings_X1_sumOf rfl rfl rfl (by decide +kernel) ⟨Nat.le_of_ble_eq_true rfl, Nat.le_of_ble_eq_true rfl⟩) (PW_preS hK hP) rfl rfl hl.1 rfl (lv_room (Nat.le_of_ble_eq_true rfl)) dX1_sumOfReadings_8 ⟨Nat.zero_le _, Nat.zero_le _⟩) ?_
  have hX : (xX1_sumOfReadings R F) = ((xX1_sumOf (xX1_weighAll R F) F 15), (xX1_weighAll R F)) := by unfold xX1_sumOfReadings; rfl
  exact W.iret (v := (xX1_sumOf (xX1_weighAll R F) F 15)) hx hb hr (fun t ht hW => ⟨by rw [hX], by rw [hX, ht]; with_reducible exact hP, hS.F ht⟩) hS.2.2 dX1_sumOfReadings_11

def hX1_kilogramsBilled_4 (R F : Nat → Nat → Int32) : Nat → Nat → Int32 → Int32
  | 0, k, x1 => x1
  | n + 1, k, x1 => (hX1_kilogramsBilled_4 R F n (k + 1) (x1 + ((xX1_orZero (R 11 k)) - (xX1_orZero (R 13 k)))))
theorem hX1_kilogramsBilled_4_z (R F : Nat → Nat → Int32) (k : Nat) (x1 : Int32) : hX1_kilogramsBilled_4 R F 0 k x1 = x1 := rfl
theorem hX1_kilogramsBilled_4_s (R F : Nat → Nat → Int32) (n : Nat) (k : Nat) (x1 : Int32) : hX1_kilogramsBilled_4 R F (n + 1) k x1 = (hX1_kilogramsBilled_4 R F n (k + 1) (x1 + ((xX1_orZero (R 11 k)) - (xX1_orZero (R 13 k))))) := rfl
def xX1_kilogramsBilled (R F : Nat → Nat → Int32) : Int32 :=
  (hX1_kilogramsBilled_4 R F 8 0 (0 : Int32))
set_option maxHeartbeats 4000000 in
set_option maxRecDepth 100000 in
theorem mX1_kilogramsBilled (l : Launch) (D : va_G) (cI cS : ClassId) (ad : Nat → Nat) (hI : Inj ad) (R F : Nat → Nat → Int32)  : Met l yX1_kilogramsBilled wsX1_kilogramsBilled ({ frames := 1, cells := 0, slots := 0, locals := 20 }) (PW D cI cS ad R F [.ref (ad 0)]) (QS (xX1_kilogramsBilled R F)) 0 0 (fun _ => False) := by
  refine Met.ofW (cc := cX1_kilogramsBilled) (maxL := 3) (ret := (some .int)) (by decide) rfl ?_
  intro p e s m args below meth c s₁ B hml hv
  obtain ⟨rfl, hP, hK⟩ := hv
  have hx := B.exec
  have hb := B.bytes
  have hr := B.returns
  have hts := atoms_spec (ws := wsX1_kilogramsBilled) B.pre
  have hown : s.vm.findClass RX1 = some m.cls := findClass_of_methodNamed B.named
  have hlocks := B.notSynchronized
  have hS : va_S (AA ad) s.heap s.heap [] := va_S.rf
  have hl := lv_entry ([.ref (ad 0)]) (n := 3) (Nat.le_of_ble_eq_true rfl)
  rw [lg_entry_eq]
  generalize (lg_sl ([.ref (ad 0)]) ++ List.replicate (3 - (lg_sl ([.ref (ad 0)])).length) Slot.unset).toArray = ls at hl ⊢
  have hl : lv_has ls 3 [(0, .ref (ad 0))] := hl
  have lk10 := hts (.fieldLink RX1 10 "FerryFloor" "now" "LFerryFloor$State;") (by decide +kernel)
  have lk116 := hts (.fieldLink RX1 116 "FerryFloor$State" "billKilograms" "[I") (by decide +kernel)
  have lk126 := hts (.fieldLink RX1 126 "FerryFloor$State" "backKilograms" "[I") (by decide +kernel)
  have hin1 : ∀ w ∈ u_ws RX1 TX1 7, w ∈ wsX1_kilogramsBilled := by decide +kernel
  have hin0 : ∀ w ∈ u_ws RX0 TX0 15, w ∈ wsX1_kilogramsBilled := by decide +kernel
  refine lv_iconst (v := 0) hx hb dX1_kilogramsBilled_0 (by decide) ?_
  refine lv_istore_n (lv' := [(1, .int (0 : Int32)), (0, .ref (ad 0))]) hx hb dX1_kilogramsBilled_1 rfl hl (by decide) rfl (fun ls hl => ?_)
  refine lv_iconst (v := 0) hx hb dX1_kilogramsBilled_2 (by decide) ?_
  refine lv_istore_n (lv' := [(2, .int (0 : Int32)), (1, .int (0 : Int32)), (0, .ref (ad 0))]) hx hb dX1_kilogramsBilled_3 rfl hl (by decide) rfl (fun ls hl => ?_)
  refine q_loop (fun nn H locs ls => ∃ (k : Nat) (x1 : Int32), k + nn = 8 ∧ hX1_kilogramsBilled_4 R F nn k x1 = (xX1_kilogramsBilled R F) ∧ WP D cI cS ad R F H ∧ locs = [] ∧ H = s.heap ∧ lv_has ls 3 [(2, .int (nI k)), (1, .int x1), (0, .ref (ad 0))]) 8 ⟨0, (0 : Int32), by omega, by unfold xX1_kilogramsBilled; rfl, hP, rfl, rfl, lv_sub hl [0, 1, 2] rfl⟩ ?_ ?_
  · intro H locs ls hz
    obtain ⟨k, x1, hkn, hsp, hP, rfl, rfl, hl⟩ := hz
    refine lv_iload_n hx hb dX1_kilogramsBilled_4 rfl (lv_at hl 0 rfl) ?_
    refine lv_bipush (v := 8) hx hb dX1_kilogramsBilled_5 (by decide) ?_
    refine lv_icmp_ge (tgt := 44) hx hb dX1_kilogramsBilled_7 (by decide) (fun c_7 => ?_) (fun c_7 => ?_)
    · refine lv_iload_n hx hb dX1_kilogramsBilled_44 rfl (lv_at hl 1 rfl) ?_
      have hX : (xX1_kilogramsBilled R F) = x1 := by rw [← hsp, hX1_kilogramsBilled_4_z]
      exact W.iret (v := x1) hx hb hr (fun t ht hW => ⟨by rw [hX], ht⟩) (fun _ h => by cases h) dX1_kilogramsBilled_45
    · exact absurd (nI_le (a := 8) (b := k) (by omega) (by omega)) c_7
  · intro n ih H locs ls hz
    obtain ⟨k, x1, hkn, hsp, hP, rfl, rfl, hl⟩ := hz
    refine lv_iload_n hx hb dX1_kilogramsBilled_4 rfl (lv_at hl 0 rfl) ?_
    refine lv_bipush (v := 8) hx hb dX1_kilogramsBilled_5 (by decide) ?_
    refine lv_icmp_ge (tgt := 44) hx hb dX1_kilogramsBilled_7 (by decide) (fun c_7 => ?_) (fun c_7 => ?_)
    · exact absurd c_7 (nI_ge (a := k) (b := 8) (by omega) (by omega))
    · refine lv_iload_n hx hb dX1_kilogramsBilled_10 rfl (lv_at hl 1 rfl) ?_
      refine lv_aload_n hx hb dX1_kilogramsBilled_11 rfl (lv_at hl 2 rfl) ?_
      refine q_getF (v := .ref (ad 1)) hx hb hts hin1 hown hK hP 0 (by decide) lk10 (fun _ h => h) rfl dX1_kilogramsBilled_12 ?_
      refine q_getS (v := .ref (ad 11)) hx hb hts hin0 hown hK hP 1 st_1 12 (by decide) lk116 (fun _ h => h) rfl dX1_kilogramsBilled_15 ?_
      refine lv_iload_n hx hb dX1_kilogramsBilled_18 rfl (lv_at hl 0 rfl) ?_
      refine q_ildN hx hb hK hP 11 8 (ar_11) k dX1_kilogramsBilled_19 rfl (by omega) (by decide) ?_
      refine q_callS (va_runS (As := [.int (R 11 k)]) (rest := [.int x1]) ⟨hx, hb, hml, hown, hts⟩ (mX1_orZero l D cI cS ad hI R F (R 11 k)) (va_cwS 1 hts gX1_kilogramsBilled_X1_orZero rfl rfl rfl (by decide +kernel) ⟨Nat.le_of_ble_eq_true rfl, Nat.le_of_ble_eq_true rfl⟩) (PW_preS hK hP) rfl rfl hl.1 rfl (lv_room (Nat.le_of_ble_eq_true rfl)) dX1_kilogramsBilled_20 ⟨Nat.zero_le _, Nat.zero_le _⟩) ?_
      refine lv_aload_n hx hb dX1_kilogramsBilled_23 rfl (lv_at hl 2 rfl) ?_
      refine q_getF (v := .ref (ad 1)) hx hb hts hin1 hown hK hP 0 (by decide) lk10 (fun _ h => h) rfl dX1_kilogramsBilled_24 ?_
      refine q_getS (v := .ref (ad 13)) hx hb hts hin0 hown hK hP 1 st_1 14 (by decide) lk126 (fun _ h => h) rfl dX1_kilogramsBilled_27 ?_
      refine lv_iload_n hx hb dX1_kilogramsBilled_30 rfl (lv_at hl 0 rfl) ?_
      refine q_ildN hx hb hK hP 13 8 (ar_13) k dX1_kilogramsBilled_31 rfl (by omega) (by decide) ?_
      refine q_callS (va_runS (As := [.int (R 13 k)]) (rest := [.int (xX1_orZero (R 11 k)), .int x1]) ⟨hx, hb, hml, hown, hts⟩ (mX1_orZero l D cI cS ad hI R F (R 13 k)) (va_cwS 1 hts gX1_kilogramsBilled_X1_orZero rfl rfl rfl (by decide +kernel) ⟨Nat.le_of_ble_eq_true rfl, Nat.le_of_ble_eq_true rfl⟩) (PW_preS hK hP) rfl rfl hl.1 rfl (lv_room (Nat.le_of_ble_eq_true rfl)) dX1_kilogramsBilled_32 ⟨Nat.zero_le _, Nat.zero_le _⟩) ?_
      refine lv_isub hx hb dX1_kilogramsBilled_35 ?_
      refine lv_iadd hx hb dX1_kilogramsBilled_36 ?_
      refine lv_istore_n (lv' := [(1, .int (x1 + ((xX1_orZero (R 11 k)) - (xX1_orZero (R 13 k))))), (2, .int (nI k)), (0, .ref (ad 0))]) hx hb dX1_kilogramsBilled_37 rfl hl (by decide) rfl (fun ls hl => ?_)
      refine lv_iinc (v := (nI (k + 1))) (lv' := [(2, .int (nI (k + 1))), (1, .int (x1 + ((xX1_orZero (R 11 k)) - (xX1_orZero (R 13 k))))), (0, .ref (ad 0))]) hx hb dX1_kilogramsBilled_38 hl (k := 1) rfl (nI_1 k) (by decide) rfl (fun ls hl => ?_)
      refine lv_goto (tgt := 4) hx hb dX1_kilogramsBilled_41 (by decide) ?_
      exact ih _ _ _ ⟨(k + 1), (x1 + ((xX1_orZero (R 11 k)) - (xX1_orZero (R 13 k)))), by omega, by rw [← hsp, hX1_kilogramsBilled_4_s], hP, rfl, rfl, lv_sub hl [0, 1, 2] rfl⟩

def xX1_kilogramsToBill (R F : Nat → Nat → Int32) (p1 : Int32) : Int32 × (Nat → Nat → Int32) :=
  ((if (0 : Int32) < (if ((((xX1_sumOfReadings ((xX1_estimateFor R F p1).2) F).1) - (xX1_sumOf ((xX1_sumOfReadings ((xX1_estimateFor R F p1).2) F).2) F 4)) - (xX1_kilogramsBilled ((xX1_sumOfReadings ((xX1_estimateFor R F p1).2) F).2) F)) < ((((xX1_estimateFor R F p1).1) * (xX1_certaintyFor ((xX1_estimateFor R F p1).2) F p1)) / (100 : Int32)) then ((((xX1_sumOfReadings ((xX1_estimateFor R F p1).2) F).1) - (xX1_sumOf ((xX1_sumOfReadings ((xX1_estimateFor R F p1).2) F).2) F 4)) - (xX1_kilogramsBilled ((xX1_sumOfReadings ((xX1_estimateFor R F p1).2) F).2) F)) else ((((xX1_estimateFor R F p1).1) * (xX1_certaintyFor ((xX1_estimateFor R F p1).2) F p1)) / (100 : Int32))) then (if ((((xX1_sumOfReadings ((xX1_estimateFor R F p1).2) F).1) - (xX1_sumOf ((xX1_sumOfReadings ((xX1_estimateFor R F p1).2) F).2) F 4)) - (xX1_kilogramsBilled ((xX1_sumOfReadings ((xX1_estimateFor R F p1).2) F).2) F)) < ((((xX1_estimateFor R F p1).1) * (xX1_certaintyFor ((xX1_estimateFor R F p1).2) F p1)) / (100 : Int32)) then ((((xX1_sumOfReadings ((xX1_estimateFor R F p1).2) F).1) - (xX1_sumOf ((xX1_sumOfReadings ((xX1_estimateFor R F p1).2) F).2) F 4)) - (xX1_kilogramsBilled ((xX1_sumOfReadings ((xX1_estimateFor R F p1).2) F).2) F)) else ((((xX1_estimateFor R F p1).1) * (xX1_certaintyFor ((xX1_estimateFor R F p1).2) F p1)) / (100 : Int32))) else (0 : Int32)), ((xX1_sumOfReadings ((xX1_estimateFor R F p1).2) F).2))
set_option maxHeartbeats 4000000 in
set_option maxRecDepth 100000 in
theorem mX1_kilogramsToBill (l : Launch) (D : va_G) (cI cS : ClassId) (ad : Nat → Nat) (hI : Inj ad) (R F : Nat → Nat → Int32) (p1 : Int32) : Met l yX1_kilogramsToBill wsX1_kilogramsToBill ({ frames := 5, cells := 0, slots := 0, locals := 117 }) (PW D cI cS ad R F [.ref (ad 0), .int p1]) (QI D cI cS ad ((xX1_kilogramsToBill R F p1).1) ((xX1_kilogramsToBill R F p1).2) F) 0 0 (AA ad) := by
  refine Met.ofW (cc := cX1_kilogramsToBill) (maxL := 4) (ret := (some .int)) (by decide) rfl ?_
  intro p e s m args below meth c s₁ B hml hv
  obtain ⟨rfl, hP, hK⟩ := hv
  have hx := B.exec
  have hb := B.bytes
  have hr := B.returns
  have hts := atoms_spec (ws := wsX1_kilogramsToBill) B.pre
  have hown : s.vm.findClass RX1 = some m.cls := findClass_of_methodNamed B.named
  have hlocks := B.notSynchronized
  have hS : va_S (AA ad) s.heap s.heap [] := va_S.rf
  have hl := lv_entry ([.ref (ad 0), .int p1]) (n := 4) (Nat.le_of_ble_eq_true rfl)
  rw [lg_entry_eq]
  generalize (lg_sl ([.ref (ad 0), .int p1]) ++ List.replicate (4 - (lg_sl ([.ref (ad 0), .int p1])).length) Slot.unset).toArray = ls at hl ⊢
  have hl : lv_has ls 4 [(0, .ref (ad 0)), (1, .int p1)] := hl
  have lk10 := hts (.fieldLink RX1 10 "FerryFloor" "now" "LFerryFloor$State;") (by decide +kernel)
  have lk62 := hts (.fieldLink RX1 62 "FerryFloor$State" "tares" "[I") (by decide +kernel)
  have hin1 : ∀ w ∈ u_ws RX1 TX1 7, w ∈ wsX1_kilogramsToBill := by decide +kernel
  have hin0 : ∀ w ∈ u_ws RX0 TX0 15, w ∈ wsX1_kilogramsToBill := by decide +kernel
  refine lv_aload_n hx hb dX1_kilogramsToBill_0 rfl (lv_at hl 0 rfl) ?_
  refine lv_iload_n hx hb dX1_kilogramsToBill_1 rfl (lv_at hl 1 rfl) ?_
  refine q_callI (va_runV (As := [.int p1]) (rest := []) ⟨hx, hb, hml, hown, hts⟩ (mX1_estimateFor l D cI cS ad hI R F p1) (cwV 1 hts gX1_kilogramsToBill_X1_estimateFor rfl rfl rfl (by decide +kernel) ⟨Nat.le_of_ble_eq_true rfl, Nat.le_of_ble_eq_true rfl⟩) (PW_preV (i := 0) (by decide) CC_0 rfl rfl hK hP) rfl rfl hl.1 rfl (lv_room (Nat.le_of_ble_eq_true rfl)) dX1_kilogramsToBill_2 ⟨Nat.zero_le _, Nat.zero_le _⟩) hS (fun H locs hP hS => ?_)
  refine lv_aload_n hx hb dX1_kilogramsToBill_5 rfl (lv_at hl 0 rfl) ?_
  refine lv_iload_n hx hb dX1_kilogramsToBill_6 rfl (lv_at hl 1 rfl) ?_
  refine q_callS (va_runV (As := [.int p1]) (rest := [.int ((xX1_estimateFor R F p1).1)]) ⟨hx, hb, hml, hown, hts⟩ (mX1_certaintyFor l D cI cS ad hI ((xX1_estimateFor R F p1).2) F p1) (cwV 1 hts gX1_kilogramsToBill_X1_certaintyFor rfl rfl rfl (by decide +kernel) ⟨Nat.le_of_ble_eq_true rfl, Nat.le_of_ble_eq_true rfl⟩) (PW_preV (i := 0) (by decide) CC_0 rfl rfl hK hP) rfl rfl hl.1 rfl (lv_room (Nat.le_of_ble_eq_true rfl)) dX1_kilogramsToBill_7 ⟨Nat.zero_le _, Nat.zero_le _⟩) ?_
  refine lv_imul hx hb dX1_kilogramsToBill_10 ?_
  refine lv_bipush (v := 100) hx hb dX1_kilogramsToBill_11 (by decide) ?_
  refine lv_idiv hx hb dX1_kilogramsToBill_13 (by decide) ?_
  refine lv_istore_n (lv' := [(2, .int ((((xX1_estimateFor R F p1).1) * (xX1_certaintyFor ((xX1_estimateFor R F p1).2) F p1)) / (100 : Int32))), (0, .ref (ad 0)), (1, .int p1)]) hx hb dX1_kilogramsToBill_14 rfl hl (by decide) rfl (fun ls hl => ?_)
  refine lv_aload_n hx hb dX1_kilogramsToBill_15 rfl (lv_at hl 1 rfl) ?_
  refine q_callI (va_runV (As := []) (rest := []) ⟨hx, hb, hml, hown, hts⟩ (mX1_sumOfReadings l D cI cS ad hI ((xX1_estimateFor R F p1).2) F) (cwV 0 hts gX1_kilogramsToBill_X1_sumOfReadings rfl rfl rfl (by decide +kernel) ⟨Nat.le_of_ble_eq_true rfl, Nat.le_of_ble_eq_true rfl⟩) (PW_preV (i := 0) (by decide) CC_0 rfl rfl hK hP) rfl rfl hl.1 rfl (lv_room (Nat.le_of_ble_eq_true rfl)) dX1_kilogramsToBill_16 ⟨Nat.zero_le _, Nat.zero_le _⟩) hS (fun H locs hP hS => ?_)
  refine lv_aload_n hx hb dX1_kilogramsToBill_19 rfl (lv_at hl 1 rfl) ?_
  refine q_getF (v := .ref (ad 1)) hx hb hts hin1 hown hK hP 0 (by decide) lk10 (fun _ h => h) rfl dX1_kilogramsToBill_20 ?_
  refine q_getS (v := .ref (ad 4)) hx hb hts hin0 hown hK hP 1 st_1 5 (by decide) lk62 (fun _ h => h) rfl dX1_kilogramsToBill_23 ?_
  refine q_callS (va_runS (As := [.ref (ad 4)]) (rest := [.int ((xX1_sumOfReadings ((xX1_estimateFor R F p1).2) F).1)]) ⟨hx, hb, hml, hown, hts⟩ (mX1_sumOf l D cI cS ad hI ((xX1_sumOfReadings ((xX1_estimateFor R F p1).2) F).2) F 4 (ar_4)) (va_cwS 1 hts gX1_kilogramsToBill_X1_sumOf rfl rfl rfl (by decide +kernel) ⟨Nat.le_of_ble_eq_true rfl, Nat.le_of_ble_eq_true rfl⟩) (PW_preS hK hP) rfl rfl hl.1 rfl (lv_room (Nat.le_of_ble_eq_true rfl)) dX1_kilogramsToBill_26 ⟨Nat.zero_le _, Nat.zero_le _⟩) ?_
  refine lv_isub hx hb dX1_kilogramsToBill_29 ?_
  refine lv_aload_n hx hb dX1_kilogramsToBill_30 rfl (lv_at hl 1 rfl) ?_
  refine q_callS (va_runV (As := []) (rest := [.int (((xX1_sumOfReadings ((xX1_estimateFor R F p1).2) F).1) - (xX1_sumOf ((xX1_sumOfReadings ((xX1_estimateFor R F p1).2) F).2) F 4))]) ⟨hx, hb, hml, hown, hts⟩ (mX1_kilogramsBilled l D cI cS ad hI ((xX1_sumOfReadings ((xX1_estimateFor R F p1).2) F).2) F) (cwV 0 hts gX1_kilogramsToBill_X1_kilogramsBilled rfl rfl rfl (by decide +kernel) ⟨Nat.le_of_ble_eq_true rfl, Nat.le_of_ble_eq_true rfl⟩) (PW_preV (i := 0) (by decide) CC_0 rfl rfl hK hP) rfl rfl hl.1 rfl (lv_room (Nat.le_of_ble_eq_true rfl)) dX1_kilogramsToBill_31 ⟨Nat.zero_le _, Nat.zero_le _⟩) ?_
  refine lv_isub hx hb dX1_kilogramsToBill_34 ?_
  refine lv_istore_n (lv' := [(3, .int ((((xX1_sumOfReadings ((xX1_estimateFor R F p1).2) F).1) - (xX1_sumOf ((xX1_sumOfReadings ((xX1_estimateFor R F p1).2) F).2) F 4)) - (xX1_kilogramsBilled ((xX1_sumOfReadings ((xX1_estimateFor R F p1).2) F).2) F))), (2, .int ((((xX1_estimateFor R F p1).1) * (xX1_certaintyFor ((xX1_estimateFor R F p1).2) F p1)) / (100 : Int32))), (0, .ref (ad 0)), (1, .int p1)]) hx hb dX1_kilogramsToBill_35 rfl hl (by decide) rfl (fun ls hl => ?_)
  refine lv_iconst (v := 0) hx hb dX1_kilogramsToBill_36 (by decide) ?_
  refine lv_iload_n hx hb dX1_kilogramsToBill_37 rfl (lv_at hl 1 rfl) ?_
  refine lv_iload_n hx hb dX1_kilogramsToBill_38 rfl (lv_at hl 0 rfl) ?_
  refine va_mmin hx hb (hml.trans hl.1.symm) hown (hts (.methodLink RX1 205 Lib.Math.min.name) (by decide +kernel)) (hts (.static Lib.Math.min.name) (by decide +kernel)) (hts (.initialized "java/lang/Math") (by decide +kernel)) (hts (.code Lib.Math.min.name Lib.Math.min.code 2 (some .int)) (by decide +kernel)) (Nat.le_of_ble_eq_true rfl) (Nat.le_of_ble_eq_true rfl) (Nat.zero_le _) (Nat.zero_le _) dX1_kilogramsToBill_39 ?_
  refine va_mmax hx hb (hml.trans hl.1.symm) hown (hts (.methodLink RX1 129 Lib.Math.max.name) (by decide +kernel)) (hts (.static Lib.Math.max.name) (by decide +kernel)) (hts (.initialized "java/lang/Math") (by decide +kernel)) (hts (.code Lib.Math.max.name Lib.Math.max.code 2 (some .int)) (by decide +kernel)) (Nat.le_of_ble_eq_true rfl) (Nat.le_of_ble_eq_true rfl) (Nat.zero_le _) (Nat.zero_le _) dX1_kilogramsToBill_42 ?_
  have hX : (xX1_kilogramsToBill R F p1) = ((if (0 : Int32) < (if ((((xX1_sumOfReadings ((xX1_estimateFor R F p1).2) F).1) - (xX1_sumOf ((xX1_sumOfReadings ((xX1_estimateFor R F p1).2) F).2) F 4)) - (xX1_kilogramsBilled ((xX1_sumOfReadings ((xX1_estimateFor R F p1).2) F).2) F)) < ((((xX1_estimateFor R F p1).1) * (xX1_certaintyFor ((xX1_estimateFor R F p1).2) F p1)) / (100 : Int32)) then ((((xX1_sumOfReadings ((xX1_estimateFor R F p1).2) F).1) - (xX1_sumOf ((xX1_sumOfReadings ((xX1_estimateFor R F p1).2) F).2) F 4)) - (xX1_kilogramsBilled ((xX1_sumOfReadings ((xX1_estimateFor R F p1).2) F).2) F)) else ((((xX1_estimateFor R F p1).1) * (xX1_certaintyFor ((xX1_estimateFor R F p1).2) F p1)) / (100 : Int32))) then (if ((((xX1_sumOfReadings ((xX1_estimateFor R F p1).2) F).1) - (xX1_sumOf ((xX1_sumOfReadings ((xX1_estimateFor R F p1).2) F).2) F 4)) - (xX1_kilogramsBilled ((xX1_sumOfReadings ((xX1_estimateFor R F p1).2) F).2) F)) < ((((xX1_estimateFor R F p1).1) * (xX1_certaintyFor ((xX1_estimateFor R F p1).2) F p1)) / (100 : Int32)) then ((((xX1_sumOfReadings ((xX1_estimateFor R F p1).2) F).1) - (xX1_sumOf ((xX1_sumOfReadings ((xX1_estimateFor R F p1).2) F).2) F 4)) - (xX1_kilogramsBilled ((xX1_sumOfReadings ((xX1_estimateFor R F p1).2) F).2) F)) else ((((xX1_estimateFor R F p1).1) * (xX1_certaintyFor ((xX1_estimateFor R F p1).2) F p1)) / (100 : Int32))) else (0 : Int32)), ((xX1_sumOfReadings ((xX1_estimateFor R F p1).2) F).2)) := by unfold xX1_kilogramsToBill; rfl
  exact W.iret (v := (if (0 : Int32) < (if ((((xX1_sumOfReadings ((xX1_estimateFor R F p1).2) F).1) - (xX1_sumOf ((xX1_sumOfReadings ((xX1_estimateFor R F p1).2) F).2) F 4)) - (xX1_kilogramsBilled ((xX1_sumOfReadings ((xX1_estimateFor R F p1).2) F).2) F)) < ((((xX1_estimateFor R F p1).1) * (xX1_certaintyFor ((xX1_estimateFor R F p1).2) F p1)) / (100 : Int32)) then ((((xX1_sumOfReadings ((xX1_estimateFor R F p1).2) F).1) - (xX1_sumOf ((xX1_sumOfReadings ((xX1_estimateFor R F p1).2) F).2) F 4)) - (xX1_kilogramsBilled ((xX1_sumOfReadings ((xX1_estimateFor R F p1).2) F).2) F)) else ((((xX1_estimateFor R F p1).1) * (xX1_certaintyFor ((xX1_estimateFor R F p1).2) F p1)) / (100 : Int32))) then (if ((((xX1_sumOfReadings ((xX1_estimateFor R F p1).2) F).1) - (xX1_sumOf ((xX1_sumOfReadings ((xX1_estimateFor R F p1).2) F).2) F 4)) - (xX1_kilogramsBilled ((xX1_sumOfReadings ((xX1_estimateFor R F p1).2) F).2) F)) < ((((xX1_estimateFor R F p1).1) * (xX1_certaintyFor ((xX1_estimateFor R F p1).2) F p1)) / (100 : Int32)) then ((((xX1_sumOfReadings ((xX1_estimateFor R F p1).2) F).1) - (xX1_sumOf ((xX1_sumOfReadings ((xX1_estimateFor R F p1).2) F).2) F 4)) - (xX1_kilogramsBilled ((xX1_sumOfReadings ((xX1_estimateFor R F p1).2) F).2) F)) else ((((xX1_estimateFor R F p1).1) * (xX1_certaintyFor ((xX1_estimateFor R F p1).2) F p1)) / (100 : Int32))) else (0 : Int32))) hx hb hr (fun t ht hW => ⟨by rw [hX], by rw [hX, ht]; with_reducible exact hP, hS.F ht⟩) hS.2.2 dX1_kilogramsToBill_45

def xX1_billAmount (R F : Nat → Nat → Int32) (p1 : Int32) : Int32 :=
  (if (xX1_isWalker R F p1) = (0 : Int32) then (0 : Int32) else ((xX1_orZero (R 11 (p1).toNatClampNeg)) * (R 12 (p1).toNatClampNeg)))
set_option maxHeartbeats 4000000 in
set_option maxRecDepth 100000 in
theorem mX1_billAmount (l : Launch) (D : va_G) (cI cS : ClassId) (ad : Nat → Nat) (hI : Inj ad) (R F : Nat → Nat → Int32) (p1 : Int32) : Met l yX1_billAmount wsX1_billAmount ({ frames := 1, cells := 0, slots := 0, locals := 21 }) (PW D cI cS ad R F [.ref (ad 0), .int p1]) (QS (xX1_billAmount R F p1)) 0 0 (fun _ => False) := by
  refine Met.ofW (cc := cX1_billAmount) (maxL := 2) (ret := (some .int)) (by decide) rfl ?_
  intro p e s m args below meth c s₁ B hml hv
  obtain ⟨rfl, hP, hK⟩ := hv
  have hx := B.exec
  have hb := B.bytes
  have hr := B.returns
  have hts := atoms_spec (ws := wsX1_billAmount) B.pre
  have hown : s.vm.findClass RX1 = some m.cls := findClass_of_methodNamed B.named
  have hlocks := B.notSynchronized
  have hS : va_S (AA ad) s.heap s.heap [] := va_S.rf
  have hl := lv_entry ([.ref (ad 0), .int p1]) (n := 2) (Nat.le_of_ble_eq_true rfl)
  rw [lg_entry_eq]
  generalize (lg_sl ([.ref (ad 0), .int p1]) ++ List.replicate (2 - (lg_sl ([.ref (ad 0), .int p1])).length) Slot.unset).toArray = ls at hl ⊢
  have hl : lv_has ls 2 [(0, .ref (ad 0)), (1, .int p1)] := hl
  have lk10 := hts (.fieldLink RX1 10 "FerryFloor" "now" "LFerryFloor$State;") (by decide +kernel)
  have lk116 := hts (.fieldLink RX1 116 "FerryFloor$State" "billKilograms" "[I") (by decide +kernel)
  have lk123 := hts (.fieldLink RX1 123 "FerryFloor$State" "billPrices" "[I") (by decide +kernel)
  have hin1 : ∀ w ∈ u_ws RX1 TX1 7, w ∈ wsX1_billAmount := by decide +kernel
  have hin0 : ∀ w ∈ u_ws RX0 TX0 15, w ∈ wsX1_billAmount := by decide +kernel
  refine lv_aload_n hx hb dX1_billAmount_0 rfl (lv_at hl 0 rfl) ?_
  refine lv_iload_n hx hb dX1_billAmount_1 rfl (lv_at hl 1 rfl) ?_
  refine q_callS (va_runV (As := [.int p1]) (rest := []) ⟨hx, hb, hml, hown, hts⟩ (mX1_isWalker l D cI cS ad hI R F p1) (cwV 1 hts gX1_billAmount_X1_isWalker rfl rfl rfl (by decide +kernel) ⟨Nat.le_of_ble_eq_true rfl, Nat.le_of_ble_eq_true rfl⟩) (PW_preV (i := 0) (by decide) CC_0 rfl rfl hK hP) rfl rfl hl.1 rfl (lv_room (Nat.le_of_ble_eq_true rfl)) dX1_billAmount_2 ⟨Nat.zero_le _, Nat.zero_le _⟩) ?_
  refine lv_if_eq (tgt := 33) hx hb dX1_billAmount_5 (by decide) (fun c_5 => ?_) (fun c_5 => ?_)
  · refine lv_iconst (v := 0) hx hb dX1_billAmount_33 (by decide) ?_
    have hX : (xX1_billAmount R F p1) = (0 : Int32) := by unfold xX1_billAmount; rw [if_pos c_5]
    exact W.iret (v := (0 : Int32)) hx hb hr (fun t ht hW => ⟨by rw [hX], ht⟩) (fun _ h => by cases h) dX1_billAmount_34
  · refine lv_aload_n hx hb dX1_billAmount_8 rfl (lv_at hl 0 rfl) ?_
    refine q_getF (v := .ref (ad 1)) hx hb hts hin1 hown hK hP 0 (by decide) lk10 (fun _ h => h) rfl dX1_billAmount_9 ?_
    refine q_getS (v := .ref (ad 11)) hx hb hts hin0 hown hK hP 1 st_1 12 (by decide) lk116 (fun _ h => h) rfl dX1_billAmount_12 ?_
    refine lv_iload_n hx hb dX1_billAmount_15 rfl (lv_at hl 1 rfl) ?_
    refine q_ild hx hb hK hP 11 8 (ar_11) dX1_billAmount_16 (by first | assumption | exact isCell_in (by assumption) | exact isWalker_in (by assumption) | exact isAboard_in (by assumption) | exact isPair_in1 (by assumption) | exact isPair_in2 (by assumption) | exact isWithin7_in (by assumption) | exact vp_in_nI (by omega) (by decide)) ?_
    refine q_callS (va_runS (As := [.int (R 11 (p1).toNatClampNeg)]) (rest := []) ⟨hx, hb, hml, hown, hts⟩ (mX1_orZero l D cI cS ad hI R F (R 11 (p1).toNatClampNeg)) (va_cwS 1 hts gX1_billAmount_X1_orZero rfl rfl rfl (by decide +kernel) ⟨Nat.le_of_ble_eq_true rfl, Nat.le_of_ble_eq_true rfl⟩) (PW_preS hK hP) rfl rfl hl.1 rfl (lv_room (Nat.le_of_ble_eq_true rfl)) dX1_billAmount_17 ⟨Nat.zero_le _, Nat.zero_le _⟩) ?_
    refine lv_aload_n hx hb dX1_billAmount_20 rfl (lv_at hl 0 rfl) ?_
    refine q_getF (v := .ref (ad 1)) hx hb hts hin1 hown hK hP 0 (by decide) lk10 (fun _ h => h) rfl dX1_billAmount_21 ?_
    refine q_getS (v := .ref (ad 12)) hx hb hts hin0 hown hK hP 1 st_1 13 (by decide) lk123 (fun _ h => h) rfl dX1_billAmount_24 ?_
    refine lv_iload_n hx hb dX1_billAmount_27 rfl (lv_at hl 1 rfl) ?_
    refine q_ild hx hb hK hP 12 8 (ar_12) dX1_billAmount_28 (by first | assumption | exact isCell_in (by assumption) | exact isWalker_in (by assumption) | exact isAboard_in (by assumption) | exact isPair_in1 (by assumption) | exact isPair_in2 (by assumption) | exact isWithin7_in (by assumption) | exact vp_in_nI (by omega) (by decide)) ?_
    refine lv_imul hx hb dX1_billAmount_29 ?_
    refine lv_goto (tgt := 34) hx hb dX1_billAmount_30 (by decide) ?_
    have hX : (xX1_billAmount R F p1) = ((xX1_orZero (R 11 (p1).toNatClampNeg)) * (R 12 (p1).toNatClampNeg)) := by unfold xX1_billAmount; rw [if_neg c_5]
    exact W.iret (v := ((xX1_orZero (R 11 (p1).toNatClampNeg)) * (R 12 (p1).toNatClampNeg))) hx hb hr (fun t ht hW => ⟨by rw [hX], ht⟩) (fun _ h => by cases h) dX1_billAmount_34

def xX1_backAmount (R F : Nat → Nat → Int32) (p1 : Int32) : Int32 :=
  (if (xX1_isWalker R F p1) = (0 : Int32) then (0 : Int32) else ((xX1_orZero (R 13 (p1).toNatClampNeg)) * (R 12 (p1).toNatClampNeg)))
set_option maxHeartbeats 4000000 in
set_option maxRecDepth 100000 in
theorem mX1_backAmount (l : Launch) (D : va_G) (cI cS : ClassId) (ad : Nat → Nat) (hI : Inj ad) (R F : Nat → Nat → Int32) (p1 : Int32) : Met l yX1_backAmount wsX1_backAmount ({ frames := 1, cells := 0, slots := 0, locals := 21 }) (PW D cI cS ad R F [.ref (ad 0), .int p1]) (QS (xX1_backAmount R F p1)) 0 0 (fun _ => False) := by
  refine Met.ofW (cc := cX1_backAmount) (maxL := 2) (ret := (some .int)) (by decide) rfl ?_
  intro p e s m args below meth c s₁ B hml hv
  obtain ⟨rfl, hP, hK⟩ := hv
  have hx := B.exec
  have hb := B.bytes
  have hr := B.returns
  have hts := atoms_spec (ws := wsX1_backAmount) B.pre
  have hown : s.vm.findClass RX1 = some m.cls := findClass_of_methodNamed B.named
  have hlocks := B.notSynchronized
  have hS : va_S (AA ad) s.heap s.heap [] := va_S.rf
  have hl := lv_entry ([.ref (ad 0), .int p1]) (n := 2) (Nat.le_of_ble_eq_true rfl)
  rw [lg_entry_eq]
  generalize (lg_sl ([.ref (ad 0), .int p1]) ++ List.replicate (2 - (lg_sl ([.ref (ad 0), .int p1])).length) Slot.unset).toArray = ls at hl ⊢
  have hl : lv_has ls 2 [(0, .ref (ad 0)), (1, .int p1)] := hl
  have lk10 := hts (.fieldLink RX1 10 "FerryFloor" "now" "LFerryFloor$State;") (by decide +kernel)
  have lk126 := hts (.fieldLink RX1 126 "FerryFloor$State" "backKilograms" "[I") (by decide +kernel)
  have lk123 := hts (.fieldLink RX1 123 "FerryFloor$State" "billPrices" "[I") (by decide +kernel)
  have hin1 : ∀ w ∈ u_ws RX1 TX1 7, w ∈ wsX1_backAmount := by decide +kernel
  have hin0 : ∀ w ∈ u_ws RX0 TX0 15, w ∈ wsX1_backAmount := by decide +kernel
  refine lv_aload_n hx hb dX1_backAmount_0 rfl (lv_at hl 0 rfl) ?_
  refine lv_iload_n hx hb dX1_backAmount_1 rfl (lv_at hl 1 rfl) ?_
  refine q_callS (va_runV (As := [.int p1]) (rest := []) ⟨hx, hb, hml, hown, hts⟩ (mX1_isWalker l D cI cS ad hI R F p1) (cwV 1 hts gX1_backAmount_X1_isWalker rfl rfl rfl (by decide +kernel) ⟨Nat.le_of_ble_eq_true rfl, Nat.le_of_ble_eq_true rfl⟩) (PW_preV (i := 0) (by decide) CC_0 rfl rfl hK hP) rfl rfl hl.1 rfl (lv_room (Nat.le_of_ble_eq_true rfl)) dX1_backAmount_2 ⟨Nat.zero_le _, Nat.zero_le _⟩) ?_
  refine lv_if_eq (tgt := 33) hx hb dX1_backAmount_5 (by decide) (fun c_5 => ?_) (fun c_5 => ?_)
  · refine lv_iconst (v := 0) hx hb dX1_backAmount_33 (by decide) ?_
    have hX : (xX1_backAmount R F p1) = (0 : Int32) := by unfold xX1_backAmount; rw [if_pos c_5]
    exact W.iret (v := (0 : Int32)) hx hb hr (fun t ht hW => ⟨by rw [hX], ht⟩) (fun _ h => by cases h) dX1_backAmount_34
  · refine lv_aload_n hx hb dX1_backAmount_8 rfl (lv_at hl 0 rfl) ?_
    refine q_getF (v := .ref (ad 1)) hx hb hts hin1 hown hK hP 0 (by decide) lk10 (fun _ h => h) rfl dX1_backAmount_9 ?_
    refine q_getS (v := .ref (ad 13)) hx hb hts hin0 hown hK hP 1 st_1 14 (by decide) lk126 (fun _ h => h) rfl dX1_backAmount_12 ?_
    refine lv_iload_n hx hb dX1_backAmount_15 rfl (lv_at hl 1 rfl) ?_
    refine q_ild hx hb hK hP 13 8 (ar_13) dX1_backAmount_16 (by first | assumption | exact isCell_in (by assumption) | exact isWalker_in (by assumption) | exact isAboard_in (by assumption) | exact isPair_in1 (by assumption) | exact isPair_in2 (by assumption) | exact isWithin7_in (by assumption) | exact vp_in_nI (by omega) (by decide)) ?_
    refine q_callS (va_runS (As := [.int (R 13 (p1).toNatClampNeg)]) (rest := []) ⟨hx, hb, hml, hown, hts⟩ (mX1_orZero l D cI cS ad hI R F (R 13 (p1).toNatClampNeg)) (va_cwS 1 hts gX1_backAmount_X1_orZero rfl rfl rfl (by decide +kernel) ⟨Nat.le_of_ble_eq_true rfl, Nat.le_of_ble_eq_true rfl⟩) (PW_preS hK hP) rfl rfl hl.1 rfl (lv_room (Nat.le_of_ble_eq_true rfl)) dX1_backAmount_17 ⟨Nat.zero_le _, Nat.zero_le _⟩) ?_
    refine lv_aload_n hx hb dX1_backAmount_20 rfl (lv_at hl 0 rfl) ?_
    refine q_getF (v := .ref (ad 1)) hx hb hts hin1 hown hK hP 0 (by decide) lk10 (fun _ h => h) rfl dX1_backAmount_21 ?_
    refine q_getS (v := .ref (ad 12)) hx hb hts hin0 hown hK hP 1 st_1 13 (by decide) lk123 (fun _ h => h) rfl dX1_backAmount_24 ?_
    refine lv_iload_n hx hb dX1_backAmount_27 rfl (lv_at hl 1 rfl) ?_
    refine q_ild hx hb hK hP 12 8 (ar_12) dX1_backAmount_28 (by first | assumption | exact isCell_in (by assumption) | exact isWalker_in (by assumption) | exact isAboard_in (by assumption) | exact isPair_in1 (by assumption) | exact isPair_in2 (by assumption) | exact isWithin7_in (by assumption) | exact vp_in_nI (by omega) (by decide)) ?_
    refine lv_imul hx hb dX1_backAmount_29 ?_
    refine lv_goto (tgt := 34) hx hb dX1_backAmount_30 (by decide) ?_
    have hX : (xX1_backAmount R F p1) = ((xX1_orZero (R 13 (p1).toNatClampNeg)) * (R 12 (p1).toNatClampNeg)) := by unfold xX1_backAmount; rw [if_neg c_5]
    exact W.iret (v := ((xX1_orZero (R 13 (p1).toNatClampNeg)) * (R 12 (p1).toNatClampNeg))) hx hb hr (fun t ht hW => ⟨by rw [hX], ht⟩) (fun _ h => by cases h) dX1_backAmount_34

def hX1_sumOfBillAmounts_4 (R F : Nat → Nat → Int32) : Nat → Nat → Int32 → Int32
  | 0, k, x1 => x1
  | n + 1, k, x1 => (hX1_sumOfBillAmounts_4 R F n (k + 1) (x1 + (xX1_billAmount R F (nI k))))
theorem hX1_sumOfBillAmounts_4_z (R F : Nat → Nat → Int32) (k : Nat) (x1 : Int32) : hX1_sumOfBillAmounts_4 R F 0 k x1 = x1 := rfl
theorem hX1_sumOfBillAmounts_4_s (R F : Nat → Nat → Int32) (n : Nat) (k : Nat) (x1 : Int32) : hX1_sumOfBillAmounts_4 R F (n + 1) k x1 = (hX1_sumOfBillAmounts_4 R F n (k + 1) (x1 + (xX1_billAmount R F (nI k)))) := rfl
def xX1_sumOfBillAmounts (R F : Nat → Nat → Int32) : Int32 :=
  (hX1_sumOfBillAmounts_4 R F 8 0 (0 : Int32))
set_option maxHeartbeats 4000000 in
set_option maxRecDepth 100000 in
theorem mX1_sumOfBillAmounts (l : Launch) (D : va_G) (cI cS : ClassId) (ad : Nat → Nat) (hI : Inj ad) (R F : Nat → Nat → Int32)  : Met l yX1_sumOfBillAmounts wsX1_sumOfBillAmounts ({ frames := 2, cells := 0, slots := 0, locals := 42 }) (PW D cI cS ad R F [.ref (ad 0)]) (QS (xX1_sumOfBillAmounts R F)) 0 0 (fun _ => False) := by
  refine Met.ofW (cc := cX1_sumOfBillAmounts) (maxL := 3) (ret := (some .int)) (by decide) rfl ?_
  intro p e s m args below meth c s₁ B hml hv
  obtain ⟨rfl, hP, hK⟩ := hv
  have hx := B.exec
  have hb := B.bytes
  have hr := B.returns
  have hts := atoms_spec (ws := wsX1_sumOfBillAmounts) B.pre
  have hown : s.vm.findClass RX1 = some m.cls := findClass_of_methodNamed B.named
  have hlocks := B.notSynchronized
  have hS : va_S (AA ad) s.heap s.heap [] := va_S.rf
  have hl := lv_entry ([.ref (ad 0)]) (n := 3) (Nat.le_of_ble_eq_true rfl)
  rw [lg_entry_eq]
  generalize (lg_sl ([.ref (ad 0)]) ++ List.replicate (3 - (lg_sl ([.ref (ad 0)])).length) Slot.unset).toArray = ls at hl ⊢
  have hl : lv_has ls 3 [(0, .ref (ad 0))] := hl
  refine lv_iconst (v := 0) hx hb dX1_sumOfBillAmounts_0 (by decide) ?_
  refine lv_istore_n (lv' := [(1, .int (0 : Int32)), (0, .ref (ad 0))]) hx hb dX1_sumOfBillAmounts_1 rfl hl (by decide) rfl (fun ls hl => ?_)
  refine lv_iconst (v := 0) hx hb dX1_sumOfBillAmounts_2 (by decide) ?_
  refine lv_istore_n (lv' := [(2, .int (0 : Int32)), (1, .int (0 : Int32)), (0, .ref (ad 0))]) hx hb dX1_sumOfBillAmounts_3 rfl hl (by decide) rfl (fun ls hl => ?_)
  refine q_loop (fun nn H locs ls => ∃ (k : Nat) (x1 : Int32), k + nn = 8 ∧ hX1_sumOfBillAmounts_4 R F nn k x1 = (xX1_sumOfBillAmounts R F) ∧ WP D cI cS ad R F H ∧ locs = [] ∧ H = s.heap ∧ lv_has ls 3 [(2, .int (nI k)), (1, .int x1), (0, .ref (ad 0))]) 8 ⟨0, (0 : Int32), by omega, by unfold xX1_sumOfBillAmounts; rfl, hP, rfl, rfl, lv_sub hl [0, 1, 2] rfl⟩ ?_ ?_
  · intro H locs ls hz
    obtain ⟨k, x1, hkn, hsp, hP, rfl, rfl, hl⟩ := hz
    refine lv_iload_n hx hb dX1_sumOfBillAmounts_4 rfl (lv_at hl 0 rfl) ?_
    refine lv_bipush (v := 8) hx hb dX1_sumOfBillAmounts_5 (by decide) ?_
    refine lv_icmp_ge (tgt := 24) hx hb dX1_sumOfBillAmounts_7 (by decide) (fun c_7 => ?_) (fun c_7 => ?_)
    · refine lv_iload_n hx hb dX1_sumOfBillAmounts_24 rfl (lv_at hl 1 rfl) ?_
      have hX : (xX1_sumOfBillAmounts R F) = x1 := by rw [← hsp, hX1_sumOfBillAmounts_4_z]
      exact W.iret (v := x1) hx hb hr (fun t ht hW => ⟨by rw [hX], ht⟩) (fun _ h => by cases h) dX1_sumOfBillAmounts_25
    · exact absurd (nI_le (a := 8) (b := k) (by omega) (by omega)) c_7
  · intro n ih H locs ls hz
    obtain ⟨k, x1, hkn, hsp, hP, rfl, rfl, hl⟩ := hz
    refine lv_iload_n hx hb dX1_sumOfBillAmounts_4 rfl (lv_at hl 0 rfl) ?_
    refine lv_bipush (v := 8) hx hb dX1_sumOfBillAmounts_5 (by decide) ?_
    refine lv_icmp_ge (tgt := 24) hx hb dX1_sumOfBillAmounts_7 (by decide) (fun c_7 => ?_) (fun c_7 => ?_)
    · exact absurd c_7 (nI_ge (a := k) (b := 8) (by omega) (by omega))
    · refine lv_iload_n hx hb dX1_sumOfBillAmounts_10 rfl (lv_at hl 1 rfl) ?_
      refine lv_aload_n hx hb dX1_sumOfBillAmounts_11 rfl (lv_at hl 2 rfl) ?_
      refine lv_iload_n hx hb dX1_sumOfBillAmounts_12 rfl (lv_at hl 0 rfl) ?_
      refine q_callS (va_runV (As := [.int (nI k)]) (rest := [.int x1]) ⟨hx, hb, hml, hown, hts⟩ (mX1_billAmount l D cI cS ad hI R F (nI k)) (cwV 1 hts gX1_sumOfBillAmounts_X1_billAmount rfl rfl rfl (by decide +kernel) ⟨Nat.le_of_ble_eq_true rfl, Nat.le_of_ble_eq_true rfl⟩) (PW_preV (i := 0) (by decide) CC_0 rfl rfl hK hP) rfl rfl hl.1 rfl (lv_room (Nat.le_of_ble_eq_true rfl)) dX1_sumOfBillAmounts_13 ⟨Nat.zero_le _, Nat.zero_le _⟩) ?_
      refine lv_iadd hx hb dX1_sumOfBillAmounts_16 ?_
      refine lv_istore_n (lv' := [(1, .int (x1 + (xX1_billAmount R F (nI k)))), (2, .int (nI k)), (0, .ref (ad 0))]) hx hb dX1_sumOfBillAmounts_17 rfl hl (by decide) rfl (fun ls hl => ?_)
      refine lv_iinc (v := (nI (k + 1))) (lv' := [(2, .int (nI (k + 1))), (1, .int (x1 + (xX1_billAmount R F (nI k)))), (0, .ref (ad 0))]) hx hb dX1_sumOfBillAmounts_18 hl (k := 1) rfl (nI_1 k) (by decide) rfl (fun ls hl => ?_)
      refine lv_goto (tgt := 4) hx hb dX1_sumOfBillAmounts_21 (by decide) ?_
      exact ih _ _ _ ⟨(k + 1), (x1 + (xX1_billAmount R F (nI k))), by omega, by rw [← hsp, hX1_sumOfBillAmounts_4_s], hP, rfl, rfl, lv_sub hl [0, 1, 2] rfl⟩

def hX1_sumOfBackAmounts_4 (R F : Nat → Nat → Int32) : Nat → Nat → Int32 → Int32
  | 0, k, x1 => x1
  | n + 1, k, x1 => (hX1_sumOfBackAmounts_4 R F n (k + 1) (x1 + (xX1_backAmount R F (nI k))))
theorem hX1_sumOfBackAmounts_4_z (R F : Nat → Nat → Int32) (k : Nat) (x1 : Int32) : hX1_sumOfBackAmounts_4 R F 0 k x1 = x1 := rfl
theorem hX1_sumOfBackAmounts_4_s (R F : Nat → Nat → Int32) (n : Nat) (k : Nat) (x1 : Int32) : hX1_sumOfBackAmounts_4 R F (n + 1) k x1 = (hX1_sumOfBackAmounts_4 R F n (k + 1) (x1 + (xX1_backAmount R F (nI k)))) := rfl
def xX1_sumOfBackAmounts (R F : Nat → Nat → Int32) : Int32 :=
  (hX1_sumOfBackAmounts_4 R F 8 0 (0 : Int32))
set_option maxHeartbeats 4000000 in
set_option maxRecDepth 100000 in
theorem mX1_sumOfBackAmounts (l : Launch) (D : va_G) (cI cS : ClassId) (ad : Nat → Nat) (hI : Inj ad) (R F : Nat → Nat → Int32)  : Met l yX1_sumOfBackAmounts wsX1_sumOfBackAmounts ({ frames := 2, cells := 0, slots := 0, locals := 42 }) (PW D cI cS ad R F [.ref (ad 0)]) (QS (xX1_sumOfBackAmounts R F)) 0 0 (fun _ => False) := by
  refine Met.ofW (cc := cX1_sumOfBackAmounts) (maxL := 3) (ret := (some .int)) (by decide) rfl ?_
  intro p e s m args below meth c s₁ B hml hv
  obtain ⟨rfl, hP, hK⟩ := hv
  have hx := B.exec
  have hb := B.bytes
  have hr := B.returns
  have hts := atoms_spec (ws := wsX1_sumOfBackAmounts) B.pre
  have hown : s.vm.findClass RX1 = some m.cls := findClass_of_methodNamed B.named
  have hlocks := B.notSynchronized
  have hS : va_S (AA ad) s.heap s.heap [] := va_S.rf
  have hl := lv_entry ([.ref (ad 0)]) (n := 3) (Nat.le_of_ble_eq_true rfl)
  rw [lg_entry_eq]
  generalize (lg_sl ([.ref (ad 0)]) ++ List.replicate (3 - (lg_sl ([.ref (ad 0)])).length) Slot.unset).toArray = ls at hl ⊢
  have hl : lv_has ls 3 [(0, .ref (ad 0))] := hl
  refine lv_iconst (v := 0) hx hb dX1_sumOfBackAmounts_0 (by decide) ?_
  refine lv_istore_n (lv' := [(1, .int (0 : Int32)), (0, .ref (ad 0))]) hx hb dX1_sumOfBackAmounts_1 rfl hl (by decide) rfl (fun ls hl => ?_)
  refine lv_iconst (v := 0) hx hb dX1_sumOfBackAmounts_2 (by decide) ?_
  refine lv_istore_n (lv' := [(2, .int (0 : Int32)), (1, .int (0 : Int32)), (0, .ref (ad 0))]) hx hb dX1_sumOfBackAmounts_3 rfl hl (by decide) rfl (fun ls hl => ?_)
  refine q_loop (fun nn H locs ls => ∃ (k : Nat) (x1 : Int32), k + nn = 8 ∧ hX1_sumOfBackAmounts_4 R F nn k x1 = (xX1_sumOfBackAmounts R F) ∧ WP D cI cS ad R F H ∧ locs = [] ∧ H = s.heap ∧ lv_has ls 3 [(2, .int (nI k)), (1, .int x1), (0, .ref (ad 0))]) 8 ⟨0, (0 : Int32), by omega, by unfold xX1_sumOfBackAmounts; rfl, hP, rfl, rfl, lv_sub hl [0, 1, 2] rfl⟩ ?_ ?_
  · intro H locs ls hz
    obtain ⟨k, x1, hkn, hsp, hP, rfl, rfl, hl⟩ := hz
    refine lv_iload_n hx hb dX1_sumOfBackAmounts_4 rfl (lv_at hl 0 rfl) ?_
    refine lv_bipush (v := 8) hx hb dX1_sumOfBackAmounts_5 (by decide) ?_
    refine lv_icmp_ge (tgt := 24) hx hb dX1_sumOfBackAmounts_7 (by decide) (fun c_7 => ?_) (fun c_7 => ?_)
    · refine lv_iload_n hx hb dX1_sumOfBackAmounts_24 rfl (lv_at hl 1 rfl) ?_
      have hX : (xX1_sumOfBackAmounts R F) = x1 := by rw [← hsp, hX1_sumOfBackAmounts_4_z]
      exact W.iret (v := x1) hx hb hr (fun t ht hW => ⟨by rw [hX], ht⟩) (fun _ h => by cases h) dX1_sumOfBackAmounts_25
    · exact absurd (nI_le (a := 8) (b := k) (by omega) (by omega)) c_7
  · intro n ih H locs ls hz
    obtain ⟨k, x1, hkn, hsp, hP, rfl, rfl, hl⟩ := hz
    refine lv_iload_n hx hb dX1_sumOfBackAmounts_4 rfl (lv_at hl 0 rfl) ?_
    refine lv_bipush (v := 8) hx hb dX1_sumOfBackAmounts_5 (by decide) ?_
    refine lv_icmp_ge (tgt := 24) hx hb dX1_sumOfBackAmounts_7 (by decide) (fun c_7 => ?_) (fun c_7 => ?_)
    · exact absurd c_7 (nI_ge (a := k) (b := 8) (by omega) (by omega))
    · refine lv_iload_n hx hb dX1_sumOfBackAmounts_10 rfl (lv_at hl 1 rfl) ?_
      refine lv_aload_n hx hb dX1_sumOfBackAmounts_11 rfl (lv_at hl 2 rfl) ?_
      refine lv_iload_n hx hb dX1_sumOfBackAmounts_12 rfl (lv_at hl 0 rfl) ?_
      refine q_callS (va_runV (As := [.int (nI k)]) (rest := [.int x1]) ⟨hx, hb, hml, hown, hts⟩ (mX1_backAmount l D cI cS ad hI R F (nI k)) (cwV 1 hts gX1_sumOfBackAmounts_X1_backAmount rfl rfl rfl (by decide +kernel) ⟨Nat.le_of_ble_eq_true rfl, Nat.le_of_ble_eq_true rfl⟩) (PW_preV (i := 0) (by decide) CC_0 rfl rfl hK hP) rfl rfl hl.1 rfl (lv_room (Nat.le_of_ble_eq_true rfl)) dX1_sumOfBackAmounts_13 ⟨Nat.zero_le _, Nat.zero_le _⟩) ?_
      refine lv_iadd hx hb dX1_sumOfBackAmounts_16 ?_
      refine lv_istore_n (lv' := [(1, .int (x1 + (xX1_backAmount R F (nI k)))), (2, .int (nI k)), (0, .ref (ad 0))]) hx hb dX1_sumOfBackAmounts_17 rfl hl (by decide) rfl (fun ls hl => ?_)
      refine lv_iinc (v := (nI (k + 1))) (lv' := [(2, .int (nI (k + 1))), (1, .int (x1 + (xX1_backAmount R F (nI k)))), (0, .ref (ad 0))]) hx hb dX1_sumOfBackAmounts_18 hl (k := 1) rfl (nI_1 k) (by decide) rfl (fun ls hl => ?_)
      refine lv_goto (tgt := 4) hx hb dX1_sumOfBackAmounts_21 (by decide) ?_
      exact ih _ _ _ ⟨(k + 1), (x1 + (xX1_backAmount R F (nI k))), by omega, by rw [← hsp, hX1_sumOfBackAmounts_4_s], hP, rfl, rfl, lv_sub hl [0, 1, 2] rfl⟩
end
