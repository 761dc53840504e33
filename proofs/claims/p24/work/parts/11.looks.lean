def xX1_count (R F : Nat → Nat → Int32) (p1 : Int32) : Int32 × (Nat → Nat → Int32) :=
  (if p1 = (0 : Int32) then ((F 1 0), R) else (if p1 = (1 : Int32) then ((F 1 2), R) else (if p1 = (2 : Int32) then ((xX1_walkersAboard R F), R) else (if p1 = (3 : Int32) then ((F 0 1), R) else (if p1 = (4 : Int32) then (((xX1_errorWith R F 9).1), ((xX1_errorWith R F 9).2)) else (if p1 = (5 : Int32) then (((xX1_sumOfReadings R F).1), ((xX1_sumOfReadings R F).2)) else (if p1 = (6 : Int32) then ((xX1_sumOf R F 4), R) else (if p1 = (7 : Int32) then ((xX1_walkersMisplaced R F), R) else (if p1 = (8 : Int32) then ((F 1 1), R) else (if p1 = (9 : Int32) then ((xX1_kilogramsBilled R F), R) else (if p1 = (10 : Int32) then ((xX1_sumOfBillAmounts R F), R) else (if p1 = (11 : Int32) then ((xX1_sumOfBackAmounts R F), R) else ((-100001 : Int32), R)))))))))))))
set_option maxHeartbeats 4000000 in
set_option maxRecDepth 100000 in
theorem mX1_count (l : Launch) (D : va_G) (cI cS : ClassId) (ad : Nat → Nat) (hI : Inj ad) (R F : Nat → Nat → Int32) (p1 : Int32) : Met l yX1_count wsX1_count ({ frames := 5, cells := 0, slots := 0, locals := 115 }) (PW D cI cS ad R F [.ref (ad 0), .int p1]) (QI D cI cS ad ((xX1_count R F p1).1) ((xX1_count R F p1).2) F) 0 0 (AA ad) := by
  refine Met.ofW (cc := cX1_count) (maxL := 2) (ret := (some .int)) (by decide) rfl ?_
  intro p e s m args below meth c s₁ B hml hv
  obtain ⟨rfl, hP, hK⟩ := hv
  have hx := B.exec
  have hb := B.bytes
  have hr := B.returns
  have hts := atoms_spec (ws := wsX1_count) B.pre
  have hown : s.vm.findClass RX1 = some m.cls := findClass_of_methodNamed B.named
  have hlocks := B.notSynchronized
  have hS : va_S (AA ad) s.heap s.heap [] := va_S.rf
  have hl := lv_entry ([.ref (ad 0), .int p1]) (n := 2) (Nat.le_of_ble_eq_true rfl)
  rw [lg_entry_eq]
  generalize (lg_sl ([.ref (ad 0), .int p1]) ++ List.replicate (2 - (lg_sl ([.ref (ad 0), .int p1])).length) Slot.unset).toArray = ls at hl ⊢
  have hl : lv_has ls 2 [(0, .ref (ad 0)), (1, .int p1)] := hl
  have lk10 := hts (.fieldLink RX1 10 "FerryFloor" "now" "LFerryFloor$State;") (by decide +kernel)
  have lk52 := hts (.fieldLink RX1 52 "FerryFloor$State" "minute" "I") (by decide +kernel)
  have lk79 := hts (.fieldLink RX1 79 "FerryFloor$State" "walkers" "I") (by decide +kernel)
  have lk24 := hts (.fieldLink RX1 24 "FerryFloor" "kept" "I") (by decide +kernel)
  have lk89 := hts (.fieldLink RX1 89 "FerryFloor$State" "bookPlaces" "[I") (by decide +kernel)
  have lk62 := hts (.fieldLink RX1 62 "FerryFloor$State" "tares" "[I") (by decide +kernel)
  have lk110 := hts (.fieldLink RX1 110 "FerryFloor$State" "price" "I") (by decide +kernel)
  have lk45 := hts (.constant RX1 45 (-100001)) (by decide +kernel)
  have hin1 : ∀ w ∈ u_ws RX1 TX1 7, w ∈ wsX1_count := by decide +kernel
  have hin0 : ∀ w ∈ u_ws RX0 TX0 15, w ∈ wsX1_count := by decide +kernel
  refine lv_iload_n hx hb dX1_count_0 rfl (lv_at hl 1 rfl) ?_
  by_cases c_1_0 : p1 = (0 : Int32)
  · refine lv_tableIn (x := p1) (off := 63) (tgt := 64) hx hb dX1_count_1 (by rw [c_1_0]; decide) (by rw [c_1_0]; decide) (by rw [c_1_0]; rfl) (by decide) ?_
    refine lv_aload_n hx hb dX1_count_64 rfl (lv_at hl 0 rfl) ?_
    refine q_getF (v := .ref (ad 1)) hx hb hts hin1 hown hK hP 0 (by decide) lk10 (fun _ h => h) rfl dX1_count_65 ?_
    refine q_getS (v := .int (F 1 0)) hx hb hts hin0 hown hK hP 1 st_1 0 (by decide) lk52 (fun _ h => h) rfl dX1_count_68 ?_
    have hX : (xX1_count R F p1) = ((F 1 0), R) := by unfold xX1_count; rw [if_pos c_1_0]
    exact W.iret (v := (F 1 0)) hx hb hr (fun t ht hW => ⟨by rw [hX], by rw [hX, ht]; with_reducible exact hP, hS.F ht⟩) hS.2.2 dX1_count_71
  by_cases c_1_1 : p1 = (1 : Int32)
  · refine lv_tableIn (x := p1) (off := 71) (tgt := 72) hx hb dX1_count_1 (by rw [c_1_1]; decide) (by rw [c_1_1]; decide) (by rw [c_1_1]; rfl) (by decide) ?_
    refine lv_aload_n hx hb dX1_count_72 rfl (lv_at hl 0 rfl) ?_
    refine q_getF (v := .ref (ad 1)) hx hb hts hin1 hown hK hP 0 (by decide) lk10 (fun _ h => h) rfl dX1_count_73 ?_
    refine q_getS (v := .int (F 1 2)) hx hb hts hin0 hown hK hP 1 st_1 2 (by decide) lk79 (fun _ h => h) rfl dX1_count_76 ?_
    have hX : (xX1_count R F p1) = ((F 1 2), R) := by unfold xX1_count; rw [if_neg c_1_0, if_pos c_1_1]
    exact W.iret (v := (F 1 2)) hx hb hr (fun t ht hW => ⟨by rw [hX], by rw [hX, ht]; with_reducible exact hP, hS.F ht⟩) hS.2.2 dX1_count_79
  by_cases c_1_2 : p1 = (2 : Int32)
  · refine lv_tableIn (x := p1) (off := 79) (tgt := 80) hx hb dX1_count_1 (by rw [c_1_2]; decide) (by rw [c_1_2]; decide) (by rw [c_1_2]; rfl) (by decide) ?_
    refine lv_aload_n hx hb dX1_count_80 rfl (lv_at hl 0 rfl) ?_
    refine q_callS (va_runV (As := []) (rest := []) ⟨hx, hb, hml, hown, hts⟩ (mX1_walkersAboard l D cI cS ad hI R F) (cwV 0 hts gX1_count_X1_walkersAboard rfl rfl rfl (by decide +kernel) ⟨Nat.le_of_ble_eq_true rfl, Nat.le_of_ble_eq_true rfl⟩) (PW_preV (i := 0) (by decide) CC_0 rfl rfl hK hP) rfl rfl hl.1 rfl (lv_room (Nat.le_of_ble_eq_true rfl)) dX1_count_81 ⟨Nat.zero_le _, Nat.zero_le _⟩) ?_
    have hX : (xX1_count R F p1) = ((xX1_walkersAboard R F), R) := by unfold xX1_count; rw [if_neg c_1_0, if_neg c_1_1, if_pos c_1_2]
    exact W.iret (v := (xX1_walkersAboard R F)) hx hb hr (fun t ht hW => ⟨by rw [hX], by rw [hX, ht]; with_reducible exact hP, hS.F ht⟩) hS.2.2 dX1_count_84
  by_cases c_1_3 : p1 = (3 : Int32)
  · refine lv_tableIn (x := p1) (off := 84) (tgt := 85) hx hb dX1_count_1 (by rw [c_1_3]; decide) (by rw [c_1_3]; decide) (by rw [c_1_3]; rfl) (by decide) ?_
    refine lv_aload_n hx hb dX1_count_85 rfl (lv_at hl 0 rfl) ?_
    refine q_getF (v := .int (F 0 1)) hx hb hts hin1 hown hK hP 3 (by decide) lk24 (fun _ h => h) rfl dX1_count_86 ?_
    have hX : (xX1_count R F p1) = ((F 0 1), R) := by unfold xX1_count; rw [if_neg c_1_0, if_neg c_1_1, if_neg c_1_2, if_pos c_1_3]
    exact W.iret (v := (F 0 1)) hx hb hr (fun t ht hW => ⟨by rw [hX], by rw [hX, ht]; with_reducible exact hP, hS.F ht⟩) hS.2.2 dX1_count_89
  by_cases c_1_4 : p1 = (4 : Int32)
  · refine lv_tableIn (x := p1) (off := 89) (tgt := 90) hx hb dX1_count_1 (by rw [c_1_4]; decide) (by rw [c_1_4]; decide) (by rw [c_1_4]; rfl) (by decide) ?_
    refine lv_aload_n hx hb dX1_count_90 rfl (lv_at hl 0 rfl) ?_
    refine lv_aload_n hx hb dX1_count_91 rfl (lv_at hl 0 rfl) ?_
    refine q_getF (v := .ref (ad 1)) hx hb hts hin1 hown hK hP 0 (by decide) lk10 (fun _ h => h) rfl dX1_count_92 ?_
    refine q_getS (v := .ref (ad 9)) hx hb hts hin0 hown hK hP 1 st_1 10 (by decide) lk89 (fun _ h => h) rfl dX1_count_95 ?_
    refine q_callI (va_runV (As := [.ref (ad 9)]) (rest := []) ⟨hx, hb, hml, hown, hts⟩ (mX1_errorWith l D cI cS ad hI R F 9 (ar_9)) (cwV 1 hts gX1_count_X1_errorWith rfl rfl rfl (by decide +kernel) ⟨Nat.le_of_ble_eq_true rfl, Nat.le_of_ble_eq_true rfl⟩) (PW_preV (i := 0) (by decide) CC_0 rfl rfl hK hP) rfl rfl hl.1 rfl (lv_room (Nat.le_of_ble_eq_true rfl)) dX1_count_98 ⟨Nat.zero_le _, Nat.zero_le _⟩) hS (fun H locs hP hS => ?_)
    have hX : (xX1_count R F p1) = (((xX1_errorWith R F 9).1), ((xX1_errorWith R F 9).2)) := by unfold xX1_count; rw [if_neg c_1_0, if_neg c_1_1, if_neg c_1_2, if_neg c_1_3, if_pos c_1_4]
    exact W.iret (v := ((xX1_errorWith R F 9).1)) hx hb hr (fun t ht hW => ⟨by rw [hX], by rw [hX, ht]; with_reducible exact hP, hS.F ht⟩) hS.2.2 dX1_count_101
  by_cases c_1_5 : p1 = (5 : Int32)
  · refine lv_tableIn (x := p1) (off := 101) (tgt := 102) hx hb dX1_count_1 (by rw [c_1_5]; decide) (by rw [c_1_5]; decide) (by rw [c_1_5]; rfl) (by decide) ?_
    refine lv_aload_n hx hb dX1_count_102 rfl (lv_at hl 0 rfl) ?_
    refine q_callI (va_runV (As := []) (rest := []) ⟨hx, hb, hml, hown, hts⟩ (mX1_sumOfReadings l D cI cS ad hI R F) (cwV 0 hts gX1_count_X1_sumOfReadings rfl rfl rfl (by decide +kernel) ⟨Nat.le_of_ble_eq_true rfl, Nat.le_of_ble_eq_true rfl⟩) (PW_preV (i := 0) (by decide) CC_0 rfl rfl hK hP) rfl rfl hl.1 rfl (lv_room (Nat.le_of_ble_eq_true rfl)) dX1_count_103 ⟨Nat.zero_le _, Nat.zero_le _⟩) hS (fun H locs hP hS => ?_)
    have hX : (xX1_count R F p1) = (((xX1_sumOfReadings R F).1), ((xX1_sumOfReadings R F).2)) := by unfold xX1_count; rw [if_neg c_1_0, if_neg c_1_1, if_neg c_1_2, if_neg c_1_3, if_neg c_1_4, if_pos c_1_5]
    exact W.iret (v := ((xX1_sumOfReadings R F).1)) hx hb hr (fun t ht hW => ⟨by rw [hX], by rw [hX, ht]; with_reducible exact hP, hS.F ht⟩) hS.2.2 dX1_count_106
  by_cases c_1_6 : p1 = (6 : Int32)
  · refine lv_tableIn (x := p1) (off := 106) (tgt := 107) hx hb dX1_count_1 (by rw [c_1_6]; decide) (by rw [c_1_6]; decide) (by rw [c_1_6]; rfl) (by decide) ?_
    refine lv_aload_n hx hb dX1_count_107 rfl (lv_at hl 0 rfl) ?_
    refine q_getF (v := .ref (ad 1)) hx hb hts hin1 hown hK hP 0 (by decide) lk10 (fun _ h => h) rfl dX1_count_108 ?_
    refine q_getS (v := .ref (ad 4)) hx hb hts hin0 hown hK hP 1 st_1 5 (by decide) lk62 (fun _ h => h) rfl dX1_count_111 ?_
    refine q_callS (va_runS (As := [.ref (ad 4)]) (rest := []) ⟨hx, hb, hml, hown, hts⟩ (mX1_sumOf l D cI cS ad hI R F 4 (ar_4)) (va_cwS 1 hts gX1_count_X1_sumOf rfl rfl rfl (by decide +kernel) ⟨Nat.le_of_ble_eq_true rfl, Nat.le_of_ble_eq_true rfl⟩) (PW_preS hK hP) rfl rfl hl.1 rfl (lv_room (Nat.le_of_ble_eq_true rfl)) dX1_count_114 ⟨Nat.zero_le _, Nat.zero_le _⟩) ?_
    have hX : (xX1_count R F p1) = ((xX1_sumOf R F 4), R) := by unfold xX1_count; rw [if_neg c_1_0, if_neg c_1_1, if_neg c_1_2, if_neg c_1_3, if_neg c_1_4, if_neg c_1_5, if_pos c_1_6]
    exact W.iret (v := (xX1_sumOf R F 4)) hx hb hr (fun t ht hW => ⟨by rw [hX], by rw [hX, ht]; with_reducible exact hP, hS.F ht⟩) hS.2.2 dX1_count_117
  by_cases c_1_7 : p1 = (7 : Int32)
  · refine lv_tableIn (x := p1) (off := 117) (tgt := 118) hx hb dX1_count_1 (by rw [c_1_7]; decide) (by rw [c_1_7]; decide) (by rw [c_1_7]; rfl) (by decide) ?_
    refine lv_aload_n hx hb dX1_count_118 rfl (lv_at hl 0 rfl) ?_
    refine q_callS (va_runV (As := []) (rest := []) ⟨hx, hb, hml, hown, hts⟩ (mX1_walkersMisplaced l D cI cS ad hI R F) (cwV 0 hts gX1_count_X1_walkersMisplaced rfl rfl rfl (by decide +kernel) ⟨Nat.le_of_ble_eq_true rfl, Nat.le_of_ble_eq_true rfl⟩) (PW_preV (i := 0) (by decide) CC_0 rfl rfl hK hP) rfl rfl hl.1 rfl (lv_room (Nat.le_of_ble_eq_true rfl)) dX1_count_119 ⟨Nat.zero_le _, Nat.zero_le _⟩) ?_
    have hX : (xX1_count R F p1) = ((xX1_walkersMisplaced R F), R) := by unfold xX1_count; rw [if_neg c_1_0, if_neg c_1_1, if_neg c_1_2, if_neg c_1_3, if_neg c_1_4, if_neg c_1_5, if_neg c_1_6, if_pos c_1_7]
    exact W.iret (v := (xX1_walkersMisplaced R F)) hx hb hr (fun t ht hW => ⟨by rw [hX], by rw [hX, ht]; with_reducible exact hP, hS.F ht⟩) hS.2.2 dX1_count_122
  by_cases c_1_8 : p1 = (8 : Int32)
  · refine lv_tableIn (x := p1) (off := 122) (tgt := 123) hx hb dX1_count_1 (by rw [c_1_8]; decide) (by rw [c_1_8]; decide) (by rw [c_1_8]; rfl) (by decide) ?_
    refine lv_aload_n hx hb dX1_count_123 rfl (lv_at hl 0 rfl) ?_
    refine q_getF (v := .ref (ad 1)) hx hb hts hin1 hown hK hP 0 (by decide) lk10 (fun _ h => h) rfl dX1_count_124 ?_
    refine q_getS (v := .int (F 1 1)) hx hb hts hin0 hown hK hP 1 st_1 1 (by decide) lk110 (fun _ h => h) rfl dX1_count_127 ?_
    have hX : (xX1_count R F p1) = ((F 1 1), R) := by unfold xX1_count; rw [if_neg c_1_0, if_neg c_1_1, if_neg c_1_2, if_neg c_1_3, if_neg c_1_4, if_neg c_1_5, if_neg c_1_6, if_neg c_1_7, if_pos c_1_8]
    exact W.iret (v := (F 1 1)) hx hb hr (fun t ht hW => ⟨by rw [hX], by rw [hX, ht]; with_reducible exact hP, hS.F ht⟩) hS.2.2 dX1_count_130
  by_cases c_1_9 : p1 = (9 : Int32)
  · refine lv_tableIn (x := p1) (off := 130) (tgt := 131) hx hb dX1_count_1 (by rw [c_1_9]; decide) (by rw [c_1_9]; decide) (by rw [c_1_9]; rfl) (by decide) ?_
    refine lv_aload_n hx hb dX1_count_131 rfl (lv_at hl 0 rfl) ?_
    refine q_callS (va_runV (As := []) (rest := []) ⟨hx, hb, hml, hown, hts⟩ (mX1_kilogramsBilled l D cI cS ad hI R F) (cwV 0 hts gX1_count_X1_kilogramsBilled rfl rfl rfl (by decide +kernel) ⟨Nat.le_of_ble_eq_true rfl, Nat.le_of_ble_eq_true rfl⟩) (PW_preV (i := 0) (by decide) CC_0 rfl rfl hK hP) rfl rfl hl.1 rfl (lv_room (Nat.le_of_ble_eq_true rfl)) dX1_count_132 ⟨Nat.zero_le _, Nat.zero_le _⟩) ?_
    have hX : (xX1_count R F p1) = ((xX1_kilogramsBilled R F), R) := by unfold xX1_count; rw [if_neg c_1_0, if_neg c_1_1, if_neg c_1_2, if_neg c_1_3, if_neg c_1_4, if_neg c_1_5, if_neg c_1_6, if_neg c_1_7, if_neg c_1_8, if_pos c_1_9]
    exact W.iret (v := (xX1_kilogramsBilled R F)) hx hb hr (fun t ht hW => ⟨by rw [hX], by rw [hX, ht]; with_reducible exact hP, hS.F ht⟩) hS.2.2 dX1_count_135
  by_cases c_1_10 : p1 = (10 : Int32)
  · refine lv_tableIn (x := p1) (off := 135) (tgt := 136) hx hb dX1_count_1 (by rw [c_1_10]; decide) (by rw [c_1_10]; decide) (by rw [c_1_10]; rfl) (by decide) ?_
    refine lv_aload_n hx hb dX1_count_136 rfl (lv_at hl 0 rfl) ?_
    refine q_callS (va_runV (As := []) (rest := []) ⟨hx, hb, hml, hown, hts⟩ (mX1_sumOfBillAmounts l D cI cS ad hI R F) (cwV 0 hts gX1_count_X1_sumOfBillAmounts rfl rfl rfl (by decide +kernel) ⟨Nat.le_of_ble_eq_true rfl, Nat.le_of_ble_eq_true rfl⟩) (PW_preV (i := 0) (by decide) CC_0 rfl rfl hK hP) rfl rfl hl.1 rfl (lv_room (Nat.le_of_ble_eq_true rfl)) dX1_count_137 ⟨Nat.zero_le _, Nat.zero_le _⟩) ?_
    have hX : (xX1_count R F p1) = ((xX1_sumOfBillAmounts R F), R) := by unfold xX1_count; rw [if_neg c_1_0, if_neg c_1_1, if_neg c_1_2, if_neg c_1_3, if_neg c_1_4, if_neg c_1_5, if_neg c_1_6, if_neg c_1_7, if_neg c_1_8, if_neg c_1_9, if_pos c_1_10]
    exact W.iret (v := (xX1_sumOfBillAmounts R F)) hx hb hr (fun t ht hW => ⟨by rw [hX], by rw [hX, ht]; with_reducible exact hP, hS.F ht⟩) hS.2.2 dX1_count_140
  by_cases c_1_11 : p1 = (11 : Int32)
  · refine lv_tableIn (x := p1) (off := 140) (tgt := 141) hx hb dX1_count_1 (by rw [c_1_11]; decide) (by rw [c_1_11]; decide) (by rw [c_1_11]; rfl) (by decide) ?_
    refine lv_aload_n hx hb dX1_count_141 rfl (lv_at hl 0 rfl) ?_
    refine q_callS (va_runV (As := []) (rest := []) ⟨hx, hb, hml, hown, hts⟩ (mX1_sumOfBackAmounts l D cI cS ad hI R F) (cwV 0 hts gX1_count_X1_sumOfBackAmounts rfl rfl rfl (by decide +kernel) ⟨Nat.le_of_ble_eq_true rfl, Nat.le_of_ble_eq_true rfl⟩) (PW_preV (i := 0) (by decide) CC_0 rfl rfl hK hP) rfl rfl hl.1 rfl (lv_room (Nat.le_of_ble_eq_true rfl)) dX1_count_142 ⟨Nat.zero_le _, Nat.zero_le _⟩) ?_
    have hX : (xX1_count R F p1) = ((xX1_sumOfBackAmounts R F), R) := by unfold xX1_count; rw [if_neg c_1_0, if_neg c_1_1, if_neg c_1_2, if_neg c_1_3, if_neg c_1_4, if_neg c_1_5, if_neg c_1_6, if_neg c_1_7, if_neg c_1_8, if_neg c_1_9, if_neg c_1_10, if_pos c_1_11]
    exact W.iret (v := (xX1_sumOfBackAmounts R F)) hx hb hr (fun t ht hW => ⟨by rw [hX], by rw [hX, ht]; with_reducible exact hP, hS.F ht⟩) hS.2.2 dX1_count_145
  refine lv_tableOut (x := p1) (tgt := 146) hx hb dX1_count_1 (sw_out12 c_1_0 c_1_1 c_1_2 c_1_3 c_1_4 c_1_5 c_1_6 c_1_7 c_1_8 c_1_9 c_1_10 c_1_11) (by decide) ?_
  refine lv_ldc (v := -100001) hx hb hown lk45 dX1_count_146 ?_
  have hX : (xX1_count R F p1) = ((-100001 : Int32), R) := by unfold xX1_count; rw [if_neg c_1_0, if_neg c_1_1, if_neg c_1_2, if_neg c_1_3, if_neg c_1_4, if_neg c_1_5, if_neg c_1_6, if_neg c_1_7, if_neg c_1_8, if_neg c_1_9, if_neg c_1_10, if_neg c_1_11]
  exact W.iret (v := (-100001 : Int32)) hx hb hr (fun t ht hW => ⟨by rw [hX], by rw [hX, ht]; with_reducible exact hP, hS.F ht⟩) hS.2.2 dX1_count_148

def xX1_cell (R F : Nat → Nat → Int32) (p1 : Int32) (p2 : Int32) : Int32 × (Nat → Nat → Int32) :=
  (if (xX1_isCell p1) = (0 : Int32) then ((-100001 : Int32), R) else (if p2 = (0 : Int32) then (((xX1_weighAll R F) 15 (p1).toNatClampNeg), (xX1_weighAll R F)) else (if p2 = (1 : Int32) then ((R 2 (p1).toNatClampNeg), R) else (if p2 = (2 : Int32) then ((R 3 (p1).toNatClampNeg), R) else (if p2 = (3 : Int32) then ((R 4 (p1).toNatClampNeg), R) else (if p2 = (4 : Int32) then ((R 5 (p1).toNatClampNeg), R) else (if p2 = (5 : Int32) then (((xX1_expectAll R F 9) 16 (p1).toNatClampNeg), (xX1_expectAll R F 9)) else (if p2 = (6 : Int32) then ((xX1_whoIsOn R F 7 p1), R) else (if p2 = (7 : Int32) then ((xX1_whoIsOn R F 9 p1), R) else ((-100001 : Int32), R))))))))))
set_option maxHeartbeats 4000000 in
set_option maxRecDepth 100000 in
theorem mX1_cell (l : Launch) (D : va_G) (cI cS : ClassId) (ad : Nat → Nat) (hI : Inj ad) (R F : Nat → Nat → Int32) (p1 : Int32) (p2 : Int32) : Met l yX1_cell wsX1_cell ({ frames := 4, cells := 0, slots := 0, locals := 92 }) (PW D cI cS ad R F [.ref (ad 0), .int p1, .int p2]) (QI D cI cS ad ((xX1_cell R F p1 p2).1) ((xX1_cell R F p1 p2).2) F) 0 0 (AA ad) := by
  refine Met.ofW (cc := cX1_cell) (maxL := 3) (ret := (some .int)) (by decide) rfl ?_
  intro p e s m args below meth c s₁ B hml hv
  obtain ⟨rfl, hP, hK⟩ := hv
  have hx := B.exec
  have hb := B.bytes
  have hr := B.returns
  have hts := atoms_spec (ws := wsX1_cell) B.pre
  have hown : s.vm.findClass RX1 = some m.cls := findClass_of_methodNamed B.named
  have hlocks := B.notSynchronized
  have hS : va_S (AA ad) s.heap s.heap [] := va_S.rf
  have hl := lv_entry ([.ref (ad 0), .int p1, .int p2]) (n := 3) (Nat.le_of_ble_eq_true rfl)
  rw [lg_entry_eq]
  generalize (lg_sl ([.ref (ad 0), .int p1, .int p2]) ++ List.replicate (3 - (lg_sl ([.ref (ad 0), .int p1, .int p2])).length) Slot.unset).toArray = ls at hl ⊢
  have hl : lv_has ls 3 [(0, .ref (ad 0)), (1, .int p1), (2, .int p2)] := hl
  have lk45 := hts (.constant RX1 45 (-100001)) (by decide +kernel)
  have lk27 := hts (.fieldLink RX1 27 "FerryFloor" "readings" "[I") (by decide +kernel)
  have lk10 := hts (.fieldLink RX1 10 "FerryFloor" "now" "LFerryFloor$State;") (by decide +kernel)
  have lk56 := hts (.fieldLink RX1 56 "FerryFloor$State" "zeros" "[I") (by decide +kernel)
  have lk49 := hts (.fieldLink RX1 49 "FerryFloor$State" "drifts" "[I") (by decide +kernel)
  have lk62 := hts (.fieldLink RX1 62 "FerryFloor$State" "tares" "[I") (by decide +kernel)
  have lk65 := hts (.fieldLink RX1 65 "FerryFloor$State" "tareMinutes" "[I") (by decide +kernel)
  have lk89 := hts (.fieldLink RX1 89 "FerryFloor$State" "bookPlaces" "[I") (by decide +kernel)
  have lk31 := hts (.fieldLink RX1 31 "FerryFloor" "expected" "[I") (by decide +kernel)
  have lk71 := hts (.fieldLink RX1 71 "FerryFloor$State" "places" "[I") (by decide +kernel)
  have hin1 : ∀ w ∈ u_ws RX1 TX1 7, w ∈ wsX1_cell := by decide +kernel
  have hin0 : ∀ w ∈ u_ws RX0 TX0 15, w ∈ wsX1_cell := by decide +kernel
  refine lv_iload_n hx hb dX1_cell_0 rfl (lv_at hl 1 rfl) ?_
  refine q_callS (va_runS (As := [.int p1]) (rest := []) ⟨hx, hb, hml, hown, hts⟩ (mX1_isCell l D cI cS ad hI R F p1) (va_cwS 1 hts gX1_cell_X1_isCell rfl rfl rfl (by decide +kernel) ⟨Nat.le_of_ble_eq_true rfl, Nat.le_of_ble_eq_true rfl⟩) (PW_preS hK hP) rfl rfl hl.1 rfl (lv_room (Nat.le_of_ble_eq_true rfl)) dX1_cell_1 ⟨Nat.zero_le _, Nat.zero_le _⟩) ?_
  refine lv_if_ne (tgt := 10) hx hb dX1_cell_4 (by decide) (fun c_4 => ?_) (fun c_4 => ?_)
  · refine lv_iload_n hx hb dX1_cell_10 rfl (lv_at hl 2 rfl) ?_
    by_cases c_11_0 : p2 = (0 : Int32)
    · refine lv_tableIn (x := p2) (off := 45) (tgt := 56) hx hb dX1_cell_11 (by rw [c_11_0]; decide) (by rw [c_11_0]; decide) (by rw [c_11_0]; rfl) (by decide) ?_
      refine lv_aload_n hx hb dX1_cell_56 rfl (lv_at hl 0 rfl) ?_
      refine q_callV (va_runV (As := []) (rest := []) ⟨hx, hb, hml, hown, hts⟩ (mX1_weighAll l D cI cS ad hI R F) (cwV 0 hts gX1_cell_X1_weighAll rfl rfl rfl (by decide +kernel) ⟨Nat.le_of_ble_eq_true rfl, Nat.le_of_ble_eq_true rfl⟩) (PW_preV (i := 0) (by decide) CC_0 rfl rfl hK hP) rfl rfl hl.1 rfl (lv_room (Nat.le_of_ble_eq_true rfl)) dX1_cell_57 ⟨Nat.zero_le _, Nat.zero_le _⟩) hS (fun H locs hP hS => ?_)
      refine lv_aload_n hx hb dX1_cell_60 rfl (lv_at hl 0 rfl) ?_
      refine q_getF (v := .ref (ad 15)) hx hb hts hin1 hown hK hP 4 (by decide) lk27 (fun _ h => h) rfl dX1_cell_61 ?_
      refine lv_iload_n hx hb dX1_cell_64 rfl (lv_at hl 1 rfl) ?_
      refine q_ild hx hb hK hP 15 24 (ar_15) dX1_cell_65 (by first | assumption | exact isCell_in (by assumption) | exact isWalker_in (by assumption) | exact isAboard_in (by assumption) | exact isPair_in1 (by assumption) | exact isPair_in2 (by assumption) | exact isWithin7_in (by assumption) | exact vp_in_nI (by omega) (by decide)) ?_
      have hX : (xX1_cell R F p1 p2) = (((xX1_weighAll R F) 15 (p1).toNatClampNeg), (xX1_weighAll R F)) := by unfold xX1_cell; rw [if_neg c_4, if_pos c_11_0]
      exact W.iret (v := ((xX1_weighAll R F) 15 (p1).toNatClampNeg)) hx hb hr (fun t ht hW => ⟨by rw [hX], by rw [hX, ht]; with_reducible exact hP, hS.F ht⟩) hS.2.2 dX1_cell_66
    by_cases c_11_1 : p2 = (1 : Int32)
    · refine lv_tableIn (x := p2) (off := 56) (tgt := 67) hx hb dX1_cell_11 (by rw [c_11_1]; decide) (by rw [c_11_1]; decide) (by rw [c_11_1]; rfl) (by decide) ?_
      refine lv_aload_n hx hb dX1_cell_67 rfl (lv_at hl 0 rfl) ?_
      refine q_getF (v := .ref (ad 1)) hx hb hts hin1 hown hK hP 0 (by decide) lk10 (fun _ h => h) rfl dX1_cell_68 ?_
      refine q_getS (v := .ref (ad 2)) hx hb hts hin0 hown hK hP 1 st_1 3 (by decide) lk56 (fun _ h => h) rfl dX1_cell_71 ?_
      refine lv_iload_n hx hb dX1_cell_74 rfl (lv_at hl 1 rfl) ?_
      refine q_ild hx hb hK hP 2 24 (ar_2) dX1_cell_75 (by first | assumption | exact isCell_in (by assumption) | exact isWalker_in (by assumption) | exact isAboard_in (by assumption) | exact isPair_in1 (by assumption) | exact isPair_in2 (by assumption) | exact isWithin7_in (by assumption) | exact vp_in_nI (by omega) (by decide)) ?_
      have hX : (xX1_cell R F p1 p2) = ((R 2 (p1).toNatClampNeg), R) := by unfold xX1_cell; rw [if_neg c_4, if_neg c_11_0, if_pos c_11_1]
      exact W.iret (v := (R 2 (p1).toNatClampNeg)) hx hb hr (fun t ht hW => ⟨by rw [hX], by rw [hX, ht]; with_reducible exact hP, hS.F ht⟩) hS.2.2 dX1_cell_76
    by_cases c_11_2 : p2 = (2 : Int32)
    · refine lv_tableIn (x := p2) (off := 66) (tgt := 77) hx hb dX1_cell_11 (by rw [c_11_2]; decide) (by rw [c_11_2]; decide) (by rw [c_11_2]; rfl) (by decide) ?_
      refine lv_aload_n hx hb dX1_cell_77 rfl (lv_at hl 0 rfl) ?_
      refine q_getF (v := .ref (ad 1)) hx hb hts hin1 hown hK hP 0 (by decide) lk10 (fun _ h => h) rfl dX1_cell_78 ?_
      refine q_getS (v := .ref (ad 3)) hx hb hts hin0 hown hK hP 1 st_1 4 (by decide) lk49 (fun _ h => h) rfl dX1_cell_81 ?_
      refine lv_iload_n hx hb dX1_cell_84 rfl (lv_at hl 1 rfl) ?_
      refine q_ild hx hb hK hP 3 24 (ar_3) dX1_cell_85 (by first | assumption | exact isCell_in (by assumption) | exact isWalker_in (by assumption) | exact isAboard_in (by assumption) | exact isPair_in1 (by assumption) | exact isPair_in2 (by assumption) | exact isWithin7_in (by assumption) | exact vp_in_nI (by omega) (by decide)) ?_
      have hX : (xX1_cell R F p1 p2) = ((R 3 (p1).toNatClampNeg), R) := by unfold xX1_cell; rw [if_neg c_4, if_neg c_11_0, if_neg c_11_1, if_pos c_11_2]
      exact W.iret (v := (R 3 (p1).toNatClampNeg)) hx hb hr (fun t ht hW => ⟨by rw [hX], by rw [hX, ht]; with_reducible exact hP, hS.F ht⟩) hS.2.2 dX1_cell_86
    by_cases c_11_3 : p2 = (3 : Int32)
    · refine lv_tableIn (x := p2) (off := 76) (tgt := 87) hx hb dX1_cell_11 (by rw [c_11_3]; decide) (by rw [c_11_3]; decide) (by rw [c_11_3]; rfl) (by decide) ?_
      refine lv_aload_n hx hb dX1_cell_87 rfl (lv_at hl 0 rfl) ?_
      refine q_getF (v := .ref (ad 1)) hx hb hts hin1 hown hK hP 0 (by decide) lk10 (fun _ h => h) rfl dX1_cell_88 ?_
      refine q_getS (v := .ref (ad 4)) hx hb hts hin0 hown hK hP 1 st_1 5 (by decide) lk62 (fun _ h => h) rfl dX1_cell_91 ?_
      refine lv_iload_n hx hb dX1_cell_94 rfl (lv_at hl 1 rfl) ?_
      refine q_ild hx hb hK hP 4 24 (ar_4) dX1_cell_95 (by first | assumption | exact isCell_in (by assumption) | exact isWalker_in (by assumption) | exact isAboard_in (by assumption) | exact isPair_in1 (by assumption) | exact isPair_in2 (by assumption) | exact isWithin7_in (by assumption) | exact vp_in_nI (by omega) (by decide)) ?_
      have hX : (xX1_cell R F p1 p2) = ((R 4 (p1).toNatClampNeg), R) := by unfold xX1_cell; rw [if_neg c_4, if_neg c_11_0, if_neg c_11_1, if_neg c_11_2, if_pos c_11_3]
      exact W.iret (v := (R 4 (p1).toNatClampNeg)) hx hb hr (fun t ht hW => ⟨by rw [hX], by rw [hX, ht]; with_reducible exact hP, hS.F ht⟩) hS.2.2 dX1_cell_96
    by_cases c_11_4 : p2 = (4 : Int32)
    · refine lv_tableIn (x := p2) (off := 86) (tgt := 97) hx hb dX1_cell_11 (by rw [c_11_4]; decide) (by rw [c_11_4]; decide) (by rw [c_11_4]; rfl) (by decide) ?_
      refine lv_aload_n hx hb dX1_cell_97 rfl (lv_at hl 0 rfl) ?_
      refine q_getF (v := .ref (ad 1)) hx hb hts hin1 hown hK hP 0 (by decide) lk10 (fun _ h => h) rfl dX1_cell_98 ?_
      refine q_getS (v := .ref (ad 5)) hx hb hts hin0 hown hK hP 1 st_1 6 (by decide) lk65 (fun _ h => h) rfl dX1_cell_101 ?_
      refine lv_iload_n hx hb dX1_cell_104 rfl (lv_at hl 1 rfl) ?_
      refine q_ild hx hb hK hP 5 24 (ar_5) dX1_cell_105 (by first | assumption | exact isCell_in (by assumption) | exact isWalker_in (by assumption) | exact isAboard_in (by assumption) | exact isPair_in1 (by assumption) | exact isPair_in2 (by assumption) | exact isWithin7_in (by assumption) | exact vp_in_nI (by omega) (by decide)) ?_
      have hX : (xX1_cell R F p1 p2) = ((R 5 (p1).toNatClampNeg), R) := by unfold xX1_cell; rw [if_neg c_4, if_neg c_11_0, if_neg c_11_1, if_neg c_11_2, if_neg c_11_3, if_pos c_11_4]
      exact W.iret (v := (R 5 (p1).toNatClampNeg)) hx hb hr (fun t ht hW => ⟨by rw [hX], by rw [hX, ht]; with_reducible exact hP, hS.F ht⟩) hS.2.2 dX1_cell_106
    by_cases c_11_5 : p2 = (5 : Int32)
    · refine lv_tableIn (x := p2) (off := 96) (tgt := 107) hx hb dX1_cell_11 (by rw [c_11_5]; decide) (by rw [c_11_5]; decide) (by rw [c_11_5]; rfl) (by decide) ?_
      refine lv_aload_n hx hb dX1_cell_107 rfl (lv_at hl 0 rfl) ?_
      refine lv_aload_n hx hb dX1_cell_108 rfl (lv_at hl 0 rfl) ?_
      refine q_getF (v := .ref (ad 1)) hx hb hts hin1 hown hK hP 0 (by decide) lk10 (fun _ h => h) rfl dX1_cell_109 ?_
      refine q_getS (v := .ref (ad 9)) hx hb hts hin0 hown hK hP 1 st_1 10 (by decide) lk89 (fun _ h => h) rfl dX1_cell_112 ?_
      refine q_callV (va_runV (As := [.ref (ad 9)]) (rest := []) ⟨hx, hb, hml, hown, hts⟩ (mX1_expectAll l D cI cS ad hI R F 9 (ar_9)) (cwV 1 hts gX1_cell_X1_expectAll rfl rfl rfl (by decide +kernel) ⟨Nat.le_of_ble_eq_true rfl, Nat.le_of_ble_eq_true rfl⟩) (PW_preV (i := 0) (by decide) CC_0 rfl rfl hK hP) rfl rfl hl.1 rfl (lv_room (Nat.le_of_ble_eq_true rfl)) dX1_cell_115 ⟨Nat.zero_le _, Nat.zero_le _⟩) hS (fun H locs hP hS => ?_)
      refine lv_aload_n hx hb dX1_cell_118 rfl (lv_at hl 0 rfl) ?_
      refine q_getF (v := .ref (ad 16)) hx hb hts hin1 hown hK hP 5 (by decide) lk31 (fun _ h => h) rfl dX1_cell_119 ?_
      refine lv_iload_n hx hb dX1_cell_122 rfl (lv_at hl 1 rfl) ?_
      refine q_ild hx hb hK hP 16 24 (ar_16) dX1_cell_123 (by first | assumption | exact isCell_in (by assumption) | exact isWalker_in (by assumption) | exact isAboard_in (by assumption) | exact isPair_in1 (by assumption) | exact isPair_in2 (by assumption) | exact isWithin7_in (by assumption) | exact vp_in_nI (by omega) (by decide)) ?_
      have hX : (xX1_cell R F p1 p2) = (((xX1_expectAll R F 9) 16 (p1).toNatClampNeg), (xX1_expectAll R F 9)) := by unfold xX1_cell; rw [if_neg c_4, if_neg c_11_0, if_neg c_11_1, if_neg c_11_2, if_neg c_11_3, if_neg c_11_4, if_pos c_11_5]
      exact W.iret (v := ((xX1_expectAll R F 9) 16 (p1).toNatClampNeg)) hx hb hr (fun t ht hW => ⟨by rw [hX], by rw [hX, ht]; with_reducible exact hP, hS.F ht⟩) hS.2.2 dX1_cell_124
    by_cases c_11_6 : p2 = (6 : Int32)
    · refine lv_tableIn (x := p2) (off := 114) (tgt := 125) hx hb dX1_cell_11 (by rw [c_11_6]; decide) (by rw [c_11_6]; decide) (by rw [c_11_6]; rfl) (by decide) ?_
      refine lv_aload_n hx hb dX1_cell_125 rfl (lv_at hl 0 rfl) ?_
      refine q_getF (v := .ref (ad 1)) hx hb hts hin1 hown hK hP 0 (by decide) lk10 (fun _ h => h) rfl dX1_cell_126 ?_
      refine q_getS (v := .ref (ad 7)) hx hb hts hin0 hown hK hP 1 st_1 8 (by decide) lk71 (fun _ h => h) rfl dX1_cell_129 ?_
      refine lv_iload_n hx hb dX1_cell_132 rfl (lv_at hl 1 rfl) ?_
      refine q_callS (va_runS (As := [.ref (ad 7), .int p1]) (rest := []) ⟨hx, hb, hml, hown, hts⟩ (mX1_whoIsOn l D cI cS ad hI R F 7 p1 (ar_7)) (va_cwS 2 hts gX1_cell_X1_whoIsOn rfl rfl rfl (by decide +kernel) ⟨Nat.le_of_ble_eq_true rfl, Nat.le_of_ble_eq_true rfl⟩) (PW_preS hK hP) rfl rfl hl.1 rfl (lv_room (Nat.le_of_ble_eq_true rfl)) dX1_cell_133 ⟨Nat.zero_le _, Nat.zero_le _⟩) ?_
      have hX : (xX1_cell R F p1 p2) = ((xX1_whoIsOn R F 7 p1), R) := by unfold xX1_cell; rw [if_neg c_4, if_neg c_11_0, if_neg c_11_1, if_neg c_11_2, if_neg c_11_3, if_neg c_11_4, if_neg c_11_5, if_pos c_11_6]
      exact W.iret (v := (xX1_whoIsOn R F 7 p1)) hx hb hr (fun t ht hW => ⟨by rw [hX], by rw [hX, ht]; with_reducible exact hP, hS.F ht⟩) hS.2.2 dX1_cell_136
    by_cases c_11_7 : p2 = (7 : Int32)
    · refine lv_tableIn (x := p2) (off := 126) (tgt := 137) hx hb dX1_cell_11 (by rw [c_11_7]; decide) (by rw [c_11_7]; decide) (by rw [c_11_7]; rfl) (by decide) ?_
      refine lv_aload_n hx hb dX1_cell_137 rfl (lv_at hl 0 rfl) ?_
      refine q_getF (v := .ref (ad 1)) hx hb hts hin1 hown hK hP 0 (by decide) lk10 (fun _ h => h) rfl dX1_cell_138 ?_
      refine q_getS (v := .ref (ad 9)) hx hb hts hin0 hown hK hP 1 st_1 10 (by decide) lk89 (fun _ h => h) rfl dX1_cell_141 ?_
      refine lv_iload_n hx hb dX1_cell_144 rfl (lv_at hl 1 rfl) ?_
      refine q_callS (va_runS (As := [.ref (ad 9), .int p1]) (rest := []) ⟨hx, hb, hml, hown, hts⟩ (mX1_whoIsOn l D cI cS ad hI R F 9 p1 (ar_9)) (va_cwS 2 hts gX1_cell_X1_whoIsOn rfl rfl rfl (by decide +kernel) ⟨Nat.le_of_ble_eq_true rfl, Nat.le_of_ble_eq_true rfl⟩) (PW_preS hK hP) rfl rfl hl.1 rfl (lv_room (Nat.le_of_ble_eq_true rfl)) dX1_cell_145 ⟨Nat.zero_le _, Nat.zero_le _⟩) ?_
      have hX : (xX1_cell R F p1 p2) = ((xX1_whoIsOn R F 9 p1), R) := by unfold xX1_cell; rw [if_neg c_4, if_neg c_11_0, if_neg c_11_1, if_neg c_11_2, if_neg c_11_3, if_neg c_11_4, if_neg c_11_5, if_neg c_11_6, if_pos c_11_7]
      exact W.iret (v := (xX1_whoIsOn R F 9 p1)) hx hb hr (fun t ht hW => ⟨by rw [hX], by rw [hX, ht]; with_reducible exact hP, hS.F ht⟩) hS.2.2 dX1_cell_148
    refine lv_tableOut (x := p2) (tgt := 149) hx hb dX1_cell_11 (sw_out8 c_11_0 c_11_1 c_11_2 c_11_3 c_11_4 c_11_5 c_11_6 c_11_7) (by decide) ?_
    refine lv_ldc (v := -100001) hx hb hown lk45 dX1_cell_149 ?_
    have hX : (xX1_cell R F p1 p2) = ((-100001 : Int32), R) := by unfold xX1_cell; rw [if_neg c_4, if_neg c_11_0, if_neg c_11_1, if_neg c_11_2, if_neg c_11_3, if_neg c_11_4, if_neg c_11_5, if_neg c_11_6, if_neg c_11_7]
    exact W.iret (v := (-100001 : Int32)) hx hb hr (fun t ht hW => ⟨by rw [hX], by rw [hX, ht]; with_reducible exact hP, hS.F ht⟩) hS.2.2 dX1_cell_151
  · refine lv_ldc (v := -100001) hx hb hown lk45 dX1_cell_7 ?_
    have hX : (xX1_cell R F p1 p2) = ((-100001 : Int32), R) := by unfold xX1_cell; rw [if_pos c_4]
    exact W.iret (v := (-100001 : Int32)) hx hb hr (fun t ht hW => ⟨by rw [hX], by rw [hX, ht]; with_reducible exact hP, hS.F ht⟩) hS.2.2 dX1_cell_9

def xX1_walker (R F : Nat → Nat → Int32) (p1 : Int32) (p2 : Int32) : Int32 :=
  (if (xX1_isWalker R F p1) = (0 : Int32) then (-100001 : Int32) else (if p2 = (0 : Int32) then (R 6 (p1).toNatClampNeg) else (if p2 = (1 : Int32) then (R 7 (p1).toNatClampNeg) else (if p2 = (2 : Int32) then (if (xX1_isAboard R F p1) = (0 : Int32) then (-100009 : Int32) else (R 8 (p1).toNatClampNeg)) else (if p2 = (3 : Int32) then (R 9 (p1).toNatClampNeg) else (if p2 = (4 : Int32) then (R 10 (p1).toNatClampNeg) else (if p2 = (5 : Int32) then (R 11 (p1).toNatClampNeg) else (if p2 = (6 : Int32) then (xX1_billAmount R F p1) else (if p2 = (7 : Int32) then (xX1_backAmount R F p1) else (-100001 : Int32))))))))))
set_option maxHeartbeats 4000000 in
set_option maxRecDepth 100000 in
theorem mX1_walker (l : Launch) (D : va_G) (cI cS : ClassId) (ad : Nat → Nat) (hI : Inj ad) (R F : Nat → Nat → Int32) (p1 : Int32) (p2 : Int32) : Met l yX1_walker wsX1_walker ({ frames := 2, cells := 0, slots := 0, locals := 42 }) (PW D cI cS ad R F [.ref (ad 0), .int p1, .int p2]) (QS (xX1_walker R F p1 p2)) 0 0 (fun _ => False) := by
  refine Met.ofW (cc := cX1_walker) (maxL := 3) (ret := (some .int)) (by decide) rfl ?_
  intro p e s m args below meth c s₁ B hml hv
  obtain ⟨rfl, hP, hK⟩ := hv
  have hx := B.exec
  have hb := B.bytes
  have hr := B.returns
  have hts := atoms_spec (ws := wsX1_walker) B.pre
  have hown : s.vm.findClass RX1 = some m.cls := findClass_of_methodNamed B.named
  have hlocks := B.notSynchronized
  have hS : va_S (AA ad) s.heap s.heap [] := va_S.rf
  have hl := lv_entry ([.ref (ad 0), .int p1, .int p2]) (n := 3) (Nat.le_of_ble_eq_true rfl)
  rw [lg_entry_eq]
  generalize (lg_sl ([.ref (ad 0), .int p1, .int p2]) ++ List.replicate (3 - (lg_sl ([.ref (ad 0), .int p1, .int p2])).length) Slot.unset).toArray = ls at hl ⊢
  have hl : lv_has ls 3 [(0, .ref (ad 0)), (1, .int p1), (2, .int p2)] := hl
  have lk45 := hts (.constant RX1 45 (-100001)) (by decide +kernel)
  have lk10 := hts (.fieldLink RX1 10 "FerryFloor" "now" "LFerryFloor$State;") (by decide +kernel)
  have lk83 := hts (.fieldLink RX1 83 "FerryFloor$State" "weights" "[I") (by decide +kernel)
  have lk71 := hts (.fieldLink RX1 71 "FerryFloor$State" "places" "[I") (by decide +kernel)
  have lk86 := hts (.fieldLink RX1 86 "FerryFloor$State" "bookWeights" "[I") (by decide +kernel)
  have lk78 := hts (.constant RX1 78 (-100009)) (by decide +kernel)
  have lk89 := hts (.fieldLink RX1 89 "FerryFloor$State" "bookPlaces" "[I") (by decide +kernel)
  have lk113 := hts (.fieldLink RX1 113 "FerryFloor$State" "accusations" "[I") (by decide +kernel)
  have lk116 := hts (.fieldLink RX1 116 "FerryFloor$State" "billKilograms" "[I") (by decide +kernel)
  have hin1 : ∀ w ∈ u_ws RX1 TX1 7, w ∈ wsX1_walker := by decide +kernel
  have hin0 : ∀ w ∈ u_ws RX0 TX0 15, w ∈ wsX1_walker := by decide +kernel
  refine lv_aload_n hx hb dX1_walker_0 rfl (lv_at hl 0 rfl) ?_
  refine lv_iload_n hx hb dX1_walker_1 rfl (lv_at hl 1 rfl) ?_
  refine q_callS (va_runV (As := [.int p1]) (rest := []) ⟨hx, hb, hml, hown, hts⟩ (mX1_isWalker l D cI cS ad hI R F p1) (cwV 1 hts gX1_walker_X1_isWalker rfl rfl rfl (by decide +kernel) ⟨Nat.le_of_ble_eq_true rfl, Nat.le_of_ble_eq_true rfl⟩) (PW_preV (i := 0) (by decide) CC_0 rfl rfl hK hP) rfl rfl hl.1 rfl (lv_room (Nat.le_of_ble_eq_true rfl)) dX1_walker_2 ⟨Nat.zero_le _, Nat.zero_le _⟩) ?_
  refine lv_if_ne (tgt := 11) hx hb dX1_walker_5 (by decide) (fun c_5 => ?_) (fun c_5 => ?_)
  · refine lv_iload_n hx hb dX1_walker_11 rfl (lv_at hl 2 rfl) ?_
    by_cases c_12_0 : p2 = (0 : Int32)
    · refine lv_tableIn (x := p2) (off := 48) (tgt := 60) hx hb dX1_walker_12 (by rw [c_12_0]; decide) (by rw [c_12_0]; decide) (by rw [c_12_0]; rfl) (by decide) ?_
      refine lv_aload_n hx hb dX1_walker_60 rfl (lv_at hl 0 rfl) ?_
      refine q_getF (v := .ref (ad 1)) hx hb hts hin1 hown hK hP 0 (by decide) lk10 (fun _ h => h) rfl dX1_walker_61 ?_
      refine q_getS (v := .ref (ad 6)) hx hb hts hin0 hown hK hP 1 st_1 7 (by decide) lk83 (fun _ h => h) rfl dX1_walker_64 ?_
      refine lv_iload_n hx hb dX1_walker_67 rfl (lv_at hl 1 rfl) ?_
      refine q_ild hx hb hK hP 6 8 (ar_6) dX1_walker_68 (by first | assumption | exact isCell_in (by assumption) | exact isWalker_in (by assumption) | exact isAboard_in (by assumption) | exact isPair_in1 (by assumption) | exact isPair_in2 (by assumption) | exact isWithin7_in (by assumption) | exact vp_in_nI (by omega) (by decide)) ?_
      have hX : (xX1_walker R F p1 p2) = (R 6 (p1).toNatClampNeg) := by unfold xX1_walker; rw [if_neg c_5, if_pos c_12_0]
      exact W.iret (v := (R 6 (p1).toNatClampNeg)) hx hb hr (fun t ht hW => ⟨by rw [hX], ht⟩) (fun _ h => by cases h) dX1_walker_69
    by_cases c_12_1 : p2 = (1 : Int32)
    · refine lv_tableIn (x := p2) (off := 58) (tgt := 70) hx hb dX1_walker_12 (by rw [c_12_1]; decide) (by rw [c_12_1]; decide) (by rw [c_12_1]; rfl) (by decide) ?_
      refine lv_aload_n hx hb dX1_walker_70 rfl (lv_at hl 0 rfl) ?_
      refine q_getF (v := .ref (ad 1)) hx hb hts hin1 hown hK hP 0 (by decide) lk10 (fun _ h => h) rfl dX1_walker_71 ?_
      refine q_getS (v := .ref (ad 7)) hx hb hts hin0 hown hK hP 1 st_1 8 (by decide) lk71 (fun _ h => h) rfl dX1_walker_74 ?_
      refine lv_iload_n hx hb dX1_walker_77 rfl (lv_at hl 1 rfl) ?_
      refine q_ild hx hb hK hP 7 8 (ar_7) dX1_walker_78 (by first | assumption | exact isCell_in (by assumption) | exact isWalker_in (by assumption) | exact isAboard_in (by assumption) | exact isPair_in1 (by assumption) | exact isPair_in2 (by assumption) | exact isWithin7_in (by assumption) | exact vp_in_nI (by omega) (by decide)) ?_
      have hX : (xX1_walker R F p1 p2) = (R 7 (p1).toNatClampNeg) := by unfold xX1_walker; rw [if_neg c_5, if_neg c_12_0, if_pos c_12_1]
      exact W.iret (v := (R 7 (p1).toNatClampNeg)) hx hb hr (fun t ht hW => ⟨by rw [hX], ht⟩) (fun _ h => by cases h) dX1_walker_79
    by_cases c_12_2 : p2 = (2 : Int32)
    · refine lv_tableIn (x := p2) (off := 68) (tgt := 80) hx hb dX1_walker_12 (by rw [c_12_2]; decide) (by rw [c_12_2]; decide) (by rw [c_12_2]; rfl) (by decide) ?_
      refine lv_aload_n hx hb dX1_walker_80 rfl (lv_at hl 0 rfl) ?_
      refine lv_iload_n hx hb dX1_walker_81 rfl (lv_at hl 1 rfl) ?_
      refine q_callS (va_runV (As := [.int p1]) (rest := []) ⟨hx, hb, hml, hown, hts⟩ (mX1_isAboard l D cI cS ad hI R F p1) (cwV 1 hts gX1_walker_X1_isAboard rfl rfl rfl (by decide +kernel) ⟨Nat.le_of_ble_eq_true rfl, Nat.le_of_ble_eq_true rfl⟩) (PW_preV (i := 0) (by decide) CC_0 rfl rfl hK hP) rfl rfl hl.1 rfl (lv_room (Nat.le_of_ble_eq_true rfl)) dX1_walker_82 ⟨Nat.zero_le _, Nat.zero_le _⟩) ?_
      refine lv_if_eq (tgt := 100) hx hb dX1_walker_85 (by decide) (fun c_85 => ?_) (fun c_85 => ?_)
      · refine lv_ldc (v := -100009) hx hb hown lk78 dX1_walker_100 ?_
        have hX : (xX1_walker R F p1 p2) = (-100009 : Int32) := by unfold xX1_walker; rw [if_neg c_5, if_neg c_12_0, if_neg c_12_1, if_pos c_12_2, if_pos c_85]
        exact W.iret (v := (-100009 : Int32)) hx hb hr (fun t ht hW => ⟨by rw [hX], ht⟩) (fun _ h => by cases h) dX1_walker_102
      · refine lv_aload_n hx hb dX1_walker_88 rfl (lv_at hl 0 rfl) ?_
        refine q_getF (v := .ref (ad 1)) hx hb hts hin1 hown hK hP 0 (by decide) lk10 (fun _ h => h) rfl dX1_walker_89 ?_
        refine q_getS (v := .ref (ad 8)) hx hb hts hin0 hown hK hP 1 st_1 9 (by decide) lk86 (fun _ h => h) rfl dX1_walker_92 ?_
        refine lv_iload_n hx hb dX1_walker_95 rfl (lv_at hl 1 rfl) ?_
        refine q_ild hx hb hK hP 8 8 (ar_8) dX1_walker_96 (by first | assumption | exact isCell_in (by assumption) | exact isWalker_in (by assumption) | exact isAboard_in (by assumption) | exact isPair_in1 (by assumption) | exact isPair_in2 (by assumption) | exact isWithin7_in (by assumption) | exact vp_in_nI (by omega) (by decide)) ?_
        refine lv_goto (tgt := 102) hx hb dX1_walker_97 (by decide) ?_
        have hX : (xX1_walker R F p1 p2) = (R 8 (p1).toNatClampNeg) := by unfold xX1_walker; rw [if_neg c_5, if_neg c_12_0, if_neg c_12_1, if_pos c_12_2, if_neg c_85]
        exact W.iret (v := (R 8 (p1).toNatClampNeg)) hx hb hr (fun t ht hW => ⟨by rw [hX], ht⟩) (fun _ h => by cases h) dX1_walker_102
    by_cases c_12_3 : p2 = (3 : Int32)
    · refine lv_tableIn (x := p2) (off := 91) (tgt := 103) hx hb dX1_walker_12 (by rw [c_12_3]; decide) (by rw [c_12_3]; decide) (by rw [c_12_3]; rfl) (by decide) ?_
      refine lv_aload_n hx hb dX1_walker_103 rfl (lv_at hl 0 rfl) ?_
      refine q_getF (v := .ref (ad 1)) hx hb hts hin1 hown hK hP 0 (by decide) lk10 (fun _ h => h) rfl dX1_walker_104 ?_
      refine q_getS (v := .ref (ad 9)) hx hb hts hin0 hown hK hP 1 st_1 10 (by decide) lk89 (fun _ h => h) rfl dX1_walker_107 ?_
      refine lv_iload_n hx hb dX1_walker_110 rfl (lv_at hl 1 rfl) ?_
      refine q_ild hx hb hK hP 9 8 (ar_9) dX1_walker_111 (by first | assumption | exact isCell_in (by assumption) | exact isWalker_in (by assumption) | exact isAboard_in (by assumption) | exact isPair_in1 (by assumption) | exact isPair_in2 (by assumption) | exact isWithin7_in (by assumption) | exact vp_in_nI (by omega) (by decide)) ?_
      have hX : (xX1_walker R F p1 p2) = (R 9 (p1).toNatClampNeg) := by unfold xX1_walker; rw [if_neg c_5, if_neg c_12_0, if_neg c_12_1, if_neg c_12_2, if_pos c_12_3]
      exact W.iret (v := (R 9 (p1).toNatClampNeg)) hx hb hr (fun t ht hW => ⟨by rw [hX], ht⟩) (fun _ h => by cases h) dX1_walker_112
    by_cases c_12_4 : p2 = (4 : Int32)
    · refine lv_tableIn (x := p2) (off := 101) (tgt := 113) hx hb dX1_walker_12 (by rw [c_12_4]; decide) (by rw [c_12_4]; decide) (by rw [c_12_4]; rfl) (by decide) ?_
      refine lv_aload_n hx hb dX1_walker_113 rfl (lv_at hl 0 rfl) ?_
      refine q_getF (v := .ref (ad 1)) hx hb hts hin1 hown hK hP 0 (by decide) lk10 (fun _ h => h) rfl dX1_walker_114 ?_
      refine q_getS (v := .ref (ad 10)) hx hb hts hin0 hown hK hP 1 st_1 11 (by decide) lk113 (fun _ h => h) rfl dX1_walker_117 ?_
      refine lv_iload_n hx hb dX1_walker_120 rfl (lv_at hl 1 rfl) ?_
      refine q_ild hx hb hK hP 10 8 (ar_10) dX1_walker_121 (by first | assumption | exact isCell_in (by assumption) | exact isWalker_in (by assumption) | exact isAboard_in (by assumption) | exact isPair_in1 (by assumption) | exact isPair_in2 (by assumption) | exact isWithin7_in (by assumption) | exact vp_in_nI (by omega) (by decide)) ?_
      have hX : (xX1_walker R F p1 p2) = (R 10 (p1).toNatClampNeg) := by unfold xX1_walker; rw [if_neg c_5, if_neg c_12_0, if_neg c_12_1, if_neg c_12_2, if_neg c_12_3, if_pos c_12_4]
      exact W.iret (v := (R 10 (p1).toNatClampNeg)) hx hb hr (fun t ht hW => ⟨by rw [hX], ht⟩) (fun _ h => by cases h) dX1_walker_122
    by_cases c_12_5 : p2 = (5 : Int32)
    · refine lv_tableIn (x := p2) (off := 111) (tgt := 123) hx hb dX1_walker_12 (by rw [c_12_5]; decide) (by rw [c_12_5]; decide) (by rw [c_12_5]; rfl) (by decide) ?_
      refine lv_aload_n hx hb dX1_walker_123 rfl (lv_at hl 0 rfl) ?_
      refine q_getF (v := .ref (ad 1)) hx hb hts hin1 hown hK hP 0 (by decide) lk10 (fun _ h => h) rfl dX1_walker_124 ?_
      refine q_getS (v := .ref (ad 11)) hx hb hts hin0 hown hK hP 1 st_1 12 (by decide) lk116 (fun _ h => h) rfl dX1_walker_127 ?_
      refine lv_iload_n hx hb dX1_walker_130 rfl (lv_at hl 1 rfl) ?_
      refine q_ild hx hb hK hP 11 8 (ar_11) dX1_walker_131 (by first | assumption | exact isCell_in (by assumption) | exact isWalker_in (by assumption) | exact isAboard_in (by assumption) | exact isPair_in1 (by assumption) | exact isPair_in2 (by assumption) | exact isWithin7_in (by assumption) | exact vp_in_nI (by omega) (by decide)) ?_
      have hX : (xX1_walker R F p1 p2) = (R 11 (p1).toNatClampNeg) := by unfold xX1_walker; rw [if_neg c_5, if_neg c_12_0, if_neg c_12_1, if_neg c_12_2, if_neg c_12_3, if_neg c_12_4, if_pos c_12_5]
      exact W.iret (v := (R 11 (p1).toNatClampNeg)) hx hb hr (fun t ht hW => ⟨by rw [hX], ht⟩) (fun _ h => by cases h) dX1_walker_132
    by_cases c_12_6 : p2 = (6 : Int32)
    · refine lv_tableIn (x := p2) (off := 121) (tgt := 133) hx hb dX1_walker_12 (by rw [c_12_6]; decide) (by rw [c_12_6]; decide) (by rw [c_12_6]; rfl) (by decide) ?_
      refine lv_aload_n hx hb dX1_walker_133 rfl (lv_at hl 0 rfl) ?_
      refine lv_iload_n hx hb dX1_walker_134 rfl (lv_at hl 1 rfl) ?_
      refine q_callS (va_runV (As := [.int p1]) (rest := []) ⟨hx, hb, hml, hown, hts⟩ (mX1_billAmount l D cI cS ad hI R F p1) (cwV 1 hts gX1_walker_X1_billAmount rfl rfl rfl (by decide +kernel) ⟨Nat.le_of_ble_eq_true rfl, Nat.le_of_ble_eq_true rfl⟩) (PW_preV (i := 0) (by decide) CC_0 rfl rfl hK hP) rfl rfl hl.1 rfl (lv_room (Nat.le_of_ble_eq_true rfl)) dX1_walker_135 ⟨Nat.zero_le _, Nat.zero_le _⟩) ?_
      have hX : (xX1_walker R F p1 p2) = (xX1_billAmount R F p1) := by unfold xX1_walker; rw [if_neg c_5, if_neg c_12_0, if_neg c_12_1, if_neg c_12_2, if_neg c_12_3, if_neg c_12_4, if_neg c_12_5, if_pos c_12_6]
      exact W.iret (v := (xX1_billAmount R F p1)) hx hb hr (fun t ht hW => ⟨by rw [hX], ht⟩) (fun _ h => by cases h) dX1_walker_138
    by_cases c_12_7 : p2 = (7 : Int32)
    · refine lv_tableIn (x := p2) (off := 127) (tgt := 139) hx hb dX1_walker_12 (by rw [c_12_7]; decide) (by rw [c_12_7]; decide) (by rw [c_12_7]; rfl) (by decide) ?_
      refine lv_aload_n hx hb dX1_walker_139 rfl (lv_at hl 0 rfl) ?_
      refine lv_iload_n hx hb dX1_walker_140 rfl (lv_at hl 1 rfl) ?_
      refine q_callS (va_runV (As := [.int p1]) (rest := []) ⟨hx, hb, hml, hown, hts⟩ (mX1_backAmount l D cI cS ad hI R F p1) (cwV 1 hts gX1_walker_X1_backAmount rfl rfl rfl (by decide +kernel) ⟨Nat.le_of_ble_eq_true rfl, Nat.le_of_ble_eq_true rfl⟩) (PW_preV (i := 0) (by decide) CC_0 rfl rfl hK hP) rfl rfl hl.1 rfl (lv_room (Nat.le_of_ble_eq_true rfl)) dX1_walker_141 ⟨Nat.zero_le _, Nat.zero_le _⟩) ?_
      have hX : (xX1_walker R F p1 p2) = (xX1_backAmount R F p1) := by unfold xX1_walker; rw [if_neg c_5, if_neg c_12_0, if_neg c_12_1, if_neg c_12_2, if_neg c_12_3, if_neg c_12_4, if_neg c_12_5, if_neg c_12_6, if_pos c_12_7]
      exact W.iret (v := (xX1_backAmount R F p1)) hx hb hr (fun t ht hW => ⟨by rw [hX], ht⟩) (fun _ h => by cases h) dX1_walker_144
    refine lv_tableOut (x := p2) (tgt := 145) hx hb dX1_walker_12 (sw_out8 c_12_0 c_12_1 c_12_2 c_12_3 c_12_4 c_12_5 c_12_6 c_12_7) (by decide) ?_
    refine lv_ldc (v := -100001) hx hb hown lk45 dX1_walker_145 ?_
    have hX : (xX1_walker R F p1 p2) = (-100001 : Int32) := by unfold xX1_walker; rw [if_neg c_5, if_neg c_12_0, if_neg c_12_1, if_neg c_12_2, if_neg c_12_3, if_neg c_12_4, if_neg c_12_5, if_neg c_12_6, if_neg c_12_7]
    exact W.iret (v := (-100001 : Int32)) hx hb hr (fun t ht hW => ⟨by rw [hX], ht⟩) (fun _ h => by cases h) dX1_walker_147
  · refine lv_ldc (v := -100001) hx hb hown lk45 dX1_walker_8 ?_
    have hX : (xX1_walker R F p1 p2) = (-100001 : Int32) := by unfold xX1_walker; rw [if_pos c_5]
    exact W.iret (v := (-100001 : Int32)) hx hb hr (fun t ht hW => ⟨by rw [hX], ht⟩) (fun _ h => by cases h) dX1_walker_10

def xX1_estimate (R F : Nat → Nat → Int32) (p1 : Int32) : Int32 × (Nat → Nat → Int32) :=
  (if (xX1_isWalker R F p1) = (0 : Int32) then ((-100001 : Int32), R) else (if (xX1_isAboard R F p1) = (0 : Int32) then ((-100002 : Int32), R) else (((xX1_estimateFor R F p1).1), ((xX1_estimateFor R F p1).2))))
set_option maxHeartbeats 4000000 in
set_option maxRecDepth 100000 in
theorem mX1_estimate (l : Launch) (D : va_G) (cI cS : ClassId) (ad : Nat → Nat) (hI : Inj ad) (R F : Nat → Nat → Int32) (p1 : Int32) : Met l yX1_estimate wsX1_estimate ({ frames := 5, cells := 0, slots := 0, locals := 117 }) (PW D cI cS ad R F [.ref (ad 0), .int p1]) (QI D cI cS ad ((xX1_estimate R F p1).1) ((xX1_estimate R F p1).2) F) 0 0 (AA ad) := by
  refine Met.ofW (cc := cX1_estimate) (maxL := 2) (ret := (some .int)) (by decide) rfl ?_
  intro p e s m args below meth c s₁ B hml hv
  obtain ⟨rfl, hP, hK⟩ := hv
  have hx := B.exec
  have hb := B.bytes
  have hr := B.returns
  have hts := atoms_spec (ws := wsX1_estimate) B.pre
  have hown : s.vm.findClass RX1 = some m.cls := findClass_of_methodNamed B.named
  have hlocks := B.notSynchronized
  have hS : va_S (AA ad) s.heap s.heap [] := va_S.rf
  have hl := lv_entry ([.ref (ad 0), .int p1]) (n := 2) (Nat.le_of_ble_eq_true rfl)
  rw [lg_entry_eq]
  generalize (lg_sl ([.ref (ad 0), .int p1]) ++ List.replicate (2 - (lg_sl ([.ref (ad 0), .int p1])).length) Slot.unset).toArray = ls at hl ⊢
  have hl : lv_has ls 2 [(0, .ref (ad 0)), (1, .int p1)] := hl
  have lk45 := hts (.constant RX1 45 (-100001)) (by decide +kernel)
  have lk55 := hts (.constant RX1 55 (-100002)) (by decide +kernel)
  refine lv_aload_n hx hb dX1_estimate_0 rfl (lv_at hl 0 rfl) ?_
  refine lv_iload_n hx hb dX1_estimate_1 rfl (lv_at hl 1 rfl) ?_
  refine q_callS (va_runV (As := [.int p1]) (rest := []) ⟨hx, hb, hml, hown, hts⟩ (mX1_isWalker l D cI cS ad hI R F p1) (cwV 1 hts gX1_estimate_X1_isWalker rfl rfl rfl (by decide +kernel) ⟨Nat.le_of_ble_eq_true rfl, Nat.le_of_ble_eq_true rfl⟩) (PW_preV (i := 0) (by decide) CC_0 rfl rfl hK hP) rfl rfl hl.1 rfl (lv_room (Nat.le_of_ble_eq_true rfl)) dX1_estimate_2 ⟨Nat.zero_le _, Nat.zero_le _⟩) ?_
  refine lv_if_ne (tgt := 11) hx hb dX1_estimate_5 (by decide) (fun c_5 => ?_) (fun c_5 => ?_)
  · refine lv_aload_n hx hb dX1_estimate_11 rfl (lv_at hl 0 rfl) ?_
    refine lv_iload_n hx hb dX1_estimate_12 rfl (lv_at hl 1 rfl) ?_
    refine q_callS (va_runV (As := [.int p1]) (rest := []) ⟨hx, hb, hml, hown, hts⟩ (mX1_isAboard l D cI cS ad hI R F p1) (cwV 1 hts gX1_estimate_X1_isAboard rfl rfl rfl (by decide +kernel) ⟨Nat.le_of_ble_eq_true rfl, Nat.le_of_ble_eq_true rfl⟩) (PW_preV (i := 0) (by decide) CC_0 rfl rfl hK hP) rfl rfl hl.1 rfl (lv_room (Nat.le_of_ble_eq_true rfl)) dX1_estimate_13 ⟨Nat.zero_le _, Nat.zero_le _⟩) ?_
    refine lv_if_ne (tgt := 22) hx hb dX1_estimate_16 (by decide) (fun c_16 => ?_) (fun c_16 => ?_)
    · refine lv_aload_n hx hb dX1_estimate_22 rfl (lv_at hl 0 rfl) ?_
      refine lv_iload_n hx hb dX1_estimate_23 rfl (lv_at hl 1 rfl) ?_
      refine q_callI (va_runV (As := [.int p1]) (rest := []) ⟨hx, hb, hml, hown, hts⟩ (mX1_estimateFor l D cI cS ad hI R F p1) (cwV 1 hts gX1_estimate_X1_estimateFor rfl rfl rfl (by decide +kernel) ⟨Nat.le_of_ble_eq_true rfl, Nat.le_of_ble_eq_true rfl⟩) (PW_preV (i := 0) (by decide) CC_0 rfl rfl hK hP) rfl rfl hl.1 rfl (lv_room (Nat.le_of_ble_eq_true rfl)) dX1_estimate_24 ⟨Nat.zero_le _, Nat.zero_le _⟩) hS (fun H locs hP hS => ?_)
      have hX : (xX1_estimate R F p1) = (((xX1_estimateFor R F p1).1), ((xX1_estimateFor R F p1).2)) := by unfold xX1_estimate; rw [if_neg c_5, if_neg c_16]
      exact W.iret (v := ((xX1_estimateFor R F p1).1)) hx hb hr (fun t ht hW => ⟨by rw [hX], by rw [hX, ht]; with_reducible exact hP, hS.F ht⟩) hS.2.2 dX1_estimate_27
    · refine lv_ldc (v := -100002) hx hb hown lk55 dX1_estimate_19 ?_
      have hX : (xX1_estimate R F p1) = ((-100002 : Int32), R) := by unfold xX1_estimate; rw [if_neg c_5, if_pos c_16]
      exact W.iret (v := (-100002 : Int32)) hx hb hr (fun t ht hW => ⟨by rw [hX], by rw [hX, ht]; with_reducible exact hP, hS.F ht⟩) hS.2.2 dX1_estimate_21
  · refine lv_ldc (v := -100001) hx hb hown lk45 dX1_estimate_8 ?_
    have hX : (xX1_estimate R F p1) = ((-100001 : Int32), R) := by unfold xX1_estimate; rw [if_pos c_5]
    exact W.iret (v := (-100001 : Int32)) hx hb hr (fun t ht hW => ⟨by rw [hX], by rw [hX, ht]; with_reducible exact hP, hS.F ht⟩) hS.2.2 dX1_estimate_10

def xX1_certainty (R F : Nat → Nat → Int32) (p1 : Int32) : Int32 :=
  (if (xX1_isWalker R F p1) = (0 : Int32) then (-100001 : Int32) else (if (xX1_isAboard R F p1) = (0 : Int32) then (-100002 : Int32) else (xX1_certaintyFor R F p1)))
set_option maxHeartbeats 4000000 in
set_option maxRecDepth 100000 in
theorem mX1_certainty (l : Launch) (D : va_G) (cI cS : ClassId) (ad : Nat → Nat) (hI : Inj ad) (R F : Nat → Nat → Int32) (p1 : Int32) : Met l yX1_certainty wsX1_certainty ({ frames := 3, cells := 0, slots := 0, locals := 69 }) (PW D cI cS ad R F [.ref (ad 0), .int p1]) (QS (xX1_certainty R F p1)) 0 0 (fun _ => False) := by
  refine Met.ofW (cc := cX1_certainty) (maxL := 2) (ret := (some .int)) (by decide) rfl ?_
  intro p e s m args below meth c s₁ B hml hv
  obtain ⟨rfl, hP, hK⟩ := hv
  have hx := B.exec
  have hb := B.bytes
  have hr := B.returns
  have hts := atoms_spec (ws := wsX1_certainty) B.pre
  have hown : s.vm.findClass RX1 = some m.cls := findClass_of_methodNamed B.named
  have hlocks := B.notSynchronized
  have hS : va_S (AA ad) s.heap s.heap [] := va_S.rf
  have hl := lv_entry ([.ref (ad 0), .int p1]) (n := 2) (Nat.le_of_ble_eq_true rfl)
  rw [lg_entry_eq]
  generalize (lg_sl ([.ref (ad 0), .int p1]) ++ List.replicate (2 - (lg_sl ([.ref (ad 0), .int p1])).length) Slot.unset).toArray = ls at hl ⊢
  have hl : lv_has ls 2 [(0, .ref (ad 0)), (1, .int p1)] := hl
  have lk45 := hts (.constant RX1 45 (-100001)) (by decide +kernel)
  have lk55 := hts (.constant RX1 55 (-100002)) (by decide +kernel)
  refine lv_aload_n hx hb dX1_certainty_0 rfl (lv_at hl 0 rfl) ?_
  refine lv_iload_n hx hb dX1_certainty_1 rfl (lv_at hl 1 rfl) ?_
  refine q_callS (va_runV (As := [.int p1]) (rest := []) ⟨hx, hb, hml, hown, hts⟩ (mX1_isWalker l D cI cS ad hI R F p1) (cwV 1 hts gX1_certainty_X1_isWalker rfl rfl rfl (by decide +kernel) ⟨Nat.le_of_ble_eq_true rfl, Nat.le_of_ble_eq_true rfl⟩) (PW_preV (i := 0) (by decide) CC_0 rfl rfl hK hP) rfl rfl hl.1 rfl (lv_room (Nat.le_of_ble_eq_true rfl)) dX1_certainty_2 ⟨Nat.zero_le _, Nat.zero_le _⟩) ?_
  refine lv_if_ne (tgt := 11) hx hb dX1_certainty_5 (by decide) (fun c_5 => ?_) (fun c_5 => ?_)
  · refine lv_aload_n hx hb dX1_certainty_11 rfl (lv_at hl 0 rfl) ?_
    refine lv_iload_n hx hb dX1_certainty_12 rfl (lv_at hl 1 rfl) ?_
    refine q_callS (va_runV (As := [.int p1]) (rest := []) ⟨hx, hb, hml, hown, hts⟩ (mX1_isAboard l D cI cS ad hI R F p1) (cwV 1 hts gX1_certainty_X1_isAboard rfl rfl rfl (by decide +kernel) ⟨Nat.le_of_ble_eq_true rfl, Nat.le_of_ble_eq_true rfl⟩) (PW_preV (i := 0) (by decide) CC_0 rfl rfl hK hP) rfl rfl hl.1 rfl (lv_room (Nat.le_of_ble_eq_true rfl)) dX1_certainty_13 ⟨Nat.zero_le _, Nat.zero_le _⟩) ?_
    refine lv_if_ne (tgt := 22) hx hb dX1_certainty_16 (by decide) (fun c_16 => ?_) (fun c_16 => ?_)
    · refine lv_aload_n hx hb dX1_certainty_22 rfl (lv_at hl 0 rfl) ?_
      refine lv_iload_n hx hb dX1_certainty_23 rfl (lv_at hl 1 rfl) ?_
      refine q_callS (va_runV (As := [.int p1]) (rest := []) ⟨hx, hb, hml, hown, hts⟩ (mX1_certaintyFor l D cI cS ad hI R F p1) (cwV 1 hts gX1_certainty_X1_certaintyFor rfl rfl rfl (by decide +kernel) ⟨Nat.le_of_ble_eq_true rfl, Nat.le_of_ble_eq_true rfl⟩) (PW_preV (i := 0) (by decide) CC_0 rfl rfl hK hP) rfl rfl hl.1 rfl (lv_room (Nat.le_of_ble_eq_true rfl)) dX1_certainty_24 ⟨Nat.zero_le _, Nat.zero_le _⟩) ?_
      have hX : (xX1_certainty R F p1) = (xX1_certaintyFor R F p1) := by unfold xX1_certainty; rw [if_neg c_5, if_neg c_16]
      exact W.iret (v := (xX1_certaintyFor R F p1)) hx hb hr (fun t ht hW => ⟨by rw [hX], ht⟩) (fun _ h => by cases h) dX1_certainty_27
    · refine lv_ldc (v := -100002) hx hb hown lk55 dX1_certainty_19 ?_
      have hX : (xX1_certainty R F p1) = (-100002 : Int32) := by unfold xX1_certainty; rw [if_neg c_5, if_pos c_16]
      exact W.iret (v := (-100002 : Int32)) hx hb hr (fun t ht hW => ⟨by rw [hX], ht⟩) (fun _ h => by cases h) dX1_certainty_21
  · refine lv_ldc (v := -100001) hx hb hown lk45 dX1_certainty_8 ?_
    have hX : (xX1_certainty R F p1) = (-100001 : Int32) := by unfold xX1_certainty; rw [if_pos c_5]
    exact W.iret (v := (-100001 : Int32)) hx hb hr (fun t ht hW => ⟨by rw [hX], ht⟩) (fun _ h => by cases h) dX1_certainty_10

