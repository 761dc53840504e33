def xX0_copyFrom (R F : Nat → Nat → Int32) (i0 : Nat) (i1 : Nat) : (Nat → Nat → Int32) × (Nat → Nat → Int32) :=
  ((xX1_copyRow (xX1_copyRow (xX1_copyRow (xX1_copyRow (xX1_copyRow (xX1_copyRow (xX1_copyRow (xX1_copyRow (xX1_copyRow (xX1_copyRow (xX1_copyRow (xX1_copyRow R (sR (sR (sR F i0 0 (F i1 0)) i0 1 ((sR F i0 0 (F i1 0)) i1 1)) i0 2 ((sR (sR F i0 0 (F i1 0)) i0 1 ((sR F i0 0 (F i1 0)) i1 1)) i1 2)) (i1 + 1) (i0 + 1) 24) (sR (sR (sR F i0 0 (F i1 0)) i0 1 ((sR F i0 0 (F i1 0)) i1 1)) i0 2 ((sR (sR F i0 0 (F i1 0)) i0 1 ((sR F i0 0 (F i1 0)) i1 1)) i1 2)) (i1 + 2) (i0 + 2) 24) (sR (sR (sR F i0 0 (F i1 0)) i0 1 ((sR F i0 0 (F i1 0)) i1 1)) i0 2 ((sR (sR F i0 0 (F i1 0)) i0 1 ((sR F i0 0 (F i1 0)) i1 1)) i1 2)) (i1 + 3) (i0 + 3) 24) (sR (sR (sR F i0 0 (F i1 0)) i0 1 ((sR F i0 0 (F i1 0)) i1 1)) i0 2 ((sR (sR F i0 0 (F i1 0)) i0 1 ((sR F i0 0 (F i1 0)) i1 1)) i1 2)) (i1 + 4) (i0 + 4) 24) (sR (sR (sR F i0 0 (F i1 0)) i0 1 ((sR F i0 0 (F i1 0)) i1 1)) i0 2 ((sR (sR F i0 0 (F i1 0)) i0 1 ((sR F i0 0 (F i1 0)) i1 1)) i1 2)) (i1 + 5) (i0 + 5) 8) (sR (sR (sR F i0 0 (F i1 0)) i0 1 ((sR F i0 0 (F i1 0)) i1 1)) i0 2 ((sR (sR F i0 0 (F i1 0)) i0 1 ((sR F i0 0 (F i1 0)) i1 1)) i1 2)) (i1 + 6) (i0 + 6) 8) (sR (sR (sR F i0 0 (F i1 0)) i0 1 ((sR F i0 0 (F i1 0)) i1 1)) i0 2 ((sR (sR F i0 0 (F i1 0)) i0 1 ((sR F i0 0 (F i1 0)) i1 1)) i1 2)) (i1 + 7) (i0 + 7) 8) (sR (sR (sR F i0 0 (F i1 0)) i0 1 ((sR F i0 0 (F i1 0)) i1 1)) i0 2 ((sR (sR F i0 0 (F i1 0)) i0 1 ((sR F i0 0 (F i1 0)) i1 1)) i1 2)) (i1 + 8) (i0 + 8) 8) (sR (sR (sR F i0 0 (F i1 0)) i0 1 ((sR F i0 0 (F i1 0)) i1 1)) i0 2 ((sR (sR F i0 0 (F i1 0)) i0 1 ((sR F i0 0 (F i1 0)) i1 1)) i1 2)) (i1 + 9) (i0 + 9) 8) (sR (sR (sR F i0 0 (F i1 0)) i0 1 ((sR F i0 0 (F i1 0)) i1 1)) i0 2 ((sR (sR F i0 0 (F i1 0)) i0 1 ((sR F i0 0 (F i1 0)) i1 1)) i1 2)) (i1 + 10) (i0 + 10) 8) (sR (sR (sR F i0 0 (F i1 0)) i0 1 ((sR F i0 0 (F i1 0)) i1 1)) i0 2 ((sR (sR F i0 0 (F i1 0)) i0 1 ((sR F i0 0 (F i1 0)) i1 1)) i1 2)) (i1 + 11) (i0 + 11) 8) (sR (sR (sR F i0 0 (F i1 0)) i0 1 ((sR F i0 0 (F i1 0)) i1 1)) i0 2 ((sR (sR F i0 0 (F i1 0)) i0 1 ((sR F i0 0 (F i1 0)) i1 1)) i1 2)) (i1 + 12) (i0 + 12) 8), (sR (sR (sR F i0 0 (F i1 0)) i0 1 ((sR F i0 0 (F i1 0)) i1 1)) i0 2 ((sR (sR F i0 0 (F i1 0)) i0 1 ((sR F i0 0 (F i1 0)) i1 1)) i1 2)))
set_option maxHeartbeats 4000000 in
set_option maxRecDepth 100000 in
theorem mX0_copyFrom (l : Launch) (D : va_G) (cI cS : ClassId) (ad : Nat → Nat) (hI : Inj ad) (R F : Nat → Nat → Int32) (i0 : Nat) (i1 : Nat) (hi0 : St i0 = true) (hi1 : St i1 = true) : Met l yX0_copyFrom wsX0_copyFrom ({ frames := 2, cells := 0, slots := 0, locals := 69 }) (PW D cI cS ad R F [.ref (ad i0), .ref (ad i1)]) (QV D cI cS ad ((xX0_copyFrom R F i0 i1).1) ((xX0_copyFrom R F i0 i1).2)) 0 0 (AA ad) := by
  refine Met.ofW (cc := cX0_copyFrom) (maxL := 2) (ret := none) (by decide) rfl ?_
  intro p e s m args below meth c s₁ B hml hv
  obtain ⟨rfl, hP, hK⟩ := hv
  have hx := B.exec
  have hb := B.bytes
  have hr := B.returns
  have hts := atoms_spec (ws := wsX0_copyFrom) B.pre
  have hown : s.vm.findClass RX0 = some m.cls := findClass_of_methodNamed B.named
  have hlocks := B.notSynchronized
  have hS : va_S (AA ad) s.heap s.heap [] := va_S.rf
  have hl := lv_entry ([.ref (ad i0), .ref (ad i1)]) (n := 2) (Nat.le_of_ble_eq_true rfl)
  rw [lg_entry_eq]
  generalize (lg_sl ([.ref (ad i0), .ref (ad i1)]) ++ List.replicate (2 - (lg_sl ([.ref (ad i0), .ref (ad i1)])).length) Slot.unset).toArray = ls at hl ⊢
  have hl : lv_has ls 2 [(0, .ref (ad i0)), (1, .ref (ad i1))] := hl
  have lk9 := hts (.fieldLink RX0 9 "FerryFloor$State" "minute" "I") (by decide +kernel)
  have lk15 := hts (.fieldLink RX0 15 "FerryFloor$State" "price" "I") (by decide +kernel)
  have lk18 := hts (.fieldLink RX0 18 "FerryFloor$State" "walkers" "I") (by decide +kernel)
  have lk21 := hts (.fieldLink RX0 21 "FerryFloor$State" "zeros" "[I") (by decide +kernel)
  have lk25 := hts (.fieldLink RX0 25 "FerryFloor$State" "drifts" "[I") (by decide +kernel)
  have lk28 := hts (.fieldLink RX0 28 "FerryFloor$State" "tares" "[I") (by decide +kernel)
  have lk31 := hts (.fieldLink RX0 31 "FerryFloor$State" "tareMinutes" "[I") (by decide +kernel)
  have lk34 := hts (.fieldLink RX0 34 "FerryFloor$State" "weights" "[I") (by decide +kernel)
  have lk37 := hts (.fieldLink RX0 37 "FerryFloor$State" "places" "[I") (by decide +kernel)
  have lk40 := hts (.fieldLink RX0 40 "FerryFloor$State" "bookWeights" "[I") (by decide +kernel)
  have lk43 := hts (.fieldLink RX0 43 "FerryFloor$State" "bookPlaces" "[I") (by decide +kernel)
  have lk46 := hts (.fieldLink RX0 46 "FerryFloor$State" "accusations" "[I") (by decide +kernel)
  have lk49 := hts (.fieldLink RX0 49 "FerryFloor$State" "billKilograms" "[I") (by decide +kernel)
  have lk52 := hts (.fieldLink RX0 52 "FerryFloor$State" "billPrices" "[I") (by decide +kernel)
  have lk55 := hts (.fieldLink RX0 55 "FerryFloor$State" "backKilograms" "[I") (by decide +kernel)
  have hin0 : ∀ w ∈ u_ws RX0 TX0 15, w ∈ wsX0_copyFrom := by decide +kernel
  refine lv_aload_n hx hb dX0_copyFrom_0 rfl (lv_at hl 0 rfl) ?_
  refine lv_aload_n hx hb dX0_copyFrom_1 rfl (lv_at hl 1 rfl) ?_
  refine q_getS (v := .int (F i1 0)) hx hb hts hin0 hown hK hP i1 hi1 0 (by decide) lk9 (fun _ h => h) rfl dX0_copyFrom_2 ?_
  refine q_putS hx hb hts hin0 hown hK hI hP hS i0 hi0 0 (by decide) lk9 (fun _ h => h) dX0_copyFrom_5 (fun H locs hP hS => ?_)
  have hP : WP D cI cS ad R (sR F i0 0 (F i1 0)) H := hP
  refine lv_aload_n hx hb dX0_copyFrom_8 rfl (lv_at hl 0 rfl) ?_
  refine lv_aload_n hx hb dX0_copyFrom_9 rfl (lv_at hl 1 rfl) ?_
  refine q_getS (v := .int ((sR F i0 0 (F i1 0)) i1 1)) hx hb hts hin0 hown hK hP i1 hi1 1 (by decide) lk15 (fun _ h => h) rfl dX0_copyFrom_10 ?_
  refine q_putS hx hb hts hin0 hown hK hI hP hS i0 hi0 1 (by decide) lk15 (fun _ h => h) dX0_copyFrom_13 (fun H locs hP hS => ?_)
  have hP : WP D cI cS ad R (sR (sR F i0 0 (F i1 0)) i0 1 ((sR F i0 0 (F i1 0)) i1 1)) H := hP
  refine lv_aload_n hx hb dX0_copyFrom_16 rfl (lv_at hl 0 rfl) ?_
  refine lv_aload_n hx hb dX0_copyFrom_17 rfl (lv_at hl 1 rfl) ?_
  refine q_getS (v := .int ((sR (sR F i0 0 (F i1 0)) i0 1 ((sR F i0 0 (F i1 0)) i1 1)) i1 2)) hx hb hts hin0 hown hK hP i1 hi1 2 (by decide) lk18 (fun _ h => h) rfl dX0_copyFrom_18 ?_
  refine q_putS hx hb hts hin0 hown hK hI hP hS i0 hi0 2 (by decide) lk18 (fun _ h => h) dX0_copyFrom_21 (fun H locs hP hS => ?_)
  have hP : WP D cI cS ad R (sR (sR (sR F i0 0 (F i1 0)) i0 1 ((sR F i0 0 (F i1 0)) i1 1)) i0 2 ((sR (sR F i0 0 (F i1 0)) i0 1 ((sR F i0 0 (F i1 0)) i1 1)) i1 2)) H := hP
  refine lv_aload_n hx hb dX0_copyFrom_24 rfl (lv_at hl 1 rfl) ?_
  refine q_getS (v := .ref (ad (i1 + 1))) hx hb hts hin0 hown hK hP i1 hi1 3 (by decide) lk21 (fun _ h => h) rfl dX0_copyFrom_25 ?_
  refine lv_aload_n hx hb dX0_copyFrom_28 rfl (lv_at hl 0 rfl) ?_
  refine q_getS (v := .ref (ad (i0 + 1))) hx hb hts hin0 hown hK hP i0 hi0 3 (by decide) lk21 (fun _ h => h) rfl dX0_copyFrom_29 ?_
  refine q_callV (va_runSN (As := [.ref (ad (i1 + 1)), .ref (ad (i0 + 1))]) (rest := []) ⟨hx, hb, hml, hown, hts⟩ (mX1_copyRow l D cI cS ad hI R (sR (sR (sR F i0 0 (F i1 0)) i0 1 ((sR F i0 0 (F i1 0)) i1 1)) i0 2 ((sR (sR F i0 0 (F i1 0)) i0 1 ((sR F i0 0 (F i1 0)) i1 1)) i1 2)) (i1 + 1) (i0 + 1) 24 (Ar_S1 hi1) (Ar_S1 hi0) (by decide)) ⟨va_cnB 2 hts gX0_copyFrom_X1_copyRow_n63 rfl rfl rfl hK.2.2 (hts (.initialized RX1) (by decide +kernel)) (by decide +kernel) ⟨Nat.le_of_ble_eq_true rfl, Nat.le_of_ble_eq_true rfl⟩, hts (.static yX1_copyRow) (by decide +kernel), trivial⟩ (PW_preS hK hP) rfl rfl hl.1 rfl (lv_room (Nat.le_of_ble_eq_true rfl)) dX0_copyFrom_32 ⟨Nat.zero_le _, Nat.zero_le _⟩) hS (fun H locs hP hS => ?_)
  refine lv_aload_n hx hb dX0_copyFrom_35 rfl (lv_at hl 1 rfl) ?_
  refine q_getS (v := .ref (ad (i1 + 2))) hx hb hts hin0 hown hK hP i1 hi1 4 (by decide) lk25 (fun _ h => h) rfl dX0_copyFrom_36 ?_
  refine lv_aload_n hx hb dX0_copyFrom_39 rfl (lv_at hl 0 rfl) ?_
  refine q_getS (v := .ref (ad (i0 + 2))) hx hb hts hin0 hown hK hP i0 hi0 4 (by decide) lk25 (fun _ h => h) rfl dX0_copyFrom_40 ?_
  refine q_callV (va_runSN (As := [.ref (ad (i1 + 2)), .ref (ad (i0 + 2))]) (rest := []) ⟨hx, hb, hml, hown, hts⟩ (mX1_copyRow l D cI cS ad hI (xX1_copyRow R (sR (sR (sR F i0 0 (F i1 0)) i0 1 ((sR F i0 0 (F i1 0)) i1 1)) i0 2 ((sR (sR F i0 0 (F i1 0)) i0 1 ((sR F i0 0 (F i1 0)) i1 1)) i1 2)) (i1 + 1) (i0 + 1) 24) (sR (sR (sR F i0 0 (F i1 0)) i0 1 ((sR F i0 0 (F i1 0)) i1 1)) i0 2 ((sR (sR F i0 0 (F i1 0)) i0 1 ((sR F i0 0 (F i1 0)) i1 1)) i1 2)) (i1 + 2) (i0 + 2) 24 (Ar_S2 hi1) (Ar_S2 hi0) (by decide)) ⟨va_cnB 2 hts gX0_copyFrom_X1_copyRow_n63 rfl rfl rfl hK.2.2 (hts (.initialized RX1) (by decide +kernel)) (by decide +kernel) ⟨Nat.le_of_ble_eq_true rfl, Nat.le_of_ble_eq_true rfl⟩, hts (.static yX1_copyRow) (by decide +kernel), trivial⟩ (PW_preS hK hP) rfl rfl hl.1 rfl (lv_room (Nat.le_of_ble_eq_true rfl)) dX0_copyFrom_43 ⟨Nat.zero_le _, Nat.zero_le _⟩) hS (fun H locs hP hS => ?_)
  refine lv_aload_n hx hb dX0_copyFrom_46 rfl (lv_at hl 1 rfl) ?_
  refine q_getS (v := .ref (ad (i1 + 3))) hx hb hts hin0 hown hK hP i1 hi1 5 (by decide) lk28 (fun _ h => h) rfl dX0_copyFrom_47 ?_
  refine lv_aload_n hx hb dX0_copyFrom_50 rfl (lv_at hl 0 rfl) ?_
  refine q_getS (v := .ref (ad (i0 + 3))) hx hb hts hin0 hown hK hP i0 hi0 5 (by decide) lk28 (fun _ h => h) rfl dX0_copyFrom_51 ?_
  refine q_callV (va_runSN (As := [.ref (ad (i1 + 3)), .ref (ad (i0 + 3))]) (rest := []) ⟨hx, hb, hml, hown, hts⟩ (mX1_copyRow l D cI cS ad hI (xX1_copyRow (xX1_copyRow R (sR (sR (sR F i0 0 (F i1 0)) i0 1 ((sR F i0 0 (F i1 0)) i1 1)) i0 2 ((sR (sR F i0 0 (F i1 0)) i0 1 ((sR F i0 0 (F i1 0)) i1 1)) i1 2)) (i1 + 1) (i0 + 1) 24) (sR (sR (sR F i0 0 (F i1 0)) i0 1 ((sR F i0 0 (F i1 0)) i1 1)) i0 2 ((sR (sR F i0 0 (F i1 0)) i0 1 ((sR F i0 0 (F i1 0)) i1 1)) i1 2)) (i1 + 2) (i0 + 2) 24) (sR (sR (sR F i0 0 (F i1 0)) i0 1 ((sR F i0 0 (F i1 0)) i1 1)) i0 2 ((sR (sR F i0 0 (F i1 0)) i0 1 ((sR F i0 0 (F i1 0)) i1 1)) i1 2)) (i1 + 3) (i0 + 3) 24 (Ar_S3 hi1) (Ar_S3 hi0) (by decide)) ⟨va_cnB 2 hts gX0_copyFrom_X1_copyRow_n63 rfl rfl rfl hK.2.2 (hts (.initialized RX1) (by decide +kernel)) (by decide +kernel) ⟨Nat.le_of_ble_eq_true rfl, Nat.le_of_ble_eq_true rfl⟩, hts (.static yX1_copyRow) (by decide +kernel), trivial⟩ (PW_preS hK hP) rfl rfl hl.1 rfl (lv_room (Nat.le_of_ble_eq_true rfl)) dX0_copyFrom_54 ⟨Nat.zero_le _, Nat.zero_le _⟩) hS (fun H locs hP hS => ?_)
  refine lv_aload_n hx hb dX0_copyFrom_57 rfl (lv_at hl 1 rfl) ?_
  refine q_getS (v := .ref (ad (i1 + 4))) hx hb hts hin0 hown hK hP i1 hi1 6 (by decide) lk31 (fun _ h => h) rfl dX0_copyFrom_58 ?_
  refine lv_aload_n hx hb dX0_copyFrom_61 rfl (lv_at hl 0 rfl) ?_
  refine q_getS (v := .ref (ad (i0 + 4))) hx hb hts hin0 hown hK hP i0 hi0 6 (by decide) lk31 (fun _ h => h) rfl dX0_copyFrom_62 ?_
  refine q_callV (va_runSN (As := [.ref (ad (i1 + 4)), .ref (ad (i0 + 4))]) (rest := []) ⟨hx, hb, hml, hown, hts⟩ (mX1_copyRow l D cI cS ad hI (xX1_copyRow (xX1_copyRow (xX1_copyRow R (sR (sR (sR F i0 0 (F i1 0)) i0 1 ((sR F i0 0 (F i1 0)) i1 1)) i0 2 ((sR (sR F i0 0 (F i1 0)) i0 1 ((sR F i0 0 (F i1 0)) i1 1)) i1 2)) (i1 + 1) (i0 + 1) 24) (sR (sR (sR F i0 0 (F i1 0)) i0 1 ((sR F i0 0 (F i1 0)) i1 1)) i0 2 ((sR (sR F i0 0 (F i1 0)) i0 1 ((sR F i0 0 (F i1 0)) i1 1)) i1 2)) (i1 + 2) (i0 + 2) 24) (sR (sR (sR F i0 0 (F i1 0)) i0 1 ((sR F i0 0 (F i1 0)) i1 1)) i0 2 ((sR (sR F i0 0 (F i1 0)) i0 1 ((sR F i0 0 (F i1 0)) i1 1)) i1 2)) (i1 + 3) (i0 + 3) 24) (sR (sR (sR F i0 0 (F i1 0)) i0 1 ((sR F i0 0 (F i1 0)) i1 1)) i0 2 ((sR (sR F i0 0 (F i1 0)) i0 1 ((sR F i0 0 (F i1 0)) i1 1)) i1 2)) (i1 + 4) (i0 + 4) 24 (Ar_S4 hi1) (Ar_S4 hi0) (by decide)) ⟨va_cnB 2 hts gX0_copyFrom_X1_copyRow_n63 rfl rfl rfl hK.2.2 (hts (.initialized RX1) (by decide +kernel)) (by decide +kernel) ⟨Nat.le_of_ble_eq_true rfl, Nat.le_of_ble_eq_true rfl⟩, hts (.static yX1_copyRow) (by decide +kernel), trivial⟩ (PW_preS hK hP) rfl rfl hl.1 rfl (lv_room (Nat.le_of_ble_eq_true rfl)) dX0_copyFrom_65 ⟨Nat.zero_le _, Nat.zero_le _⟩) hS (fun H locs hP hS => ?_)
  refine lv_aload_n hx hb dX0_copyFrom_68 rfl (lv_at hl 1 rfl) ?_
  refine q_getS (v := .ref (ad (i1 + 5))) hx hb hts hin0 hown hK hP i1 hi1 7 (by decide) lk34 (fun _ h => h) rfl dX0_copyFrom_69 ?_
  refine lv_aload_n hx hb dX0_copyFrom_72 rfl (lv_at hl 0 rfl) ?_
  refine q_getS (v := .ref (ad (i0 + 5))) hx hb hts hin0 hown hK hP i0 hi0 7 (by decide) lk34 (fun _ h => h) rfl dX0_copyFrom_73 ?_
  refine q_callV (va_runSN (As := [.ref (ad (i1 + 5)), .ref (ad (i0 + 5))]) (rest := []) ⟨hx, hb, hml, hown, hts⟩ (mX1_copyRow l D cI cS ad hI (xX1_copyRow (xX1_copyRow (xX1_copyRow (xX1_copyRow R (sR (sR (sR F i0 0 (F i1 0)) i0 1 ((sR F i0 0 (F i1 0)) i1 1)) i0 2 ((sR (sR F i0 0 (F i1 0)) i0 1 ((sR F i0 0 (F i1 0)) i1 1)) i1 2)) (i1 + 1) (i0 + 1) 24) (sR (sR (sR F i0 0 (F i1 0)) i0 1 ((sR F i0 0 (F i1 0)) i1 1)) i0 2 ((sR (sR F i0 0 (F i1 0)) i0 1 ((sR F i0 0 (F i1 0)) i1 1)) i1 2)) (i1 + 2) (i0 + 2) 24) (sR (sR (sR F i0 0 (F i1 0)) i0 1 ((sR F i0 0 (F i1 0)) i1 1)) i0 2 ((sR (sR F i0 0 (F i1 0)) i0 1 ((sR F i0 0 (F i1 0)) i1 1)) i1 2)) (i1 + 3) (i0 + 3) 24) (sR (sR (sR F i0 0 (F i1 0)) i0 1 ((sR F i0 0 (F i1 0)) i1 1)) i0 2 ((sR (sR F i0 0 (F i1 0)) i0 1 ((sR F i0 0 (F i1 0)) i1 1)) i1 2)) (i1 + 4) (i0 + 4) 24) (sR (sR (sR F i0 0 (F i1 0)) i0 1 ((sR F i0 0 (F i1 0)) i1 1)) i0 2 ((sR (sR F i0 0 (F i1 0)) i0 1 ((sR F i0 0 (F i1 0)) i1 1)) i1 2)) (i1 + 5) (i0 + 5) 8 (Ar_S5 hi1) (Ar_S5 hi0) (by decide)) ⟨va_cnB 2 hts gX0_copyFrom_X1_copyRow_n63 rfl rfl rfl hK.2.2 (hts (.initialized RX1) (by decide +kernel)) (by decide +kernel) ⟨Nat.le_of_ble_eq_true rfl, Nat.le_of_ble_eq_true rfl⟩, hts (.static yX1_copyRow) (by decide +kernel), trivial⟩ (PW_preS hK hP) rfl rfl hl.1 rfl (lv_room (Nat.le_of_ble_eq_true rfl)) dX0_copyFrom_76 ⟨Nat.zero_le _, Nat.zero_le _⟩) hS (fun H locs hP hS => ?_)
  refine lv_aload_n hx hb dX0_copyFrom_79 rfl (lv_at hl 1 rfl) ?_
  refine q_getS (v := .ref (ad (i1 + 6))) hx hb hts hin0 hown hK hP i1 hi1 8 (by decide) lk37 (fun _ h => h) rfl dX0_copyFrom_80 ?_
  refine lv_aload_n hx hb dX0_copyFrom_83 rfl (lv_at hl 0 rfl) ?_
  refine q_getS (v := .ref (ad (i0 + 6))) hx hb hts hin0 hown hK hP i0 hi0 8 (by decide) lk37 (fun _ h => h) rfl dX0_copyFrom_84 ?_
  refine q_callV (va_runSN (As := [.ref (ad (i1 + 6)), .ref (ad (i0 + 6))]) (rest := []) ⟨hx, hb, hml, hown, hts⟩ (mX1_copyRow l D cI cS ad hI (xX1_copyRow (xX1_copyRow (xX1_copyRow (xX1_copyRow (xX1_copyRow R (sR (sR (sR F i0 0 (F i1 0)) i0 1 ((sR F i0 0 (F i1 0)) i1 1)) i0 2 ((sR (sR F i0 0 (F i1 0)) i0 1 ((sR F i0 0 (F i1 0)) i1 1)) i1 2)) (i1 + 1) (i0 + 1) 24) (sR (sR (sR F i0 0 (F i1 0)) i0 1 ((sR F i0 0 (F i1 0)) i1 1)) i0 2 ((sR (sR F i0 0 (F i1 0)) i0 1 ((sR F i0 0 (F i1 0)) i1 1)) i1 2)) (i1 + 2) (i0 + 2) 24) (sR (sR (sR F i0 0 (F i1 0)) i0 1 ((sR F i0 0 (F i1 0)) i1 1)) i0 2 ((sR (sR F i0 0 (F i1 0)) i0 1 ((sR F i0 0 (F i1 0)) i1 1)) i1 2)) (i1 + 3) (i0 + 3) 24) (sR (sR (sR F i0 0 (F i1 0)) i0 1 ((sR F i0 0 (F i1 0)) i1 1)) i0 2 ((sR (sR F i0 0 (F i1 0)) i0 1 ((sR F i0 0 (F i1 0)) i1 1)) i1 2)) (i1 + 4) (i0 + 4) 24) (sR (sR (sR F i0 0 (F i1 0)) i0 1 ((sR F i0 0 (F i1 0)) i1 1)) i0 2 ((sR (sR F i0 0 (F i1 0)) i0 1 ((sR F i0 0 (F i1 0)) i1 1)) i1 2)) (i1 + 5) (i0 + 5) 8) (sR (sR (sR F i0 0 (F i1 0)) i0 1 ((sR F i0 0 (F i1 0)) i1 1)) i0 2 ((sR (sR F i0 0 (F i1 0)) i0 1 ((sR F i0 0 (F i1 0)) i1 1)) i1 2)) (i1 + 6) (i0 + 6) 8 (Ar_S6 hi1) (Ar_S6 hi0) (by decide)) ⟨va_cnB 2 hts gX0_copyFrom_X1_copyRow_n63 rfl rfl rfl hK.2.2 (hts (.initialized RX1) (by decide +kernel)) (by decide +kernel) ⟨Nat.le_of_ble_eq_true rfl, Nat.le_of_ble_eq_true rfl⟩, hts (.static yX1_copyRow) (by decide +kernel), trivial⟩ (PW_preS hK hP) rfl rfl hl.1 rfl (lv_room (Nat.le_of_ble_eq_true rfl)) dX0_copyFrom_87 ⟨Nat.zero_le _, Nat.zero_le _⟩) hS (fun H locs hP hS => ?_)
  refine lv_aload_n hx hb dX0_copyFrom_90 rfl (lv_at hl 1 rfl) ?_
  refine q_getS (v := .ref (ad (i1 + 7))) hx hb hts hin0 hown hK hP i1 hi1 9 (by decide) lk40 (fun _ h => h) rfl dX0_copyFrom_91 ?_
  refine lv_aload_n hx hb dX0_copyFrom_94 rfl (lv_at hl 0 rfl) ?_
  refine q_getS (v := .ref (ad (i0 + 7))) hx hb hts hin0 hown hK hP i0 hi0 9 (by decide) lk40 (fun _ h => h) rfl dX0_copyFrom_95 ?_
  refine q_callV (va_runSN (As := [.ref (ad (i1 + 7)), .ref (ad (i0 + 7))]) (rest := []) ⟨hx, hb, hml, hown, hts⟩ (mX1_copyRow l D cI cS ad hI (xX1_copyRow (xX1_copyRow (xX1_copyRow (xX1_copyRow (xX1_copyRow (xX1_copyRow R (sR (sR (sR F i0 0 (F i1 0)) i0 1 ((sR F i0 0 (F i1 0)) i1 1)) i0 2 ((sR (sR F i0 0 (F i1 0)) i0 1 ((sR F i0 0 (F i1 0)) i1 1)) i1 2)) (i1 + 1) (i0 + 1) 24) (sR (sR (sR F i0 0 (F i1 0)) i0 1 ((sR F i0 0 (F i1 0)) i1 1)) i0 2 ((sR (sR F i0 0 (F i1 0)) i0 1 ((sR F i0 0 (F i1 0)) i1 1)) i1 2)) (i1 + 2) (i0 + 2) 24) (sR (sR (sR F i0 0 (F i1 0)) i0 1 ((sR F i0 0 (F i1 0)) i1 1)) i0 2 ((sR (sR F i0 0 (F i1 0)) i0 1 ((sR F i0 0 (F i1 0)) i1 1)) i1 2)) (i1 + 3) (i0 + 3) 24) (sR (sR (sR F i0 0 (F i1 0)) i0 1 ((sR F i0 0 (F i1 0)) i1 1)) i0 2 ((sR (sR F i0 0 (F i1 0)) i0 1 ((sR F i0 0 (F i1 0)) i1 1)) i1 2)) (i1 + 4) (i0 + 4) 24) (sR (sR (sR F i0 0 (F i1 0)) i0 1 ((sR F i0 0 (F i1 0)) i1 1)) i0 2 ((sR (sR F i0 0 (F i1 0)) i0 1 ((sR F i0 0 (F i1 0)) i1 1)) i1 2)) (i1 + 5) (i0 + 5) 8) (sR (sR (sR F i0 0 (F i1 0)) i0 1 ((sR F i0 0 (F i1 0)) i1 1)) i0 2 ((sR (sR F i0 0 (F i1 0)) i0 1 ((sR F i0 0 (F i1 0)) i1 1)) i1 2)) (i1 + 6) (i0 + 6) 8) (sR (sR (sR F i0 0 (F i1 0)) i0 1 ((sR F i0 0 (F i1 0)) i1 1)) i0 2 ((sR (sR F i0 0 (F i1 0)) i0 1 ((sR F i0 0 (F i1 0)) i1 1)) i1 2)) (i1 + 7) (i0 + 7) 8 (Ar_S7 hi1) (Ar_S7 hi0) (by decide)) ⟨va_cnB 2 hts gX0_copyFrom_X1_copyRow_n63 rfl rfl rfl hK.2.2 (hts (.initialized RX1) (by decide +kernel)) (by decide +kernel) ⟨Nat.le_of_ble_eq_true rfl, Nat.le_of_ble_eq_true rfl⟩, hts (.static yX1_copyRow) (by decide +kernel), trivial⟩ (PW_preS hK hP) rfl rfl hl.1 rfl (lv_room (Nat.le_of_ble_eq_true rfl)) dX0_copyFrom_98 ⟨Nat.zero_le _, Nat.zero_le _⟩) hS (fun H locs hP hS => ?_)
  refine lv_aload_n hx hb dX0_copyFrom_101 rfl (lv_at hl 1 rfl) ?_
  refine q_getS (v := .ref (ad (i1 + 8))) hx hb hts hin0 hown hK hP i1 hi1 10 (by decide) lk43 (fun _ h => h) rfl dX0_copyFrom_102 ?_
  refine lv_aload_n hx hb dX0_copyFrom_105 rfl (lv_at hl 0 rfl) ?_
  refine q_getS (v := .ref (ad (i0 + 8))) hx hb hts hin0 hown hK hP i0 hi0 10 (by decide) lk43 (fun _ h => h) rfl dX0_copyFrom_106 ?_
  refine q_callV (va_runSN (As := [.ref (ad (i1 + 8)), .ref (ad (i0 + 8))]) (rest := []) ⟨hx, hb, hml, hown, hts⟩ (mX1_copyRow l D cI cS ad hI (xX1_copyRow (xX1_copyRow (xX1_copyRow (xX1_copyRow (xX1_copyRow (xX1_copyRow (xX1_copyRow R (sR (sR (sR F i0 0 (F i1 0)) i0 1 ((sR F i0 0 (F i1 0)) i1 1)) i0 2 ((sR (sR F i0 0 (F i1 0)) i0 1 ((sR F i0 0 (F i1 0)) i1 1)) i1 2)) (i1 + 1) (i0 + 1) 24) (sR (sR (sR F i0 0 (F i1 0)) i0 1 ((sR F i0 0 (F i1 0)) i1 1)) i0 2 ((sR (sR F i0 0 (F i1 0)) i0 1 ((sR F i0 0 (F i1 0)) i1 1)) i1 2)) (i1 + 2) (i0 + 2) 24) (sR (sR (sR F i0 0 (F i1 0)) i0 1 ((sR F i0 0 (F i1 0)) i1 1)) i0 2 ((sR (sR F i0 0 (F i1 0)) i0 1 ((sR F i0 0 (F i1 0)) i1 1)) i1 2)) (i1 + 3) (i0 + 3) 24) (sR (sR (sR F i0 0 (F i1 0)) i0 1 ((sR F i0 0 (F i1 0)) i1 1)) i0 2 ((sR (sR F i0 0 (F i1 0)) i0 1 ((sR F i0 0 (F i1 0)) i1 1)) i1 2)) (i1 + 4) (i0 + 4) 24) (sR (sR (sR F i0 0 (F i1 0)) i0 1 ((sR F i0 0 (F i1 0)) i1 1)) i0 2 ((sR (sR F i0 0 (F i1 0)) i0 1 ((sR F i0 0 (F i1 0)) i1 1)) i1 2)) (i1 + 5) (i0 + 5) 8) (sR (sR (sR F i0 0 (F i1 0)) i0 1 ((sR F i0 0 (F i1 0)) i1 1)) i0 2 ((sR (sR F i0 0 (F i1 0)) i0 1 ((sR F i0 0 (F i1 0)) i1 1)) i1 2)) (i1 + 6) (i0 + 6) 8) (sR (sR (sR F i0 0 (F i1 0)) i0 1 ((sR F i0 0 (F i1 0)) i1 1)) i0 2 ((sR (sR F i0 0 (F i1 0)) i0 1 ((sR F i0 0 (F i1 0)) i1 1)) i1 2)) (i1 + 7) (i0 + 7) 8) (sR (sR (sR F i0 0 (F i1 0)) i0 1 ((sR F i0 0 (F i1 0)) i1 1)) i0 2 ((sR (sR F i0 0 (F i1 0)) i0 1 ((sR F i0 0 (F i1 0)) i1 1)) i1 2)) (i1 + 8) (i0 + 8) 8 (Ar_S8 hi1) (Ar_S8 hi0) (by decide)) ⟨va_cnB 2 hts gX0_copyFrom_X1_copyRow_n63 rfl rfl rfl hK.2.2 (hts (.initialized RX1) (by decide +kernel)) (by decide +kernel) ⟨Nat.le_of_ble_eq_true rfl, Nat.le_of_ble_eq_true rfl⟩, hts (.static yX1_copyRow) (by decide +kernel), trivial⟩ (PW_preS hK hP) rfl rfl hl.1 rfl (lv_room (Nat.le_of_ble_eq_true rfl)) dX0_copyFrom_109 ⟨Nat.zero_le _, Nat.zero_le _⟩) hS (fun H locs hP hS => ?_)
  refine lv_aload_n hx hb dX0_copyFrom_112 rfl (lv_at hl 1 rfl) ?_
  refine q_getS (v := .ref (ad (i1 + 9))) hx hb hts hin0 hown hK hP i1 hi1 11 (by decide) lk46 (fun _ h => h) rfl dX0_copyFrom_113 ?_
  refine lv_aload_n hx hb dX0_copyFrom_116 rfl (lv_at hl 0 rfl) ?_
  refine q_getS (v := .ref (ad (i0 + 9))) hx hb hts hin0 hown hK hP i0 hi0 11 (by decide) lk46 (fun _ h => h) rfl dX0_copyFrom_117 ?_
  refine q_callV (va_runSN (As := [.ref (ad (i1 + 9)), .ref (ad (i0 + 9))]) (rest := []) ⟨hx, hb, hml, hown, hts⟩ (mX1_copyRow l D cI cS ad hI (xX1_copyRow (xX1_copyRow (xX1_copyRow (xX1_copyRow (xX1_copyRow (xX1_copyRow (xX1_copyRow (xX1_copyRow R (sR (sR (sR F i0 0 (F i1 0)) i0 1 ((sR F i0 0 (F i1 0)) i1 1)) i0 2 ((sR (sR F i0 0 (F i1 0)) i0 1 ((sR F i0 0 (F i1 0)) i1 1)) i1 2)) (i1 + 1) (i0 + 1) 24) (sR (sR (sR F i0 0 (F i1 0)) i0 1 ((sR F i0 0 (F i1 0)) i1 1)) i0 2 ((sR (sR F i0 0 (F i1 0)) i0 1 ((sR F i0 0 (F i1 0)) i1 1)) i1 2)) (i1 + 2) (i0 + 2) 24) (sR (sR (sR F i0 0 (F i1 0)) i0 1 ((sR F i0 0 (F i1 0)) i1 1)) i0 2 ((sR (sR F i0 0 (F i1 0)) i0 1 ((sR F i0 0 (F i1 0)) i1 1)) i1 2)) (i1 + 3) (i0 + 3) 24) (sR (sR (sR F i0 0 (F i1 0)) i0 1 ((sR F i0 0 (F i1 0)) i1 1)) i0 2 ((sR (sR F i0 0 (F i1 0)) i0 1 ((sR F i0 0 (F i1 0)) i1 1)) i1 2)) (i1 + 4) (i0 + 4) 24) (sR (sR (sR F i0 0 (F i1 0)) i0 1 ((sR F i0 0 (F i1 0)) i1 1)) i0 2 ((sR (sR F i0 0 (F i1 0)) i0 1 ((sR F i0 0 (F i1 0)) i1 1)) i1 2)) (i1 + 5) (i0 + 5) 8) (sR (sR (sR F i0 0 (F i1 0)) i0 1 ((sR F i0 0 (F i1 0)) i1 1)) i0 2 ((sR (sR F i0 0 (F i1 0)) i0 1 ((sR F i0 0 (F i1 0)) i1 1)) i1 2)) (i1 + 6) (i0 + 6) 8) (sR (sR (sR F i0 0 (F i1 0)) i0 1 ((sR F i0 0 (F i1 0)) i1 1)) i0 2 ((sR (sR F i0 0 (F i1 0)) i0 1 ((sR F i0 0 (F i1 0)) i1 1)) i1 2)) (i1 + 7) (i0 + 7) 8) (sR (sR (sR F i0 0 (F i1 0)) i0 1 ((sR F i0 0 (F i1 0)) i1 1)) i0 2 ((sR (sR F i0 0 (F i1 0)) i0 1 ((sR F i0 0 (F i1 0)) i1 1)) i1 2)) (i1 + 8) (i0 + 8) 8) (sR (sR (sR F i0 0 (F i1 0)) i0 1 ((sR F i0 0 (F i1 0)) i1 1)) i0 2 ((sR (sR F i0 0 (F i1 0)) i0 1 ((sR F i0 0 (F i1 0)) i1 1)) i1 2)) (i1 + 9) (i0 + 9) 8 (Ar_S9 hi1) (Ar_S9 hi0) (by decide)) ⟨va_cnB 2 hts gX0_copyFrom_X1_copyRow_n63 rfl rfl rfl hK.2.2 (hts (.initialized RX1) (by decide +kernel)) (by decide +kernel) ⟨Nat.le_of_ble_eq_true rfl, Nat.le_of_ble_eq_true rfl⟩, hts (.static yX1_copyRow) (by decide +kernel), trivial⟩ (PW_preS hK hP) rfl rfl hl.1 rfl (lv_room (Nat.le_of_ble_eq_true rfl)) dX0_copyFrom_120 ⟨Nat.zero_le _, Nat.zero_le _⟩) hS (fun H locs hP hS => ?_)
  refine lv_aload_n hx hb dX0_copyFrom_123 rfl (lv_at hl 1 rfl) ?_
  refine q_getS (v := .ref (ad (i1 + 10))) hx hb hts hin0 hown hK hP i1 hi1 12 (by decide) lk49 (fun _ h => h) rfl dX0_copyFrom_124 ?_
  refine lv_aload_n hx hb dX0_copyFrom_127 rfl (lv_at hl 0 rfl) ?_
  refine q_getS (v := .ref (ad (i0 + 10))) hx hb hts hin0 hown hK hP i0 hi0 12 (by decide) lk49 (fun _ h => h) rfl dX0_copyFrom_128 ?_
  refine q_callV (va_runSN (As := [.ref (ad (i1 + 10)), .ref (ad (i0 + 10))]) (rest := []) ⟨hx, hb, hml, hown, hts⟩ (mX1_copyRow l D cI cS ad hI (xX1_copyRow (xX1_copyRow (xX1_copyRow (xX1_copyRow (xX1_copyRow (xX1_copyRow (xX1_copyRow (xX1_copyRow (xX1_copyRow R (sR (sR (sR F i0 0 (F i1 0)) i0 1 ((sR F i0 0 (F i1 0)) i1 1)) i0 2 ((sR (sR F i0 0 (F i1 0)) i0 1 ((sR F i0 0 (F i1 0)) i1 1)) i1 2)) (i1 + 1) (i0 + 1) 24) (sR (sR (sR F i0 0 (F i1 0)) i0 1 ((sR F i0 0 (F i1 0)) i1 1)) i0 2 ((sR (sR F i0 0 (F i1 0)) i0 1 ((sR F i0 0 (F i1 0)) i1 1)) i1 2)) (i1 + 2) (i0 + 2) 24) (sR (sR (sR F i0 0 (F i1 0)) i0 1 ((sR F i0 0 (F i1 0)) i1 1)) i0 2 ((sR (sR F i0 0 (F i1 0)) i0 1 ((sR F i0 0 (F i1 0)) i1 1)) i1 2)) (i1 + 3) (i0 + 3) 24) (sR (sR (sR F i0 0 (F i1 0)) i0 1 ((sR F i0 0 (F i1 0)) i1 1)) i0 2 ((sR (sR F i0 0 (F i1 0)) i0 1 ((sR F i0 0 (F i1 0)) i1 1)) i1 2)) (i1 + 4) (i0 + 4) 24) (sR (sR (sR F i0 0 (F i1 0)) i0 1 ((sR F i0 0 (F i1 0)) i1 1)) i0 2 ((sR (sR F i0 0 (F i1 0)) i0 1 ((sR F i0 0 (F i1 0)) i1 1)) i1 2)) (i1 + 5) (i0 + 5) 8) (sR (sR (sR F i0 0 (F i1 0)) i0 1 ((sR F i0 0 (F i1 0)) i1 1)) i0 2 ((sR (sR F i0 0 (F i1 0)) i0 1 ((sR F i0 0 (F i1 0)) i1 1)) i1 2)) (i1 + 6) (i0 + 6) 8) (sR (sR (sR F i0 0 (F i1 0)) i0 1 ((sR F i0 0 (F i1 0)) i1 1)) i0 2 ((sR (sR F i0 0 (F i1 0)) i0 1 ((sR F i0 0 (F i1 0)) i1 1)) i1 2)) (i1 + 7) (i0 + 7) 8) (sR (sR (sR F i0 0 (F i1 0)) i0 1 ((sR F i0 0 (F i1 0)) i1 1)) i0 2 ((sR (sR F i0 0 (F i1 0)) i0 1 ((sR F i0 0 (F i1 0)) i1 1)) i1 2)) (i1 + 8) (i0 + 8) 8) (sR (sR (sR F i0 0 (F i1 0)) i0 1 ((sR F i0 0 (F i1 0)) i1 1)) i0 2 ((sR (sR F i0 0 (F i1 0)) i0 1 ((sR F i0 0 (F i1 0)) i1 1)) i1 2)) (i1 + 9) (i0 + 9) 8) (sR (sR (sR F i0 0 (F i1 0)) i0 1 ((sR F i0 0 (F i1 0)) i1 1)) i0 2 ((sR (sR F i0 0 (F i1 0)) i0 1 ((sR F i0 0 (F i1 0)) i1 1)) i1 2)) (i1 + 10) (i0 + 10) 8 (Ar_S10 hi1) (Ar_S10 hi0) (by decide)) ⟨va_cnB 2 hts gX0_copyFrom_X1_copyRow_n63 rfl rfl rfl hK.2.2 (hts (.initialized RX1) (by decide +kernel)) (by decide +kernel) ⟨Nat.le_of_ble_eq_true rfl, Nat.le_of_ble_eq_true rfl⟩, hts (.static yX1_copyRow) (by decide +kernel), trivial⟩ (PW_preS hK hP) rfl rfl hl.1 rfl (lv_room (Nat.le_of_ble_eq_true rfl)) dX0_copyFrom_131 ⟨Nat.zero_le _, Nat.zero_le _⟩) hS (fun H locs hP hS => ?_)
  refine lv_aload_n hx hb dX0_copyFrom_134 rfl (lv_at hl 1 rfl) ?_
  refine q_getS (v := .ref (ad (i1 + 11))) hx hb hts hin0 hown hK hP i1 hi1 13 (by decide) lk52 (fun _ h => h) rfl dX0_copyFrom_135 ?_
  refine lv_aload_n hx hb dX0_copyFrom_138 rfl (lv_at hl 0 rfl) ?_
  refine q_getS (v := .ref (ad (i0 + 11))) hx hb hts hin0 hown hK hP i0 hi0 13 (by decide) lk52 (fun _ h => h) rfl dX0_copyFrom_139 ?_
  refine q_callV (va_runSN (As := [.ref (ad (i1 + 11)), .ref (ad (i0 + 11))]) (rest := []) ⟨hx, hb, hml, hown, hts⟩ (mX1_copyRow l D cI cS ad hI (xX1_copyRow (xX1_copyRow (xX1_copyRow (xX1_copyRow (xX1_copyRow (xX1_copyRow (xX1_copyRow (xX1_copyRow (xX1_copyRow (xX1_copyRow R (sR (sR (sR F i0 0 (F i1 0)) i0 1 ((sR F i0 0 (F i1 0)) i1 1)) i0 2 ((sR (sR F i0 0 (F i1 0)) i0 1 ((sR F i0 0 (F i1 0)) i1 1)) i1 2)) (i1 + 1) (i0 + 1) 24) (sR (sR (sR F i0 0 (F i1 0)) i0 1 ((sR F i0 0 (F i1 0)) i1 1)) i0 2 ((sR (sR F i0 0 (F i1 0)) i0 1 ((sR F i0 0 (F i1 0)) i1 1)) i1 2)) (i1 + 2) (i0 + 2) 24) (sR (sR (sR F i0 0 (F i1 0)) i0 1 ((sR F i0 0 (F i1 0)) i1 1)) i0 2 ((sR (sR F i0 0 (F i1 0)) i0 1 ((sR F i0 0 (F i1 0)) i1 1)) i1 2)) (i1 + 3) (i0 + 3) 24) (sR (sR (sR F i0 0 (F i1 0)) i0 1 ((sR F i0 0 (F i1 0)) i1 1)) i0 2 ((sR (sR F i0 0 (F i1 0)) i0 1 ((sR F i0 0 (F i1 0)) i1 1)) i1 2)) (i1 + 4) (i0 + 4) 24) (sR (sR (sR F i0 0 (F i1 0)) i0 1 ((sR F i0 0 (F i1 0)) i1 1)) i0 2 ((sR (sR F i0 0 (F i1 0)) i0 1 ((sR F i0 0 (F i1 0)) i1 1)) i1 2)) (i1 + 5) (i0 + 5) 8) (sR (sR (sR F i0 0 (F i1 0)) i0 1 ((sR F i0 0 (F i1 0)) i1 1)) i0 2 ((sR (sR F i0 0 (F i1 0)) i0 1 ((sR F i0 0 (F i1 0)) i1 1)) i1 2)) (i1 + 6) (i0 + 6) 8) (sR (sR (sR F i0 0 (F i1 0)) i0 1 ((sR F i0 0 (F i1 0)) i1 1)) i0 2 ((sR (sR F i0 0 (F i1 0)) i0 1 ((sR F i0 0 (F i1 0)) i1 1)) i1 2)) (i1 + 7) (i0 + 7) 8) (sR (sR (sR F i0 0 (F i1 0)) i0 1 ((sR F i0 0 (F i1 0)) i1 1)) i0 2 ((sR (sR F i0 0 (F i1 0)) i0 1 ((sR F i0 0 (F i1 0)) i1 1)) i1 2)) (i1 + 8) (i0 + 8) 8) (sR (sR (sR F i0 0 (F i1 0)) i0 1 ((sR F i0 0 (F i1 0)) i1 1)) i0 2 ((sR (sR F i0 0 (F i1 0)) i0 1 ((sR F i0 0 (F i1 0)) i1 1)) i1 2)) (i1 + 9) (i0 + 9) 8) (sR (sR (sR F i0 0 (F i1 0)) i0 1 ((sR F i0 0 (F i1 0)) i1 1)) i0 2 ((sR (sR F i0 0 (F i1 0)) i0 1 ((sR F i0 0 (F i1 0)) i1 1)) i1 2)) (i1 + 10) (i0 + 10) 8) (sR (sR (sR F i0 0 (F i1 0)) i0 1 ((sR F i0 0 (F i1 0)) i1 1)) i0 2 ((sR (sR F i0 0 (F i1 0)) i0 1 ((sR F i0 0 (F i1 0)) i1 1)) i1 2)) (i1 + 11) (i0 + 11) 8 (Ar_S11 hi1) (Ar_S11 hi0) (by decide)) ⟨va_cnB 2 hts gX0_copyFrom_X1_copyRow_n63 rfl rfl rfl hK.2.2 (hts (.initialized RX1) (by decide +kernel)) (by decide +kernel) ⟨Nat.le_of_ble_eq_true rfl, Nat.le_of_ble_eq_true rfl⟩, hts (.static yX1_copyRow) (by decide +kernel), trivial⟩ (PW_preS hK hP) rfl rfl hl.1 rfl (lv_room (Nat.le_of_ble_eq_true rfl)) dX0_copyFrom_142 ⟨Nat.zero_le _, Nat.zero_le _⟩) hS (fun H locs hP hS => ?_)
  refine lv_aload_n hx hb dX0_copyFrom_145 rfl (lv_at hl 1 rfl) ?_
  refine q_getS (v := .ref (ad (i1 + 12))) hx hb hts hin0 hown hK hP i1 hi1 14 (by decide) lk55 (fun _ h => h) rfl dX0_copyFrom_146 ?_
  refine lv_aload_n hx hb dX0_copyFrom_149 rfl (lv_at hl 0 rfl) ?_
  refine q_getS (v := .ref (ad (i0 + 12))) hx hb hts hin0 hown hK hP i0 hi0 14 (by decide) lk55 (fun _ h => h) rfl dX0_copyFrom_150 ?_
  refine q_callV (va_runSN (As := [.ref (ad (i1 + 12)), .ref (ad (i0 + 12))]) (rest := []) ⟨hx, hb, hml, hown, hts⟩ (mX1_copyRow l D cI cS ad hI (xX1_copyRow (xX1_copyRow (xX1_copyRow (xX1_copyRow (xX1_copyRow (xX1_copyRow (xX1_copyRow (xX1_copyRow (xX1_copyRow (xX1_copyRow (xX1_copyRow R (sR (sR (sR F i0 0 (F i1 0)) i0 1 ((sR F i0 0 (F i1 0)) i1 1)) i0 2 ((sR (sR F i0 0 (F i1 0)) i0 1 ((sR F i0 0 (F i1 0)) i1 1)) i1 2)) (i1 + 1) (i0 + 1) 24) (sR (sR (sR F i0 0 (F i1 0)) i0 1 ((sR F i0 0 (F i1 0)) i1 1)) i0 2 ((sR (sR F i0 0 (F i1 0)) i0 1 ((sR F i0 0 (F i1 0)) i1 1)) i1 2)) (i1 + 2) (i0 + 2) 24) (sR (sR (sR F i0 0 (F i1 0)) i0 1 ((sR F i0 0 (F i1 0)) i1 1)) i0 2 ((sR (sR F i0 0 (F i1 0)) i0 1 ((sR F i0 0 (F i1 0)) i1 1)) i1 2)) (i1 + 3) (i0 + 3) 24) (sR (sR (sR F i0 0 (F i1 0)) i0 1 ((sR F i0 0 (F i1 0)) i1 1)) i0 2 ((sR (sR F i0 0 (F i1 0)) i0 1 ((sR F i0 0 (F i1 0)) i1 1)) i1 2)) (i1 + 4) (i0 + 4) 24) (sR (sR (sR F i0 0 (F i1 0)) i0 1 ((sR F i0 0 (F i1 0)) i1 1)) i0 2 ((sR (sR F i0 0 (F i1 0)) i0 1 ((sR F i0 0 (F i1 0)) i1 1)) i1 2)) (i1 + 5) (i0 + 5) 8) (sR (sR (sR F i0 0 (F i1 0)) i0 1 ((sR F i0 0 (F i1 0)) i1 1)) i0 2 ((sR (sR F i0 0 (F i1 0)) i0 1 ((sR F i0 0 (F i1 0)) i1 1)) i1 2)) (i1 + 6) (i0 + 6) 8) (sR (sR (sR F i0 0 (F i1 0)) i0 1 ((sR F i0 0 (F i1 0)) i1 1)) i0 2 ((sR (sR F i0 0 (F i1 0)) i0 1 ((sR F i0 0 (F i1 0)) i1 1)) i1 2)) (i1 + 7) (i0 + 7) 8) (sR (sR (sR F i0 0 (F i1 0)) i0 1 ((sR F i0 0 (F i1 0)) i1 1)) i0 2 ((sR (sR F i0 0 (F i1 0)) i0 1 ((sR F i0 0 (F i1 0)) i1 1)) i1 2)) (i1 + 8) (i0 + 8) 8) (sR (sR (sR F i0 0 (F i1 0)) i0 1 ((sR F i0 0 (F i1 0)) i1 1)) i0 2 ((sR (sR F i0 0 (F i1 0)) i0 1 ((sR F i0 0 (F i1 0)) i1 1)) i1 2)) (i1 + 9) (i0 + 9) 8) (sR (sR (sR F i0 0 (F i1 0)) i0 1 ((sR F i0 0 (F i1 0)) i1 1)) i0 2 ((sR (sR F i0 0 (F i1 0)) i0 1 ((sR F i0 0 (F i1 0)) i1 1)) i1 2)) (i1 + 10) (i0 + 10) 8) (sR (sR (sR F i0 0 (F i1 0)) i0 1 ((sR F i0 0 (F i1 0)) i1 1)) i0 2 ((sR (sR F i0 0 (F i1 0)) i0 1 ((sR F i0 0 (F i1 0)) i1 1)) i1 2)) (i1 + 11) (i0 + 11) 8) (sR (sR (sR F i0 0 (F i1 0)) i0 1 ((sR F i0 0 (F i1 0)) i1 1)) i0 2 ((sR (sR F i0 0 (F i1 0)) i0 1 ((sR F i0 0 (F i1 0)) i1 1)) i1 2)) (i1 + 12) (i0 + 12) 8 (Ar_S12 hi1) (Ar_S12 hi0) (by decide)) ⟨va_cnB 2 hts gX0_copyFrom_X1_copyRow_n63 rfl rfl rfl hK.2.2 (hts (.initialized RX1) (by decide +kernel)) (by decide +kernel) ⟨Nat.le_of_ble_eq_true rfl, Nat.le_of_ble_eq_true rfl⟩, hts (.static yX1_copyRow) (by decide +kernel), trivial⟩ (PW_preS hK hP) rfl rfl hl.1 rfl (lv_room (Nat.le_of_ble_eq_true rfl)) dX0_copyFrom_153 ⟨Nat.zero_le _, Nat.zero_le _⟩) hS (fun H locs hP hS => ?_)
  have hX : (xX0_copyFrom R F i0 i1) = ((xX1_copyRow (xX1_copyRow (xX1_copyRow (xX1_copyRow (xX1_copyRow (xX1_copyRow (xX1_copyRow (xX1_copyRow (xX1_copyRow (xX1_copyRow (xX1_copyRow (xX1_copyRow R (sR (sR (sR F i0 0 (F i1 0)) i0 1 ((sR F i0 0 (F i1 0)) i1 1)) i0 2 ((sR (sR F i0 0 (F i1 0)) i0 1 ((sR F i0 0 (F i1 0)) i1 1)) i1 2)) (i1 + 1) (i0 + 1) 24) (sR (sR (sR F i0 0 (F i1 0)) i0 1 ((sR F i0 0 (F i1 0)) i1 1)) i0 2 ((sR (sR F i0 0 (F i1 0)) i0 1 ((sR F i0 0 (F i1 0)) i1 1)) i1 2)) (i1 + 2) (i0 + 2) 24) (sR (sR (sR F i0 0 (F i1 0)) i0 1 ((sR F i0 0 (F i1 0)) i1 1)) i0 2 ((sR (sR F i0 0 (F i1 0)) i0 1 ((sR F i0 0 (F i1 0)) i1 1)) i1 2)) (i1 + 3) (i0 + 3) 24) (sR (sR (sR F i0 0 (F i1 0)) i0 1 ((sR F i0 0 (F i1 0)) i1 1)) i0 2 ((sR (sR F i0 0 (F i1 0)) i0 1 ((sR F i0 0 (F i1 0)) i1 1)) i1 2)) (i1 + 4) (i0 + 4) 24) (sR (sR (sR F i0 0 (F i1 0)) i0 1 ((sR F i0 0 (F i1 0)) i1 1)) i0 2 ((sR (sR F i0 0 (F i1 0)) i0 1 ((sR F i0 0 (F i1 0)) i1 1)) i1 2)) (i1 + 5) (i0 + 5) 8) (sR (sR (sR F i0 0 (F i1 0)) i0 1 ((sR F i0 0 (F i1 0)) i1 1)) i0 2 ((sR (sR F i0 0 (F i1 0)) i0 1 ((sR F i0 0 (F i1 0)) i1 1)) i1 2)) (i1 + 6) (i0 + 6) 8) (sR (sR (sR F i0 0 (F i1 0)) i0 1 ((sR F i0 0 (F i1 0)) i1 1)) i0 2 ((sR (sR F i0 0 (F i1 0)) i0 1 ((sR F i0 0 (F i1 0)) i1 1)) i1 2)) (i1 + 7) (i0 + 7) 8) (sR (sR (sR F i0 0 (F i1 0)) i0 1 ((sR F i0 0 (F i1 0)) i1 1)) i0 2 ((sR (sR F i0 0 (F i1 0)) i0 1 ((sR F i0 0 (F i1 0)) i1 1)) i1 2)) (i1 + 8) (i0 + 8) 8) (sR (sR (sR F i0 0 (F i1 0)) i0 1 ((sR F i0 0 (F i1 0)) i1 1)) i0 2 ((sR (sR F i0 0 (F i1 0)) i0 1 ((sR F i0 0 (F i1 0)) i1 1)) i1 2)) (i1 + 9) (i0 + 9) 8) (sR (sR (sR F i0 0 (F i1 0)) i0 1 ((sR F i0 0 (F i1 0)) i1 1)) i0 2 ((sR (sR F i0 0 (F i1 0)) i0 1 ((sR F i0 0 (F i1 0)) i1 1)) i1 2)) (i1 + 10) (i0 + 10) 8) (sR (sR (sR F i0 0 (F i1 0)) i0 1 ((sR F i0 0 (F i1 0)) i1 1)) i0 2 ((sR (sR F i0 0 (F i1 0)) i0 1 ((sR F i0 0 (F i1 0)) i1 1)) i1 2)) (i1 + 11) (i0 + 11) 8) (sR (sR (sR F i0 0 (F i1 0)) i0 1 ((sR F i0 0 (F i1 0)) i1 1)) i0 2 ((sR (sR F i0 0 (F i1 0)) i0 1 ((sR F i0 0 (F i1 0)) i1 1)) i1 2)) (i1 + 12) (i0 + 12) 8), (sR (sR (sR F i0 0 (F i1 0)) i0 1 ((sR F i0 0 (F i1 0)) i1 1)) i0 2 ((sR (sR F i0 0 (F i1 0)) i0 1 ((sR F i0 0 (F i1 0)) i1 1)) i1 2))) := by unfold xX0_copyFrom; rfl
  exact W.vret hx hb hr (fun t ht hW => ⟨rfl, by rw [hX, ht]; with_reducible exact hP, hS.F ht⟩) hS.2.2 dX0_copyFrom_156

theorem sR_ne {R : Nat → Nat → Int32} {i j : Nat} (h : j ≠ i) (k : Nat) (v : Int32) : sR R i k v j = R j := by
  unfold sR
  exact up_ne _ _ h
theorem sR_same {R : Nat → Nat → Int32} {i k : Nat} {v : Int32} : sR R i k v i k = v := by
  unfold sR
  rw [up_same]
  exact pk_us
theorem sR_same_ne {R : Nat → Nat → Int32} {i k j : Nat} {v : Int32} (h : j ≠ k) : sR R i k v i j = R i j := by
  unfold sR
  rw [up_same]
  exact pk_un h
theorem cf_F0 {R F : Nat → Nat → Int32} {i j : Nat} (h : i ≠ 0) : (xX0_copyFrom R F i j).2 0 = F 0 := by
  unfold xX0_copyFrom
  show sR (sR (sR F _ _ _) _ _ _) _ _ _ 0 = F 0
  rw [sR_ne (Ne.symm h), sR_ne (Ne.symm h), sR_ne (Ne.symm h)]
def xX1_remember (R F : Nat → Nat → Int32) (o : Nat) (q : Nat) : (Nat → Nat → Int32) × (Nat → Nat → Int32) :=
  (if (F 0 1) = (5 : Int32) then (((xX0_copyFrom R (sR (sR F 0 0 (nI ((o + 1) % 5))) 0 1 (nI 4)) (18 + 13 * (((o + 1) % 5 + 4) % 5)) 1).1), (sR ((xX0_copyFrom R (sR (sR F 0 0 (nI ((o + 1) % 5))) 0 1 (nI 4)) (18 + 13 * (((o + 1) % 5 + 4) % 5)) 1).2) 0 1 (nI (4 + 1)))) else (((xX0_copyFrom R F (18 + 13 * ((o + q) % 5)) 1).1), (sR ((xX0_copyFrom R F (18 + 13 * ((o + q) % 5)) 1).2) 0 1 (nI (q + 1)))))
set_option maxHeartbeats 4000000 in
set_option maxRecDepth 100000 in
theorem mX1_remember (l : Launch) (D : va_G) (cI cS : ClassId) (ad : Nat → Nat) (hI : Inj ad) (R F : Nat → Nat → Int32) (o : Nat) (q : Nat) (ho : o < 5) (hq : q ≤ 5) (hF0 : F 0 0 = nI o) (hF1 : F 0 1 = nI q) : Met l yX1_remember wsX1_remember ({ frames := 3, cells := 0, slots := 0, locals := 90 }) (PW D cI cS ad R F [.ref (ad 0)]) (QV D cI cS ad ((xX1_remember R F o q).1) ((xX1_remember R F o q).2)) 0 0 (AA ad) := by
  refine Met.ofW (cc := cX1_remember) (maxL := 2) (ret := none) (by decide) rfl ?_
  intro p e s m args below meth c s₁ B hml hv
  obtain ⟨rfl, hP, hK⟩ := hv
  have hx := B.exec
  have hb := B.bytes
  have hr := B.returns
  have hts := atoms_spec (ws := wsX1_remember) B.pre
  have hown : s.vm.findClass RX1 = some m.cls := findClass_of_methodNamed B.named
  have hlocks := B.notSynchronized
  have hS : va_S (AA ad) s.heap s.heap [] := va_S.rf
  have hl := lv_entry ([.ref (ad 0)]) (n := 2) (Nat.le_of_ble_eq_true rfl)
  rw [lg_entry_eq]
  generalize (lg_sl ([.ref (ad 0)]) ++ List.replicate (2 - (lg_sl ([.ref (ad 0)])).length) Slot.unset).toArray = ls at hl ⊢
  have hl : lv_has ls 2 [(0, .ref (ad 0))] := hl
  have lk24 := hts (.fieldLink RX1 24 "FerryFloor" "kept" "I") (by decide +kernel)
  have lk20 := hts (.fieldLink RX1 20 "FerryFloor" "oldest" "I") (by decide +kernel)
  have lk16 := hts (.fieldLink RX1 16 "FerryFloor" "history" "[LFerryFloor$State;") (by decide +kernel)
  have lk10 := hts (.fieldLink RX1 10 "FerryFloor" "now" "LFerryFloor$State;") (by decide +kernel)
  have hin1 : ∀ w ∈ u_ws RX1 TX1 7, w ∈ wsX1_remember := by decide +kernel
  refine lv_aload_n hx hb dX1_remember_0 rfl (lv_at hl 0 rfl) ?_
  refine q_getF (v := .int (F 0 1)) hx hb hts hin1 hown hK hP 3 (by decide) lk24 (fun _ h => h) rfl dX1_remember_1 ?_
  refine lv_iconst (v := 5) hx hb dX1_remember_4 (by decide) ?_
  refine lv_icmp_ne (tgt := 27) hx hb dX1_remember_5 (by decide) (fun c_5 => ?_) (fun c_5 => ?_)
  · refine lv_aload_n hx hb dX1_remember_27 rfl (lv_at hl 0 rfl) ?_
    refine q_getF (v := .ref (ad 14)) hx hb hts hin1 hown hK hP 1 (by decide) lk16 (fun _ h => h) rfl dX1_remember_28 ?_
    refine lv_aload_n hx hb dX1_remember_31 rfl (lv_at hl 0 rfl) ?_
    refine lv_aload_n hx hb dX1_remember_32 rfl (lv_at hl 0 rfl) ?_
    refine q_getF (v := .int (F 0 1)) hx hb hts hin1 hown hK hP 3 (by decide) lk24 (fun _ h => h) rfl dX1_remember_33 ?_
    refine q_top (y := (nI q)) hF1 ?_
    refine q_callS (va_runV (As := [.int (nI q)]) (rest := [.ref (ad 14)]) ⟨hx, hb, hml, hown, hts⟩ (mX1_slotAfter l D cI cS ad hI R F (nI q)) (cwV 1 hts gX1_remember_X1_slotAfter rfl rfl rfl (by decide +kernel) ⟨Nat.le_of_ble_eq_true rfl, Nat.le_of_ble_eq_true rfl⟩) (PW_preV (i := 0) (by decide) CC_0 rfl rfl hK hP) rfl rfl hl.1 rfl (lv_room (Nat.le_of_ble_eq_true rfl)) dX1_remember_36 ⟨Nat.zero_le _, Nat.zero_le _⟩) ?_
    refine q_top (y := (nI ((o + q) % 5))) (slot_eq hF0 rfl (by omega)) ?_
    refine q_hld hx hb hK hP ((o + q) % 5) dX1_remember_39 rfl (by omega) ?_
    refine lv_astore_n (lv' := [(1, .ref (ad (18 + 13 * ((o + q) % 5)))), (0, .ref (ad 0))]) hx hb dX1_remember_40 rfl hl (by decide) rfl (fun ls hl => ?_)
    refine lv_aload_n hx hb dX1_remember_41 rfl (lv_at hl 0 rfl) ?_
    refine lv_ifnull hx hb dX1_remember_42 ?_
    refine lv_aload_n hx hb dX1_remember_45 rfl (lv_at hl 0 rfl) ?_
    refine lv_aload_n hx hb dX1_remember_46 rfl (lv_at hl 1 rfl) ?_
    refine q_getF (v := .ref (ad 1)) hx hb hts hin1 hown hK hP 0 (by decide) lk10 (fun _ h => h) rfl dX1_remember_47 ?_
    refine q_callV (va_runV (As := [.ref (ad 1)]) (rest := []) ⟨hx, hb, hml, hown, hts⟩ (mX0_copyFrom l D cI cS ad hI R F (18 + 13 * ((o + q) % 5)) 1 (St_hist (k := ((o + q) % 5)) (by omega)) st_1) (cwV 1 hts gX1_remember_X0_copyFrom rfl rfl rfl (by decide +kernel) ⟨Nat.le_of_ble_eq_true rfl, Nat.le_of_ble_eq_true rfl⟩) (PW_preV (i := (18 + 13 * ((o + q) % 5))) (St_lt (St_hist (k := ((o + q) % 5)) (by omega))) (CC_S (St_hist (k := ((o + q) % 5)) (by omega))) rfl rfl hK hP) rfl rfl hl.1 rfl (lv_room (Nat.le_of_ble_eq_true rfl)) dX1_remember_50 ⟨Nat.zero_le _, Nat.zero_le _⟩) hS (fun H locs hP hS => ?_)
    refine lv_aload_n hx hb dX1_remember_53 rfl (lv_at hl 1 rfl) ?_
    refine lv_dup hx hb dX1_remember_54 rfl ?_
    refine q_getF (v := .int (((xX0_copyFrom R F (18 + 13 * ((o + q) % 5)) 1).2) 0 1)) hx hb hts hin1 hown hK hP 3 (by decide) lk24 (fun _ h => h) rfl dX1_remember_55 ?_
    refine q_top (y := (nI q)) ((congrFun (cf_F0 (by omega)) 1).trans hF1) ?_
    refine lv_iconst (v := 1) hx hb dX1_remember_58 (by decide) ?_
    refine lv_iadd hx hb dX1_remember_59 ?_
    refine q_top (y := (nI (q + 1))) (nI_add q 1) ?_
    refine q_putF hx hb hts hin1 hown hK hI hP hS 3 (by decide) lk24 (fun _ h => h) dX1_remember_60 (fun H locs hP hS => ?_)
    have hP : WP D cI cS ad ((xX0_copyFrom R F (18 + 13 * ((o + q) % 5)) 1).1) (sR ((xX0_copyFrom R F (18 + 13 * ((o + q) % 5)) 1).2) 0 1 (nI (q + 1))) H := hP
    have hX : (xX1_remember R F o q) = (((xX0_copyFrom R F (18 + 13 * ((o + q) % 5)) 1).1), (sR ((xX0_copyFrom R F (18 + 13 * ((o + q) % 5)) 1).2) 0 1 (nI (q + 1)))) := by unfold xX1_remember; rw [if_neg c_5]
    exact W.vret hx hb hr (fun t ht hW => ⟨rfl, by rw [hX, ht]; with_reducible exact hP, hS.F ht⟩) hS.2.2 dX1_remember_63
  · refine lv_aload_n hx hb dX1_remember_8 rfl (lv_at hl 0 rfl) ?_
    refine lv_aload_n hx hb dX1_remember_9 rfl (lv_at hl 0 rfl) ?_
    refine lv_iconst (v := 1) hx hb dX1_remember_10 (by decide) ?_
    refine q_callS (va_runV (As := [.int (1 : Int32)]) (rest := [.ref (ad 0)]) ⟨hx, hb, hml, hown, hts⟩ (mX1_slotAfter l D cI cS ad hI R F (1 : Int32)) (cwV 1 hts gX1_remember_X1_slotAfter rfl rfl rfl (by decide +kernel) ⟨Nat.le_of_ble_eq_true rfl, Nat.le_of_ble_eq_true rfl⟩) (PW_preV (i := 0) (by decide) CC_0 rfl rfl hK hP) rfl rfl hl.1 rfl (lv_room (Nat.le_of_ble_eq_true rfl)) dX1_remember_11 ⟨Nat.zero_le _, Nat.zero_le _⟩) ?_
    refine q_top (y := (nI ((o + 1) % 5))) (slot_eq hF0 rfl (by omega)) ?_
    refine q_putF hx hb hts hin1 hown hK hI hP hS 2 (by decide) lk20 (fun _ h => h) dX1_remember_14 (fun H locs hP hS => ?_)
    have hP : WP D cI cS ad R (sR F 0 0 (nI ((o + 1) % 5))) H := hP
    refine lv_aload_n hx hb dX1_remember_17 rfl (lv_at hl 0 rfl) ?_
    refine lv_dup hx hb dX1_remember_18 rfl ?_
    refine q_getF (v := .int ((sR F 0 0 (nI ((o + 1) % 5))) 0 1)) hx hb hts hin1 hown hK hP 3 (by decide) lk24 (fun _ h => h) rfl dX1_remember_19 ?_
    refine q_top (y := (5 : Int32)) c_5 ?_
    refine lv_iconst (v := 1) hx hb dX1_remember_22 (by decide) ?_
    refine lv_isub hx hb dX1_remember_23 ?_
    refine q_top (y := (nI 4)) (by decide) ?_
    refine q_putF hx hb hts hin1 hown hK hI hP hS 3 (by decide) lk24 (fun _ h => h) dX1_remember_24 (fun H locs hP hS => ?_)
    have hP : WP D cI cS ad R (sR (sR F 0 0 (nI ((o + 1) % 5))) 0 1 (nI 4)) H := hP
    refine lv_aload_n hx hb dX1_remember_27 rfl (lv_at hl 0 rfl) ?_
    refine q_getF (v := .ref (ad 14)) hx hb hts hin1 hown hK hP 1 (by decide) lk16 (fun _ h => h) rfl dX1_remember_28 ?_
    refine lv_aload_n hx hb dX1_remember_31 rfl (lv_at hl 0 rfl) ?_
    refine lv_aload_n hx hb dX1_remember_32 rfl (lv_at hl 0 rfl) ?_
    refine q_getF (v := .int ((sR (sR F 0 0 (nI ((o + 1) % 5))) 0 1 (nI 4)) 0 1)) hx hb hts hin1 hown hK hP 3 (by decide) lk24 (fun _ h => h) rfl dX1_remember_33 ?_
    refine q_top (y := (nI 4)) rfl ?_
    refine q_callS (va_runV (As := [.int (nI 4)]) (rest := [.ref (ad 14)]) ⟨hx, hb, hml, hown, hts⟩ (mX1_slotAfter l D cI cS ad hI R (sR (sR F 0 0 (nI ((o + 1) % 5))) 0 1 (nI 4)) (nI 4)) (cwV 1 hts gX1_remember_X1_slotAfter rfl rfl rfl (by decide +kernel) ⟨Nat.le_of_ble_eq_true rfl, Nat.le_of_ble_eq_true rfl⟩) (PW_preV (i := 0) (by decide) CC_0 rfl rfl hK hP) rfl rfl hl.1 rfl (lv_room (Nat.le_of_ble_eq_true rfl)) dX1_remember_36 ⟨Nat.zero_le _, Nat.zero_le _⟩) ?_
    refine q_top (y := (nI (((o + 1) % 5 + 4) % 5))) (slot_eq (a := (o + 1) % 5) rfl rfl (by omega)) ?_
    refine q_hld hx hb hK hP (((o + 1) % 5 + 4) % 5) dX1_remember_39 rfl (by omega) ?_
    refine lv_astore_n (lv' := [(1, .ref (ad (18 + 13 * (((o + 1) % 5 + 4) % 5)))), (0, .ref (ad 0))]) hx hb dX1_remember_40 rfl hl (by decide) rfl (fun ls hl => ?_)
    refine lv_aload_n hx hb dX1_remember_41 rfl (lv_at hl 0 rfl) ?_
    refine lv_ifnull hx hb dX1_remember_42 ?_
    refine lv_aload_n hx hb dX1_remember_45 rfl (lv_at hl 0 rfl) ?_
    refine lv_aload_n hx hb dX1_remember_46 rfl (lv_at hl 1 rfl) ?_
    refine q_getF (v := .ref (ad 1)) hx hb hts hin1 hown hK hP 0 (by decide) lk10 (fun _ h => h) rfl dX1_remember_47 ?_
    refine q_callV (va_runV (As := [.ref (ad 1)]) (rest := []) ⟨hx, hb, hml, hown, hts⟩ (mX0_copyFrom l D cI cS ad hI R (sR (sR F 0 0 (nI ((o + 1) % 5))) 0 1 (nI 4)) (18 + 13 * (((o + 1) % 5 + 4) % 5)) 1 (St_hist (k := (((o + 1) % 5 + 4) % 5)) (by omega)) st_1) (cwV 1 hts gX1_remember_X0_copyFrom rfl rfl rfl (by decide +kernel) ⟨Nat.le_of_ble_eq_true rfl, Nat.le_of_ble_eq_true rfl⟩) (PW_preV (i := (18 + 13 * (((o + 1) % 5 + 4) % 5))) (St_lt (St_hist (k := (((o + 1) % 5 + 4) % 5)) (by omega))) (CC_S (St_hist (k := (((o + 1) % 5 + 4) % 5)) (by omega))) rfl rfl hK hP) rfl rfl hl.1 rfl (lv_room (Nat.le_of_ble_eq_true rfl)) dX1_remember_50 ⟨Nat.zero_le _, Nat.zero_le _⟩) hS (fun H locs hP hS => ?_)
    refine lv_aload_n hx hb dX1_remember_53 rfl (lv_at hl 1 rfl) ?_
    refine lv_dup hx hb dX1_remember_54 rfl ?_
    refine q_getF (v := .int (((xX0_copyFrom R (sR (sR F 0 0 (nI ((o + 1) % 5))) 0 1 (nI 4)) (18 + 13 * (((o + 1) % 5 + 4) % 5)) 1).2) 0 1)) hx hb hts hin1 hown hK hP 3 (by decide) lk24 (fun _ h => h) rfl dX1_remember_55 ?_
    refine q_top (y := (nI 4)) ((congrFun (cf_F0 (by omega)) 1).trans rfl) ?_
    refine lv_iconst (v := 1) hx hb dX1_remember_58 (by decide) ?_
    refine lv_iadd hx hb dX1_remember_59 ?_
    refine q_top (y := (nI (4 + 1))) (nI_add 4 1) ?_
    refine q_putF hx hb hts hin1 hown hK hI hP hS 3 (by decide) lk24 (fun _ h => h) dX1_remember_60 (fun H locs hP hS => ?_)
    have hP : WP D cI cS ad ((xX0_copyFrom R (sR (sR F 0 0 (nI ((o + 1) % 5))) 0 1 (nI 4)) (18 + 13 * (((o + 1) % 5 + 4) % 5)) 1).1) (sR ((xX0_copyFrom R (sR (sR F 0 0 (nI ((o + 1) % 5))) 0 1 (nI 4)) (18 + 13 * (((o + 1) % 5 + 4) % 5)) 1).2) 0 1 (nI (4 + 1))) H := hP
    have hX : (xX1_remember R F o q) = (((xX0_copyFrom R (sR (sR F 0 0 (nI ((o + 1) % 5))) 0 1 (nI 4)) (18 + 13 * (((o + 1) % 5 + 4) % 5)) 1).1), (sR ((xX0_copyFrom R (sR (sR F 0 0 (nI ((o + 1) % 5))) 0 1 (nI 4)) (18 + 13 * (((o + 1) % 5 + 4) % 5)) 1).2) 0 1 (nI (4 + 1)))) := by unfold xX1_remember; rw [if_pos c_5]
    exact W.vret hx hb hr (fun t ht hW => ⟨rfl, by rw [hX, ht]; with_reducible exact hP, hS.F ht⟩) hS.2.2 dX1_remember_63

def xX1_undo (R F : Nat → Nat → Int32) (o : Nat) (q : Nat) : Int32 × (Nat → Nat → Int32) × (Nat → Nat → Int32) :=
  (if (0 : Int32) < (F 0 1) then ((nI (q - 1)), ((xX0_copyFrom R (sR F 0 1 (nI (q - 1))) 1 (18 + 13 * ((o + (q - 1)) % 5))).1), ((xX0_copyFrom R (sR F 0 1 (nI (q - 1))) 1 (18 + 13 * ((o + (q - 1)) % 5))).2)) else ((-100002 : Int32), R, F))
set_option maxHeartbeats 4000000 in
set_option maxRecDepth 100000 in
theorem mX1_undo (l : Launch) (D : va_G) (cI cS : ClassId) (ad : Nat → Nat) (hI : Inj ad) (R F : Nat → Nat → Int32) (o : Nat) (q : Nat) (ho : o < 5) (hq : q ≤ 5) (hF0 : F 0 0 = nI o) (hF1 : F 0 1 = nI q) : Met l yX1_undo wsX1_undo ({ frames := 3, cells := 0, slots := 0, locals := 90 }) (PW D cI cS ad R F [.ref (ad 0)]) (QI D cI cS ad ((xX1_undo R F o q).1) ((xX1_undo R F o q).2.1) ((xX1_undo R F o q).2.2)) 0 0 (AA ad) := by
  refine Met.ofW (cc := cX1_undo) (maxL := 2) (ret := (some .int)) (by decide) rfl ?_
  intro p e s m args below meth c s₁ B hml hv
  obtain ⟨rfl, hP, hK⟩ := hv
  have hx := B.exec
  have hb := B.bytes
  have hr := B.returns
  have hts := atoms_spec (ws := wsX1_undo) B.pre
  have hown : s.vm.findClass RX1 = some m.cls := findClass_of_methodNamed B.named
  have hlocks := B.notSynchronized
  have hS : va_S (AA ad) s.heap s.heap [] := va_S.rf
  have hl := lv_entry ([.ref (ad 0)]) (n := 2) (Nat.le_of_ble_eq_true rfl)
  rw [lg_entry_eq]
  generalize (lg_sl ([.ref (ad 0)]) ++ List.replicate (2 - (lg_sl ([.ref (ad 0)])).length) Slot.unset).toArray = ls at hl ⊢
  have hl : lv_has ls 2 [(0, .ref (ad 0))] := hl
  have lk24 := hts (.fieldLink RX1 24 "FerryFloor" "kept" "I") (by decide +kernel)
  have lk55 := hts (.constant RX1 55 (-100002)) (by decide +kernel)
  have lk16 := hts (.fieldLink RX1 16 "FerryFloor" "history" "[LFerryFloor$State;") (by decide +kernel)
  have lk10 := hts (.fieldLink RX1 10 "FerryFloor" "now" "LFerryFloor$State;") (by decide +kernel)
  have hin1 : ∀ w ∈ u_ws RX1 TX1 7, w ∈ wsX1_undo := by decide +kernel
  refine lv_aload_n hx hb dX1_undo_0 rfl (lv_at hl 0 rfl) ?_
  refine q_getF (v := .int (F 0 1)) hx hb hts hin1 hown hK hP 3 (by decide) lk24 (fun _ h => h) rfl dX1_undo_1 ?_
  refine lv_if_gt (tgt := 10) hx hb dX1_undo_4 (by decide) (fun c_4 => ?_) (fun c_4 => ?_)
  · have hq1 : 1 ≤ q := by
      rcases Nat.eq_zero_or_pos q with h | h
      · rw [hF1, h] at c_4
        exact absurd c_4 (by decide)
      · exact h
    refine lv_aload_n hx hb dX1_undo_10 rfl (lv_at hl 0 rfl) ?_
    refine lv_dup hx hb dX1_undo_11 rfl ?_
    refine q_getF (v := .int (F 0 1)) hx hb hts hin1 hown hK hP 3 (by decide) lk24 (fun _ h => h) rfl dX1_undo_12 ?_
    refine q_top (y := (nI q)) hF1 ?_
    refine lv_iconst (v := 1) hx hb dX1_undo_15 (by decide) ?_
    refine lv_isub hx hb dX1_undo_16 ?_
    refine q_top (y := (nI (q - 1))) (pk_sub hq1) ?_
    refine q_putF hx hb hts hin1 hown hK hI hP hS 3 (by decide) lk24 (fun _ h => h) dX1_undo_17 (fun H locs hP hS => ?_)
    have hP : WP D cI cS ad R (sR F 0 1 (nI (q - 1))) H := hP
    refine lv_aload_n hx hb dX1_undo_20 rfl (lv_at hl 0 rfl) ?_
    refine q_getF (v := .ref (ad 14)) hx hb hts hin1 hown hK hP 1 (by decide) lk16 (fun _ h => h) rfl dX1_undo_21 ?_
    refine lv_aload_n hx hb dX1_undo_24 rfl (lv_at hl 0 rfl) ?_
    refine lv_aload_n hx hb dX1_undo_25 rfl (lv_at hl 0 rfl) ?_
    refine q_getF (v := .int ((sR F 0 1 (nI (q - 1))) 0 1)) hx hb hts hin1 hown hK hP 3 (by decide) lk24 (fun _ h => h) rfl dX1_undo_26 ?_
    refine q_top (y := (nI (q - 1))) rfl ?_
    refine q_callS (va_runV (As := [.int (nI (q - 1))]) (rest := [.ref (ad 14)]) ⟨hx, hb, hml, hown, hts⟩ (mX1_slotAfter l D cI cS ad hI R (sR F 0 1 (nI (q - 1))) (nI (q - 1))) (cwV 1 hts gX1_undo_X1_slotAfter rfl rfl rfl (by decide +kernel) ⟨Nat.le_of_ble_eq_true rfl, Nat.le_of_ble_eq_true rfl⟩) (PW_preV (i := 0) (by decide) CC_0 rfl rfl hK hP) rfl rfl hl.1 rfl (lv_room (Nat.le_of_ble_eq_true rfl)) dX1_undo_29 ⟨Nat.zero_le _, Nat.zero_le _⟩) ?_
    refine q_top (y := (nI ((o + (q - 1)) % 5))) (slot_eq (a := o) hF0 rfl (by omega)) ?_
    refine q_hld hx hb hK hP ((o + (q - 1)) % 5) dX1_undo_32 rfl (by omega) ?_
    refine lv_astore_n (lv' := [(1, .ref (ad (18 + 13 * ((o + (q - 1)) % 5)))), (0, .ref (ad 0))]) hx hb dX1_undo_33 rfl hl (by decide) rfl (fun ls hl => ?_)
    refine lv_aload_n hx hb dX1_undo_34 rfl (lv_at hl 0 rfl) ?_
    refine lv_ifnull hx hb dX1_undo_35 ?_
    refine lv_aload_n hx hb dX1_undo_38 rfl (lv_at hl 1 rfl) ?_
    refine q_getF (v := .ref (ad 1)) hx hb hts hin1 hown hK hP 0 (by decide) lk10 (fun _ h => h) rfl dX1_undo_39 ?_
    refine lv_aload_n hx hb dX1_undo_42 rfl (lv_at hl 0 rfl) ?_
    refine q_callV (va_runV (As := [.ref (ad (18 + 13 * ((o + (q - 1)) % 5)))]) (rest := []) ⟨hx, hb, hml, hown, hts⟩ (mX0_copyFrom l D cI cS ad hI R (sR F 0 1 (nI (q - 1))) 1 (18 + 13 * ((o + (q - 1)) % 5)) st_1 (St_hist (k := ((o + (q - 1)) % 5)) (by omega))) (cwV 1 hts gX1_undo_X0_copyFrom rfl rfl rfl (by decide +kernel) ⟨Nat.le_of_ble_eq_true rfl, Nat.le_of_ble_eq_true rfl⟩) (PW_preV (i := 1) (St_lt st_1) (CC_S st_1) rfl rfl hK hP) rfl rfl hl.1 rfl (lv_room (Nat.le_of_ble_eq_true rfl)) dX1_undo_43 ⟨Nat.zero_le _, Nat.zero_le _⟩) hS (fun H locs hP hS => ?_)
    refine lv_aload_n hx hb dX1_undo_46 rfl (lv_at hl 1 rfl) ?_
    refine q_getF (v := .int (((xX0_copyFrom R (sR F 0 1 (nI (q - 1))) 1 (18 + 13 * ((o + (q - 1)) % 5))).2) 0 1)) hx hb hts hin1 hown hK hP 3 (by decide) lk24 (fun _ h => h) rfl dX1_undo_47 ?_
    refine q_top (y := (nI (q - 1))) ((congrFun (cf_F0 (by decide)) 1).trans rfl) ?_
    have hX : (xX1_undo R F o q) = ((nI (q - 1)), ((xX0_copyFrom R (sR F 0 1 (nI (q - 1))) 1 (18 + 13 * ((o + (q - 1)) % 5))).1), ((xX0_copyFrom R (sR F 0 1 (nI (q - 1))) 1 (18 + 13 * ((o + (q - 1)) % 5))).2)) := by unfold xX1_undo; rw [if_pos c_4]
    exact W.iret (v := (nI (q - 1))) hx hb hr (fun t ht hW => ⟨by rw [hX], by rw [hX, ht]; with_reducible exact hP, hS.F ht⟩) hS.2.2 dX1_undo_50
  · refine lv_ldc (v := -100002) hx hb hown lk55 dX1_undo_7 ?_
    have hX : (xX1_undo R F o q) = ((-100002 : Int32), R, F) := by unfold xX1_undo; rw [if_neg c_4]
    exact W.iret (v := (-100002 : Int32)) hx hb hr (fun t ht hW => ⟨by rw [hX], by rw [hX, ht]; with_reducible exact hP, hS.F ht⟩) hS.2.2 dX1_undo_9

