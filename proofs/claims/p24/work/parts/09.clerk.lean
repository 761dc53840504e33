def hX1_walkersAboard_4 (R F : Nat → Nat → Int32) : Nat → Nat → Int32 → Int32
  | 0, k, x1 => x1
  | n + 1, k, x1 => (if (xX1_isAboard R F (nI k)) = (0 : Int32) then (hX1_walkersAboard_4 R F n (k + 1) x1) else (hX1_walkersAboard_4 R F n (k + 1) (x1 + (1 : Int32))))
theorem hX1_walkersAboard_4_z (R F : Nat → Nat → Int32) (k : Nat) (x1 : Int32) : hX1_walkersAboard_4 R F 0 k x1 = x1 := rfl
theorem hX1_walkersAboard_4_s (R F : Nat → Nat → Int32) (n : Nat) (k : Nat) (x1 : Int32) : hX1_walkersAboard_4 R F (n + 1) k x1 = (if (xX1_isAboard R F (nI k)) = (0 : Int32) then (hX1_walkersAboard_4 R F n (k + 1) x1) else (hX1_walkersAboard_4 R F n (k + 1) (x1 + (1 : Int32)))) := rfl
def xX1_walkersAboard (R F : Nat → Nat → Int32) : Int32 :=
  (hX1_walkersAboard_4 R F 8 0 (0 : Int32))
set_option maxHeartbeats 4000000 in
set_option maxRecDepth 100000 in
theorem mX1_walkersAboard (l : Launch) (D : va_G) (cI cS : ClassId) (ad : Nat → Nat) (hI : Inj ad) (R F : Nat → Nat → Int32)  : Met l yX1_walkersAboard wsX1_walkersAboard ({ frames := 2, cells := 0, slots := 0, locals := 42 }) (PW D cI cS ad R F [.ref (ad 0)]) (QS (xX1_walkersAboard R F)) 0 0 (fun _ => False) := by
  refine Met.ofW (cc := cX1_walkersAboard) (maxL := 3) (ret := (some .int)) (by decide) rfl ?_
  intro p e s m args below meth c s₁ B hml hv
  obtain ⟨rfl, hP, hK⟩ := hv
  have hx := B.exec
  have hb := B.bytes
  have hr := B.returns
  have hts := atoms_spec (ws := wsX1_walkersAboard) B.pre
  have hown : s.vm.findClass RX1 = some m.cls := findClass_of_methodNamed B.named
  have hlocks := B.notSynchronized
  have hS : va_S (AA ad) s.heap s.heap [] := va_S.rf
  have hl := lv_entry ([.ref (ad 0)]) (n := 3) (Nat.le_of_ble_eq_true rfl)
  rw [lg_entry_eq]
  generalize (lg_sl ([.ref (ad 0)]) ++ List.replicate (3 - (lg_sl ([.ref (ad 0)])).length) Slot.unset).toArray = ls at hl ⊢
  have hl : lv_has ls 3 [(0, .ref (ad 0))] := hl
  refine lv_iconst (v := 0) hx hb dX1_walkersAboard_0 (by decide) ?_
  refine lv_istore_n (lv' := [(1, .int (0 : Int32)), (0, .ref (ad 0))]) hx hb dX1_walkersAboard_1 rfl hl (by decide) rfl (fun ls hl => ?_)
  refine lv_iconst (v := 0) hx hb dX1_walkersAboard_2 (by decide) ?_
  refine lv_istore_n (lv' := [(2, .int (0 : Int32)), (1, .int (0 : Int32)), (0, .ref (ad 0))]) hx hb dX1_walkersAboard_3 rfl hl (by decide) rfl (fun ls hl => ?_)
  refine q_loop (fun nn H locs ls => ∃ (k : Nat) (x1 : Int32), k + nn = 8 ∧ hX1_walkersAboard_4 R F nn k x1 = (xX1_walkersAboard R F) ∧ WP D cI cS ad R F H ∧ locs = [] ∧ H = s.heap ∧ lv_has ls 3 [(2, .int (nI k)), (1, .int x1), (0, .ref (ad 0))]) 8 ⟨0, (0 : Int32), by omega, by unfold xX1_walkersAboard; rfl, hP, rfl, rfl, lv_sub hl [0, 1, 2] rfl⟩ ?_ ?_
  · intro H locs ls hz
    obtain ⟨k, x1, hkn, hsp, hP, rfl, rfl, hl⟩ := hz
    refine lv_iload_n hx hb dX1_walkersAboard_4 rfl (lv_at hl 0 rfl) ?_
    refine lv_bipush (v := 8) hx hb dX1_walkersAboard_5 (by decide) ?_
    refine lv_icmp_ge (tgt := 27) hx hb dX1_walkersAboard_7 (by decide) (fun c_7 => ?_) (fun c_7 => ?_)
    · refine lv_iload_n hx hb dX1_walkersAboard_27 rfl (lv_at hl 1 rfl) ?_
      have hX : (xX1_walkersAboard R F) = x1 := by rw [← hsp, hX1_walkersAboard_4_z]
      exact W.iret (v := x1) hx hb hr (fun t ht hW => ⟨by rw [hX], ht⟩) (fun _ h => by cases h) dX1_walkersAboard_28
    · exact absurd (nI_le (a := 8) (b := k) (by omega) (by omega)) c_7
  · intro n ih H locs ls hz
    obtain ⟨k, x1, hkn, hsp, hP, rfl, rfl, hl⟩ := hz
    refine lv_iload_n hx hb dX1_walkersAboard_4 rfl (lv_at hl 0 rfl) ?_
    refine lv_bipush (v := 8) hx hb dX1_walkersAboard_5 (by decide) ?_
    refine lv_icmp_ge (tgt := 27) hx hb dX1_walkersAboard_7 (by decide) (fun c_7 => ?_) (fun c_7 => ?_)
    · exact absurd c_7 (nI_ge (a := k) (b := 8) (by omega) (by omega))
    · refine lv_aload_n hx hb dX1_walkersAboard_10 rfl (lv_at hl 2 rfl) ?_
      refine lv_iload_n hx hb dX1_walkersAboard_11 rfl (lv_at hl 0 rfl) ?_
      refine q_callS (va_runV (As := [.int (nI k)]) (rest := []) ⟨hx, hb, hml, hown, hts⟩ (mX1_isAboard l D cI cS ad hI R F (nI k)) (cwV 1 hts gX1_walkersAboard_X1_isAboard rfl rfl rfl (by decide +kernel) ⟨Nat.le_of_ble_eq_true rfl, Nat.le_of_ble_eq_true rfl⟩) (PW_preV (i := 0) (by decide) CC_0 rfl rfl hK hP) rfl rfl hl.1 rfl (lv_room (Nat.le_of_ble_eq_true rfl)) dX1_walkersAboard_12 ⟨Nat.zero_le _, Nat.zero_le _⟩) ?_
      refine lv_if_eq (tgt := 21) hx hb dX1_walkersAboard_15 (by decide) (fun c_15 => ?_) (fun c_15 => ?_)
      · refine lv_iinc (v := (nI (k + 1))) (lv' := [(2, .int (nI (k + 1))), (1, .int x1), (0, .ref (ad 0))]) hx hb dX1_walkersAboard_21 hl (k := 0) rfl (nI_1 k) (by decide) rfl (fun ls hl => ?_)
        refine lv_goto (tgt := 4) hx hb dX1_walkersAboard_24 (by decide) ?_
        exact ih _ _ _ ⟨(k + 1), x1, by omega, by rw [← hsp, hX1_walkersAboard_4_s, if_pos c_15], hP, rfl, rfl, lv_sub hl [0, 1, 2] rfl⟩
      · refine lv_iinc (v := (x1 + (1 : Int32))) (lv' := [(1, .int (x1 + (1 : Int32))), (2, .int (nI k)), (0, .ref (ad 0))]) hx hb dX1_walkersAboard_18 hl (k := 1) rfl rfl (by decide) rfl (fun ls hl => ?_)
        refine lv_iinc (v := (nI (k + 1))) (lv' := [(2, .int (nI (k + 1))), (1, .int (x1 + (1 : Int32))), (0, .ref (ad 0))]) hx hb dX1_walkersAboard_21 hl (k := 1) rfl (nI_1 k) (by decide) rfl (fun ls hl => ?_)
        refine lv_goto (tgt := 4) hx hb dX1_walkersAboard_24 (by decide) ?_
        exact ih _ _ _ ⟨(k + 1), (x1 + (1 : Int32)), by omega, by rw [← hsp, hX1_walkersAboard_4_s, if_neg c_15], hP, rfl, rfl, lv_sub hl [0, 1, 2] rfl⟩

def hX1_walkersMisplaced_4 (R F : Nat → Nat → Int32) : Nat → Nat → Int32 → Int32
  | 0, k, x1 => x1
  | n + 1, k, x1 => (if (R 7 k) = (R 9 k) then (hX1_walkersMisplaced_4 R F n (k + 1) x1) else (hX1_walkersMisplaced_4 R F n (k + 1) (x1 + (1 : Int32))))
theorem hX1_walkersMisplaced_4_z (R F : Nat → Nat → Int32) (k : Nat) (x1 : Int32) : hX1_walkersMisplaced_4 R F 0 k x1 = x1 := rfl
theorem hX1_walkersMisplaced_4_s (R F : Nat → Nat → Int32) (n : Nat) (k : Nat) (x1 : Int32) : hX1_walkersMisplaced_4 R F (n + 1) k x1 = (if (R 7 k) = (R 9 k) then (hX1_walkersMisplaced_4 R F n (k + 1) x1) else (hX1_walkersMisplaced_4 R F n (k + 1) (x1 + (1 : Int32)))) := rfl
def xX1_walkersMisplaced (R F : Nat → Nat → Int32) : Int32 :=
  (hX1_walkersMisplaced_4 R F 8 0 (0 : Int32))
set_option maxHeartbeats 4000000 in
set_option maxRecDepth 100000 in
theorem mX1_walkersMisplaced (l : Launch) (D : va_G) (cI cS : ClassId) (ad : Nat → Nat) (hI : Inj ad) (R F : Nat → Nat → Int32)  : Met l yX1_walkersMisplaced wsX1_walkersMisplaced ({ frames := 0, cells := 0, slots := 0, locals := 0 }) (PW D cI cS ad R F [.ref (ad 0)]) (QS (xX1_walkersMisplaced R F)) 0 0 (fun _ => False) := by
  refine Met.ofW (cc := cX1_walkersMisplaced) (maxL := 3) (ret := (some .int)) (by decide) rfl ?_
  intro p e s m args below meth c s₁ B hml hv
  obtain ⟨rfl, hP, hK⟩ := hv
  have hx := B.exec
  have hb := B.bytes
  have hr := B.returns
  have hts := atoms_spec (ws := wsX1_walkersMisplaced) B.pre
  have hown : s.vm.findClass RX1 = some m.cls := findClass_of_methodNamed B.named
  have hlocks := B.notSynchronized
  have hS : va_S (AA ad) s.heap s.heap [] := va_S.rf
  have hl := lv_entry ([.ref (ad 0)]) (n := 3) (Nat.le_of_ble_eq_true rfl)
  rw [lg_entry_eq]
  generalize (lg_sl ([.ref (ad 0)]) ++ List.replicate (3 - (lg_sl ([.ref (ad 0)])).length) Slot.unset).toArray = ls at hl ⊢
  have hl : lv_has ls 3 [(0, .ref (ad 0))] := hl
  have lk10 := hts (.fieldLink RX1 10 "FerryFloor" "now" "LFerryFloor$State;") (by decide +kernel)
  have lk71 := hts (.fieldLink RX1 71 "FerryFloor$State" "places" "[I") (by decide +kernel)
  have lk89 := hts (.fieldLink RX1 89 "FerryFloor$State" "bookPlaces" "[I") (by decide +kernel)
  have hin1 : ∀ w ∈ u_ws RX1 TX1 7, w ∈ wsX1_walkersMisplaced := by decide +kernel
  have hin0 : ∀ w ∈ u_ws RX0 TX0 15, w ∈ wsX1_walkersMisplaced := by decide +kernel
  refine lv_iconst (v := 0) hx hb dX1_walkersMisplaced_0 (by decide) ?_
  refine lv_istore_n (lv' := [(1, .int (0 : Int32)), (0, .ref (ad 0))]) hx hb dX1_walkersMisplaced_1 rfl hl (by decide) rfl (fun ls hl => ?_)
  refine lv_iconst (v := 0) hx hb dX1_walkersMisplaced_2 (by decide) ?_
  refine lv_istore_n (lv' := [(2, .int (0 : Int32)), (1, .int (0 : Int32)), (0, .ref (ad 0))]) hx hb dX1_walkersMisplaced_3 rfl hl (by decide) rfl (fun ls hl => ?_)
  refine q_loop (fun nn H locs ls => ∃ (k : Nat) (x1 : Int32), k + nn = 8 ∧ hX1_walkersMisplaced_4 R F nn k x1 = (xX1_walkersMisplaced R F) ∧ WP D cI cS ad R F H ∧ locs = [] ∧ H = s.heap ∧ lv_has ls 3 [(2, .int (nI k)), (1, .int x1), (0, .ref (ad 0))]) 8 ⟨0, (0 : Int32), by omega, by unfold xX1_walkersMisplaced; rfl, hP, rfl, rfl, lv_sub hl [0, 1, 2] rfl⟩ ?_ ?_
  · intro H locs ls hz
    obtain ⟨k, x1, hkn, hsp, hP, rfl, rfl, hl⟩ := hz
    refine lv_iload_n hx hb dX1_walkersMisplaced_4 rfl (lv_at hl 0 rfl) ?_
    refine lv_bipush (v := 8) hx hb dX1_walkersMisplaced_5 (by decide) ?_
    refine lv_icmp_ge (tgt := 40) hx hb dX1_walkersMisplaced_7 (by decide) (fun c_7 => ?_) (fun c_7 => ?_)
    · refine lv_iload_n hx hb dX1_walkersMisplaced_40 rfl (lv_at hl 1 rfl) ?_
      have hX : (xX1_walkersMisplaced R F) = x1 := by rw [← hsp, hX1_walkersMisplaced_4_z]
      exact W.iret (v := x1) hx hb hr (fun t ht hW => ⟨by rw [hX], ht⟩) (fun _ h => by cases h) dX1_walkersMisplaced_41
    · exact absurd (nI_le (a := 8) (b := k) (by omega) (by omega)) c_7
  · intro n ih H locs ls hz
    obtain ⟨k, x1, hkn, hsp, hP, rfl, rfl, hl⟩ := hz
    refine lv_iload_n hx hb dX1_walkersMisplaced_4 rfl (lv_at hl 0 rfl) ?_
    refine lv_bipush (v := 8) hx hb dX1_walkersMisplaced_5 (by decide) ?_
    refine lv_icmp_ge (tgt := 40) hx hb dX1_walkersMisplaced_7 (by decide) (fun c_7 => ?_) (fun c_7 => ?_)
    · exact absurd c_7 (nI_ge (a := k) (b := 8) (by omega) (by omega))
    · refine lv_aload_n hx hb dX1_walkersMisplaced_10 rfl (lv_at hl 2 rfl) ?_
      refine q_getF (v := .ref (ad 1)) hx hb hts hin1 hown hK hP 0 (by decide) lk10 (fun _ h => h) rfl dX1_walkersMisplaced_11 ?_
      refine q_getS (v := .ref (ad 7)) hx hb hts hin0 hown hK hP 1 st_1 8 (by decide) lk71 (fun _ h => h) rfl dX1_walkersMisplaced_14 ?_
      refine lv_iload_n hx hb dX1_walkersMisplaced_17 rfl (lv_at hl 0 rfl) ?_
      refine q_ildN hx hb hK hP 7 8 (ar_7) k dX1_walkersMisplaced_18 rfl (by omega) (by decide) ?_
      refine lv_aload_n hx hb dX1_walkersMisplaced_19 rfl (lv_at hl 2 rfl) ?_
      refine q_getF (v := .ref (ad 1)) hx hb hts hin1 hown hK hP 0 (by decide) lk10 (fun _ h => h) rfl dX1_walkersMisplaced_20 ?_
      refine q_getS (v := .ref (ad 9)) hx hb hts hin0 hown hK hP 1 st_1 10 (by decide) lk89 (fun _ h => h) rfl dX1_walkersMisplaced_23 ?_
      refine lv_iload_n hx hb dX1_walkersMisplaced_26 rfl (lv_at hl 0 rfl) ?_
      refine q_ildN hx hb hK hP 9 8 (ar_9) k dX1_walkersMisplaced_27 rfl (by omega) (by decide) ?_
      refine lv_icmp_eq (tgt := 34) hx hb dX1_walkersMisplaced_28 (by decide) (fun c_28 => ?_) (fun c_28 => ?_)
      · refine lv_iinc (v := (nI (k + 1))) (lv' := [(2, .int (nI (k + 1))), (1, .int x1), (0, .ref (ad 0))]) hx hb dX1_walkersMisplaced_34 hl (k := 0) rfl (nI_1 k) (by decide) rfl (fun ls hl => ?_)
        refine lv_goto (tgt := 4) hx hb dX1_walkersMisplaced_37 (by decide) ?_
        exact ih _ _ _ ⟨(k + 1), x1, by omega, by rw [← hsp, hX1_walkersMisplaced_4_s, if_pos c_28], hP, rfl, rfl, lv_sub hl [0, 1, 2] rfl⟩
      · refine lv_iinc (v := (x1 + (1 : Int32))) (lv' := [(1, .int (x1 + (1 : Int32))), (2, .int (nI k)), (0, .ref (ad 0))]) hx hb dX1_walkersMisplaced_31 hl (k := 1) rfl rfl (by decide) rfl (fun ls hl => ?_)
        refine lv_iinc (v := (nI (k + 1))) (lv' := [(2, .int (nI (k + 1))), (1, .int (x1 + (1 : Int32))), (0, .ref (ad 0))]) hx hb dX1_walkersMisplaced_34 hl (k := 1) rfl (nI_1 k) (by decide) rfl (fun ls hl => ?_)
        refine lv_goto (tgt := 4) hx hb dX1_walkersMisplaced_37 (by decide) ?_
        exact ih _ _ _ ⟨(k + 1), (x1 + (1 : Int32)), by omega, by rw [← hsp, hX1_walkersMisplaced_4_s, if_neg c_28], hP, rfl, rfl, lv_sub hl [0, 1, 2] rfl⟩

def hX1_estimateFor_48 (R F : Nat → Nat → Int32) (p1 : Int32) : Nat → Nat → Int32 → Int32 × (Nat → Nat → Int32)
  | 0, k, x3 => ((if (0 : Int32) < x3 then x3 else (0 : Int32)), (xX1_expectAll (xX1_weighAll R F) F 9))
  | n + 1, k, x3 => (if (xX1_isCell (xX1_nearCell ((xX1_expectAll (xX1_weighAll R F) F 9) 9 (p1).toNatClampNeg) (nI k))) = (0 : Int32) then (hX1_estimateFor_48 R F p1 n (k + 1) x3) else (hX1_estimateFor_48 R F p1 n (k + 1) (x3 + (((xX1_expectAll (xX1_weighAll R F) F 9) 15 ((xX1_nearCell ((xX1_expectAll (xX1_weighAll R F) F 9) 9 (p1).toNatClampNeg) (nI k))).toNatClampNeg) - ((xX1_expectAll (xX1_weighAll R F) F 9) 16 ((xX1_nearCell ((xX1_expectAll (xX1_weighAll R F) F 9) 9 (p1).toNatClampNeg) (nI k))).toNatClampNeg)))))
theorem hX1_estimateFor_48_z (R F : Nat → Nat → Int32) (p1 : Int32) (k : Nat) (x3 : Int32) : hX1_estimateFor_48 R F p1 0 k x3 = ((if (0 : Int32) < x3 then x3 else (0 : Int32)), (xX1_expectAll (xX1_weighAll R F) F 9)) := rfl
theorem hX1_estimateFor_48_s (R F : Nat → Nat → Int32) (p1 : Int32) (n : Nat) (k : Nat) (x3 : Int32) : hX1_estimateFor_48 R F p1 (n + 1) k x3 = (if (xX1_isCell (xX1_nearCell ((xX1_expectAll (xX1_weighAll R F) F 9) 9 (p1).toNatClampNeg) (nI k))) = (0 : Int32) then (hX1_estimateFor_48 R F p1 n (k + 1) x3) else (hX1_estimateFor_48 R F p1 n (k + 1) (x3 + (((xX1_expectAll (xX1_weighAll R F) F 9) 15 ((xX1_nearCell ((xX1_expectAll (xX1_weighAll R F) F 9) 9 (p1).toNatClampNeg) (nI k))).toNatClampNeg) - ((xX1_expectAll (xX1_weighAll R F) F 9) 16 ((xX1_nearCell ((xX1_expectAll (xX1_weighAll R F) F 9) 9 (p1).toNatClampNeg) (nI k))).toNatClampNeg))))) := rfl
def xX1_estimateFor (R F : Nat → Nat → Int32) (p1 : Int32) : Int32 × (Nat → Nat → Int32) :=
  (if (xX1_isAboard R F p1) = (0 : Int32) then ((0 : Int32), R) else (hX1_estimateFor_48 R F p1 5 0 ((xX1_expectAll (xX1_weighAll R F) F 9) 8 (p1).toNatClampNeg)))
set_option maxHeartbeats 4000000 in
set_option maxRecDepth 100000 in
theorem mX1_estimateFor (l : Launch) (D : va_G) (cI cS : ClassId) (ad : Nat → Nat) (hI : Inj ad) (R F : Nat → Nat → Int32) (p1 : Int32) : Met l yX1_estimateFor wsX1_estimateFor ({ frames := 4, cells := 0, slots := 0, locals := 92 }) (PW D cI cS ad R F [.ref (ad 0), .int p1]) (QI D cI cS ad ((xX1_estimateFor R F p1).1) ((xX1_estimateFor R F p1).2) F) 0 0 (AA ad) := by
  refine Met.ofW (cc := cX1_estimateFor) (maxL := 6) (ret := (some .int)) (by decide) rfl ?_
  intro p e s m args below meth c s₁ B hml hv
  obtain ⟨rfl, hP, hK⟩ := hv
  have hx := B.exec
  have hb := B.bytes
  have hr := B.returns
  have hts := atoms_spec (ws := wsX1_estimateFor) B.pre
  have hown : s.vm.findClass RX1 = some m.cls := findClass_of_methodNamed B.named
  have hlocks := B.notSynchronized
  have hS : va_S (AA ad) s.heap s.heap [] := va_S.rf
  have hl := lv_entry ([.ref (ad 0), .int p1]) (n := 6) (Nat.le_of_ble_eq_true rfl)
  rw [lg_entry_eq]
  generalize (lg_sl ([.ref (ad 0), .int p1]) ++ List.replicate (6 - (lg_sl ([.ref (ad 0), .int p1])).length) Slot.unset).toArray = ls at hl ⊢
  have hl : lv_has ls 6 [(0, .ref (ad 0)), (1, .int p1)] := hl
  have lk10 := hts (.fieldLink RX1 10 "FerryFloor" "now" "LFerryFloor$State;") (by decide +kernel)
  have lk89 := hts (.fieldLink RX1 89 "FerryFloor$State" "bookPlaces" "[I") (by decide +kernel)
  have lk86 := hts (.fieldLink RX1 86 "FerryFloor$State" "bookWeights" "[I") (by decide +kernel)
  have lk27 := hts (.fieldLink RX1 27 "FerryFloor" "readings" "[I") (by decide +kernel)
  have lk31 := hts (.fieldLink RX1 31 "FerryFloor" "expected" "[I") (by decide +kernel)
  have hin1 : ∀ w ∈ u_ws RX1 TX1 7, w ∈ wsX1_estimateFor := by decide +kernel
  have hin0 : ∀ w ∈ u_ws RX0 TX0 15, w ∈ wsX1_estimateFor := by decide +kernel
  refine lv_aload_n hx hb dX1_estimateFor_0 rfl (lv_at hl 0 rfl) ?_
  refine lv_iload_n hx hb dX1_estimateFor_1 rfl (lv_at hl 1 rfl) ?_
  refine q_callS (va_runV (As := [.int p1]) (rest := []) ⟨hx, hb, hml, hown, hts⟩ (mX1_isAboard l D cI cS ad hI R F p1) (cwV 1 hts gX1_estimateFor_X1_isAboard rfl rfl rfl (by decide +kernel) ⟨Nat.le_of_ble_eq_true rfl, Nat.le_of_ble_eq_true rfl⟩) (PW_preV (i := 0) (by decide) CC_0 rfl rfl hK hP) rfl rfl hl.1 rfl (lv_room (Nat.le_of_ble_eq_true rfl)) dX1_estimateFor_2 ⟨Nat.zero_le _, Nat.zero_le _⟩) ?_
  refine lv_if_ne (tgt := 10) hx hb dX1_estimateFor_5 (by decide) (fun c_5 => ?_) (fun c_5 => ?_)
  · refine lv_aload_n hx hb dX1_estimateFor_10 rfl (lv_at hl 0 rfl) ?_
    refine q_callV (va_runV (As := []) (rest := []) ⟨hx, hb, hml, hown, hts⟩ (mX1_weighAll l D cI cS ad hI R F) (cwV 0 hts gX1_estimateFor_X1_weighAll rfl rfl rfl (by decide +kernel) ⟨Nat.le_of_ble_eq_true rfl, Nat.le_of_ble_eq_true rfl⟩) (PW_preV (i := 0) (by decide) CC_0 rfl rfl hK hP) rfl rfl hl.1 rfl (lv_room (Nat.le_of_ble_eq_true rfl)) dX1_estimateFor_11 ⟨Nat.zero_le _, Nat.zero_le _⟩) hS (fun H locs hP hS => ?_)
    refine lv_aload_n hx hb dX1_estimateFor_14 rfl (lv_at hl 0 rfl) ?_
    refine lv_aload_n hx hb dX1_estimateFor_15 rfl (lv_at hl 0 rfl) ?_
    refine q_getF (v := .ref (ad 1)) hx hb hts hin1 hown hK hP 0 (by decide) lk10 (fun _ h => h) rfl dX1_estimateFor_16 ?_
    refine q_getS (v := .ref (ad 9)) hx hb hts hin0 hown hK hP 1 st_1 10 (by decide) lk89 (fun _ h => h) rfl dX1_estimateFor_19 ?_
    refine q_callV (va_runV (As := [.ref (ad 9)]) (rest := []) ⟨hx, hb, hml, hown, hts⟩ (mX1_expectAll l D cI cS ad hI (xX1_weighAll R F) F 9 (ar_9)) (cwV 1 hts gX1_estimateFor_X1_expectAll rfl rfl rfl (by decide +kernel) ⟨Nat.le_of_ble_eq_true rfl, Nat.le_of_ble_eq_true rfl⟩) (PW_preV (i := 0) (by decide) CC_0 rfl rfl hK hP) rfl rfl hl.1 rfl (lv_room (Nat.le_of_ble_eq_true rfl)) dX1_estimateFor_22 ⟨Nat.zero_le _, Nat.zero_le _⟩) hS (fun H locs hP hS => ?_)
    refine lv_aload_n hx hb dX1_estimateFor_25 rfl (lv_at hl 0 rfl) ?_
    refine q_getF (v := .ref (ad 1)) hx hb hts hin1 hown hK hP 0 (by decide) lk10 (fun _ h => h) rfl dX1_estimateFor_26 ?_
    refine q_getS (v := .ref (ad 9)) hx hb hts hin0 hown hK hP 1 st_1 10 (by decide) lk89 (fun _ h => h) rfl dX1_estimateFor_29 ?_
    refine lv_iload_n hx hb dX1_estimateFor_32 rfl (lv_at hl 1 rfl) ?_
    refine q_ild hx hb hK hP 9 8 (ar_9) dX1_estimateFor_33 (by first | assumption | exact isCell_in (by assumption) | exact isWalker_in (by assumption) | exact isAboard_in (by assumption) | exact isPair_in1 (by assumption) | exact isPair_in2 (by assumption) | exact isWithin7_in (by assumption) | exact vp_in_nI (by omega) (by decide)) ?_
    refine lv_istore_n (lv' := [(2, .int ((xX1_expectAll (xX1_weighAll R F) F 9) 9 (p1).toNatClampNeg)), (0, .ref (ad 0)), (1, .int p1)]) hx hb dX1_estimateFor_34 rfl hl (by decide) rfl (fun ls hl => ?_)
    refine lv_aload_n hx hb dX1_estimateFor_35 rfl (lv_at hl 1 rfl) ?_
    refine q_getF (v := .ref (ad 1)) hx hb hts hin1 hown hK hP 0 (by decide) lk10 (fun _ h => h) rfl dX1_estimateFor_36 ?_
    refine q_getS (v := .ref (ad 8)) hx hb hts hin0 hown hK hP 1 st_1 9 (by decide) lk86 (fun _ h => h) rfl dX1_estimateFor_39 ?_
    refine lv_iload_n hx hb dX1_estimateFor_42 rfl (lv_at hl 2 rfl) ?_
    refine q_ild hx hb hK hP 8 8 (ar_8) dX1_estimateFor_43 (by first | assumption | exact isCell_in (by assumption) | exact isWalker_in (by assumption) | exact isAboard_in (by assumption) | exact isPair_in1 (by assumption) | exact isPair_in2 (by assumption) | exact isWithin7_in (by assumption) | exact vp_in_nI (by omega) (by decide)) ?_
    refine lv_istore_n (lv' := [(3, .int ((xX1_expectAll (xX1_weighAll R F) F 9) 8 (p1).toNatClampNeg)), (2, .int ((xX1_expectAll (xX1_weighAll R F) F 9) 9 (p1).toNatClampNeg)), (0, .ref (ad 0)), (1, .int p1)]) hx hb dX1_estimateFor_44 rfl hl (by decide) rfl (fun ls hl => ?_)
    refine lv_iconst (v := 0) hx hb dX1_estimateFor_45 (by decide) ?_
    refine lv_istore (lv' := [(4, .int (0 : Int32)), (3, .int ((xX1_expectAll (xX1_weighAll R F) F 9) 8 (p1).toNatClampNeg)), (2, .int ((xX1_expectAll (xX1_weighAll R F) F 9) 9 (p1).toNatClampNeg)), (0, .ref (ad 0)), (1, .int p1)]) hx hb dX1_estimateFor_46 hl (by decide) rfl (fun ls hl => ?_)
    refine q_loop (fun nn H locs ls => ∃ (k : Nat) (x3 : Int32), k + nn = 5 ∧ hX1_estimateFor_48 R F p1 nn k x3 = (xX1_estimateFor R F p1) ∧ WP D cI cS ad (xX1_expectAll (xX1_weighAll R F) F 9) F H ∧ va_S (AA ad) s.heap H locs ∧ lv_has ls 6 [(4, .int (nI k)), (3, .int x3), (2, .int ((xX1_expectAll (xX1_weighAll R F) F 9) 9 (p1).toNatClampNeg)), (0, .ref (ad 0)), (1, .int p1)]) 5 ⟨0, ((xX1_expectAll (xX1_weighAll R F) F 9) 8 (p1).toNatClampNeg), by omega, by unfold xX1_estimateFor; rw [if_neg c_5], hP, hS, lv_sub hl [0, 1, 2, 3, 4] rfl⟩ ?_ ?_
    · intro H locs ls hz
      obtain ⟨k, x3, hkn, hsp, hP, hS, hl⟩ := hz
      refine lv_iload hx hb dX1_estimateFor_48 (lv_at hl 0 rfl) ?_
      refine lv_iconst (v := 5) hx hb dX1_estimateFor_50 (by decide) ?_
      refine lv_icmp_ge (tgt := 94) hx hb dX1_estimateFor_51 (by decide) (fun c_51 => ?_) (fun c_51 => ?_)
      · refine lv_iconst (v := 0) hx hb dX1_estimateFor_94 (by decide) ?_
        refine lv_iload_n hx hb dX1_estimateFor_95 rfl (lv_at hl 1 rfl) ?_
        refine va_mmax hx hb (hml.trans hl.1.symm) hown (hts (.methodLink RX1 129 Lib.Math.max.name) (by decide +kernel)) (hts (.static Lib.Math.max.name) (by decide +kernel)) (hts (.initialized "java/lang/Math") (by decide +kernel)) (hts (.code Lib.Math.max.name Lib.Math.max.code 2 (some .int)) (by decide +kernel)) (Nat.le_of_ble_eq_true rfl) (Nat.le_of_ble_eq_true rfl) (Nat.zero_le _) (Nat.zero_le _) dX1_estimateFor_96 ?_
        have hX : (xX1_estimateFor R F p1) = ((if (0 : Int32) < x3 then x3 else (0 : Int32)), (xX1_expectAll (xX1_weighAll R F) F 9)) := by rw [← hsp, hX1_estimateFor_48_z]
        exact W.iret (v := (if (0 : Int32) < x3 then x3 else (0 : Int32))) hx hb hr (fun t ht hW => ⟨by rw [hX], by rw [hX, ht]; with_reducible exact hP, hS.F ht⟩) hS.2.2 dX1_estimateFor_99
      · exact absurd (nI_le (a := 5) (b := k) (by omega) (by omega)) c_51
    · intro n ih H locs ls hz
      obtain ⟨k, x3, hkn, hsp, hP, hS, hl⟩ := hz
      refine lv_iload hx hb dX1_estimateFor_48 (lv_at hl 0 rfl) ?_
      refine lv_iconst (v := 5) hx hb dX1_estimateFor_50 (by decide) ?_
      refine lv_icmp_ge (tgt := 94) hx hb dX1_estimateFor_51 (by decide) (fun c_51 => ?_) (fun c_51 => ?_)
      · exact absurd c_51 (nI_ge (a := k) (b := 5) (by omega) (by omega))
      · refine lv_iload_n hx hb dX1_estimateFor_54 rfl (lv_at hl 2 rfl) ?_
        refine lv_iload hx hb dX1_estimateFor_55 (lv_at hl 0 rfl) ?_
        refine q_callS (va_runS (As := [.int ((xX1_expectAll (xX1_weighAll R F) F 9) 9 (p1).toNatClampNeg), .int (nI k)]) (rest := []) ⟨hx, hb, hml, hown, hts⟩ (mX1_nearCell l D cI cS ad hI (xX1_expectAll (xX1_weighAll R F) F 9) F ((xX1_expectAll (xX1_weighAll R F) F 9) 9 (p1).toNatClampNeg) (nI k)) (va_cwS 2 hts gX1_estimateFor_X1_nearCell rfl rfl rfl (by decide +kernel) ⟨Nat.le_of_ble_eq_true rfl, Nat.le_of_ble_eq_true rfl⟩) (PW_preS hK hP) rfl rfl hl.1 rfl (lv_room (Nat.le_of_ble_eq_true rfl)) dX1_estimateFor_57 ⟨Nat.zero_le _, Nat.zero_le _⟩) ?_
        refine lv_istore (lv' := [(5, .int (xX1_nearCell ((xX1_expectAll (xX1_weighAll R F) F 9) 9 (p1).toNatClampNeg) (nI k))), (4, .int (nI k)), (3, .int x3), (2, .int ((xX1_expectAll (xX1_weighAll R F) F 9) 9 (p1).toNatClampNeg)), (0, .ref (ad 0)), (1, .int p1)]) hx hb dX1_estimateFor_60 hl (by decide) rfl (fun ls hl => ?_)
        refine lv_iload hx hb dX1_estimateFor_62 (lv_at hl 0 rfl) ?_
        refine q_callS (va_runS (As := [.int (xX1_nearCell ((xX1_expectAll (xX1_weighAll R F) F 9) 9 (p1).toNatClampNeg) (nI k))]) (rest := []) ⟨hx, hb, hml, hown, hts⟩ (mX1_isCell l D cI cS ad hI (xX1_expectAll (xX1_weighAll R F) F 9) F (xX1_nearCell ((xX1_expectAll (xX1_weighAll R F) F 9) 9 (p1).toNatClampNeg) (nI k))) (va_cwS 1 hts gX1_estimateFor_X1_isCell rfl rfl rfl (by decide +kernel) ⟨Nat.le_of_ble_eq_true rfl, Nat.le_of_ble_eq_true rfl⟩) (PW_preS hK hP) rfl rfl hl.1 rfl (lv_room (Nat.le_of_ble_eq_true rfl)) dX1_estimateFor_64 ⟨Nat.zero_le _, Nat.zero_le _⟩) ?_
        refine lv_if_eq (tgt := 88) hx hb dX1_estimateFor_67 (by decide) (fun c_67 => ?_) (fun c_67 => ?_)
        · refine lv_iinc (v := (nI (k + 1))) (lv' := [(4, .int (nI (k + 1))), (5, .int (xX1_nearCell ((xX1_expectAll (xX1_weighAll R F) F 9) 9 (p1).toNatClampNeg) (nI k))), (3, .int x3), (2, .int ((xX1_expectAll (xX1_weighAll R F) F 9) 9 (p1).toNatClampNeg)), (0, .ref (ad 0)), (1, .int p1)]) hx hb dX1_estimateFor_88 hl (k := 1) rfl (nI_1 k) (by decide) rfl (fun ls hl => ?_)
          refine lv_goto (tgt := 48) hx hb dX1_estimateFor_91 (by decide) ?_
          exact ih _ _ _ ⟨(k + 1), x3, by omega, by rw [← hsp, hX1_estimateFor_48_s, if_pos c_67], hP, hS, lv_sub hl [0, 2, 3, 4, 5] rfl⟩
        · refine lv_iload_n hx hb dX1_estimateFor_70 rfl (lv_at hl 2 rfl) ?_
          refine lv_aload_n hx hb dX1_estimateFor_71 rfl (lv_at hl 4 rfl) ?_
          refine q_getF (v := .ref (ad 15)) hx hb hts hin1 hown hK hP 4 (by decide) lk27 (fun _ h => h) rfl dX1_estimateFor_72 ?_
          refine lv_iload hx hb dX1_estimateFor_75 (lv_at hl 0 rfl) ?_
          refine q_ild hx hb hK hP 15 24 (ar_15) dX1_estimateFor_77 (by first | assumption | exact isCell_in (by assumption) | exact isWalker_in (by assumption) | exact isAboard_in (by assumption) | exact isPair_in1 (by assumption) | exact isPair_in2 (by assumption) | exact isWithin7_in (by assumption) | exact vp_in_nI (by omega) (by decide)) ?_
          refine lv_aload_n hx hb dX1_estimateFor_78 rfl (lv_at hl 4 rfl) ?_
          refine q_getF (v := .ref (ad 16)) hx hb hts hin1 hown hK hP 5 (by decide) lk31 (fun _ h => h) rfl dX1_estimateFor_79 ?_
          refine lv_iload hx hb dX1_estimateFor_82 (lv_at hl 0 rfl) ?_
          refine q_ild hx hb hK hP 16 24 (ar_16) dX1_estimateFor_84 (by first | assumption | exact isCell_in (by assumption) | exact isWalker_in (by assumption) | exact isAboard_in (by assumption) | exact isPair_in1 (by assumption) | exact isPair_in2 (by assumption) | exact isWithin7_in (by assumption) | exact vp_in_nI (by omega) (by decide)) ?_
          refine lv_isub hx hb dX1_estimateFor_85 ?_
          refine lv_iadd hx hb dX1_estimateFor_86 ?_
          refine lv_istore_n (lv' := [(3, .int (x3 + (((xX1_expectAll (xX1_weighAll R F) F 9) 15 ((xX1_nearCell ((xX1_expectAll (xX1_weighAll R F) F 9) 9 (p1).toNatClampNeg) (nI k))).toNatClampNeg) - ((xX1_expectAll (xX1_weighAll R F) F 9) 16 ((xX1_nearCell ((xX1_expectAll (xX1_weighAll R F) F 9) 9 (p1).toNatClampNeg) (nI k))).toNatClampNeg)))), (5, .int (xX1_nearCell ((xX1_expectAll (xX1_weighAll R F) F 9) 9 (p1).toNatClampNeg) (nI k))), (4, .int (nI k)), (2, .int ((xX1_expectAll (xX1_weighAll R F) F 9) 9 (p1).toNatClampNeg)), (0, .ref (ad 0)), (1, .int p1)]) hx hb dX1_estimateFor_87 rfl hl (by decide) rfl (fun ls hl => ?_)
          refine lv_iinc (v := (nI (k + 1))) (lv' := [(4, .int (nI (k + 1))), (3, .int (x3 + (((xX1_expectAll (xX1_weighAll R F) F 9) 15 ((xX1_nearCell ((xX1_expectAll (xX1_weighAll R F) F 9) 9 (p1).toNatClampNeg) (nI k))).toNatClampNeg) - ((xX1_expectAll (xX1_weighAll R F) F 9) 16 ((xX1_nearCell ((xX1_expectAll (xX1_weighAll R F) F 9) 9 (p1).toNatClampNeg) (nI k))).toNatClampNeg)))), (5, .int (xX1_nearCell ((xX1_expectAll (xX1_weighAll R F) F 9) 9 (p1).toNatClampNeg) (nI k))), (2, .int ((xX1_expectAll (xX1_weighAll R F) F 9) 9 (p1).toNatClampNeg)), (0, .ref (ad 0)), (1, .int p1)]) hx hb dX1_estimateFor_88 hl (k := 2) rfl (nI_1 k) (by decide) rfl (fun ls hl => ?_)
          refine lv_goto (tgt := 48) hx hb dX1_estimateFor_91 (by decide) ?_
          exact ih _ _ _ ⟨(k + 1), (x3 + (((xX1_expectAll (xX1_weighAll R F) F 9) 15 ((xX1_nearCell ((xX1_expectAll (xX1_weighAll R F) F 9) 9 (p1).toNatClampNeg) (nI k))).toNatClampNeg) - ((xX1_expectAll (xX1_weighAll R F) F 9) 16 ((xX1_nearCell ((xX1_expectAll (xX1_weighAll R F) F 9) 9 (p1).toNatClampNeg) (nI k))).toNatClampNeg))), by omega, by rw [← hsp, hX1_estimateFor_48_s, if_neg c_67], hP, hS, lv_sub hl [0, 1, 3, 4, 5] rfl⟩
  · refine lv_iconst (v := 0) hx hb dX1_estimateFor_8 (by decide) ?_
    have hX : (xX1_estimateFor R F p1) = ((0 : Int32), R) := by unfold xX1_estimateFor; rw [if_pos c_5]
    exact W.iret (v := (0 : Int32)) hx hb hr (fun t ht hW => ⟨by rw [hX], by rw [hX, ht]; with_reducible exact hP, hS.F ht⟩) hS.2.2 dX1_estimateFor_9

def xX1_certaintyFor (R F : Nat → Nat → Int32) (p1 : Int32) : Int32 :=
  (if (xX1_isAboard R F p1) = (0 : Int32) then (0 : Int32) else (if (0 : Int32) < ((100 : Int32) - (((5 : Int32) * ((F 1 0) - (xX1_earliestTare R F (R 9 (p1).toNatClampNeg)))) + ((10 : Int32) * (R 10 (p1).toNatClampNeg)))) then ((100 : Int32) - (((5 : Int32) * ((F 1 0) - (xX1_earliestTare R F (R 9 (p1).toNatClampNeg)))) + ((10 : Int32) * (R 10 (p1).toNatClampNeg)))) else (0 : Int32)))
set_option maxHeartbeats 4000000 in
set_option maxRecDepth 100000 in
theorem mX1_certaintyFor (l : Launch) (D : va_G) (cI cS : ClassId) (ad : Nat → Nat) (hI : Inj ad) (R F : Nat → Nat → Int32) (p1 : Int32) : Met l yX1_certaintyFor wsX1_certaintyFor ({ frames := 2, cells := 0, slots := 0, locals := 46 }) (PW D cI cS ad R F [.ref (ad 0), .int p1]) (QS (xX1_certaintyFor R F p1)) 0 0 (fun _ => False) := by
  refine Met.ofW (cc := cX1_certaintyFor) (maxL := 4) (ret := (some .int)) (by decide) rfl ?_
  intro p e s m args below meth c s₁ B hml hv
  obtain ⟨rfl, hP, hK⟩ := hv
  have hx := B.exec
  have hb := B.bytes
  have hr := B.returns
  have hts := atoms_spec (ws := wsX1_certaintyFor) B.pre
  have hown : s.vm.findClass RX1 = some m.cls := findClass_of_methodNamed B.named
  have hlocks := B.notSynchronized
  have hS : va_S (AA ad) s.heap s.heap [] := va_S.rf
  have hl := lv_entry ([.ref (ad 0), .int p1]) (n := 4) (Nat.le_of_ble_eq_true rfl)
  rw [lg_entry_eq]
  generalize (lg_sl ([.ref (ad 0), .int p1]) ++ List.replicate (4 - (lg_sl ([.ref (ad 0), .int p1])).length) Slot.unset).toArray = ls at hl ⊢
  have hl : lv_has ls 4 [(0, .ref (ad 0)), (1, .int p1)] := hl
  have lk10 := hts (.fieldLink RX1 10 "FerryFloor" "now" "LFerryFloor$State;") (by decide +kernel)
  have lk52 := hts (.fieldLink RX1 52 "FerryFloor$State" "minute" "I") (by decide +kernel)
  have lk89 := hts (.fieldLink RX1 89 "FerryFloor$State" "bookPlaces" "[I") (by decide +kernel)
  have lk113 := hts (.fieldLink RX1 113 "FerryFloor$State" "accusations" "[I") (by decide +kernel)
  have hin1 : ∀ w ∈ u_ws RX1 TX1 7, w ∈ wsX1_certaintyFor := by decide +kernel
  have hin0 : ∀ w ∈ u_ws RX0 TX0 15, w ∈ wsX1_certaintyFor := by decide +kernel
  refine lv_aload_n hx hb dX1_certaintyFor_0 rfl (lv_at hl 0 rfl) ?_
  refine lv_iload_n hx hb dX1_certaintyFor_1 rfl (lv_at hl 1 rfl) ?_
  refine q_callS (va_runV (As := [.int p1]) (rest := []) ⟨hx, hb, hml, hown, hts⟩ (mX1_isAboard l D cI cS ad hI R F p1) (cwV 1 hts gX1_certaintyFor_X1_isAboard rfl rfl rfl (by decide +kernel) ⟨Nat.le_of_ble_eq_true rfl, Nat.le_of_ble_eq_true rfl⟩) (PW_preV (i := 0) (by decide) CC_0 rfl rfl hK hP) rfl rfl hl.1 rfl (lv_room (Nat.le_of_ble_eq_true rfl)) dX1_certaintyFor_2 ⟨Nat.zero_le _, Nat.zero_le _⟩) ?_
  refine lv_if_ne (tgt := 10) hx hb dX1_certaintyFor_5 (by decide) (fun c_5 => ?_) (fun c_5 => ?_)
  · refine lv_aload_n hx hb dX1_certaintyFor_10 rfl (lv_at hl 0 rfl) ?_
    refine q_getF (v := .ref (ad 1)) hx hb hts hin1 hown hK hP 0 (by decide) lk10 (fun _ h => h) rfl dX1_certaintyFor_11 ?_
    refine q_getS (v := .int (F 1 0)) hx hb hts hin0 hown hK hP 1 st_1 0 (by decide) lk52 (fun _ h => h) rfl dX1_certaintyFor_14 ?_
    refine lv_aload_n hx hb dX1_certaintyFor_17 rfl (lv_at hl 0 rfl) ?_
    refine lv_aload_n hx hb dX1_certaintyFor_18 rfl (lv_at hl 0 rfl) ?_
    refine q_getF (v := .ref (ad 1)) hx hb hts hin1 hown hK hP 0 (by decide) lk10 (fun _ h => h) rfl dX1_certaintyFor_19 ?_
    refine q_getS (v := .ref (ad 9)) hx hb hts hin0 hown hK hP 1 st_1 10 (by decide) lk89 (fun _ h => h) rfl dX1_certaintyFor_22 ?_
    refine lv_iload_n hx hb dX1_certaintyFor_25 rfl (lv_at hl 1 rfl) ?_
    refine q_ild hx hb hK hP 9 8 (ar_9) dX1_certaintyFor_26 (by first | assumption | exact isCell_in (by assumption) | exact isWalker_in (by assumption) | exact isAboard_in (by assumption) | exact isPair_in1 (by assumption) | exact isPair_in2 (by assumption) | exact isWithin7_in (by assumption) | exact vp_in_nI (by omega) (by decide)) ?_
    refine q_callS (va_runV (As := [.int (R 9 (p1).toNatClampNeg)]) (rest := [.int (F 1 0)]) ⟨hx, hb, hml, hown, hts⟩ (mX1_earliestTare l D cI cS ad hI R F (R 9 (p1).toNatClampNeg)) (cwV 1 hts gX1_certaintyFor_X1_earliestTare rfl rfl rfl (by decide +kernel) ⟨Nat.le_of_ble_eq_true rfl, Nat.le_of_ble_eq_true rfl⟩) (PW_preV (i := 0) (by decide) CC_0 rfl rfl hK hP) rfl rfl hl.1 rfl (lv_room (Nat.le_of_ble_eq_true rfl)) dX1_certaintyFor_27 ⟨Nat.zero_le _, Nat.zero_le _⟩) ?_
    refine lv_isub hx hb dX1_certaintyFor_30 ?_
    refine lv_istore_n (lv' := [(2, .int ((F 1 0) - (xX1_earliestTare R F (R 9 (p1).toNatClampNeg)))), (0, .ref (ad 0)), (1, .int p1)]) hx hb dX1_certaintyFor_31 rfl hl (by decide) rfl (fun ls hl => ?_)
    refine lv_iconst (v := 5) hx hb dX1_certaintyFor_32 (by decide) ?_
    refine lv_iload_n hx hb dX1_certaintyFor_33 rfl (lv_at hl 0 rfl) ?_
    refine lv_imul hx hb dX1_certaintyFor_34 ?_
    refine lv_bipush (v := 10) hx hb dX1_certaintyFor_35 (by decide) ?_
    refine lv_aload_n hx hb dX1_certaintyFor_37 rfl (lv_at hl 1 rfl) ?_
    refine q_getF (v := .ref (ad 1)) hx hb hts hin1 hown hK hP 0 (by decide) lk10 (fun _ h => h) rfl dX1_certaintyFor_38 ?_
    refine q_getS (v := .ref (ad 10)) hx hb hts hin0 hown hK hP 1 st_1 11 (by decide) lk113 (fun _ h => h) rfl dX1_certaintyFor_41 ?_
    refine lv_iload_n hx hb dX1_certaintyFor_44 rfl (lv_at hl 2 rfl) ?_
    refine q_ild hx hb hK hP 10 8 (ar_10) dX1_certaintyFor_45 (by first | assumption | exact isCell_in (by assumption) | exact isWalker_in (by assumption) | exact isAboard_in (by assumption) | exact isPair_in1 (by assumption) | exact isPair_in2 (by assumption) | exact isWithin7_in (by assumption) | exact vp_in_nI (by omega) (by decide)) ?_
    refine lv_imul hx hb dX1_certaintyFor_46 ?_
    refine lv_iadd hx hb dX1_certaintyFor_47 ?_
    refine lv_istore_n (lv' := [(3, .int (((5 : Int32) * ((F 1 0) - (xX1_earliestTare R F (R 9 (p1).toNatClampNeg)))) + ((10 : Int32) * (R 10 (p1).toNatClampNeg)))), (2, .int ((F 1 0) - (xX1_earliestTare R F (R 9 (p1).toNatClampNeg)))), (0, .ref (ad 0)), (1, .int p1)]) hx hb dX1_certaintyFor_48 rfl hl (by decide) rfl (fun ls hl => ?_)
    refine lv_iconst (v := 0) hx hb dX1_certaintyFor_49 (by decide) ?_
    refine lv_bipush (v := 100) hx hb dX1_certaintyFor_50 (by decide) ?_
    refine lv_iload_n hx hb dX1_certaintyFor_52 rfl (lv_at hl 0 rfl) ?_
    refine lv_isub hx hb dX1_certaintyFor_53 ?_
    refine va_mmax hx hb (hml.trans hl.1.symm) hown (hts (.methodLink RX1 129 Lib.Math.max.name) (by decide +kernel)) (hts (.static Lib.Math.max.name) (by decide +kernel)) (hts (.initialized "java/lang/Math") (by decide +kernel)) (hts (.code Lib.Math.max.name Lib.Math.max.code 2 (some .int)) (by decide +kernel)) (Nat.le_of_ble_eq_true rfl) (Nat.le_of_ble_eq_true rfl) (Nat.zero_le _) (Nat.zero_le _) dX1_certaintyFor_54 ?_
    have hX : (xX1_certaintyFor R F p1) = (if (0 : Int32) < ((100 : Int32) - (((5 : Int32) * ((F 1 0) - (xX1_earliestTare R F (R 9 (p1).toNatClampNeg)))) + ((10 : Int32) * (R 10 (p1).toNatClampNeg)))) then ((100 : Int32) - (((5 : Int32) * ((F 1 0) - (xX1_earliestTare R F (R 9 (p1).toNatClampNeg)))) + ((10 : Int32) * (R 10 (p1).toNatClampNeg)))) else (0 : Int32)) := by unfold xX1_certaintyFor; rw [if_neg c_5]
    exact W.iret (v := (if (0 : Int32) < ((100 : Int32) - (((5 : Int32) * ((F 1 0) - (xX1_earliestTare R F (R 9 (p1).toNatClampNeg)))) + ((10 : Int32) * (R 10 (p1).toNatClampNeg)))) then ((100 : Int32) - (((5 : Int32) * ((F 1 0) - (xX1_earliestTare R F (R 9 (p1).toNatClampNeg)))) + ((10 : Int32) * (R 10 (p1).toNatClampNeg)))) else (0 : Int32))) hx hb hr (fun t ht hW => ⟨by rw [hX], ht⟩) (fun _ h => by cases h) dX1_certaintyFor_57
  · refine lv_iconst (v := 0) hx hb dX1_certaintyFor_8 (by decide) ?_
    have hX : (xX1_certaintyFor R F p1) = (0 : Int32) := by unfold xX1_certaintyFor; rw [if_pos c_5]
    exact W.iret (v := (0 : Int32)) hx hb hr (fun t ht hW => ⟨by rw [hX], ht⟩) (fun _ h => by cases h) dX1_certaintyFor_9

def xX1_sumOfReadings (R F : Nat → Nat → Int32) : Int32 × (Nat → Nat → Int32) :=
  ((xX1_sumOf (xX1_weighAll R F) F 15), (xX1_weighAll R F))
set_option maxHeartbeats 4000000 in
set_option maxRecDepth 100000 in
theorem mX1_sumOfReadings (l : Launch) (D : va_G) (cI cS : ClassId) (ad : Nat → Nat) (hI : Inj ad) (R F : Nat → Nat → Int32)  : Met l yX1_sumOfReadings wsX1_sumOfReadings ({ frames := 4, cells := 0, slots := 0, locals := 91 }) (PW D cI cS ad R F [.ref (ad 0)]) (QI D cI cS ad ((xX1_sumOfReadings R F).1) ((xX1_sumOfReadings R F).2) F) 0 0 (AA ad) := by
  refine Met.ofW (cc := cX1_sumOfReadings) (maxL := 1) (ret := (some .int)) (by decide) rfl ?_
  intro p e s m args below meth c s₁ B hml hv
  obtain ⟨rfl, hP, hK⟩ := hv
  have hx := B.exec
  have hb := B.bytes
  have hr := B.returns
  have hts := atoms_spec (ws := wsX1_sumOfReadings) B.pre
  have hown : s.vm.findClass RX1 = some m.cls := findClass_of_methodNamed B.named
  have hlocks := B.notSynchronized
  have hS : va_S (AA ad) s.heap s.heap [] := va_S.rf
  have hl := lv_entry ([.ref (ad 0)]) (n := 1) (Nat.le_of_ble_eq_true rfl)
  rw [lg_entry_eq]
  generalize (lg_sl ([.ref (ad 0)]) ++ List.replicate (1 - (lg_sl ([.ref (ad 0)])).length) Slot.unset).toArray = ls at hl ⊢
  have hl : lv_has ls 1 [(0, .ref (ad 0))] := hl
  have lk27 := hts (.fieldLink RX1 27 "FerryFloor" "readings" "[I") (by decide +kernel)
  have hin1 : ∀ w ∈ u_ws RX1 TX1 7, w ∈ wsX1_sumOfReadings := by decide +kernel
  refine lv_aload_n hx hb dX1_sumOfReadings_0 rfl (lv_at hl 0 rfl) ?_
  refine q_callV (va_runV (As := []) (rest := []) ⟨hx, hb, hml, hown, hts⟩ (mX1_weighAll l D cI cS ad hI R F) (cwV 0 hts gX1_sumOfReadings_X1_weighAll rfl rfl rfl (by decide +kernel) ⟨Nat.le_of_ble_eq_true rfl, Nat.le_of_ble_eq_true rfl⟩) (PW_preV (i := 0) (by decide) CC_0 rfl rfl hK hP) rfl rfl hl.1 rfl (lv_room (Nat.le_of_ble_eq_true rfl)) dX1_sumOfReadings_1 ⟨Nat.zero_le _, Nat.zero_le _⟩) hS (fun H locs hP hS => ?_)
  refine lv_aload_n hx hb dX1_sumOfReadings_4 rfl (lv_at hl 0 rfl) ?_
  refine q_getF (v := .ref (ad 15)) hx hb hts hin1 hown hK hP 4 (by decide) lk27 (fun _ h => h) rfl dX1_sumOfReadings_5 ?_
  refine q_callS (va_runS (As := [.ref (ad 15)]) (rest := []) ⟨hx, hb, hml, hown, hts⟩ (mX1_sumOf l D cI cS ad hI (xX1_weighAll R F) F 15 (ar_15)) (va_cwS 1 hts gX1_sumOfReadings_X1_sumOf rfl rfl rfl (by decide +kernel) ⟨Nat.le_of_ble_eq_true rfl, Nat.le_of_ble_eq_true rfl⟩) (PW_preS hK hP) rfl rfl hl.1 rfl (lv_room (Nat.le_of_ble_eq_true rfl)) dX1_sumOfReadings_8 ⟨Nat.zero_le _, Nat.zero_le _⟩) ?_
  have hX : (xX1_sumOfReadings R F) = ((xX1_sumOf (xX1_weighAll R F) F 15), (xX1_weighAll R F)) := by unfold xX1_sumOfReadings; rfl
  exact W.iret (v := (xX1_sumOf (xX1_weighAll R F) F 15)) hx hb hr (fun t ht hW => ⟨by rw [hX], by rw [hX, ht]; with_reducible exact hP, hS.F ht⟩) hS.2.2 dX1_sumOfReadings_11

def hX1_kilogramsBilled_4 (R F : Nat → Nat → Int32) : Nat → Nat → Int32 → Int32
  | 0, k, x1 => x1
  | n + 1, k, x1 => (hX1_kilogramsBilled_4 R F n (k + 1) (x1 + ((xX1_orZero (R 11 k)) - (xX1_orZero (R 13 k)))))
theorem hX1_kilogramsBilled_4_z (R F : Nat → Nat → Int32) (k : Nat) (x1 : Int32) : hX1_kilogramsBilled_4 R F 0 k x1 = x1 := rfl
theorem hX1_kilogramsBilled_4_s (R F : Nat → Nat → Int32) (n : Nat) (k : Nat) (x1 : Int32) : hX1_kilogramsBilled_4 R F (n + 1) k x1 = (hX1_kilogramsBilled_4 R F n (k + 1) (x1 + ((xX1_orZero (R 11 k)) - (xX1_orZero (R 13 k))))) := rfl
def xX1_kilogramsBilled (R F : Nat → Nat → Int32) : Int32 :=
  (hX1_kilogramsBilled_4 R F 8 0 (0 : Int32))
set_option maxHeartbeats 4000000 in
set_option maxRecDepth 100000 in
theorem mX1_kilogramsBilled (l : Launch) (D : va_G) (cI cS : ClassId) (ad : Nat → Nat) (hI : Inj ad) (R F : Nat → Nat → Int32)  : Met l yX1_kilogramsBilled wsX1_kilogramsBilled ({ frames := 1, cells := 0, slots := 0, locals := 20 }) (PW D cI cS ad R F [.ref (ad 0)]) (QS (xX1_kilogramsBilled R F)) 0 0 (fun _ => False) := by
  refine Met.ofW (cc := cX1_kilogramsBilled) (maxL := 3) (ret := (some .int)) (by decide) rfl ?_
  intro p e s m args below meth c s₁ B hml hv
  obtain ⟨rfl, hP, hK⟩ := hv
  have hx := B.exec
  have hb := B.bytes
  have hr := B.returns
  have hts := atoms_spec (ws := wsX1_kilogramsBilled) B.pre
  have hown : s.vm.findClass RX1 = some m.cls := findClass_of_methodNamed B.named
  have hlocks := B.notSynchronized
  have hS : va_S (AA ad) s.heap s.heap [] := va_S.rf
  have hl := lv_entry ([.ref (ad 0)]) (n := 3) (Nat.le_of_ble_eq_true rfl)
  rw [lg_entry_eq]
  generalize (lg_sl ([.ref (ad 0)]) ++ List.replicate (3 - (lg_sl ([.ref (ad 0)])).length) Slot.unset).toArray = ls at hl ⊢
  have hl : lv_has ls 3 [(0, .ref (ad 0))] := hl
  have lk10 := hts (.fieldLink RX1 10 "FerryFloor" "now" "LFerryFloor$State;") (by decide +kernel)
  have lk116 := hts (.fieldLink RX1 116 "FerryFloor$State" "billKilograms" "[I") (by decide +kernel)
  have lk126 := hts (.fieldLink RX1 126 "FerryFloor$State" "backKilograms" "[I") (by decide +kernel)
  have hin1 : ∀ w ∈ u_ws RX1 TX1 7, w ∈ wsX1_kilogramsBilled := by decide +kernel
  have hin0 : ∀ w ∈ u_ws RX0 TX0 15, w ∈ wsX1_kilogramsBilled := by decide +kernel
  refine lv_iconst (v := 0) hx hb dX1_kilogramsBilled_0 (by decide) ?_
  refine lv_istore_n (lv' := [(1, .int (0 : Int32)), (0, .ref (ad 0))]) hx hb dX1_kilogramsBilled_1 rfl hl (by decide) rfl (fun ls hl => ?_)
  refine lv_iconst (v := 0) hx hb dX1_kilogramsBilled_2 (by decide) ?_
  refine lv_istore_n (lv' := [(2, .int (0 : Int32)), (1, .int (0 : Int32)), (0, .ref (ad 0))]) hx hb dX1_kilogramsBilled_3 rfl hl (by decide) rfl (fun ls hl => ?_)
  refine q_loop (fun nn H locs ls => ∃ (k : Nat) (x1 : Int32), k + nn = 8 ∧ hX1_kilogramsBilled_4 R F nn k x1 = (xX1_kilogramsBilled R F) ∧ WP D cI cS ad R F H ∧ locs = [] ∧ H = s.heap ∧ lv_has ls 3 [(2, .int (nI k)), (1, .int x1), (0, .ref (ad 0))]) 8 ⟨0, (0 : Int32), by omega, by unfold xX1_kilogramsBilled; rfl, hP, rfl, rfl, lv_sub hl [0, 1, 2] rfl⟩ ?_ ?_
  · intro H locs ls hz
    obtain ⟨k, x1, hkn, hsp, hP, rfl, rfl, hl⟩ := hz
    refine lv_iload_n hx hb dX1_kilogramsBilled_4 rfl (lv_at hl 0 rfl) ?_
    refine lv_bipush (v := 8) hx hb dX1_kilogramsBilled_5 (by decide) ?_
    refine lv_icmp_ge (tgt := 44) hx hb dX1_kilogramsBilled_7 (by decide) (fun c_7 => ?_) (fun c_7 => ?_)
    · refine lv_iload_n hx hb dX1_kilogramsBilled_44 rfl (lv_at hl 1 rfl) ?_
      have hX : (xX1_kilogramsBilled R F) = x1 := by rw [← hsp, hX1_kilogramsBilled_4_z]
      exact W.iret (v := x1) hx hb hr (fun t ht hW => ⟨by rw [hX], ht⟩) (fun _ h => by cases h) dX1_kilogramsBilled_45
    · exact absurd (nI_le (a := 8) (b := k) (by omega) (by omega)) c_7
  · intro n ih H locs ls hz
    obtain ⟨k, x1, hkn, hsp, hP, rfl, rfl, hl⟩ := hz
    refine lv_iload_n hx hb dX1_kilogramsBilled_4 rfl (lv_at hl 0 rfl) ?_
    refine lv_bipush (v := 8) hx hb dX1_kilogramsBilled_5 (by decide) ?_
    refine lv_icmp_ge (tgt := 44) hx hb dX1_kilogramsBilled_7 (by decide) (fun c_7 => ?_) (fun c_7 => ?_)
    · exact absurd c_7 (nI_ge (a := k) (b := 8) (by omega) (by omega))
    · refine lv_iload_n hx hb dX1_kilogramsBilled_10 rfl (lv_at hl 1 rfl) ?_
      refine lv_aload_n hx hb dX1_kilogramsBilled_11 rfl (lv_at hl 2 rfl) ?_
      refine q_getF (v := .ref (ad 1)) hx hb hts hin1 hown hK hP 0 (by decide) lk10 (fun _ h => h) rfl dX1_kilogramsBilled_12 ?_
      refine q_getS (v := .ref (ad 11)) hx hb hts hin0 hown hK hP 1 st_1 12 (by decide) lk116 (fun _ h => h) rfl dX1_kilogramsBilled_15 ?_
      refine lv_iload_n hx hb dX1_kilogramsBilled_18 rfl (lv_at hl 0 rfl) ?_
      refine q_ildN hx hb hK hP 11 8 (ar_11) k dX1_kilogramsBilled_19 rfl (by omega) (by decide) ?_
      refine q_callS (va_runS (As := [.int (R 11 k)]) (rest := [.int x1]) ⟨hx, hb, hml, hown, hts⟩ (mX1_orZero l D cI cS ad hI R F (R 11 k)) (va_cwS 1 hts gX1_kilogramsBilled_X1_orZero rfl rfl rfl (by decide +kernel) ⟨Nat.le_of_ble_eq_true rfl, Nat.le_of_ble_eq_true rfl⟩) (PW_preS hK hP) rfl rfl hl.1 rfl (lv_room (Nat.le_of_ble_eq_true rfl)) dX1_kilogramsBilled_20 ⟨Nat.zero_le _, Nat.zero_le _⟩) ?_
      refine lv_aload_n hx hb dX1_kilogramsBilled_23 rfl (lv_at hl 2 rfl) ?_
      refine q_getF (v := .ref (ad 1)) hx hb hts hin1 hown hK hP 0 (by decide) lk10 (fun _ h => h) rfl dX1_kilogramsBilled_24 ?_
      refine q_getS (v := .ref (ad 13)) hx hb hts hin0 hown hK hP 1 st_1 14 (by decide) lk126 (fun _ h => h) rfl dX1_kilogramsBilled_27 ?_
      refine lv_iload_n hx hb dX1_kilogramsBilled_30 rfl (lv_at hl 0 rfl) ?_
      refine q_ildN hx hb hK hP 13 8 (ar_13) k dX1_kilogramsBilled_31 rfl (by omega) (by decide) ?_
      refine q_callS (va_runS (As := [.int (R 13 k)]) (rest := [.int (xX1_orZero (R 11 k)), .int x1]) ⟨hx, hb, hml, hown, hts⟩ (mX1_orZero l D cI cS ad hI R F (R 13 k)) (va_cwS 1 hts gX1_kilogramsBilled_X1_orZero rfl rfl rfl (by decide +kernel) ⟨Nat.le_of_ble_eq_true rfl, Nat.le_of_ble_eq_true rfl⟩) (PW_preS hK hP) rfl rfl hl.1 rfl (lv_room (Nat.le_of_ble_eq_true rfl)) dX1_kilogramsBilled_32 ⟨Nat.zero_le _, Nat.zero_le _⟩) ?_
      refine lv_isub hx hb dX1_kilogramsBilled_35 ?_
      refine lv_iadd hx hb dX1_kilogramsBilled_36 ?_
      refine lv_istore_n (lv' := [(1, .int (x1 + ((xX1_orZero (R 11 k)) - (xX1_orZero (R 13 k))))), (2, .int (nI k)), (0, .ref (ad 0))]) hx hb dX1_kilogramsBilled_37 rfl hl (by decide) rfl (fun ls hl => ?_)
      refine lv_iinc (v := (nI (k + 1))) (lv' := [(2, .int (nI (k + 1))), (1, .int (x1 + ((xX1_orZero (R 11 k)) - (xX1_orZero (R 13 k))))), (0, .ref (ad 0))]) hx hb dX1_kilogramsBilled_38 hl (k := 1) rfl (nI_1 k) (by decide) rfl (fun ls hl => ?_)
      refine lv_goto (tgt := 4) hx hb dX1_kilogramsBilled_41 (by decide) ?_
      exact ih _ _ _ ⟨(k + 1), (x1 + ((xX1_orZero (R 11 k)) - (xX1_orZero (R 13 k)))), by omega, by rw [← hsp, hX1_kilogramsBilled_4_s], hP, rfl, rfl, lv_sub hl [0, 1, 2] rfl⟩

def xX1_kilogramsToBill (R F : Nat → Nat → Int32) (p1 : Int32) : Int32 × (Nat → Nat → Int32) :=
  ((if (0 : Int32) < (if ((((xX1_sumOfReadings ((xX1_estimateFor R F p1).2) F).1) - (xX1_sumOf ((xX1_sumOfReadings ((xX1_estimateFor R F p1).2) F).2) F 4)) - (xX1_kilogramsBilled ((xX1_sumOfReadings ((xX1_estimateFor R F p1).2) F).2) F)) < ((((xX1_estimateFor R F p1).1) * (xX1_certaintyFor ((xX1_estimateFor R F p1).2) F p1)) / (100 : Int32)) then ((((xX1_sumOfReadings ((xX1_estimateFor R F p1).2) F).1) - (xX1_sumOf ((xX1_sumOfReadings ((xX1_estimateFor R F p1).2) F).2) F 4)) - (xX1_kilogramsBilled ((xX1_sumOfReadings ((xX1_estimateFor R F p1).2) F).2) F)) else ((((xX1_estimateFor R F p1).1) * (xX1_certaintyFor ((xX1_estimateFor R F p1).2) F p1)) / (100 : Int32))) then (if ((((xX1_sumOfReadings ((xX1_estimateFor R F p1).2) F).1) - (xX1_sumOf ((xX1_sumOfReadings ((xX1_estimateFor R F p1).2) F).2) F 4)) - (xX1_kilogramsBilled ((xX1_sumOfReadings ((xX1_estimateFor R F p1).2) F).2) F)) < ((((xX1_estimateFor R F p1).1) * (xX1_certaintyFor ((xX1_estimateFor R F p1).2) F p1)) / (100 : Int32)) then ((((xX1_sumOfReadings ((xX1_estimateFor R F p1).2) F).1) - (xX1_sumOf ((xX1_sumOfReadings ((xX1_estimateFor R F p1).2) F).2) F 4)) - (xX1_kilogramsBilled ((xX1_sumOfReadings ((xX1_estimateFor R F p1).2) F).2) F)) else ((((xX1_estimateFor R F p1).1) * (xX1_certaintyFor ((xX1_estimateFor R F p1).2) F p1)) / (100 : Int32))) else (0 : Int32)), ((xX1_sumOfReadings ((xX1_estimateFor R F p1).2) F).2))
set_option maxHeartbeats 4000000 in
set_option maxRecDepth 100000 in
theorem mX1_kilogramsToBill (l : Launch) (D : va_G) (cI cS : ClassId) (ad : Nat → Nat) (hI : Inj ad) (R F : Nat → Nat → Int32) (p1 : Int32) : Met l yX1_kilogramsToBill wsX1_kilogramsToBill ({ frames := 5, cells := 0, slots := 0, locals := 117 }) (PW D cI cS ad R F [.ref (ad 0), .int p1]) (QI D cI cS ad ((xX1_kilogramsToBill R F p1).1) ((xX1_kilogramsToBill R F p1).2) F) 0 0 (AA ad) := by
  refine Met.ofW (cc := cX1_kilogramsToBill) (maxL := 4) (ret := (some .int)) (by decide) rfl ?_
  intro p e s m args below meth c s₁ B hml hv
  obtain ⟨rfl, hP, hK⟩ := hv
  have hx := B.exec
  have hb := B.bytes
  have hr := B.returns
  have hts := atoms_spec (ws := wsX1_kilogramsToBill) B.pre
  have hown : s.vm.findClass RX1 = some m.cls := findClass_of_methodNamed B.named
  have hlocks := B.notSynchronized
  have hS : va_S (AA ad) s.heap s.heap [] := va_S.rf
  have hl := lv_entry ([.ref (ad 0), .int p1]) (n := 4) (Nat.le_of_ble_eq_true rfl)
  rw [lg_entry_eq]
  generalize (lg_sl ([.ref (ad 0), .int p1]) ++ List.replicate (4 - (lg_sl ([.ref (ad 0), .int p1])).length) Slot.unset).toArray = ls at hl ⊢
  have hl : lv_has ls 4 [(0, .ref (ad 0)), (1, .int p1)] := hl
  have lk10 := hts (.fieldLink RX1 10 "FerryFloor" "now" "LFerryFloor$State;") (by decide +kernel)
  have lk62 := hts (.fieldLink RX1 62 "FerryFloor$State" "tares" "[I") (by decide +kernel)
  have hin1 : ∀ w ∈ u_ws RX1 TX1 7, w ∈ wsX1_kilogramsToBill := by decide +kernel
  have hin0 : ∀ w ∈ u_ws RX0 TX0 15, w ∈ wsX1_kilogramsToBill := by decide +kernel
  refine lv_aload_n hx hb dX1_kilogramsToBill_0 rfl (lv_at hl 0 rfl) ?_
  refine lv_iload_n hx hb dX1_kilogramsToBill_1 rfl (lv_at hl 1 rfl) ?_
  refine q_callI (va_runV (As := [.int p1]) (rest := []) ⟨hx, hb, hml, hown, hts⟩ (mX1_estimateFor l D cI cS ad hI R F p1) (cwV 1 hts gX1_kilogramsToBill_X1_estimateFor rfl rfl rfl (by decide +kernel) ⟨Nat.le_of_ble_eq_true rfl, Nat.le_of_ble_eq_true rfl⟩) (PW_preV (i := 0) (by decide) CC_0 rfl rfl hK hP) rfl rfl hl.1 rfl (lv_room (Nat.le_of_ble_eq_true rfl)) dX1_kilogramsToBill_2 ⟨Nat.zero_le _, Nat.zero_le _⟩) hS (fun H locs hP hS => ?_)
  refine lv_aload_n hx hb dX1_kilogramsToBill_5 rfl (lv_at hl 0 rfl) ?_
  refine lv_iload_n hx hb dX1_kilogramsToBill_6 rfl (lv_at hl 1 rfl) ?_
  refine q_callS (va_runV (As := [.int p1]) (rest := [.int ((xX1_estimateFor R F p1).1)]) ⟨hx, hb, hml, hown, hts⟩ (mX1_certaintyFor l D cI cS ad hI ((xX1_estimateFor R F p1).2) F p1) (cwV 1 hts gX1_kilogramsToBill_X1_certaintyFor rfl rfl rfl (by decide +kernel) ⟨Nat.le_of_ble_eq_true rfl, Nat.le_of_ble_eq_true rfl⟩) (PW_preV (i := 0) (by decide) CC_0 rfl rfl hK hP) rfl rfl hl.1 rfl (lv_room (Nat.le_of_ble_eq_true rfl)) dX1_kilogramsToBill_7 ⟨Nat.zero_le _, Nat.zero_le _⟩) ?_
  refine lv_imul hx hb dX1_kilogramsToBill_10 ?_
  refine lv_bipush (v := 100) hx hb dX1_kilogramsToBill_11 (by decide) ?_
  refine lv_idiv hx hb dX1_kilogramsToBill_13 (by decide) ?_
  refine lv_istore_n (lv' := [(2, .int ((((xX1_estimateFor R F p1).1) * (xX1_certaintyFor ((xX1_estimateFor R F p1).2) F p1)) / (100 : Int32))), (0, .ref (ad 0)), (1, .int p1)]) hx hb dX1_kilogramsToBill_14 rfl hl (by decide) rfl (fun ls hl => ?_)
  refine lv_aload_n hx hb dX1_kilogramsToBill_15 rfl (lv_at hl 1 rfl) ?_
  refine q_callI (va_runV (As := []) (rest := []) ⟨hx, hb, hml, hown, hts⟩ (mX1_sumOfReadings l D cI cS ad hI ((xX1_estimateFor R F p1).2) F) (cwV 0 hts gX1_kilogramsToBill_X1_sumOfReadings rfl rfl rfl (by decide +kernel) ⟨Nat.le_of_ble_eq_true rfl, Nat.le_of_ble_eq_true rfl⟩) (PW_preV (i := 0) (by decide) CC_0 rfl rfl hK hP) rfl rfl hl.1 rfl (lv_room (Nat.le_of_ble_eq_true rfl)) dX1_kilogramsToBill_16 ⟨Nat.zero_le _, Nat.zero_le _⟩) hS (fun H locs hP hS => ?_)
  refine lv_aload_n hx hb dX1_kilogramsToBill_19 rfl (lv_at hl 1 rfl) ?_
  refine q_getF (v := .ref (ad 1)) hx hb hts hin1 hown hK hP 0 (by decide) lk10 (fun _ h => h) rfl dX1_kilogramsToBill_20 ?_
  refine q_getS (v := .ref (ad 4)) hx hb hts hin0 hown hK hP 1 st_1 5 (by decide) lk62 (fun _ h => h) rfl dX1_kilogramsToBill_23 ?_
  refine q_callS (va_runS (As := [.ref (ad 4)]) (rest := [.int ((xX1_sumOfReadings ((xX1_estimateFor R F p1).2) F).1)]) ⟨hx, hb, hml, hown, hts⟩ (mX1_sumOf l D cI cS ad hI ((xX1_sumOfReadings ((xX1_estimateFor R F p1).2) F).2) F 4 (ar_4)) (va_cwS 1 hts gX1_kilogramsToBill_X1_sumOf rfl rfl rfl (by decide +kernel) ⟨Nat.le_of_ble_eq_true rfl, Nat.le_of_ble_eq_true rfl⟩) (PW_preS hK hP) rfl rfl hl.1 rfl (lv_room (Nat.le_of_ble_eq_true rfl)) dX1_kilogramsToBill_26 ⟨Nat.zero_le _, Nat.zero_le _⟩) ?_
  refine lv_isub hx hb dX1_kilogramsToBill_29 ?_
  refine lv_aload_n hx hb dX1_kilogramsToBill_30 rfl (lv_at hl 1 rfl) ?_
  refine q_callS (va_runV (As := []) (rest := [.int (((xX1_sumOfReadings ((xX1_estimateFor R F p1).2) F).1) - (xX1_sumOf ((xX1_sumOfReadings ((xX1_estimateFor R F p1).2) F).2) F 4))]) ⟨hx, hb, hml, hown, hts⟩ (mX1_kilogramsBilled l D cI cS ad hI ((xX1_sumOfReadings ((xX1_estimateFor R F p1).2) F).2) F) (cwV 0 hts gX1_kilogramsToBill_X1_kilogramsBilled rfl rfl rfl (by decide +kernel) ⟨Nat.le_of_ble_eq_true rfl, Nat.le_of_ble_eq_true rfl⟩) (PW_preV (i := 0) (by decide) CC_0 rfl rfl hK hP) rfl rfl hl.1 rfl (lv_room (Nat.le_of_ble_eq_true rfl)) dX1_kilogramsToBill_31 ⟨Nat.zero_le _, Nat.zero_le _⟩) ?_
  refine lv_isub hx hb dX1_kilogramsToBill_34 ?_
  refine lv_istore_n (lv' := [(3, .int ((((xX1_sumOfReadings ((xX1_estimateFor R F p1).2) F).1) - (xX1_sumOf ((xX1_sumOfReadings ((xX1_estimateFor R F p1).2) F).2) F 4)) - (xX1_kilogramsBilled ((xX1_sumOfReadings ((xX1_estimateFor R F p1).2) F).2) F))), (2, .int ((((xX1_estimateFor R F p1).1) * (xX1_certaintyFor ((xX1_estimateFor R F p1).2) F p1)) / (100 : Int32))), (0, .ref (ad 0)), (1, .int p1)]) hx hb dX1_kilogramsToBill_35 rfl hl (by decide) rfl (fun ls hl => ?_)
  refine lv_iconst (v := 0) hx hb dX1_kilogramsToBill_36 (by decide) ?_
  refine lv_iload_n hx hb dX1_kilogramsToBill_37 rfl (lv_at hl 1 rfl) ?_
  refine lv_iload_n hx hb dX1_kilogramsToBill_38 rfl (lv_at hl 0 rfl) ?_
  refine va_mmin hx hb (hml.trans hl.1.symm) hown (hts (.methodLink RX1 205 Lib.Math.min.name) (by decide +kernel)) (hts (.static Lib.Math.min.name) (by decide +kernel)) (hts (.initialized "java/lang/Math") (by decide +kernel)) (hts (.code Lib.Math.min.name Lib.Math.min.code 2 (some .int)) (by decide +kernel)) (Nat.le_of_ble_eq_true rfl) (Nat.le_of_ble_eq_true rfl) (Nat.zero_le _) (Nat.zero_le _) dX1_kilogramsToBill_39 ?_
  refine va_mmax hx hb (hml.trans hl.1.symm) hown (hts (.methodLink RX1 129 Lib.Math.max.name) (by decide +kernel)) (hts (.static Lib.Math.max.name) (by decide +kernel)) (hts (.initialized "java/lang/Math") (by decide +kernel)) (hts (.code Lib.Math.max.name Lib.Math.max.code 2 (some .int)) (by decide +kernel)) (Nat.le_of_ble_eq_true rfl) (Nat.le_of_ble_eq_true rfl) (Nat.zero_le _) (Nat.zero_le _) dX1_kilogramsToBill_42 ?_
  have hX : (xX1_kilogramsToBill R F p1) = ((if (0 : Int32) < (if ((((xX1_sumOfReadings ((xX1_estimateFor R F p1).2) F).1) - (xX1_sumOf ((xX1_sumOfReadings ((xX1_estimateFor R F p1).2) F).2) F 4)) - (xX1_kilogramsBilled ((xX1_sumOfReadings ((xX1_estimateFor R F p1).2) F).2) F)) < ((((xX1_estimateFor R F p1).1) * (xX1_certaintyFor ((xX1_estimateFor R F p1).2) F p1)) / (100 : Int32)) then ((((xX1_sumOfReadings ((xX1_estimateFor R F p1).2) F).1) - (xX1_sumOf ((xX1_sumOfReadings ((xX1_estimateFor R F p1).2) F).2) F 4)) - (xX1_kilogramsBilled ((xX1_sumOfReadings ((xX1_estimateFor R F p1).2) F).2) F)) else ((((xX1_estimateFor R F p1).1) * (xX1_certaintyFor ((xX1_estimateFor R F p1).2) F p1)) / (100 : Int32))) then (if ((((xX1_sumOfReadings ((xX1_estimateFor R F p1).2) F).1) - (xX1_sumOf ((xX1_sumOfReadings ((xX1_estimateFor R F p1).2) F).2) F 4)) - (xX1_kilogramsBilled ((xX1_sumOfReadings ((xX1_estimateFor R F p1).2) F).2) F)) < ((((xX1_estimateFor R F p1).1) * (xX1_certaintyFor ((xX1_estimateFor R F p1).2) F p1)) / (100 : Int32)) then ((((xX1_sumOfReadings ((xX1_estimateFor R F p1).2) F).1) - (xX1_sumOf ((xX1_sumOfReadings ((xX1_estimateFor R F p1).2) F).2) F 4)) - (xX1_kilogramsBilled ((xX1_sumOfReadings ((xX1_estimateFor R F p1).2) F).2) F)) else ((((xX1_estimateFor R F p1).1) * (xX1_certaintyFor ((xX1_estimateFor R F p1).2) F p1)) / (100 : Int32))) else (0 : Int32)), ((xX1_sumOfReadings ((xX1_estimateFor R F p1).2) F).2)) := by unfold xX1_kilogramsToBill; rfl
  exact W.iret (v := (if (0 : Int32) < (if ((((xX1_sumOfReadings ((xX1_estimateFor R F p1).2) F).1) - (xX1_sumOf ((xX1_sumOfReadings ((xX1_estimateFor R F p1).2) F).2) F 4)) - (xX1_kilogramsBilled ((xX1_sumOfReadings ((xX1_estimateFor R F p1).2) F).2) F)) < ((((xX1_estimateFor R F p1).1) * (xX1_certaintyFor ((xX1_estimateFor R F p1).2) F p1)) / (100 : Int32)) then ((((xX1_sumOfReadings ((xX1_estimateFor R F p1).2) F).1) - (xX1_sumOf ((xX1_sumOfReadings ((xX1_estimateFor R F p1).2) F).2) F 4)) - (xX1_kilogramsBilled ((xX1_sumOfReadings ((xX1_estimateFor R F p1).2) F).2) F)) else ((((xX1_estimateFor R F p1).1) * (xX1_certaintyFor ((xX1_estimateFor R F p1).2) F p1)) / (100 : Int32))) then (if ((((xX1_sumOfReadings ((xX1_estimateFor R F p1).2) F).1) - (xX1_sumOf ((xX1_sumOfReadings ((xX1_estimateFor R F p1).2) F).2) F 4)) - (xX1_kilogramsBilled ((xX1_sumOfReadings ((xX1_estimateFor R F p1).2) F).2) F)) < ((((xX1_estimateFor R F p1).1) * (xX1_certaintyFor ((xX1_estimateFor R F p1).2) F p1)) / (100 : Int32)) then ((((xX1_sumOfReadings ((xX1_estimateFor R F p1).2) F).1) - (xX1_sumOf ((xX1_sumOfReadings ((xX1_estimateFor R F p1).2) F).2) F 4)) - (xX1_kilogramsBilled ((xX1_sumOfReadings ((xX1_estimateFor R F p1).2) F).2) F)) else ((((xX1_estimateFor R F p1).1) * (xX1_certaintyFor ((xX1_estimateFor R F p1).2) F p1)) / (100 : Int32))) else (0 : Int32))) hx hb hr (fun t ht hW => ⟨by rw [hX], by rw [hX, ht]; with_reducible exact hP, hS.F ht⟩) hS.2.2 dX1_kilogramsToBill_45

def xX1_billAmount (R F : Nat → Nat → Int32) (p1 : Int32) : Int32 :=
  (if (xX1_isWalker R F p1) = (0 : Int32) then (0 : Int32) else ((xX1_orZero (R 11 (p1).toNatClampNeg)) * (R 12 (p1).toNatClampNeg)))
set_option maxHeartbeats 4000000 in
set_option maxRecDepth 100000 in
theorem mX1_billAmount (l : Launch) (D : va_G) (cI cS : ClassId) (ad : Nat → Nat) (hI : Inj ad) (R F : Nat → Nat → Int32) (p1 : Int32) : Met l yX1_billAmount wsX1_billAmount ({ frames := 1, cells := 0, slots := 0, locals := 21 }) (PW D cI cS ad R F [.ref (ad 0), .int p1]) (QS (xX1_billAmount R F p1)) 0 0 (fun _ => False) := by
  refine Met.ofW (cc := cX1_billAmount) (maxL := 2) (ret := (some .int)) (by decide) rfl ?_
  intro p e s m args below meth c s₁ B hml hv
  obtain ⟨rfl, hP, hK⟩ := hv
  have hx := B.exec
  have hb := B.bytes
  have hr := B.returns
  have hts := atoms_spec (ws := wsX1_billAmount) B.pre
  have hown : s.vm.findClass RX1 = some m.cls := findClass_of_methodNamed B.named
  have hlocks := B.notSynchronized
  have hS : va_S (AA ad) s.heap s.heap [] := va_S.rf
  have hl := lv_entry ([.ref (ad 0), .int p1]) (n := 2) (Nat.le_of_ble_eq_true rfl)
  rw [lg_entry_eq]
  generalize (lg_sl ([.ref (ad 0), .int p1]) ++ List.replicate (2 - (lg_sl ([.ref (ad 0), .int p1])).length) Slot.unset).toArray = ls at hl ⊢
  have hl : lv_has ls 2 [(0, .ref (ad 0)), (1, .int p1)] := hl
  have lk10 := hts (.fieldLink RX1 10 "FerryFloor" "now" "LFerryFloor$State;") (by decide +kernel)
  have lk116 := hts (.fieldLink RX1 116 "FerryFloor$State" "billKilograms" "[I") (by decide +kernel)
  have lk123 := hts (.fieldLink RX1 123 "FerryFloor$State" "billPrices" "[I") (by decide +kernel)
  have hin1 : ∀ w ∈ u_ws RX1 TX1 7, w ∈ wsX1_billAmount := by decide +kernel
  have hin0 : ∀ w ∈ u_ws RX0 TX0 15, w ∈ wsX1_billAmount := by decide +kernel
  refine lv_aload_n hx hb dX1_billAmount_0 rfl (lv_at hl 0 rfl) ?_
  refine lv_iload_n hx hb dX1_billAmount_1 rfl (lv_at hl 1 rfl) ?_
  refine q_callS (va_runV (As := [.int p1]) (rest := []) ⟨hx, hb, hml, hown, hts⟩ (mX1_isWalker l D cI cS ad hI R F p1) (cwV 1 hts gX1_billAmount_X1_isWalker rfl rfl rfl (by decide +kernel) ⟨Nat.le_of_ble_eq_true rfl, Nat.le_of_ble_eq_true rfl⟩) (PW_preV (i := 0) (by decide) CC_0 rfl rfl hK hP) rfl rfl hl.1 rfl (lv_room (Nat.le_of_ble_eq_true rfl)) dX1_billAmount_2 ⟨Nat.zero_le _, Nat.zero_le _⟩) ?_
  refine lv_if_eq (tgt := 33) hx hb dX1_billAmount_5 (by decide) (fun c_5 => ?_) (fun c_5 => ?_)
  · refine lv_iconst (v := 0) hx hb dX1_billAmount_33 (by decide) ?_
    have hX : (xX1_billAmount R F p1) = (0 : Int32) := by unfold xX1_billAmount; rw [if_pos c_5]
    exact W.iret (v := (0 : Int32)) hx hb hr (fun t ht hW => ⟨by rw [hX], ht⟩) (fun _ h => by cases h) dX1_billAmount_34
  · refine lv_aload_n hx hb dX1_billAmount_8 rfl (lv_at hl 0 rfl) ?_
    refine q_getF (v := .ref (ad 1)) hx hb hts hin1 hown hK hP 0 (by decide) lk10 (fun _ h => h) rfl dX1_billAmount_9 ?_
    refine q_getS (v := .ref (ad 11)) hx hb hts hin0 hown hK hP 1 st_1 12 (by decide) lk116 (fun _ h => h) rfl dX1_billAmount_12 ?_
    refine lv_iload_n hx hb dX1_billAmount_15 rfl (lv_at hl 1 rfl) ?_
    refine q_ild hx hb hK hP 11 8 (ar_11) dX1_billAmount_16 (by first | assumption | exact isCell_in (by assumption) | exact isWalker_in (by assumption) | exact isAboard_in (by assumption) | exact isPair_in1 (by assumption) | exact isPair_in2 (by assumption) | exact isWithin7_in (by assumption) | exact vp_in_nI (by omega) (by decide)) ?_
    refine q_callS (va_runS (As := [.int (R 11 (p1).toNatClampNeg)]) (rest := []) ⟨hx, hb, hml, hown, hts⟩ (mX1_orZero l D cI cS ad hI R F (R 11 (p1).toNatClampNeg)) (va_cwS 1 hts gX1_billAmount_X1_orZero rfl rfl rfl (by decide +kernel) ⟨Nat.le_of_ble_eq_true rfl, Nat.le_of_ble_eq_true rfl⟩) (PW_preS hK hP) rfl rfl hl.1 rfl (lv_room (Nat.le_of_ble_eq_true rfl)) dX1_billAmount_17 ⟨Nat.zero_le _, Nat.zero_le _⟩) ?_
    refine lv_aload_n hx hb dX1_billAmount_20 rfl (lv_at hl 0 rfl) ?_
    refine q_getF (v := .ref (ad 1)) hx hb hts hin1 hown hK hP 0 (by decide) lk10 (fun _ h => h) rfl dX1_billAmount_21 ?_
    refine q_getS (v := .ref (ad 12)) hx hb hts hin0 hown hK hP 1 st_1 13 (by decide) lk123 (fun _ h => h) rfl dX1_billAmount_24 ?_
    refine lv_iload_n hx hb dX1_billAmount_27 rfl (lv_at hl 1 rfl) ?_
    refine q_ild hx hb hK hP 12 8 (ar_12) dX1_billAmount_28 (by first | assumption | exact isCell_in (by assumption) | exact isWalker_in (by assumption) | exact isAboard_in (by assumption) | exact isPair_in1 (by assumption) | exact isPair_in2 (by assumption) | exact isWithin7_in (by assumption) | exact vp_in_nI (by omega) (by decide)) ?_
    refine lv_imul hx hb dX1_billAmount_29 ?_
    refine lv_goto (tgt := 34) hx hb dX1_billAmount_30 (by decide) ?_
    have hX : (xX1_billAmount R F p1) = ((xX1_orZero (R 11 (p1).toNatClampNeg)) * (R 12 (p1).toNatClampNeg)) := by unfold xX1_billAmount; rw [if_neg c_5]
    exact W.iret (v := ((xX1_orZero (R 11 (p1).toNatClampNeg)) * (R 12 (p1).toNatClampNeg))) hx hb hr (fun t ht hW => ⟨by rw [hX], ht⟩) (fun _ h => by cases h) dX1_billAmount_34

def xX1_backAmount (R F : Nat → Nat → Int32) (p1 : Int32) : Int32 :=
  (if (xX1_isWalker R F p1) = (0 : Int32) then (0 : Int32) else ((xX1_orZero (R 13 (p1).toNatClampNeg)) * (R 12 (p1).toNatClampNeg)))
set_option maxHeartbeats 4000000 in
set_option maxRecDepth 100000 in
theorem mX1_backAmount (l : Launch) (D : va_G) (cI cS : ClassId) (ad : Nat → Nat) (hI : Inj ad) (R F : Nat → Nat → Int32) (p1 : Int32) : Met l yX1_backAmount wsX1_backAmount ({ frames := 1, cells := 0, slots := 0, locals := 21 }) (PW D cI cS ad R F [.ref (ad 0), .int p1]) (QS (xX1_backAmount R F p1)) 0 0 (fun _ => False) := by
  refine Met.ofW (cc := cX1_backAmount) (maxL := 2) (ret := (some .int)) (by decide) rfl ?_
  intro p e s m args below meth c s₁ B hml hv
  obtain ⟨rfl, hP, hK⟩ := hv
  have hx := B.exec
  have hb := B.bytes
  have hr := B.returns
  have hts := atoms_spec (ws := wsX1_backAmount) B.pre
  have hown : s.vm.findClass RX1 = some m.cls := findClass_of_methodNamed B.named
  have hlocks := B.notSynchronized
  have hS : va_S (AA ad) s.heap s.heap [] := va_S.rf
  have hl := lv_entry ([.ref (ad 0), .int p1]) (n := 2) (Nat.le_of_ble_eq_true rfl)
  rw [lg_entry_eq]
  generalize (lg_sl ([.ref (ad 0), .int p1]) ++ List.replicate (2 - (lg_sl ([.ref (ad 0), .int p1])).length) Slot.unset).toArray = ls at hl ⊢
  have hl : lv_has ls 2 [(0, .ref (ad 0)), (1, .int p1)] := hl
  have lk10 := hts (.fieldLink RX1 10 "FerryFloor" "now" "LFerryFloor$State;") (by decide +kernel)
  have lk126 := hts (.fieldLink RX1 126 "FerryFloor$State" "backKilograms" "[I") (by decide +kernel)
  have lk123 := hts (.fieldLink RX1 123 "FerryFloor$State" "billPrices" "[I") (by decide +kernel)
  have hin1 : ∀ w ∈ u_ws RX1 TX1 7, w ∈ wsX1_backAmount := by decide +kernel
  have hin0 : ∀ w ∈ u_ws RX0 TX0 15, w ∈ wsX1_backAmount := by decide +kernel
  refine lv_aload_n hx hb dX1_backAmount_0 rfl (lv_at hl 0 rfl) ?_
  refine lv_iload_n hx hb dX1_backAmount_1 rfl (lv_at hl 1 rfl) ?_
  refine q_callS (va_runV (As := [.int p1]) (rest := []) ⟨hx, hb, hml, hown, hts⟩ (mX1_isWalker l D cI cS ad hI R F p1) (cwV 1 hts gX1_backAmount_X1_isWalker rfl rfl rfl (by decide +kernel) ⟨Nat.le_of_ble_eq_true rfl, Nat.le_of_ble_eq_true rfl⟩) (PW_preV (i := 0) (by decide) CC_0 rfl rfl hK hP) rfl rfl hl.1 rfl (lv_room (Nat.le_of_ble_eq_true rfl)) dX1_backAmount_2 ⟨Nat.zero_le _, Nat.zero_le _⟩) ?_
  refine lv_if_eq (tgt := 33) hx hb dX1_backAmount_5 (by decide) (fun c_5 => ?_) (fun c_5 => ?_)
  · refine lv_iconst (v := 0) hx hb dX1_backAmount_33 (by decide) ?_
    have hX : (xX1_backAmount R F p1) = (0 : Int32) := by unfold xX1_backAmount; rw [if_pos c_5]
    exact W.iret (v := (0 : Int32)) hx hb hr (fun t ht hW => ⟨by rw [hX], ht⟩) (fun _ h => by cases h) dX1_backAmount_34
  · refine lv_aload_n hx hb dX1_backAmount_8 rfl (lv_at hl 0 rfl) ?_
    refine q_getF (v := .ref (ad 1)) hx hb hts hin1 hown hK hP 0 (by decide) lk10 (fun _ h => h) rfl dX1_backAmount_9 ?_
    refine q_getS (v := .ref (ad 13)) hx hb hts hin0 hown hK hP 1 st_1 14 (by decide) lk126 (fun _ h => h) rfl dX1_backAmount_12 ?_
    refine lv_iload_n hx hb dX1_backAmount_15 rfl (lv_at hl 1 rfl) ?_
    refine q_ild hx hb hK hP 13 8 (ar_13) dX1_backAmount_16 (by first | assumption | exact isCell_in (by assumption) | exact isWalker_in (by assumption) | exact isAboard_in (by assumption) | exact isPair_in1 (by assumption) | exact isPair_in2 (by assumption) | exact isWithin7_in (by assumption) | exact vp_in_nI (by omega) (by decide)) ?_
    refine q_callS (va_runS (As := [.int (R 13 (p1).toNatClampNeg)]) (rest := []) ⟨hx, hb, hml, hown, hts⟩ (mX1_orZero l D cI cS ad hI R F (R 13 (p1).toNatClampNeg)) (va_cwS 1 hts gX1_backAmount_X1_orZero rfl rfl rfl (by decide +kernel) ⟨Nat.le_of_ble_eq_true rfl, Nat.le_of_ble_eq_true rfl⟩) (PW_preS hK hP) rfl rfl hl.1 rfl (lv_room (Nat.le_of_ble_eq_true rfl)) dX1_backAmount_17 ⟨Nat.zero_le _, Nat.zero_le _⟩) ?_
    refine lv_aload_n hx hb dX1_backAmount_20 rfl (lv_at hl 0 rfl) ?_
    refine q_getF (v := .ref (ad 1)) hx hb hts hin1 hown hK hP 0 (by decide) lk10 (fun _ h => h) rfl dX1_backAmount_21 ?_
    refine q_getS (v := .ref (ad 12)) hx hb hts hin0 hown hK hP 1 st_1 13 (by decide) lk123 (fun _ h => h) rfl dX1_backAmount_24 ?_
    refine lv_iload_n hx hb dX1_backAmount_27 rfl (lv_at hl 1 rfl) ?_
    refine q_ild hx hb hK hP 12 8 (ar_12) dX1_backAmount_28 (by first | assumption | exact isCell_in (by assumption) | exact isWalker_in (by assumption) | exact isAboard_in (by assumption) | exact isPair_in1 (by assumption) | exact isPair_in2 (by assumption) | exact isWithin7_in (by assumption) | exact vp_in_nI (by omega) (by decide)) ?_
    refine lv_imul hx hb dX1_backAmount_29 ?_
    refine lv_goto (tgt := 34) hx hb dX1_backAmount_30 (by decide) ?_
    have hX : (xX1_backAmount R F p1) = ((xX1_orZero (R 13 (p1).toNatClampNeg)) * (R 12 (p1).toNatClampNeg)) := by unfold xX1_backAmount; rw [if_neg c_5]
    exact W.iret (v := ((xX1_orZero (R 13 (p1).toNatClampNeg)) * (R 12 (p1).toNatClampNeg))) hx hb hr (fun t ht hW => ⟨by rw [hX], ht⟩) (fun _ h => by cases h) dX1_backAmount_34

def hX1_sumOfBillAmounts_4 (R F : Nat → Nat → Int32) : Nat → Nat → Int32 → Int32
  | 0, k, x1 => x1
  | n + 1, k, x1 => (hX1_sumOfBillAmounts_4 R F n (k + 1) (x1 + (xX1_billAmount R F (nI k))))
theorem hX1_sumOfBillAmounts_4_z (R F : Nat → Nat → Int32) (k : Nat) (x1 : Int32) : hX1_sumOfBillAmounts_4 R F 0 k x1 = x1 := rfl
theorem hX1_sumOfBillAmounts_4_s (R F : Nat → Nat → Int32) (n : Nat) (k : Nat) (x1 : Int32) : hX1_sumOfBillAmounts_4 R F (n + 1) k x1 = (hX1_sumOfBillAmounts_4 R F n (k + 1) (x1 + (xX1_billAmount R F (nI k)))) := rfl
def xX1_sumOfBillAmounts (R F : Nat → Nat → Int32) : Int32 :=
  (hX1_sumOfBillAmounts_4 R F 8 0 (0 : Int32))
set_option maxHeartbeats 4000000 in
set_option maxRecDepth 100000 in
theorem mX1_sumOfBillAmounts (l : Launch) (D : va_G) (cI cS : ClassId) (ad : Nat → Nat) (hI : Inj ad) (R F : Nat → Nat → Int32)  : Met l yX1_sumOfBillAmounts wsX1_sumOfBillAmounts ({ frames := 2, cells := 0, slots := 0, locals := 42 }) (PW D cI cS ad R F [.ref (ad 0)]) (QS (xX1_sumOfBillAmounts R F)) 0 0 (fun _ => False) := by
  refine Met.ofW (cc := cX1_sumOfBillAmounts) (maxL := 3) (ret := (some .int)) (by decide) rfl ?_
  intro p e s m args below meth c s₁ B hml hv
  obtain ⟨rfl, hP, hK⟩ := hv
  have hx := B.exec
  have hb := B.bytes
  have hr := B.returns
  have hts := atoms_spec (ws := wsX1_sumOfBillAmounts) B.pre
  have hown : s.vm.findClass RX1 = some m.cls := findClass_of_methodNamed B.named
  have hlocks := B.notSynchronized
  have hS : va_S (AA ad) s.heap s.heap [] := va_S.rf
  have hl := lv_entry ([.ref (ad 0)]) (n := 3) (Nat.le_of_ble_eq_true rfl)
  rw [lg_entry_eq]
  generalize (lg_sl ([.ref (ad 0)]) ++ List.replicate (3 - (lg_sl ([.ref (ad 0)])).length) Slot.unset).toArray = ls at hl ⊢
  have hl : lv_has ls 3 [(0, .ref (ad 0))] := hl
  refine lv_iconst (v := 0) hx hb dX1_sumOfBillAmounts_0 (by decide) ?_
  refine lv_istore_n (lv' := [(1, .int (0 : Int32)), (0, .ref (ad 0))]) hx hb dX1_sumOfBillAmounts_1 rfl hl (by decide) rfl (fun ls hl => ?_)
  refine lv_iconst (v := 0) hx hb dX1_sumOfBillAmounts_2 (by decide) ?_
  refine lv_istore_n (lv' := [(2, .int (0 : Int32)), (1, .int (0 : Int32)), (0, .ref (ad 0))]) hx hb dX1_sumOfBillAmounts_3 rfl hl (by decide) rfl (fun ls hl => ?_)
  refine q_loop (fun nn H locs ls => ∃ (k : Nat) (x1 : Int32), k + nn = 8 ∧ hX1_sumOfBillAmounts_4 R F nn k x1 = (xX1_sumOfBillAmounts R F) ∧ WP D cI cS ad R F H ∧ locs = [] ∧ H = s.heap ∧ lv_has ls 3 [(2, .int (nI k)), (1, .int x1), (0, .ref (ad 0))]) 8 ⟨0, (0 : Int32), by omega, by unfold xX1_sumOfBillAmounts; rfl, hP, rfl, rfl, lv_sub hl [0, 1, 2] rfl⟩ ?_ ?_
  · intro H locs ls hz
    obtain ⟨k, x1, hkn, hsp, hP, rfl, rfl, hl⟩ := hz
    refine lv_iload_n hx hb dX1_sumOfBillAmounts_4 rfl (lv_at hl 0 rfl) ?_
    refine lv_bipush (v := 8) hx hb dX1_sumOfBillAmounts_5 (by decide) ?_
    refine lv_icmp_ge (tgt := 24) hx hb dX1_sumOfBillAmounts_7 (by decide) (fun c_7 => ?_) (fun c_7 => ?_)
    · refine lv_iload_n hx hb dX1_sumOfBillAmounts_24 rfl (lv_at hl 1 rfl) ?_
      have hX : (xX1_sumOfBillAmounts R F) = x1 := by rw [← hsp, hX1_sumOfBillAmounts_4_z]
      exact W.iret (v := x1) hx hb hr (fun t ht hW => ⟨by rw [hX], ht⟩) (fun _ h => by cases h) dX1_sumOfBillAmounts_25
    · exact absurd (nI_le (a := 8) (b := k) (by omega) (by omega)) c_7
  · intro n ih H locs ls hz
    obtain ⟨k, x1, hkn, hsp, hP, rfl, rfl, hl⟩ := hz
    refine lv_iload_n hx hb dX1_sumOfBillAmounts_4 rfl (lv_at hl 0 rfl) ?_
    refine lv_bipush (v := 8) hx hb dX1_sumOfBillAmounts_5 (by decide) ?_
    refine lv_icmp_ge (tgt := 24) hx hb dX1_sumOfBillAmounts_7 (by decide) (fun c_7 => ?_) (fun c_7 => ?_)
    · exact absurd c_7 (nI_ge (a := k) (b := 8) (by omega) (by omega))
    · refine lv_iload_n hx hb dX1_sumOfBillAmounts_10 rfl (lv_at hl 1 rfl) ?_
      refine lv_aload_n hx hb dX1_sumOfBillAmounts_11 rfl (lv_at hl 2 rfl) ?_
      refine lv_iload_n hx hb dX1_sumOfBillAmounts_12 rfl (lv_at hl 0 rfl) ?_
      refine q_callS (va_runV (As := [.int (nI k)]) (rest := [.int x1]) ⟨hx, hb, hml, hown, hts⟩ (mX1_billAmount l D cI cS ad hI R F (nI k)) (cwV 1 hts gX1_sumOfBillAmounts_X1_billAmount rfl rfl rfl (by decide +kernel) ⟨Nat.le_of_ble_eq_true rfl, Nat.le_of_ble_eq_true rfl⟩) (PW_preV (i := 0) (by decide) CC_0 rfl rfl hK hP) rfl rfl hl.1 rfl (lv_room (Nat.le_of_ble_eq_true rfl)) dX1_sumOfBillAmounts_13 ⟨Nat.zero_le _, Nat.zero_le _⟩) ?_
      refine lv_iadd hx hb dX1_sumOfBillAmounts_16 ?_
      refine lv_istore_n (lv' := [(1, .int (x1 + (xX1_billAmount R F (nI k)))), (2, .int (nI k)), (0, .ref (ad 0))]) hx hb dX1_sumOfBillAmounts_17 rfl hl (by decide) rfl (fun ls hl => ?_)
      refine lv_iinc (v := (nI (k + 1))) (lv' := [(2, .int (nI (k + 1))), (1, .int (x1 + (xX1_billAmount R F (nI k)))), (0, .ref (ad 0))]) hx hb dX1_sumOfBillAmounts_18 hl (k := 1) rfl (nI_1 k) (by decide) rfl (fun ls hl => ?_)
      refine lv_goto (tgt := 4) hx hb dX1_sumOfBillAmounts_21 (by decide) ?_
      exact ih _ _ _ ⟨(k + 1), (x1 + (xX1_billAmount R F (nI k))), by omega, by rw [← hsp, hX1_sumOfBillAmounts_4_s], hP, rfl, rfl, lv_sub hl [0, 1, 2] rfl⟩

def hX1_sumOfBackAmounts_4 (R F : Nat → Nat → Int32) : Nat → Nat → Int32 → Int32
  | 0, k, x1 => x1
  | n + 1, k, x1 => (hX1_sumOfBackAmounts_4 R F n (k + 1) (x1 + (xX1_backAmount R F (nI k))))
theorem hX1_sumOfBackAmounts_4_z (R F : Nat → Nat → Int32) (k : Nat) (x1 : Int32) : hX1_sumOfBackAmounts_4 R F 0 k x1 = x1 := rfl
theorem hX1_sumOfBackAmounts_4_s (R F : Nat → Nat → Int32) (n : Nat) (k : Nat) (x1 : Int32) : hX1_sumOfBackAmounts_4 R F (n + 1) k x1 = (hX1_sumOfBackAmounts_4 R F n (k + 1) (x1 + (xX1_backAmount R F (nI k)))) := rfl
def xX1_sumOfBackAmounts (R F : Nat → Nat → Int32) : Int32 :=
  (hX1_sumOfBackAmounts_4 R F 8 0 (0 : Int32))
set_option maxHeartbeats 4000000 in
set_option maxRecDepth 100000 in
theorem mX1_sumOfBackAmounts (l : Launch) (D : va_G) (cI cS : ClassId) (ad : Nat → Nat) (hI : Inj ad) (R F : Nat → Nat → Int32)  : Met l yX1_sumOfBackAmounts wsX1_sumOfBackAmounts ({ frames := 2, cells := 0, slots := 0, locals := 42 }) (PW D cI cS ad R F [.ref (ad 0)]) (QS (xX1_sumOfBackAmounts R F)) 0 0 (fun _ => False) := by
  refine Met.ofW (cc := cX1_sumOfBackAmounts) (maxL := 3) (ret := (some .int)) (by decide) rfl ?_
  intro p e s m args below meth c s₁ B hml hv
  obtain ⟨rfl, hP, hK⟩ := hv
  have hx := B.exec
  have hb := B.bytes
  have hr := B.returns
  have hts := atoms_spec (ws := wsX1_sumOfBackAmounts) B.pre
  have hown : s.vm.findClass RX1 = some m.cls := findClass_of_methodNamed B.named
  have hlocks := B.notSynchronized
  have hS : va_S (AA ad) s.heap s.heap [] := va_S.rf
  have hl := lv_entry ([.ref (ad 0)]) (n := 3) (Nat.le_of_ble_eq_true rfl)
  rw [lg_entry_eq]
  generalize (lg_sl ([.ref (ad 0)]) ++ List.replicate (3 - (lg_sl ([.ref (ad 0)])).length) Slot.unset).toArray = ls at hl ⊢
  have hl : lv_has ls 3 [(0, .ref (ad 0))] := hl
  refine lv_iconst (v := 0) hx hb dX1_sumOfBackAmounts_0 (by decide) ?_
  refine lv_istore_n (lv' := [(1, .int (0 : Int32)), (0, .ref (ad 0))]) hx hb dX1_sumOfBackAmounts_1 rfl hl (by decide) rfl (fun ls hl => ?_)
  refine lv_iconst (v := 0) hx hb dX1_sumOfBackAmounts_2 (by decide) ?_
  refine lv_istore_n (lv' := [(2, .int (0 : Int32)), (1, .int (0 : Int32)), (0, .ref (ad 0))]) hx hb dX1_sumOfBackAmounts_3 rfl hl (by decide) rfl (fun ls hl => ?_)
  refine q_loop (fun nn H locs ls => ∃ (k : Nat) (x1 : Int32), k + nn = 8 ∧ hX1_sumOfBackAmounts_4 R F nn k x1 = (xX1_sumOfBackAmounts R F) ∧ WP D cI cS ad R F H ∧ locs = [] ∧ H = s.heap ∧ lv_has ls 3 [(2, .int (nI k)), (1, .int x1), (0, .ref (ad 0))]) 8 ⟨0, (0 : Int32), by omega, by unfold xX1_sumOfBackAmounts; rfl, hP, rfl, rfl, lv_sub hl [0, 1, 2] rfl⟩ ?_ ?_
  · intro H locs ls hz
    obtain ⟨k, x1, hkn, hsp, hP, rfl, rfl, hl⟩ := hz
    refine lv_iload_n hx hb dX1_sumOfBackAmounts_4 rfl (lv_at hl 0 rfl) ?_
    refine lv_bipush (v := 8) hx hb dX1_sumOfBackAmounts_5 (by decide) ?_
    refine lv_icmp_ge (tgt := 24) hx hb dX1_sumOfBackAmounts_7 (by decide) (fun c_7 => ?_) (fun c_7 => ?_)
    · refine lv_iload_n hx hb dX1_sumOfBackAmounts_24 rfl (lv_at hl 1 rfl) ?_
      have hX : (xX1_sumOfBackAmounts R F) = x1 := by rw [← hsp, hX1_sumOfBackAmounts_4_z]
      exact W.iret (v := x1) hx hb hr (fun t ht hW => ⟨by rw [hX], ht⟩) (fun _ h => by cases h) dX1_sumOfBackAmounts_25
    · exact absurd (nI_le (a := 8) (b := k) (by omega) (by omega)) c_7
  · intro n ih H locs ls hz
    obtain ⟨k, x1, hkn, hsp, hP, rfl, rfl, hl⟩ := hz
    refine lv_iload_n hx hb dX1_sumOfBackAmounts_4 rfl (lv_at hl 0 rfl) ?_
    refine lv_bipush (v := 8) hx hb dX1_sumOfBackAmounts_5 (by decide) ?_
    refine lv_icmp_ge (tgt := 24) hx hb dX1_sumOfBackAmounts_7 (by decide) (fun c_7 => ?_) (fun c_7 => ?_)
    · exact absurd c_7 (nI_ge (a := k) (b := 8) (by omega) (by omega))
    · refine lv_iload_n hx hb dX1_sumOfBackAmounts_10 rfl (lv_at hl 1 rfl) ?_
      refine lv_aload_n hx hb dX1_sumOfBackAmounts_11 rfl (lv_at hl 2 rfl) ?_
      refine lv_iload_n hx hb dX1_sumOfBackAmounts_12 rfl (lv_at hl 0 rfl) ?_
      refine q_callS (va_runV (As := [.int (nI k)]) (rest := [.int x1]) ⟨hx, hb, hml, hown, hts⟩ (mX1_backAmount l D cI cS ad hI R F (nI k)) (cwV 1 hts gX1_sumOfBackAmounts_X1_backAmount rfl rfl rfl (by decide +kernel) ⟨Nat.le_of_ble_eq_true rfl, Nat.le_of_ble_eq_true rfl⟩) (PW_preV (i := 0) (by decide) CC_0 rfl rfl hK hP) rfl rfl hl.1 rfl (lv_room (Nat.le_of_ble_eq_true rfl)) dX1_sumOfBackAmounts_13 ⟨Nat.zero_le _, Nat.zero_le _⟩) ?_
      refine lv_iadd hx hb dX1_sumOfBackAmounts_16 ?_
      refine lv_istore_n (lv' := [(1, .int (x1 + (xX1_backAmount R F (nI k)))), (2, .int (nI k)), (0, .ref (ad 0))]) hx hb dX1_sumOfBackAmounts_17 rfl hl (by decide) rfl (fun ls hl => ?_)
      refine lv_iinc (v := (nI (k + 1))) (lv' := [(2, .int (nI (k + 1))), (1, .int (x1 + (xX1_backAmount R F (nI k)))), (0, .ref (ad 0))]) hx hb dX1_sumOfBackAmounts_18 hl (k := 1) rfl (nI_1 k) (by decide) rfl (fun ls hl => ?_)
      refine lv_goto (tgt := 4) hx hb dX1_sumOfBackAmounts_21 (by decide) ?_
      exact ih _ _ _ ⟨(k + 1), (x1 + (xX1_backAmount R F (nI k))), by omega, by rw [← hsp, hX1_sumOfBackAmounts_4_s], hP, rfl, rfl, lv_sub hl [0, 1, 2] rfl⟩

