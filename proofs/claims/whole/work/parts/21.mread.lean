def hX2_shares_4 (s : Nat → Int32) (p1 : Int32) (kw : Nat) : Nat → Nat → Int32 → Int32
  | 0, k, x2 => x2
  | n + 1, k, x2 => (if (xX2_isAboard s k) = (0 : Int32) then (hX2_shares_4 s p1 kw n (k + 1) (x2 + (0 : Int32))) else (hX2_shares_4 s p1 kw n (k + 1) (x2 + (xX2_share (xX2_ofWalker s k 0) (xX2_ofWalker s k 1) p1))))
theorem hX2_shares_4_z (s : Nat → Int32) (p1 : Int32) (kw : Nat) (k : Nat) (x2 : Int32) : hX2_shares_4 s p1 kw 0 k x2 = x2 := rfl
theorem hX2_shares_4_s (s : Nat → Int32) (p1 : Int32) (kw : Nat) (n : Nat) (k : Nat) (x2 : Int32) : hX2_shares_4 s p1 kw (n + 1) k x2 = (if (xX2_isAboard s k) = (0 : Int32) then (hX2_shares_4 s p1 kw n (k + 1) (x2 + (0 : Int32))) else (hX2_shares_4 s p1 kw n (k + 1) (x2 + (xX2_share (xX2_ofWalker s k 0) (xX2_ofWalker s k 1) p1)))) := rfl
def xX2_shares (s : Nat → Int32) (p1 : Int32) (kw : Nat) : Int32 :=
  (hX2_shares_4 s p1 kw kw 0 (0 : Int32))
set_option maxHeartbeats 4000000 in
set_option maxRecDepth 100000 in
theorem mX2_shares (l : Launch) (D : va_G) (cI cS : ClassId) (ad : Nat → Nat) (hI : Inj ad) (R F : Nat → Nat → Int32) (p1 : Int32) (kw : Nat) (hkw : kw ≤ 8) (hW : R 84 1 = nI kw) : Met l yX2_shares wsX2_shares ({ frames := 3, cells := 0, slots := 0, locals := 66 }) (PW D cI cS ad R F [.ref (ad 83), .int p1]) (QS (xX2_shares (R 84) p1 kw)) 0 0 (fun _ => False) := by
  refine Met.ofW (cc := cX2_shares) (maxL := 4) (ret := (some .int)) (by decide) rfl ?_
  intro p e s m args below meth c s₁ B hml hv
  obtain ⟨rfl, hP, hK⟩ := hv
  have hx := B.exec
  have hb := B.bytes
  have hr := B.returns
  have hts := atoms_spec (ws := wsX2_shares) B.pre
  have hown : s.vm.findClass RX2 = some m.cls := findClass_of_methodNamed B.named
  have hlocks := B.notSynchronized
  have hS : va_S (AA ad) s.heap s.heap [] := va_S.rf
  have hl := lv_entry ([.ref (ad 83), .int p1]) (n := 4) (Nat.le_of_ble_eq_true rfl)
  rw [lg_entry_eq]
  generalize (lg_sl ([.ref (ad 83), .int p1]) ++ List.replicate (4 - (lg_sl ([.ref (ad 83), .int p1])).length) Slot.unset).toArray = ls at hl ⊢
  have hl : lv_has ls 4 [(0, .ref (ad 83)), (1, .int p1)] := hl
  have lk7 := hts (.fieldLink RX2 7 "FerryFloorModel" "s" "[I") (by decide +kernel)
  have hin2 : ∀ w ∈ u_ws RX2 TX2 5, w ∈ wsX2_shares := by decide +kernel
  refine lv_iconst (v := 0) hx hb dX2_shares_0 (by decide) ?_
  refine lv_istore_n (lv' := [(2, .int (0 : Int32)), (0, .ref (ad 83)), (1, .int p1)]) hx hb dX2_shares_1 rfl hl (by decide) rfl (fun ls hl => ?_)
  refine lv_iconst (v := 0) hx hb dX2_shares_2 (by decide) ?_
  refine lv_istore_n (lv' := [(3, .int (0 : Int32)), (2, .int (0 : Int32)), (0, .ref (ad 83)), (1, .int p1)]) hx hb dX2_shares_3 rfl hl (by decide) rfl (fun ls hl => ?_)
  refine q_loop (fun nn H locs ls => ∃ (k : Nat) (x2 : Int32), k + nn = kw ∧ hX2_shares_4 (R 84) p1 kw nn k x2 = (xX2_shares (R 84) p1 kw) ∧ WP D cI cS ad R F H ∧ locs = [] ∧ H = s.heap ∧ lv_has ls 4 [(3, .int (nI k)), (2, .int x2), (0, .ref (ad 83)), (1, .int p1)]) kw ⟨0, (0 : Int32), by omega, by unfold xX2_shares; rfl, hP, rfl, rfl, lv_sub hl [0, 1, 2, 3] rfl⟩ ?_ ?_
  · intro H locs ls hz
    obtain ⟨k, x2, hkn, hsp, hP, rfl, rfl, hl⟩ := hz
    refine lv_iload_n hx hb dX2_shares_4 rfl (lv_at hl 0 rfl) ?_
    refine lv_aload_n hx hb dX2_shares_5 rfl (lv_at hl 2 rfl) ?_
    refine q_getM (v := .ref (ad 84)) hx hb hts hin2 hown hK hP 0 (by decide) lk7 (fun _ h => h) rfl dX2_shares_6 ?_
    refine lv_iconst (v := 1) hx hb dX2_shares_9 (by decide) ?_
    refine q_ildN hx hb hK hP 84 182 (ar_84) 1 dX2_shares_10 rfl (by omega) (by decide) ?_
    refine q_top (y := (nI kw)) hW ?_
    refine lv_icmp_ge (tgt := 51) hx hb dX2_shares_11 (by decide) (fun c_11 => ?_) (fun c_11 => ?_)
    · refine lv_iload_n hx hb dX2_shares_51 rfl (lv_at hl 1 rfl) ?_
      have hX : (xX2_shares (R 84) p1 kw) = x2 := by rw [← hsp, hX2_shares_4_z]
      exact W.iret (v := x2) hx hb hr (fun t ht hW => ⟨by rw [hX], ht⟩) (fun _ h => by cases h) dX2_shares_52
    · exact absurd (nI_le (a := kw) (b := k) (by omega) (by omega)) c_11
  · intro n ih H locs ls hz
    obtain ⟨k, x2, hkn, hsp, hP, rfl, rfl, hl⟩ := hz
    refine lv_iload_n hx hb dX2_shares_4 rfl (lv_at hl 0 rfl) ?_
    refine lv_aload_n hx hb dX2_shares_5 rfl (lv_at hl 2 rfl) ?_
    refine q_getM (v := .ref (ad 84)) hx hb hts hin2 hown hK hP 0 (by decide) lk7 (fun _ h => h) rfl dX2_shares_6 ?_
    refine lv_iconst (v := 1) hx hb dX2_shares_9 (by decide) ?_
    refine q_ildN hx hb hK hP 84 182 (ar_84) 1 dX2_shares_10 rfl (by omega) (by decide) ?_
    refine q_top (y := (nI kw)) hW ?_
    refine lv_icmp_ge (tgt := 51) hx hb dX2_shares_11 (by decide) (fun c_11 => ?_) (fun c_11 => ?_)
    · exact absurd c_11 (nI_ge (a := k) (b := kw) (by omega) (by omega))
    · refine lv_iload_n hx hb dX2_shares_14 rfl (lv_at hl 1 rfl) ?_
      refine lv_aload_n hx hb dX2_shares_15 rfl (lv_at hl 2 rfl) ?_
      refine lv_iload_n hx hb dX2_shares_16 rfl (lv_at hl 0 rfl) ?_
      refine q_callS (va_runV (As := [.int (nI k)]) (rest := [.int x2]) ⟨hx, hb, hml, hown, hts⟩ (mX2_isAboard l D cI cS ad hI R F k (by omega)) (cwV 1 hts gX2_shares_X2_isAboard rfl rfl rfl (by decide +kernel) ⟨Nat.le_of_ble_eq_true rfl, Nat.le_of_ble_eq_true rfl⟩) (PW_preV (i := 83) (by decide) CC_83 rfl rfl hK hP) rfl rfl hl.1 rfl (lv_room (Nat.le_of_ble_eq_true rfl)) dX2_shares_17 ⟨Nat.zero_le _, Nat.zero_le _⟩) ?_
      refine lv_if_eq (tgt := 42) hx hb dX2_shares_20 (by decide) (fun c_20 => ?_) (fun c_20 => ?_)
      · refine lv_iconst (v := 0) hx hb dX2_shares_42 (by decide) ?_
        refine lv_iadd hx hb dX2_shares_43 ?_
        refine lv_istore_n (lv' := [(2, .int (x2 + (0 : Int32))), (3, .int (nI k)), (0, .ref (ad 83)), (1, .int p1)]) hx hb dX2_shares_44 rfl hl (by decide) rfl (fun ls hl => ?_)
        refine lv_iinc (v := (nI (k + 1))) (lv' := [(3, .int (nI (k + 1))), (2, .int (x2 + (0 : Int32))), (0, .ref (ad 83)), (1, .int p1)]) hx hb dX2_shares_45 hl (k := 1) rfl (nI_1 k) (by decide) rfl (fun ls hl => ?_)
        refine lv_goto (tgt := 4) hx hb dX2_shares_48 (by decide) ?_
        exact ih _ _ _ ⟨(k + 1), (x2 + (0 : Int32)), by omega, by rw [← hsp, hX2_shares_4_s, if_pos c_20], hP, rfl, rfl, lv_sub hl [0, 1, 2, 3] rfl⟩
      · refine lv_aload_n hx hb dX2_shares_23 rfl (lv_at hl 2 rfl) ?_
        refine lv_iload_n hx hb dX2_shares_24 rfl (lv_at hl 0 rfl) ?_
        refine lv_iconst (v := 0) hx hb dX2_shares_25 (by decide) ?_
        refine q_callS (va_runV (As := [.int (nI k), .int (nI 0)]) (rest := [.int x2]) ⟨hx, hb, hml, hown, hts⟩ (mX2_ofWalker l D cI cS ad hI R F k 0 (by omega)) (cwV 2 hts gX2_shares_X2_ofWalker rfl rfl rfl (by decide +kernel) ⟨Nat.le_of_ble_eq_true rfl, Nat.le_of_ble_eq_true rfl⟩) (PW_preV (i := 83) (by decide) CC_83 rfl rfl hK hP) rfl rfl hl.1 rfl (lv_room (Nat.le_of_ble_eq_true rfl)) dX2_shares_26 ⟨Nat.zero_le _, Nat.zero_le _⟩) ?_
        refine lv_aload_n hx hb dX2_shares_29 rfl (lv_at hl 2 rfl) ?_
        refine lv_iload_n hx hb dX2_shares_30 rfl (lv_at hl 0 rfl) ?_
        refine lv_iconst (v := 1) hx hb dX2_shares_31 (by decide) ?_
        refine q_callS (va_runV (As := [.int (nI k), .int (nI 1)]) (rest := [.int (xX2_ofWalker (R 84) k 0), .int x2]) ⟨hx, hb, hml, hown, hts⟩ (mX2_ofWalker l D cI cS ad hI R F k 1 (by omega)) (cwV 2 hts gX2_shares_X2_ofWalker rfl rfl rfl (by decide +kernel) ⟨Nat.le_of_ble_eq_true rfl, Nat.le_of_ble_eq_true rfl⟩) (PW_preV (i := 83) (by decide) CC_83 rfl rfl hK hP) rfl rfl hl.1 rfl (lv_room (Nat.le_of_ble_eq_true rfl)) dX2_shares_32 ⟨Nat.zero_le _, Nat.zero_le _⟩) ?_
        refine lv_iload_n hx hb dX2_shares_35 rfl (lv_at hl 3 rfl) ?_
        refine q_callS (va_runS (As := [.int (xX2_ofWalker (R 84) k 0), .int (xX2_ofWalker (R 84) k 1), .int p1]) (rest := [.int x2]) ⟨hx, hb, hml, hown, hts⟩ (mX2_share l D cI cS ad hI R F (xX2_ofWalker (R 84) k 0) (xX2_ofWalker (R 84) k 1) p1) (va_cwS 3 hts gX2_shares_X2_share rfl rfl rfl (by decide +kernel) ⟨Nat.le_of_ble_eq_true rfl, Nat.le_of_ble_eq_true rfl⟩) (PW_preS hK hP) rfl rfl hl.1 rfl (lv_room (Nat.le_of_ble_eq_true rfl)) dX2_shares_36 ⟨Nat.zero_le _, Nat.zero_le _⟩) ?_
        refine lv_goto (tgt := 43) hx hb dX2_shares_39 (by decide) ?_
        refine lv_iadd hx hb dX2_shares_43 ?_
        refine lv_istore_n (lv' := [(2, .int (x2 + (xX2_share (xX2_ofWalker (R 84) k 0) (xX2_ofWalker (R 84) k 1) p1))), (3, .int (nI k)), (0, .ref (ad 83)), (1, .int p1)]) hx hb dX2_shares_44 rfl hl (by decide) rfl (fun ls hl => ?_)
        refine lv_iinc (v := (nI (k + 1))) (lv' := [(3, .int (nI (k + 1))), (2, .int (x2 + (xX2_share (xX2_ofWalker (R 84) k 0) (xX2_ofWalker (R 84) k 1) p1))), (0, .ref (ad 83)), (1, .int p1)]) hx hb dX2_shares_45 hl (k := 1) rfl (nI_1 k) (by decide) rfl (fun ls hl => ?_)
        refine lv_goto (tgt := 4) hx hb dX2_shares_48 (by decide) ?_
        exact ih _ _ _ ⟨(k + 1), (x2 + (xX2_share (xX2_ofWalker (R 84) k 0) (xX2_ofWalker (R 84) k 1) p1)), by omega, by rw [← hsp, hX2_shares_4_s, if_neg c_20], hP, rfl, rfl, lv_sub hl [0, 1, 2, 3] rfl⟩

def xX2_reading (s : Nat → Int32) (w1 : Nat) (kw : Nat) : Int32 :=
  ((xX2_shares s (nI w1) kw) + (xX2_of s w1 0))
set_option maxHeartbeats 4000000 in
set_option maxRecDepth 100000 in
theorem mX2_reading (l : Launch) (D : va_G) (cI cS : ClassId) (ad : Nat → Nat) (hI : Inj ad) (R F : Nat → Nat → Int32) (w1 : Nat) (kw : Nat) (h1 : w1 < 24) (hkw : kw ≤ 8) (hW : R 84 1 = nI kw) : Met l yX2_reading wsX2_reading ({ frames := 4, cells := 0, slots := 0, locals := 89 }) (PW D cI cS ad R F [.ref (ad 83), .int (nI w1)]) (QS (xX2_reading (R 84) w1 kw)) 0 0 (fun _ => False) := by
  refine Met.ofW (cc := cX2_reading) (maxL := 2) (ret := (some .int)) (by decide) rfl ?_
  intro p e s m args below meth c s₁ B hml hv
  obtain ⟨rfl, hP, hK⟩ := hv
  have hx := B.exec
  have hb := B.bytes
  have hr := B.returns
  have hts := atoms_spec (ws := wsX2_reading) B.pre
  have hown : s.vm.findClass RX2 = some m.cls := findClass_of_methodNamed B.named
  have hlocks := B.notSynchronized
  have hS : va_S (AA ad) s.heap s.heap [] := va_S.rf
  have hl := lv_entry ([.ref (ad 83), .int (nI w1)]) (n := 2) (Nat.le_of_ble_eq_true rfl)
  rw [lg_entry_eq]
  generalize (lg_sl ([.ref (ad 83), .int (nI w1)]) ++ List.replicate (2 - (lg_sl ([.ref (ad 83), .int (nI w1)])).length) Slot.unset).toArray = ls at hl ⊢
  have hl : lv_has ls 2 [(0, .ref (ad 83)), (1, .int (nI w1))] := hl
  refine lv_aload_n hx hb dX2_reading_0 rfl (lv_at hl 0 rfl) ?_
  refine lv_iload_n hx hb dX2_reading_1 rfl (lv_at hl 1 rfl) ?_
  refine q_callS (va_runV (As := [.int (nI w1)]) (rest := []) ⟨hx, hb, hml, hown, hts⟩ (mX2_shares l D cI cS ad hI R F (nI w1) kw hkw hW) (cwV 1 hts gX2_reading_X2_shares rfl rfl rfl (by decide +kernel) ⟨Nat.le_of_ble_eq_true rfl, Nat.le_of_ble_eq_true rfl⟩) (PW_preV (i := 83) (by decide) CC_83 rfl rfl hK hP) rfl rfl hl.1 rfl (lv_room (Nat.le_of_ble_eq_true rfl)) dX2_reading_2 ⟨Nat.zero_le _, Nat.zero_le _⟩) ?_
  refine lv_aload_n hx hb dX2_reading_5 rfl (lv_at hl 0 rfl) ?_
  refine lv_iload_n hx hb dX2_reading_6 rfl (lv_at hl 1 rfl) ?_
  refine lv_iconst (v := 0) hx hb dX2_reading_7 (by decide) ?_
  refine q_callS (va_runV (As := [.int (nI w1), .int (nI 0)]) (rest := [.int (xX2_shares (R 84) (nI w1) kw)]) ⟨hx, hb, hml, hown, hts⟩ (mX2_of l D cI cS ad hI R F w1 0 (by omega)) (cwV 2 hts gX2_reading_X2_of rfl rfl rfl (by decide +kernel) ⟨Nat.le_of_ble_eq_true rfl, Nat.le_of_ble_eq_true rfl⟩) (PW_preV (i := 83) (by decide) CC_83 rfl rfl hK hP) rfl rfl hl.1 rfl (lv_room (Nat.le_of_ble_eq_true rfl)) dX2_reading_8 ⟨Nat.zero_le _, Nat.zero_le _⟩) ?_
  refine lv_iadd hx hb dX2_reading_11 ?_
  have hX : (xX2_reading (R 84) w1 kw) = ((xX2_shares (R 84) (nI w1) kw) + (xX2_of (R 84) w1 0)) := by unfold xX2_reading; rfl
  exact W.iret (v := ((xX2_shares (R 84) (nI w1) kw) + (xX2_of (R 84) w1 0))) hx hb hr (fun t ht hW => ⟨by rw [hX], ht⟩) (fun _ h => by cases h) dX2_reading_12

def hX2_booked_5 (s : Nat → Int32) (p1 : Int32) (p2 : Int32) (kw : Nat) : Nat → Nat → Int32 → Int32
  | 0, k, x3 => x3
  | n + 1, k, x3 => (if (xX2_isAboard s k) = (0 : Int32) then (hX2_booked_5 s p1 p2 kw n (k + 1) (x3 + (0 : Int32))) else (if (nI k) = p2 then (hX2_booked_5 s p1 p2 kw n (k + 1) (x3 + (0 : Int32))) else (hX2_booked_5 s p1 p2 kw n (k + 1) (x3 + (xX2_share (xX2_ofWalker s k 2) (xX2_ofWalker s k 3) p1)))))
theorem hX2_booked_5_z (s : Nat → Int32) (p1 : Int32) (p2 : Int32) (kw : Nat) (k : Nat) (x3 : Int32) : hX2_booked_5 s p1 p2 kw 0 k x3 = x3 := rfl
theorem hX2_booked_5_s (s : Nat → Int32) (p1 : Int32) (p2 : Int32) (kw : Nat) (n : Nat) (k : Nat) (x3 : Int32) : hX2_booked_5 s p1 p2 kw (n + 1) k x3 = (if (xX2_isAboard s k) = (0 : Int32) then (hX2_booked_5 s p1 p2 kw n (k + 1) (x3 + (0 : Int32))) else (if (nI k) = p2 then (hX2_booked_5 s p1 p2 kw n (k + 1) (x3 + (0 : Int32))) else (hX2_booked_5 s p1 p2 kw n (k + 1) (x3 + (xX2_share (xX2_ofWalker s k 2) (xX2_ofWalker s k 3) p1))))) := rfl
def xX2_booked (s : Nat → Int32) (p1 : Int32) (p2 : Int32) (kw : Nat) : Int32 :=
  (hX2_booked_5 s p1 p2 kw kw 0 (0 : Int32))
set_option maxHeartbeats 4000000 in
set_option maxRecDepth 100000 in
theorem mX2_booked (l : Launch) (D : va_G) (cI cS : ClassId) (ad : Nat → Nat) (hI : Inj ad) (R F : Nat → Nat → Int32) (p1 : Int32) (p2 : Int32) (kw : Nat) (hkw : kw ≤ 8) (hW : R 84 1 = nI kw) : Met l yX2_booked wsX2_booked ({ frames := 3, cells := 0, slots := 0, locals := 66 }) (PW D cI cS ad R F [.ref (ad 83), .int p1, .int p2]) (QS (xX2_booked (R 84) p1 p2 kw)) 0 0 (fun _ => False) := by
  refine Met.ofW (cc := cX2_booked) (maxL := 5) (ret := (some .int)) (by decide) rfl ?_
  intro p e s m args below meth c s₁ B hml hv
  obtain ⟨rfl, hP, hK⟩ := hv
  have hx := B.exec
  have hb := B.bytes
  have hr := B.returns
  have hts := atoms_spec (ws := wsX2_booked) B.pre
  have hown : s.vm.findClass RX2 = some m.cls := findClass_of_methodNamed B.named
  have hlocks := B.notSynchronized
  have hS : va_S (AA ad) s.heap s.heap [] := va_S.rf
  have hl := lv_entry ([.ref (ad 83), .int p1, .int p2]) (n := 5) (Nat.le_of_ble_eq_true rfl)
  rw [lg_entry_eq]
  generalize (lg_sl ([.ref (ad 83), .int p1, .int p2]) ++ List.replicate (5 - (lg_sl ([.ref (ad 83), .int p1, .int p2])).length) Slot.unset).toArray = ls at hl ⊢
  have hl : lv_has ls 5 [(0, .ref (ad 83)), (1, .int p1), (2, .int p2)] := hl
  have lk7 := hts (.fieldLink RX2 7 "FerryFloorModel" "s" "[I") (by decide +kernel)
  have hin2 : ∀ w ∈ u_ws RX2 TX2 5, w ∈ wsX2_booked := by decide +kernel
  refine lv_iconst (v := 0) hx hb dX2_booked_0 (by decide) ?_
  refine lv_istore_n (lv' := [(3, .int (0 : Int32)), (0, .ref (ad 83)), (1, .int p1), (2, .int p2)]) hx hb dX2_booked_1 rfl hl (by decide) rfl (fun ls hl => ?_)
  refine lv_iconst (v := 0) hx hb dX2_booked_2 (by decide) ?_
  refine lv_istore (lv' := [(4, .int (0 : Int32)), (3, .int (0 : Int32)), (0, .ref (ad 83)), (1, .int p1), (2, .int p2)]) hx hb dX2_booked_3 hl (by decide) rfl (fun ls hl => ?_)
  refine q_loop (fun nn H locs ls => ∃ (k : Nat) (x3 : Int32), k + nn = kw ∧ hX2_booked_5 (R 84) p1 p2 kw nn k x3 = (xX2_booked (R 84) p1 p2 kw) ∧ WP D cI cS ad R F H ∧ locs = [] ∧ H = s.heap ∧ lv_has ls 5 [(4, .int (nI k)), (3, .int x3), (0, .ref (ad 83)), (1, .int p1), (2, .int p2)]) kw ⟨0, (0 : Int32), by omega, by unfold xX2_booked; rfl, hP, rfl, rfl, lv_sub hl [0, 1, 2, 3, 4] rfl⟩ ?_ ?_
  · intro H locs ls hz
    obtain ⟨k, x3, hkn, hsp, hP, rfl, rfl, hl⟩ := hz
    refine lv_iload hx hb dX2_booked_5 (lv_at hl 0 rfl) ?_
    refine lv_aload_n hx hb dX2_booked_7 rfl (lv_at hl 2 rfl) ?_
    refine q_getM (v := .ref (ad 84)) hx hb hts hin2 hown hK hP 0 (by decide) lk7 (fun _ h => h) rfl dX2_booked_8 ?_
    refine lv_iconst (v := 1) hx hb dX2_booked_11 (by decide) ?_
    refine q_ildN hx hb hK hP 84 182 (ar_84) 1 dX2_booked_12 rfl (by omega) (by decide) ?_
    refine q_top (y := (nI kw)) hW ?_
    refine lv_icmp_ge (tgt := 62) hx hb dX2_booked_13 (by decide) (fun c_13 => ?_) (fun c_13 => ?_)
    · refine lv_iload_n hx hb dX2_booked_62 rfl (lv_at hl 1 rfl) ?_
      have hX : (xX2_booked (R 84) p1 p2 kw) = x3 := by rw [← hsp, hX2_booked_5_z]
      exact W.iret (v := x3) hx hb hr (fun t ht hW => ⟨by rw [hX], ht⟩) (fun _ h => by cases h) dX2_booked_63
    · exact absurd (nI_le (a := kw) (b := k) (by omega) (by omega)) c_13
  · intro n ih H locs ls hz
    obtain ⟨k, x3, hkn, hsp, hP, rfl, rfl, hl⟩ := hz
    refine lv_iload hx hb dX2_booked_5 (lv_at hl 0 rfl) ?_
    refine lv_aload_n hx hb dX2_booked_7 rfl (lv_at hl 2 rfl) ?_
    refine q_getM (v := .ref (ad 84)) hx hb hts hin2 hown hK hP 0 (by decide) lk7 (fun _ h => h) rfl dX2_booked_8 ?_
    refine lv_iconst (v := 1) hx hb dX2_booked_11 (by decide) ?_
    refine q_ildN hx hb hK hP 84 182 (ar_84) 1 dX2_booked_12 rfl (by omega) (by decide) ?_
    refine q_top (y := (nI kw)) hW ?_
    refine lv_icmp_ge (tgt := 62) hx hb dX2_booked_13 (by decide) (fun c_13 => ?_) (fun c_13 => ?_)
    · exact absurd c_13 (nI_ge (a := k) (b := kw) (by omega) (by omega))
    · refine lv_iload_n hx hb dX2_booked_16 rfl (lv_at hl 1 rfl) ?_
      refine lv_aload_n hx hb dX2_booked_17 rfl (lv_at hl 2 rfl) ?_
      refine lv_iload hx hb dX2_booked_18 (lv_at hl 0 rfl) ?_
      refine q_callS (va_runV (As := [.int (nI k)]) (rest := [.int x3]) ⟨hx, hb, hml, hown, hts⟩ (mX2_isAboard l D cI cS ad hI R F k (by omega)) (cwV 1 hts gX2_booked_X2_isAboard rfl rfl rfl (by decide +kernel) ⟨Nat.le_of_ble_eq_true rfl, Nat.le_of_ble_eq_true rfl⟩) (PW_preV (i := 83) (by decide) CC_83 rfl rfl hK hP) rfl rfl hl.1 rfl (lv_room (Nat.le_of_ble_eq_true rfl)) dX2_booked_20 ⟨Nat.zero_le _, Nat.zero_le _⟩) ?_
      refine lv_if_eq (tgt := 53) hx hb dX2_booked_23 (by decide) (fun c_23 => ?_) (fun c_23 => ?_)
      · refine lv_iconst (v := 0) hx hb dX2_booked_53 (by decide) ?_
        refine lv_iadd hx hb dX2_booked_54 ?_
        refine lv_istore_n (lv' := [(3, .int (x3 + (0 : Int32))), (4, .int (nI k)), (0, .ref (ad 83)), (1, .int p1), (2, .int p2)]) hx hb dX2_booked_55 rfl hl (by decide) rfl (fun ls hl => ?_)
        refine lv_iinc (v := (nI (k + 1))) (lv' := [(4, .int (nI (k + 1))), (3, .int (x3 + (0 : Int32))), (0, .ref (ad 83)), (1, .int p1), (2, .int p2)]) hx hb dX2_booked_56 hl (k := 1) rfl (nI_1 k) (by decide) rfl (fun ls hl => ?_)
        refine lv_goto (tgt := 5) hx hb dX2_booked_59 (by decide) ?_
        exact ih _ _ _ ⟨(k + 1), (x3 + (0 : Int32)), by omega, by rw [← hsp, hX2_booked_5_s, if_pos c_23], hP, rfl, rfl, lv_sub hl [0, 1, 2, 3, 4] rfl⟩
      · refine lv_iload hx hb dX2_booked_26 (lv_at hl 0 rfl) ?_
        refine lv_iload_n hx hb dX2_booked_28 rfl (lv_at hl 4 rfl) ?_
        refine lv_icmp_eq (tgt := 53) hx hb dX2_booked_29 (by decide) (fun c_29 => ?_) (fun c_29 => ?_)
        · refine lv_iconst (v := 0) hx hb dX2_booked_53 (by decide) ?_
          refine lv_iadd hx hb dX2_booked_54 ?_
          refine lv_istore_n (lv' := [(3, .int (x3 + (0 : Int32))), (4, .int (nI k)), (0, .ref (ad 83)), (1, .int p1), (2, .int p2)]) hx hb dX2_booked_55 rfl hl (by decide) rfl (fun ls hl => ?_)
          refine lv_iinc (v := (nI (k + 1))) (lv' := [(4, .int (nI (k + 1))), (3, .int (x3 + (0 : Int32))), (0, .ref (ad 83)), (1, .int p1), (2, .int p2)]) hx hb dX2_booked_56 hl (k := 1) rfl (nI_1 k) (by decide) rfl (fun ls hl => ?_)
          refine lv_goto (tgt := 5) hx hb dX2_booked_59 (by decide) ?_
          exact ih _ _ _ ⟨(k + 1), (x3 + (0 : Int32)), by omega, by rw [← hsp, hX2_booked_5_s, if_neg c_23, if_pos c_29], hP, rfl, rfl, lv_sub hl [0, 1, 2, 3, 4] rfl⟩
        · refine lv_aload_n hx hb dX2_booked_32 rfl (lv_at hl 2 rfl) ?_
          refine lv_iload hx hb dX2_booked_33 (lv_at hl 0 rfl) ?_
          refine lv_iconst (v := 2) hx hb dX2_booked_35 (by decide) ?_
          refine q_callS (va_runV (As := [.int (nI k), .int (nI 2)]) (rest := [.int x3]) ⟨hx, hb, hml, hown, hts⟩ (mX2_ofWalker l D cI cS ad hI R F k 2 (by omega)) (cwV 2 hts gX2_booked_X2_ofWalker rfl rfl rfl (by decide +kernel) ⟨Nat.le_of_ble_eq_true rfl, Nat.le_of_ble_eq_true rfl⟩) (PW_preV (i := 83) (by decide) CC_83 rfl rfl hK hP) rfl rfl hl.1 rfl (lv_room (Nat.le_of_ble_eq_true rfl)) dX2_booked_36 ⟨Nat.zero_le _, Nat.zero_le _⟩) ?_
          refine lv_aload_n hx hb dX2_booked_39 rfl (lv_at hl 2 rfl) ?_
          refine lv_iload hx hb dX2_booked_40 (lv_at hl 0 rfl) ?_
          refine lv_iconst (v := 3) hx hb dX2_booked_42 (by decide) ?_
          refine q_callS (va_runV (As := [.int (nI k), .int (nI 3)]) (rest := [.int (xX2_ofWalker (R 84) k 2), .int x3]) ⟨hx, hb, hml, hown, hts⟩ (mX2_ofWalker l D cI cS ad hI R F k 3 (by omega)) (cwV 2 hts gX2_booked_X2_ofWalker rfl rfl rfl (by decide +kernel) ⟨Nat.le_of_ble_eq_true rfl, Nat.le_of_ble_eq_true rfl⟩) (PW_preV (i := 83) (by decide) CC_83 rfl rfl hK hP) rfl rfl hl.1 rfl (lv_room (Nat.le_of_ble_eq_true rfl)) dX2_booked_43 ⟨Nat.zero_le _, Nat.zero_le _⟩) ?_
          refine lv_iload_n hx hb dX2_booked_46 rfl (lv_at hl 3 rfl) ?_
          refine q_callS (va_runS (As := [.int (xX2_ofWalker (R 84) k 2), .int (xX2_ofWalker (R 84) k 3), .int p1]) (rest := [.int x3]) ⟨hx, hb, hml, hown, hts⟩ (mX2_share l D cI cS ad hI R F (xX2_ofWalker (R 84) k 2) (xX2_ofWalker (R 84) k 3) p1) (va_cwS 3 hts gX2_booked_X2_share rfl rfl rfl (by decide +kernel) ⟨Nat.le_of_ble_eq_true rfl, Nat.le_of_ble_eq_true rfl⟩) (PW_preS hK hP) rfl rfl hl.1 rfl (lv_room (Nat.le_of_ble_eq_true rfl)) dX2_booked_47 ⟨Nat.zero_le _, Nat.zero_le _⟩) ?_
          refine lv_goto (tgt := 54) hx hb dX2_booked_50 (by decide) ?_
          refine lv_iadd hx hb dX2_booked_54 ?_
          refine lv_istore_n (lv' := [(3, .int (x3 + (xX2_share (xX2_ofWalker (R 84) k 2) (xX2_ofWalker (R 84) k 3) p1))), (4, .int (nI k)), (0, .ref (ad 83)), (1, .int p1), (2, .int p2)]) hx hb dX2_booked_55 rfl hl (by decide) rfl (fun ls hl => ?_)
          refine lv_iinc (v := (nI (k + 1))) (lv' := [(4, .int (nI (k + 1))), (3, .int (x3 + (xX2_share (xX2_ofWalker (R 84) k 2) (xX2_ofWalker (R 84) k 3) p1))), (0, .ref (ad 83)), (1, .int p1), (2, .int p2)]) hx hb dX2_booked_56 hl (k := 1) rfl (nI_1 k) (by decide) rfl (fun ls hl => ?_)
          refine lv_goto (tgt := 5) hx hb dX2_booked_59 (by decide) ?_
          exact ih _ _ _ ⟨(k + 1), (x3 + (xX2_share (xX2_ofWalker (R 84) k 2) (xX2_ofWalker (R 84) k 3) p1)), by omega, by rw [← hsp, hX2_booked_5_s, if_neg c_23, if_neg c_29], hP, rfl, rfl, lv_sub hl [0, 1, 2, 3, 4] rfl⟩

def xX2_expected (s : Nat → Int32) (w1 : Nat) (kw : Nat) : Int32 :=
  ((xX2_booked s (nI w1) (-100009 : Int32) kw) + (xX2_of s w1 2))
set_option maxHeartbeats 4000000 in
set_option maxRecDepth 100000 in
theorem mX2_expected (l : Launch) (D : va_G) (cI cS : ClassId) (ad : Nat → Nat) (hI : Inj ad) (R F : Nat → Nat → Int32) (w1 : Nat) (kw : Nat) (h1 : w1 < 24) (hkw : kw ≤ 8) (hW : R 84 1 = nI kw) : Met l yX2_expected wsX2_expected ({ frames := 4, cells := 0, slots := 0, locals := 90 }) (PW D cI cS ad R F [.ref (ad 83), .int (nI w1)]) (QS (xX2_expected (R 84) w1 kw)) 0 0 (fun _ => False) := by
  refine Met.ofW (cc := cX2_expected) (maxL := 2) (ret := (some .int)) (by decide) rfl ?_
  intro p e s m args below meth c s₁ B hml hv
  obtain ⟨rfl, hP, hK⟩ := hv
  have hx := B.exec
  have hb := B.bytes
  have hr := B.returns
  have hts := atoms_spec (ws := wsX2_expected) B.pre
  have hown : s.vm.findClass RX2 = some m.cls := findClass_of_methodNamed B.named
  have hlocks := B.notSynchronized
  have hS : va_S (AA ad) s.heap s.heap [] := va_S.rf
  have hl := lv_entry ([.ref (ad 83), .int (nI w1)]) (n := 2) (Nat.le_of_ble_eq_true rfl)
  rw [lg_entry_eq]
  generalize (lg_sl ([.ref (ad 83), .int (nI w1)]) ++ List.replicate (2 - (lg_sl ([.ref (ad 83), .int (nI w1)])).length) Slot.unset).toArray = ls at hl ⊢
  have hl : lv_has ls 2 [(0, .ref (ad 83)), (1, .int (nI w1))] := hl
  have lk31 := hts (.constant RX2 31 (-100009)) (by decide +kernel)
  refine lv_aload_n hx hb dX2_expected_0 rfl (lv_at hl 0 rfl) ?_
  refine lv_iload_n hx hb dX2_expected_1 rfl (lv_at hl 1 rfl) ?_
  refine lv_ldc (v := -100009) hx hb hown lk31 dX2_expected_2 ?_
  refine q_callS (va_runV (As := [.int (nI w1), .int (-100009 : Int32)]) (rest := []) ⟨hx, hb, hml, hown, hts⟩ (mX2_booked l D cI cS ad hI R F (nI w1) (-100009 : Int32) kw hkw hW) (cwV 2 hts gX2_expected_X2_booked rfl rfl rfl (by decide +kernel) ⟨Nat.le_of_ble_eq_true rfl, Nat.le_of_ble_eq_true rfl⟩) (PW_preV (i := 83) (by decide) CC_83 rfl rfl hK hP) rfl rfl hl.1 rfl (lv_room (Nat.le_of_ble_eq_true rfl)) dX2_expected_4 ⟨Nat.zero_le _, Nat.zero_le _⟩) ?_
  refine lv_aload_n hx hb dX2_expected_7 rfl (lv_at hl 0 rfl) ?_
  refine lv_iload_n hx hb dX2_expected_8 rfl (lv_at hl 1 rfl) ?_
  refine lv_iconst (v := 2) hx hb dX2_expected_9 (by decide) ?_
  refine q_callS (va_runV (As := [.int (nI w1), .int (nI 2)]) (rest := [.int (xX2_booked (R 84) (nI w1) (-100009 : Int32) kw)]) ⟨hx, hb, hml, hown, hts⟩ (mX2_of l D cI cS ad hI R F w1 2 (by omega)) (cwV 2 hts gX2_expected_X2_of rfl rfl rfl (by decide +kernel) ⟨Nat.le_of_ble_eq_true rfl, Nat.le_of_ble_eq_true rfl⟩) (PW_preV (i := 83) (by decide) CC_83 rfl rfl hK hP) rfl rfl hl.1 rfl (lv_room (Nat.le_of_ble_eq_true rfl)) dX2_expected_10 ⟨Nat.zero_le _, Nat.zero_le _⟩) ?_
  refine lv_iadd hx hb dX2_expected_13 ?_
  have hX : (xX2_expected (R 84) w1 kw) = ((xX2_booked (R 84) (nI w1) (-100009 : Int32) kw) + (xX2_of (R 84) w1 2)) := by unfold xX2_expected; rfl
  exact W.iret (v := ((xX2_booked (R 84) (nI w1) (-100009 : Int32) kw) + (xX2_of (R 84) w1 2))) hx hb hr (fun t ht hW => ⟨by rw [hX], ht⟩) (fun _ h => by cases h) dX2_expected_14

def hX2_error_4 (s : Nat → Int32) (kw : Nat) : Nat → Nat → Int32 → Int32
  | 0, k, x1 => x1
  | n + 1, k, x1 => (if (0 : Int32) ≤ ((xX2_reading s k kw) - (xX2_expected s k kw)) then (hX2_error_4 s kw n (k + 1) (x1 + ((xX2_reading s k kw) - (xX2_expected s k kw)))) else (hX2_error_4 s kw n (k + 1) (x1 + (-((xX2_reading s k kw) - (xX2_expected s k kw))))))
theorem hX2_error_4_z (s : Nat → Int32) (kw : Nat) (k : Nat) (x1 : Int32) : hX2_error_4 s kw 0 k x1 = x1 := rfl
theorem hX2_error_4_s (s : Nat → Int32) (kw : Nat) (n : Nat) (k : Nat) (x1 : Int32) : hX2_error_4 s kw (n + 1) k x1 = (if (0 : Int32) ≤ ((xX2_reading s k kw) - (xX2_expected s k kw)) then (hX2_error_4 s kw n (k + 1) (x1 + ((xX2_reading s k kw) - (xX2_expected s k kw)))) else (hX2_error_4 s kw n (k + 1) (x1 + (-((xX2_reading s k kw) - (xX2_expected s k kw)))))) := rfl
def xX2_error (s : Nat → Int32) (kw : Nat) : Int32 :=
  (hX2_error_4 s kw 24 0 (0 : Int32))
set_option maxHeartbeats 4000000 in
set_option maxRecDepth 100000 in
theorem mX2_error (l : Launch) (D : va_G) (cI cS : ClassId) (ad : Nat → Nat) (hI : Inj ad) (R F : Nat → Nat → Int32) (kw : Nat) (hkw : kw ≤ 8) (hW : R 84 1 = nI kw) : Met l yX2_error wsX2_error ({ frames := 5, cells := 0, slots := 0, locals := 111 }) (PW D cI cS ad R F [.ref (ad 83)]) (QS (xX2_error (R 84) kw)) 0 0 (fun _ => False) := by
  refine Met.ofW (cc := cX2_error) (maxL := 4) (ret := (some .int)) (by decide) rfl ?_
  intro p e s m args below meth c s₁ B hml hv
  obtain ⟨rfl, hP, hK⟩ := hv
  have hx := B.exec
  have hb := B.bytes
  have hr := B.returns
  have hts := atoms_spec (ws := wsX2_error) B.pre
  have hown : s.vm.findClass RX2 = some m.cls := findClass_of_methodNamed B.named
  have hlocks := B.notSynchronized
  have hS : va_S (AA ad) s.heap s.heap [] := va_S.rf
  have hl := lv_entry ([.ref (ad 83)]) (n := 4) (Nat.le_of_ble_eq_true rfl)
  rw [lg_entry_eq]
  generalize (lg_sl ([.ref (ad 83)]) ++ List.replicate (4 - (lg_sl ([.ref (ad 83)])).length) Slot.unset).toArray = ls at hl ⊢
  have hl : lv_has ls 4 [(0, .ref (ad 83))] := hl
  refine lv_iconst (v := 0) hx hb dX2_error_0 (by decide) ?_
  refine lv_istore_n (lv' := [(1, .int (0 : Int32)), (0, .ref (ad 83))]) hx hb dX2_error_1 rfl hl (by decide) rfl (fun ls hl => ?_)
  refine lv_iconst (v := 0) hx hb dX2_error_2 (by decide) ?_
  refine lv_istore_n (lv' := [(2, .int (0 : Int32)), (1, .int (0 : Int32)), (0, .ref (ad 83))]) hx hb dX2_error_3 rfl hl (by decide) rfl (fun ls hl => ?_)
  refine q_loop (fun nn H locs ls => ∃ (k : Nat) (x1 : Int32), k + nn = 24 ∧ hX2_error_4 (R 84) kw nn k x1 = (xX2_error (R 84) kw) ∧ WP D cI cS ad R F H ∧ locs = [] ∧ H = s.heap ∧ lv_has ls 4 [(2, .int (nI k)), (1, .int x1), (0, .ref (ad 83))]) 24 ⟨0, (0 : Int32), by omega, by unfold xX2_error; rfl, hP, rfl, rfl, lv_sub hl [0, 1, 2] rfl⟩ ?_ ?_
  · intro H locs ls hz
    obtain ⟨k, x1, hkn, hsp, hP, rfl, rfl, hl⟩ := hz
    refine lv_iload_n hx hb dX2_error_4 rfl (lv_at hl 0 rfl) ?_
    refine lv_bipush (v := 24) hx hb dX2_error_5 (by decide) ?_
    refine lv_icmp_ge (tgt := 41) hx hb dX2_error_7 (by decide) (fun c_7 => ?_) (fun c_7 => ?_)
    · refine lv_iload_n hx hb dX2_error_41 rfl (lv_at hl 1 rfl) ?_
      have hX : (xX2_error (R 84) kw) = x1 := by rw [← hsp, hX2_error_4_z]
      exact W.iret (v := x1) hx hb hr (fun t ht hW => ⟨by rw [hX], ht⟩) (fun _ h => by cases h) dX2_error_42
    · exact absurd (nI_le (a := 24) (b := k) (by omega) (by omega)) c_7
  · intro n ih H locs ls hz
    obtain ⟨k, x1, hkn, hsp, hP, rfl, rfl, hl⟩ := hz
    refine lv_iload_n hx hb dX2_error_4 rfl (lv_at hl 0 rfl) ?_
    refine lv_bipush (v := 24) hx hb dX2_error_5 (by decide) ?_
    refine lv_icmp_ge (tgt := 41) hx hb dX2_error_7 (by decide) (fun c_7 => ?_) (fun c_7 => ?_)
    · exact absurd c_7 (nI_ge (a := k) (b := 24) (by omega) (by omega))
    · refine lv_aload_n hx hb dX2_error_10 rfl (lv_at hl 2 rfl) ?_
      refine lv_iload_n hx hb dX2_error_11 rfl (lv_at hl 0 rfl) ?_
      refine q_callS (va_runV (As := [.int (nI k)]) (rest := []) ⟨hx, hb, hml, hown, hts⟩ (mX2_reading l D cI cS ad hI R F k kw (by omega) hkw hW) (cwV 1 hts gX2_error_X2_reading rfl rfl rfl (by decide +kernel) ⟨Nat.le_of_ble_eq_true rfl, Nat.le_of_ble_eq_true rfl⟩) (PW_preV (i := 83) (by decide) CC_83 rfl rfl hK hP) rfl rfl hl.1 rfl (lv_room (Nat.le_of_ble_eq_true rfl)) dX2_error_12 ⟨Nat.zero_le _, Nat.zero_le _⟩) ?_
      refine lv_aload_n hx hb dX2_error_15 rfl (lv_at hl 2 rfl) ?_
      refine lv_iload_n hx hb dX2_error_16 rfl (lv_at hl 0 rfl) ?_
      refine q_callS (va_runV (As := [.int (nI k)]) (rest := [.int (xX2_reading (R 84) k kw)]) ⟨hx, hb, hml, hown, hts⟩ (mX2_expected l D cI cS ad hI R F k kw (by omega) hkw hW) (cwV 1 hts gX2_error_X2_expected rfl rfl rfl (by decide +kernel) ⟨Nat.le_of_ble_eq_true rfl, Nat.le_of_ble_eq_true rfl⟩) (PW_preV (i := 83) (by decide) CC_83 rfl rfl hK hP) rfl rfl hl.1 rfl (lv_room (Nat.le_of_ble_eq_true rfl)) dX2_error_17 ⟨Nat.zero_le _, Nat.zero_le _⟩) ?_
      refine lv_isub hx hb dX2_error_20 ?_
      refine lv_istore_n (lv' := [(3, .int ((xX2_reading (R 84) k kw) - (xX2_expected (R 84) k kw))), (2, .int (nI k)), (1, .int x1), (0, .ref (ad 83))]) hx hb dX2_error_21 rfl hl (by decide) rfl (fun ls hl => ?_)
      refine lv_iload_n hx hb dX2_error_22 rfl (lv_at hl 2 rfl) ?_
      refine lv_iload_n hx hb dX2_error_23 rfl (lv_at hl 0 rfl) ?_
      refine lv_if_ge (tgt := 32) hx hb dX2_error_24 (by decide) (fun c_24 => ?_) (fun c_24 => ?_)
      · refine lv_iload_n hx hb dX2_error_32 rfl (lv_at hl 0 rfl) ?_
        refine lv_iadd hx hb dX2_error_33 ?_
        refine lv_istore_n (lv' := [(1, .int (x1 + ((xX2_reading (R 84) k kw) - (xX2_expected (R 84) k kw)))), (3, .int ((xX2_reading (R 84) k kw) - (xX2_expected (R 84) k kw))), (2, .int (nI k)), (0, .ref (ad 83))]) hx hb dX2_error_34 rfl hl (by decide) rfl (fun ls hl => ?_)
        refine lv_iinc (v := (nI (k + 1))) (lv' := [(2, .int (nI (k + 1))), (1, .int (x1 + ((xX2_reading (R 84) k kw) - (xX2_expected (R 84) k kw)))), (3, .int ((xX2_reading (R 84) k kw) - (xX2_expected (R 84) k kw))), (0, .ref (ad 83))]) hx hb dX2_error_35 hl (k := 2) rfl (nI_1 k) (by decide) rfl (fun ls hl => ?_)
        refine lv_goto (tgt := 4) hx hb dX2_error_38 (by decide) ?_
        exact ih _ _ _ ⟨(k + 1), (x1 + ((xX2_reading (R 84) k kw) - (xX2_expected (R 84) k kw))), by omega, by rw [← hsp, hX2_error_4_s, if_pos c_24], hP, rfl, rfl, lv_sub hl [0, 1, 3] rfl⟩
      · refine lv_iload_n hx hb dX2_error_27 rfl (lv_at hl 0 rfl) ?_
        refine lv_ineg hx hb dX2_error_28 ?_
        refine lv_goto (tgt := 33) hx hb dX2_error_29 (by decide) ?_
        refine lv_iadd hx hb dX2_error_33 ?_
        refine lv_istore_n (lv' := [(1, .int (x1 + (-((xX2_reading (R 84) k kw) - (xX2_expected (R 84) k kw))))), (3, .int ((xX2_reading (R 84) k kw) - (xX2_expected (R 84) k kw))), (2, .int (nI k)), (0, .ref (ad 83))]) hx hb dX2_error_34 rfl hl (by decide) rfl (fun ls hl => ?_)
        refine lv_iinc (v := (nI (k + 1))) (lv' := [(2, .int (nI (k + 1))), (1, .int (x1 + (-((xX2_reading (R 84) k kw) - (xX2_expected (R 84) k kw))))), (3, .int ((xX2_reading (R 84) k kw) - (xX2_expected (R 84) k kw))), (0, .ref (ad 83))]) hx hb dX2_error_35 hl (k := 2) rfl (nI_1 k) (by decide) rfl (fun ls hl => ?_)
        refine lv_goto (tgt := 4) hx hb dX2_error_38 (by decide) ?_
        exact ih _ _ _ ⟨(k + 1), (x1 + (-((xX2_reading (R 84) k kw) - (xX2_expected (R 84) k kw)))), by omega, by rw [← hsp, hX2_error_4_s, if_neg c_24], hP, rfl, rfl, lv_sub hl [0, 1, 3] rfl⟩

def hX2_isPressed_4 (s : Nat → Int32) (p1 : Int32) (kw : Nat) : Nat → Nat → Int32 → Int32
  | 0, k, x2 => x2
  | n + 1, k, x2 => (if x2 = (0 : Int32) then (if (xX2_isAboard s k) = (0 : Int32) then (hX2_isPressed_4 s p1 kw n (k + 1) (0 : Int32)) else (if (xX2_share (xX2_ofWalker s k 0) (xX2_ofWalker s k 1) p1) ≤ (0 : Int32) then (hX2_isPressed_4 s p1 kw n (k + 1) (0 : Int32)) else (hX2_isPressed_4 s p1 kw n (k + 1) (1 : Int32)))) else (hX2_isPressed_4 s p1 kw n (k + 1) (1 : Int32)))
theorem hX2_isPressed_4_z (s : Nat → Int32) (p1 : Int32) (kw : Nat) (k : Nat) (x2 : Int32) : hX2_isPressed_4 s p1 kw 0 k x2 = x2 := rfl
theorem hX2_isPressed_4_s (s : Nat → Int32) (p1 : Int32) (kw : Nat) (n : Nat) (k : Nat) (x2 : Int32) : hX2_isPressed_4 s p1 kw (n + 1) k x2 = (if x2 = (0 : Int32) then (if (xX2_isAboard s k) = (0 : Int32) then (hX2_isPressed_4 s p1 kw n (k + 1) (0 : Int32)) else (if (xX2_share (xX2_ofWalker s k 0) (xX2_ofWalker s k 1) p1) ≤ (0 : Int32) then (hX2_isPressed_4 s p1 kw n (k + 1) (0 : Int32)) else (hX2_isPressed_4 s p1 kw n (k + 1) (1 : Int32)))) else (hX2_isPressed_4 s p1 kw n (k + 1) (1 : Int32))) := rfl
def xX2_isPressed (s : Nat → Int32) (p1 : Int32) (kw : Nat) : Int32 :=
  (hX2_isPressed_4 s p1 kw kw 0 (0 : Int32))
set_option maxHeartbeats 4000000 in
set_option maxRecDepth 100000 in
theorem mX2_isPressed (l : Launch) (D : va_G) (cI cS : ClassId) (ad : Nat → Nat) (hI : Inj ad) (R F : Nat → Nat → Int32) (p1 : Int32) (kw : Nat) (hkw : kw ≤ 8) (hW : R 84 1 = nI kw) : Met l yX2_isPressed wsX2_isPressed ({ frames := 3, cells := 0, slots := 0, locals := 66 }) (PW D cI cS ad R F [.ref (ad 83), .int p1]) (QS (xX2_isPressed (R 84) p1 kw)) 0 0 (fun _ => False) := by
  refine Met.ofW (cc := cX2_isPressed) (maxL := 4) (ret := (some .boolean)) (by decide) rfl ?_
  intro p e s m args below meth c s₁ B hml hv
  obtain ⟨rfl, hP, hK⟩ := hv
  have hx := B.exec
  have hb := B.bytes
  have hr := B.returns
  have hts := atoms_spec (ws := wsX2_isPressed) B.pre
  have hown : s.vm.findClass RX2 = some m.cls := findClass_of_methodNamed B.named
  have hlocks := B.notSynchronized
  have hS : va_S (AA ad) s.heap s.heap [] := va_S.rf
  have hl := lv_entry ([.ref (ad 83), .int p1]) (n := 4) (Nat.le_of_ble_eq_true rfl)
  rw [lg_entry_eq]
  generalize (lg_sl ([.ref (ad 83), .int p1]) ++ List.replicate (4 - (lg_sl ([.ref (ad 83), .int p1])).length) Slot.unset).toArray = ls at hl ⊢
  have hl : lv_has ls 4 [(0, .ref (ad 83)), (1, .int p1)] := hl
  have lk7 := hts (.fieldLink RX2 7 "FerryFloorModel" "s" "[I") (by decide +kernel)
  have hin2 : ∀ w ∈ u_ws RX2 TX2 5, w ∈ wsX2_isPressed := by decide +kernel
  refine lv_iconst (v := 0) hx hb dX2_isPressed_0 (by decide) ?_
  refine lv_istore_n (lv' := [(2, .int (0 : Int32)), (0, .ref (ad 83)), (1, .int p1)]) hx hb dX2_isPressed_1 rfl hl (by decide) rfl (fun ls hl => ?_)
  refine lv_iconst (v := 0) hx hb dX2_isPressed_2 (by decide) ?_
  refine lv_istore_n (lv' := [(3, .int (0 : Int32)), (2, .int (0 : Int32)), (0, .ref (ad 83)), (1, .int p1)]) hx hb dX2_isPressed_3 rfl hl (by decide) rfl (fun ls hl => ?_)
  refine q_loop (fun nn H locs ls => ∃ (k : Nat) (x2 : Int32), k + nn = kw ∧ hX2_isPressed_4 (R 84) p1 kw nn k x2 = (xX2_isPressed (R 84) p1 kw) ∧ narrow .boolean (.int x2) = .int x2 ∧ WP D cI cS ad R F H ∧ locs = [] ∧ H = s.heap ∧ lv_has ls 4 [(3, .int (nI k)), (2, .int x2), (0, .ref (ad 83)), (1, .int p1)]) kw ⟨0, (0 : Int32), by omega, by unfold xX2_isPressed; rfl, rfl, hP, rfl, rfl, lv_sub hl [0, 1, 2, 3] rfl⟩ ?_ ?_
  · intro H locs ls hz
    obtain ⟨k, x2, hkn, hsp, hb01, hP, rfl, rfl, hl⟩ := hz
    refine lv_iload_n hx hb dX2_isPressed_4 rfl (lv_at hl 0 rfl) ?_
    refine lv_aload_n hx hb dX2_isPressed_5 rfl (lv_at hl 2 rfl) ?_
    refine q_getM (v := .ref (ad 84)) hx hb hts hin2 hown hK hP 0 (by decide) lk7 (fun _ h => h) rfl dX2_isPressed_6 ?_
    refine lv_iconst (v := 1) hx hb dX2_isPressed_9 (by decide) ?_
    refine q_ildN hx hb hK hP 84 182 (ar_84) 1 dX2_isPressed_10 rfl (by omega) (by decide) ?_
    refine q_top (y := (nI kw)) hW ?_
    refine lv_icmp_ge (tgt := 57) hx hb dX2_isPressed_11 (by decide) (fun c_11 => ?_) (fun c_11 => ?_)
    · refine lv_iload_n hx hb dX2_isPressed_57 rfl (lv_at hl 1 rfl) ?_
      have hX : (xX2_isPressed (R 84) p1 kw) = x2 := by rw [← hsp, hX2_isPressed_4_z]
      exact W.zret (v := x2) hx hb hr hb01 (fun t ht hW => ⟨by rw [hX], ht⟩) (fun _ h => by cases h) dX2_isPressed_58
    · exact absurd (nI_le (a := kw) (b := k) (by omega) (by omega)) c_11
  · intro n ih H locs ls hz
    obtain ⟨k, x2, hkn, hsp, hb01, hP, rfl, rfl, hl⟩ := hz
    refine lv_iload_n hx hb dX2_isPressed_4 rfl (lv_at hl 0 rfl) ?_
    refine lv_aload_n hx hb dX2_isPressed_5 rfl (lv_at hl 2 rfl) ?_
    refine q_getM (v := .ref (ad 84)) hx hb hts hin2 hown hK hP 0 (by decide) lk7 (fun _ h => h) rfl dX2_isPressed_6 ?_
    refine lv_iconst (v := 1) hx hb dX2_isPressed_9 (by decide) ?_
    refine q_ildN hx hb hK hP 84 182 (ar_84) 1 dX2_isPressed_10 rfl (by omega) (by decide) ?_
    refine q_top (y := (nI kw)) hW ?_
    refine lv_icmp_ge (tgt := 57) hx hb dX2_isPressed_11 (by decide) (fun c_11 => ?_) (fun c_11 => ?_)
    · exact absurd c_11 (nI_ge (a := k) (b := kw) (by omega) (by omega))
    · refine lv_iload_n hx hb dX2_isPressed_14 rfl (lv_at hl 1 rfl) ?_
      refine lv_if_ne (tgt := 45) hx hb dX2_isPressed_15 (by decide) (fun c_15 => ?_) (fun c_15 => ?_)
      · refine lv_iconst (v := 1) hx hb dX2_isPressed_45 (by decide) ?_
        refine lv_goto (tgt := 50) hx hb dX2_isPressed_46 (by decide) ?_
        refine lv_istore_n (lv' := [(2, .int (1 : Int32)), (3, .int (nI k)), (0, .ref (ad 83)), (1, .int p1)]) hx hb dX2_isPressed_50 rfl hl (by decide) rfl (fun ls hl => ?_)
        refine lv_iinc (v := (nI (k + 1))) (lv' := [(3, .int (nI (k + 1))), (2, .int (1 : Int32)), (0, .ref (ad 83)), (1, .int p1)]) hx hb dX2_isPressed_51 hl (k := 1) rfl (nI_1 k) (by decide) rfl (fun ls hl => ?_)
        refine lv_goto (tgt := 4) hx hb dX2_isPressed_54 (by decide) ?_
        exact ih _ _ _ ⟨(k + 1), (1 : Int32), by omega, by rw [← hsp, hX2_isPressed_4_s, if_neg c_15], rfl, hP, rfl, rfl, lv_sub hl [0, 1, 2, 3] rfl⟩
      · refine lv_aload_n hx hb dX2_isPressed_18 rfl (lv_at hl 2 rfl) ?_
        refine lv_iload_n hx hb dX2_isPressed_19 rfl (lv_at hl 0 rfl) ?_
        refine q_callS (va_runV (As := [.int (nI k)]) (rest := []) ⟨hx, hb, hml, hown, hts⟩ (mX2_isAboard l D cI cS ad hI R F k (by omega)) (cwV 1 hts gX2_isPressed_X2_isAboard rfl rfl rfl (by decide +kernel) ⟨Nat.le_of_ble_eq_true rfl, Nat.le_of_ble_eq_true rfl⟩) (PW_preV (i := 83) (by decide) CC_83 rfl rfl hK hP) rfl rfl hl.1 rfl (lv_room (Nat.le_of_ble_eq_true rfl)) dX2_isPressed_20 ⟨Nat.zero_le _, Nat.zero_le _⟩) ?_
        refine lv_if_eq (tgt := 49) hx hb dX2_isPressed_23 (by decide) (fun c_23 => ?_) (fun c_23 => ?_)
        · refine lv_iconst (v := 0) hx hb dX2_isPressed_49 (by decide) ?_
          refine lv_istore_n (lv' := [(2, .int (0 : Int32)), (3, .int (nI k)), (0, .ref (ad 83)), (1, .int p1)]) hx hb dX2_isPressed_50 rfl hl (by decide) rfl (fun ls hl => ?_)
          refine lv_iinc (v := (nI (k + 1))) (lv' := [(3, .int (nI (k + 1))), (2, .int (0 : Int32)), (0, .ref (ad 83)), (1, .int p1)]) hx hb dX2_isPressed_51 hl (k := 1) rfl (nI_1 k) (by decide) rfl (fun ls hl => ?_)
          refine lv_goto (tgt := 4) hx hb dX2_isPressed_54 (by decide) ?_
          exact ih _ _ _ ⟨(k + 1), (0 : Int32), by omega, by rw [← hsp, hX2_isPressed_4_s, if_pos c_15, if_pos c_23], rfl, hP, rfl, rfl, lv_sub hl [0, 1, 2, 3] rfl⟩
        · refine lv_aload_n hx hb dX2_isPressed_26 rfl (lv_at hl 2 rfl) ?_
          refine lv_iload_n hx hb dX2_isPressed_27 rfl (lv_at hl 0 rfl) ?_
          refine lv_iconst (v := 0) hx hb dX2_isPressed_28 (by decide) ?_
          refine q_callS (va_runV (As := [.int (nI k), .int (nI 0)]) (rest := []) ⟨hx, hb, hml, hown, hts⟩ (mX2_ofWalker l D cI cS ad hI R F k 0 (by omega)) (cwV 2 hts gX2_isPressed_X2_ofWalker rfl rfl rfl (by decide +kernel) ⟨Nat.le_of_ble_eq_true rfl, Nat.le_of_ble_eq_true rfl⟩) (PW_preV (i := 83) (by decide) CC_83 rfl rfl hK hP) rfl rfl hl.1 rfl (lv_room (Nat.le_of_ble_eq_true rfl)) dX2_isPressed_29 ⟨Nat.zero_le _, Nat.zero_le _⟩) ?_
          refine lv_aload_n hx hb dX2_isPressed_32 rfl (lv_at hl 2 rfl) ?_
          refine lv_iload_n hx hb dX2_isPressed_33 rfl (lv_at hl 0 rfl) ?_
          refine lv_iconst (v := 1) hx hb dX2_isPressed_34 (by decide) ?_
          refine q_callS (va_runV (As := [.int (nI k), .int (nI 1)]) (rest := [.int (xX2_ofWalker (R 84) k 0)]) ⟨hx, hb, hml, hown, hts⟩ (mX2_ofWalker l D cI cS ad hI R F k 1 (by omega)) (cwV 2 hts gX2_isPressed_X2_ofWalker rfl rfl rfl (by decide +kernel) ⟨Nat.le_of_ble_eq_true rfl, Nat.le_of_ble_eq_true rfl⟩) (PW_preV (i := 83) (by decide) CC_83 rfl rfl hK hP) rfl rfl hl.1 rfl (lv_room (Nat.le_of_ble_eq_true rfl)) dX2_isPressed_35 ⟨Nat.zero_le _, Nat.zero_le _⟩) ?_
          refine lv_iload_n hx hb dX2_isPressed_38 rfl (lv_at hl 3 rfl) ?_
          refine q_callS (va_runS (As := [.int (xX2_ofWalker (R 84) k 0), .int (xX2_ofWalker (R 84) k 1), .int p1]) (rest := []) ⟨hx, hb, hml, hown, hts⟩ (mX2_share l D cI cS ad hI R F (xX2_ofWalker (R 84) k 0) (xX2_ofWalker (R 84) k 1) p1) (va_cwS 3 hts gX2_isPressed_X2_share rfl rfl rfl (by decide +kernel) ⟨Nat.le_of_ble_eq_true rfl, Nat.le_of_ble_eq_true rfl⟩) (PW_preS hK hP) rfl rfl hl.1 rfl (lv_room (Nat.le_of_ble_eq_true rfl)) dX2_isPressed_39 ⟨Nat.zero_le _, Nat.zero_le _⟩) ?_
          refine lv_if_le (tgt := 49) hx hb dX2_isPressed_42 (by decide) (fun c_42 => ?_) (fun c_42 => ?_)
          · refine lv_iconst (v := 0) hx hb dX2_isPressed_49 (by decide) ?_
            refine lv_istore_n (lv' := [(2, .int (0 : Int32)), (3, .int (nI k)), (0, .ref (ad 83)), (1, .int p1)]) hx hb dX2_isPressed_50 rfl hl (by decide) rfl (fun ls hl => ?_)
            refine lv_iinc (v := (nI (k + 1))) (lv' := [(3, .int (nI (k + 1))), (2, .int (0 : Int32)), (0, .ref (ad 83)), (1, .int p1)]) hx hb dX2_isPressed_51 hl (k := 1) rfl (nI_1 k) (by decide) rfl (fun ls hl => ?_)
            refine lv_goto (tgt := 4) hx hb dX2_isPressed_54 (by decide) ?_
            exact ih _ _ _ ⟨(k + 1), (0 : Int32), by omega, by rw [← hsp, hX2_isPressed_4_s, if_pos c_15, if_neg c_23, if_pos c_42], rfl, hP, rfl, rfl, lv_sub hl [0, 1, 2, 3] rfl⟩
          · refine lv_iconst (v := 1) hx hb dX2_isPressed_45 (by decide) ?_
            refine lv_goto (tgt := 50) hx hb dX2_isPressed_46 (by decide) ?_
            refine lv_istore_n (lv' := [(2, .int (1 : Int32)), (3, .int (nI k)), (0, .ref (ad 83)), (1, .int p1)]) hx hb dX2_isPressed_50 rfl hl (by decide) rfl (fun ls hl => ?_)
            refine lv_iinc (v := (nI (k + 1))) (lv' := [(3, .int (nI (k + 1))), (2, .int (1 : Int32)), (0, .ref (ad 83)), (1, .int p1)]) hx hb dX2_isPressed_51 hl (k := 1) rfl (nI_1 k) (by decide) rfl (fun ls hl => ?_)
            refine lv_goto (tgt := 4) hx hb dX2_isPressed_54 (by decide) ?_
            exact ih _ _ _ ⟨(k + 1), (1 : Int32), by omega, by rw [← hsp, hX2_isPressed_4_s, if_pos c_15, if_neg c_23, if_neg c_42], rfl, hP, rfl, rfl, lv_sub hl [0, 1, 2, 3] rfl⟩

def hX2_on_6 (s : Nat → Int32) (p1 : Int32) (w2 : Nat) (kw : Nat) : Nat → Nat → Int32 → Int32
  | 0, k, x3 => x3
  | n + 1, k, x3 => (if (xX2_isAboard s k) = (0 : Int32) then (hX2_on_6 s p1 w2 kw n (k + 1) x3) else (if (xX2_ofWalker s k w2) = p1 then (hX2_on_6 s p1 w2 kw n (k + 1) (nI k)) else (hX2_on_6 s p1 w2 kw n (k + 1) x3)))
theorem hX2_on_6_z (s : Nat → Int32) (p1 : Int32) (w2 : Nat) (kw : Nat) (k : Nat) (x3 : Int32) : hX2_on_6 s p1 w2 kw 0 k x3 = x3 := rfl
theorem hX2_on_6_s (s : Nat → Int32) (p1 : Int32) (w2 : Nat) (kw : Nat) (n : Nat) (k : Nat) (x3 : Int32) : hX2_on_6 s p1 w2 kw (n + 1) k x3 = (if (xX2_isAboard s k) = (0 : Int32) then (hX2_on_6 s p1 w2 kw n (k + 1) x3) else (if (xX2_ofWalker s k w2) = p1 then (hX2_on_6 s p1 w2 kw n (k + 1) (nI k)) else (hX2_on_6 s p1 w2 kw n (k + 1) x3))) := rfl
def xX2_on (s : Nat → Int32) (p1 : Int32) (w2 : Nat) (kw : Nat) : Int32 :=
  (hX2_on_6 s p1 w2 kw kw 0 (-100009 : Int32))
set_option maxHeartbeats 4000000 in
set_option maxRecDepth 100000 in
theorem mX2_on (l : Launch) (D : va_G) (cI cS : ClassId) (ad : Nat → Nat) (hI : Inj ad) (R F : Nat → Nat → Int32) (p1 : Int32) (w2 : Nat) (kw : Nat) (h1 : w2 < 10) (hkw : kw ≤ 8) (hW : R 84 1 = nI kw) : Met l yX2_on wsX2_on ({ frames := 2, cells := 0, slots := 0, locals := 43 }) (PW D cI cS ad R F [.ref (ad 83), .int p1, .int (nI w2)]) (QS (xX2_on (R 84) p1 w2 kw)) 0 0 (fun _ => False) := by
  refine Met.ofW (cc := cX2_on) (maxL := 5) (ret := (some .int)) (by decide) rfl ?_
  intro p e s m args below meth c s₁ B hml hv
  obtain ⟨rfl, hP, hK⟩ := hv
  have hx := B.exec
  have hb := B.bytes
  have hr := B.returns
  have hts := atoms_spec (ws := wsX2_on) B.pre
  have hown : s.vm.findClass RX2 = some m.cls := findClass_of_methodNamed B.named
  have hlocks := B.notSynchronized
  have hS : va_S (AA ad) s.heap s.heap [] := va_S.rf
  have hl := lv_entry ([.ref (ad 83), .int p1, .int (nI w2)]) (n := 5) (Nat.le_of_ble_eq_true rfl)
  rw [lg_entry_eq]
  generalize (lg_sl ([.ref (ad 83), .int p1, .int (nI w2)]) ++ List.replicate (5 - (lg_sl ([.ref (ad 83), .int p1, .int (nI w2)])).length) Slot.unset).toArray = ls at hl ⊢
  have hl : lv_has ls 5 [(0, .ref (ad 83)), (1, .int p1), (2, .int (nI w2))] := hl
  have lk31 := hts (.constant RX2 31 (-100009)) (by decide +kernel)
  have lk7 := hts (.fieldLink RX2 7 "FerryFloorModel" "s" "[I") (by decide +kernel)
  have hin2 : ∀ w ∈ u_ws RX2 TX2 5, w ∈ wsX2_on := by decide +kernel
  refine lv_ldc (v := -100009) hx hb hown lk31 dX2_on_0 ?_
  refine lv_istore_n (lv' := [(3, .int (-100009 : Int32)), (0, .ref (ad 83)), (1, .int p1), (2, .int (nI w2))]) hx hb dX2_on_2 rfl hl (by decide) rfl (fun ls hl => ?_)
  refine lv_iconst (v := 0) hx hb dX2_on_3 (by decide) ?_
  refine lv_istore (lv' := [(4, .int (0 : Int32)), (3, .int (-100009 : Int32)), (0, .ref (ad 83)), (1, .int p1), (2, .int (nI w2))]) hx hb dX2_on_4 hl (by decide) rfl (fun ls hl => ?_)
  refine q_loop (fun nn H locs ls => ∃ (k : Nat) (x3 : Int32), k + nn = kw ∧ hX2_on_6 (R 84) p1 w2 kw nn k x3 = (xX2_on (R 84) p1 w2 kw) ∧ WP D cI cS ad R F H ∧ locs = [] ∧ H = s.heap ∧ lv_has ls 5 [(4, .int (nI k)), (3, .int x3), (0, .ref (ad 83)), (1, .int p1), (2, .int (nI w2))]) kw ⟨0, (-100009 : Int32), by omega, by unfold xX2_on; rfl, hP, rfl, rfl, lv_sub hl [0, 1, 2, 3, 4] rfl⟩ ?_ ?_
  · intro H locs ls hz
    obtain ⟨k, x3, hkn, hsp, hP, rfl, rfl, hl⟩ := hz
    refine lv_iload hx hb dX2_on_6 (lv_at hl 0 rfl) ?_
    refine lv_aload_n hx hb dX2_on_8 rfl (lv_at hl 2 rfl) ?_
    refine q_getM (v := .ref (ad 84)) hx hb hts hin2 hown hK hP 0 (by decide) lk7 (fun _ h => h) rfl dX2_on_9 ?_
    refine lv_iconst (v := 1) hx hb dX2_on_12 (by decide) ?_
    refine q_ildN hx hb hK hP 84 182 (ar_84) 1 dX2_on_13 rfl (by omega) (by decide) ?_
    refine q_top (y := (nI kw)) hW ?_
    refine lv_icmp_ge (tgt := 50) hx hb dX2_on_14 (by decide) (fun c_14 => ?_) (fun c_14 => ?_)
    · refine lv_iload_n hx hb dX2_on_50 rfl (lv_at hl 1 rfl) ?_
      have hX : (xX2_on (R 84) p1 w2 kw) = x3 := by rw [← hsp, hX2_on_6_z]
      exact W.iret (v := x3) hx hb hr (fun t ht hW => ⟨by rw [hX], ht⟩) (fun _ h => by cases h) dX2_on_51
    · exact absurd (nI_le (a := kw) (b := k) (by omega) (by omega)) c_14
  · intro n ih H locs ls hz
    obtain ⟨k, x3, hkn, hsp, hP, rfl, rfl, hl⟩ := hz
    refine lv_iload hx hb dX2_on_6 (lv_at hl 0 rfl) ?_
    refine lv_aload_n hx hb dX2_on_8 rfl (lv_at hl 2 rfl) ?_
    refine q_getM (v := .ref (ad 84)) hx hb hts hin2 hown hK hP 0 (by decide) lk7 (fun _ h => h) rfl dX2_on_9 ?_
    refine lv_iconst (v := 1) hx hb dX2_on_12 (by decide) ?_
    refine q_ildN hx hb hK hP 84 182 (ar_84) 1 dX2_on_13 rfl (by omega) (by decide) ?_
    refine q_top (y := (nI kw)) hW ?_
    refine lv_icmp_ge (tgt := 50) hx hb dX2_on_14 (by decide) (fun c_14 => ?_) (fun c_14 => ?_)
    · exact absurd c_14 (nI_ge (a := k) (b := kw) (by omega) (by omega))
    · refine lv_aload_n hx hb dX2_on_17 rfl (lv_at hl 2 rfl) ?_
      refine lv_iload hx hb dX2_on_18 (lv_at hl 0 rfl) ?_
      refine q_callS (va_runV (As := [.int (nI k)]) (rest := []) ⟨hx, hb, hml, hown, hts⟩ (mX2_isAboard l D cI cS ad hI R F k (by omega)) (cwV 1 hts gX2_on_X2_isAboard rfl rfl rfl (by decide +kernel) ⟨Nat.le_of_ble_eq_true rfl, Nat.le_of_ble_eq_true rfl⟩) (PW_preV (i := 83) (by decide) CC_83 rfl rfl hK hP) rfl rfl hl.1 rfl (lv_room (Nat.le_of_ble_eq_true rfl)) dX2_on_20 ⟨Nat.zero_le _, Nat.zero_le _⟩) ?_
      refine lv_if_eq (tgt := 42) hx hb dX2_on_23 (by decide) (fun c_23 => ?_) (fun c_23 => ?_)
      · refine lv_iload_n hx hb dX2_on_42 rfl (lv_at hl 1 rfl) ?_
        refine lv_istore_n (lv' := [(3, .int x3), (4, .int (nI k)), (0, .ref (ad 83)), (1, .int p1), (2, .int (nI w2))]) hx hb dX2_on_43 rfl hl (by decide) rfl (fun ls hl => ?_)
        refine lv_iinc (v := (nI (k + 1))) (lv' := [(4, .int (nI (k + 1))), (3, .int x3), (0, .ref (ad 83)), (1, .int p1), (2, .int (nI w2))]) hx hb dX2_on_44 hl (k := 1) rfl (nI_1 k) (by decide) rfl (fun ls hl => ?_)
        refine lv_goto (tgt := 6) hx hb dX2_on_47 (by decide) ?_
        exact ih _ _ _ ⟨(k + 1), x3, by omega, by rw [← hsp, hX2_on_6_s, if_pos c_23], hP, rfl, rfl, lv_sub hl [0, 1, 2, 3, 4] rfl⟩
      · refine lv_aload_n hx hb dX2_on_26 rfl (lv_at hl 2 rfl) ?_
        refine lv_iload hx hb dX2_on_27 (lv_at hl 0 rfl) ?_
        refine lv_iload_n hx hb dX2_on_29 rfl (lv_at hl 4 rfl) ?_
        refine q_callS (va_runV (As := [.int (nI k), .int (nI w2)]) (rest := []) ⟨hx, hb, hml, hown, hts⟩ (mX2_ofWalker l D cI cS ad hI R F k w2 (by omega)) (cwV 2 hts gX2_on_X2_ofWalker rfl rfl rfl (by decide +kernel) ⟨Nat.le_of_ble_eq_true rfl, Nat.le_of_ble_eq_true rfl⟩) (PW_preV (i := 83) (by decide) CC_83 rfl rfl hK hP) rfl rfl hl.1 rfl (lv_room (Nat.le_of_ble_eq_true rfl)) dX2_on_30 ⟨Nat.zero_le _, Nat.zero_le _⟩) ?_
        refine lv_iload_n hx hb dX2_on_33 rfl (lv_at hl 3 rfl) ?_
        refine lv_icmp_ne (tgt := 42) hx hb dX2_on_34 (by decide) (fun c_34 => ?_) (fun c_34 => ?_)
        · refine lv_iload_n hx hb dX2_on_42 rfl (lv_at hl 1 rfl) ?_
          refine lv_istore_n (lv' := [(3, .int x3), (4, .int (nI k)), (0, .ref (ad 83)), (1, .int p1), (2, .int (nI w2))]) hx hb dX2_on_43 rfl hl (by decide) rfl (fun ls hl => ?_)
          refine lv_iinc (v := (nI (k + 1))) (lv' := [(4, .int (nI (k + 1))), (3, .int x3), (0, .ref (ad 83)), (1, .int p1), (2, .int (nI w2))]) hx hb dX2_on_44 hl (k := 1) rfl (nI_1 k) (by decide) rfl (fun ls hl => ?_)
          refine lv_goto (tgt := 6) hx hb dX2_on_47 (by decide) ?_
          exact ih _ _ _ ⟨(k + 1), x3, by omega, by rw [← hsp, hX2_on_6_s, if_neg c_23, if_neg c_34], hP, rfl, rfl, lv_sub hl [0, 1, 2, 3, 4] rfl⟩
        · refine lv_iload hx hb dX2_on_37 (lv_at hl 0 rfl) ?_
          refine lv_goto (tgt := 43) hx hb dX2_on_39 (by decide) ?_
          refine lv_istore_n (lv' := [(3, .int (nI k)), (4, .int (nI k)), (0, .ref (ad 83)), (1, .int p1), (2, .int (nI w2))]) hx hb dX2_on_43 rfl hl (by decide) rfl (fun ls hl => ?_)
          refine lv_iinc (v := (nI (k + 1))) (lv' := [(4, .int (nI (k + 1))), (3, .int (nI k)), (0, .ref (ad 83)), (1, .int p1), (2, .int (nI w2))]) hx hb dX2_on_44 hl (k := 1) rfl (nI_1 k) (by decide) rfl (fun ls hl => ?_)
          refine lv_goto (tgt := 6) hx hb dX2_on_47 (by decide) ?_
          exact ih _ _ _ ⟨(k + 1), (nI k), by omega, by rw [← hsp, hX2_on_6_s, if_neg c_23, if_pos c_34], hP, rfl, rfl, lv_sub hl [0, 1, 2, 3, 4] rfl⟩

def hX2_estimateOf_4 (s : Nat → Int32) (w1 : Nat) (kw : Nat) : Nat → Nat → Int32 → Int32
  | 0, k, x2 => (if (0 : Int32) ≤ x2 then x2 else (0 : Int32))
  | n + 1, k, x2 => (if (xX2_isNear (nI k) (xX2_ofWalker s w1 3)) = (0 : Int32) then (hX2_estimateOf_4 s w1 kw n (k + 1) (x2 + (0 : Int32))) else (hX2_estimateOf_4 s w1 kw n (k + 1) (x2 + (((xX2_reading s k kw) - (xX2_of s k 2)) - (xX2_booked s (nI k) (nI w1) kw)))))
theorem hX2_estimateOf_4_z (s : Nat → Int32) (w1 : Nat) (kw : Nat) (k : Nat) (x2 : Int32) : hX2_estimateOf_4 s w1 kw 0 k x2 = (if (0 : Int32) ≤ x2 then x2 else (0 : Int32)) := rfl
theorem hX2_estimateOf_4_s (s : Nat → Int32) (w1 : Nat) (kw : Nat) (n : Nat) (k : Nat) (x2 : Int32) : hX2_estimateOf_4 s w1 kw (n + 1) k x2 = (if (xX2_isNear (nI k) (xX2_ofWalker s w1 3)) = (0 : Int32) then (hX2_estimateOf_4 s w1 kw n (k + 1) (x2 + (0 : Int32))) else (hX2_estimateOf_4 s w1 kw n (k + 1) (x2 + (((xX2_reading s k kw) - (xX2_of s k 2)) - (xX2_booked s (nI k) (nI w1) kw))))) := rfl
def xX2_estimateOf (s : Nat → Int32) (w1 : Nat) (kw : Nat) : Int32 :=
  (hX2_estimateOf_4 s w1 kw 24 0 (0 : Int32))
set_option maxHeartbeats 4000000 in
set_option maxRecDepth 100000 in
theorem mX2_estimateOf (l : Launch) (D : va_G) (cI cS : ClassId) (ad : Nat → Nat) (hI : Inj ad) (R F : Nat → Nat → Int32) (w1 : Nat) (kw : Nat) (h1 : w1 < 8) (hkw : kw ≤ 8) (hW : R 84 1 = nI kw) : Met l yX2_estimateOf wsX2_estimateOf ({ frames := 5, cells := 0, slots := 0, locals := 110 }) (PW D cI cS ad R F [.ref (ad 83), .int (nI w1)]) (QS (xX2_estimateOf (R 84) w1 kw)) 0 0 (fun _ => False) := by
  refine Met.ofW (cc := cX2_estimateOf) (maxL := 4) (ret := (some .int)) (by decide) rfl ?_
  intro p e s m args below meth c s₁ B hml hv
  obtain ⟨rfl, hP, hK⟩ := hv
  have hx := B.exec
  have hb := B.bytes
  have hr := B.returns
  have hts := atoms_spec (ws := wsX2_estimateOf) B.pre
  have hown : s.vm.findClass RX2 = some m.cls := findClass_of_methodNamed B.named
  have hlocks := B.notSynchronized
  have hS : va_S (AA ad) s.heap s.heap [] := va_S.rf
  have hl := lv_entry ([.ref (ad 83), .int (nI w1)]) (n := 4) (Nat.le_of_ble_eq_true rfl)
  rw [lg_entry_eq]
  generalize (lg_sl ([.ref (ad 83), .int (nI w1)]) ++ List.replicate (4 - (lg_sl ([.ref (ad 83), .int (nI w1)])).length) Slot.unset).toArray = ls at hl ⊢
  have hl : lv_has ls 4 [(0, .ref (ad 83)), (1, .int (nI w1))] := hl
  refine lv_iconst (v := 0) hx hb dX2_estimateOf_0 (by decide) ?_
  refine lv_istore_n (lv' := [(2, .int (0 : Int32)), (0, .ref (ad 83)), (1, .int (nI w1))]) hx hb dX2_estimateOf_1 rfl hl (by decide) rfl (fun ls hl => ?_)
  refine lv_iconst (v := 0) hx hb dX2_estimateOf_2 (by decide) ?_
  refine lv_istore_n (lv' := [(3, .int (0 : Int32)), (2, .int (0 : Int32)), (0, .ref (ad 83)), (1, .int (nI w1))]) hx hb dX2_estimateOf_3 rfl hl (by decide) rfl (fun ls hl => ?_)
  refine q_loop (fun nn H locs ls => ∃ (k : Nat) (x2 : Int32), k + nn = 24 ∧ hX2_estimateOf_4 (R 84) w1 kw nn k x2 = (xX2_estimateOf (R 84) w1 kw) ∧ WP D cI cS ad R F H ∧ locs = [] ∧ H = s.heap ∧ lv_has ls 4 [(3, .int (nI k)), (2, .int x2), (0, .ref (ad 83)), (1, .int (nI w1))]) 24 ⟨0, (0 : Int32), by omega, by unfold xX2_estimateOf; rfl, hP, rfl, rfl, lv_sub hl [0, 1, 2, 3] rfl⟩ ?_ ?_
  · intro H locs ls hz
    obtain ⟨k, x2, hkn, hsp, hP, rfl, rfl, hl⟩ := hz
    refine lv_iload_n hx hb dX2_estimateOf_4 rfl (lv_at hl 0 rfl) ?_
    refine lv_bipush (v := 24) hx hb dX2_estimateOf_5 (by decide) ?_
    refine lv_icmp_ge (tgt := 55) hx hb dX2_estimateOf_7 (by decide) (fun c_7 => ?_) (fun c_7 => ?_)
    · refine lv_iload_n hx hb dX2_estimateOf_55 rfl (lv_at hl 1 rfl) ?_
      refine lv_if_ge (tgt := 63) hx hb dX2_estimateOf_56 (by decide) (fun c_56 => ?_) (fun c_56 => ?_)
      · refine lv_iload_n hx hb dX2_estimateOf_63 rfl (lv_at hl 1 rfl) ?_
        have hX : (xX2_estimateOf (R 84) w1 kw) = x2 := by rw [← hsp, hX2_estimateOf_4_z, if_pos c_56]
        exact W.iret (v := x2) hx hb hr (fun t ht hW => ⟨by rw [hX], ht⟩) (fun _ h => by cases h) dX2_estimateOf_64
      · refine lv_iconst (v := 0) hx hb dX2_estimateOf_59 (by decide) ?_
        refine lv_goto (tgt := 64) hx hb dX2_estimateOf_60 (by decide) ?_
        have hX : (xX2_estimateOf (R 84) w1 kw) = (0 : Int32) := by rw [← hsp, hX2_estimateOf_4_z, if_neg c_56]
        exact W.iret (v := (0 : Int32)) hx hb hr (fun t ht hW => ⟨by rw [hX], ht⟩) (fun _ h => by cases h) dX2_estimateOf_64
    · exact absurd (nI_le (a := 24) (b := k) (by omega) (by omega)) c_7
  · intro n ih H locs ls hz
    obtain ⟨k, x2, hkn, hsp, hP, rfl, rfl, hl⟩ := hz
    refine lv_iload_n hx hb dX2_estimateOf_4 rfl (lv_at hl 0 rfl) ?_
    refine lv_bipush (v := 24) hx hb dX2_estimateOf_5 (by decide) ?_
    refine lv_icmp_ge (tgt := 55) hx hb dX2_estimateOf_7 (by decide) (fun c_7 => ?_) (fun c_7 => ?_)
    · exact absurd c_7 (nI_ge (a := k) (b := 24) (by omega) (by omega))
    · refine lv_iload_n hx hb dX2_estimateOf_10 rfl (lv_at hl 1 rfl) ?_
      refine lv_iload_n hx hb dX2_estimateOf_11 rfl (lv_at hl 0 rfl) ?_
      refine lv_aload_n hx hb dX2_estimateOf_12 rfl (lv_at hl 2 rfl) ?_
      refine lv_iload_n hx hb dX2_estimateOf_13 rfl (lv_at hl 3 rfl) ?_
      refine lv_iconst (v := 3) hx hb dX2_estimateOf_14 (by decide) ?_
      refine q_callS (va_runV (As := [.int (nI w1), .int (nI 3)]) (rest := [.int (nI k), .int x2]) ⟨hx, hb, hml, hown, hts⟩ (mX2_ofWalker l D cI cS ad hI R F w1 3 (by omega)) (cwV 2 hts gX2_estimateOf_X2_ofWalker rfl rfl rfl (by decide +kernel) ⟨Nat.le_of_ble_eq_true rfl, Nat.le_of_ble_eq_true rfl⟩) (PW_preV (i := 83) (by decide) CC_83 rfl rfl hK hP) rfl rfl hl.1 rfl (lv_room (Nat.le_of_ble_eq_true rfl)) dX2_estimateOf_15 ⟨Nat.zero_le _, Nat.zero_le _⟩) ?_
      refine q_callS (va_runS (As := [.int (nI k), .int (xX2_ofWalker (R 84) w1 3)]) (rest := [.int x2]) ⟨hx, hb, hml, hown, hts⟩ (mX2_isNear l D cI cS ad hI R F (nI k) (xX2_ofWalker (R 84) w1 3)) (va_cwS 2 hts gX2_estimateOf_X2_isNear rfl rfl rfl (by decide +kernel) ⟨Nat.le_of_ble_eq_true rfl, Nat.le_of_ble_eq_true rfl⟩) (PW_preS hK hP) rfl rfl hl.1 rfl (lv_room (Nat.le_of_ble_eq_true rfl)) dX2_estimateOf_18 ⟨Nat.zero_le _, Nat.zero_le _⟩) ?_
      refine lv_if_eq (tgt := 46) hx hb dX2_estimateOf_21 (by decide) (fun c_21 => ?_) (fun c_21 => ?_)
      · refine lv_iconst (v := 0) hx hb dX2_estimateOf_46 (by decide) ?_
        refine lv_iadd hx hb dX2_estimateOf_47 ?_
        refine lv_istore_n (lv' := [(2, .int (x2 + (0 : Int32))), (3, .int (nI k)), (0, .ref (ad 83)), (1, .int (nI w1))]) hx hb dX2_estimateOf_48 rfl hl (by decide) rfl (fun ls hl => ?_)
        refine lv_iinc (v := (nI (k + 1))) (lv' := [(3, .int (nI (k + 1))), (2, .int (x2 + (0 : Int32))), (0, .ref (ad 83)), (1, .int (nI w1))]) hx hb dX2_estimateOf_49 hl (k := 1) rfl (nI_1 k) (by decide) rfl (fun ls hl => ?_)
        refine lv_goto (tgt := 4) hx hb dX2_estimateOf_52 (by decide) ?_
        exact ih _ _ _ ⟨(k + 1), (x2 + (0 : Int32)), by omega, by rw [← hsp, hX2_estimateOf_4_s, if_pos c_21], hP, rfl, rfl, lv_sub hl [0, 1, 2, 3] rfl⟩
      · refine lv_aload_n hx hb dX2_estimateOf_24 rfl (lv_at hl 2 rfl) ?_
        refine lv_iload_n hx hb dX2_estimateOf_25 rfl (lv_at hl 0 rfl) ?_
        refine q_callS (va_runV (As := [.int (nI k)]) (rest := [.int x2]) ⟨hx, hb, hml, hown, hts⟩ (mX2_reading l D cI cS ad hI R F k kw (by omega) hkw hW) (cwV 1 hts gX2_estimateOf_X2_reading rfl rfl rfl (by decide +kernel) ⟨Nat.le_of_ble_eq_true rfl, Nat.le_of_ble_eq_true rfl⟩) (PW_preV (i := 83) (by decide) CC_83 rfl rfl hK hP) rfl rfl hl.1 rfl (lv_room (Nat.le_of_ble_eq_true rfl)) dX2_estimateOf_26 ⟨Nat.zero_le _, Nat.zero_le _⟩) ?_
        refine lv_aload_n hx hb dX2_estimateOf_29 rfl (lv_at hl 2 rfl) ?_
        refine lv_iload_n hx hb dX2_estimateOf_30 rfl (lv_at hl 0 rfl) ?_
        refine lv_iconst (v := 2) hx hb dX2_estimateOf_31 (by decide) ?_
        refine q_callS (va_runV (As := [.int (nI k), .int (nI 2)]) (rest := [.int (xX2_reading (R 84) k kw), .int x2]) ⟨hx, hb, hml, hown, hts⟩ (mX2_of l D cI cS ad hI R F k 2 (by omega)) (cwV 2 hts gX2_estimateOf_X2_of rfl rfl rfl (by decide +kernel) ⟨Nat.le_of_ble_eq_true rfl, Nat.le_of_ble_eq_true rfl⟩) (PW_preV (i := 83) (by decide) CC_83 rfl rfl hK hP) rfl rfl hl.1 rfl (lv_room (Nat.le_of_ble_eq_true rfl)) dX2_estimateOf_32 ⟨Nat.zero_le _, Nat.zero_le _⟩) ?_
        refine lv_isub hx hb dX2_estimateOf_35 ?_
        refine lv_aload_n hx hb dX2_estimateOf_36 rfl (lv_at hl 2 rfl) ?_
        refine lv_iload_n hx hb dX2_estimateOf_37 rfl (lv_at hl 0 rfl) ?_
        refine lv_iload_n hx hb dX2_estimateOf_38 rfl (lv_at hl 3 rfl) ?_
        refine q_callS (va_runV (As := [.int (nI k), .int (nI w1)]) (rest := [.int ((xX2_reading (R 84) k kw) - (xX2_of (R 84) k 2)), .int x2]) ⟨hx, hb, hml, hown, hts⟩ (mX2_booked l D cI cS ad hI R F (nI k) (nI w1) kw hkw hW) (cwV 2 hts gX2_estimateOf_X2_booked rfl rfl rfl (by decide +kernel) ⟨Nat.le_of_ble_eq_true rfl, Nat.le_of_ble_eq_true rfl⟩) (PW_preV (i := 83) (by decide) CC_83 rfl rfl hK hP) rfl rfl hl.1 rfl (lv_room (Nat.le_of_ble_eq_true rfl)) dX2_estimateOf_39 ⟨Nat.zero_le _, Nat.zero_le _⟩) ?_
        refine lv_isub hx hb dX2_estimateOf_42 ?_
        refine lv_goto (tgt := 47) hx hb dX2_estimateOf_43 (by decide) ?_
        refine lv_iadd hx hb dX2_estimateOf_47 ?_
        refine lv_istore_n (lv' := [(2, .int (x2 + (((xX2_reading (R 84) k kw) - (xX2_of (R 84) k 2)) - (xX2_booked (R 84) (nI k) (nI w1) kw)))), (3, .int (nI k)), (0, .ref (ad 83)), (1, .int (nI w1))]) hx hb dX2_estimateOf_48 rfl hl (by decide) rfl (fun ls hl => ?_)
        refine lv_iinc (v := (nI (k + 1))) (lv' := [(3, .int (nI (k + 1))), (2, .int (x2 + (((xX2_reading (R 84) k kw) - (xX2_of (R 84) k 2)) - (xX2_booked (R 84) (nI k) (nI w1) kw)))), (0, .ref (ad 83)), (1, .int (nI w1))]) hx hb dX2_estimateOf_49 hl (k := 1) rfl (nI_1 k) (by decide) rfl (fun ls hl => ?_)
        refine lv_goto (tgt := 4) hx hb dX2_estimateOf_52 (by decide) ?_
        exact ih _ _ _ ⟨(k + 1), (x2 + (((xX2_reading (R 84) k kw) - (xX2_of (R 84) k 2)) - (xX2_booked (R 84) (nI k) (nI w1) kw))), by omega, by rw [← hsp, hX2_estimateOf_4_s, if_neg c_21], hP, rfl, rfl, lv_sub hl [0, 1, 2, 3] rfl⟩

def hX2_earliest_6 (s : Nat → Int32) (p1 : Int32) : Nat → Nat → Int32 → Int32
  | 0, k, x2 => x2
  | n + 1, k, x2 => (if (xX2_isNear (nI k) p1) = (0 : Int32) then (hX2_earliest_6 s p1 n (k + 1) x2) else (if x2 ≤ (xX2_of s k 3) then (hX2_earliest_6 s p1 n (k + 1) x2) else (hX2_earliest_6 s p1 n (k + 1) (xX2_of s k 3))))
theorem hX2_earliest_6_z (s : Nat → Int32) (p1 : Int32) (k : Nat) (x2 : Int32) : hX2_earliest_6 s p1 0 k x2 = x2 := rfl
theorem hX2_earliest_6_s (s : Nat → Int32) (p1 : Int32) (n : Nat) (k : Nat) (x2 : Int32) : hX2_earliest_6 s p1 (n + 1) k x2 = (if (xX2_isNear (nI k) p1) = (0 : Int32) then (hX2_earliest_6 s p1 n (k + 1) x2) else (if x2 ≤ (xX2_of s k 3) then (hX2_earliest_6 s p1 n (k + 1) x2) else (hX2_earliest_6 s p1 n (k + 1) (xX2_of s k 3)))) := rfl
def xX2_earliest (s : Nat → Int32) (p1 : Int32) : Int32 :=
  (hX2_earliest_6 s p1 24 0 (2000 : Int32))
set_option maxHeartbeats 4000000 in
set_option maxRecDepth 100000 in
theorem mX2_earliest (l : Launch) (D : va_G) (cI cS : ClassId) (ad : Nat → Nat) (hI : Inj ad) (R F : Nat → Nat → Int32) (p1 : Int32) : Met l yX2_earliest wsX2_earliest ({ frames := 2, cells := 0, slots := 0, locals := 43 }) (PW D cI cS ad R F [.ref (ad 83), .int p1]) (QS (xX2_earliest (R 84) p1)) 0 0 (fun _ => False) := by
  refine Met.ofW (cc := cX2_earliest) (maxL := 4) (ret := (some .int)) (by decide) rfl ?_
  intro p e s m args below meth c s₁ B hml hv
  obtain ⟨rfl, hP, hK⟩ := hv
  have hx := B.exec
  have hb := B.bytes
  have hr := B.returns
  have hts := atoms_spec (ws := wsX2_earliest) B.pre
  have hown : s.vm.findClass RX2 = some m.cls := findClass_of_methodNamed B.named
  have hlocks := B.notSynchronized
  have hS : va_S (AA ad) s.heap s.heap [] := va_S.rf
  have hl := lv_entry ([.ref (ad 83), .int p1]) (n := 4) (Nat.le_of_ble_eq_true rfl)
  rw [lg_entry_eq]
  generalize (lg_sl ([.ref (ad 83), .int p1]) ++ List.replicate (4 - (lg_sl ([.ref (ad 83), .int p1])).length) Slot.unset).toArray = ls at hl ⊢
  have hl : lv_has ls 4 [(0, .ref (ad 83)), (1, .int p1)] := hl
  refine lv_sipush (v := 2000) hx hb dX2_earliest_0 (by decide) ?_
  refine lv_istore_n (lv' := [(2, .int (2000 : Int32)), (0, .ref (ad 83)), (1, .int p1)]) hx hb dX2_earliest_3 rfl hl (by decide) rfl (fun ls hl => ?_)
  refine lv_iconst (v := 0) hx hb dX2_earliest_4 (by decide) ?_
  refine lv_istore_n (lv' := [(3, .int (0 : Int32)), (2, .int (2000 : Int32)), (0, .ref (ad 83)), (1, .int p1)]) hx hb dX2_earliest_5 rfl hl (by decide) rfl (fun ls hl => ?_)
  refine q_loop (fun nn H locs ls => ∃ (k : Nat) (x2 : Int32), k + nn = 24 ∧ hX2_earliest_6 (R 84) p1 nn k x2 = (xX2_earliest (R 84) p1) ∧ WP D cI cS ad R F H ∧ locs = [] ∧ H = s.heap ∧ lv_has ls 4 [(3, .int (nI k)), (2, .int x2), (0, .ref (ad 83)), (1, .int p1)]) 24 ⟨0, (2000 : Int32), by omega, by unfold xX2_earliest; rfl, hP, rfl, rfl, lv_sub hl [0, 1, 2, 3] rfl⟩ ?_ ?_
  · intro H locs ls hz
    obtain ⟨k, x2, hkn, hsp, hP, rfl, rfl, hl⟩ := hz
    refine lv_iload_n hx hb dX2_earliest_6 rfl (lv_at hl 0 rfl) ?_
    refine lv_bipush (v := 24) hx hb dX2_earliest_7 (by decide) ?_
    refine lv_icmp_ge (tgt := 47) hx hb dX2_earliest_9 (by decide) (fun c_9 => ?_) (fun c_9 => ?_)
    · refine lv_iload_n hx hb dX2_earliest_47 rfl (lv_at hl 1 rfl) ?_
      have hX : (xX2_earliest (R 84) p1) = x2 := by rw [← hsp, hX2_earliest_6_z]
      exact W.iret (v := x2) hx hb hr (fun t ht hW => ⟨by rw [hX], ht⟩) (fun _ h => by cases h) dX2_earliest_48
    · exact absurd (nI_le (a := 24) (b := k) (by omega) (by omega)) c_9
  · intro n ih H locs ls hz
    obtain ⟨k, x2, hkn, hsp, hP, rfl, rfl, hl⟩ := hz
    refine lv_iload_n hx hb dX2_earliest_6 rfl (lv_at hl 0 rfl) ?_
    refine lv_bipush (v := 24) hx hb dX2_earliest_7 (by decide) ?_
    refine lv_icmp_ge (tgt := 47) hx hb dX2_earliest_9 (by decide) (fun c_9 => ?_) (fun c_9 => ?_)
    · exact absurd c_9 (nI_ge (a := k) (b := 24) (by omega) (by omega))
    · refine lv_iload_n hx hb dX2_earliest_12 rfl (lv_at hl 0 rfl) ?_
      refine lv_iload_n hx hb dX2_earliest_13 rfl (lv_at hl 3 rfl) ?_
      refine q_callS (va_runS (As := [.int (nI k), .int p1]) (rest := []) ⟨hx, hb, hml, hown, hts⟩ (mX2_isNear l D cI cS ad hI R F (nI k) p1) (va_cwS 2 hts gX2_earliest_X2_isNear rfl rfl rfl (by decide +kernel) ⟨Nat.le_of_ble_eq_true rfl, Nat.le_of_ble_eq_true rfl⟩) (PW_preS hK hP) rfl rfl hl.1 rfl (lv_room (Nat.le_of_ble_eq_true rfl)) dX2_earliest_14 ⟨Nat.zero_le _, Nat.zero_le _⟩) ?_
      refine lv_if_eq (tgt := 39) hx hb dX2_earliest_17 (by decide) (fun c_17 => ?_) (fun c_17 => ?_)
      · refine lv_iload_n hx hb dX2_earliest_39 rfl (lv_at hl 1 rfl) ?_
        refine lv_istore_n (lv' := [(2, .int x2), (3, .int (nI k)), (0, .ref (ad 83)), (1, .int p1)]) hx hb dX2_earliest_40 rfl hl (by decide) rfl (fun ls hl => ?_)
        refine lv_iinc (v := (nI (k + 1))) (lv' := [(3, .int (nI (k + 1))), (2, .int x2), (0, .ref (ad 83)), (1, .int p1)]) hx hb dX2_earliest_41 hl (k := 1) rfl (nI_1 k) (by decide) rfl (fun ls hl => ?_)
        refine lv_goto (tgt := 6) hx hb dX2_earliest_44 (by decide) ?_
        exact ih _ _ _ ⟨(k + 1), x2, by omega, by rw [← hsp, hX2_earliest_6_s, if_pos c_17], hP, rfl, rfl, lv_sub hl [0, 1, 2, 3] rfl⟩
      · refine lv_aload_n hx hb dX2_earliest_20 rfl (lv_at hl 2 rfl) ?_
        refine lv_iload_n hx hb dX2_earliest_21 rfl (lv_at hl 0 rfl) ?_
        refine lv_iconst (v := 3) hx hb dX2_earliest_22 (by decide) ?_
        refine q_callS (va_runV (As := [.int (nI k), .int (nI 3)]) (rest := []) ⟨hx, hb, hml, hown, hts⟩ (mX2_of l D cI cS ad hI R F k 3 (by omega)) (cwV 2 hts gX2_earliest_X2_of rfl rfl rfl (by decide +kernel) ⟨Nat.le_of_ble_eq_true rfl, Nat.le_of_ble_eq_true rfl⟩) (PW_preV (i := 83) (by decide) CC_83 rfl rfl hK hP) rfl rfl hl.1 rfl (lv_room (Nat.le_of_ble_eq_true rfl)) dX2_earliest_23 ⟨Nat.zero_le _, Nat.zero_le _⟩) ?_
        refine lv_iload_n hx hb dX2_earliest_26 rfl (lv_at hl 1 rfl) ?_
        refine lv_icmp_ge (tgt := 39) hx hb dX2_earliest_27 (by decide) (fun c_27 => ?_) (fun c_27 => ?_)
        · refine lv_iload_n hx hb dX2_earliest_39 rfl (lv_at hl 1 rfl) ?_
          refine lv_istore_n (lv' := [(2, .int x2), (3, .int (nI k)), (0, .ref (ad 83)), (1, .int p1)]) hx hb dX2_earliest_40 rfl hl (by decide) rfl (fun ls hl => ?_)
          refine lv_iinc (v := (nI (k + 1))) (lv' := [(3, .int (nI (k + 1))), (2, .int x2), (0, .ref (ad 83)), (1, .int p1)]) hx hb dX2_earliest_41 hl (k := 1) rfl (nI_1 k) (by decide) rfl (fun ls hl => ?_)
          refine lv_goto (tgt := 6) hx hb dX2_earliest_44 (by decide) ?_
          exact ih _ _ _ ⟨(k + 1), x2, by omega, by rw [← hsp, hX2_earliest_6_s, if_neg c_17, if_pos c_27], hP, rfl, rfl, lv_sub hl [0, 1, 2, 3] rfl⟩
        · refine lv_aload_n hx hb dX2_earliest_30 rfl (lv_at hl 2 rfl) ?_
          refine lv_iload_n hx hb dX2_earliest_31 rfl (lv_at hl 0 rfl) ?_
          refine lv_iconst (v := 3) hx hb dX2_earliest_32 (by decide) ?_
          refine q_callS (va_runV (As := [.int (nI k), .int (nI 3)]) (rest := []) ⟨hx, hb, hml, hown, hts⟩ (mX2_of l D cI cS ad hI R F k 3 (by omega)) (cwV 2 hts gX2_earliest_X2_of rfl rfl rfl (by decide +kernel) ⟨Nat.le_of_ble_eq_true rfl, Nat.le_of_ble_eq_true rfl⟩) (PW_preV (i := 83) (by decide) CC_83 rfl rfl hK hP) rfl rfl hl.1 rfl (lv_room (Nat.le_of_ble_eq_true rfl)) dX2_earliest_33 ⟨Nat.zero_le _, Nat.zero_le _⟩) ?_
          refine lv_goto (tgt := 40) hx hb dX2_earliest_36 (by decide) ?_
          refine lv_istore_n (lv' := [(2, .int (xX2_of (R 84) k 3)), (3, .int (nI k)), (0, .ref (ad 83)), (1, .int p1)]) hx hb dX2_earliest_40 rfl hl (by decide) rfl (fun ls hl => ?_)
          refine lv_iinc (v := (nI (k + 1))) (lv' := [(3, .int (nI (k + 1))), (2, .int (xX2_of (R 84) k 3)), (0, .ref (ad 83)), (1, .int p1)]) hx hb dX2_earliest_41 hl (k := 1) rfl (nI_1 k) (by decide) rfl (fun ls hl => ?_)
          refine lv_goto (tgt := 6) hx hb dX2_earliest_44 (by decide) ?_
          exact ih _ _ _ ⟨(k + 1), (xX2_of (R 84) k 3), by omega, by rw [← hsp, hX2_earliest_6_s, if_neg c_17, if_neg c_27], hP, rfl, rfl, lv_sub hl [0, 1, 2, 3] rfl⟩

def xX2_certaintyIn (s : Nat → Int32) (w1 : Nat) (p2 : Int32) : Int32 :=
  (if (0 : Int32) ≤ (((100 : Int32) - ((5 : Int32) * (((s 0) + p2) - (xX2_earliest s (xX2_ofWalker s w1 3))))) - ((10 : Int32) * (xX2_ofWalker s w1 4))) then (((100 : Int32) - ((5 : Int32) * (((s 0) + p2) - (xX2_earliest s (xX2_ofWalker s w1 3))))) - ((10 : Int32) * (xX2_ofWalker s w1 4))) else (0 : Int32))
set_option maxHeartbeats 4000000 in
set_option maxRecDepth 100000 in
theorem mX2_certaintyIn (l : Launch) (D : va_G) (cI cS : ClassId) (ad : Nat → Nat) (hI : Inj ad) (R F : Nat → Nat → Int32) (w1 : Nat) (p2 : Int32) (h1 : w1 < 8) : Met l yX2_certaintyIn wsX2_certaintyIn ({ frames := 3, cells := 0, slots := 0, locals := 66 }) (PW D cI cS ad R F [.ref (ad 83), .int (nI w1), .int p2]) (QS (xX2_certaintyIn (R 84) w1 p2)) 0 0 (fun _ => False) := by
  refine Met.ofW (cc := cX2_certaintyIn) (maxL := 4) (ret := (some .int)) (by decide) rfl ?_
  intro p e s m args below meth c s₁ B hml hv
  obtain ⟨rfl, hP, hK⟩ := hv
  have hx := B.exec
  have hb := B.bytes
  have hr := B.returns
  have hts := atoms_spec (ws := wsX2_certaintyIn) B.pre
  have hown : s.vm.findClass RX2 = some m.cls := findClass_of_methodNamed B.named
  have hlocks := B.notSynchronized
  have hS : va_S (AA ad) s.heap s.heap [] := va_S.rf
  have hl := lv_entry ([.ref (ad 83), .int (nI w1), .int p2]) (n := 4) (Nat.le_of_ble_eq_true rfl)
  rw [lg_entry_eq]
  generalize (lg_sl ([.ref (ad 83), .int (nI w1), .int p2]) ++ List.replicate (4 - (lg_sl ([.ref (ad 83), .int (nI w1), .int p2])).length) Slot.unset).toArray = ls at hl ⊢
  have hl : lv_has ls 4 [(0, .ref (ad 83)), (1, .int (nI w1)), (2, .int p2)] := hl
  have lk7 := hts (.fieldLink RX2 7 "FerryFloorModel" "s" "[I") (by decide +kernel)
  have hin2 : ∀ w ∈ u_ws RX2 TX2 5, w ∈ wsX2_certaintyIn := by decide +kernel
  refine lv_bipush (v := 100) hx hb dX2_certaintyIn_0 (by decide) ?_
  refine lv_iconst (v := 5) hx hb dX2_certaintyIn_2 (by decide) ?_
  refine lv_aload_n hx hb dX2_certaintyIn_3 rfl (lv_at hl 0 rfl) ?_
  refine q_getM (v := .ref (ad 84)) hx hb hts hin2 hown hK hP 0 (by decide) lk7 (fun _ h => h) rfl dX2_certaintyIn_4 ?_
  refine lv_iconst (v := 0) hx hb dX2_certaintyIn_7 (by decide) ?_
  refine q_ildN hx hb hK hP 84 182 (ar_84) 0 dX2_certaintyIn_8 rfl (by omega) (by decide) ?_
  refine lv_iload_n hx hb dX2_certaintyIn_9 rfl (lv_at hl 2 rfl) ?_
  refine lv_iadd hx hb dX2_certaintyIn_10 ?_
  refine lv_aload_n hx hb dX2_certaintyIn_11 rfl (lv_at hl 0 rfl) ?_
  refine lv_aload_n hx hb dX2_certaintyIn_12 rfl (lv_at hl 0 rfl) ?_
  refine lv_iload_n hx hb dX2_certaintyIn_13 rfl (lv_at hl 1 rfl) ?_
  refine lv_iconst (v := 3) hx hb dX2_certaintyIn_14 (by decide) ?_
  refine q_callS (va_runV (As := [.int (nI w1), .int (nI 3)]) (rest := [.ref (ad 83), .int ((R 84 0) + p2), .int (5 : Int32), .int (100 : Int32)]) ⟨hx, hb, hml, hown, hts⟩ (mX2_ofWalker l D cI cS ad hI R F w1 3 (by omega)) (cwV 2 hts gX2_certaintyIn_X2_ofWalker rfl rfl rfl (by decide +kernel) ⟨Nat.le_of_ble_eq_true rfl, Nat.le_of_ble_eq_true rfl⟩) (PW_preV (i := 83) (by decide) CC_83 rfl rfl hK hP) rfl rfl hl.1 rfl (lv_room (Nat.le_of_ble_eq_true rfl)) dX2_certaintyIn_15 ⟨Nat.zero_le _, Nat.zero_le _⟩) ?_
  refine q_callS (va_runV (As := [.int (xX2_ofWalker (R 84) w1 3)]) (rest := [.int ((R 84 0) + p2), .int (5 : Int32), .int (100 : Int32)]) ⟨hx, hb, hml, hown, hts⟩ (mX2_earliest l D cI cS ad hI R F (xX2_ofWalker (R 84) w1 3)) (cwV 1 hts gX2_certaintyIn_X2_earliest rfl rfl rfl (by decide +kernel) ⟨Nat.le_of_ble_eq_true rfl, Nat.le_of_ble_eq_true rfl⟩) (PW_preV (i := 83) (by decide) CC_83 rfl rfl hK hP) rfl rfl hl.1 rfl (lv_room (Nat.le_of_ble_eq_true rfl)) dX2_certaintyIn_18 ⟨Nat.zero_le _, Nat.zero_le _⟩) ?_
  refine lv_isub hx hb dX2_certaintyIn_21 ?_
  refine lv_imul hx hb dX2_certaintyIn_22 ?_
  refine lv_isub hx hb dX2_certaintyIn_23 ?_
  refine lv_bipush (v := 10) hx hb dX2_certaintyIn_24 (by decide) ?_
  refine lv_aload_n hx hb dX2_certaintyIn_26 rfl (lv_at hl 0 rfl) ?_
  refine lv_iload_n hx hb dX2_certaintyIn_27 rfl (lv_at hl 1 rfl) ?_
  refine lv_iconst (v := 4) hx hb dX2_certaintyIn_28 (by decide) ?_
  refine q_callS (va_runV (As := [.int (nI w1), .int (nI 4)]) (rest := [.int (10 : Int32), .int ((100 : Int32) - ((5 : Int32) * (((R 84 0) + p2) - (xX2_earliest (R 84) (xX2_ofWalker (R 84) w1 3)))))]) ⟨hx, hb, hml, hown, hts⟩ (mX2_ofWalker l D cI cS ad hI R F w1 4 (by omega)) (cwV 2 hts gX2_certaintyIn_X2_ofWalker rfl rfl rfl (by decide +kernel) ⟨Nat.le_of_ble_eq_true rfl, Nat.le_of_ble_eq_true rfl⟩) (PW_preV (i := 83) (by decide) CC_83 rfl rfl hK hP) rfl rfl hl.1 rfl (lv_room (Nat.le_of_ble_eq_true rfl)) dX2_certaintyIn_29 ⟨Nat.zero_le _, Nat.zero_le _⟩) ?_
  refine lv_imul hx hb dX2_certaintyIn_32 ?_
  refine lv_isub hx hb dX2_certaintyIn_33 ?_
  refine lv_istore_n (lv' := [(3, .int (((100 : Int32) - ((5 : Int32) * (((R 84 0) + p2) - (xX2_earliest (R 84) (xX2_ofWalker (R 84) w1 3))))) - ((10 : Int32) * (xX2_ofWalker (R 84) w1 4)))), (0, .ref (ad 83)), (1, .int (nI w1)), (2, .int p2)]) hx hb dX2_certaintyIn_34 rfl hl (by decide) rfl (fun ls hl => ?_)
  refine lv_iload_n hx hb dX2_certaintyIn_35 rfl (lv_at hl 0 rfl) ?_
  refine lv_if_ge (tgt := 43) hx hb dX2_certaintyIn_36 (by decide) (fun c_36 => ?_) (fun c_36 => ?_)
  · refine lv_iload_n hx hb dX2_certaintyIn_43 rfl (lv_at hl 0 rfl) ?_
    have hX : (xX2_certaintyIn (R 84) w1 p2) = (((100 : Int32) - ((5 : Int32) * (((R 84 0) + p2) - (xX2_earliest (R 84) (xX2_ofWalker (R 84) w1 3))))) - ((10 : Int32) * (xX2_ofWalker (R 84) w1 4))) := by unfold xX2_certaintyIn; rw [if_pos c_36]
    exact W.iret (v := (((100 : Int32) - ((5 : Int32) * (((R 84 0) + p2) - (xX2_earliest (R 84) (xX2_ofWalker (R 84) w1 3))))) - ((10 : Int32) * (xX2_ofWalker (R 84) w1 4)))) hx hb hr (fun t ht hW => ⟨by rw [hX], ht⟩) (fun _ h => by cases h) dX2_certaintyIn_44
  · refine lv_iconst (v := 0) hx hb dX2_certaintyIn_39 (by decide) ?_
    refine lv_goto (tgt := 44) hx hb dX2_certaintyIn_40 (by decide) ?_
    have hX : (xX2_certaintyIn (R 84) w1 p2) = (0 : Int32) := by unfold xX2_certaintyIn; rw [if_neg c_36]
    exact W.iret (v := (0 : Int32)) hx hb hr (fun t ht hW => ⟨by rw [hX], ht⟩) (fun _ h => by cases h) dX2_certaintyIn_44

def hX2_sumOf_4 (s : Nat → Int32) (p1 : Int32) (kw : Nat) : Nat → Nat → Int32 → Int32
  | 0, k, x2 => x2
  | n + 1, k, x2 => (if p1 = (0 : Int32) then (hX2_sumOf_4 s p1 kw n (k + 1) (x2 + (xX2_of s k 2))) else (hX2_sumOf_4 s p1 kw n (k + 1) (x2 + (xX2_reading s k kw))))
theorem hX2_sumOf_4_z (s : Nat → Int32) (p1 : Int32) (kw : Nat) (k : Nat) (x2 : Int32) : hX2_sumOf_4 s p1 kw 0 k x2 = x2 := rfl
theorem hX2_sumOf_4_s (s : Nat → Int32) (p1 : Int32) (kw : Nat) (n : Nat) (k : Nat) (x2 : Int32) : hX2_sumOf_4 s p1 kw (n + 1) k x2 = (if p1 = (0 : Int32) then (hX2_sumOf_4 s p1 kw n (k + 1) (x2 + (xX2_of s k 2))) else (hX2_sumOf_4 s p1 kw n (k + 1) (x2 + (xX2_reading s k kw)))) := rfl
def xX2_sumOf (s : Nat → Int32) (p1 : Int32) (kw : Nat) : Int32 :=
  (hX2_sumOf_4 s p1 kw 24 0 (0 : Int32))
set_option maxHeartbeats 4000000 in
set_option maxRecDepth 100000 in
theorem mX2_sumOf (l : Launch) (D : va_G) (cI cS : ClassId) (ad : Nat → Nat) (hI : Inj ad) (R F : Nat → Nat → Int32) (p1 : Int32) (kw : Nat) (hkw : kw ≤ 8) (hW : R 84 1 = nI kw) : Met l yX2_sumOf wsX2_sumOf ({ frames := 5, cells := 0, slots := 0, locals := 110 }) (PW D cI cS ad R F [.ref (ad 83), .int p1]) (QS (xX2_sumOf (R 84) p1 kw)) 0 0 (fun _ => False) := by
  refine Met.ofW (cc := cX2_sumOf) (maxL := 4) (ret := (some .int)) (by decide) rfl ?_
  intro p e s m args below meth c s₁ B hml hv
  obtain ⟨rfl, hP, hK⟩ := hv
  have hx := B.exec
  have hb := B.bytes
  have hr := B.returns
  have hts := atoms_spec (ws := wsX2_sumOf) B.pre
  have hown : s.vm.findClass RX2 = some m.cls := findClass_of_methodNamed B.named
  have hlocks := B.notSynchronized
  have hS : va_S (AA ad) s.heap s.heap [] := va_S.rf
  have hl := lv_entry ([.ref (ad 83), .int p1]) (n := 4) (Nat.le_of_ble_eq_true rfl)
  rw [lg_entry_eq]
  generalize (lg_sl ([.ref (ad 83), .int p1]) ++ List.replicate (4 - (lg_sl ([.ref (ad 83), .int p1])).length) Slot.unset).toArray = ls at hl ⊢
  have hl : lv_has ls 4 [(0, .ref (ad 83)), (1, .int p1)] := hl
  refine lv_iconst (v := 0) hx hb dX2_sumOf_0 (by decide) ?_
  refine lv_istore_n (lv' := [(2, .int (0 : Int32)), (0, .ref (ad 83)), (1, .int p1)]) hx hb dX2_sumOf_1 rfl hl (by decide) rfl (fun ls hl => ?_)
  refine lv_iconst (v := 0) hx hb dX2_sumOf_2 (by decide) ?_
  refine lv_istore_n (lv' := [(3, .int (0 : Int32)), (2, .int (0 : Int32)), (0, .ref (ad 83)), (1, .int p1)]) hx hb dX2_sumOf_3 rfl hl (by decide) rfl (fun ls hl => ?_)
  refine q_loop (fun nn H locs ls => ∃ (k : Nat) (x2 : Int32), k + nn = 24 ∧ hX2_sumOf_4 (R 84) p1 kw nn k x2 = (xX2_sumOf (R 84) p1 kw) ∧ WP D cI cS ad R F H ∧ locs = [] ∧ H = s.heap ∧ lv_has ls 4 [(3, .int (nI k)), (2, .int x2), (0, .ref (ad 83)), (1, .int p1)]) 24 ⟨0, (0 : Int32), by omega, by unfold xX2_sumOf; rfl, hP, rfl, rfl, lv_sub hl [0, 1, 2, 3] rfl⟩ ?_ ?_
  · intro H locs ls hz
    obtain ⟨k, x2, hkn, hsp, hP, rfl, rfl, hl⟩ := hz
    refine lv_iload_n hx hb dX2_sumOf_4 rfl (lv_at hl 0 rfl) ?_
    refine lv_bipush (v := 24) hx hb dX2_sumOf_5 (by decide) ?_
    refine lv_icmp_ge (tgt := 37) hx hb dX2_sumOf_7 (by decide) (fun c_7 => ?_) (fun c_7 => ?_)
    · refine lv_iload_n hx hb dX2_sumOf_37 rfl (lv_at hl 1 rfl) ?_
      have hX : (xX2_sumOf (R 84) p1 kw) = x2 := by rw [← hsp, hX2_sumOf_4_z]
      exact W.iret (v := x2) hx hb hr (fun t ht hW => ⟨by rw [hX], ht⟩) (fun _ h => by cases h) dX2_sumOf_38
    · exact absurd (nI_le (a := 24) (b := k) (by omega) (by omega)) c_7
  · intro n ih H locs ls hz
    obtain ⟨k, x2, hkn, hsp, hP, rfl, rfl, hl⟩ := hz
    refine lv_iload_n hx hb dX2_sumOf_4 rfl (lv_at hl 0 rfl) ?_
    refine lv_bipush (v := 24) hx hb dX2_sumOf_5 (by decide) ?_
    refine lv_icmp_ge (tgt := 37) hx hb dX2_sumOf_7 (by decide) (fun c_7 => ?_) (fun c_7 => ?_)
    · exact absurd c_7 (nI_ge (a := k) (b := 24) (by omega) (by omega))
    · refine lv_iload_n hx hb dX2_sumOf_10 rfl (lv_at hl 1 rfl) ?_
      refine lv_iload_n hx hb dX2_sumOf_11 rfl (lv_at hl 3 rfl) ?_
      refine lv_if_eq (tgt := 23) hx hb dX2_sumOf_12 (by decide) (fun c_12 => ?_) (fun c_12 => ?_)
      · refine lv_aload_n hx hb dX2_sumOf_23 rfl (lv_at hl 2 rfl) ?_
        refine lv_iload_n hx hb dX2_sumOf_24 rfl (lv_at hl 0 rfl) ?_
        refine lv_iconst (v := 2) hx hb dX2_sumOf_25 (by decide) ?_
        refine q_callS (va_runV (As := [.int (nI k), .int (nI 2)]) (rest := [.int x2]) ⟨hx, hb, hml, hown, hts⟩ (mX2_of l D cI cS ad hI R F k 2 (by omega)) (cwV 2 hts gX2_sumOf_X2_of rfl rfl rfl (by decide +kernel) ⟨Nat.le_of_ble_eq_true rfl, Nat.le_of_ble_eq_true rfl⟩) (PW_preV (i := 83) (by decide) CC_83 rfl rfl hK hP) rfl rfl hl.1 rfl (lv_room (Nat.le_of_ble_eq_true rfl)) dX2_sumOf_26 ⟨Nat.zero_le _, Nat.zero_le _⟩) ?_
        refine lv_iadd hx hb dX2_sumOf_29 ?_
        refine lv_istore_n (lv' := [(2, .int (x2 + (xX2_of (R 84) k 2))), (3, .int (nI k)), (0, .ref (ad 83)), (1, .int p1)]) hx hb dX2_sumOf_30 rfl hl (by decide) rfl (fun ls hl => ?_)
        refine lv_iinc (v := (nI (k + 1))) (lv' := [(3, .int (nI (k + 1))), (2, .int (x2 + (xX2_of (R 84) k 2))), (0, .ref (ad 83)), (1, .int p1)]) hx hb dX2_sumOf_31 hl (k := 1) rfl (nI_1 k) (by decide) rfl (fun ls hl => ?_)
        refine lv_goto (tgt := 4) hx hb dX2_sumOf_34 (by decide) ?_
        exact ih _ _ _ ⟨(k + 1), (x2 + (xX2_of (R 84) k 2)), by omega, by rw [← hsp, hX2_sumOf_4_s, if_pos c_12], hP, rfl, rfl, lv_sub hl [0, 1, 2, 3] rfl⟩
      · refine lv_aload_n hx hb dX2_sumOf_15 rfl (lv_at hl 2 rfl) ?_
        refine lv_iload_n hx hb dX2_sumOf_16 rfl (lv_at hl 0 rfl) ?_
        refine q_callS (va_runV (As := [.int (nI k)]) (rest := [.int x2]) ⟨hx, hb, hml, hown, hts⟩ (mX2_reading l D cI cS ad hI R F k kw (by omega) hkw hW) (cwV 1 hts gX2_sumOf_X2_reading rfl rfl rfl (by decide +kernel) ⟨Nat.le_of_ble_eq_true rfl, Nat.le_of_ble_eq_true rfl⟩) (PW_preV (i := 83) (by decide) CC_83 rfl rfl hK hP) rfl rfl hl.1 rfl (lv_room (Nat.le_of_ble_eq_true rfl)) dX2_sumOf_17 ⟨Nat.zero_le _, Nat.zero_le _⟩) ?_
        refine lv_goto (tgt := 29) hx hb dX2_sumOf_20 (by decide) ?_
        refine lv_iadd hx hb dX2_sumOf_29 ?_
        refine lv_istore_n (lv' := [(2, .int (x2 + (xX2_reading (R 84) k kw))), (3, .int (nI k)), (0, .ref (ad 83)), (1, .int p1)]) hx hb dX2_sumOf_30 rfl hl (by decide) rfl (fun ls hl => ?_)
        refine lv_iinc (v := (nI (k + 1))) (lv' := [(3, .int (nI (k + 1))), (2, .int (x2 + (xX2_reading (R 84) k kw))), (0, .ref (ad 83)), (1, .int p1)]) hx hb dX2_sumOf_31 hl (k := 1) rfl (nI_1 k) (by decide) rfl (fun ls hl => ?_)
        refine lv_goto (tgt := 4) hx hb dX2_sumOf_34 (by decide) ?_
        exact ih _ _ _ ⟨(k + 1), (x2 + (xX2_reading (R 84) k kw)), by omega, by rw [← hsp, hX2_sumOf_4_s, if_neg c_12], hP, rfl, rfl, lv_sub hl [0, 1, 2, 3] rfl⟩

def hX2_many_4 (s : Nat → Int32) (p1 : Int32) (kw : Nat) : Nat → Nat → Int32 → Int32
  | 0, k, x2 => x2
  | n + 1, k, x2 => (if (xX2_isAboard s k) = (0 : Int32) then (hX2_many_4 s p1 kw n (k + 1) (x2 + (0 : Int32))) else (if p1 = (0 : Int32) then (hX2_many_4 s p1 kw n (k + 1) (x2 + (1 : Int32))) else (if (xX2_ofWalker s k 1) = (xX2_ofWalker s k 3) then (hX2_many_4 s p1 kw n (k + 1) (x2 + (0 : Int32))) else (hX2_many_4 s p1 kw n (k + 1) (x2 + (1 : Int32))))))
theorem hX2_many_4_z (s : Nat → Int32) (p1 : Int32) (kw : Nat) (k : Nat) (x2 : Int32) : hX2_many_4 s p1 kw 0 k x2 = x2 := rfl
theorem hX2_many_4_s (s : Nat → Int32) (p1 : Int32) (kw : Nat) (n : Nat) (k : Nat) (x2 : Int32) : hX2_many_4 s p1 kw (n + 1) k x2 = (if (xX2_isAboard s k) = (0 : Int32) then (hX2_many_4 s p1 kw n (k + 1) (x2 + (0 : Int32))) else (if p1 = (0 : Int32) then (hX2_many_4 s p1 kw n (k + 1) (x2 + (1 : Int32))) else (if (xX2_ofWalker s k 1) = (xX2_ofWalker s k 3) then (hX2_many_4 s p1 kw n (k + 1) (x2 + (0 : Int32))) else (hX2_many_4 s p1 kw n (k + 1) (x2 + (1 : Int32)))))) := rfl
def xX2_many (s : Nat → Int32) (p1 : Int32) (kw : Nat) : Int32 :=
  (hX2_many_4 s p1 kw kw 0 (0 : Int32))
set_option maxHeartbeats 4000000 in
set_option maxRecDepth 100000 in
theorem mX2_many (l : Launch) (D : va_G) (cI cS : ClassId) (ad : Nat → Nat) (hI : Inj ad) (R F : Nat → Nat → Int32) (p1 : Int32) (kw : Nat) (hkw : kw ≤ 8) (hW : R 84 1 = nI kw) : Met l yX2_many wsX2_many ({ frames := 2, cells := 0, slots := 0, locals := 43 }) (PW D cI cS ad R F [.ref (ad 83), .int p1]) (QS (xX2_many (R 84) p1 kw)) 0 0 (fun _ => False) := by
  refine Met.ofW (cc := cX2_many) (maxL := 4) (ret := (some .int)) (by decide) rfl ?_
  intro p e s m args below meth c s₁ B hml hv
  obtain ⟨rfl, hP, hK⟩ := hv
  have hx := B.exec
  have hb := B.bytes
  have hr := B.returns
  have hts := atoms_spec (ws := wsX2_many) B.pre
  have hown : s.vm.findClass RX2 = some m.cls := findClass_of_methodNamed B.named
  have hlocks := B.notSynchronized
  have hS : va_S (AA ad) s.heap s.heap [] := va_S.rf
  have hl := lv_entry ([.ref (ad 83), .int p1]) (n := 4) (Nat.le_of_ble_eq_true rfl)
  rw [lg_entry_eq]
  generalize (lg_sl ([.ref (ad 83), .int p1]) ++ List.replicate (4 - (lg_sl ([.ref (ad 83), .int p1])).length) Slot.unset).toArray = ls at hl ⊢
  have hl : lv_has ls 4 [(0, .ref (ad 83)), (1, .int p1)] := hl
  have lk7 := hts (.fieldLink RX2 7 "FerryFloorModel" "s" "[I") (by decide +kernel)
  have hin2 : ∀ w ∈ u_ws RX2 TX2 5, w ∈ wsX2_many := by decide +kernel
  refine lv_iconst (v := 0) hx hb dX2_many_0 (by decide) ?_
  refine lv_istore_n (lv' := [(2, .int (0 : Int32)), (0, .ref (ad 83)), (1, .int p1)]) hx hb dX2_many_1 rfl hl (by decide) rfl (fun ls hl => ?_)
  refine lv_iconst (v := 0) hx hb dX2_many_2 (by decide) ?_
  refine lv_istore_n (lv' := [(3, .int (0 : Int32)), (2, .int (0 : Int32)), (0, .ref (ad 83)), (1, .int p1)]) hx hb dX2_many_3 rfl hl (by decide) rfl (fun ls hl => ?_)
  refine q_loop (fun nn H locs ls => ∃ (k : Nat) (x2 : Int32), k + nn = kw ∧ hX2_many_4 (R 84) p1 kw nn k x2 = (xX2_many (R 84) p1 kw) ∧ WP D cI cS ad R F H ∧ locs = [] ∧ H = s.heap ∧ lv_has ls 4 [(3, .int (nI k)), (2, .int x2), (0, .ref (ad 83)), (1, .int p1)]) kw ⟨0, (0 : Int32), by omega, by unfold xX2_many; rfl, hP, rfl, rfl, lv_sub hl [0, 1, 2, 3] rfl⟩ ?_ ?_
  · intro H locs ls hz
    obtain ⟨k, x2, hkn, hsp, hP, rfl, rfl, hl⟩ := hz
    refine lv_iload_n hx hb dX2_many_4 rfl (lv_at hl 0 rfl) ?_
    refine lv_aload_n hx hb dX2_many_5 rfl (lv_at hl 2 rfl) ?_
    refine q_getM (v := .ref (ad 84)) hx hb hts hin2 hown hK hP 0 (by decide) lk7 (fun _ h => h) rfl dX2_many_6 ?_
    refine lv_iconst (v := 1) hx hb dX2_many_9 (by decide) ?_
    refine q_ildN hx hb hK hP 84 182 (ar_84) 1 dX2_many_10 rfl (by omega) (by decide) ?_
    refine q_top (y := (nI kw)) hW ?_
    refine lv_icmp_ge (tgt := 55) hx hb dX2_many_11 (by decide) (fun c_11 => ?_) (fun c_11 => ?_)
    · refine lv_iload_n hx hb dX2_many_55 rfl (lv_at hl 1 rfl) ?_
      have hX : (xX2_many (R 84) p1 kw) = x2 := by rw [← hsp, hX2_many_4_z]
      exact W.iret (v := x2) hx hb hr (fun t ht hW => ⟨by rw [hX], ht⟩) (fun _ h => by cases h) dX2_many_56
    · exact absurd (nI_le (a := kw) (b := k) (by omega) (by omega)) c_11
  · intro n ih H locs ls hz
    obtain ⟨k, x2, hkn, hsp, hP, rfl, rfl, hl⟩ := hz
    refine lv_iload_n hx hb dX2_many_4 rfl (lv_at hl 0 rfl) ?_
    refine lv_aload_n hx hb dX2_many_5 rfl (lv_at hl 2 rfl) ?_
    refine q_getM (v := .ref (ad 84)) hx hb hts hin2 hown hK hP 0 (by decide) lk7 (fun _ h => h) rfl dX2_many_6 ?_
    refine lv_iconst (v := 1) hx hb dX2_many_9 (by decide) ?_
    refine q_ildN hx hb hK hP 84 182 (ar_84) 1 dX2_many_10 rfl (by omega) (by decide) ?_
    refine q_top (y := (nI kw)) hW ?_
    refine lv_icmp_ge (tgt := 55) hx hb dX2_many_11 (by decide) (fun c_11 => ?_) (fun c_11 => ?_)
    · exact absurd c_11 (nI_ge (a := k) (b := kw) (by omega) (by omega))
    · refine lv_iload_n hx hb dX2_many_14 rfl (lv_at hl 1 rfl) ?_
      refine lv_aload_n hx hb dX2_many_15 rfl (lv_at hl 2 rfl) ?_
      refine lv_iload_n hx hb dX2_many_16 rfl (lv_at hl 0 rfl) ?_
      refine q_callS (va_runV (As := [.int (nI k)]) (rest := [.int x2]) ⟨hx, hb, hml, hown, hts⟩ (mX2_isAboard l D cI cS ad hI R F k (by omega)) (cwV 1 hts gX2_many_X2_isAboard rfl rfl rfl (by decide +kernel) ⟨Nat.le_of_ble_eq_true rfl, Nat.le_of_ble_eq_true rfl⟩) (PW_preV (i := 83) (by decide) CC_83 rfl rfl hK hP) rfl rfl hl.1 rfl (lv_room (Nat.le_of_ble_eq_true rfl)) dX2_many_17 ⟨Nat.zero_le _, Nat.zero_le _⟩) ?_
      refine lv_if_eq (tgt := 46) hx hb dX2_many_20 (by decide) (fun c_20 => ?_) (fun c_20 => ?_)
      · refine lv_iconst (v := 0) hx hb dX2_many_46 (by decide) ?_
        refine lv_iadd hx hb dX2_many_47 ?_
        refine lv_istore_n (lv' := [(2, .int (x2 + (0 : Int32))), (3, .int (nI k)), (0, .ref (ad 83)), (1, .int p1)]) hx hb dX2_many_48 rfl hl (by decide) rfl (fun ls hl => ?_)
        refine lv_iinc (v := (nI (k + 1))) (lv' := [(3, .int (nI (k + 1))), (2, .int (x2 + (0 : Int32))), (0, .ref (ad 83)), (1, .int p1)]) hx hb dX2_many_49 hl (k := 1) rfl (nI_1 k) (by decide) rfl (fun ls hl => ?_)
        refine lv_goto (tgt := 4) hx hb dX2_many_52 (by decide) ?_
        exact ih _ _ _ ⟨(k + 1), (x2 + (0 : Int32)), by omega, by rw [← hsp, hX2_many_4_s, if_pos c_20], hP, rfl, rfl, lv_sub hl [0, 1, 2, 3] rfl⟩
      · refine lv_iload_n hx hb dX2_many_23 rfl (lv_at hl 3 rfl) ?_
        refine lv_if_eq (tgt := 42) hx hb dX2_many_24 (by decide) (fun c_24 => ?_) (fun c_24 => ?_)
        · refine lv_iconst (v := 1) hx hb dX2_many_42 (by decide) ?_
          refine lv_goto (tgt := 47) hx hb dX2_many_43 (by decide) ?_
          refine lv_iadd hx hb dX2_many_47 ?_
          refine lv_istore_n (lv' := [(2, .int (x2 + (1 : Int32))), (3, .int (nI k)), (0, .ref (ad 83)), (1, .int p1)]) hx hb dX2_many_48 rfl hl (by decide) rfl (fun ls hl => ?_)
          refine lv_iinc (v := (nI (k + 1))) (lv' := [(3, .int (nI (k + 1))), (2, .int (x2 + (1 : Int32))), (0, .ref (ad 83)), (1, .int p1)]) hx hb dX2_many_49 hl (k := 1) rfl (nI_1 k) (by decide) rfl (fun ls hl => ?_)
          refine lv_goto (tgt := 4) hx hb dX2_many_52 (by decide) ?_
          exact ih _ _ _ ⟨(k + 1), (x2 + (1 : Int32)), by omega, by rw [← hsp, hX2_many_4_s, if_neg c_20, if_pos c_24], hP, rfl, rfl, lv_sub hl [0, 1, 2, 3] rfl⟩
        · refine lv_aload_n hx hb dX2_many_27 rfl (lv_at hl 2 rfl) ?_
          refine lv_iload_n hx hb dX2_many_28 rfl (lv_at hl 0 rfl) ?_
          refine lv_iconst (v := 1) hx hb dX2_many_29 (by decide) ?_
          refine q_callS (va_runV (As := [.int (nI k), .int (nI 1)]) (rest := [.int x2]) ⟨hx, hb, hml, hown, hts⟩ (mX2_ofWalker l D cI cS ad hI R F k 1 (by omega)) (cwV 2 hts gX2_many_X2_ofWalker rfl rfl rfl (by decide +kernel) ⟨Nat.le_of_ble_eq_true rfl, Nat.le_of_ble_eq_true rfl⟩) (PW_preV (i := 83) (by decide) CC_83 rfl rfl hK hP) rfl rfl hl.1 rfl (lv_room (Nat.le_of_ble_eq_true rfl)) dX2_many_30 ⟨Nat.zero_le _, Nat.zero_le _⟩) ?_
          refine lv_aload_n hx hb dX2_many_33 rfl (lv_at hl 2 rfl) ?_
          refine lv_iload_n hx hb dX2_many_34 rfl (lv_at hl 0 rfl) ?_
          refine lv_iconst (v := 3) hx hb dX2_many_35 (by decide) ?_
          refine q_callS (va_runV (As := [.int (nI k), .int (nI 3)]) (rest := [.int (xX2_ofWalker (R 84) k 1), .int x2]) ⟨hx, hb, hml, hown, hts⟩ (mX2_ofWalker l D cI cS ad hI R F k 3 (by omega)) (cwV 2 hts gX2_many_X2_ofWalker rfl rfl rfl (by decide +kernel) ⟨Nat.le_of_ble_eq_true rfl, Nat.le_of_ble_eq_true rfl⟩) (PW_preV (i := 83) (by decide) CC_83 rfl rfl hK hP) rfl rfl hl.1 rfl (lv_room (Nat.le_of_ble_eq_true rfl)) dX2_many_36 ⟨Nat.zero_le _, Nat.zero_le _⟩) ?_
          refine lv_icmp_eq (tgt := 46) hx hb dX2_many_39 (by decide) (fun c_39 => ?_) (fun c_39 => ?_)
          · refine lv_iconst (v := 0) hx hb dX2_many_46 (by decide) ?_
            refine lv_iadd hx hb dX2_many_47 ?_
            refine lv_istore_n (lv' := [(2, .int (x2 + (0 : Int32))), (3, .int (nI k)), (0, .ref (ad 83)), (1, .int p1)]) hx hb dX2_many_48 rfl hl (by decide) rfl (fun ls hl => ?_)
            refine lv_iinc (v := (nI (k + 1))) (lv' := [(3, .int (nI (k + 1))), (2, .int (x2 + (0 : Int32))), (0, .ref (ad 83)), (1, .int p1)]) hx hb dX2_many_49 hl (k := 1) rfl (nI_1 k) (by decide) rfl (fun ls hl => ?_)
            refine lv_goto (tgt := 4) hx hb dX2_many_52 (by decide) ?_
            exact ih _ _ _ ⟨(k + 1), (x2 + (0 : Int32)), by omega, by rw [← hsp, hX2_many_4_s, if_neg c_20, if_neg c_24, if_pos c_39], hP, rfl, rfl, lv_sub hl [0, 1, 2, 3] rfl⟩
          · refine lv_iconst (v := 1) hx hb dX2_many_42 (by decide) ?_
            refine lv_goto (tgt := 47) hx hb dX2_many_43 (by decide) ?_
            refine lv_iadd hx hb dX2_many_47 ?_
            refine lv_istore_n (lv' := [(2, .int (x2 + (1 : Int32))), (3, .int (nI k)), (0, .ref (ad 83)), (1, .int p1)]) hx hb dX2_many_48 rfl hl (by decide) rfl (fun ls hl => ?_)
            refine lv_iinc (v := (nI (k + 1))) (lv' := [(3, .int (nI (k + 1))), (2, .int (x2 + (1 : Int32))), (0, .ref (ad 83)), (1, .int p1)]) hx hb dX2_many_49 hl (k := 1) rfl (nI_1 k) (by decide) rfl (fun ls hl => ?_)
            refine lv_goto (tgt := 4) hx hb dX2_many_52 (by decide) ?_
            exact ih _ _ _ ⟨(k + 1), (x2 + (1 : Int32)), by omega, by rw [← hsp, hX2_many_4_s, if_neg c_20, if_neg c_24, if_neg c_39], hP, rfl, rfl, lv_sub hl [0, 1, 2, 3] rfl⟩

def xX2_whyNotTwo (s : Nat → Int32) (p1 : Int32) (p2 : Int32) : Int32 :=
  (if (xX2_isWalker s p1) = (0 : Int32) then (-100001 : Int32) else (if (xX2_isWalker s p2) = (0 : Int32) then (-100001 : Int32) else (if p1 = p2 then (-100001 : Int32) else (if (xX2_isAboard s (p1).toNatClampNeg) = (0 : Int32) then (-100002 : Int32) else (if (xX2_isAboard s (p2).toNatClampNeg) = (0 : Int32) then (-100002 : Int32) else (0 : Int32))))))
set_option maxHeartbeats 4000000 in
set_option maxRecDepth 100000 in
theorem mX2_whyNotTwo (l : Launch) (D : va_G) (cI cS : ClassId) (ad : Nat → Nat) (hI : Inj ad) (R F : Nat → Nat → Int32) (p1 : Int32) (p2 : Int32) (kw : Nat) (hkw : kw ≤ 8) (hW : R 84 1 = nI kw) : Met l yX2_whyNotTwo wsX2_whyNotTwo ({ frames := 2, cells := 0, slots := 0, locals := 43 }) (PW D cI cS ad R F [.ref (ad 83), .int p1, .int p2]) (QS (xX2_whyNotTwo (R 84) p1 p2)) 0 0 (fun _ => False) := by
  refine Met.ofW (cc := cX2_whyNotTwo) (maxL := 3) (ret := (some .int)) (by decide) rfl ?_
  intro p e s m args below meth c s₁ B hml hv
  obtain ⟨rfl, hP, hK⟩ := hv
  have hx := B.exec
  have hb := B.bytes
  have hr := B.returns
  have hts := atoms_spec (ws := wsX2_whyNotTwo) B.pre
  have hown : s.vm.findClass RX2 = some m.cls := findClass_of_methodNamed B.named
  have hlocks := B.notSynchronized
  have hS : va_S (AA ad) s.heap s.heap [] := va_S.rf
  have hl := lv_entry ([.ref (ad 83), .int p1, .int p2]) (n := 3) (Nat.le_of_ble_eq_true rfl)
  rw [lg_entry_eq]
  generalize (lg_sl ([.ref (ad 83), .int p1, .int p2]) ++ List.replicate (3 - (lg_sl ([.ref (ad 83), .int p1, .int p2])).length) Slot.unset).toArray = ls at hl ⊢
  have hl : lv_has ls 3 [(0, .ref (ad 83)), (1, .int p1), (2, .int p2)] := hl
  have lk66 := hts (.constant RX2 66 (-100001)) (by decide +kernel)
  have lk70 := hts (.constant RX2 70 (-100002)) (by decide +kernel)
  refine lv_aload_n hx hb dX2_whyNotTwo_0 rfl (lv_at hl 0 rfl) ?_
  refine lv_iload_n hx hb dX2_whyNotTwo_1 rfl (lv_at hl 1 rfl) ?_
  refine q_callS (va_runV (As := [.int p1]) (rest := []) ⟨hx, hb, hml, hown, hts⟩ (mX2_isWalker l D cI cS ad hI R F p1) (cwV 1 hts gX2_whyNotTwo_X2_isWalker rfl rfl rfl (by decide +kernel) ⟨Nat.le_of_ble_eq_true rfl, Nat.le_of_ble_eq_true rfl⟩) (PW_preV (i := 83) (by decide) CC_83 rfl rfl hK hP) rfl rfl hl.1 rfl (lv_room (Nat.le_of_ble_eq_true rfl)) dX2_whyNotTwo_2 ⟨Nat.zero_le _, Nat.zero_le _⟩) ?_
  refine lv_if_eq (tgt := 21) hx hb dX2_whyNotTwo_5 (by decide) (fun c_5 => ?_) (fun c_5 => ?_)
  · refine lv_ldc (v := -100001) hx hb hown lk66 dX2_whyNotTwo_21 ?_
    have hX : (xX2_whyNotTwo (R 84) p1 p2) = (-100001 : Int32) := by unfold xX2_whyNotTwo; rw [if_pos c_5]
    exact W.iret (v := (-100001 : Int32)) hx hb hr (fun t ht hW => ⟨by rw [hX], ht⟩) (fun _ h => by cases h) dX2_whyNotTwo_23
  · refine lv_aload_n hx hb dX2_whyNotTwo_8 rfl (lv_at hl 0 rfl) ?_
    refine lv_iload_n hx hb dX2_whyNotTwo_9 rfl (lv_at hl 2 rfl) ?_
    refine q_callS (va_runV (As := [.int p2]) (rest := []) ⟨hx, hb, hml, hown, hts⟩ (mX2_isWalker l D cI cS ad hI R F p2) (cwV 1 hts gX2_whyNotTwo_X2_isWalker rfl rfl rfl (by decide +kernel) ⟨Nat.le_of_ble_eq_true rfl, Nat.le_of_ble_eq_true rfl⟩) (PW_preV (i := 83) (by decide) CC_83 rfl rfl hK hP) rfl rfl hl.1 rfl (lv_room (Nat.le_of_ble_eq_true rfl)) dX2_whyNotTwo_10 ⟨Nat.zero_le _, Nat.zero_le _⟩) ?_
    refine lv_if_eq (tgt := 21) hx hb dX2_whyNotTwo_13 (by decide) (fun c_13 => ?_) (fun c_13 => ?_)
    · refine lv_ldc (v := -100001) hx hb hown lk66 dX2_whyNotTwo_21 ?_
      have hX : (xX2_whyNotTwo (R 84) p1 p2) = (-100001 : Int32) := by unfold xX2_whyNotTwo; rw [if_neg c_5, if_pos c_13]
      exact W.iret (v := (-100001 : Int32)) hx hb hr (fun t ht hW => ⟨by rw [hX], ht⟩) (fun _ h => by cases h) dX2_whyNotTwo_23
    · refine lv_iload_n hx hb dX2_whyNotTwo_16 rfl (lv_at hl 1 rfl) ?_
      refine lv_iload_n hx hb dX2_whyNotTwo_17 rfl (lv_at hl 2 rfl) ?_
      refine lv_icmp_ne (tgt := 24) hx hb dX2_whyNotTwo_18 (by decide) (fun c_18 => ?_) (fun c_18 => ?_)
      · obtain ⟨hp1, hl1⟩ := wk_of c_5 hW hkw
        obtain ⟨hp2, hl2⟩ := wk_of c_13 hW hkw
        refine lv_aload_n hx hb dX2_whyNotTwo_24 rfl (lv_at hl 0 rfl) ?_
        refine lv_iload_n hx hb dX2_whyNotTwo_25 rfl (lv_at hl 1 rfl) ?_
        refine q_top (y := (nI (p1).toNatClampNeg)) hp1 ?_
        refine q_callS (va_runV (As := [.int (nI (p1).toNatClampNeg)]) (rest := []) ⟨hx, hb, hml, hown, hts⟩ (mX2_isAboard l D cI cS ad hI R F (p1).toNatClampNeg (by omega)) (cwV 1 hts gX2_whyNotTwo_X2_isAboard rfl rfl rfl (by decide +kernel) ⟨Nat.le_of_ble_eq_true rfl, Nat.le_of_ble_eq_true rfl⟩) (PW_preV (i := 83) (by decide) CC_83 rfl rfl hK hP) rfl rfl hl.1 rfl (lv_room (Nat.le_of_ble_eq_true rfl)) dX2_whyNotTwo_26 ⟨Nat.zero_le _, Nat.zero_le _⟩) ?_
        refine lv_if_eq (tgt := 44) hx hb dX2_whyNotTwo_29 (by decide) (fun c_29 => ?_) (fun c_29 => ?_)
        · refine lv_ldc (v := -100002) hx hb hown lk70 dX2_whyNotTwo_44 ?_
          have hX : (xX2_whyNotTwo (R 84) p1 p2) = (-100002 : Int32) := by unfold xX2_whyNotTwo; rw [if_neg c_5, if_neg c_13, if_neg c_18, if_pos c_29]
          exact W.iret (v := (-100002 : Int32)) hx hb hr (fun t ht hW => ⟨by rw [hX], ht⟩) (fun _ h => by cases h) dX2_whyNotTwo_46
        · refine lv_aload_n hx hb dX2_whyNotTwo_32 rfl (lv_at hl 0 rfl) ?_
          refine lv_iload_n hx hb dX2_whyNotTwo_33 rfl (lv_at hl 2 rfl) ?_
          refine q_top (y := (nI (p2).toNatClampNeg)) hp2 ?_
          refine q_callS (va_runV (As := [.int (nI (p2).toNatClampNeg)]) (rest := []) ⟨hx, hb, hml, hown, hts⟩ (mX2_isAboard l D cI cS ad hI R F (p2).toNatClampNeg (by omega)) (cwV 1 hts gX2_whyNotTwo_X2_isAboard rfl rfl rfl (by decide +kernel) ⟨Nat.le_of_ble_eq_true rfl, Nat.le_of_ble_eq_true rfl⟩) (PW_preV (i := 83) (by decide) CC_83 rfl rfl hK hP) rfl rfl hl.1 rfl (lv_room (Nat.le_of_ble_eq_true rfl)) dX2_whyNotTwo_34 ⟨Nat.zero_le _, Nat.zero_le _⟩) ?_
          refine lv_if_eq (tgt := 44) hx hb dX2_whyNotTwo_37 (by decide) (fun c_37 => ?_) (fun c_37 => ?_)
          · refine lv_ldc (v := -100002) hx hb hown lk70 dX2_whyNotTwo_44 ?_
            have hX : (xX2_whyNotTwo (R 84) p1 p2) = (-100002 : Int32) := by unfold xX2_whyNotTwo; rw [if_neg c_5, if_neg c_13, if_neg c_18, if_neg c_29, if_pos c_37]
            exact W.iret (v := (-100002 : Int32)) hx hb hr (fun t ht hW => ⟨by rw [hX], ht⟩) (fun _ h => by cases h) dX2_whyNotTwo_46
          · refine lv_iconst (v := 0) hx hb dX2_whyNotTwo_40 (by decide) ?_
            refine lv_goto (tgt := 46) hx hb dX2_whyNotTwo_41 (by decide) ?_
            have hX : (xX2_whyNotTwo (R 84) p1 p2) = (0 : Int32) := by unfold xX2_whyNotTwo; rw [if_neg c_5, if_neg c_13, if_neg c_18, if_neg c_29, if_neg c_37]
            exact W.iret (v := (0 : Int32)) hx hb hr (fun t ht hW => ⟨by rw [hX], ht⟩) (fun _ h => by cases h) dX2_whyNotTwo_46
      · refine lv_ldc (v := -100001) hx hb hown lk66 dX2_whyNotTwo_21 ?_
        have hX : (xX2_whyNotTwo (R 84) p1 p2) = (-100001 : Int32) := by unfold xX2_whyNotTwo; rw [if_neg c_5, if_neg c_13, if_pos c_18]
        exact W.iret (v := (-100001 : Int32)) hx hb hr (fun t ht hW => ⟨by rw [hX], ht⟩) (fun _ h => by cases h) dX2_whyNotTwo_23

