def hX1_addShares_19 (R F : Nat → Nat → Int32) (i1 : Nat) (p2 : Int32) (p3 : Int32) : Nat → Nat → Int32 → (Nat → Nat → Int32) → (Nat → Nat → Int32)
  | 0, k, x4, R1 => (sR R1 i1 ((p3).toNatClampNeg) ((R1 i1 (p3).toNatClampNeg) + x4))
  | n + 1, k, x4, R1 => (if (xX1_isCell (xX1_nearCell p3 (nI k))) = (0 : Int32) then (hX1_addShares_19 R F i1 p2 p3 n (k + 1) x4 R1) else (hX1_addShares_19 R F i1 p2 p3 n (k + 1) (x4 - (p2 / (8 : Int32))) (sR R1 i1 (((xX1_nearCell p3 (nI k))).toNatClampNeg) ((R1 i1 ((xX1_nearCell p3 (nI k))).toNatClampNeg) + (p2 / (8 : Int32))))))
theorem hX1_addShares_19_z (R F : Nat → Nat → Int32) (i1 : Nat) (p2 : Int32) (p3 : Int32) (k : Nat) (x4 : Int32) (R1 : Nat → Nat → Int32) : hX1_addShares_19 R F i1 p2 p3 0 k x4 R1 = (sR R1 i1 ((p3).toNatClampNeg) ((R1 i1 (p3).toNatClampNeg) + x4)) := rfl
theorem hX1_addShares_19_s (R F : Nat → Nat → Int32) (i1 : Nat) (p2 : Int32) (p3 : Int32) (n : Nat) (k : Nat) (x4 : Int32) (R1 : Nat → Nat → Int32) : hX1_addShares_19 R F i1 p2 p3 (n + 1) k x4 R1 = (if (xX1_isCell (xX1_nearCell p3 (nI k))) = (0 : Int32) then (hX1_addShares_19 R F i1 p2 p3 n (k + 1) x4 R1) else (hX1_addShares_19 R F i1 p2 p3 n (k + 1) (x4 - (p2 / (8 : Int32))) (sR R1 i1 (((xX1_nearCell p3 (nI k))).toNatClampNeg) ((R1 i1 ((xX1_nearCell p3 (nI k))).toNatClampNeg) + (p2 / (8 : Int32)))))) := rfl
def xX1_addShares (R F : Nat → Nat → Int32) (i1 : Nat) (p2 : Int32) (p3 : Int32) : (Nat → Nat → Int32) :=
  (if (xX1_isCell p3) = (0 : Int32) then R else (hX1_addShares_19 R F i1 p2 p3 (5 - 1) 1 p2 R))
set_option maxHeartbeats 4000000 in
set_option maxRecDepth 100000 in
theorem mX1_addShares (l : Launch) (D : va_G) (cI cS : ClassId) (ad : Nat → Nat) (hI : Inj ad) (R F : Nat → Nat → Int32) (i1 : Nat) (p2 : Int32) (p3 : Int32) (hi1 : Ar i1 24) : Met l yX1_addShares wsX1_addShares ({ frames := 1, cells := 0, slots := 0, locals := 22 }) (PW D cI cS ad R F [.ref (ad i1), .int p2, .int p3]) (QV D cI cS ad (xX1_addShares R F i1 p2 p3) F) 0 0 (AA ad) := by
  refine Met.ofW (cc := cX1_addShares) (maxL := 7) (ret := none) (by decide) rfl ?_
  intro p e s m args below meth c s₁ B hml hv
  obtain ⟨rfl, hP, hK⟩ := hv
  have hx := B.exec
  have hb := B.bytes
  have hr := B.returns
  have hts := atoms_spec (ws := wsX1_addShares) B.pre
  have hown : s.vm.findClass RX1 = some m.cls := findClass_of_methodNamed B.named
  have hlocks := B.notSynchronized
  have hS : va_S (AA ad) s.heap s.heap [] := va_S.rf
  have hl := lv_entry ([.ref (ad i1), .int p2, .int p3]) (n := 7) (Nat.le_of_ble_eq_true rfl)
  rw [lg_entry_eq]
  generalize (lg_sl ([.ref (ad i1), .int p2, .int p3]) ++ List.replicate (7 - (lg_sl ([.ref (ad i1), .int p2, .int p3])).length) Slot.unset).toArray = ls at hl ⊢
  have hl : lv_has ls 7 [(0, .ref (ad i1)), (1, .int p2), (2, .int p3)] := hl
  refine lv_iload_n hx hb dX1_addShares_0 rfl (lv_at hl 2 rfl) ?_
  refine q_callS (va_runS (As := [.int p3]) (rest := []) ⟨hx, hb, hml, hown, hts⟩ (mX1_isCell l D cI cS ad hI R F p3) (va_cwS 1 hts gX1_addShares_X1_isCell rfl rfl rfl (by decide +kernel) ⟨Nat.le_of_ble_eq_true rfl, Nat.le_of_ble_eq_true rfl⟩) (PW_preS hK hP) rfl rfl hl.1 rfl (lv_room (Nat.le_of_ble_eq_true rfl)) dX1_addShares_1 ⟨Nat.zero_le _, Nat.zero_le _⟩) ?_
  refine lv_if_ne (tgt := 8) hx hb dX1_addShares_4 (by decide) (fun c_4 => ?_) (fun c_4 => ?_)
  · refine lv_iload_n hx hb dX1_addShares_8 rfl (lv_at hl 1 rfl) ?_
    refine lv_bipush (v := 8) hx hb dX1_addShares_9 (by decide) ?_
    refine lv_idiv hx hb dX1_addShares_11 (by decide) ?_
    refine lv_istore_n (lv' := [(3, .int (p2 / (8 : Int32))), (0, .ref (ad i1)), (1, .int p2), (2, .int p3)]) hx hb dX1_addShares_12 rfl hl (by decide) rfl (fun ls hl => ?_)
    refine lv_iload_n hx hb dX1_addShares_13 rfl (lv_at hl 2 rfl) ?_
    refine lv_istore (lv' := [(4, .int p2), (3, .int (p2 / (8 : Int32))), (0, .ref (ad i1)), (1, .int p2), (2, .int p3)]) hx hb dX1_addShares_14 hl (by decide) rfl (fun ls hl => ?_)
    refine lv_iconst (v := 1) hx hb dX1_addShares_16 (by decide) ?_
    refine lv_istore (lv' := [(5, .int (1 : Int32)), (4, .int p2), (3, .int (p2 / (8 : Int32))), (0, .ref (ad i1)), (1, .int p2), (2, .int p3)]) hx hb dX1_addShares_17 hl (by decide) rfl (fun ls hl => ?_)
    refine q_loop (fun nn H locs ls => ∃ (k : Nat) (x4 : Int32) (R1 : Nat → Nat → Int32), k + nn = 5 ∧ hX1_addShares_19 R F i1 p2 p3 nn k x4 R1 = (xX1_addShares R F i1 p2 p3) ∧ WP D cI cS ad R1 F H ∧ va_S (AA ad) s.heap H locs ∧ lv_has ls 7 [(5, .int (nI k)), (4, .int x4), (3, .int (p2 / (8 : Int32))), (0, .ref (ad i1)), (1, .int p2), (2, .int p3)]) (5 - 1) ⟨1, p2, R, by omega, by unfold xX1_addShares; rw [if_neg c_4], hP, hS, lv_sub hl [0, 1, 2, 3, 4, 5] rfl⟩ ?_ ?_
    · intro H locs ls hz
      obtain ⟨k, x4, R1, hkn, hsp, hP, hS, hl⟩ := hz
      refine lv_iload hx hb dX1_addShares_19 (lv_at hl 0 rfl) ?_
      refine lv_iconst (v := 5) hx hb dX1_addShares_21 (by decide) ?_
      refine lv_icmp_ge (tgt := 61) hx hb dX1_addShares_22 (by decide) (fun c_22 => ?_) (fun c_22 => ?_)
      · refine lv_aload_n hx hb dX1_addShares_61 rfl (lv_at hl 3 rfl) ?_
        refine lv_iload_n hx hb dX1_addShares_62 rfl (lv_at hl 5 rfl) ?_
        refine lv_dup2_11 hx hb dX1_addShares_63 rfl rfl ?_
        refine q_ild hx hb hK hP i1 24 hi1 dX1_addShares_64 (by first | assumption | exact isCell_in (by assumption) | exact isWalker_in (by assumption) | exact isAboard_in (by assumption) | exact isPair_in1 (by assumption) | exact isPair_in2 (by assumption) | exact isWithin7_in (by assumption) | exact vp_in_nI (by omega) (by decide)) ?_
        refine lv_iload hx hb dX1_addShares_65 (lv_at hl 1 rfl) ?_
        refine lv_iadd hx hb dX1_addShares_67 ?_
        refine q_ist hx hb hK hI hP hS i1 24 hi1 dX1_addShares_68 (by first | assumption | exact isCell_in (by assumption) | exact isWalker_in (by assumption) | exact isAboard_in (by assumption) | exact isPair_in1 (by assumption) | exact isPair_in2 (by assumption) | exact isWithin7_in (by assumption) | exact vp_in_nI (by omega) (by decide)) (fun H locs hP hS => ?_)
        have hP : WP D cI cS ad (sR R1 i1 ((p3).toNatClampNeg) ((R1 i1 (p3).toNatClampNeg) + x4)) F H := hP
        have hX : (xX1_addShares R F i1 p2 p3) = (sR R1 i1 ((p3).toNatClampNeg) ((R1 i1 (p3).toNatClampNeg) + x4)) := by rw [← hsp, hX1_addShares_19_z]
        exact W.vret hx hb hr (fun t ht hW => ⟨rfl, by rw [hX, ht]; with_reducible exact hP, hS.F ht⟩) hS.2.2 dX1_addShares_69
      · exact absurd (nI_le (a := 5) (b := k) (by omega) (by omega)) c_22
    · intro n ih H locs ls hz
      obtain ⟨k, x4, R1, hkn, hsp, hP, hS, hl⟩ := hz
      refine lv_iload hx hb dX1_addShares_19 (lv_at hl 0 rfl) ?_
      refine lv_iconst (v := 5) hx hb dX1_addShares_21 (by decide) ?_
      refine lv_icmp_ge (tgt := 61) hx hb dX1_addShares_22 (by decide) (fun c_22 => ?_) (fun c_22 => ?_)
      · exact absurd c_22 (nI_ge (a := k) (b := 5) (by omega) (by omega))
      · refine lv_iload_n hx hb dX1_addShares_25 rfl (lv_at hl 5 rfl) ?_
        refine lv_iload hx hb dX1_addShares_26 (lv_at hl 0 rfl) ?_
        refine q_callS (va_runS (As := [.int p3, .int (nI k)]) (rest := []) ⟨hx, hb, hml, hown, hts⟩ (mX1_nearCell l D cI cS ad hI R1 F p3 (nI k)) (va_cwS 2 hts gX1_addShares_X1_nearCell rfl rfl rfl (by decide +kernel) ⟨Nat.le_of_ble_eq_true rfl, Nat.le_of_ble_eq_true rfl⟩) (PW_preS hK hP) rfl rfl hl.1 rfl (lv_room (Nat.le_of_ble_eq_true rfl)) dX1_addShares_28 ⟨Nat.zero_le _, Nat.zero_le _⟩) ?_
        refine lv_istore (lv' := [(6, .int (xX1_nearCell p3 (nI k))), (5, .int (nI k)), (4, .int x4), (3, .int (p2 / (8 : Int32))), (0, .ref (ad i1)), (1, .int p2), (2, .int p3)]) hx hb dX1_addShares_31 hl (by decide) rfl (fun ls hl => ?_)
        refine lv_iload hx hb dX1_addShares_33 (lv_at hl 0 rfl) ?_
        refine q_callS (va_runS (As := [.int (xX1_nearCell p3 (nI k))]) (rest := []) ⟨hx, hb, hml, hown, hts⟩ (mX1_isCell l D cI cS ad hI R1 F (xX1_nearCell p3 (nI k))) (va_cwS 1 hts gX1_addShares_X1_isCell rfl rfl rfl (by decide +kernel) ⟨Nat.le_of_ble_eq_true rfl, Nat.le_of_ble_eq_true rfl⟩) (PW_preS hK hP) rfl rfl hl.1 rfl (lv_room (Nat.le_of_ble_eq_true rfl)) dX1_addShares_35 ⟨Nat.zero_le _, Nat.zero_le _⟩) ?_
        refine lv_if_eq (tgt := 55) hx hb dX1_addShares_38 (by decide) (fun c_38 => ?_) (fun c_38 => ?_)
        · refine lv_iinc (v := (nI (k + 1))) (lv' := [(5, .int (nI (k + 1))), (6, .int (xX1_nearCell p3 (nI k))), (4, .int x4), (3, .int (p2 / (8 : Int32))), (0, .ref (ad i1)), (1, .int p2), (2, .int p3)]) hx hb dX1_addShares_55 hl (k := 1) rfl (nI_1 k) (by decide) rfl (fun ls hl => ?_)
          refine lv_goto (tgt := 19) hx hb dX1_addShares_58 (by decide) ?_
          exact ih _ _ _ ⟨(k + 1), x4, R1, by omega, by rw [← hsp, hX1_addShares_19_s, if_pos c_38], hP, hS, lv_sub hl [0, 2, 3, 4, 5, 6] rfl⟩
        · refine lv_aload_n hx hb dX1_addShares_41 rfl (lv_at hl 4 rfl) ?_
          refine lv_iload hx hb dX1_addShares_42 (lv_at hl 0 rfl) ?_
          refine lv_dup2_11 hx hb dX1_addShares_44 rfl rfl ?_
          refine q_ild hx hb hK hP i1 24 hi1 dX1_addShares_45 (by first | assumption | exact isCell_in (by assumption) | exact isWalker_in (by assumption) | exact isAboard_in (by assumption) | exact isPair_in1 (by assumption) | exact isPair_in2 (by assumption) | exact isWithin7_in (by assumption) | exact vp_in_nI (by omega) (by decide)) ?_
          refine lv_iload_n hx hb dX1_addShares_46 rfl (lv_at hl 3 rfl) ?_
          refine lv_iadd hx hb dX1_addShares_47 ?_
          refine q_ist hx hb hK hI hP hS i1 24 hi1 dX1_addShares_48 (by first | assumption | exact isCell_in (by assumption) | exact isWalker_in (by assumption) | exact isAboard_in (by assumption) | exact isPair_in1 (by assumption) | exact isPair_in2 (by assumption) | exact isWithin7_in (by assumption) | exact vp_in_nI (by omega) (by decide)) (fun H locs hP hS => ?_)
          have hP : WP D cI cS ad (sR R1 i1 (((xX1_nearCell p3 (nI k))).toNatClampNeg) ((R1 i1 ((xX1_nearCell p3 (nI k))).toNatClampNeg) + (p2 / (8 : Int32)))) F H := hP
          refine lv_iload hx hb dX1_addShares_49 (lv_at hl 2 rfl) ?_
          refine lv_iload_n hx hb dX1_addShares_51 rfl (lv_at hl 3 rfl) ?_
          refine lv_isub hx hb dX1_addShares_52 ?_
          refine lv_istore (lv' := [(4, .int (x4 - (p2 / (8 : Int32)))), (6, .int (xX1_nearCell p3 (nI k))), (5, .int (nI k)), (3, .int (p2 / (8 : Int32))), (0, .ref (ad i1)), (1, .int p2), (2, .int p3)]) hx hb dX1_addShares_53 hl (by decide) rfl (fun ls hl => ?_)
          refine lv_iinc (v := (nI (k + 1))) (lv' := [(5, .int (nI (k + 1))), (4, .int (x4 - (p2 / (8 : Int32)))), (6, .int (xX1_nearCell p3 (nI k))), (3, .int (p2 / (8 : Int32))), (0, .ref (ad i1)), (1, .int p2), (2, .int p3)]) hx hb dX1_addShares_55 hl (k := 2) rfl (nI_1 k) (by decide) rfl (fun ls hl => ?_)
          refine lv_goto (tgt := 19) hx hb dX1_addShares_58 (by decide) ?_
          exact ih _ _ _ ⟨(k + 1), (x4 - (p2 / (8 : Int32))), (sR R1 i1 (((xX1_nearCell p3 (nI k))).toNatClampNeg) ((R1 i1 ((xX1_nearCell p3 (nI k))).toNatClampNeg) + (p2 / (8 : Int32)))), by omega, by rw [← hsp, hX1_addShares_19_s, if_neg c_38], hP, hS, lv_sub hl [0, 1, 3, 4, 5, 6] rfl⟩
  · have hX : (xX1_addShares R F i1 p2 p3) = R := by unfold xX1_addShares; rw [if_pos c_4]
    exact W.vret hx hb hr (fun t ht hW => ⟨rfl, by rw [hX, ht]; with_reducible exact hP, hS.F ht⟩) hS.2.2 dX1_addShares_7

def hX1_addAllShares_2 (R F : Nat → Nat → Int32) (i1 : Nat) (i2 : Nat) (i3 : Nat) : Nat → Nat → (Nat → Nat → Int32) → (Nat → Nat → Int32)
  | 0, k, R1 => R1
  | n + 1, k, R1 => (hX1_addAllShares_2 R F i1 i2 i3 n (k + 1) (xX1_addShares R1 F i1 (R1 i2 k) (R1 i3 k)))
theorem hX1_addAllShares_2_z (R F : Nat → Nat → Int32) (i1 : Nat) (i2 : Nat) (i3 : Nat) (k : Nat) (R1 : Nat → Nat → Int32) : hX1_addAllShares_2 R F i1 i2 i3 0 k R1 = R1 := rfl
theorem hX1_addAllShares_2_s (R F : Nat → Nat → Int32) (i1 : Nat) (i2 : Nat) (i3 : Nat) (n : Nat) (k : Nat) (R1 : Nat → Nat → Int32) : hX1_addAllShares_2 R F i1 i2 i3 (n + 1) k R1 = (hX1_addAllShares_2 R F i1 i2 i3 n (k + 1) (xX1_addShares R1 F i1 (R1 i2 k) (R1 i3 k))) := rfl
def xX1_addAllShares (R F : Nat → Nat → Int32) (i1 : Nat) (i2 : Nat) (i3 : Nat) : (Nat → Nat → Int32) :=
  (hX1_addAllShares_2 R F i1 i2 i3 8 0 R)
set_option maxHeartbeats 4000000 in
set_option maxRecDepth 100000 in
theorem mX1_addAllShares (l : Launch) (D : va_G) (cI cS : ClassId) (ad : Nat → Nat) (hI : Inj ad) (R F : Nat → Nat → Int32) (i1 : Nat) (i2 : Nat) (i3 : Nat) (hi1 : Ar i1 24) (hi2 : Ar i2 8) (hi3 : Ar i3 8) : Met l yX1_addAllShares wsX1_addAllShares ({ frames := 2, cells := 0, slots := 0, locals := 48 }) (PW D cI cS ad R F [.ref (ad i1), .ref (ad i2), .ref (ad i3)]) (QV D cI cS ad (xX1_addAllShares R F i1 i2 i3) F) 0 0 (AA ad) := by
  refine Met.ofW (cc := cX1_addAllShares) (maxL := 4) (ret := none) (by decide) rfl ?_
  intro p e s m args below meth c s₁ B hml hv
  obtain ⟨rfl, hP, hK⟩ := hv
  have hx := B.exec
  have hb := B.bytes
  have hr := B.returns
  have hts := atoms_spec (ws := wsX1_addAllShares) B.pre
  have hown : s.vm.findClass RX1 = some m.cls := findClass_of_methodNamed B.named
  have hlocks := B.notSynchronized
  have hS : va_S (AA ad) s.heap s.heap [] := va_S.rf
  have hl := lv_entry ([.ref (ad i1), .ref (ad i2), .ref (ad i3)]) (n := 4) (Nat.le_of_ble_eq_true rfl)
  rw [lg_entry_eq]
  generalize (lg_sl ([.ref (ad i1), .ref (ad i2), .ref (ad i3)]) ++ List.replicate (4 - (lg_sl ([.ref (ad i1), .ref (ad i2), .ref (ad i3)])).length) Slot.unset).toArray = ls at hl ⊢
  have hl : lv_has ls 4 [(0, .ref (ad i1)), (1, .ref (ad i2)), (2, .ref (ad i3))] := hl
  refine lv_iconst (v := 0) hx hb dX1_addAllShares_0 (by decide) ?_
  refine lv_istore_n (lv' := [(3, .int (0 : Int32)), (0, .ref (ad i1)), (1, .ref (ad i2)), (2, .ref (ad i3))]) hx hb dX1_addAllShares_1 rfl hl (by decide) rfl (fun ls hl => ?_)
  refine q_loop (fun nn H locs ls => ∃ (k : Nat) (R1 : Nat → Nat → Int32), k + nn = 8 ∧ hX1_addAllShares_2 R F i1 i2 i3 nn k R1 = (xX1_addAllShares R F i1 i2 i3) ∧ WP D cI cS ad R1 F H ∧ va_S (AA ad) s.heap H locs ∧ lv_has ls 4 [(3, .int (nI k)), (0, .ref (ad i1)), (1, .ref (ad i2)), (2, .ref (ad i3))]) 8 ⟨0, R, by omega, by unfold xX1_addAllShares; rfl, hP, hS, lv_sub hl [0, 1, 2, 3] rfl⟩ ?_ ?_
  · intro H locs ls hz
    obtain ⟨k, R1, hkn, hsp, hP, hS, hl⟩ := hz
    refine lv_iload_n hx hb dX1_addAllShares_2 rfl (lv_at hl 0 rfl) ?_
    refine lv_bipush (v := 8) hx hb dX1_addAllShares_3 (by decide) ?_
    refine lv_icmp_ge (tgt := 24) hx hb dX1_addAllShares_5 (by decide) (fun c_5 => ?_) (fun c_5 => ?_)
    · have hX : (xX1_addAllShares R F i1 i2 i3) = R1 := by rw [← hsp, hX1_addAllShares_2_z]
      exact W.vret hx hb hr (fun t ht hW => ⟨rfl, by rw [hX, ht]; with_reducible exact hP, hS.F ht⟩) hS.2.2 dX1_addAllShares_24
    · exact absurd (nI_le (a := 8) (b := k) (by omega) (by omega)) c_5
  · intro n ih H locs ls hz
    obtain ⟨k, R1, hkn, hsp, hP, hS, hl⟩ := hz
    refine lv_iload_n hx hb dX1_addAllShares_2 rfl (lv_at hl 0 rfl) ?_
    refine lv_bipush (v := 8) hx hb dX1_addAllShares_3 (by decide) ?_
    refine lv_icmp_ge (tgt := 24) hx hb dX1_addAllShares_5 (by decide) (fun c_5 => ?_) (fun c_5 => ?_)
    · exact absurd c_5 (nI_ge (a := k) (b := 8) (by omega) (by omega))
    · refine lv_aload_n hx hb dX1_addAllShares_8 rfl (lv_at hl 1 rfl) ?_
      refine lv_aload_n hx hb dX1_addAllShares_9 rfl (lv_at hl 2 rfl) ?_
      refine lv_iload_n hx hb dX1_addAllShares_10 rfl (lv_at hl 0 rfl) ?_
      refine q_ildN hx hb hK hP i2 8 hi2 k dX1_addAllShares_11 rfl (by omega) (by decide) ?_
      refine lv_aload_n hx hb dX1_addAllShares_12 rfl (lv_at hl 3 rfl) ?_
      refine lv_iload_n hx hb dX1_addAllShares_13 rfl (lv_at hl 0 rfl) ?_
      refine q_ildN hx hb hK hP i3 8 hi3 k dX1_addAllShares_14 rfl (by omega) (by decide) ?_
      refine q_callV (va_runS (As := [.ref (ad i1), .int (R1 i2 k), .int (R1 i3 k)]) (rest := []) ⟨hx, hb, hml, hown, hts⟩ (mX1_addShares l D cI cS ad hI R1 F i1 (R1 i2 k) (R1 i3 k) hi1) (va_cwS 3 hts gX1_addAllShares_X1_addShares rfl rfl rfl (by decide +kernel) ⟨Nat.le_of_ble_eq_true rfl, Nat.le_of_ble_eq_true rfl⟩) (PW_preS hK hP) rfl rfl hl.1 rfl (lv_room (Nat.le_of_ble_eq_true rfl)) dX1_addAllShares_15 ⟨Nat.zero_le _, Nat.zero_le _⟩) hS (fun H locs hP hS => ?_)
      refine lv_iinc (v := (nI (k + 1))) (lv' := [(3, .int (nI (k + 1))), (0, .ref (ad i1)), (1, .ref (ad i2)), (2, .ref (ad i3))]) hx hb dX1_addAllShares_18 hl (k := 0) rfl (nI_1 k) (by decide) rfl (fun ls hl => ?_)
      refine lv_goto (tgt := 2) hx hb dX1_addAllShares_21 (by decide) ?_
      exact ih _ _ _ ⟨(k + 1), (xX1_addShares R1 F i1 (R1 i2 k) (R1 i3 k)), by omega, by rw [← hsp, hX1_addAllShares_2_s], hP, hS, lv_sub hl [0, 1, 2, 3] rfl⟩

def xX1_weighAll (R F : Nat → Nat → Int32) : (Nat → Nat → Int32) :=
  (xX1_addAllShares (xX1_copyRow R F 2 15 24) F 15 6 7)
set_option maxHeartbeats 4000000 in
set_option maxRecDepth 100000 in
theorem mX1_weighAll (l : Launch) (D : va_G) (cI cS : ClassId) (ad : Nat → Nat) (hI : Inj ad) (R F : Nat → Nat → Int32)  : Met l yX1_weighAll wsX1_weighAll ({ frames := 3, cells := 0, slots := 0, locals := 71 }) (PW D cI cS ad R F [.ref (ad 0)]) (QV D cI cS ad (xX1_weighAll R F) F) 0 0 (AA ad) := by
  refine Met.ofW (cc := cX1_weighAll) (maxL := 1) (ret := none) (by decide) rfl ?_
  intro p e s m args below meth c s₁ B hml hv
  obtain ⟨rfl, hP, hK⟩ := hv
  have hx := B.exec
  have hb := B.bytes
  have hr := B.returns
  have hts := atoms_spec (ws := wsX1_weighAll) B.pre
  have hown : s.vm.findClass RX1 = some m.cls := findClass_of_methodNamed B.named
  have hlocks := B.notSynchronized
  have hS : va_S (AA ad) s.heap s.heap [] := va_S.rf
  have hl := lv_entry ([.ref (ad 0)]) (n := 1) (Nat.le_of_ble_eq_true rfl)
  rw [lg_entry_eq]
  generalize (lg_sl ([.ref (ad 0)]) ++ List.replicate (1 - (lg_sl ([.ref (ad 0)])).length) Slot.unset).toArray = ls at hl ⊢
  have hl : lv_has ls 1 [(0, .ref (ad 0))] := hl
  have lk10 := hts (.fieldLink RX1 10 "FerryFloor" "now" "LFerryFloor$State;") (by decide +kernel)
  have lk56 := hts (.fieldLink RX1 56 "FerryFloor$State" "zeros" "[I") (by decide +kernel)
  have lk27 := hts (.fieldLink RX1 27 "FerryFloor" "readings" "[I") (by decide +kernel)
  have lk83 := hts (.fieldLink RX1 83 "FerryFloor$State" "weights" "[I") (by decide +kernel)
  have lk71 := hts (.fieldLink RX1 71 "FerryFloor$State" "places" "[I") (by decide +kernel)
  have hin1 : ∀ w ∈ u_ws RX1 TX1 7, w ∈ wsX1_weighAll := by decide +kernel
  have hin0 : ∀ w ∈ u_ws RX0 TX0 15, w ∈ wsX1_weighAll := by decide +kernel
  refine lv_aload_n hx hb dX1_weighAll_0 rfl (lv_at hl 0 rfl) ?_
  refine q_getF (v := .ref (ad 1)) hx hb hts hin1 hown hK hP 0 (by decide) lk10 (fun _ h => h) rfl dX1_weighAll_1 ?_
  refine q_getS (v := .ref (ad 2)) hx hb hts hin0 hown hK hP 1 st_1 3 (by decide) lk56 (fun _ h => h) rfl dX1_weighAll_4 ?_
  refine lv_aload_n hx hb dX1_weighAll_7 rfl (lv_at hl 0 rfl) ?_
  refine q_getF (v := .ref (ad 15)) hx hb hts hin1 hown hK hP 4 (by decide) lk27 (fun _ h => h) rfl dX1_weighAll_8 ?_
  refine q_callV (va_runS (As := [.ref (ad 2), .ref (ad 15)]) (rest := []) ⟨hx, hb, hml, hown, hts⟩ (mX1_copyRow l D cI cS ad hI R F 2 15 24 (ar_2) (ar_15) (by decide)) (va_cwS 2 hts gX1_weighAll_X1_copyRow rfl rfl rfl (by decide +kernel) ⟨Nat.le_of_ble_eq_true rfl, Nat.le_of_ble_eq_true rfl⟩) (PW_preS hK hP) rfl rfl hl.1 rfl (lv_room (Nat.le_of_ble_eq_true rfl)) dX1_weighAll_11 ⟨Nat.zero_le _, Nat.zero_le _⟩) hS (fun H locs hP hS => ?_)
  refine lv_aload_n hx hb dX1_weighAll_14 rfl (lv_at hl 0 rfl) ?_
  refine q_getF (v := .ref (ad 15)) hx hb hts hin1 hown hK hP 4 (by decide) lk27 (fun _ h => h) rfl dX1_weighAll_15 ?_
  refine lv_aload_n hx hb dX1_weighAll_18 rfl (lv_at hl 0 rfl) ?_
  refine q_getF (v := .ref (ad 1)) hx hb hts hin1 hown hK hP 0 (by decide) lk10 (fun _ h => h) rfl dX1_weighAll_19 ?_
  refine q_getS (v := .ref (ad 6)) hx hb hts hin0 hown hK hP 1 st_1 7 (by decide) lk83 (fun _ h => h) rfl dX1_weighAll_22 ?_
  refine lv_aload_n hx hb dX1_weighAll_25 rfl (lv_at hl 0 rfl) ?_
  refine q_getF (v := .ref (ad 1)) hx hb hts hin1 hown hK hP 0 (by decide) lk10 (fun _ h => h) rfl dX1_weighAll_26 ?_
  refine q_getS (v := .ref (ad 7)) hx hb hts hin0 hown hK hP 1 st_1 8 (by decide) lk71 (fun _ h => h) rfl dX1_weighAll_29 ?_
  refine q_callV (va_runS (As := [.ref (ad 15), .ref (ad 6), .ref (ad 7)]) (rest := []) ⟨hx, hb, hml, hown, hts⟩ (mX1_addAllShares l D cI cS ad hI (xX1_copyRow R F 2 15 24) F 15 6 7 (ar_15) (ar_6) (ar_7)) (va_cwS 3 hts gX1_weighAll_X1_addAllShares rfl rfl rfl (by decide +kernel) ⟨Nat.le_of_ble_eq_true rfl, Nat.le_of_ble_eq_true rfl⟩) (PW_preS hK hP) rfl rfl hl.1 rfl (lv_room (Nat.le_of_ble_eq_true rfl)) dX1_weighAll_32 ⟨Nat.zero_le _, Nat.zero_le _⟩) hS (fun H locs hP hS => ?_)
  have hX : (xX1_weighAll R F) = (xX1_addAllShares (xX1_copyRow R F 2 15 24) F 15 6 7) := by unfold xX1_weighAll; rfl
  exact W.vret hx hb hr (fun t ht hW => ⟨rfl, by rw [hX, ht]; with_reducible exact hP, hS.F ht⟩) hS.2.2 dX1_weighAll_35

def xX1_expectAll (R F : Nat → Nat → Int32) (i1 : Nat) : (Nat → Nat → Int32) :=
  (xX1_addAllShares (xX1_copyRow R F 4 16 24) F 16 8 i1)
set_option maxHeartbeats 4000000 in
set_option maxRecDepth 100000 in
theorem mX1_expectAll (l : Launch) (D : va_G) (cI cS : ClassId) (ad : Nat → Nat) (hI : Inj ad) (R F : Nat → Nat → Int32) (i1 : Nat) (hi1 : Ar i1 8) : Met l yX1_expectAll wsX1_expectAll ({ frames := 3, cells := 0, slots := 0, locals := 71 }) (PW D cI cS ad R F [.ref (ad 0), .ref (ad i1)]) (QV D cI cS ad (xX1_expectAll R F i1) F) 0 0 (AA ad) := by
  refine Met.ofW (cc := cX1_expectAll) (maxL := 2) (ret := none) (by decide) rfl ?_
  intro p e s m args below meth c s₁ B hml hv
  obtain ⟨rfl, hP, hK⟩ := hv
  have hx := B.exec
  have hb := B.bytes
  have hr := B.returns
  have hts := atoms_spec (ws := wsX1_expectAll) B.pre
  have hown : s.vm.findClass RX1 = some m.cls := findClass_of_methodNamed B.named
  have hlocks := B.notSynchronized
  have hS : va_S (AA ad) s.heap s.heap [] := va_S.rf
  have hl := lv_entry ([.ref (ad 0), .ref (ad i1)]) (n := 2) (Nat.le_of_ble_eq_true rfl)
  rw [lg_entry_eq]
  generalize (lg_sl ([.ref (ad 0), .ref (ad i1)]) ++ List.replicate (2 - (lg_sl ([.ref (ad 0), .ref (ad i1)])).length) Slot.unset).toArray = ls at hl ⊢
  have hl : lv_has ls 2 [(0, .ref (ad 0)), (1, .ref (ad i1))] := hl
  have lk10 := hts (.fieldLink RX1 10 "FerryFloor" "now" "LFerryFloor$State;") (by decide +kernel)
  have lk62 := hts (.fieldLink RX1 62 "FerryFloor$State" "tares" "[I") (by decide +kernel)
  have lk31 := hts (.fieldLink RX1 31 "FerryFloor" "expected" "[I") (by decide +kernel)
  have lk86 := hts (.fieldLink RX1 86 "FerryFloor$State" "bookWeights" "[I") (by decide +kernel)
  have hin1 : ∀ w ∈ u_ws RX1 TX1 7, w ∈ wsX1_expectAll := by decide +kernel
  have hin0 : ∀ w ∈ u_ws RX0 TX0 15, w ∈ wsX1_expectAll := by decide +kernel
  refine lv_aload_n hx hb dX1_expectAll_0 rfl (lv_at hl 0 rfl) ?_
  refine q_getF (v := .ref (ad 1)) hx hb hts hin1 hown hK hP 0 (by decide) lk10 (fun _ h => h) rfl dX1_expectAll_1 ?_
  refine q_getS (v := .ref (ad 4)) hx hb hts hin0 hown hK hP 1 st_1 5 (by decide) lk62 (fun _ h => h) rfl dX1_expectAll_4 ?_
  refine lv_aload_n hx hb dX1_expectAll_7 rfl (lv_at hl 0 rfl) ?_
  refine q_getF (v := .ref (ad 16)) hx hb hts hin1 hown hK hP 5 (by decide) lk31 (fun _ h => h) rfl dX1_expectAll_8 ?_
  refine q_callV (va_runS (As := [.ref (ad 4), .ref (ad 16)]) (rest := []) ⟨hx, hb, hml, hown, hts⟩ (mX1_copyRow l D cI cS ad hI R F 4 16 24 (ar_4) (ar_16) (by decide)) (va_cwS 2 hts gX1_expectAll_X1_copyRow rfl rfl rfl (by decide +kernel) ⟨Nat.le_of_ble_eq_true rfl, Nat.le_of_ble_eq_true rfl⟩) (PW_preS hK hP) rfl rfl hl.1 rfl (lv_room (Nat.le_of_ble_eq_true rfl)) dX1_expectAll_11 ⟨Nat.zero_le _, Nat.zero_le _⟩) hS (fun H locs hP hS => ?_)
  refine lv_aload_n hx hb dX1_expectAll_14 rfl (lv_at hl 0 rfl) ?_
  refine q_getF (v := .ref (ad 16)) hx hb hts hin1 hown hK hP 5 (by decide) lk31 (fun _ h => h) rfl dX1_expectAll_15 ?_
  refine lv_aload_n hx hb dX1_expectAll_18 rfl (lv_at hl 0 rfl) ?_
  refine q_getF (v := .ref (ad 1)) hx hb hts hin1 hown hK hP 0 (by decide) lk10 (fun _ h => h) rfl dX1_expectAll_19 ?_
  refine q_getS (v := .ref (ad 8)) hx hb hts hin0 hown hK hP 1 st_1 9 (by decide) lk86 (fun _ h => h) rfl dX1_expectAll_22 ?_
  refine lv_aload_n hx hb dX1_expectAll_25 rfl (lv_at hl 1 rfl) ?_
  refine q_callV (va_runS (As := [.ref (ad 16), .ref (ad 8), .ref (ad i1)]) (rest := []) ⟨hx, hb, hml, hown, hts⟩ (mX1_addAllShares l D cI cS ad hI (xX1_copyRow R F 4 16 24) F 16 8 i1 (ar_16) (ar_8) hi1) (va_cwS 3 hts gX1_expectAll_X1_addAllShares rfl rfl rfl (by decide +kernel) ⟨Nat.le_of_ble_eq_true rfl, Nat.le_of_ble_eq_true rfl⟩) (PW_preS hK hP) rfl rfl hl.1 rfl (lv_room (Nat.le_of_ble_eq_true rfl)) dX1_expectAll_26 ⟨Nat.zero_le _, Nat.zero_le _⟩) hS (fun H locs hP hS => ?_)
  have hX : (xX1_expectAll R F i1) = (xX1_addAllShares (xX1_copyRow R F 4 16 24) F 16 8 i1) := by unfold xX1_expectAll; rfl
  exact W.vret hx hb hr (fun t ht hW => ⟨rfl, by rw [hX, ht]; with_reducible exact hP, hS.F ht⟩) hS.2.2 dX1_expectAll_29

def hX1_earliestTare_10 (R F : Nat → Nat → Int32) (p1 : Int32) : Nat → Nat → Int32 → Int32
  | 0, k, x2 => x2
  | n + 1, k, x2 => (if (xX1_isCell (xX1_nearCell p1 (nI k))) = (0 : Int32) then (hX1_earliestTare_10 R F p1 n (k + 1) x2) else (hX1_earliestTare_10 R F p1 n (k + 1) (if (R 5 ((xX1_nearCell p1 (nI k))).toNatClampNeg) < x2 then (R 5 ((xX1_nearCell p1 (nI k))).toNatClampNeg) else x2)))
theorem hX1_earliestTare_10_z (R F : Nat → Nat → Int32) (p1 : Int32) (k : Nat) (x2 : Int32) : hX1_earliestTare_10 R F p1 0 k x2 = x2 := rfl
theorem hX1_earliestTare_10_s (R F : Nat → Nat → Int32) (p1 : Int32) (n : Nat) (k : Nat) (x2 : Int32) : hX1_earliestTare_10 R F p1 (n + 1) k x2 = (if (xX1_isCell (xX1_nearCell p1 (nI k))) = (0 : Int32) then (hX1_earliestTare_10 R F p1 n (k + 1) x2) else (hX1_earliestTare_10 R F p1 n (k + 1) (if (R 5 ((xX1_nearCell p1 (nI k))).toNatClampNeg) < x2 then (R 5 ((xX1_nearCell p1 (nI k))).toNatClampNeg) else x2))) := rfl
def xX1_earliestTare (R F : Nat → Nat → Int32) (p1 : Int32) : Int32 :=
  (hX1_earliestTare_10 R F p1 5 0 (F 1 0))
set_option maxHeartbeats 4000000 in
set_option maxRecDepth 100000 in
theorem mX1_earliestTare (l : Launch) (D : va_G) (cI cS : ClassId) (ad : Nat → Nat) (hI : Inj ad) (R F : Nat → Nat → Int32) (p1 : Int32) : Met l yX1_earliestTare wsX1_earliestTare ({ frames := 1, cells := 0, slots := 0, locals := 22 }) (PW D cI cS ad R F [.ref (ad 0), .int p1]) (QS (xX1_earliestTare R F p1)) 0 0 (fun _ => False) := by
  refine Met.ofW (cc := cX1_earliestTare) (maxL := 5) (ret := (some .int)) (by decide) rfl ?_
  intro p e s m args below meth c s₁ B hml hv
  obtain ⟨rfl, hP, hK⟩ := hv
  have hx := B.exec
  have hb := B.bytes
  have hr := B.returns
  have hts := atoms_spec (ws := wsX1_earliestTare) B.pre
  have hown : s.vm.findClass RX1 = some m.cls := findClass_of_methodNamed B.named
  have hlocks := B.notSynchronized
  have hS : va_S (AA ad) s.heap s.heap [] := va_S.rf
  have hl := lv_entry ([.ref (ad 0), .int p1]) (n := 5) (Nat.le_of_ble_eq_true rfl)
  rw [lg_entry_eq]
  generalize (lg_sl ([.ref (ad 0), .int p1]) ++ List.replicate (5 - (lg_sl ([.ref (ad 0), .int p1])).length) Slot.unset).toArray = ls at hl ⊢
  have hl : lv_has ls 5 [(0, .ref (ad 0)), (1, .int p1)] := hl
  have lk10 := hts (.fieldLink RX1 10 "FerryFloor" "now" "LFerryFloor$State;") (by decide +kernel)
  have lk52 := hts (.fieldLink RX1 52 "FerryFloor$State" "minute" "I") (by decide +kernel)
  have lk65 := hts (.fieldLink RX1 65 "FerryFloor$State" "tareMinutes" "[I") (by decide +kernel)
  have hin1 : ∀ w ∈ u_ws RX1 TX1 7, w ∈ wsX1_earliestTare := by decide +kernel
  have hin0 : ∀ w ∈ u_ws RX0 TX0 15, w ∈ wsX1_earliestTare := by decide +kernel
  refine lv_aload_n hx hb dX1_earliestTare_0 rfl (lv_at hl 0 rfl) ?_
  refine q_getF (v := .ref (ad 1)) hx hb hts hin1 hown hK hP 0 (by decide) lk10 (fun _ h => h) rfl dX1_earliestTare_1 ?_
  refine q_getS (v := .int (F 1 0)) hx hb hts hin0 hown hK hP 1 st_1 0 (by decide) lk52 (fun _ h => h) rfl dX1_earliestTare_4 ?_
  refine lv_istore_n (lv' := [(2, .int (F 1 0)), (0, .ref (ad 0)), (1, .int p1)]) hx hb dX1_earliestTare_7 rfl hl (by decide) rfl (fun ls hl => ?_)
  refine lv_iconst (v := 0) hx hb dX1_earliestTare_8 (by decide) ?_
  refine lv_istore_n (lv' := [(3, .int (0 : Int32)), (2, .int (F 1 0)), (0, .ref (ad 0)), (1, .int p1)]) hx hb dX1_earliestTare_9 rfl hl (by decide) rfl (fun ls hl => ?_)
  refine q_loop (fun nn H locs ls => ∃ (k : Nat) (x2 : Int32), k + nn = 5 ∧ hX1_earliestTare_10 R F p1 nn k x2 = (xX1_earliestTare R F p1) ∧ WP D cI cS ad R F H ∧ locs = [] ∧ H = s.heap ∧ lv_has ls 5 [(3, .int (nI k)), (2, .int x2), (0, .ref (ad 0)), (1, .int p1)]) 5 ⟨0, (F 1 0), by omega, by unfold xX1_earliestTare; rfl, hP, rfl, rfl, lv_sub hl [0, 1, 2, 3] rfl⟩ ?_ ?_
  · intro H locs ls hz
    obtain ⟨k, x2, hkn, hsp, hP, rfl, rfl, hl⟩ := hz
    refine lv_iload_n hx hb dX1_earliestTare_10 rfl (lv_at hl 0 rfl) ?_
    refine lv_iconst (v := 5) hx hb dX1_earliestTare_11 (by decide) ?_
    refine lv_icmp_ge (tgt := 51) hx hb dX1_earliestTare_12 (by decide) (fun c_12 => ?_) (fun c_12 => ?_)
    · refine lv_iload_n hx hb dX1_earliestTare_51 rfl (lv_at hl 1 rfl) ?_
      have hX : (xX1_earliestTare R F p1) = x2 := by rw [← hsp, hX1_earliestTare_10_z]
      exact W.iret (v := x2) hx hb hr (fun t ht hW => ⟨by rw [hX], ht⟩) (fun _ h => by cases h) dX1_earliestTare_52
    · exact absurd (nI_le (a := 5) (b := k) (by omega) (by omega)) c_12
  · intro n ih H locs ls hz
    obtain ⟨k, x2, hkn, hsp, hP, rfl, rfl, hl⟩ := hz
    refine lv_iload_n hx hb dX1_earliestTare_10 rfl (lv_at hl 0 rfl) ?_
    refine lv_iconst (v := 5) hx hb dX1_earliestTare_11 (by decide) ?_
    refine lv_icmp_ge (tgt := 51) hx hb dX1_earliestTare_12 (by decide) (fun c_12 => ?_) (fun c_12 => ?_)
    · exact absurd c_12 (nI_ge (a := k) (b := 5) (by omega) (by omega))
    · refine lv_iload_n hx hb dX1_earliestTare_15 rfl (lv_at hl 3 rfl) ?_
      refine lv_iload_n hx hb dX1_earliestTare_16 rfl (lv_at hl 0 rfl) ?_
      refine q_callS (va_runS (As := [.int p1, .int (nI k)]) (rest := []) ⟨hx, hb, hml, hown, hts⟩ (mX1_nearCell l D cI cS ad hI R F p1 (nI k)) (va_cwS 2 hts gX1_earliestTare_X1_nearCell rfl rfl rfl (by decide +kernel) ⟨Nat.le_of_ble_eq_true rfl, Nat.le_of_ble_eq_true rfl⟩) (PW_preS hK hP) rfl rfl hl.1 rfl (lv_room (Nat.le_of_ble_eq_true rfl)) dX1_earliestTare_17 ⟨Nat.zero_le _, Nat.zero_le _⟩) ?_
      refine lv_istore (lv' := [(4, .int (xX1_nearCell p1 (nI k))), (3, .int (nI k)), (2, .int x2), (0, .ref (ad 0)), (1, .int p1)]) hx hb dX1_earliestTare_20 hl (by decide) rfl (fun ls hl => ?_)
      refine lv_iload hx hb dX1_earliestTare_22 (lv_at hl 0 rfl) ?_
      refine q_callS (va_runS (As := [.int (xX1_nearCell p1 (nI k))]) (rest := []) ⟨hx, hb, hml, hown, hts⟩ (mX1_isCell l D cI cS ad hI R F (xX1_nearCell p1 (nI k))) (va_cwS 1 hts gX1_earliestTare_X1_isCell rfl rfl rfl (by decide +kernel) ⟨Nat.le_of_ble_eq_true rfl, Nat.le_of_ble_eq_true rfl⟩) (PW_preS hK hP) rfl rfl hl.1 rfl (lv_room (Nat.le_of_ble_eq_true rfl)) dX1_earliestTare_24 ⟨Nat.zero_le _, Nat.zero_le _⟩) ?_
      refine lv_if_eq (tgt := 45) hx hb dX1_earliestTare_27 (by decide) (fun c_27 => ?_) (fun c_27 => ?_)
      · refine lv_iinc (v := (nI (k + 1))) (lv' := [(3, .int (nI (k + 1))), (4, .int (xX1_nearCell p1 (nI k))), (2, .int x2), (0, .ref (ad 0)), (1, .int p1)]) hx hb dX1_earliestTare_45 hl (k := 1) rfl (nI_1 k) (by decide) rfl (fun ls hl => ?_)
        refine lv_goto (tgt := 10) hx hb dX1_earliestTare_48 (by decide) ?_
        exact ih _ _ _ ⟨(k + 1), x2, by omega, by rw [← hsp, hX1_earliestTare_10_s, if_pos c_27], hP, rfl, rfl, lv_sub hl [0, 2, 3, 4] rfl⟩
      · refine lv_iload_n hx hb dX1_earliestTare_30 rfl (lv_at hl 2 rfl) ?_
        refine lv_aload_n hx hb dX1_earliestTare_31 rfl (lv_at hl 3 rfl) ?_
        refine q_getF (v := .ref (ad 1)) hx hb hts hin1 hown hK hP 0 (by decide) lk10 (fun _ h => h) rfl dX1_earliestTare_32 ?_
        refine q_getS (v := .ref (ad 5)) hx hb hts hin0 hown hK hP 1 st_1 6 (by decide) lk65 (fun _ h => h) rfl dX1_earliestTare_35 ?_
        refine lv_iload hx hb dX1_earliestTare_38 (lv_at hl 0 rfl) ?_
        refine q_ild hx hb hK hP 5 24 (ar_5) dX1_earliestTare_40 (by first | assumption | exact isCell_in (by assumption) | exact isWalker_in (by assumption) | exact isAboard_in (by assumption) | exact isPair_in1 (by assumption) | exact isPair_in2 (by assumption) | exact isWithin7_in (by assumption) | exact vp_in_nI (by omega) (by decide)) ?_
        refine va_mmin hx hb (hml.trans hl.1.symm) hown (hts (.methodLink RX1 205 Lib.Math.min.name) (by decide +kernel)) (hts (.static Lib.Math.min.name) (by decide +kernel)) (hts (.initialized "java/lang/Math") (by decide +kernel)) (hts (.code Lib.Math.min.name Lib.Math.min.code 2 (some .int)) (by decide +kernel)) (Nat.le_of_ble_eq_true rfl) (Nat.le_of_ble_eq_true rfl) (Nat.zero_le _) (Nat.zero_le _) dX1_earliestTare_41 ?_
        refine lv_istore_n (lv' := [(2, .int (if (R 5 ((xX1_nearCell p1 (nI k))).toNatClampNeg) < x2 then (R 5 ((xX1_nearCell p1 (nI k))).toNatClampNeg) else x2)), (4, .int (xX1_nearCell p1 (nI k))), (3, .int (nI k)), (0, .ref (ad 0)), (1, .int p1)]) hx hb dX1_earliestTare_44 rfl hl (by decide) rfl (fun ls hl => ?_)
        refine lv_iinc (v := (nI (k + 1))) (lv' := [(3, .int (nI (k + 1))), (2, .int (if (R 5 ((xX1_nearCell p1 (nI k))).toNatClampNeg) < x2 then (R 5 ((xX1_nearCell p1 (nI k))).toNatClampNeg) else x2)), (4, .int (xX1_nearCell p1 (nI k))), (0, .ref (ad 0)), (1, .int p1)]) hx hb dX1_earliestTare_45 hl (k := 2) rfl (nI_1 k) (by decide) rfl (fun ls hl => ?_)
        refine lv_goto (tgt := 10) hx hb dX1_earliestTare_48 (by decide) ?_
        exact ih _ _ _ ⟨(k + 1), (if (R 5 ((xX1_nearCell p1 (nI k))).toNatClampNeg) < x2 then (R 5 ((xX1_nearCell p1 (nI k))).toNatClampNeg) else x2), by omega, by rw [← hsp, hX1_earliestTare_10_s, if_neg c_27], hP, rfl, rfl, lv_sub hl [0, 1, 3, 4] rfl⟩

def hX1_errorWith_13 (R F : Nat → Nat → Int32) (i1 : Nat) : Nat → Nat → Int32 → Int32 × (Nat → Nat → Int32)
  | 0, k, x2 => (x2, (xX1_expectAll (xX1_weighAll R F) F i1))
  | n + 1, k, x2 => (hX1_errorWith_13 R F i1 n (k + 1) (x2 + (if (0 : Int32) ≤ (((xX1_expectAll (xX1_weighAll R F) F i1) 15 k) - ((xX1_expectAll (xX1_weighAll R F) F i1) 16 k)) then (((xX1_expectAll (xX1_weighAll R F) F i1) 15 k) - ((xX1_expectAll (xX1_weighAll R F) F i1) 16 k)) else (0 : Int32) - (((xX1_expectAll (xX1_weighAll R F) F i1) 15 k) - ((xX1_expectAll (xX1_weighAll R F) F i1) 16 k)))))
theorem hX1_errorWith_13_z (R F : Nat → Nat → Int32) (i1 : Nat) (k : Nat) (x2 : Int32) : hX1_errorWith_13 R F i1 0 k x2 = (x2, (xX1_expectAll (xX1_weighAll R F) F i1)) := rfl
theorem hX1_errorWith_13_s (R F : Nat → Nat → Int32) (i1 : Nat) (n : Nat) (k : Nat) (x2 : Int32) : hX1_errorWith_13 R F i1 (n + 1) k x2 = (hX1_errorWith_13 R F i1 n (k + 1) (x2 + (if (0 : Int32) ≤ (((xX1_expectAll (xX1_weighAll R F) F i1) 15 k) - ((xX1_expectAll (xX1_weighAll R F) F i1) 16 k)) then (((xX1_expectAll (xX1_weighAll R F) F i1) 15 k) - ((xX1_expectAll (xX1_weighAll R F) F i1) 16 k)) else (0 : Int32) - (((xX1_expectAll (xX1_weighAll R F) F i1) 15 k) - ((xX1_expectAll (xX1_weighAll R F) F i1) 16 k))))) := rfl
def xX1_errorWith (R F : Nat → Nat → Int32) (i1 : Nat) : Int32 × (Nat → Nat → Int32) :=
  (hX1_errorWith_13 R F i1 24 0 (0 : Int32))
set_option maxHeartbeats 4000000 in
set_option maxRecDepth 100000 in
theorem mX1_errorWith (l : Launch) (D : va_G) (cI cS : ClassId) (ad : Nat → Nat) (hI : Inj ad) (R F : Nat → Nat → Int32) (i1 : Nat) (hi1 : Ar i1 8) : Met l yX1_errorWith wsX1_errorWith ({ frames := 4, cells := 0, slots := 0, locals := 92 }) (PW D cI cS ad R F [.ref (ad 0), .ref (ad i1)]) (QI D cI cS ad ((xX1_errorWith R F i1).1) ((xX1_errorWith R F i1).2) F) 0 0 (AA ad) := by
  refine Met.ofW (cc := cX1_errorWith) (maxL := 4) (ret := (some .int)) (by decide) rfl ?_
  intro p e s m args below meth c s₁ B hml hv
  obtain ⟨rfl, hP, hK⟩ := hv
  have hx := B.exec
  have hb := B.bytes
  have hr := B.returns
  have hts := atoms_spec (ws := wsX1_errorWith) B.pre
  have hown : s.vm.findClass RX1 = some m.cls := findClass_of_methodNamed B.named
  have hlocks := B.notSynchronized
  have hS : va_S (AA ad) s.heap s.heap [] := va_S.rf
  have hl := lv_entry ([.ref (ad 0), .ref (ad i1)]) (n := 4) (Nat.le_of_ble_eq_true rfl)
  rw [lg_entry_eq]
  generalize (lg_sl ([.ref (ad 0), .ref (ad i1)]) ++ List.replicate (4 - (lg_sl ([.ref (ad 0), .ref (ad i1)])).length) Slot.unset).toArray = ls at hl ⊢
  have hl : lv_has ls 4 [(0, .ref (ad 0)), (1, .ref (ad i1))] := hl
  have lk27 := hts (.fieldLink RX1 27 "FerryFloor" "readings" "[I") (by decide +kernel)
  have lk31 := hts (.fieldLink RX1 31 "FerryFloor" "expected" "[I") (by decide +kernel)
  have hin1 : ∀ w ∈ u_ws RX1 TX1 7, w ∈ wsX1_errorWith := by decide +kernel
  refine lv_aload_n hx hb dX1_errorWith_0 rfl (lv_at hl 0 rfl) ?_
  refine q_callV (va_runV (As := []) (rest := []) ⟨hx, hb, hml, hown, hts⟩ (mX1_weighAll l D cI cS ad hI R F) (cwV 0 hts gX1_errorWith_X1_weighAll rfl rfl rfl (by decide +kernel) ⟨Nat.le_of_ble_eq_true rfl, Nat.le_of_ble_eq_true rfl⟩) (PW_preV (i := 0) (by decide) CC_0 rfl rfl hK hP) rfl rfl hl.1 rfl (lv_room (Nat.le_of_ble_eq_true rfl)) dX1_errorWith_1 ⟨Nat.zero_le _, Nat.zero_le _⟩) hS (fun H locs hP hS => ?_)
  refine lv_aload_n hx hb dX1_errorWith_4 rfl (lv_at hl 0 rfl) ?_
  refine lv_aload_n hx hb dX1_errorWith_5 rfl (lv_at hl 1 rfl) ?_
  refine q_callV (va_runV (As := [.ref (ad i1)]) (rest := []) ⟨hx, hb, hml, hown, hts⟩ (mX1_expectAll l D cI cS ad hI (xX1_weighAll R F) F i1 hi1) (cwV 1 hts gX1_errorWith_X1_expectAll rfl rfl rfl (by decide +kernel) ⟨Nat.le_of_ble_eq_true rfl, Nat.le_of_ble_eq_true rfl⟩) (PW_preV (i := 0) (by decide) CC_0 rfl rfl hK hP) rfl rfl hl.1 rfl (lv_room (Nat.le_of_ble_eq_true rfl)) dX1_errorWith_6 ⟨Nat.zero_le _, Nat.zero_le _⟩) hS (fun H locs hP hS => ?_)
  refine lv_iconst (v := 0) hx hb dX1_errorWith_9 (by decide) ?_
  refine lv_istore_n (lv' := [(2, .int (0 : Int32)), (0, .ref (ad 0)), (1, .ref (ad i1))]) hx hb dX1_errorWith_10 rfl hl (by decide) rfl (fun ls hl => ?_)
  refine lv_iconst (v := 0) hx hb dX1_errorWith_11 (by decide) ?_
  refine lv_istore_n (lv' := [(3, .int (0 : Int32)), (2, .int (0 : Int32)), (0, .ref (ad 0)), (1, .ref (ad i1))]) hx hb dX1_errorWith_12 rfl hl (by decide) rfl (fun ls hl => ?_)
  refine q_loop (fun nn H locs ls => ∃ (k : Nat) (x2 : Int32), k + nn = 24 ∧ hX1_errorWith_13 R F i1 nn k x2 = (xX1_errorWith R F i1) ∧ WP D cI cS ad (xX1_expectAll (xX1_weighAll R F) F i1) F H ∧ va_S (AA ad) s.heap H locs ∧ lv_has ls 4 [(3, .int (nI k)), (2, .int x2), (0, .ref (ad 0)), (1, .ref (ad i1))]) 24 ⟨0, (0 : Int32), by omega, by unfold xX1_errorWith; rfl, hP, hS, lv_sub hl [0, 1, 2, 3] rfl⟩ ?_ ?_
  · intro H locs ls hz
    obtain ⟨k, x2, hkn, hsp, hP, hS, hl⟩ := hz
    refine lv_iload_n hx hb dX1_errorWith_13 rfl (lv_at hl 0 rfl) ?_
    refine lv_bipush (v := 24) hx hb dX1_errorWith_14 (by decide) ?_
    refine lv_icmp_ge (tgt := 44) hx hb dX1_errorWith_16 (by decide) (fun c_16 => ?_) (fun c_16 => ?_)
    · refine lv_iload_n hx hb dX1_errorWith_44 rfl (lv_at hl 1 rfl) ?_
      have hX : (xX1_errorWith R F i1) = (x2, (xX1_expectAll (xX1_weighAll R F) F i1)) := by rw [← hsp, hX1_errorWith_13_z]
      exact W.iret (v := x2) hx hb hr (fun t ht hW => ⟨by rw [hX], by rw [hX, ht]; with_reducible exact hP, hS.F ht⟩) hS.2.2 dX1_errorWith_45
    · exact absurd (nI_le (a := 24) (b := k) (by omega) (by omega)) c_16
  · intro n ih H locs ls hz
    obtain ⟨k, x2, hkn, hsp, hP, hS, hl⟩ := hz
    refine lv_iload_n hx hb dX1_errorWith_13 rfl (lv_at hl 0 rfl) ?_
    refine lv_bipush (v := 24) hx hb dX1_errorWith_14 (by decide) ?_
    refine lv_icmp_ge (tgt := 44) hx hb dX1_errorWith_16 (by decide) (fun c_16 => ?_) (fun c_16 => ?_)
    · exact absurd c_16 (nI_ge (a := k) (b := 24) (by omega) (by omega))
    · refine lv_iload_n hx hb dX1_errorWith_19 rfl (lv_at hl 1 rfl) ?_
      refine lv_aload_n hx hb dX1_errorWith_20 rfl (lv_at hl 2 rfl) ?_
      refine q_getF (v := .ref (ad 15)) hx hb hts hin1 hown hK hP 4 (by decide) lk27 (fun _ h => h) rfl dX1_errorWith_21 ?_
      refine lv_iload_n hx hb dX1_errorWith_24 rfl (lv_at hl 0 rfl) ?_
      refine q_ildN hx hb hK hP 15 24 (ar_15) k dX1_errorWith_25 rfl (by omega) (by decide) ?_
      refine lv_aload_n hx hb dX1_errorWith_26 rfl (lv_at hl 2 rfl) ?_
      refine q_getF (v := .ref (ad 16)) hx hb hts hin1 hown hK hP 5 (by decide) lk31 (fun _ h => h) rfl dX1_errorWith_27 ?_
      refine lv_iload_n hx hb dX1_errorWith_30 rfl (lv_at hl 0 rfl) ?_
      refine q_ildN hx hb hK hP 16 24 (ar_16) k dX1_errorWith_31 rfl (by omega) (by decide) ?_
      refine lv_isub hx hb dX1_errorWith_32 ?_
      refine va_mabs hx hb (hml.trans hl.1.symm) hown (hts (.methodLink RX1 208 Lib.Math.abs.name) (by decide +kernel)) (hts (.static Lib.Math.abs.name) (by decide +kernel)) (hts (.initialized "java/lang/Math") (by decide +kernel)) (hts (.code Lib.Math.abs.name Lib.Math.abs.code 1 (some .int)) (by decide +kernel)) (Nat.le_of_ble_eq_true rfl) (Nat.le_of_ble_eq_true rfl) (Nat.zero_le _) (Nat.zero_le _) dX1_errorWith_33 ?_
      refine lv_iadd hx hb dX1_errorWith_36 ?_
      refine lv_istore_n (lv' := [(2, .int (x2 + (if (0 : Int32) ≤ (((xX1_expectAll (xX1_weighAll R F) F i1) 15 k) - ((xX1_expectAll (xX1_weighAll R F) F i1) 16 k)) then (((xX1_expectAll (xX1_weighAll R F) F i1) 15 k) - ((xX1_expectAll (xX1_weighAll R F) F i1) 16 k)) else (0 : Int32) - (((xX1_expectAll (xX1_weighAll R F) F i1) 15 k) - ((xX1_expectAll (xX1_weighAll R F) F i1) 16 k))))), (3, .int (nI k)), (0, .ref (ad 0)), (1, .ref (ad i1))]) hx hb dX1_errorWith_37 rfl hl (by decide) rfl (fun ls hl => ?_)
      refine lv_iinc (v := (nI (k + 1))) (lv' := [(3, .int (nI (k + 1))), (2, .int (x2 + (if (0 : Int32) ≤ (((xX1_expectAll (xX1_weighAll R F) F i1) 15 k) - ((xX1_expectAll (xX1_weighAll R F) F i1) 16 k)) then (((xX1_expectAll (xX1_weighAll R F) F i1) 15 k) - ((xX1_expectAll (xX1_weighAll R F) F i1) 16 k)) else (0 : Int32) - (((xX1_expectAll (xX1_weighAll R F) F i1) 15 k) - ((xX1_expectAll (xX1_weighAll R F) F i1) 16 k))))), (0, .ref (ad 0)), (1, .ref (ad i1))]) hx hb dX1_errorWith_38 hl (k := 1) rfl (nI_1 k) (by decide) rfl (fun ls hl => ?_)
      refine lv_goto (tgt := 13) hx hb dX1_errorWith_41 (by decide) ?_
      exact ih _ _ _ ⟨(k + 1), (x2 + (if (0 : Int32) ≤ (((xX1_expectAll (xX1_weighAll R F) F i1) 15 k) - ((xX1_expectAll (xX1_weighAll R F) F i1) 16 k)) then (((xX1_expectAll (xX1_weighAll R F) F i1) 15 k) - ((xX1_expectAll (xX1_weighAll R F) F i1) 16 k)) else (0 : Int32) - (((xX1_expectAll (xX1_weighAll R F) F i1) 15 k) - ((xX1_expectAll (xX1_weighAll R F) F i1) 16 k)))), by omega, by rw [← hsp, hX1_errorWith_13_s], hP, hS, lv_sub hl [0, 1, 2, 3] rfl⟩

