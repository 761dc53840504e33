def xX2_count (R F : Nat → Nat → Int32) (p1 : Int32) (kw : Nat) : Int32 :=
  (if p1 = (0 : Int32) then (R 84 0) else (if p1 = (1 : Int32) then (R 84 1) else (if p1 = (2 : Int32) then (xX2_many (R 84) (0 : Int32) kw) else (if p1 = (3 : Int32) then (F 83 0) else (if p1 = (4 : Int32) then (xX2_error (R 84) kw) else (if p1 = (5 : Int32) then (xX2_sumOf (R 84) (1 : Int32) kw) else (if p1 = (6 : Int32) then (xX2_sumOf (R 84) (0 : Int32) kw) else (if p1 = (7 : Int32) then (xX2_many (R 84) (1 : Int32) kw) else (if p1 = (8 : Int32) then (R 84 2) else (if p1 = (9 : Int32) then (R 84 3) else (if p1 = (10 : Int32) then (R 84 4) else (if p1 = (11 : Int32) then (R 84 5) else (-100001 : Int32)))))))))))))
set_option maxHeartbeats 4000000 in
set_option maxRecDepth 100000 in
theorem mX2_count (l : Launch) (D : va_G) (cI cS : ClassId) (ad : Nat → Nat) (hI : Inj ad) (R F : Nat → Nat → Int32) (p1 : Int32) (kw : Nat) (hkw : kw ≤ 8) (hW : R 84 1 = nI kw) : Met l yX2_count wsX2_count ({ frames := 6, cells := 0, slots := 0, locals := 134 }) (PW D cI cS ad R F [.ref (ad 83), .int p1]) (QS (xX2_count R F p1 kw)) 0 0 (fun _ => False) := by
  refine Met.ofW (cc := cX2_count) (maxL := 2) (ret := (some .int)) (by decide) rfl ?_
  intro p e s m args below meth c s₁ B hml hv
  obtain ⟨rfl, hP, hK⟩ := hv
  have hx := B.exec
  have hb := B.bytes
  have hr := B.returns
  have hts := atoms_spec (ws := wsX2_count) B.pre
  have hown : s.vm.findClass RX2 = some m.cls := findClass_of_methodNamed B.named
  have hlocks := B.notSynchronized
  have hS : va_S (AA ad) s.heap s.heap [] := va_S.rf
  have hl := lv_entry ([.ref (ad 83), .int p1]) (n := 2) (Nat.le_of_ble_eq_true rfl)
  rw [lg_entry_eq]
  generalize (lg_sl ([.ref (ad 83), .int p1]) ++ List.replicate (2 - (lg_sl ([.ref (ad 83), .int p1])).length) Slot.unset).toArray = ls at hl ⊢
  have hl : lv_has ls 2 [(0, .ref (ad 83)), (1, .int p1)] := hl
  have lk7 := hts (.fieldLink RX2 7 "FerryFloorModel" "s" "[I") (by decide +kernel)
  have lk19 := hts (.fieldLink RX2 19 "FerryFloorModel" "pasts" "I") (by decide +kernel)
  have lk66 := hts (.constant RX2 66 (-100001)) (by decide +kernel)
  have hin2 : ∀ w ∈ u_ws RX2 TX2 5, w ∈ wsX2_count := by decide +kernel
  refine lv_iload_n hx hb dX2_count_0 rfl (lv_at hl 1 rfl) ?_
  by_cases c_1_0 : p1 = (0 : Int32)
  · refine lv_tableIn (x := p1) (off := 63) (tgt := 64) hx hb dX2_count_1 (by rw [c_1_0]; decide) (by rw [c_1_0]; decide) (by rw [c_1_0]; rfl) (by decide) ?_
    refine lv_aload_n hx hb dX2_count_64 rfl (lv_at hl 0 rfl) ?_
    refine q_getM (v := .ref (ad 84)) hx hb hts hin2 hown hK hP 0 (by decide) lk7 (fun _ h => h) rfl dX2_count_65 ?_
    refine lv_iload_n hx hb dX2_count_68 rfl (lv_at hl 1 rfl) ?_
    refine q_top (y := (nI 0)) c_1_0 ?_
    refine q_ildN hx hb hK hP 84 182 (ar_84) 0 dX2_count_69 rfl (by omega) (by decide) ?_
    have hX : (xX2_count R F p1 kw) = (R 84 0) := by unfold xX2_count; rw [if_pos c_1_0]
    exact W.iret (v := (R 84 0)) hx hb hr (fun t ht hW => ⟨by rw [hX], ht⟩) (fun _ h => by cases h) dX2_count_70
  by_cases c_1_1 : p1 = (1 : Int32)
  · refine lv_tableIn (x := p1) (off := 63) (tgt := 64) hx hb dX2_count_1 (by rw [c_1_1]; decide) (by rw [c_1_1]; decide) (by rw [c_1_1]; rfl) (by decide) ?_
    refine lv_aload_n hx hb dX2_count_64 rfl (lv_at hl 0 rfl) ?_
    refine q_getM (v := .ref (ad 84)) hx hb hts hin2 hown hK hP 0 (by decide) lk7 (fun _ h => h) rfl dX2_count_65 ?_
    refine lv_iload_n hx hb dX2_count_68 rfl (lv_at hl 1 rfl) ?_
    refine q_top (y := (nI 1)) c_1_1 ?_
    refine q_ildN hx hb hK hP 84 182 (ar_84) 1 dX2_count_69 rfl (by omega) (by decide) ?_
    have hX : (xX2_count R F p1 kw) = (R 84 1) := by unfold xX2_count; rw [if_neg c_1_0, if_pos c_1_1]
    exact W.iret (v := (R 84 1)) hx hb hr (fun t ht hW => ⟨by rw [hX], ht⟩) (fun _ h => by cases h) dX2_count_70
  by_cases c_1_2 : p1 = (2 : Int32)
  · refine lv_tableIn (x := p1) (off := 70) (tgt := 71) hx hb dX2_count_1 (by rw [c_1_2]; decide) (by rw [c_1_2]; decide) (by rw [c_1_2]; rfl) (by decide) ?_
    refine lv_aload_n hx hb dX2_count_71 rfl (lv_at hl 0 rfl) ?_
    refine lv_iconst (v := 0) hx hb dX2_count_72 (by decide) ?_
    refine q_callS (va_runV (As := [.int (0 : Int32)]) (rest := []) ⟨hx, hb, hml, hown, hts⟩ (mX2_many l D cI cS ad hI R F (0 : Int32) kw hkw hW) (cwV 1 hts gX2_count_X2_many rfl rfl rfl (by decide +kernel) ⟨Nat.le_of_ble_eq_true rfl, Nat.le_of_ble_eq_true rfl⟩) (PW_preV (i := 83) (by decide) CC_83 rfl rfl hK hP) rfl rfl hl.1 rfl (lv_room (Nat.le_of_ble_eq_true rfl)) dX2_count_73 ⟨Nat.zero_le _, Nat.zero_le _⟩) ?_
    have hX : (xX2_count R F p1 kw) = (xX2_many (R 84) (0 : Int32) kw) := by unfold xX2_count; rw [if_neg c_1_0, if_neg c_1_1, if_pos c_1_2]
    exact W.iret (v := (xX2_many (R 84) (0 : Int32) kw)) hx hb hr (fun t ht hW => ⟨by rw [hX], ht⟩) (fun _ h => by cases h) dX2_count_76
  by_cases c_1_3 : p1 = (3 : Int32)
  · refine lv_tableIn (x := p1) (off := 76) (tgt := 77) hx hb dX2_count_1 (by rw [c_1_3]; decide) (by rw [c_1_3]; decide) (by rw [c_1_3]; rfl) (by decide) ?_
    refine lv_aload_n hx hb dX2_count_77 rfl (lv_at hl 0 rfl) ?_
    refine q_getM (v := .int (F 83 0)) hx hb hts hin2 hown hK hP 2 (by decide) lk19 (fun _ h => h) rfl dX2_count_78 ?_
    have hX : (xX2_count R F p1 kw) = (F 83 0) := by unfold xX2_count; rw [if_neg c_1_0, if_neg c_1_1, if_neg c_1_2, if_pos c_1_3]
    exact W.iret (v := (F 83 0)) hx hb hr (fun t ht hW => ⟨by rw [hX], ht⟩) (fun _ h => by cases h) dX2_count_81
  by_cases c_1_4 : p1 = (4 : Int32)
  · refine lv_tableIn (x := p1) (off := 81) (tgt := 82) hx hb dX2_count_1 (by rw [c_1_4]; decide) (by rw [c_1_4]; decide) (by rw [c_1_4]; rfl) (by decide) ?_
    refine lv_aload_n hx hb dX2_count_82 rfl (lv_at hl 0 rfl) ?_
    refine q_callS (va_runV (As := []) (rest := []) ⟨hx, hb, hml, hown, hts⟩ (mX2_error l D cI cS ad hI R F kw hkw hW) (cwV 0 hts gX2_count_X2_error rfl rfl rfl (by decide +kernel) ⟨Nat.le_of_ble_eq_true rfl, Nat.le_of_ble_eq_true rfl⟩) (PW_preV (i := 83) (by decide) CC_83 rfl rfl hK hP) rfl rfl hl.1 rfl (lv_room (Nat.le_of_ble_eq_true rfl)) dX2_count_83 ⟨Nat.zero_le _, Nat.zero_le _⟩) ?_
    have hX : (xX2_count R F p1 kw) = (xX2_error (R 84) kw) := by unfold xX2_count; rw [if_neg c_1_0, if_neg c_1_1, if_neg c_1_2, if_neg c_1_3, if_pos c_1_4]
    exact W.iret (v := (xX2_error (R 84) kw)) hx hb hr (fun t ht hW => ⟨by rw [hX], ht⟩) (fun _ h => by cases h) dX2_count_86
  by_cases c_1_5 : p1 = (5 : Int32)
  · refine lv_tableIn (x := p1) (off := 86) (tgt := 87) hx hb dX2_count_1 (by rw [c_1_5]; decide) (by rw [c_1_5]; decide) (by rw [c_1_5]; rfl) (by decide) ?_
    refine lv_aload_n hx hb dX2_count_87 rfl (lv_at hl 0 rfl) ?_
    refine lv_iconst (v := 1) hx hb dX2_count_88 (by decide) ?_
    refine q_callS (va_runV (As := [.int (1 : Int32)]) (rest := []) ⟨hx, hb, hml, hown, hts⟩ (mX2_sumOf l D cI cS ad hI R F (1 : Int32) kw hkw hW) (cwV 1 hts gX2_count_X2_sumOf rfl rfl rfl (by decide +kernel) ⟨Nat.le_of_ble_eq_true rfl, Nat.le_of_ble_eq_true rfl⟩) (PW_preV (i := 83) (by decide) CC_83 rfl rfl hK hP) rfl rfl hl.1 rfl (lv_room (Nat.le_of_ble_eq_true rfl)) dX2_count_89 ⟨Nat.zero_le _, Nat.zero_le _⟩) ?_
    have hX : (xX2_count R F p1 kw) = (xX2_sumOf (R 84) (1 : Int32) kw) := by unfold xX2_count; rw [if_neg c_1_0, if_neg c_1_1, if_neg c_1_2, if_neg c_1_3, if_neg c_1_4, if_pos c_1_5]
    exact W.iret (v := (xX2_sumOf (R 84) (1 : Int32) kw)) hx hb hr (fun t ht hW => ⟨by rw [hX], ht⟩) (fun _ h => by cases h) dX2_count_92
  by_cases c_1_6 : p1 = (6 : Int32)
  · refine lv_tableIn (x := p1) (off := 92) (tgt := 93) hx hb dX2_count_1 (by rw [c_1_6]; decide) (by rw [c_1_6]; decide) (by rw [c_1_6]; rfl) (by decide) ?_
    refine lv_aload_n hx hb dX2_count_93 rfl (lv_at hl 0 rfl) ?_
    refine lv_iconst (v := 0) hx hb dX2_count_94 (by decide) ?_
    refine q_callS (va_runV (As := [.int (0 : Int32)]) (rest := []) ⟨hx, hb, hml, hown, hts⟩ (mX2_sumOf l D cI cS ad hI R F (0 : Int32) kw hkw hW) (cwV 1 hts gX2_count_X2_sumOf rfl rfl rfl (by decide +kernel) ⟨Nat.le_of_ble_eq_true rfl, Nat.le_of_ble_eq_true rfl⟩) (PW_preV (i := 83) (by decide) CC_83 rfl rfl hK hP) rfl rfl hl.1 rfl (lv_room (Nat.le_of_ble_eq_true rfl)) dX2_count_95 ⟨Nat.zero_le _, Nat.zero_le _⟩) ?_
    have hX : (xX2_count R F p1 kw) = (xX2_sumOf (R 84) (0 : Int32) kw) := by unfold xX2_count; rw [if_neg c_1_0, if_neg c_1_1, if_neg c_1_2, if_neg c_1_3, if_neg c_1_4, if_neg c_1_5, if_pos c_1_6]
    exact W.iret (v := (xX2_sumOf (R 84) (0 : Int32) kw)) hx hb hr (fun t ht hW => ⟨by rw [hX], ht⟩) (fun _ h => by cases h) dX2_count_98
  by_cases c_1_7 : p1 = (7 : Int32)
  · refine lv_tableIn (x := p1) (off := 98) (tgt := 99) hx hb dX2_count_1 (by rw [c_1_7]; decide) (by rw [c_1_7]; decide) (by rw [c_1_7]; rfl) (by decide) ?_
    refine lv_aload_n hx hb dX2_count_99 rfl (lv_at hl 0 rfl) ?_
    refine lv_iconst (v := 1) hx hb dX2_count_100 (by decide) ?_
    refine q_callS (va_runV (As := [.int (1 : Int32)]) (rest := []) ⟨hx, hb, hml, hown, hts⟩ (mX2_many l D cI cS ad hI R F (1 : Int32) kw hkw hW) (cwV 1 hts gX2_count_X2_many rfl rfl rfl (by decide +kernel) ⟨Nat.le_of_ble_eq_true rfl, Nat.le_of_ble_eq_true rfl⟩) (PW_preV (i := 83) (by decide) CC_83 rfl rfl hK hP) rfl rfl hl.1 rfl (lv_room (Nat.le_of_ble_eq_true rfl)) dX2_count_101 ⟨Nat.zero_le _, Nat.zero_le _⟩) ?_
    have hX : (xX2_count R F p1 kw) = (xX2_many (R 84) (1 : Int32) kw) := by unfold xX2_count; rw [if_neg c_1_0, if_neg c_1_1, if_neg c_1_2, if_neg c_1_3, if_neg c_1_4, if_neg c_1_5, if_neg c_1_6, if_pos c_1_7]
    exact W.iret (v := (xX2_many (R 84) (1 : Int32) kw)) hx hb hr (fun t ht hW => ⟨by rw [hX], ht⟩) (fun _ h => by cases h) dX2_count_104
  by_cases c_1_8 : p1 = (8 : Int32)
  · refine lv_tableIn (x := p1) (off := 104) (tgt := 105) hx hb dX2_count_1 (by rw [c_1_8]; decide) (by rw [c_1_8]; decide) (by rw [c_1_8]; rfl) (by decide) ?_
    refine lv_aload_n hx hb dX2_count_105 rfl (lv_at hl 0 rfl) ?_
    refine q_getM (v := .ref (ad 84)) hx hb hts hin2 hown hK hP 0 (by decide) lk7 (fun _ h => h) rfl dX2_count_106 ?_
    refine lv_iconst (v := 2) hx hb dX2_count_109 (by decide) ?_
    refine lv_iload_n hx hb dX2_count_110 rfl (lv_at hl 1 rfl) ?_
    refine q_top (y := (nI 8)) c_1_8 ?_
    refine lv_iadd hx hb dX2_count_111 ?_
    refine q_top (y := (nI (2 + 8))) (nI_add 2 8) ?_
    refine lv_bipush (v := 8) hx hb dX2_count_112 (by decide) ?_
    refine lv_isub hx hb dX2_count_114 ?_
    refine q_ildN hx hb hK hP 84 182 (ar_84) 2 dX2_count_115 (pk_sub (a := 10) (b := 8) (by decide)) (by decide) (by decide) ?_
    have hX : (xX2_count R F p1 kw) = (R 84 2) := by unfold xX2_count; rw [if_neg c_1_0, if_neg c_1_1, if_neg c_1_2, if_neg c_1_3, if_neg c_1_4, if_neg c_1_5, if_neg c_1_6, if_neg c_1_7, if_pos c_1_8]
    exact W.iret (v := (R 84 2)) hx hb hr (fun t ht hW => ⟨by rw [hX], ht⟩) (fun _ h => by cases h) dX2_count_116
  by_cases c_1_9 : p1 = (9 : Int32)
  · refine lv_tableIn (x := p1) (off := 104) (tgt := 105) hx hb dX2_count_1 (by rw [c_1_9]; decide) (by rw [c_1_9]; decide) (by rw [c_1_9]; rfl) (by decide) ?_
    refine lv_aload_n hx hb dX2_count_105 rfl (lv_at hl 0 rfl) ?_
    refine q_getM (v := .ref (ad 84)) hx hb hts hin2 hown hK hP 0 (by decide) lk7 (fun _ h => h) rfl dX2_count_106 ?_
    refine lv_iconst (v := 2) hx hb dX2_count_109 (by decide) ?_
    refine lv_iload_n hx hb dX2_count_110 rfl (lv_at hl 1 rfl) ?_
    refine q_top (y := (nI 9)) c_1_9 ?_
    refine lv_iadd hx hb dX2_count_111 ?_
    refine q_top (y := (nI (2 + 9))) (nI_add 2 9) ?_
    refine lv_bipush (v := 8) hx hb dX2_count_112 (by decide) ?_
    refine lv_isub hx hb dX2_count_114 ?_
    refine q_ildN hx hb hK hP 84 182 (ar_84) 3 dX2_count_115 (pk_sub (a := 11) (b := 8) (by decide)) (by decide) (by decide) ?_
    have hX : (xX2_count R F p1 kw) = (R 84 3) := by unfold xX2_count; rw [if_neg c_1_0, if_neg c_1_1, if_neg c_1_2, if_neg c_1_3, if_neg c_1_4, if_neg c_1_5, if_neg c_1_6, if_neg c_1_7, if_neg c_1_8, if_pos c_1_9]
    exact W.iret (v := (R 84 3)) hx hb hr (fun t ht hW => ⟨by rw [hX], ht⟩) (fun _ h => by cases h) dX2_count_116
  by_cases c_1_10 : p1 = (10 : Int32)
  · refine lv_tableIn (x := p1) (off := 104) (tgt := 105) hx hb dX2_count_1 (by rw [c_1_10]; decide) (by rw [c_1_10]; decide) (by rw [c_1_10]; rfl) (by decide) ?_
    refine lv_aload_n hx hb dX2_count_105 rfl (lv_at hl 0 rfl) ?_
    refine q_getM (v := .ref (ad 84)) hx hb hts hin2 hown hK hP 0 (by decide) lk7 (fun _ h => h) rfl dX2_count_106 ?_
    refine lv_iconst (v := 2) hx hb dX2_count_109 (by decide) ?_
    refine lv_iload_n hx hb dX2_count_110 rfl (lv_at hl 1 rfl) ?_
    refine q_top (y := (nI 10)) c_1_10 ?_
    refine lv_iadd hx hb dX2_count_111 ?_
    refine q_top (y := (nI (2 + 10))) (nI_add 2 10) ?_
    refine lv_bipush (v := 8) hx hb dX2_count_112 (by decide) ?_
    refine lv_isub hx hb dX2_count_114 ?_
    refine q_ildN hx hb hK hP 84 182 (ar_84) 4 dX2_count_115 (pk_sub (a := 12) (b := 8) (by decide)) (by decide) (by decide) ?_
    have hX : (xX2_count R F p1 kw) = (R 84 4) := by unfold xX2_count; rw [if_neg c_1_0, if_neg c_1_1, if_neg c_1_2, if_neg c_1_3, if_neg c_1_4, if_neg c_1_5, if_neg c_1_6, if_neg c_1_7, if_neg c_1_8, if_neg c_1_9, if_pos c_1_10]
    exact W.iret (v := (R 84 4)) hx hb hr (fun t ht hW => ⟨by rw [hX], ht⟩) (fun _ h => by cases h) dX2_count_116
  by_cases c_1_11 : p1 = (11 : Int32)
  · refine lv_tableIn (x := p1) (off := 104) (tgt := 105) hx hb dX2_count_1 (by rw [c_1_11]; decide) (by rw [c_1_11]; decide) (by rw [c_1_11]; rfl) (by decide) ?_
    refine lv_aload_n hx hb dX2_count_105 rfl (lv_at hl 0 rfl) ?_
    refine q_getM (v := .ref (ad 84)) hx hb hts hin2 hown hK hP 0 (by decide) lk7 (fun _ h => h) rfl dX2_count_106 ?_
    refine lv_iconst (v := 2) hx hb dX2_count_109 (by decide) ?_
    refine lv_iload_n hx hb dX2_count_110 rfl (lv_at hl 1 rfl) ?_
    refine q_top (y := (nI 11)) c_1_11 ?_
    refine lv_iadd hx hb dX2_count_111 ?_
    refine q_top (y := (nI (2 + 11))) (nI_add 2 11) ?_
    refine lv_bipush (v := 8) hx hb dX2_count_112 (by decide) ?_
    refine lv_isub hx hb dX2_count_114 ?_
    refine q_ildN hx hb hK hP 84 182 (ar_84) 5 dX2_count_115 (pk_sub (a := 13) (b := 8) (by decide)) (by decide) (by decide) ?_
    have hX : (xX2_count R F p1 kw) = (R 84 5) := by unfold xX2_count; rw [if_neg c_1_0, if_neg c_1_1, if_neg c_1_2, if_neg c_1_3, if_neg c_1_4, if_neg c_1_5, if_neg c_1_6, if_neg c_1_7, if_neg c_1_8, if_neg c_1_9, if_neg c_1_10, if_pos c_1_11]
    exact W.iret (v := (R 84 5)) hx hb hr (fun t ht hW => ⟨by rw [hX], ht⟩) (fun _ h => by cases h) dX2_count_116
  refine lv_tableOut (x := p1) (tgt := 117) hx hb dX2_count_1 (sw_out12 c_1_0 c_1_1 c_1_2 c_1_3 c_1_4 c_1_5 c_1_6 c_1_7 c_1_8 c_1_9 c_1_10 c_1_11) (by decide) ?_
  refine lv_ldc (v := -100001) hx hb hown lk66 dX2_count_117 ?_
  have hX : (xX2_count R F p1 kw) = (-100001 : Int32) := by unfold xX2_count; rw [if_neg c_1_0, if_neg c_1_1, if_neg c_1_2, if_neg c_1_3, if_neg c_1_4, if_neg c_1_5, if_neg c_1_6, if_neg c_1_7, if_neg c_1_8, if_neg c_1_9, if_neg c_1_10, if_neg c_1_11]
  exact W.iret (v := (-100001 : Int32)) hx hb hr (fun t ht hW => ⟨by rw [hX], ht⟩) (fun _ h => by cases h) dX2_count_119

def xX2_cell (s : Nat → Int32) (p1 : Int32) (p2 : Int32) (kw : Nat) : Int32 :=
  (if (xX2_isCell p1) = (0 : Int32) then (-100001 : Int32) else (if (xX2_in p2 (0 : Int32) (7 : Int32)) = (0 : Int32) then (-100001 : Int32) else (if p2 = (0 : Int32) then (xX2_reading s (p1).toNatClampNeg kw) else (if p2 = (1 : Int32) then (xX2_of s (p1).toNatClampNeg 0) else (if p2 = (2 : Int32) then (xX2_of s (p1).toNatClampNeg 1) else (if p2 = (3 : Int32) then (xX2_of s (p1).toNatClampNeg 2) else (if p2 = (4 : Int32) then (xX2_of s (p1).toNatClampNeg 3) else (if p2 = (5 : Int32) then (xX2_expected s (p1).toNatClampNeg kw) else (if p2 = (6 : Int32) then (xX2_on s (nI (p1).toNatClampNeg) 1 kw) else (if p2 = (7 : Int32) then (xX2_on s (nI (p1).toNatClampNeg) 3 kw) else (0 : Int32)))))))))))
set_option maxHeartbeats 4000000 in
set_option maxRecDepth 100000 in
theorem mX2_cell (l : Launch) (D : va_G) (cI cS : ClassId) (ad : Nat → Nat) (hI : Inj ad) (R F : Nat → Nat → Int32) (p1 : Int32) (p2 : Int32) (kw : Nat) (hkw : kw ≤ 8) (hW : R 84 1 = nI kw) : Met l yX2_cell wsX2_cell ({ frames := 5, cells := 0, slots := 0, locals := 111 }) (PW D cI cS ad R F [.ref (ad 83), .int p1, .int p2]) (QS (xX2_cell (R 84) p1 p2 kw)) 0 0 (fun _ => False) := by
  refine Met.ofW (cc := cX2_cell) (maxL := 3) (ret := (some .int)) (by decide) rfl ?_
  intro p e s m args below meth c s₁ B hml hv
  obtain ⟨rfl, hP, hK⟩ := hv
  have hx := B.exec
  have hb := B.bytes
  have hr := B.returns
  have hts := atoms_spec (ws := wsX2_cell) B.pre
  have hown : s.vm.findClass RX2 = some m.cls := findClass_of_methodNamed B.named
  have hlocks := B.notSynchronized
  have hS : va_S (AA ad) s.heap s.heap [] := va_S.rf
  have hl := lv_entry ([.ref (ad 83), .int p1, .int p2]) (n := 3) (Nat.le_of_ble_eq_true rfl)
  rw [lg_entry_eq]
  generalize (lg_sl ([.ref (ad 83), .int p1, .int p2]) ++ List.replicate (3 - (lg_sl ([.ref (ad 83), .int p1, .int p2])).length) Slot.unset).toArray = ls at hl ⊢
  have hl : lv_has ls 3 [(0, .ref (ad 83)), (1, .int p1), (2, .int p2)] := hl
  have lk66 := hts (.constant RX2 66 (-100001)) (by decide +kernel)
  refine lv_iload_n hx hb dX2_cell_0 rfl (lv_at hl 1 rfl) ?_
  refine q_callS (va_runS (As := [.int p1]) (rest := []) ⟨hx, hb, hml, hown, hts⟩ (mX2_isCell l D cI cS ad hI R F p1) (va_cwS 1 hts gX2_cell_X2_isCell rfl rfl rfl (by decide +kernel) ⟨Nat.le_of_ble_eq_true rfl, Nat.le_of_ble_eq_true rfl⟩) (PW_preS hK hP) rfl rfl hl.1 rfl (lv_room (Nat.le_of_ble_eq_true rfl)) dX2_cell_1 ⟨Nat.zero_le _, Nat.zero_le _⟩) ?_
  refine lv_if_eq (tgt := 17) hx hb dX2_cell_4 (by decide) (fun c_4 => ?_) (fun c_4 => ?_)
  · refine lv_ldc (v := -100001) hx hb hown lk66 dX2_cell_17 ?_
    have hX : (xX2_cell (R 84) p1 p2 kw) = (-100001 : Int32) := by unfold xX2_cell; rw [if_pos c_4]
    exact W.iret (v := (-100001 : Int32)) hx hb hr (fun t ht hW => ⟨by rw [hX], ht⟩) (fun _ h => by cases h) dX2_cell_19
  · refine lv_iload_n hx hb dX2_cell_7 rfl (lv_at hl 2 rfl) ?_
    refine lv_iconst (v := 0) hx hb dX2_cell_8 (by decide) ?_
    refine lv_bipush (v := 7) hx hb dX2_cell_9 (by decide) ?_
    refine q_callS (va_runS (As := [.int p2, .int (0 : Int32), .int (7 : Int32)]) (rest := []) ⟨hx, hb, hml, hown, hts⟩ (mX2_in l D cI cS ad hI R F p2 (0 : Int32) (7 : Int32)) (va_cwS 3 hts gX2_cell_X2_in rfl rfl rfl (by decide +kernel) ⟨Nat.le_of_ble_eq_true rfl, Nat.le_of_ble_eq_true rfl⟩) (PW_preS hK hP) rfl rfl hl.1 rfl (lv_room (Nat.le_of_ble_eq_true rfl)) dX2_cell_11 ⟨Nat.zero_le _, Nat.zero_le _⟩) ?_
    refine lv_if_ne (tgt := 20) hx hb dX2_cell_14 (by decide) (fun c_14 => ?_) (fun c_14 => ?_)
    · obtain ⟨hp1, hl1⟩ := cell_of c_4
      refine lv_iload_n hx hb dX2_cell_20 rfl (lv_at hl 2 rfl) ?_
      by_cases c_21_0 : p2 = (0 : Int32)
      · refine lv_tableIn (x := p2) (off := 47) (tgt := 68) hx hb dX2_cell_21 (by rw [c_21_0]; decide) (by rw [c_21_0]; decide) (by rw [c_21_0]; rfl) (by decide) ?_
        refine lv_aload_n hx hb dX2_cell_68 rfl (lv_at hl 0 rfl) ?_
        refine lv_iload_n hx hb dX2_cell_69 rfl (lv_at hl 1 rfl) ?_
        refine q_top (y := (nI (p1).toNatClampNeg)) hp1 ?_
        refine q_callS (va_runV (As := [.int (nI (p1).toNatClampNeg)]) (rest := []) ⟨hx, hb, hml, hown, hts⟩ (mX2_reading l D cI cS ad hI R F (p1).toNatClampNeg kw (by omega) hkw hW) (cwV 1 hts gX2_cell_X2_reading rfl rfl rfl (by decide +kernel) ⟨Nat.le_of_ble_eq_true rfl, Nat.le_of_ble_eq_true rfl⟩) (PW_preV (i := 83) (by decide) CC_83 rfl rfl hK hP) rfl rfl hl.1 rfl (lv_room (Nat.le_of_ble_eq_true rfl)) dX2_cell_70 ⟨Nat.zero_le _, Nat.zero_le _⟩) ?_
        have hX : (xX2_cell (R 84) p1 p2 kw) = (xX2_reading (R 84) (p1).toNatClampNeg kw) := by unfold xX2_cell; rw [if_neg c_4, if_neg c_14, if_pos c_21_0]
        exact W.iret (v := (xX2_reading (R 84) (p1).toNatClampNeg kw)) hx hb hr (fun t ht hW => ⟨by rw [hX], ht⟩) (fun _ h => by cases h) dX2_cell_73
      by_cases c_21_1 : p2 = (1 : Int32)
      · refine lv_tableIn (x := p2) (off := 73) (tgt := 94) hx hb dX2_cell_21 (by rw [c_21_1]; decide) (by rw [c_21_1]; decide) (by rw [c_21_1]; rfl) (by decide) ?_
        refine lv_aload_n hx hb dX2_cell_94 rfl (lv_at hl 0 rfl) ?_
        refine lv_iload_n hx hb dX2_cell_95 rfl (lv_at hl 1 rfl) ?_
        refine q_top (y := (nI (p1).toNatClampNeg)) hp1 ?_
        refine lv_iload_n hx hb dX2_cell_96 rfl (lv_at hl 2 rfl) ?_
        refine q_top (y := (nI 1)) c_21_1 ?_
        refine lv_iconst (v := 1) hx hb dX2_cell_97 (by decide) ?_
        refine lv_isub hx hb dX2_cell_98 ?_
        refine q_top (y := (nI 0)) (pk_sub (a := 1) (b := 1) (by decide)) ?_
        refine q_callS (va_runV (As := [.int (nI (p1).toNatClampNeg), .int (nI 0)]) (rest := []) ⟨hx, hb, hml, hown, hts⟩ (mX2_of l D cI cS ad hI R F (p1).toNatClampNeg 0 (by omega)) (cwV 2 hts gX2_cell_X2_of rfl rfl rfl (by decide +kernel) ⟨Nat.le_of_ble_eq_true rfl, Nat.le_of_ble_eq_true rfl⟩) (PW_preV (i := 83) (by decide) CC_83 rfl rfl hK hP) rfl rfl hl.1 rfl (lv_room (Nat.le_of_ble_eq_true rfl)) dX2_cell_99 ⟨Nat.zero_le _, Nat.zero_le _⟩) ?_
        have hX : (xX2_cell (R 84) p1 p2 kw) = (xX2_of (R 84) (p1).toNatClampNeg 0) := by unfold xX2_cell; rw [if_neg c_4, if_neg c_14, if_neg c_21_0, if_pos c_21_1]
        exact W.iret (v := (xX2_of (R 84) (p1).toNatClampNeg 0)) hx hb hr (fun t ht hW => ⟨by rw [hX], ht⟩) (fun _ h => by cases h) dX2_cell_102
      by_cases c_21_2 : p2 = (2 : Int32)
      · refine lv_tableIn (x := p2) (off := 73) (tgt := 94) hx hb dX2_cell_21 (by rw [c_21_2]; decide) (by rw [c_21_2]; decide) (by rw [c_21_2]; rfl) (by decide) ?_
        refine lv_aload_n hx hb dX2_cell_94 rfl (lv_at hl 0 rfl) ?_
        refine lv_iload_n hx hb dX2_cell_95 rfl (lv_at hl 1 rfl) ?_
        refine q_top (y := (nI (p1).toNatClampNeg)) hp1 ?_
        refine lv_iload_n hx hb dX2_cell_96 rfl (lv_at hl 2 rfl) ?_
        refine q_top (y := (nI 2)) c_21_2 ?_
        refine lv_iconst (v := 1) hx hb dX2_cell_97 (by decide) ?_
        refine lv_isub hx hb dX2_cell_98 ?_
        refine q_top (y := (nI 1)) (pk_sub (a := 2) (b := 1) (by decide)) ?_
        refine q_callS (va_runV (As := [.int (nI (p1).toNatClampNeg), .int (nI 1)]) (rest := []) ⟨hx, hb, hml, hown, hts⟩ (mX2_of l D cI cS ad hI R F (p1).toNatClampNeg 1 (by omega)) (cwV 2 hts gX2_cell_X2_of rfl rfl rfl (by decide +kernel) ⟨Nat.le_of_ble_eq_true rfl, Nat.le_of_ble_eq_true rfl⟩) (PW_preV (i := 83) (by decide) CC_83 rfl rfl hK hP) rfl rfl hl.1 rfl (lv_room (Nat.le_of_ble_eq_true rfl)) dX2_cell_99 ⟨Nat.zero_le _, Nat.zero_le _⟩) ?_
        have hX : (xX2_cell (R 84) p1 p2 kw) = (xX2_of (R 84) (p1).toNatClampNeg 1) := by unfold xX2_cell; rw [if_neg c_4, if_neg c_14, if_neg c_21_0, if_neg c_21_1, if_pos c_21_2]
        exact W.iret (v := (xX2_of (R 84) (p1).toNatClampNeg 1)) hx hb hr (fun t ht hW => ⟨by rw [hX], ht⟩) (fun _ h => by cases h) dX2_cell_102
      by_cases c_21_3 : p2 = (3 : Int32)
      · refine lv_tableIn (x := p2) (off := 73) (tgt := 94) hx hb dX2_cell_21 (by rw [c_21_3]; decide) (by rw [c_21_3]; decide) (by rw [c_21_3]; rfl) (by decide) ?_
        refine lv_aload_n hx hb dX2_cell_94 rfl (lv_at hl 0 rfl) ?_
        refine lv_iload_n hx hb dX2_cell_95 rfl (lv_at hl 1 rfl) ?_
        refine q_top (y := (nI (p1).toNatClampNeg)) hp1 ?_
        refine lv_iload_n hx hb dX2_cell_96 rfl (lv_at hl 2 rfl) ?_
        refine q_top (y := (nI 3)) c_21_3 ?_
        refine lv_iconst (v := 1) hx hb dX2_cell_97 (by decide) ?_
        refine lv_isub hx hb dX2_cell_98 ?_
        refine q_top (y := (nI 2)) (pk_sub (a := 3) (b := 1) (by decide)) ?_
        refine q_callS (va_runV (As := [.int (nI (p1).toNatClampNeg), .int (nI 2)]) (rest := []) ⟨hx, hb, hml, hown, hts⟩ (mX2_of l D cI cS ad hI R F (p1).toNatClampNeg 2 (by omega)) (cwV 2 hts gX2_cell_X2_of rfl rfl rfl (by decide +kernel) ⟨Nat.le_of_ble_eq_true rfl, Nat.le_of_ble_eq_true rfl⟩) (PW_preV (i := 83) (by decide) CC_83 rfl rfl hK hP) rfl rfl hl.1 rfl (lv_room (Nat.le_of_ble_eq_true rfl)) dX2_cell_99 ⟨Nat.zero_le _, Nat.zero_le _⟩) ?_
        have hX : (xX2_cell (R 84) p1 p2 kw) = (xX2_of (R 84) (p1).toNatClampNeg 2) := by unfold xX2_cell; rw [if_neg c_4, if_neg c_14, if_neg c_21_0, if_neg c_21_1, if_neg c_21_2, if_pos c_21_3]
        exact W.iret (v := (xX2_of (R 84) (p1).toNatClampNeg 2)) hx hb hr (fun t ht hW => ⟨by rw [hX], ht⟩) (fun _ h => by cases h) dX2_cell_102
      by_cases c_21_4 : p2 = (4 : Int32)
      · refine lv_tableIn (x := p2) (off := 73) (tgt := 94) hx hb dX2_cell_21 (by rw [c_21_4]; decide) (by rw [c_21_4]; decide) (by rw [c_21_4]; rfl) (by decide) ?_
        refine lv_aload_n hx hb dX2_cell_94 rfl (lv_at hl 0 rfl) ?_
        refine lv_iload_n hx hb dX2_cell_95 rfl (lv_at hl 1 rfl) ?_
        refine q_top (y := (nI (p1).toNatClampNeg)) hp1 ?_
        refine lv_iload_n hx hb dX2_cell_96 rfl (lv_at hl 2 rfl) ?_
        refine q_top (y := (nI 4)) c_21_4 ?_
        refine lv_iconst (v := 1) hx hb dX2_cell_97 (by decide) ?_
        refine lv_isub hx hb dX2_cell_98 ?_
        refine q_top (y := (nI 3)) (pk_sub (a := 4) (b := 1) (by decide)) ?_
        refine q_callS (va_runV (As := [.int (nI (p1).toNatClampNeg), .int (nI 3)]) (rest := []) ⟨hx, hb, hml, hown, hts⟩ (mX2_of l D cI cS ad hI R F (p1).toNatClampNeg 3 (by omega)) (cwV 2 hts gX2_cell_X2_of rfl rfl rfl (by decide +kernel) ⟨Nat.le_of_ble_eq_true rfl, Nat.le_of_ble_eq_true rfl⟩) (PW_preV (i := 83) (by decide) CC_83 rfl rfl hK hP) rfl rfl hl.1 rfl (lv_room (Nat.le_of_ble_eq_true rfl)) dX2_cell_99 ⟨Nat.zero_le _, Nat.zero_le _⟩) ?_
        have hX : (xX2_cell (R 84) p1 p2 kw) = (xX2_of (R 84) (p1).toNatClampNeg 3) := by unfold xX2_cell; rw [if_neg c_4, if_neg c_14, if_neg c_21_0, if_neg c_21_1, if_neg c_21_2, if_neg c_21_3, if_pos c_21_4]
        exact W.iret (v := (xX2_of (R 84) (p1).toNatClampNeg 3)) hx hb hr (fun t ht hW => ⟨by rw [hX], ht⟩) (fun _ h => by cases h) dX2_cell_102
      by_cases c_21_5 : p2 = (5 : Int32)
      · refine lv_tableIn (x := p2) (off := 53) (tgt := 74) hx hb dX2_cell_21 (by rw [c_21_5]; decide) (by rw [c_21_5]; decide) (by rw [c_21_5]; rfl) (by decide) ?_
        refine lv_aload_n hx hb dX2_cell_74 rfl (lv_at hl 0 rfl) ?_
        refine lv_iload_n hx hb dX2_cell_75 rfl (lv_at hl 1 rfl) ?_
        refine q_top (y := (nI (p1).toNatClampNeg)) hp1 ?_
        refine q_callS (va_runV (As := [.int (nI (p1).toNatClampNeg)]) (rest := []) ⟨hx, hb, hml, hown, hts⟩ (mX2_expected l D cI cS ad hI R F (p1).toNatClampNeg kw (by omega) hkw hW) (cwV 1 hts gX2_cell_X2_expected rfl rfl rfl (by decide +kernel) ⟨Nat.le_of_ble_eq_true rfl, Nat.le_of_ble_eq_true rfl⟩) (PW_preV (i := 83) (by decide) CC_83 rfl rfl hK hP) rfl rfl hl.1 rfl (lv_room (Nat.le_of_ble_eq_true rfl)) dX2_cell_76 ⟨Nat.zero_le _, Nat.zero_le _⟩) ?_
        have hX : (xX2_cell (R 84) p1 p2 kw) = (xX2_expected (R 84) (p1).toNatClampNeg kw) := by unfold xX2_cell; rw [if_neg c_4, if_neg c_14, if_neg c_21_0, if_neg c_21_1, if_neg c_21_2, if_neg c_21_3, if_neg c_21_4, if_pos c_21_5]
        exact W.iret (v := (xX2_expected (R 84) (p1).toNatClampNeg kw)) hx hb hr (fun t ht hW => ⟨by rw [hX], ht⟩) (fun _ h => by cases h) dX2_cell_79
      by_cases c_21_6 : p2 = (6 : Int32)
      · refine lv_tableIn (x := p2) (off := 59) (tgt := 80) hx hb dX2_cell_21 (by rw [c_21_6]; decide) (by rw [c_21_6]; decide) (by rw [c_21_6]; rfl) (by decide) ?_
        refine lv_aload_n hx hb dX2_cell_80 rfl (lv_at hl 0 rfl) ?_
        refine lv_iload_n hx hb dX2_cell_81 rfl (lv_at hl 1 rfl) ?_
        refine q_top (y := (nI (p1).toNatClampNeg)) hp1 ?_
        refine lv_iconst (v := 1) hx hb dX2_cell_82 (by decide) ?_
        refine q_callS (va_runV (As := [.int (nI (p1).toNatClampNeg), .int (nI 1)]) (rest := []) ⟨hx, hb, hml, hown, hts⟩ (mX2_on l D cI cS ad hI R F (nI (p1).toNatClampNeg) 1 kw (by omega) hkw hW) (cwV 2 hts gX2_cell_X2_on rfl rfl rfl (by decide +kernel) ⟨Nat.le_of_ble_eq_true rfl, Nat.le_of_ble_eq_true rfl⟩) (PW_preV (i := 83) (by decide) CC_83 rfl rfl hK hP) rfl rfl hl.1 rfl (lv_room (Nat.le_of_ble_eq_true rfl)) dX2_cell_83 ⟨Nat.zero_le _, Nat.zero_le _⟩) ?_
        have hX : (xX2_cell (R 84) p1 p2 kw) = (xX2_on (R 84) (nI (p1).toNatClampNeg) 1 kw) := by unfold xX2_cell; rw [if_neg c_4, if_neg c_14, if_neg c_21_0, if_neg c_21_1, if_neg c_21_2, if_neg c_21_3, if_neg c_21_4, if_neg c_21_5, if_pos c_21_6]
        exact W.iret (v := (xX2_on (R 84) (nI (p1).toNatClampNeg) 1 kw)) hx hb hr (fun t ht hW => ⟨by rw [hX], ht⟩) (fun _ h => by cases h) dX2_cell_86
      by_cases c_21_7 : p2 = (7 : Int32)
      · refine lv_tableIn (x := p2) (off := 66) (tgt := 87) hx hb dX2_cell_21 (by rw [c_21_7]; decide) (by rw [c_21_7]; decide) (by rw [c_21_7]; rfl) (by decide) ?_
        refine lv_aload_n hx hb dX2_cell_87 rfl (lv_at hl 0 rfl) ?_
        refine lv_iload_n hx hb dX2_cell_88 rfl (lv_at hl 1 rfl) ?_
        refine q_top (y := (nI (p1).toNatClampNeg)) hp1 ?_
        refine lv_iconst (v := 3) hx hb dX2_cell_89 (by decide) ?_
        refine q_callS (va_runV (As := [.int (nI (p1).toNatClampNeg), .int (nI 3)]) (rest := []) ⟨hx, hb, hml, hown, hts⟩ (mX2_on l D cI cS ad hI R F (nI (p1).toNatClampNeg) 3 kw (by omega) hkw hW) (cwV 2 hts gX2_cell_X2_on rfl rfl rfl (by decide +kernel) ⟨Nat.le_of_ble_eq_true rfl, Nat.le_of_ble_eq_true rfl⟩) (PW_preV (i := 83) (by decide) CC_83 rfl rfl hK hP) rfl rfl hl.1 rfl (lv_room (Nat.le_of_ble_eq_true rfl)) dX2_cell_90 ⟨Nat.zero_le _, Nat.zero_le _⟩) ?_
        have hX : (xX2_cell (R 84) p1 p2 kw) = (xX2_on (R 84) (nI (p1).toNatClampNeg) 3 kw) := by unfold xX2_cell; rw [if_neg c_4, if_neg c_14, if_neg c_21_0, if_neg c_21_1, if_neg c_21_2, if_neg c_21_3, if_neg c_21_4, if_neg c_21_5, if_neg c_21_6, if_pos c_21_7]
        exact W.iret (v := (xX2_on (R 84) (nI (p1).toNatClampNeg) 3 kw)) hx hb hr (fun t ht hW => ⟨by rw [hX], ht⟩) (fun _ h => by cases h) dX2_cell_93
      rcases in07 c_14 with h | h | h | h | h | h | h | h <;> contradiction
    · refine lv_ldc (v := -100001) hx hb hown lk66 dX2_cell_17 ?_
      have hX : (xX2_cell (R 84) p1 p2 kw) = (-100001 : Int32) := by unfold xX2_cell; rw [if_neg c_4, if_pos c_14]
      exact W.iret (v := (-100001 : Int32)) hx hb hr (fun t ht hW => ⟨by rw [hX], ht⟩) (fun _ h => by cases h) dX2_cell_19

def xX2_walker (s : Nat → Int32) (p1 : Int32) (p2 : Int32) : Int32 :=
  (if (xX2_isWalker s p1) = (0 : Int32) then (-100001 : Int32) else (if (xX2_in p2 (0 : Int32) (7 : Int32)) = (0 : Int32) then (-100001 : Int32) else (xX2_ofWalker s (p1).toNatClampNeg (p2).toNatClampNeg)))
set_option maxHeartbeats 4000000 in
set_option maxRecDepth 100000 in
theorem mX2_walker (l : Launch) (D : va_G) (cI cS : ClassId) (ad : Nat → Nat) (hI : Inj ad) (R F : Nat → Nat → Int32) (p1 : Int32) (p2 : Int32) (kw : Nat) (hkw : kw ≤ 8) (hW : R 84 1 = nI kw) : Met l yX2_walker wsX2_walker ({ frames := 1, cells := 0, slots := 0, locals := 22 }) (PW D cI cS ad R F [.ref (ad 83), .int p1, .int p2]) (QS (xX2_walker (R 84) p1 p2)) 0 0 (fun _ => False) := by
  refine Met.ofW (cc := cX2_walker) (maxL := 3) (ret := (some .int)) (by decide) rfl ?_
  intro p e s m args below meth c s₁ B hml hv
  obtain ⟨rfl, hP, hK⟩ := hv
  have hx := B.exec
  have hb := B.bytes
  have hr := B.returns
  have hts := atoms_spec (ws := wsX2_walker) B.pre
  have hown : s.vm.findClass RX2 = some m.cls := findClass_of_methodNamed B.named
  have hlocks := B.notSynchronized
  have hS : va_S (AA ad) s.heap s.heap [] := va_S.rf
  have hl := lv_entry ([.ref (ad 83), .int p1, .int p2]) (n := 3) (Nat.le_of_ble_eq_true rfl)
  rw [lg_entry_eq]
  generalize (lg_sl ([.ref (ad 83), .int p1, .int p2]) ++ List.replicate (3 - (lg_sl ([.ref (ad 83), .int p1, .int p2])).length) Slot.unset).toArray = ls at hl ⊢
  have hl : lv_has ls 3 [(0, .ref (ad 83)), (1, .int p1), (2, .int p2)] := hl
  have lk66 := hts (.constant RX2 66 (-100001)) (by decide +kernel)
  refine lv_aload_n hx hb dX2_walker_0 rfl (lv_at hl 0 rfl) ?_
  refine lv_iload_n hx hb dX2_walker_1 rfl (lv_at hl 1 rfl) ?_
  refine q_callS (va_runV (As := [.int p1]) (rest := []) ⟨hx, hb, hml, hown, hts⟩ (mX2_isWalker l D cI cS ad hI R F p1) (cwV 1 hts gX2_walker_X2_isWalker rfl rfl rfl (by decide +kernel) ⟨Nat.le_of_ble_eq_true rfl, Nat.le_of_ble_eq_true rfl⟩) (PW_preV (i := 83) (by decide) CC_83 rfl rfl hK hP) rfl rfl hl.1 rfl (lv_room (Nat.le_of_ble_eq_true rfl)) dX2_walker_2 ⟨Nat.zero_le _, Nat.zero_le _⟩) ?_
  refine lv_if_eq (tgt := 27) hx hb dX2_walker_5 (by decide) (fun c_5 => ?_) (fun c_5 => ?_)
  · refine lv_ldc (v := -100001) hx hb hown lk66 dX2_walker_27 ?_
    have hX : (xX2_walker (R 84) p1 p2) = (-100001 : Int32) := by unfold xX2_walker; rw [if_pos c_5]
    exact W.iret (v := (-100001 : Int32)) hx hb hr (fun t ht hW => ⟨by rw [hX], ht⟩) (fun _ h => by cases h) dX2_walker_29
  · refine lv_iload_n hx hb dX2_walker_8 rfl (lv_at hl 2 rfl) ?_
    refine lv_iconst (v := 0) hx hb dX2_walker_9 (by decide) ?_
    refine lv_bipush (v := 7) hx hb dX2_walker_10 (by decide) ?_
    refine q_callS (va_runS (As := [.int p2, .int (0 : Int32), .int (7 : Int32)]) (rest := []) ⟨hx, hb, hml, hown, hts⟩ (mX2_in l D cI cS ad hI R F p2 (0 : Int32) (7 : Int32)) (va_cwS 3 hts gX2_walker_X2_in rfl rfl rfl (by decide +kernel) ⟨Nat.le_of_ble_eq_true rfl, Nat.le_of_ble_eq_true rfl⟩) (PW_preS hK hP) rfl rfl hl.1 rfl (lv_room (Nat.le_of_ble_eq_true rfl)) dX2_walker_12 ⟨Nat.zero_le _, Nat.zero_le _⟩) ?_
    refine lv_if_eq (tgt := 27) hx hb dX2_walker_15 (by decide) (fun c_15 => ?_) (fun c_15 => ?_)
    · refine lv_ldc (v := -100001) hx hb hown lk66 dX2_walker_27 ?_
      have hX : (xX2_walker (R 84) p1 p2) = (-100001 : Int32) := by unfold xX2_walker; rw [if_neg c_5, if_pos c_15]
      exact W.iret (v := (-100001 : Int32)) hx hb hr (fun t ht hW => ⟨by rw [hX], ht⟩) (fun _ h => by cases h) dX2_walker_29
    · obtain ⟨hp1, hl1⟩ := wk_of c_5 hW hkw
      obtain ⟨hp2, hl2⟩ := in07_of c_15
      refine lv_aload_n hx hb dX2_walker_18 rfl (lv_at hl 0 rfl) ?_
      refine lv_iload_n hx hb dX2_walker_19 rfl (lv_at hl 1 rfl) ?_
      refine q_top (y := (nI (p1).toNatClampNeg)) hp1 ?_
      refine lv_iload_n hx hb dX2_walker_20 rfl (lv_at hl 2 rfl) ?_
      refine q_top (y := (nI (p2).toNatClampNeg)) hp2 ?_
      refine q_callS (va_runV (As := [.int (nI (p1).toNatClampNeg), .int (nI (p2).toNatClampNeg)]) (rest := []) ⟨hx, hb, hml, hown, hts⟩ (mX2_ofWalker l D cI cS ad hI R F (p1).toNatClampNeg (p2).toNatClampNeg (by omega)) (cwV 2 hts gX2_walker_X2_ofWalker rfl rfl rfl (by decide +kernel) ⟨Nat.le_of_ble_eq_true rfl, Nat.le_of_ble_eq_true rfl⟩) (PW_preV (i := 83) (by decide) CC_83 rfl rfl hK hP) rfl rfl hl.1 rfl (lv_room (Nat.le_of_ble_eq_true rfl)) dX2_walker_21 ⟨Nat.zero_le _, Nat.zero_le _⟩) ?_
      refine lv_goto (tgt := 29) hx hb dX2_walker_24 (by decide) ?_
      have hX : (xX2_walker (R 84) p1 p2) = (xX2_ofWalker (R 84) (p1).toNatClampNeg (p2).toNatClampNeg) := by unfold xX2_walker; rw [if_neg c_5, if_neg c_15]
      exact W.iret (v := (xX2_ofWalker (R 84) (p1).toNatClampNeg (p2).toNatClampNeg)) hx hb hr (fun t ht hW => ⟨by rw [hX], ht⟩) (fun _ h => by cases h) dX2_walker_29

def xX2_estimate (s : Nat → Int32) (p1 : Int32) (kw : Nat) : Int32 :=
  (if (xX2_isWalker s p1) = (0 : Int32) then (-100001 : Int32) else (if (xX2_isAboard s (p1).toNatClampNeg) = (0 : Int32) then (-100002 : Int32) else (xX2_estimateOf s (p1).toNatClampNeg kw)))
set_option maxHeartbeats 4000000 in
set_option maxRecDepth 100000 in
theorem mX2_estimate (l : Launch) (D : va_G) (cI cS : ClassId) (ad : Nat → Nat) (hI : Inj ad) (R F : Nat → Nat → Int32) (p1 : Int32) (kw : Nat) (hkw : kw ≤ 8) (hW : R 84 1 = nI kw) : Met l yX2_estimate wsX2_estimate ({ frames := 6, cells := 0, slots := 0, locals := 133 }) (PW D cI cS ad R F [.ref (ad 83), .int p1]) (QS (xX2_estimate (R 84) p1 kw)) 0 0 (fun _ => False) := by
  refine Met.ofW (cc := cX2_estimate) (maxL := 2) (ret := (some .int)) (by decide) rfl ?_
  intro p e s m args below meth c s₁ B hml hv
  obtain ⟨rfl, hP, hK⟩ := hv
  have hx := B.exec
  have hb := B.bytes
  have hr := B.returns
  have hts := atoms_spec (ws := wsX2_estimate) B.pre
  have hown : s.vm.findClass RX2 = some m.cls := findClass_of_methodNamed B.named
  have hlocks := B.notSynchronized
  have hS : va_S (AA ad) s.heap s.heap [] := va_S.rf
  have hl := lv_entry ([.ref (ad 83), .int p1]) (n := 2) (Nat.le_of_ble_eq_true rfl)
  rw [lg_entry_eq]
  generalize (lg_sl ([.ref (ad 83), .int p1]) ++ List.replicate (2 - (lg_sl ([.ref (ad 83), .int p1])).length) Slot.unset).toArray = ls at hl ⊢
  have hl : lv_has ls 2 [(0, .ref (ad 83)), (1, .int p1)] := hl
  have lk66 := hts (.constant RX2 66 (-100001)) (by decide +kernel)
  have lk70 := hts (.constant RX2 70 (-100002)) (by decide +kernel)
  refine lv_aload_n hx hb dX2_estimate_0 rfl (lv_at hl 0 rfl) ?_
  refine lv_iload_n hx hb dX2_estimate_1 rfl (lv_at hl 1 rfl) ?_
  refine q_callS (va_runV (As := [.int p1]) (rest := []) ⟨hx, hb, hml, hown, hts⟩ (mX2_isWalker l D cI cS ad hI R F p1) (cwV 1 hts gX2_estimate_X2_isWalker rfl rfl rfl (by decide +kernel) ⟨Nat.le_of_ble_eq_true rfl, Nat.le_of_ble_eq_true rfl⟩) (PW_preV (i := 83) (by decide) CC_83 rfl rfl hK hP) rfl rfl hl.1 rfl (lv_room (Nat.le_of_ble_eq_true rfl)) dX2_estimate_2 ⟨Nat.zero_le _, Nat.zero_le _⟩) ?_
  refine lv_if_ne (tgt := 13) hx hb dX2_estimate_5 (by decide) (fun c_5 => ?_) (fun c_5 => ?_)
  · obtain ⟨hp1, hl1⟩ := wk_of c_5 hW hkw
    refine lv_aload_n hx hb dX2_estimate_13 rfl (lv_at hl 0 rfl) ?_
    refine lv_iload_n hx hb dX2_estimate_14 rfl (lv_at hl 1 rfl) ?_
    refine q_top (y := (nI (p1).toNatClampNeg)) hp1 ?_
    refine q_callS (va_runV (As := [.int (nI (p1).toNatClampNeg)]) (rest := []) ⟨hx, hb, hml, hown, hts⟩ (mX2_isAboard l D cI cS ad hI R F (p1).toNatClampNeg (by omega)) (cwV 1 hts gX2_estimate_X2_isAboard rfl rfl rfl (by decide +kernel) ⟨Nat.le_of_ble_eq_true rfl, Nat.le_of_ble_eq_true rfl⟩) (PW_preV (i := 83) (by decide) CC_83 rfl rfl hK hP) rfl rfl hl.1 rfl (lv_room (Nat.le_of_ble_eq_true rfl)) dX2_estimate_15 ⟨Nat.zero_le _, Nat.zero_le _⟩) ?_
    refine lv_if_eq (tgt := 29) hx hb dX2_estimate_18 (by decide) (fun c_18 => ?_) (fun c_18 => ?_)
    · refine lv_ldc (v := -100002) hx hb hown lk70 dX2_estimate_29 ?_
      have hX : (xX2_estimate (R 84) p1 kw) = (-100002 : Int32) := by unfold xX2_estimate; rw [if_neg c_5, if_pos c_18]
      exact W.iret (v := (-100002 : Int32)) hx hb hr (fun t ht hW => ⟨by rw [hX], ht⟩) (fun _ h => by cases h) dX2_estimate_31
    · refine lv_aload_n hx hb dX2_estimate_21 rfl (lv_at hl 0 rfl) ?_
      refine lv_iload_n hx hb dX2_estimate_22 rfl (lv_at hl 1 rfl) ?_
      refine q_top (y := (nI (p1).toNatClampNeg)) hp1 ?_
      refine q_callS (va_runV (As := [.int (nI (p1).toNatClampNeg)]) (rest := []) ⟨hx, hb, hml, hown, hts⟩ (mX2_estimateOf l D cI cS ad hI R F (p1).toNatClampNeg kw (by omega) hkw hW) (cwV 1 hts gX2_estimate_X2_estimateOf rfl rfl rfl (by decide +kernel) ⟨Nat.le_of_ble_eq_true rfl, Nat.le_of_ble_eq_true rfl⟩) (PW_preV (i := 83) (by decide) CC_83 rfl rfl hK hP) rfl rfl hl.1 rfl (lv_room (Nat.le_of_ble_eq_true rfl)) dX2_estimate_23 ⟨Nat.zero_le _, Nat.zero_le _⟩) ?_
      refine lv_goto (tgt := 31) hx hb dX2_estimate_26 (by decide) ?_
      have hX : (xX2_estimate (R 84) p1 kw) = (xX2_estimateOf (R 84) (p1).toNatClampNeg kw) := by unfold xX2_estimate; rw [if_neg c_5, if_neg c_18]
      exact W.iret (v := (xX2_estimateOf (R 84) (p1).toNatClampNeg kw)) hx hb hr (fun t ht hW => ⟨by rw [hX], ht⟩) (fun _ h => by cases h) dX2_estimate_31
  · refine lv_ldc (v := -100001) hx hb hown lk66 dX2_estimate_8 ?_
    refine lv_goto (tgt := 31) hx hb dX2_estimate_10 (by decide) ?_
    have hX : (xX2_estimate (R 84) p1 kw) = (-100001 : Int32) := by unfold xX2_estimate; rw [if_pos c_5]
    exact W.iret (v := (-100001 : Int32)) hx hb hr (fun t ht hW => ⟨by rw [hX], ht⟩) (fun _ h => by cases h) dX2_estimate_31

def xX2_certainty (s : Nat → Int32) (p1 : Int32) : Int32 :=
  (if (xX2_isWalker s p1) = (0 : Int32) then (-100001 : Int32) else (if (xX2_isAboard s (p1).toNatClampNeg) = (0 : Int32) then (-100002 : Int32) else (xX2_certaintyIn s (p1).toNatClampNeg (0 : Int32))))
set_option maxHeartbeats 4000000 in
set_option maxRecDepth 100000 in
theorem mX2_certainty (l : Launch) (D : va_G) (cI cS : ClassId) (ad : Nat → Nat) (hI : Inj ad) (R F : Nat → Nat → Int32) (p1 : Int32) (kw : Nat) (hkw : kw ≤ 8) (hW : R 84 1 = nI kw) : Met l yX2_certainty wsX2_certainty ({ frames := 4, cells := 0, slots := 0, locals := 89 }) (PW D cI cS ad R F [.ref (ad 83), .int p1]) (QS (xX2_certainty (R 84) p1)) 0 0 (fun _ => False) := by
  refine Met.ofW (cc := cX2_certainty) (maxL := 2) (ret := (some .int)) (by decide) rfl ?_
  intro p e s m args below meth c s₁ B hml hv
  obtain ⟨rfl, hP, hK⟩ := hv
  have hx := B.exec
  have hb := B.bytes
  have hr := B.returns
  have hts := atoms_spec (ws := wsX2_certainty) B.pre
  have hown : s.vm.findClass RX2 = some m.cls := findClass_of_methodNamed B.named
  have hlocks := B.notSynchronized
  have hS : va_S (AA ad) s.heap s.heap [] := va_S.rf
  have hl := lv_entry ([.ref (ad 83), .int p1]) (n := 2) (Nat.le_of_ble_eq_true rfl)
  rw [lg_entry_eq]
  generalize (lg_sl ([.ref (ad 83), .int p1]) ++ List.replicate (2 - (lg_sl ([.ref (ad 83), .int p1])).length) Slot.unset).toArray = ls at hl ⊢
  have hl : lv_has ls 2 [(0, .ref (ad 83)), (1, .int p1)] := hl
  have lk66 := hts (.constant RX2 66 (-100001)) (by decide +kernel)
  have lk70 := hts (.constant RX2 70 (-100002)) (by decide +kernel)
  refine lv_aload_n hx hb dX2_certainty_0 rfl (lv_at hl 0 rfl) ?_
  refine lv_iload_n hx hb dX2_certainty_1 rfl (lv_at hl 1 rfl) ?_
  refine q_callS (va_runV (As := [.int p1]) (rest := []) ⟨hx, hb, hml, hown, hts⟩ (mX2_isWalker l D cI cS ad hI R F p1) (cwV 1 hts gX2_certainty_X2_isWalker rfl rfl rfl (by decide +kernel) ⟨Nat.le_of_ble_eq_true rfl, Nat.le_of_ble_eq_true rfl⟩) (PW_preV (i := 83) (by decide) CC_83 rfl rfl hK hP) rfl rfl hl.1 rfl (lv_room (Nat.le_of_ble_eq_true rfl)) dX2_certainty_2 ⟨Nat.zero_le _, Nat.zero_le _⟩) ?_
  refine lv_if_ne (tgt := 13) hx hb dX2_certainty_5 (by decide) (fun c_5 => ?_) (fun c_5 => ?_)
  · obtain ⟨hp1, hl1⟩ := wk_of c_5 hW hkw
    refine lv_aload_n hx hb dX2_certainty_13 rfl (lv_at hl 0 rfl) ?_
    refine lv_iload_n hx hb dX2_certainty_14 rfl (lv_at hl 1 rfl) ?_
    refine q_top (y := (nI (p1).toNatClampNeg)) hp1 ?_
    refine q_callS (va_runV (As := [.int (nI (p1).toNatClampNeg)]) (rest := []) ⟨hx, hb, hml, hown, hts⟩ (mX2_isAboard l D cI cS ad hI R F (p1).toNatClampNeg (by omega)) (cwV 1 hts gX2_certainty_X2_isAboard rfl rfl rfl (by decide +kernel) ⟨Nat.le_of_ble_eq_true rfl, Nat.le_of_ble_eq_true rfl⟩) (PW_preV (i := 83) (by decide) CC_83 rfl rfl hK hP) rfl rfl hl.1 rfl (lv_room (Nat.le_of_ble_eq_true rfl)) dX2_certainty_15 ⟨Nat.zero_le _, Nat.zero_le _⟩) ?_
    refine lv_if_eq (tgt := 30) hx hb dX2_certainty_18 (by decide) (fun c_18 => ?_) (fun c_18 => ?_)
    · refine lv_ldc (v := -100002) hx hb hown lk70 dX2_certainty_30 ?_
      have hX : (xX2_certainty (R 84) p1) = (-100002 : Int32) := by unfold xX2_certainty; rw [if_neg c_5, if_pos c_18]
      exact W.iret (v := (-100002 : Int32)) hx hb hr (fun t ht hW => ⟨by rw [hX], ht⟩) (fun _ h => by cases h) dX2_certainty_32
    · refine lv_aload_n hx hb dX2_certainty_21 rfl (lv_at hl 0 rfl) ?_
      refine lv_iload_n hx hb dX2_certainty_22 rfl (lv_at hl 1 rfl) ?_
      refine q_top (y := (nI (p1).toNatClampNeg)) hp1 ?_
      refine lv_iconst (v := 0) hx hb dX2_certainty_23 (by decide) ?_
      refine q_callS (va_runV (As := [.int (nI (p1).toNatClampNeg), .int (0 : Int32)]) (rest := []) ⟨hx, hb, hml, hown, hts⟩ (mX2_certaintyIn l D cI cS ad hI R F (p1).toNatClampNeg (0 : Int32) (by omega)) (cwV 2 hts gX2_certainty_X2_certaintyIn rfl rfl rfl (by decide +kernel) ⟨Nat.le_of_ble_eq_true rfl, Nat.le_of_ble_eq_true rfl⟩) (PW_preV (i := 83) (by decide) CC_83 rfl rfl hK hP) rfl rfl hl.1 rfl (lv_room (Nat.le_of_ble_eq_true rfl)) dX2_certainty_24 ⟨Nat.zero_le _, Nat.zero_le _⟩) ?_
      refine lv_goto (tgt := 32) hx hb dX2_certainty_27 (by decide) ?_
      have hX : (xX2_certainty (R 84) p1) = (xX2_certaintyIn (R 84) (p1).toNatClampNeg (0 : Int32)) := by unfold xX2_certainty; rw [if_neg c_5, if_neg c_18]
      exact W.iret (v := (xX2_certaintyIn (R 84) (p1).toNatClampNeg (0 : Int32))) hx hb hr (fun t ht hW => ⟨by rw [hX], ht⟩) (fun _ h => by cases h) dX2_certainty_32
  · refine lv_ldc (v := -100001) hx hb hown lk66 dX2_certainty_8 ?_
    refine lv_goto (tgt := 32) hx hb dX2_certainty_10 (by decide) ?_
    have hX : (xX2_certainty (R 84) p1) = (-100001 : Int32) := by unfold xX2_certainty; rw [if_pos c_5]
    exact W.iret (v := (-100001 : Int32)) hx hb hr (fun t ht hW => ⟨by rw [hX], ht⟩) (fun _ h => by cases h) dX2_certainty_32

def hX2_bestTwo_27 (R F : Nat → Nat → Int32) (kw : Nat) (k : Nat) (x1 : Int32) (R1 : Nat → Nat → Int32) (F1 : Nat → Nat → Int32) (κ1 : Nat → Int32 → (Nat → Nat → Int32) → (Nat → Nat → Int32) → Int32 × (Nat → Nat → Int32) × (Nat → Nat → Int32)) : Nat → Nat → Int32 → (Nat → Nat → Int32) → (Nat → Nat → Int32) → Int32 × (Nat → Nat → Int32) × (Nat → Nat → Int32)
  | 0, k2, x12, R2, F2 => (κ1 (k + 1) x12 R2 F2)
  | n2 + 1, k2, x12, R2, F2 => (if (xX2_isAboard (R2 84) k) = (0 : Int32) then (hX2_bestTwo_27 R F kw k x1 R1 F1 κ1 n2 (k2 + 1) x12 R2 F2) else (if (xX2_isAboard (R2 84) k2) = (0 : Int32) then (hX2_bestTwo_27 R F kw k x1 R1 F1 κ1 n2 (k2 + 1) x12 R2 F2) else (if (F2 83 1) ≤ (xX2_error ((xX2_exchanges R2 F2 k k2 3) 84) kw) then (if (F2 83 1) ≤ (xX2_error ((xX2_exchanges R2 F2 k k2 3) 84) kw) then (hX2_bestTwo_27 R F kw k x1 R1 F1 κ1 n2 (k2 + 1) x12 (xX2_exchanges (xX2_exchanges R2 F2 k k2 3) F2 k k2 3) (sR F2 83 1 (F2 83 1))) else (hX2_bestTwo_27 R F kw k x1 R1 F1 κ1 n2 (k2 + 1) x12 (xX2_exchanges (xX2_exchanges R2 F2 k k2 3) F2 k k2 3) (sR F2 83 1 (xX2_error ((xX2_exchanges R2 F2 k k2 3) 84) kw)))) else (if (F2 83 1) ≤ (xX2_error ((xX2_exchanges R2 F2 k k2 3) 84) kw) then (hX2_bestTwo_27 R F kw k x1 R1 F1 κ1 n2 (k2 + 1) (nI ((10 * k) + k2)) (xX2_exchanges (xX2_exchanges R2 F2 k k2 3) F2 k k2 3) (sR F2 83 1 (F2 83 1))) else (hX2_bestTwo_27 R F kw k x1 R1 F1 κ1 n2 (k2 + 1) (nI ((10 * k) + k2)) (xX2_exchanges (xX2_exchanges R2 F2 k k2 3) F2 k k2 3) (sR F2 83 1 (xX2_error ((xX2_exchanges R2 F2 k k2 3) 84) kw)))))))
theorem hX2_bestTwo_27_z (R F : Nat → Nat → Int32) (kw : Nat) (k : Nat) (x1 : Int32) (R1 : Nat → Nat → Int32) (F1 : Nat → Nat → Int32) (κ1 : Nat → Int32 → (Nat → Nat → Int32) → (Nat → Nat → Int32) → Int32 × (Nat → Nat → Int32) × (Nat → Nat → Int32)) (k2 : Nat) (x12 : Int32) (R2 : Nat → Nat → Int32) (F2 : Nat → Nat → Int32) : hX2_bestTwo_27 R F kw k x1 R1 F1 κ1 0 k2 x12 R2 F2 = (κ1 (k + 1) x12 R2 F2) := rfl
theorem hX2_bestTwo_27_s (R F : Nat → Nat → Int32) (kw : Nat) (k : Nat) (x1 : Int32) (R1 : Nat → Nat → Int32) (F1 : Nat → Nat → Int32) (κ1 : Nat → Int32 → (Nat → Nat → Int32) → (Nat → Nat → Int32) → Int32 × (Nat → Nat → Int32) × (Nat → Nat → Int32)) (n2 : Nat) (k2 : Nat) (x12 : Int32) (R2 : Nat → Nat → Int32) (F2 : Nat → Nat → Int32) : hX2_bestTwo_27 R F kw k x1 R1 F1 κ1 (n2 + 1) k2 x12 R2 F2 = (if (xX2_isAboard (R2 84) k) = (0 : Int32) then (hX2_bestTwo_27 R F kw k x1 R1 F1 κ1 n2 (k2 + 1) x12 R2 F2) else (if (xX2_isAboard (R2 84) k2) = (0 : Int32) then (hX2_bestTwo_27 R F kw k x1 R1 F1 κ1 n2 (k2 + 1) x12 R2 F2) else (if (F2 83 1) ≤ (xX2_error ((xX2_exchanges R2 F2 k k2 3) 84) kw) then (if (F2 83 1) ≤ (xX2_error ((xX2_exchanges R2 F2 k k2 3) 84) kw) then (hX2_bestTwo_27 R F kw k x1 R1 F1 κ1 n2 (k2 + 1) x12 (xX2_exchanges (xX2_exchanges R2 F2 k k2 3) F2 k k2 3) (sR F2 83 1 (F2 83 1))) else (hX2_bestTwo_27 R F kw k x1 R1 F1 κ1 n2 (k2 + 1) x12 (xX2_exchanges (xX2_exchanges R2 F2 k k2 3) F2 k k2 3) (sR F2 83 1 (xX2_error ((xX2_exchanges R2 F2 k k2 3) 84) kw)))) else (if (F2 83 1) ≤ (xX2_error ((xX2_exchanges R2 F2 k k2 3) 84) kw) then (hX2_bestTwo_27 R F kw k x1 R1 F1 κ1 n2 (k2 + 1) (nI ((10 * k) + k2)) (xX2_exchanges (xX2_exchanges R2 F2 k k2 3) F2 k k2 3) (sR F2 83 1 (F2 83 1))) else (hX2_bestTwo_27 R F kw k x1 R1 F1 κ1 n2 (k2 + 1) (nI ((10 * k) + k2)) (xX2_exchanges (xX2_exchanges R2 F2 k k2 3) F2 k k2 3) (sR F2 83 1 (xX2_error ((xX2_exchanges R2 F2 k k2 3) 84) kw))))))) := rfl
def hX2_bestTwo_13 (R F : Nat → Nat → Int32) (kw : Nat) : Nat → Nat → Int32 → (Nat → Nat → Int32) → (Nat → Nat → Int32) → Int32 × (Nat → Nat → Int32) × (Nat → Nat → Int32)
  | 0, k, x1, R1, F1 => (x1, R1, F1)
  | n + 1, k, x1, R1, F1 => (hX2_bestTwo_27 R F kw k x1 R1 F1 (fun z0 z1 z2 z3 => hX2_bestTwo_13 R F kw n z0 z1 z2 z3) (kw - (k + 1)) (k + 1) x1 R1 F1)
theorem hX2_bestTwo_13_z (R F : Nat → Nat → Int32) (kw : Nat) (k : Nat) (x1 : Int32) (R1 : Nat → Nat → Int32) (F1 : Nat → Nat → Int32) : hX2_bestTwo_13 R F kw 0 k x1 R1 F1 = (x1, R1, F1) := rfl
theorem hX2_bestTwo_13_s (R F : Nat → Nat → Int32) (kw : Nat) (n : Nat) (k : Nat) (x1 : Int32) (R1 : Nat → Nat → Int32) (F1 : Nat → Nat → Int32) : hX2_bestTwo_13 R F kw (n + 1) k x1 R1 F1 = (hX2_bestTwo_27 R F kw k x1 R1 F1 (fun z0 z1 z2 z3 => hX2_bestTwo_13 R F kw n z0 z1 z2 z3) (kw - (k + 1)) (k + 1) x1 R1 F1) := rfl
def xX2_bestTwo (R F : Nat → Nat → Int32) (kw : Nat) : Int32 × (Nat → Nat → Int32) × (Nat → Nat → Int32) :=
  (hX2_bestTwo_13 R F kw kw 0 (-100009 : Int32) R (sR F 83 1 (xX2_error (R 84) kw)))
set_option maxHeartbeats 4000000 in
set_option maxRecDepth 100000 in
theorem mX2_bestTwo (l : Launch) (D : va_G) (cI cS : ClassId) (ad : Nat → Nat) (hI : Inj ad) (R F : Nat → Nat → Int32) (kw : Nat) (hkw : kw ≤ 8) (hW : R 84 1 = nI kw) : Met l yX2_bestTwo wsX2_bestTwo ({ frames := 6, cells := 0, slots := 0, locals := 134 }) (PW D cI cS ad R F [.ref (ad 83)]) (QI D cI cS ad ((xX2_bestTwo R F kw).1) ((xX2_bestTwo R F kw).2.1) ((xX2_bestTwo R F kw).2.2)) 0 0 (AA ad) := by
  refine Met.ofW (cc := cX2_bestTwo) (maxL := 5) (ret := (some .int)) (by decide) rfl ?_
  intro p e s m args below meth c s₁ B hml hv
  obtain ⟨rfl, hP, hK⟩ := hv
  have hx := B.exec
  have hb := B.bytes
  have hr := B.returns
  have hts := atoms_spec (ws := wsX2_bestTwo) B.pre
  have hown : s.vm.findClass RX2 = some m.cls := findClass_of_methodNamed B.named
  have hlocks := B.notSynchronized
  have hS : va_S (AA ad) s.heap s.heap [] := va_S.rf
  have hl := lv_entry ([.ref (ad 83)]) (n := 5) (Nat.le_of_ble_eq_true rfl)
  rw [lg_entry_eq]
  generalize (lg_sl ([.ref (ad 83)]) ++ List.replicate (5 - (lg_sl ([.ref (ad 83)])).length) Slot.unset).toArray = ls at hl ⊢
  have hl : lv_has ls 5 [(0, .ref (ad 83))] := hl
  have lk31 := hts (.constant RX2 31 (-100009)) (by decide +kernel)
  have lk117 := hts (.fieldLink RX2 117 "FerryFloorModel" "least" "I") (by decide +kernel)
  have lk7 := hts (.fieldLink RX2 7 "FerryFloorModel" "s" "[I") (by decide +kernel)
  have hin2 : ∀ w ∈ u_ws RX2 TX2 5, w ∈ wsX2_bestTwo := by decide +kernel
  refine lv_ldc (v := -100009) hx hb hown lk31 dX2_bestTwo_0 ?_
  refine lv_istore_n (lv' := [(1, .int (-100009 : Int32)), (0, .ref (ad 83))]) hx hb dX2_bestTwo_2 rfl hl (by decide) rfl (fun ls hl => ?_)
  refine lv_aload_n hx hb dX2_bestTwo_3 rfl (lv_at hl 1 rfl) ?_
  refine lv_aload_n hx hb dX2_bestTwo_4 rfl (lv_at hl 1 rfl) ?_
  refine q_callS (va_runV (As := []) (rest := [.ref (ad 83)]) ⟨hx, hb, hml, hown, hts⟩ (mX2_error l D cI cS ad hI R F kw hkw hW) (cwV 0 hts gX2_bestTwo_X2_error rfl rfl rfl (by decide +kernel) ⟨Nat.le_of_ble_eq_true rfl, Nat.le_of_ble_eq_true rfl⟩) (PW_preV (i := 83) (by decide) CC_83 rfl rfl hK hP) rfl rfl hl.1 rfl (lv_room (Nat.le_of_ble_eq_true rfl)) dX2_bestTwo_5 ⟨Nat.zero_le _, Nat.zero_le _⟩) ?_
  refine q_putM hx hb hts hin2 hown hK hI hP hS 3 (by decide) lk117 (fun _ h => h) dX2_bestTwo_8 (fun H locs hP hS => ?_)
  have hP : WP D cI cS ad R (sR F 83 1 (xX2_error (R 84) kw)) H := hP
  refine lv_iconst (v := 0) hx hb dX2_bestTwo_11 (by decide) ?_
  refine lv_istore_n (lv' := [(2, .int (0 : Int32)), (1, .int (-100009 : Int32)), (0, .ref (ad 83))]) hx hb dX2_bestTwo_12 rfl hl (by decide) rfl (fun ls hl => ?_)
  refine q_loop (fun nn H locs ls => ∃ (k : Nat) (x1 : Int32) (R1 : Nat → Nat → Int32) (F1 : Nat → Nat → Int32), k + nn = kw ∧ hX2_bestTwo_13 R F kw nn k x1 R1 F1 = (xX2_bestTwo R F kw) ∧ R1 84 1 = nI kw ∧ WP D cI cS ad R1 F1 H ∧ va_S (AA ad) s.heap H locs ∧ lv_has ls 5 [(2, .int (nI k)), (1, .int x1), (0, .ref (ad 83))]) kw ⟨0, (-100009 : Int32), R, (sR F 83 1 (xX2_error (R 84) kw)), by omega, by unfold xX2_bestTwo; rfl, hW, hP, hS, lv_sub hl [0, 1, 2] rfl⟩ ?_ ?_
  · intro H locs ls hz
    obtain ⟨k, x1, R1, F1, hkn, hsp, hW1, hP, hS, hl⟩ := hz
    refine lv_iload_n hx hb dX2_bestTwo_13 rfl (lv_at hl 0 rfl) ?_
    refine lv_aload_n hx hb dX2_bestTwo_14 rfl (lv_at hl 2 rfl) ?_
    refine q_getM (v := .ref (ad 84)) hx hb hts hin2 hown hK hP 0 (by decide) lk7 (fun _ h => h) rfl dX2_bestTwo_15 ?_
    refine lv_iconst (v := 1) hx hb dX2_bestTwo_18 (by decide) ?_
    refine q_ildN hx hb hK hP 84 182 (ar_84) 1 dX2_bestTwo_19 rfl (by omega) (by decide) ?_
    refine q_top (y := (nI kw)) hW1 ?_
    refine lv_icmp_ge (tgt := 127) hx hb dX2_bestTwo_20 (by decide) (fun c_20 => ?_) (fun c_20 => ?_)
    · refine lv_iload_n hx hb dX2_bestTwo_127 rfl (lv_at hl 1 rfl) ?_
      have hX : (xX2_bestTwo R F kw) = (x1, R1, F1) := by rw [← hsp, hX2_bestTwo_13_z]
      exact W.iret (v := x1) hx hb hr (fun t ht hW => ⟨by rw [hX], by rw [hX, ht]; with_reducible exact hP, hS.F ht⟩) hS.2.2 dX2_bestTwo_128
    · exact absurd (nI_le (a := kw) (b := k) (by omega) (by omega)) c_20
  · intro n ih H locs ls hz
    obtain ⟨k, x1, R1, F1, hkn, hsp, hW1, hP, hS, hl⟩ := hz
    refine lv_iload_n hx hb dX2_bestTwo_13 rfl (lv_at hl 0 rfl) ?_
    refine lv_aload_n hx hb dX2_bestTwo_14 rfl (lv_at hl 2 rfl) ?_
    refine q_getM (v := .ref (ad 84)) hx hb hts hin2 hown hK hP 0 (by decide) lk7 (fun _ h => h) rfl dX2_bestTwo_15 ?_
    refine lv_iconst (v := 1) hx hb dX2_bestTwo_18 (by decide) ?_
    refine q_ildN hx hb hK hP 84 182 (ar_84) 1 dX2_bestTwo_19 rfl (by omega) (by decide) ?_
    refine q_top (y := (nI kw)) hW1 ?_
    refine lv_icmp_ge (tgt := 127) hx hb dX2_bestTwo_20 (by decide) (fun c_20 => ?_) (fun c_20 => ?_)
    · exact absurd c_20 (nI_ge (a := k) (b := kw) (by omega) (by omega))
    · refine lv_iload_n hx hb dX2_bestTwo_23 rfl (lv_at hl 0 rfl) ?_
      refine lv_iconst (v := 1) hx hb dX2_bestTwo_24 (by decide) ?_
      refine lv_iadd hx hb dX2_bestTwo_25 ?_
      refine q_top (y := (nI (k + 1))) (nI_add k 1) ?_
      refine lv_istore_n (lv' := [(3, .int (nI (k + 1))), (2, .int (nI k)), (1, .int x1), (0, .ref (ad 83))]) hx hb dX2_bestTwo_26 rfl hl (by decide) rfl (fun ls hl => ?_)
      refine q_loop (fun nn H locs ls => ∃ (k2 : Nat) (x12 : Int32) (R2 : Nat → Nat → Int32) (F2 : Nat → Nat → Int32), k2 + nn = kw ∧ hX2_bestTwo_27 R F kw k x1 R1 F1 (fun z0 z1 z2 z3 => hX2_bestTwo_13 R F kw n z0 z1 z2 z3) nn k2 x12 R2 F2 = (xX2_bestTwo R F kw) ∧ R2 84 1 = nI kw ∧ WP D cI cS ad R2 F2 H ∧ va_S (AA ad) s.heap H locs ∧ lv_has ls 5 [(3, .int (nI k2)), (2, .int (nI k)), (1, .int x12), (0, .ref (ad 83))]) (kw - (k + 1)) ⟨(k + 1), x1, R1, F1, by omega, by rw [← hsp, hX2_bestTwo_13_s], hW1, hP, hS, lv_sub hl [0, 1, 2, 3] rfl⟩ ?_ ?_
      · intro H locs ls hz
        obtain ⟨k2, x12, R2, F2, hkn2, hsp2, hW2, hP, hS, hl⟩ := hz
        refine lv_iload_n hx hb dX2_bestTwo_27 rfl (lv_at hl 0 rfl) ?_
        refine lv_aload_n hx hb dX2_bestTwo_28 rfl (lv_at hl 3 rfl) ?_
        refine q_getM (v := .ref (ad 84)) hx hb hts hin2 hown hK hP 0 (by decide) lk7 (fun _ h => h) rfl dX2_bestTwo_29 ?_
        refine lv_iconst (v := 1) hx hb dX2_bestTwo_32 (by decide) ?_
        refine q_ildN hx hb hK hP 84 182 (ar_84) 1 dX2_bestTwo_33 rfl (by omega) (by decide) ?_
        refine q_top (y := (nI kw)) hW2 ?_
        refine lv_icmp_ge (tgt := 121) hx hb dX2_bestTwo_34 (by decide) (fun c_34 => ?_) (fun c_34 => ?_)
        · refine lv_iinc (v := (nI (k + 1))) (lv' := [(2, .int (nI (k + 1))), (3, .int (nI k2)), (1, .int x12), (0, .ref (ad 83))]) hx hb dX2_bestTwo_121 hl (k := 1) rfl (nI_1 k) (by decide) rfl (fun ls hl => ?_)
          refine lv_goto (tgt := 13) hx hb dX2_bestTwo_124 (by decide) ?_
          exact ih _ _ _ ⟨(k + 1), x12, R2, F2, by omega, by rw [← hsp2, hX2_bestTwo_27_z], hW2, hP, hS, lv_sub hl [0, 2, 3] rfl⟩
        · exact absurd (nI_le (a := kw) (b := k2) (by omega) (by omega)) c_34
      · intro n2 ih2 H locs ls hz
        obtain ⟨k2, x12, R2, F2, hkn2, hsp2, hW2, hP, hS, hl⟩ := hz
        refine lv_iload_n hx hb dX2_bestTwo_27 rfl (lv_at hl 0 rfl) ?_
        refine lv_aload_n hx hb dX2_bestTwo_28 rfl (lv_at hl 3 rfl) ?_
        refine q_getM (v := .ref (ad 84)) hx hb hts hin2 hown hK hP 0 (by decide) lk7 (fun _ h => h) rfl dX2_bestTwo_29 ?_
        refine lv_iconst (v := 1) hx hb dX2_bestTwo_32 (by decide) ?_
        refine q_ildN hx hb hK hP 84 182 (ar_84) 1 dX2_bestTwo_33 rfl (by omega) (by decide) ?_
        refine q_top (y := (nI kw)) hW2 ?_
        refine lv_icmp_ge (tgt := 121) hx hb dX2_bestTwo_34 (by decide) (fun c_34 => ?_) (fun c_34 => ?_)
        · exact absurd c_34 (nI_ge (a := k2) (b := kw) (by omega) (by omega))
        · refine lv_aload_n hx hb dX2_bestTwo_37 rfl (lv_at hl 3 rfl) ?_
          refine lv_iload_n hx hb dX2_bestTwo_38 rfl (lv_at hl 1 rfl) ?_
          refine q_callS (va_runV (As := [.int (nI k)]) (rest := []) ⟨hx, hb, hml, hown, hts⟩ (mX2_isAboard l D cI cS ad hI R2 F2 k (by omega)) (cwV 1 hts gX2_bestTwo_X2_isAboard rfl rfl rfl (by decide +kernel) ⟨Nat.le_of_ble_eq_true rfl, Nat.le_of_ble_eq_true rfl⟩) (PW_preV (i := 83) (by decide) CC_83 rfl rfl hK hP) rfl rfl hl.1 rfl (lv_room (Nat.le_of_ble_eq_true rfl)) dX2_bestTwo_39 ⟨Nat.zero_le _, Nat.zero_le _⟩) ?_
          refine lv_if_eq (tgt := 115) hx hb dX2_bestTwo_42 (by decide) (fun c_42 => ?_) (fun c_42 => ?_)
          · refine lv_iinc (v := (nI (k2 + 1))) (lv' := [(3, .int (nI (k2 + 1))), (2, .int (nI k)), (1, .int x12), (0, .ref (ad 83))]) hx hb dX2_bestTwo_115 hl (k := 0) rfl (nI_1 k2) (by decide) rfl (fun ls hl => ?_)
            refine lv_goto (tgt := 27) hx hb dX2_bestTwo_118 (by decide) ?_
            exact ih2 _ _ _ ⟨(k2 + 1), x12, R2, F2, by omega, by rw [← hsp2, hX2_bestTwo_27_s, if_pos c_42], hW2, hP, hS, lv_sub hl [0, 1, 2, 3] rfl⟩
          · refine lv_aload_n hx hb dX2_bestTwo_45 rfl (lv_at hl 3 rfl) ?_
            refine lv_iload_n hx hb dX2_bestTwo_46 rfl (lv_at hl 0 rfl) ?_
            refine q_callS (va_runV (As := [.int (nI k2)]) (rest := []) ⟨hx, hb, hml, hown, hts⟩ (mX2_isAboard l D cI cS ad hI R2 F2 k2 (by omega)) (cwV 1 hts gX2_bestTwo_X2_isAboard rfl rfl rfl (by decide +kernel) ⟨Nat.le_of_ble_eq_true rfl, Nat.le_of_ble_eq_true rfl⟩) (PW_preV (i := 83) (by decide) CC_83 rfl rfl hK hP) rfl rfl hl.1 rfl (lv_room (Nat.le_of_ble_eq_true rfl)) dX2_bestTwo_47 ⟨Nat.zero_le _, Nat.zero_le _⟩) ?_
            refine lv_if_eq (tgt := 115) hx hb dX2_bestTwo_50 (by decide) (fun c_50 => ?_) (fun c_50 => ?_)
            · refine lv_iinc (v := (nI (k2 + 1))) (lv' := [(3, .int (nI (k2 + 1))), (2, .int (nI k)), (1, .int x12), (0, .ref (ad 83))]) hx hb dX2_bestTwo_115 hl (k := 0) rfl (nI_1 k2) (by decide) rfl (fun ls hl => ?_)
              refine lv_goto (tgt := 27) hx hb dX2_bestTwo_118 (by decide) ?_
              exact ih2 _ _ _ ⟨(k2 + 1), x12, R2, F2, by omega, by rw [← hsp2, hX2_bestTwo_27_s, if_neg c_42, if_pos c_50], hW2, hP, hS, lv_sub hl [0, 1, 2, 3] rfl⟩
            · refine lv_aload_n hx hb dX2_bestTwo_53 rfl (lv_at hl 3 rfl) ?_
              refine lv_iload_n hx hb dX2_bestTwo_54 rfl (lv_at hl 1 rfl) ?_
              refine lv_iload_n hx hb dX2_bestTwo_55 rfl (lv_at hl 0 rfl) ?_
              refine lv_iconst (v := 3) hx hb dX2_bestTwo_56 (by decide) ?_
              refine q_callV (va_runV (As := [.int (nI k), .int (nI k2), .int (nI 3)]) (rest := []) ⟨hx, hb, hml, hown, hts⟩ (mX2_exchanges l D cI cS ad hI R2 F2 k k2 3 (by omega) (by omega) (by omega)) (cwV 3 hts gX2_bestTwo_X2_exchanges rfl rfl rfl (by decide +kernel) ⟨Nat.le_of_ble_eq_true rfl, Nat.le_of_ble_eq_true rfl⟩) (PW_preV (i := 83) (by decide) CC_83 rfl rfl hK hP) rfl rfl hl.1 rfl (lv_room (Nat.le_of_ble_eq_true rfl)) dX2_bestTwo_57 ⟨Nat.zero_le _, Nat.zero_le _⟩) hS (fun H locs hP hS => ?_)
              refine lv_aload_n hx hb dX2_bestTwo_60 rfl (lv_at hl 3 rfl) ?_
              refine q_callS (va_runV (As := []) (rest := []) ⟨hx, hb, hml, hown, hts⟩ (mX2_error l D cI cS ad hI (xX2_exchanges R2 F2 k k2 3) F2 kw hkw (exch_1.trans hW2)) (cwV 0 hts gX2_bestTwo_X2_error rfl rfl rfl (by decide +kernel) ⟨Nat.le_of_ble_eq_true rfl, Nat.le_of_ble_eq_true rfl⟩) (PW_preV (i := 83) (by decide) CC_83 rfl rfl hK hP) rfl rfl hl.1 rfl (lv_room (Nat.le_of_ble_eq_true rfl)) dX2_bestTwo_61 ⟨Nat.zero_le _, Nat.zero_le _⟩) ?_
              refine lv_istore (lv' := [(4, .int (xX2_error ((xX2_exchanges R2 F2 k k2 3) 84) kw)), (3, .int (nI k2)), (2, .int (nI k)), (1, .int x12), (0, .ref (ad 83))]) hx hb dX2_bestTwo_64 hl (by decide) rfl (fun ls hl => ?_)
              refine lv_aload_n hx hb dX2_bestTwo_66 rfl (lv_at hl 4 rfl) ?_
              refine lv_iload_n hx hb dX2_bestTwo_67 rfl (lv_at hl 2 rfl) ?_
              refine lv_iload_n hx hb dX2_bestTwo_68 rfl (lv_at hl 1 rfl) ?_
              refine lv_iconst (v := 3) hx hb dX2_bestTwo_69 (by decide) ?_
              refine q_callV (va_runV (As := [.int (nI k), .int (nI k2), .int (nI 3)]) (rest := []) ⟨hx, hb, hml, hown, hts⟩ (mX2_exchanges l D cI cS ad hI (xX2_exchanges R2 F2 k k2 3) F2 k k2 3 (by omega) (by omega) (by omega)) (cwV 3 hts gX2_bestTwo_X2_exchanges rfl rfl rfl (by decide +kernel) ⟨Nat.le_of_ble_eq_true rfl, Nat.le_of_ble_eq_true rfl⟩) (PW_preV (i := 83) (by decide) CC_83 rfl rfl hK hP) rfl rfl hl.1 rfl (lv_room (Nat.le_of_ble_eq_true rfl)) dX2_bestTwo_70 ⟨Nat.zero_le _, Nat.zero_le _⟩) hS (fun H locs hP hS => ?_)
              refine lv_iload hx hb dX2_bestTwo_73 (lv_at hl 0 rfl) ?_
              refine lv_aload_n hx hb dX2_bestTwo_75 rfl (lv_at hl 4 rfl) ?_
              refine q_getM (v := .int (F2 83 1)) hx hb hts hin2 hown hK hP 3 (by decide) lk117 (fun _ h => h) rfl dX2_bestTwo_76 ?_
              refine lv_icmp_ge (tgt := 91) hx hb dX2_bestTwo_79 (by decide) (fun c_79 => ?_) (fun c_79 => ?_)
              · refine lv_iload_n hx hb dX2_bestTwo_91 rfl (lv_at hl 3 rfl) ?_
                refine lv_istore_n (lv' := [(1, .int x12), (4, .int (xX2_error ((xX2_exchanges R2 F2 k k2 3) 84) kw)), (3, .int (nI k2)), (2, .int (nI k)), (0, .ref (ad 83))]) hx hb dX2_bestTwo_92 rfl hl (by decide) rfl (fun ls hl => ?_)
                refine lv_aload_n hx hb dX2_bestTwo_93 rfl (lv_at hl 4 rfl) ?_
                refine lv_iload hx hb dX2_bestTwo_94 (lv_at hl 1 rfl) ?_
                refine lv_aload_n hx hb dX2_bestTwo_96 rfl (lv_at hl 4 rfl) ?_
                refine q_getM (v := .int (F2 83 1)) hx hb hts hin2 hown hK hP 3 (by decide) lk117 (fun _ h => h) rfl dX2_bestTwo_97 ?_
                refine lv_icmp_ge (tgt := 108) hx hb dX2_bestTwo_100 (by decide) (fun c_100 => ?_) (fun c_100 => ?_)
                · refine lv_aload_n hx hb dX2_bestTwo_108 rfl (lv_at hl 4 rfl) ?_
                  refine q_getM (v := .int (F2 83 1)) hx hb hts hin2 hown hK hP 3 (by decide) lk117 (fun _ h => h) rfl dX2_bestTwo_109 ?_
                  refine q_putM hx hb hts hin2 hown hK hI hP hS 3 (by decide) lk117 (fun _ h => h) dX2_bestTwo_112 (fun H locs hP hS => ?_)
                  have hP : WP D cI cS ad (xX2_exchanges (xX2_exchanges R2 F2 k k2 3) F2 k k2 3) (sR F2 83 1 (F2 83 1)) H := hP
                  refine lv_iinc (v := (nI (k2 + 1))) (lv' := [(3, .int (nI (k2 + 1))), (1, .int x12), (4, .int (xX2_error ((xX2_exchanges R2 F2 k k2 3) 84) kw)), (2, .int (nI k)), (0, .ref (ad 83))]) hx hb dX2_bestTwo_115 hl (k := 2) rfl (nI_1 k2) (by decide) rfl (fun ls hl => ?_)
                  refine lv_goto (tgt := 27) hx hb dX2_bestTwo_118 (by decide) ?_
                  exact ih2 _ _ _ ⟨(k2 + 1), x12, (xX2_exchanges (xX2_exchanges R2 F2 k k2 3) F2 k k2 3), (sR F2 83 1 (F2 83 1)), by omega, by rw [← hsp2, hX2_bestTwo_27_s, if_neg c_42, if_neg c_50, if_pos c_79, if_pos c_100], (exch_1.trans (exch_1.trans hW2)), hP, hS, lv_sub hl [0, 3, 1, 4] rfl⟩
                · refine lv_iload hx hb dX2_bestTwo_103 (lv_at hl 1 rfl) ?_
                  refine lv_goto (tgt := 112) hx hb dX2_bestTwo_105 (by decide) ?_
                  refine q_putM hx hb hts hin2 hown hK hI hP hS 3 (by decide) lk117 (fun _ h => h) dX2_bestTwo_112 (fun H locs hP hS => ?_)
                  have hP : WP D cI cS ad (xX2_exchanges (xX2_exchanges R2 F2 k k2 3) F2 k k2 3) (sR F2 83 1 (xX2_error ((xX2_exchanges R2 F2 k k2 3) 84) kw)) H := hP
                  refine lv_iinc (v := (nI (k2 + 1))) (lv' := [(3, .int (nI (k2 + 1))), (1, .int x12), (4, .int (xX2_error ((xX2_exchanges R2 F2 k k2 3) 84) kw)), (2, .int (nI k)), (0, .ref (ad 83))]) hx hb dX2_bestTwo_115 hl (k := 2) rfl (nI_1 k2) (by decide) rfl (fun ls hl => ?_)
                  refine lv_goto (tgt := 27) hx hb dX2_bestTwo_118 (by decide) ?_
                  exact ih2 _ _ _ ⟨(k2 + 1), x12, (xX2_exchanges (xX2_exchanges R2 F2 k k2 3) F2 k k2 3), (sR F2 83 1 (xX2_error ((xX2_exchanges R2 F2 k k2 3) 84) kw)), by omega, by rw [← hsp2, hX2_bestTwo_27_s, if_neg c_42, if_neg c_50, if_pos c_79, if_neg c_100], (exch_1.trans (exch_1.trans hW2)), hP, hS, lv_sub hl [0, 3, 1, 4] rfl⟩
              · refine lv_bipush (v := 10) hx hb dX2_bestTwo_82 (by decide) ?_
                refine lv_iload_n hx hb dX2_bestTwo_84 rfl (lv_at hl 2 rfl) ?_
                refine lv_imul hx hb dX2_bestTwo_85 ?_
                refine q_top (y := (nI (10 * k))) (pk_mul 10 k) ?_
                refine lv_iload_n hx hb dX2_bestTwo_86 rfl (lv_at hl 1 rfl) ?_
                refine lv_iadd hx hb dX2_bestTwo_87 ?_
                refine q_top (y := (nI ((10 * k) + k2))) (nI_add (10 * k) k2) ?_
                refine lv_goto (tgt := 92) hx hb dX2_bestTwo_88 (by decide) ?_
                refine lv_istore_n (lv' := [(1, .int (nI ((10 * k) + k2))), (4, .int (xX2_error ((xX2_exchanges R2 F2 k k2 3) 84) kw)), (3, .int (nI k2)), (2, .int (nI k)), (0, .ref (ad 83))]) hx hb dX2_bestTwo_92 rfl hl (by decide) rfl (fun ls hl => ?_)
                refine lv_aload_n hx hb dX2_bestTwo_93 rfl (lv_at hl 4 rfl) ?_
                refine lv_iload hx hb dX2_bestTwo_94 (lv_at hl 1 rfl) ?_
                refine lv_aload_n hx hb dX2_bestTwo_96 rfl (lv_at hl 4 rfl) ?_
                refine q_getM (v := .int (F2 83 1)) hx hb hts hin2 hown hK hP 3 (by decide) lk117 (fun _ h => h) rfl dX2_bestTwo_97 ?_
                refine lv_icmp_ge (tgt := 108) hx hb dX2_bestTwo_100 (by decide) (fun c_100 => ?_) (fun c_100 => ?_)
                · refine lv_aload_n hx hb dX2_bestTwo_108 rfl (lv_at hl 4 rfl) ?_
                  refine q_getM (v := .int (F2 83 1)) hx hb hts hin2 hown hK hP 3 (by decide) lk117 (fun _ h => h) rfl dX2_bestTwo_109 ?_
                  refine q_putM hx hb hts hin2 hown hK hI hP hS 3 (by decide) lk117 (fun _ h => h) dX2_bestTwo_112 (fun H locs hP hS => ?_)
                  have hP : WP D cI cS ad (xX2_exchanges (xX2_exchanges R2 F2 k k2 3) F2 k k2 3) (sR F2 83 1 (F2 83 1)) H := hP
                  refine lv_iinc (v := (nI (k2 + 1))) (lv' := [(3, .int (nI (k2 + 1))), (1, .int (nI ((10 * k) + k2))), (4, .int (xX2_error ((xX2_exchanges R2 F2 k k2 3) 84) kw)), (2, .int (nI k)), (0, .ref (ad 83))]) hx hb dX2_bestTwo_115 hl (k := 2) rfl (nI_1 k2) (by decide) rfl (fun ls hl => ?_)
                  refine lv_goto (tgt := 27) hx hb dX2_bestTwo_118 (by decide) ?_
                  exact ih2 _ _ _ ⟨(k2 + 1), (nI ((10 * k) + k2)), (xX2_exchanges (xX2_exchanges R2 F2 k k2 3) F2 k k2 3), (sR F2 83 1 (F2 83 1)), by omega, by rw [← hsp2, hX2_bestTwo_27_s, if_neg c_42, if_neg c_50, if_neg c_79, if_pos c_100], (exch_1.trans (exch_1.trans hW2)), hP, hS, lv_sub hl [0, 3, 1, 4] rfl⟩
                · refine lv_iload hx hb dX2_bestTwo_103 (lv_at hl 1 rfl) ?_
                  refine lv_goto (tgt := 112) hx hb dX2_bestTwo_105 (by decide) ?_
                  refine q_putM hx hb hts hin2 hown hK hI hP hS 3 (by decide) lk117 (fun _ h => h) dX2_bestTwo_112 (fun H locs hP hS => ?_)
                  have hP : WP D cI cS ad (xX2_exchanges (xX2_exchanges R2 F2 k k2 3) F2 k k2 3) (sR F2 83 1 (xX2_error ((xX2_exchanges R2 F2 k k2 3) 84) kw)) H := hP
                  refine lv_iinc (v := (nI (k2 + 1))) (lv' := [(3, .int (nI (k2 + 1))), (1, .int (nI ((10 * k) + k2))), (4, .int (xX2_error ((xX2_exchanges R2 F2 k k2 3) 84) kw)), (2, .int (nI k)), (0, .ref (ad 83))]) hx hb dX2_bestTwo_115 hl (k := 2) rfl (nI_1 k2) (by decide) rfl (fun ls hl => ?_)
                  refine lv_goto (tgt := 27) hx hb dX2_bestTwo_118 (by decide) ?_
                  exact ih2 _ _ _ ⟨(k2 + 1), (nI ((10 * k) + k2)), (xX2_exchanges (xX2_exchanges R2 F2 k k2 3) F2 k k2 3), (sR F2 83 1 (xX2_error ((xX2_exchanges R2 F2 k k2 3) 84) kw)), by omega, by rw [← hsp2, hX2_bestTwo_27_s, if_neg c_42, if_neg c_50, if_neg c_79, if_neg c_100], (exch_1.trans (exch_1.trans hW2)), hP, hS, lv_sub hl [0, 3, 1, 4] rfl⟩

def hX2_bestCell_7 (s : Nat → Int32) (kw : Nat) : Nat → Nat → Int32 → Int32 → Int32
  | 0, k, x1, x2 => x1
  | n + 1, k, x1, x2 => (if (xX2_on s (nI k) 1 kw) = (-100009 : Int32) then (if (xX2_earliest s (nI k)) ≤ x2 then (if (0 : Int32) = (0 : Int32) then (if (0 : Int32) = (0 : Int32) then (hX2_bestCell_7 s kw n (k + 1) x1 x2) else (hX2_bestCell_7 s kw n (k + 1) x1 (xX2_earliest s (nI k)))) else (if (0 : Int32) = (0 : Int32) then (hX2_bestCell_7 s kw n (k + 1) (nI k) x2) else (hX2_bestCell_7 s kw n (k + 1) (nI k) (xX2_earliest s (nI k))))) else (if (1 : Int32) = (0 : Int32) then (if (1 : Int32) = (0 : Int32) then (hX2_bestCell_7 s kw n (k + 1) x1 x2) else (hX2_bestCell_7 s kw n (k + 1) x1 (xX2_earliest s (nI k)))) else (if (1 : Int32) = (0 : Int32) then (hX2_bestCell_7 s kw n (k + 1) (nI k) x2) else (hX2_bestCell_7 s kw n (k + 1) (nI k) (xX2_earliest s (nI k)))))) else (if (0 : Int32) = (0 : Int32) then (if (0 : Int32) = (0 : Int32) then (hX2_bestCell_7 s kw n (k + 1) x1 x2) else (hX2_bestCell_7 s kw n (k + 1) x1 (xX2_earliest s (nI k)))) else (if (0 : Int32) = (0 : Int32) then (hX2_bestCell_7 s kw n (k + 1) (nI k) x2) else (hX2_bestCell_7 s kw n (k + 1) (nI k) (xX2_earliest s (nI k))))))
theorem hX2_bestCell_7_z (s : Nat → Int32) (kw : Nat) (k : Nat) (x1 : Int32) (x2 : Int32) : hX2_bestCell_7 s kw 0 k x1 x2 = x1 := rfl
theorem hX2_bestCell_7_s (s : Nat → Int32) (kw : Nat) (n : Nat) (k : Nat) (x1 : Int32) (x2 : Int32) : hX2_bestCell_7 s kw (n + 1) k x1 x2 = (if (xX2_on s (nI k) 1 kw) = (-100009 : Int32) then (if (xX2_earliest s (nI k)) ≤ x2 then (if (0 : Int32) = (0 : Int32) then (if (0 : Int32) = (0 : Int32) then (hX2_bestCell_7 s kw n (k + 1) x1 x2) else (hX2_bestCell_7 s kw n (k + 1) x1 (xX2_earliest s (nI k)))) else (if (0 : Int32) = (0 : Int32) then (hX2_bestCell_7 s kw n (k + 1) (nI k) x2) else (hX2_bestCell_7 s kw n (k + 1) (nI k) (xX2_earliest s (nI k))))) else (if (1 : Int32) = (0 : Int32) then (if (1 : Int32) = (0 : Int32) then (hX2_bestCell_7 s kw n (k + 1) x1 x2) else (hX2_bestCell_7 s kw n (k + 1) x1 (xX2_earliest s (nI k)))) else (if (1 : Int32) = (0 : Int32) then (hX2_bestCell_7 s kw n (k + 1) (nI k) x2) else (hX2_bestCell_7 s kw n (k + 1) (nI k) (xX2_earliest s (nI k)))))) else (if (0 : Int32) = (0 : Int32) then (if (0 : Int32) = (0 : Int32) then (hX2_bestCell_7 s kw n (k + 1) x1 x2) else (hX2_bestCell_7 s kw n (k + 1) x1 (xX2_earliest s (nI k)))) else (if (0 : Int32) = (0 : Int32) then (hX2_bestCell_7 s kw n (k + 1) (nI k) x2) else (hX2_bestCell_7 s kw n (k + 1) (nI k) (xX2_earliest s (nI k)))))) := rfl
def xX2_bestCell (s : Nat → Int32) (kw : Nat) : Int32 :=
  (hX2_bestCell_7 s kw 24 0 (-100009 : Int32) (-1 : Int32))
set_option maxHeartbeats 4000000 in
set_option maxRecDepth 100000 in
theorem mX2_bestCell (l : Launch) (D : va_G) (cI cS : ClassId) (ad : Nat → Nat) (hI : Inj ad) (R F : Nat → Nat → Int32) (kw : Nat) (hkw : kw ≤ 8) (hW : R 84 1 = nI kw) : Met l yX2_bestCell wsX2_bestCell ({ frames := 3, cells := 0, slots := 0, locals := 67 }) (PW D cI cS ad R F [.ref (ad 83)]) (QS (xX2_bestCell (R 84) kw)) 0 0 (fun _ => False) := by
  refine Met.ofW (cc := cX2_bestCell) (maxL := 5) (ret := (some .int)) (by decide) rfl ?_
  intro p e s m args below meth c s₁ B hml hv
  obtain ⟨rfl, hP, hK⟩ := hv
  have hx := B.exec
  have hb := B.bytes
  have hr := B.returns
  have hts := atoms_spec (ws := wsX2_bestCell) B.pre
  have hown : s.vm.findClass RX2 = some m.cls := findClass_of_methodNamed B.named
  have hlocks := B.notSynchronized
  have hS : va_S (AA ad) s.heap s.heap [] := va_S.rf
  have hl := lv_entry ([.ref (ad 83)]) (n := 5) (Nat.le_of_ble_eq_true rfl)
  rw [lg_entry_eq]
  generalize (lg_sl ([.ref (ad 83)]) ++ List.replicate (5 - (lg_sl ([.ref (ad 83)])).length) Slot.unset).toArray = ls at hl ⊢
  have hl : lv_has ls 5 [(0, .ref (ad 83))] := hl
  have lk31 := hts (.constant RX2 31 (-100009)) (by decide +kernel)
  refine lv_ldc (v := -100009) hx hb hown lk31 dX2_bestCell_0 ?_
  refine lv_istore_n (lv' := [(1, .int (-100009 : Int32)), (0, .ref (ad 83))]) hx hb dX2_bestCell_2 rfl hl (by decide) rfl (fun ls hl => ?_)
  refine lv_iconst (v := -1) hx hb dX2_bestCell_3 (by decide) ?_
  refine lv_istore_n (lv' := [(2, .int (-1 : Int32)), (1, .int (-100009 : Int32)), (0, .ref (ad 83))]) hx hb dX2_bestCell_4 rfl hl (by decide) rfl (fun ls hl => ?_)
  refine lv_iconst (v := 0) hx hb dX2_bestCell_5 (by decide) ?_
  refine lv_istore_n (lv' := [(3, .int (0 : Int32)), (2, .int (-1 : Int32)), (1, .int (-100009 : Int32)), (0, .ref (ad 83))]) hx hb dX2_bestCell_6 rfl hl (by decide) rfl (fun ls hl => ?_)
  refine q_loop (fun nn H locs ls => ∃ (k : Nat) (x1 : Int32) (x2 : Int32), k + nn = 24 ∧ hX2_bestCell_7 (R 84) kw nn k x1 x2 = (xX2_bestCell (R 84) kw) ∧ WP D cI cS ad R F H ∧ locs = [] ∧ H = s.heap ∧ lv_has ls 5 [(3, .int (nI k)), (2, .int x2), (1, .int x1), (0, .ref (ad 83))]) 24 ⟨0, (-100009 : Int32), (-1 : Int32), by omega, by unfold xX2_bestCell; rfl, hP, rfl, rfl, lv_sub hl [0, 1, 2, 3] rfl⟩ ?_ ?_
  · intro H locs ls hz
    obtain ⟨k, x1, x2, hkn, hsp, hP, rfl, rfl, hl⟩ := hz
    refine lv_iload_n hx hb dX2_bestCell_7 rfl (lv_at hl 0 rfl) ?_
    refine lv_bipush (v := 24) hx hb dX2_bestCell_8 (by decide) ?_
    refine lv_icmp_ge (tgt := 72) hx hb dX2_bestCell_10 (by decide) (fun c_10 => ?_) (fun c_10 => ?_)
    · refine lv_iload_n hx hb dX2_bestCell_72 rfl (lv_at hl 2 rfl) ?_
      have hX : (xX2_bestCell (R 84) kw) = x1 := by rw [← hsp, hX2_bestCell_7_z]
      exact W.iret (v := x1) hx hb hr (fun t ht hW => ⟨by rw [hX], ht⟩) (fun _ h => by cases h) dX2_bestCell_73
    · exact absurd (nI_le (a := 24) (b := k) (by omega) (by omega)) c_10
  · intro n ih H locs ls hz
    obtain ⟨k, x1, x2, hkn, hsp, hP, rfl, rfl, hl⟩ := hz
    refine lv_iload_n hx hb dX2_bestCell_7 rfl (lv_at hl 0 rfl) ?_
    refine lv_bipush (v := 24) hx hb dX2_bestCell_8 (by decide) ?_
    refine lv_icmp_ge (tgt := 72) hx hb dX2_bestCell_10 (by decide) (fun c_10 => ?_) (fun c_10 => ?_)
    · exact absurd c_10 (nI_ge (a := k) (b := 24) (by omega) (by omega))
    · refine lv_aload_n hx hb dX2_bestCell_13 rfl (lv_at hl 3 rfl) ?_
      refine lv_iload_n hx hb dX2_bestCell_14 rfl (lv_at hl 0 rfl) ?_
      refine lv_iconst (v := 1) hx hb dX2_bestCell_15 (by decide) ?_
      refine q_callS (va_runV (As := [.int (nI k), .int (nI 1)]) (rest := []) ⟨hx, hb, hml, hown, hts⟩ (mX2_on l D cI cS ad hI R F (nI k) 1 kw (by omega) hkw hW) (cwV 2 hts gX2_bestCell_X2_on rfl rfl rfl (by decide +kernel) ⟨Nat.le_of_ble_eq_true rfl, Nat.le_of_ble_eq_true rfl⟩) (PW_preV (i := 83) (by decide) CC_83 rfl rfl hK hP) rfl rfl hl.1 rfl (lv_room (Nat.le_of_ble_eq_true rfl)) dX2_bestCell_16 ⟨Nat.zero_le _, Nat.zero_le _⟩) ?_
      refine lv_ldc (v := -100009) hx hb hown lk31 dX2_bestCell_19 ?_
      refine lv_icmp_ne (tgt := 37) hx hb dX2_bestCell_21 (by decide) (fun c_21 => ?_) (fun c_21 => ?_)
      · refine lv_iconst (v := 0) hx hb dX2_bestCell_37 (by decide) ?_
        refine lv_istore (lv' := [(4, .int (0 : Int32)), (3, .int (nI k)), (2, .int x2), (1, .int x1), (0, .ref (ad 83))]) hx hb dX2_bestCell_38 hl (by decide) rfl (fun ls hl => ?_)
        refine lv_iload hx hb dX2_bestCell_40 (lv_at hl 0 rfl) ?_
        refine lv_if_eq (tgt := 49) hx hb dX2_bestCell_42 (by decide) (fun c_42 => ?_) (fun c_42 => ?_)
        · refine lv_iload_n hx hb dX2_bestCell_49 rfl (lv_at hl 3 rfl) ?_
          refine lv_istore_n (lv' := [(1, .int x1), (4, .int (0 : Int32)), (3, .int (nI k)), (2, .int x2), (0, .ref (ad 83))]) hx hb dX2_bestCell_50 rfl hl (by decide) rfl (fun ls hl => ?_)
          refine lv_iload hx hb dX2_bestCell_51 (lv_at hl 1 rfl) ?_
          refine lv_if_eq (tgt := 64) hx hb dX2_bestCell_53 (by decide) (fun c_53 => ?_) (fun c_53 => ?_)
          · refine lv_iload_n hx hb dX2_bestCell_64 rfl (lv_at hl 3 rfl) ?_
            refine lv_istore_n (lv' := [(2, .int x2), (1, .int x1), (4, .int (0 : Int32)), (3, .int (nI k)), (0, .ref (ad 83))]) hx hb dX2_bestCell_65 rfl hl (by decide) rfl (fun ls hl => ?_)
            refine lv_iinc (v := (nI (k + 1))) (lv' := [(3, .int (nI (k + 1))), (2, .int x2), (1, .int x1), (4, .int (0 : Int32)), (0, .ref (ad 83))]) hx hb dX2_bestCell_66 hl (k := 3) rfl (nI_1 k) (by decide) rfl (fun ls hl => ?_)
            refine lv_goto (tgt := 7) hx hb dX2_bestCell_69 (by decide) ?_
            exact ih _ _ _ ⟨(k + 1), x1, x2, by omega, by rw [← hsp, hX2_bestCell_7_s, if_neg c_21, if_pos c_42, if_pos c_53], hP, rfl, rfl, lv_sub hl [0, 1, 2, 4] rfl⟩
          · refine lv_aload_n hx hb dX2_bestCell_56 rfl (lv_at hl 4 rfl) ?_
            refine lv_iload_n hx hb dX2_bestCell_57 rfl (lv_at hl 2 rfl) ?_
            refine q_callS (va_runV (As := [.int (nI k)]) (rest := []) ⟨hx, hb, hml, hown, hts⟩ (mX2_earliest l D cI cS ad hI R F (nI k)) (cwV 1 hts gX2_bestCell_X2_earliest rfl rfl rfl (by decide +kernel) ⟨Nat.le_of_ble_eq_true rfl, Nat.le_of_ble_eq_true rfl⟩) (PW_preV (i := 83) (by decide) CC_83 rfl rfl hK hP) rfl rfl hl.1 rfl (lv_room (Nat.le_of_ble_eq_true rfl)) dX2_bestCell_58 ⟨Nat.zero_le _, Nat.zero_le _⟩) ?_
            refine lv_goto (tgt := 65) hx hb dX2_bestCell_61 (by decide) ?_
            refine lv_istore_n (lv' := [(2, .int (xX2_earliest (R 84) (nI k))), (1, .int x1), (4, .int (0 : Int32)), (3, .int (nI k)), (0, .ref (ad 83))]) hx hb dX2_bestCell_65 rfl hl (by decide) rfl (fun ls hl => ?_)
            refine lv_iinc (v := (nI (k + 1))) (lv' := [(3, .int (nI (k + 1))), (2, .int (xX2_earliest (R 84) (nI k))), (1, .int x1), (4, .int (0 : Int32)), (0, .ref (ad 83))]) hx hb dX2_bestCell_66 hl (k := 3) rfl (nI_1 k) (by decide) rfl (fun ls hl => ?_)
            refine lv_goto (tgt := 7) hx hb dX2_bestCell_69 (by decide) ?_
            exact ih _ _ _ ⟨(k + 1), x1, (xX2_earliest (R 84) (nI k)), by omega, by rw [← hsp, hX2_bestCell_7_s, if_neg c_21, if_pos c_42, if_neg c_53], hP, rfl, rfl, lv_sub hl [0, 1, 2, 4] rfl⟩
        · refine lv_iload_n hx hb dX2_bestCell_45 rfl (lv_at hl 1 rfl) ?_
          refine lv_goto (tgt := 50) hx hb dX2_bestCell_46 (by decide) ?_
          refine lv_istore_n (lv' := [(1, .int (nI k)), (4, .int (0 : Int32)), (3, .int (nI k)), (2, .int x2), (0, .ref (ad 83))]) hx hb dX2_bestCell_50 rfl hl (by decide) rfl (fun ls hl => ?_)
          refine lv_iload hx hb dX2_bestCell_51 (lv_at hl 1 rfl) ?_
          refine lv_if_eq (tgt := 64) hx hb dX2_bestCell_53 (by decide) (fun c_53 => ?_) (fun c_53 => ?_)
          · refine lv_iload_n hx hb dX2_bestCell_64 rfl (lv_at hl 3 rfl) ?_
            refine lv_istore_n (lv' := [(2, .int x2), (1, .int (nI k)), (4, .int (0 : Int32)), (3, .int (nI k)), (0, .ref (ad 83))]) hx hb dX2_bestCell_65 rfl hl (by decide) rfl (fun ls hl => ?_)
            refine lv_iinc (v := (nI (k + 1))) (lv' := [(3, .int (nI (k + 1))), (2, .int x2), (1, .int (nI k)), (4, .int (0 : Int32)), (0, .ref (ad 83))]) hx hb dX2_bestCell_66 hl (k := 3) rfl (nI_1 k) (by decide) rfl (fun ls hl => ?_)
            refine lv_goto (tgt := 7) hx hb dX2_bestCell_69 (by decide) ?_
            exact ih _ _ _ ⟨(k + 1), (nI k), x2, by omega, by rw [← hsp, hX2_bestCell_7_s, if_neg c_21, if_neg c_42, if_pos c_53], hP, rfl, rfl, lv_sub hl [0, 1, 2, 4] rfl⟩
          · refine lv_aload_n hx hb dX2_bestCell_56 rfl (lv_at hl 4 rfl) ?_
            refine lv_iload_n hx hb dX2_bestCell_57 rfl (lv_at hl 2 rfl) ?_
            refine q_callS (va_runV (As := [.int (nI k)]) (rest := []) ⟨hx, hb, hml, hown, hts⟩ (mX2_earliest l D cI cS ad hI R F (nI k)) (cwV 1 hts gX2_bestCell_X2_earliest rfl rfl rfl (by decide +kernel) ⟨Nat.le_of_ble_eq_true rfl, Nat.le_of_ble_eq_true rfl⟩) (PW_preV (i := 83) (by decide) CC_83 rfl rfl hK hP) rfl rfl hl.1 rfl (lv_room (Nat.le_of_ble_eq_true rfl)) dX2_bestCell_58 ⟨Nat.zero_le _, Nat.zero_le _⟩) ?_
            refine lv_goto (tgt := 65) hx hb dX2_bestCell_61 (by decide) ?_
            refine lv_istore_n (lv' := [(2, .int (xX2_earliest (R 84) (nI k))), (1, .int (nI k)), (4, .int (0 : Int32)), (3, .int (nI k)), (0, .ref (ad 83))]) hx hb dX2_bestCell_65 rfl hl (by decide) rfl (fun ls hl => ?_)
            refine lv_iinc (v := (nI (k + 1))) (lv' := [(3, .int (nI (k + 1))), (2, .int (xX2_earliest (R 84) (nI k))), (1, .int (nI k)), (4, .int (0 : Int32)), (0, .ref (ad 83))]) hx hb dX2_bestCell_66 hl (k := 3) rfl (nI_1 k) (by decide) rfl (fun ls hl => ?_)
            refine lv_goto (tgt := 7) hx hb dX2_bestCell_69 (by decide) ?_
            exact ih _ _ _ ⟨(k + 1), (nI k), (xX2_earliest (R 84) (nI k)), by omega, by rw [← hsp, hX2_bestCell_7_s, if_neg c_21, if_neg c_42, if_neg c_53], hP, rfl, rfl, lv_sub hl [0, 1, 2, 4] rfl⟩
      · refine lv_aload_n hx hb dX2_bestCell_24 rfl (lv_at hl 3 rfl) ?_
        refine lv_iload_n hx hb dX2_bestCell_25 rfl (lv_at hl 0 rfl) ?_
        refine q_callS (va_runV (As := [.int (nI k)]) (rest := []) ⟨hx, hb, hml, hown, hts⟩ (mX2_earliest l D cI cS ad hI R F (nI k)) (cwV 1 hts gX2_bestCell_X2_earliest rfl rfl rfl (by decide +kernel) ⟨Nat.le_of_ble_eq_true rfl, Nat.le_of_ble_eq_true rfl⟩) (PW_preV (i := 83) (by decide) CC_83 rfl rfl hK hP) rfl rfl hl.1 rfl (lv_room (Nat.le_of_ble_eq_true rfl)) dX2_bestCell_26 ⟨Nat.zero_le _, Nat.zero_le _⟩) ?_
        refine lv_iload_n hx hb dX2_bestCell_29 rfl (lv_at hl 1 rfl) ?_
        refine lv_icmp_le (tgt := 37) hx hb dX2_bestCell_30 (by decide) (fun c_30 => ?_) (fun c_30 => ?_)
        · refine lv_iconst (v := 0) hx hb dX2_bestCell_37 (by decide) ?_
          refine lv_istore (lv' := [(4, .int (0 : Int32)), (3, .int (nI k)), (2, .int x2), (1, .int x1), (0, .ref (ad 83))]) hx hb dX2_bestCell_38 hl (by decide) rfl (fun ls hl => ?_)
          refine lv_iload hx hb dX2_bestCell_40 (lv_at hl 0 rfl) ?_
          refine lv_if_eq (tgt := 49) hx hb dX2_bestCell_42 (by decide) (fun c_42 => ?_) (fun c_42 => ?_)
          · refine lv_iload_n hx hb dX2_bestCell_49 rfl (lv_at hl 3 rfl) ?_
            refine lv_istore_n (lv' := [(1, .int x1), (4, .int (0 : Int32)), (3, .int (nI k)), (2, .int x2), (0, .ref (ad 83))]) hx hb dX2_bestCell_50 rfl hl (by decide) rfl (fun ls hl => ?_)
            refine lv_iload hx hb dX2_bestCell_51 (lv_at hl 1 rfl) ?_
            refine lv_if_eq (tgt := 64) hx hb dX2_bestCell_53 (by decide) (fun c_53 => ?_) (fun c_53 => ?_)
            · refine lv_iload_n hx hb dX2_bestCell_64 rfl (lv_at hl 3 rfl) ?_
              refine lv_istore_n (lv' := [(2, .int x2), (1, .int x1), (4, .int (0 : Int32)), (3, .int (nI k)), (0, .ref (ad 83))]) hx hb dX2_bestCell_65 rfl hl (by decide) rfl (fun ls hl => ?_)
              refine lv_iinc (v := (nI (k + 1))) (lv' := [(3, .int (nI (k + 1))), (2, .int x2), (1, .int x1), (4, .int (0 : Int32)), (0, .ref (ad 83))]) hx hb dX2_bestCell_66 hl (k := 3) rfl (nI_1 k) (by decide) rfl (fun ls hl => ?_)
              refine lv_goto (tgt := 7) hx hb dX2_bestCell_69 (by decide) ?_
              exact ih _ _ _ ⟨(k + 1), x1, x2, by omega, by rw [← hsp, hX2_bestCell_7_s, if_pos c_21, if_pos c_30, if_pos c_42, if_pos c_53], hP, rfl, rfl, lv_sub hl [0, 1, 2, 4] rfl⟩
            · refine lv_aload_n hx hb dX2_bestCell_56 rfl (lv_at hl 4 rfl) ?_
              refine lv_iload_n hx hb dX2_bestCell_57 rfl (lv_at hl 2 rfl) ?_
              refine q_callS (va_runV (As := [.int (nI k)]) (rest := []) ⟨hx, hb, hml, hown, hts⟩ (mX2_earliest l D cI cS ad hI R F (nI k)) (cwV 1 hts gX2_bestCell_X2_earliest rfl rfl rfl (by decide +kernel) ⟨Nat.le_of_ble_eq_true rfl, Nat.le_of_ble_eq_true rfl⟩) (PW_preV (i := 83) (by decide) CC_83 rfl rfl hK hP) rfl rfl hl.1 rfl (lv_room (Nat.le_of_ble_eq_true rfl)) dX2_bestCell_58 ⟨Nat.zero_le _, Nat.zero_le _⟩) ?_
              refine lv_goto (tgt := 65) hx hb dX2_bestCell_61 (by decide) ?_
              refine lv_istore_n (lv' := [(2, .int (xX2_earliest (R 84) (nI k))), (1, .int x1), (4, .int (0 : Int32)), (3, .int (nI k)), (0, .ref (ad 83))]) hx hb dX2_bestCell_65 rfl hl (by decide) rfl (fun ls hl => ?_)
              refine lv_iinc (v := (nI (k + 1))) (lv' := [(3, .int (nI (k + 1))), (2, .int (xX2_earliest (R 84) (nI k))), (1, .int x1), (4, .int (0 : Int32)), (0, .ref (ad 83))]) hx hb dX2_bestCell_66 hl (k := 3) rfl (nI_1 k) (by decide) rfl (fun ls hl => ?_)
              refine lv_goto (tgt := 7) hx hb dX2_bestCell_69 (by decide) ?_
              exact ih _ _ _ ⟨(k + 1), x1, (xX2_earliest (R 84) (nI k)), by omega, by rw [← hsp, hX2_bestCell_7_s, if_pos c_21, if_pos c_30, if_pos c_42, if_neg c_53], hP, rfl, rfl, lv_sub hl [0, 1, 2, 4] rfl⟩
          · refine lv_iload_n hx hb dX2_bestCell_45 rfl (lv_at hl 1 rfl) ?_
            refine lv_goto (tgt := 50) hx hb dX2_bestCell_46 (by decide) ?_
            refine lv_istore_n (lv' := [(1, .int (nI k)), (4, .int (0 : Int32)), (3, .int (nI k)), (2, .int x2), (0, .ref (ad 83))]) hx hb dX2_bestCell_50 rfl hl (by decide) rfl (fun ls hl => ?_)
            refine lv_iload hx hb dX2_bestCell_51 (lv_at hl 1 rfl) ?_
            refine lv_if_eq (tgt := 64) hx hb dX2_bestCell_53 (by decide) (fun c_53 => ?_) (fun c_53 => ?_)
            · refine lv_iload_n hx hb dX2_bestCell_64 rfl (lv_at hl 3 rfl) ?_
              refine lv_istore_n (lv' := [(2, .int x2), (1, .int (nI k)), (4, .int (0 : Int32)), (3, .int (nI k)), (0, .ref (ad 83))]) hx hb dX2_bestCell_65 rfl hl (by decide) rfl (fun ls hl => ?_)
              refine lv_iinc (v := (nI (k + 1))) (lv' := [(3, .int (nI (k + 1))), (2, .int x2), (1, .int (nI k)), (4, .int (0 : Int32)), (0, .ref (ad 83))]) hx hb dX2_bestCell_66 hl (k := 3) rfl (nI_1 k) (by decide) rfl (fun ls hl => ?_)
              refine lv_goto (tgt := 7) hx hb dX2_bestCell_69 (by decide) ?_
              exact ih _ _ _ ⟨(k + 1), (nI k), x2, by omega, by rw [← hsp, hX2_bestCell_7_s, if_pos c_21, if_pos c_30, if_neg c_42, if_pos c_53], hP, rfl, rfl, lv_sub hl [0, 1, 2, 4] rfl⟩
            · refine lv_aload_n hx hb dX2_bestCell_56 rfl (lv_at hl 4 rfl) ?_
              refine lv_iload_n hx hb dX2_bestCell_57 rfl (lv_at hl 2 rfl) ?_
              refine q_callS (va_runV (As := [.int (nI k)]) (rest := []) ⟨hx, hb, hml, hown, hts⟩ (mX2_earliest l D cI cS ad hI R F (nI k)) (cwV 1 hts gX2_bestCell_X2_earliest rfl rfl rfl (by decide +kernel) ⟨Nat.le_of_ble_eq_true rfl, Nat.le_of_ble_eq_true rfl⟩) (PW_preV (i := 83) (by decide) CC_83 rfl rfl hK hP) rfl rfl hl.1 rfl (lv_room (Nat.le_of_ble_eq_true rfl)) dX2_bestCell_58 ⟨Nat.zero_le _, Nat.zero_le _⟩) ?_
              refine lv_goto (tgt := 65) hx hb dX2_bestCell_61 (by decide) ?_
              refine lv_istore_n (lv' := [(2, .int (xX2_earliest (R 84) (nI k))), (1, .int (nI k)), (4, .int (0 : Int32)), (3, .int (nI k)), (0, .ref (ad 83))]) hx hb dX2_bestCell_65 rfl hl (by decide) rfl (fun ls hl => ?_)
              refine lv_iinc (v := (nI (k + 1))) (lv' := [(3, .int (nI (k + 1))), (2, .int (xX2_earliest (R 84) (nI k))), (1, .int (nI k)), (4, .int (0 : Int32)), (0, .ref (ad 83))]) hx hb dX2_bestCell_66 hl (k := 3) rfl (nI_1 k) (by decide) rfl (fun ls hl => ?_)
              refine lv_goto (tgt := 7) hx hb dX2_bestCell_69 (by decide) ?_
              exact ih _ _ _ ⟨(k + 1), (nI k), (xX2_earliest (R 84) (nI k)), by omega, by rw [← hsp, hX2_bestCell_7_s, if_pos c_21, if_pos c_30, if_neg c_42, if_neg c_53], hP, rfl, rfl, lv_sub hl [0, 1, 2, 4] rfl⟩
        · refine lv_iconst (v := 1) hx hb dX2_bestCell_33 (by decide) ?_
          refine lv_goto (tgt := 38) hx hb dX2_bestCell_34 (by decide) ?_
          refine lv_istore (lv' := [(4, .int (1 : Int32)), (3, .int (nI k)), (2, .int x2), (1, .int x1), (0, .ref (ad 83))]) hx hb dX2_bestCell_38 hl (by decide) rfl (fun ls hl => ?_)
          refine lv_iload hx hb dX2_bestCell_40 (lv_at hl 0 rfl) ?_
          refine lv_if_eq (tgt := 49) hx hb dX2_bestCell_42 (by decide) (fun c_42 => ?_) (fun c_42 => ?_)
          · refine lv_iload_n hx hb dX2_bestCell_49 rfl (lv_at hl 3 rfl) ?_
            refine lv_istore_n (lv' := [(1, .int x1), (4, .int (1 : Int32)), (3, .int (nI k)), (2, .int x2), (0, .ref (ad 83))]) hx hb dX2_bestCell_50 rfl hl (by decide) rfl (fun ls hl => ?_)
            refine lv_iload hx hb dX2_bestCell_51 (lv_at hl 1 rfl) ?_
            refine lv_if_eq (tgt := 64) hx hb dX2_bestCell_53 (by decide) (fun c_53 => ?_) (fun c_53 => ?_)
            · refine lv_iload_n hx hb dX2_bestCell_64 rfl (lv_at hl 3 rfl) ?_
              refine lv_istore_n (lv' := [(2, .int x2), (1, .int x1), (4, .int (1 : Int32)), (3, .int (nI k)), (0, .ref (ad 83))]) hx hb dX2_bestCell_65 rfl hl (by decide) rfl (fun ls hl => ?_)
              refine lv_iinc (v := (nI (k + 1))) (lv' := [(3, .int (nI (k + 1))), (2, .int x2), (1, .int x1), (4, .int (1 : Int32)), (0, .ref (ad 83))]) hx hb dX2_bestCell_66 hl (k := 3) rfl (nI_1 k) (by decide) rfl (fun ls hl => ?_)
              refine lv_goto (tgt := 7) hx hb dX2_bestCell_69 (by decide) ?_
              exact ih _ _ _ ⟨(k + 1), x1, x2, by omega, by rw [← hsp, hX2_bestCell_7_s, if_pos c_21, if_neg c_30, if_pos c_42, if_pos c_53], hP, rfl, rfl, lv_sub hl [0, 1, 2, 4] rfl⟩
            · refine lv_aload_n hx hb dX2_bestCell_56 rfl (lv_at hl 4 rfl) ?_
              refine lv_iload_n hx hb dX2_bestCell_57 rfl (lv_at hl 2 rfl) ?_
              refine q_callS (va_runV (As := [.int (nI k)]) (rest := []) ⟨hx, hb, hml, hown, hts⟩ (mX2_earliest l D cI cS ad hI R F (nI k)) (cwV 1 hts gX2_bestCell_X2_earliest rfl rfl rfl (by decide +kernel) ⟨Nat.le_of_ble_eq_true rfl, Nat.le_of_ble_eq_true rfl⟩) (PW_preV (i := 83) (by decide) CC_83 rfl rfl hK hP) rfl rfl hl.1 rfl (lv_room (Nat.le_of_ble_eq_true rfl)) dX2_bestCell_58 ⟨Nat.zero_le _, Nat.zero_le _⟩) ?_
              refine lv_goto (tgt := 65) hx hb dX2_bestCell_61 (by decide) ?_
              refine lv_istore_n (lv' := [(2, .int (xX2_earliest (R 84) (nI k))), (1, .int x1), (4, .int (1 : Int32)), (3, .int (nI k)), (0, .ref (ad 83))]) hx hb dX2_bestCell_65 rfl hl (by decide) rfl (fun ls hl => ?_)
              refine lv_iinc (v := (nI (k + 1))) (lv' := [(3, .int (nI (k + 1))), (2, .int (xX2_earliest (R 84) (nI k))), (1, .int x1), (4, .int (1 : Int32)), (0, .ref (ad 83))]) hx hb dX2_bestCell_66 hl (k := 3) rfl (nI_1 k) (by decide) rfl (fun ls hl => ?_)
              refine lv_goto (tgt := 7) hx hb dX2_bestCell_69 (by decide) ?_
              exact ih _ _ _ ⟨(k + 1), x1, (xX2_earliest (R 84) (nI k)), by omega, by rw [← hsp, hX2_bestCell_7_s, if_pos c_21, if_neg c_30, if_pos c_42, if_neg c_53], hP, rfl, rfl, lv_sub hl [0, 1, 2, 4] rfl⟩
          · refine lv_iload_n hx hb dX2_bestCell_45 rfl (lv_at hl 1 rfl) ?_
            refine lv_goto (tgt := 50) hx hb dX2_bestCell_46 (by decide) ?_
            refine lv_istore_n (lv' := [(1, .int (nI k)), (4, .int (1 : Int32)), (3, .int (nI k)), (2, .int x2), (0, .ref (ad 83))]) hx hb dX2_bestCell_50 rfl hl (by decide) rfl (fun ls hl => ?_)
            refine lv_iload hx hb dX2_bestCell_51 (lv_at hl 1 rfl) ?_
            refine lv_if_eq (tgt := 64) hx hb dX2_bestCell_53 (by decide) (fun c_53 => ?_) (fun c_53 => ?_)
            · refine lv_iload_n hx hb dX2_bestCell_64 rfl (lv_at hl 3 rfl) ?_
              refine lv_istore_n (lv' := [(2, .int x2), (1, .int (nI k)), (4, .int (1 : Int32)), (3, .int (nI k)), (0, .ref (ad 83))]) hx hb dX2_bestCell_65 rfl hl (by decide) rfl (fun ls hl => ?_)
              refine lv_iinc (v := (nI (k + 1))) (lv' := [(3, .int (nI (k + 1))), (2, .int x2), (1, .int (nI k)), (4, .int (1 : Int32)), (0, .ref (ad 83))]) hx hb dX2_bestCell_66 hl (k := 3) rfl (nI_1 k) (by decide) rfl (fun ls hl => ?_)
              refine lv_goto (tgt := 7) hx hb dX2_bestCell_69 (by decide) ?_
              exact ih _ _ _ ⟨(k + 1), (nI k), x2, by omega, by rw [← hsp, hX2_bestCell_7_s, if_pos c_21, if_neg c_30, if_neg c_42, if_pos c_53], hP, rfl, rfl, lv_sub hl [0, 1, 2, 4] rfl⟩
            · refine lv_aload_n hx hb dX2_bestCell_56 rfl (lv_at hl 4 rfl) ?_
              refine lv_iload_n hx hb dX2_bestCell_57 rfl (lv_at hl 2 rfl) ?_
              refine q_callS (va_runV (As := [.int (nI k)]) (rest := []) ⟨hx, hb, hml, hown, hts⟩ (mX2_earliest l D cI cS ad hI R F (nI k)) (cwV 1 hts gX2_bestCell_X2_earliest rfl rfl rfl (by decide +kernel) ⟨Nat.le_of_ble_eq_true rfl, Nat.le_of_ble_eq_true rfl⟩) (PW_preV (i := 83) (by decide) CC_83 rfl rfl hK hP) rfl rfl hl.1 rfl (lv_room (Nat.le_of_ble_eq_true rfl)) dX2_bestCell_58 ⟨Nat.zero_le _, Nat.zero_le _⟩) ?_
              refine lv_goto (tgt := 65) hx hb dX2_bestCell_61 (by decide) ?_
              refine lv_istore_n (lv' := [(2, .int (xX2_earliest (R 84) (nI k))), (1, .int (nI k)), (4, .int (1 : Int32)), (3, .int (nI k)), (0, .ref (ad 83))]) hx hb dX2_bestCell_65 rfl hl (by decide) rfl (fun ls hl => ?_)
              refine lv_iinc (v := (nI (k + 1))) (lv' := [(3, .int (nI (k + 1))), (2, .int (xX2_earliest (R 84) (nI k))), (1, .int (nI k)), (4, .int (1 : Int32)), (0, .ref (ad 83))]) hx hb dX2_bestCell_66 hl (k := 3) rfl (nI_1 k) (by decide) rfl (fun ls hl => ?_)
              refine lv_goto (tgt := 7) hx hb dX2_bestCell_69 (by decide) ?_
              exact ih _ _ _ ⟨(k + 1), (nI k), (xX2_earliest (R 84) (nI k)), by omega, by rw [← hsp, hX2_bestCell_7_s, if_pos c_21, if_neg c_30, if_neg c_42, if_neg c_53], hP, rfl, rfl, lv_sub hl [0, 1, 2, 4] rfl⟩

def hX2_until_34 (s : Nat → Int32) (p1 : Int32) (p2 : Int32) : Nat → Nat → Int32
  | 0, k => (nI k)
  | n + 1, k => (if (xX2_certaintyIn s (p1).toNatClampNeg (nI k)) < p2 then (nI k) else (hX2_until_34 s p1 p2 n (k + 1)))
theorem hX2_until_34_z (s : Nat → Int32) (p1 : Int32) (p2 : Int32) (k : Nat) : hX2_until_34 s p1 p2 0 k = (nI k) := rfl
theorem hX2_until_34_s (s : Nat → Int32) (p1 : Int32) (p2 : Int32) (n : Nat) (k : Nat) : hX2_until_34 s p1 p2 (n + 1) k = (if (xX2_certaintyIn s (p1).toNatClampNeg (nI k)) < p2 then (nI k) else (hX2_until_34 s p1 p2 n (k + 1))) := rfl
def xX2_until (s : Nat → Int32) (p1 : Int32) (p2 : Int32) : Int32 :=
  (if (xX2_isWalker s p1) = (0 : Int32) then (-100001 : Int32) else (if (xX2_in p2 (1 : Int32) (100 : Int32)) = (0 : Int32) then (-100001 : Int32) else (if (xX2_isAboard s (p1).toNatClampNeg) = (0 : Int32) then (-100002 : Int32) else (hX2_until_34 s p1 p2 20 0))))
set_option maxHeartbeats 4000000 in
set_option maxRecDepth 100000 in
theorem mX2_until (l : Launch) (D : va_G) (cI cS : ClassId) (ad : Nat → Nat) (hI : Inj ad) (R F : Nat → Nat → Int32) (p1 : Int32) (p2 : Int32) (kw : Nat) (hkw : kw ≤ 8) (hW : R 84 1 = nI kw) (hE : ¬ xX2_isWalker (R 84) p1 = 0 → ¬ xX2_in p2 1 100 = 0 → ¬ xX2_isAboard (R 84) (p1).toNatClampNeg = 0 → xX2_certaintyIn (R 84) (p1).toNatClampNeg (nI 20) < p2) : Met l yX2_until wsX2_until ({ frames := 4, cells := 0, slots := 0, locals := 89 }) (PW D cI cS ad R F [.ref (ad 83), .int p1, .int p2]) (QS (xX2_until (R 84) p1 p2)) 0 0 (fun _ => False) := by
  refine Met.ofW (cc := cX2_until) (maxL := 4) (ret := (some .int)) (by decide) rfl ?_
  intro p e s m args below meth c s₁ B hml hv
  obtain ⟨rfl, hP, hK⟩ := hv
  have hx := B.exec
  have hb := B.bytes
  have hr := B.returns
  have hts := atoms_spec (ws := wsX2_until) B.pre
  have hown : s.vm.findClass RX2 = some m.cls := findClass_of_methodNamed B.named
  have hlocks := B.notSynchronized
  have hS : va_S (AA ad) s.heap s.heap [] := va_S.rf
  have hl := lv_entry ([.ref (ad 83), .int p1, .int p2]) (n := 4) (Nat.le_of_ble_eq_true rfl)
  rw [lg_entry_eq]
  generalize (lg_sl ([.ref (ad 83), .int p1, .int p2]) ++ List.replicate (4 - (lg_sl ([.ref (ad 83), .int p1, .int p2])).length) Slot.unset).toArray = ls at hl ⊢
  have hl : lv_has ls 4 [(0, .ref (ad 83)), (1, .int p1), (2, .int p2)] := hl
  have lk66 := hts (.constant RX2 66 (-100001)) (by decide +kernel)
  have lk70 := hts (.constant RX2 70 (-100002)) (by decide +kernel)
  refine lv_aload_n hx hb dX2_until_0 rfl (lv_at hl 0 rfl) ?_
  refine lv_iload_n hx hb dX2_until_1 rfl (lv_at hl 1 rfl) ?_
  refine q_callS (va_runV (As := [.int p1]) (rest := []) ⟨hx, hb, hml, hown, hts⟩ (mX2_isWalker l D cI cS ad hI R F p1) (cwV 1 hts gX2_until_X2_isWalker rfl rfl rfl (by decide +kernel) ⟨Nat.le_of_ble_eq_true rfl, Nat.le_of_ble_eq_true rfl⟩) (PW_preV (i := 83) (by decide) CC_83 rfl rfl hK hP) rfl rfl hl.1 rfl (lv_room (Nat.le_of_ble_eq_true rfl)) dX2_until_2 ⟨Nat.zero_le _, Nat.zero_le _⟩) ?_
  refine lv_if_eq (tgt := 18) hx hb dX2_until_5 (by decide) (fun c_5 => ?_) (fun c_5 => ?_)
  · refine lv_ldc (v := -100001) hx hb hown lk66 dX2_until_18 ?_
    have hX : (xX2_until (R 84) p1 p2) = (-100001 : Int32) := by unfold xX2_until; rw [if_pos c_5]
    exact W.iret (v := (-100001 : Int32)) hx hb hr (fun t ht hW => ⟨by rw [hX], ht⟩) (fun _ h => by cases h) dX2_until_20
  · refine lv_iload_n hx hb dX2_until_8 rfl (lv_at hl 2 rfl) ?_
    refine lv_iconst (v := 1) hx hb dX2_until_9 (by decide) ?_
    refine lv_bipush (v := 100) hx hb dX2_until_10 (by decide) ?_
    refine q_callS (va_runS (As := [.int p2, .int (1 : Int32), .int (100 : Int32)]) (rest := []) ⟨hx, hb, hml, hown, hts⟩ (mX2_in l D cI cS ad hI R F p2 (1 : Int32) (100 : Int32)) (va_cwS 3 hts gX2_until_X2_in rfl rfl rfl (by decide +kernel) ⟨Nat.le_of_ble_eq_true rfl, Nat.le_of_ble_eq_true rfl⟩) (PW_preS hK hP) rfl rfl hl.1 rfl (lv_room (Nat.le_of_ble_eq_true rfl)) dX2_until_12 ⟨Nat.zero_le _, Nat.zero_le _⟩) ?_
    refine lv_if_ne (tgt := 21) hx hb dX2_until_15 (by decide) (fun c_15 => ?_) (fun c_15 => ?_)
    · obtain ⟨hp1, hl1⟩ := wk_of c_5 hW hkw
      refine lv_aload_n hx hb dX2_until_21 rfl (lv_at hl 0 rfl) ?_
      refine lv_iload_n hx hb dX2_until_22 rfl (lv_at hl 1 rfl) ?_
      refine q_top (y := (nI (p1).toNatClampNeg)) hp1 ?_
      refine q_callS (va_runV (As := [.int (nI (p1).toNatClampNeg)]) (rest := []) ⟨hx, hb, hml, hown, hts⟩ (mX2_isAboard l D cI cS ad hI R F (p1).toNatClampNeg (by omega)) (cwV 1 hts gX2_until_X2_isAboard rfl rfl rfl (by decide +kernel) ⟨Nat.le_of_ble_eq_true rfl, Nat.le_of_ble_eq_true rfl⟩) (PW_preV (i := 83) (by decide) CC_83 rfl rfl hK hP) rfl rfl hl.1 rfl (lv_room (Nat.le_of_ble_eq_true rfl)) dX2_until_23 ⟨Nat.zero_le _, Nat.zero_le _⟩) ?_
      refine lv_if_ne (tgt := 32) hx hb dX2_until_26 (by decide) (fun c_26 => ?_) (fun c_26 => ?_)
      · refine lv_iconst (v := 0) hx hb dX2_until_32 (by decide) ?_
        refine lv_istore_n (lv' := [(3, .int (0 : Int32)), (0, .ref (ad 83)), (1, .int p1), (2, .int p2)]) hx hb dX2_until_33 rfl hl (by decide) rfl (fun ls hl => ?_)
        refine q_loop (fun nn H locs ls => ∃ (k : Nat), k + nn = 20 ∧ hX2_until_34 (R 84) p1 p2 nn k = (xX2_until (R 84) p1 p2) ∧ WP D cI cS ad R F H ∧ locs = [] ∧ H = s.heap ∧ lv_has ls 4 [(3, .int (nI k)), (0, .ref (ad 83)), (1, .int p1), (2, .int p2)]) 20 ⟨0, by omega, by unfold xX2_until; rw [if_neg c_5, if_neg c_15, if_neg c_26], hP, rfl, rfl, lv_sub hl [0, 1, 2, 3] rfl⟩ ?_ ?_
        · intro H locs ls hz
          obtain ⟨k, hkn, hsp, hP, rfl, rfl, hl⟩ := hz
          refine lv_aload_n hx hb dX2_until_34 rfl (lv_at hl 1 rfl) ?_
          refine lv_iload_n hx hb dX2_until_35 rfl (lv_at hl 2 rfl) ?_
          refine q_top (y := (nI (p1).toNatClampNeg)) hp1 ?_
          refine lv_iload_n hx hb dX2_until_36 rfl (lv_at hl 0 rfl) ?_
          refine q_callS (va_runV (As := [.int (nI (p1).toNatClampNeg), .int (nI k)]) (rest := []) ⟨hx, hb, hml, hown, hts⟩ (mX2_certaintyIn l D cI cS ad hI R F (p1).toNatClampNeg (nI k) (by omega)) (cwV 2 hts gX2_until_X2_certaintyIn rfl rfl rfl (by decide +kernel) ⟨Nat.le_of_ble_eq_true rfl, Nat.le_of_ble_eq_true rfl⟩) (PW_preV (i := 83) (by decide) CC_83 rfl rfl hK hP) rfl rfl hl.1 rfl (lv_room (Nat.le_of_ble_eq_true rfl)) dX2_until_37 ⟨Nat.zero_le _, Nat.zero_le _⟩) ?_
          refine lv_iload_n hx hb dX2_until_40 rfl (lv_at hl 3 rfl) ?_
          refine lv_icmp_lt (tgt := 50) hx hb dX2_until_41 (by decide) (fun c_41 => ?_) (fun c_41 => ?_)
          · refine lv_iload_n hx hb dX2_until_50 rfl (lv_at hl 0 rfl) ?_
            have hX : (xX2_until (R 84) p1 p2) = (nI k) := by rw [← hsp, hX2_until_34_z]
            exact W.iret (v := (nI k)) hx hb hr (fun t ht hW => ⟨by rw [hX], ht⟩) (fun _ h => by cases h) dX2_until_51
          · exact (c_41 (by rw [(by omega : k = 20)]; exact hE c_5 c_15 c_26)).elim
        · intro n ih H locs ls hz
          obtain ⟨k, hkn, hsp, hP, rfl, rfl, hl⟩ := hz
          refine lv_aload_n hx hb dX2_until_34 rfl (lv_at hl 1 rfl) ?_
          refine lv_iload_n hx hb dX2_until_35 rfl (lv_at hl 2 rfl) ?_
          refine q_top (y := (nI (p1).toNatClampNeg)) hp1 ?_
          refine lv_iload_n hx hb dX2_until_36 rfl (lv_at hl 0 rfl) ?_
          refine q_callS (va_runV (As := [.int (nI (p1).toNatClampNeg), .int (nI k)]) (rest := []) ⟨hx, hb, hml, hown, hts⟩ (mX2_certaintyIn l D cI cS ad hI R F (p1).toNatClampNeg (nI k) (by omega)) (cwV 2 hts gX2_until_X2_certaintyIn rfl rfl rfl (by decide +kernel) ⟨Nat.le_of_ble_eq_true rfl, Nat.le_of_ble_eq_true rfl⟩) (PW_preV (i := 83) (by decide) CC_83 rfl rfl hK hP) rfl rfl hl.1 rfl (lv_room (Nat.le_of_ble_eq_true rfl)) dX2_until_37 ⟨Nat.zero_le _, Nat.zero_le _⟩) ?_
          refine lv_iload_n hx hb dX2_until_40 rfl (lv_at hl 3 rfl) ?_
          refine lv_icmp_lt (tgt := 50) hx hb dX2_until_41 (by decide) (fun c_41 => ?_) (fun c_41 => ?_)
          · refine lv_iload_n hx hb dX2_until_50 rfl (lv_at hl 0 rfl) ?_
            have hX : (xX2_until (R 84) p1 p2) = (nI k) := by rw [← hsp, hX2_until_34_s, if_pos c_41]
            exact W.iret (v := (nI k)) hx hb hr (fun t ht hW => ⟨by rw [hX], ht⟩) (fun _ h => by cases h) dX2_until_51
          · refine lv_iinc (v := (nI (k + 1))) (lv' := [(3, .int (nI (k + 1))), (0, .ref (ad 83)), (1, .int p1), (2, .int p2)]) hx hb dX2_until_44 hl (k := 0) rfl (nI_1 k) (by decide) rfl (fun ls hl => ?_)
            refine lv_goto (tgt := 34) hx hb dX2_until_47 (by decide) ?_
            exact ih _ _ _ ⟨(k + 1), by omega, by rw [← hsp, hX2_until_34_s, if_neg c_41], hP, rfl, rfl, lv_sub hl [0, 1, 2, 3] rfl⟩
      · refine lv_ldc (v := -100002) hx hb hown lk70 dX2_until_29 ?_
        have hX : (xX2_until (R 84) p1 p2) = (-100002 : Int32) := by unfold xX2_until; rw [if_neg c_5, if_neg c_15, if_pos c_26]
        exact W.iret (v := (-100002 : Int32)) hx hb hr (fun t ht hW => ⟨by rw [hX], ht⟩) (fun _ h => by cases h) dX2_until_31
    · refine lv_ldc (v := -100001) hx hb hown lk66 dX2_until_18 ?_
      have hX : (xX2_until (R 84) p1 p2) = (-100001 : Int32) := by unfold xX2_until; rw [if_neg c_5, if_pos c_15]
      exact W.iret (v := (-100001 : Int32)) hx hb hr (fun t ht hW => ⟨by rw [hX], ht⟩) (fun _ h => by cases h) dX2_until_20

