def xX1_setDrift (R F : Nat → Nat → Int32) (p1 : Int32) (p2 : Int32) (o : Nat) (q : Nat) : Int32 × (Nat → Nat → Int32) × (Nat → Nat → Int32) :=
  (if (xX1_isCell p1) = (0 : Int32) then ((-100001 : Int32), R, F) else (if (xX1_isWithin p2 (-3 : Int32) (3 : Int32)) = (0 : Int32) then ((-100001 : Int32), R, F) else ((((xX1_remember R F o q).1) 3 (p1).toNatClampNeg), (sR ((xX1_remember R F o q).1) 3 ((p1).toNatClampNeg) p2), ((xX1_remember R F o q).2))))
set_option maxHeartbeats 4000000 in
set_option maxRecDepth 100000 in
theorem mX1_setDrift (l : Launch) (D : va_G) (cI cS : ClassId) (ad : Nat → Nat) (hI : Inj ad) (R F : Nat → Nat → Int32) (p1 : Int32) (p2 : Int32) (o : Nat) (q : Nat) (ho : o < 5) (hq : q ≤ 5) (hF0 : F 0 0 = nI o) (hF1 : F 0 1 = nI q) : Met l yX1_setDrift wsX1_setDrift ({ frames := 4, cells := 0, slots := 0, locals := 111 }) (PW D cI cS ad R F [.ref (ad 0), .int p1, .int p2]) (QI D cI cS ad ((xX1_setDrift R F p1 p2 o q).1) ((xX1_setDrift R F p1 p2 o q).2.1) ((xX1_setDrift R F p1 p2 o q).2.2)) 0 0 (AA ad) := by
  refine Met.ofW (cc := cX1_setDrift) (maxL := 4) (ret := (some .int)) (by decide) rfl ?_
  intro p e s m args below meth c s₁ B hml hv
  obtain ⟨rfl, hP, hK⟩ := hv
  have hx := B.exec
  have hb := B.bytes
  have hr := B.returns
  have hts := atoms_spec (ws := wsX1_setDrift) B.pre
  have hown : s.vm.findClass RX1 = some m.cls := findClass_of_methodNamed B.named
  have hlocks := B.notSynchronized
  have hS : va_S (AA ad) s.heap s.heap [] := va_S.rf
  have hl := lv_entry ([.ref (ad 0), .int p1, .int p2]) (n := 4) (Nat.le_of_ble_eq_true rfl)
  rw [lg_entry_eq]
  generalize (lg_sl ([.ref (ad 0), .int p1, .int p2]) ++ List.replicate (4 - (lg_sl ([.ref (ad 0), .int p1, .int p2])).length) Slot.unset).toArray = ls at hl ⊢
  have hl : lv_has ls 4 [(0, .ref (ad 0)), (1, .int p1), (2, .int p2)] := hl
  have lk45 := hts (.constant RX1 45 (-100001)) (by decide +kernel)
  have lk10 := hts (.fieldLink RX1 10 "FerryFloor" "now" "LFerryFloor$State;") (by decide +kernel)
  have lk49 := hts (.fieldLink RX1 49 "FerryFloor$State" "drifts" "[I") (by decide +kernel)
  have hin1 : ∀ w ∈ u_ws RX1 TX1 7, w ∈ wsX1_setDrift := by decide +kernel
  have hin0 : ∀ w ∈ u_ws RX0 TX0 15, w ∈ wsX1_setDrift := by decide +kernel
  refine lv_iload_n hx hb dX1_setDrift_0 rfl (lv_at hl 1 rfl) ?_
  refine q_callS (va_runS (As := [.int p1]) (rest := []) ⟨hx, hb, hml, hown, hts⟩ (mX1_isCell l D cI cS ad hI R F p1) (va_cwS 1 hts gX1_setDrift_X1_isCell rfl rfl rfl (by decide +kernel) ⟨Nat.le_of_ble_eq_true rfl, Nat.le_of_ble_eq_true rfl⟩) (PW_preS hK hP) rfl rfl hl.1 rfl (lv_room (Nat.le_of_ble_eq_true rfl)) dX1_setDrift_1 ⟨Nat.zero_le _, Nat.zero_le _⟩) ?_
  refine lv_if_eq (tgt := 17) hx hb dX1_setDrift_4 (by decide) (fun c_4 => ?_) (fun c_4 => ?_)
  · refine lv_ldc (v := -100001) hx hb hown lk45 dX1_setDrift_17 ?_
    have hX : (xX1_setDrift R F p1 p2 o q) = ((-100001 : Int32), R, F) := by unfold xX1_setDrift; rw [if_pos c_4]
    exact W.iret (v := (-100001 : Int32)) hx hb hr (fun t ht hW => ⟨by rw [hX], by rw [hX, ht]; with_reducible exact hP, hS.F ht⟩) hS.2.2 dX1_setDrift_19
  · refine lv_iload_n hx hb dX1_setDrift_7 rfl (lv_at hl 2 rfl) ?_
    refine lv_bipush (v := -3) hx hb dX1_setDrift_8 (by decide) ?_
    refine lv_iconst (v := 3) hx hb dX1_setDrift_10 (by decide) ?_
    refine q_callS (va_runS (As := [.int p2, .int (-3 : Int32), .int (3 : Int32)]) (rest := []) ⟨hx, hb, hml, hown, hts⟩ (mX1_isWithin l D cI cS ad hI R F p2 (-3 : Int32) (3 : Int32)) (va_cwS 3 hts gX1_setDrift_X1_isWithin rfl rfl rfl (by decide +kernel) ⟨Nat.le_of_ble_eq_true rfl, Nat.le_of_ble_eq_true rfl⟩) (PW_preS hK hP) rfl rfl hl.1 rfl (lv_room (Nat.le_of_ble_eq_true rfl)) dX1_setDrift_11 ⟨Nat.zero_le _, Nat.zero_le _⟩) ?_
    refine lv_if_ne (tgt := 20) hx hb dX1_setDrift_14 (by decide) (fun c_14 => ?_) (fun c_14 => ?_)
    · refine lv_aload_n hx hb dX1_setDrift_20 rfl (lv_at hl 0 rfl) ?_
      refine q_callV (va_runV (As := []) (rest := []) ⟨hx, hb, hml, hown, hts⟩ (mX1_remember l D cI cS ad hI R F o q ho hq hF0 hF1) (cwV 0 hts gX1_setDrift_X1_remember rfl rfl rfl (by decide +kernel) ⟨Nat.le_of_ble_eq_true rfl, Nat.le_of_ble_eq_true rfl⟩) (PW_preV (i := 0) (by decide) CC_0 rfl rfl hK hP) rfl rfl hl.1 rfl (lv_room (Nat.le_of_ble_eq_true rfl)) dX1_setDrift_21 ⟨Nat.zero_le _, Nat.zero_le _⟩) hS (fun H locs hP hS => ?_)
      refine lv_aload_n hx hb dX1_setDrift_24 rfl (lv_at hl 0 rfl) ?_
      refine q_getF (v := .ref (ad 1)) hx hb hts hin1 hown hK hP 0 (by decide) lk10 (fun _ h => h) rfl dX1_setDrift_25 ?_
      refine q_getS (v := .ref (ad 3)) hx hb hts hin0 hown hK hP 1 st_1 4 (by decide) lk49 (fun _ h => h) rfl dX1_setDrift_28 ?_
      refine lv_iload_n hx hb dX1_setDrift_31 rfl (lv_at hl 1 rfl) ?_
      refine q_ild hx hb hK hP 3 24 (ar_3) dX1_setDrift_32 (by first | assumption | exact isCell_in (by assumption) | exact isWalker_in (by assumption) | exact isAboard_in (by assumption) | exact isPair_in1 (by assumption) | exact isPair_in2 (by assumption) | exact isWithin7_in (by assumption) | exact vp_in_nI (by omega) (by decide)) ?_
      refine lv_istore_n (lv' := [(3, .int (((xX1_remember R F o q).1) 3 (p1).toNatClampNeg)), (0, .ref (ad 0)), (1, .int p1), (2, .int p2)]) hx hb dX1_setDrift_33 rfl hl (by decide) rfl (fun ls hl => ?_)
      refine lv_aload_n hx hb dX1_setDrift_34 rfl (lv_at hl 1 rfl) ?_
      refine q_getF (v := .ref (ad 1)) hx hb hts hin1 hown hK hP 0 (by decide) lk10 (fun _ h => h) rfl dX1_setDrift_35 ?_
      refine q_getS (v := .ref (ad 3)) hx hb hts hin0 hown hK hP 1 st_1 4 (by decide) lk49 (fun _ h => h) rfl dX1_setDrift_38 ?_
      refine lv_iload_n hx hb dX1_setDrift_41 rfl (lv_at hl 2 rfl) ?_
      refine lv_iload_n hx hb dX1_setDrift_42 rfl (lv_at hl 3 rfl) ?_
      refine q_ist hx hb hK hI hP hS 3 24 (ar_3) dX1_setDrift_43 (by first | assumption | exact isCell_in (by assumption) | exact isWalker_in (by assumption) | exact isAboard_in (by assumption) | exact isPair_in1 (by assumption) | exact isPair_in2 (by assumption) | exact isWithin7_in (by assumption) | exact vp_in_nI (by omega) (by decide)) (fun H locs hP hS => ?_)
      have hP : WP D cI cS ad (sR ((xX1_remember R F o q).1) 3 ((p1).toNatClampNeg) p2) ((xX1_remember R F o q).2) H := hP
      refine lv_iload_n hx hb dX1_setDrift_44 rfl (lv_at hl 0 rfl) ?_
      have hX : (xX1_setDrift R F p1 p2 o q) = ((((xX1_remember R F o q).1) 3 (p1).toNatClampNeg), (sR ((xX1_remember R F o q).1) 3 ((p1).toNatClampNeg) p2), ((xX1_remember R F o q).2)) := by unfold xX1_setDrift; rw [if_neg c_4, if_neg c_14]
      exact W.iret (v := (((xX1_remember R F o q).1) 3 (p1).toNatClampNeg)) hx hb hr (fun t ht hW => ⟨by rw [hX], by rw [hX, ht]; with_reducible exact hP, hS.F ht⟩) hS.2.2 dX1_setDrift_45
    · refine lv_ldc (v := -100001) hx hb hown lk45 dX1_setDrift_17 ?_
      have hX : (xX1_setDrift R F p1 p2 o q) = ((-100001 : Int32), R, F) := by unfold xX1_setDrift; rw [if_neg c_4, if_pos c_14]
      exact W.iret (v := (-100001 : Int32)) hx hb hr (fun t ht hW => ⟨by rw [hX], by rw [hX, ht]; with_reducible exact hP, hS.F ht⟩) hS.2.2 dX1_setDrift_19

def hX1_pass_37 (R F : Nat → Nat → Int32) (p1 : Int32) (o : Nat) (q : Nat) : Nat → Nat → (Nat → Nat → Int32) → Int32 × (Nat → Nat → Int32) × (Nat → Nat → Int32)
  | 0, k, R1 => (((sR ((xX1_remember R F o q).2) 1 0 ((((xX1_remember R F o q).2) 1 0) + p1)) 1 0), R1, (sR ((xX1_remember R F o q).2) 1 0 ((((xX1_remember R F o q).2) 1 0) + p1)))
  | n + 1, k, R1 => (hX1_pass_37 R F p1 o q n (k + 1) (sR R1 2 k ((R1 2 k) + ((R1 3 k) * p1))))
theorem hX1_pass_37_z (R F : Nat → Nat → Int32) (p1 : Int32) (o : Nat) (q : Nat) (k : Nat) (R1 : Nat → Nat → Int32) : hX1_pass_37 R F p1 o q 0 k R1 = (((sR ((xX1_remember R F o q).2) 1 0 ((((xX1_remember R F o q).2) 1 0) + p1)) 1 0), R1, (sR ((xX1_remember R F o q).2) 1 0 ((((xX1_remember R F o q).2) 1 0) + p1))) := rfl
theorem hX1_pass_37_s (R F : Nat → Nat → Int32) (p1 : Int32) (o : Nat) (q : Nat) (n : Nat) (k : Nat) (R1 : Nat → Nat → Int32) : hX1_pass_37 R F p1 o q (n + 1) k R1 = (hX1_pass_37 R F p1 o q n (k + 1) (sR R1 2 k ((R1 2 k) + ((R1 3 k) * p1)))) := rfl
def xX1_pass (R F : Nat → Nat → Int32) (p1 : Int32) (o : Nat) (q : Nat) : Int32 × (Nat → Nat → Int32) × (Nat → Nat → Int32) :=
  (if (xX1_isWithin p1 (1 : Int32) (60 : Int32)) = (0 : Int32) then ((-100001 : Int32), R, F) else (if ((F 1 0) + p1) ≤ (2000 : Int32) then (hX1_pass_37 R F p1 o q 24 0 ((xX1_remember R F o q).1)) else ((-100002 : Int32), R, F)))
set_option maxHeartbeats 4000000 in
set_option maxRecDepth 100000 in
theorem mX1_pass (l : Launch) (D : va_G) (cI cS : ClassId) (ad : Nat → Nat) (hI : Inj ad) (R F : Nat → Nat → Int32) (p1 : Int32) (o : Nat) (q : Nat) (ho : o < 5) (hq : q ≤ 5) (hF0 : F 0 0 = nI o) (hF1 : F 0 1 = nI q) : Met l yX1_pass wsX1_pass ({ frames := 4, cells := 0, slots := 0, locals := 111 }) (PW D cI cS ad R F [.ref (ad 0), .int p1]) (QI D cI cS ad ((xX1_pass R F p1 o q).1) ((xX1_pass R F p1 o q).2.1) ((xX1_pass R F p1 o q).2.2)) 0 0 (AA ad) := by
  refine Met.ofW (cc := cX1_pass) (maxL := 3) (ret := (some .int)) (by decide) rfl ?_
  intro p e s m args below meth c s₁ B hml hv
  obtain ⟨rfl, hP, hK⟩ := hv
  have hx := B.exec
  have hb := B.bytes
  have hr := B.returns
  have hts := atoms_spec (ws := wsX1_pass) B.pre
  have hown : s.vm.findClass RX1 = some m.cls := findClass_of_methodNamed B.named
  have hlocks := B.notSynchronized
  have hS : va_S (AA ad) s.heap s.heap [] := va_S.rf
  have hl := lv_entry ([.ref (ad 0), .int p1]) (n := 3) (Nat.le_of_ble_eq_true rfl)
  rw [lg_entry_eq]
  generalize (lg_sl ([.ref (ad 0), .int p1]) ++ List.replicate (3 - (lg_sl ([.ref (ad 0), .int p1])).length) Slot.unset).toArray = ls at hl ⊢
  have hl : lv_has ls 3 [(0, .ref (ad 0)), (1, .int p1)] := hl
  have lk45 := hts (.constant RX1 45 (-100001)) (by decide +kernel)
  have lk10 := hts (.fieldLink RX1 10 "FerryFloor" "now" "LFerryFloor$State;") (by decide +kernel)
  have lk52 := hts (.fieldLink RX1 52 "FerryFloor$State" "minute" "I") (by decide +kernel)
  have lk55 := hts (.constant RX1 55 (-100002)) (by decide +kernel)
  have lk56 := hts (.fieldLink RX1 56 "FerryFloor$State" "zeros" "[I") (by decide +kernel)
  have lk49 := hts (.fieldLink RX1 49 "FerryFloor$State" "drifts" "[I") (by decide +kernel)
  have hin1 : ∀ w ∈ u_ws RX1 TX1 7, w ∈ wsX1_pass := by decide +kernel
  have hin0 : ∀ w ∈ u_ws RX0 TX0 15, w ∈ wsX1_pass := by decide +kernel
  refine lv_iload_n hx hb dX1_pass_0 rfl (lv_at hl 1 rfl) ?_
  refine lv_iconst (v := 1) hx hb dX1_pass_1 (by decide) ?_
  refine lv_bipush (v := 60) hx hb dX1_pass_2 (by decide) ?_
  refine q_callS (va_runS (As := [.int p1, .int (1 : Int32), .int (60 : Int32)]) (rest := []) ⟨hx, hb, hml, hown, hts⟩ (mX1_isWithin l D cI cS ad hI R F p1 (1 : Int32) (60 : Int32)) (va_cwS 3 hts gX1_pass_X1_isWithin rfl rfl rfl (by decide +kernel) ⟨Nat.le_of_ble_eq_true rfl, Nat.le_of_ble_eq_true rfl⟩) (PW_preS hK hP) rfl rfl hl.1 rfl (lv_room (Nat.le_of_ble_eq_true rfl)) dX1_pass_4 ⟨Nat.zero_le _, Nat.zero_le _⟩) ?_
  refine lv_if_ne (tgt := 13) hx hb dX1_pass_7 (by decide) (fun c_7 => ?_) (fun c_7 => ?_)
  · refine lv_aload_n hx hb dX1_pass_13 rfl (lv_at hl 0 rfl) ?_
    refine q_getF (v := .ref (ad 1)) hx hb hts hin1 hown hK hP 0 (by decide) lk10 (fun _ h => h) rfl dX1_pass_14 ?_
    refine q_getS (v := .int (F 1 0)) hx hb hts hin0 hown hK hP 1 st_1 0 (by decide) lk52 (fun _ h => h) rfl dX1_pass_17 ?_
    refine lv_iload_n hx hb dX1_pass_20 rfl (lv_at hl 1 rfl) ?_
    refine lv_iadd hx hb dX1_pass_21 ?_
    refine lv_sipush (v := 2000) hx hb dX1_pass_22 (by decide) ?_
    refine lv_icmp_le (tgt := 31) hx hb dX1_pass_25 (by decide) (fun c_25 => ?_) (fun c_25 => ?_)
    · refine lv_aload_n hx hb dX1_pass_31 rfl (lv_at hl 0 rfl) ?_
      refine q_callV (va_runV (As := []) (rest := []) ⟨hx, hb, hml, hown, hts⟩ (mX1_remember l D cI cS ad hI R F o q ho hq hF0 hF1) (cwV 0 hts gX1_pass_X1_remember rfl rfl rfl (by decide +kernel) ⟨Nat.le_of_ble_eq_true rfl, Nat.le_of_ble_eq_true rfl⟩) (PW_preV (i := 0) (by decide) CC_0 rfl rfl hK hP) rfl rfl hl.1 rfl (lv_room (Nat.le_of_ble_eq_true rfl)) dX1_pass_32 ⟨Nat.zero_le _, Nat.zero_le _⟩) hS (fun H locs hP hS => ?_)
      refine lv_iconst (v := 0) hx hb dX1_pass_35 (by decide) ?_
      refine lv_istore_n (lv' := [(2, .int (0 : Int32)), (0, .ref (ad 0)), (1, .int p1)]) hx hb dX1_pass_36 rfl hl (by decide) rfl (fun ls hl => ?_)
      refine q_loop (fun nn H locs ls => ∃ (k : Nat) (R1 : Nat → Nat → Int32), k + nn = 24 ∧ hX1_pass_37 R F p1 o q nn k R1 = (xX1_pass R F p1 o q) ∧ WP D cI cS ad R1 ((xX1_remember R F o q).2) H ∧ va_S (AA ad) s.heap H locs ∧ lv_has ls 3 [(2, .int (nI k)), (0, .ref (ad 0)), (1, .int p1)]) 24 ⟨0, ((xX1_remember R F o q).1), by omega, by unfold xX1_pass; rw [if_neg c_7, if_pos c_25], hP, hS, lv_sub hl [0, 1, 2] rfl⟩ ?_ ?_
      · intro H locs ls hz
        obtain ⟨k, R1, hkn, hsp, hP, hS, hl⟩ := hz
        refine lv_iload_n hx hb dX1_pass_37 rfl (lv_at hl 0 rfl) ?_
        refine lv_bipush (v := 24) hx hb dX1_pass_38 (by decide) ?_
        refine lv_icmp_ge (tgt := 72) hx hb dX1_pass_40 (by decide) (fun c_40 => ?_) (fun c_40 => ?_)
        · refine lv_aload_n hx hb dX1_pass_72 rfl (lv_at hl 1 rfl) ?_
          refine q_getF (v := .ref (ad 1)) hx hb hts hin1 hown hK hP 0 (by decide) lk10 (fun _ h => h) rfl dX1_pass_73 ?_
          refine lv_dup hx hb dX1_pass_76 rfl ?_
          refine q_getS (v := .int (((xX1_remember R F o q).2) 1 0)) hx hb hts hin0 hown hK hP 1 st_1 0 (by decide) lk52 (fun _ h => h) rfl dX1_pass_77 ?_
          refine lv_iload_n hx hb dX1_pass_80 rfl (lv_at hl 2 rfl) ?_
          refine lv_iadd hx hb dX1_pass_81 ?_
          refine q_putS hx hb hts hin0 hown hK hI hP hS 1 st_1 0 (by decide) lk52 (fun _ h => h) dX1_pass_82 (fun H locs hP hS => ?_)
          have hP : WP D cI cS ad R1 (sR ((xX1_remember R F o q).2) 1 0 ((((xX1_remember R F o q).2) 1 0) + p1)) H := hP
          refine lv_aload_n hx hb dX1_pass_85 rfl (lv_at hl 1 rfl) ?_
          refine q_getF (v := .ref (ad 1)) hx hb hts hin1 hown hK hP 0 (by decide) lk10 (fun _ h => h) rfl dX1_pass_86 ?_
          refine q_getS (v := .int ((sR ((xX1_remember R F o q).2) 1 0 ((((xX1_remember R F o q).2) 1 0) + p1)) 1 0)) hx hb hts hin0 hown hK hP 1 st_1 0 (by decide) lk52 (fun _ h => h) rfl dX1_pass_89 ?_
          have hX : (xX1_pass R F p1 o q) = (((sR ((xX1_remember R F o q).2) 1 0 ((((xX1_remember R F o q).2) 1 0) + p1)) 1 0), R1, (sR ((xX1_remember R F o q).2) 1 0 ((((xX1_remember R F o q).2) 1 0) + p1))) := by rw [← hsp, hX1_pass_37_z]
          exact W.iret (v := ((sR ((xX1_remember R F o q).2) 1 0 ((((xX1_remember R F o q).2) 1 0) + p1)) 1 0)) hx hb hr (fun t ht hW => ⟨by rw [hX], by rw [hX, ht]; with_reducible exact hP, hS.F ht⟩) hS.2.2 dX1_pass_92
        · exact absurd (nI_le (a := 24) (b := k) (by omega) (by omega)) c_40
      · intro n ih H locs ls hz
        obtain ⟨k, R1, hkn, hsp, hP, hS, hl⟩ := hz
        refine lv_iload_n hx hb dX1_pass_37 rfl (lv_at hl 0 rfl) ?_
        refine lv_bipush (v := 24) hx hb dX1_pass_38 (by decide) ?_
        refine lv_icmp_ge (tgt := 72) hx hb dX1_pass_40 (by decide) (fun c_40 => ?_) (fun c_40 => ?_)
        · exact absurd c_40 (nI_ge (a := k) (b := 24) (by omega) (by omega))
        · refine lv_aload_n hx hb dX1_pass_43 rfl (lv_at hl 1 rfl) ?_
          refine q_getF (v := .ref (ad 1)) hx hb hts hin1 hown hK hP 0 (by decide) lk10 (fun _ h => h) rfl dX1_pass_44 ?_
          refine q_getS (v := .ref (ad 2)) hx hb hts hin0 hown hK hP 1 st_1 3 (by decide) lk56 (fun _ h => h) rfl dX1_pass_47 ?_
          refine lv_iload_n hx hb dX1_pass_50 rfl (lv_at hl 0 rfl) ?_
          refine lv_dup2_11 hx hb dX1_pass_51 rfl rfl ?_
          refine q_ildN hx hb hK hP 2 24 (ar_2) k dX1_pass_52 rfl (by omega) (by decide) ?_
          refine lv_aload_n hx hb dX1_pass_53 rfl (lv_at hl 1 rfl) ?_
          refine q_getF (v := .ref (ad 1)) hx hb hts hin1 hown hK hP 0 (by decide) lk10 (fun _ h => h) rfl dX1_pass_54 ?_
          refine q_getS (v := .ref (ad 3)) hx hb hts hin0 hown hK hP 1 st_1 4 (by decide) lk49 (fun _ h => h) rfl dX1_pass_57 ?_
          refine lv_iload_n hx hb dX1_pass_60 rfl (lv_at hl 0 rfl) ?_
          refine q_ildN hx hb hK hP 3 24 (ar_3) k dX1_pass_61 rfl (by omega) (by decide) ?_
          refine lv_iload_n hx hb dX1_pass_62 rfl (lv_at hl 2 rfl) ?_
          refine lv_imul hx hb dX1_pass_63 ?_
          refine lv_iadd hx hb dX1_pass_64 ?_
          refine q_istN hx hb hK hI hP hS 2 24 (ar_2) k dX1_pass_65 rfl (by omega) (by decide) (fun H locs hP hS => ?_)
          have hP : WP D cI cS ad (sR R1 2 k ((R1 2 k) + ((R1 3 k) * p1))) ((xX1_remember R F o q).2) H := hP
          refine lv_iinc (v := (nI (k + 1))) (lv' := [(2, .int (nI (k + 1))), (0, .ref (ad 0)), (1, .int p1)]) hx hb dX1_pass_66 hl (k := 0) rfl (nI_1 k) (by decide) rfl (fun ls hl => ?_)
          refine lv_goto (tgt := 37) hx hb dX1_pass_69 (by decide) ?_
          exact ih _ _ _ ⟨(k + 1), (sR R1 2 k ((R1 2 k) + ((R1 3 k) * p1))), by omega, by rw [← hsp, hX1_pass_37_s], hP, hS, lv_sub hl [0, 1, 2] rfl⟩
    · refine lv_ldc (v := -100002) hx hb hown lk55 dX1_pass_28 ?_
      have hX : (xX1_pass R F p1 o q) = ((-100002 : Int32), R, F) := by unfold xX1_pass; rw [if_neg c_7, if_neg c_25]
      exact W.iret (v := (-100002 : Int32)) hx hb hr (fun t ht hW => ⟨by rw [hX], by rw [hX, ht]; with_reducible exact hP, hS.F ht⟩) hS.2.2 dX1_pass_30
  · refine lv_ldc (v := -100001) hx hb hown lk45 dX1_pass_10 ?_
    have hX : (xX1_pass R F p1 o q) = ((-100001 : Int32), R, F) := by unfold xX1_pass; rw [if_pos c_7]
    exact W.iret (v := (-100001 : Int32)) hx hb hr (fun t ht hW => ⟨by rw [hX], by rw [hX, ht]; with_reducible exact hP, hS.F ht⟩) hS.2.2 dX1_pass_12

def xX1_tare (R F : Nat → Nat → Int32) (p1 : Int32) (o : Nat) (q : Nat) : Int32 × (Nat → Nat → Int32) × (Nat → Nat → Int32) :=
  (if (xX1_isCell p1) = (0 : Int32) then ((-100001 : Int32), R, F) else (if ((xX1_weighAll R F) 15 (p1).toNatClampNeg) ≤ ((xX1_weighAll R F) 2 (p1).toNatClampNeg) then (((sR (sR ((xX1_remember (xX1_weighAll R F) F o q).1) 4 ((p1).toNatClampNeg) (((xX1_remember (xX1_weighAll R F) F o q).1) 15 (p1).toNatClampNeg)) 5 ((p1).toNatClampNeg) (((xX1_remember (xX1_weighAll R F) F o q).2) 1 0)) 4 (p1).toNatClampNeg), (sR (sR ((xX1_remember (xX1_weighAll R F) F o q).1) 4 ((p1).toNatClampNeg) (((xX1_remember (xX1_weighAll R F) F o q).1) 15 (p1).toNatClampNeg)) 5 ((p1).toNatClampNeg) (((xX1_remember (xX1_weighAll R F) F o q).2) 1 0)), ((xX1_remember (xX1_weighAll R F) F o q).2)) else ((-100002 : Int32), (xX1_weighAll R F), F)))
set_option maxHeartbeats 4000000 in
set_option maxRecDepth 100000 in
theorem mX1_tare (l : Launch) (D : va_G) (cI cS : ClassId) (ad : Nat → Nat) (hI : Inj ad) (R F : Nat → Nat → Int32) (p1 : Int32) (o : Nat) (q : Nat) (ho : o < 5) (hq : q ≤ 5) (hF0 : F 0 0 = nI o) (hF1 : F 0 1 = nI q) : Met l yX1_tare wsX1_tare ({ frames := 4, cells := 0, slots := 0, locals := 111 }) (PW D cI cS ad R F [.ref (ad 0), .int p1]) (QI D cI cS ad ((xX1_tare R F p1 o q).1) ((xX1_tare R F p1 o q).2.1) ((xX1_tare R F p1 o q).2.2)) 0 0 (AA ad) := by
  refine Met.ofW (cc := cX1_tare) (maxL := 2) (ret := (some .int)) (by decide) rfl ?_
  intro p e s m args below meth c s₁ B hml hv
  obtain ⟨rfl, hP, hK⟩ := hv
  have hx := B.exec
  have hb := B.bytes
  have hr := B.returns
  have hts := atoms_spec (ws := wsX1_tare) B.pre
  have hown : s.vm.findClass RX1 = some m.cls := findClass_of_methodNamed B.named
  have hlocks := B.notSynchronized
  have hS : va_S (AA ad) s.heap s.heap [] := va_S.rf
  have hl := lv_entry ([.ref (ad 0), .int p1]) (n := 2) (Nat.le_of_ble_eq_true rfl)
  rw [lg_entry_eq]
  generalize (lg_sl ([.ref (ad 0), .int p1]) ++ List.replicate (2 - (lg_sl ([.ref (ad 0), .int p1])).length) Slot.unset).toArray = ls at hl ⊢
  have hl : lv_has ls 2 [(0, .ref (ad 0)), (1, .int p1)] := hl
  have lk45 := hts (.constant RX1 45 (-100001)) (by decide +kernel)
  have lk27 := hts (.fieldLink RX1 27 "FerryFloor" "readings" "[I") (by decide +kernel)
  have lk10 := hts (.fieldLink RX1 10 "FerryFloor" "now" "LFerryFloor$State;") (by decide +kernel)
  have lk56 := hts (.fieldLink RX1 56 "FerryFloor$State" "zeros" "[I") (by decide +kernel)
  have lk55 := hts (.constant RX1 55 (-100002)) (by decide +kernel)
  have lk62 := hts (.fieldLink RX1 62 "FerryFloor$State" "tares" "[I") (by decide +kernel)
  have lk65 := hts (.fieldLink RX1 65 "FerryFloor$State" "tareMinutes" "[I") (by decide +kernel)
  have lk52 := hts (.fieldLink RX1 52 "FerryFloor$State" "minute" "I") (by decide +kernel)
  have hin1 : ∀ w ∈ u_ws RX1 TX1 7, w ∈ wsX1_tare := by decide +kernel
  have hin0 : ∀ w ∈ u_ws RX0 TX0 15, w ∈ wsX1_tare := by decide +kernel
  refine lv_iload_n hx hb dX1_tare_0 rfl (lv_at hl 1 rfl) ?_
  refine q_callS (va_runS (As := [.int p1]) (rest := []) ⟨hx, hb, hml, hown, hts⟩ (mX1_isCell l D cI cS ad hI R F p1) (va_cwS 1 hts gX1_tare_X1_isCell rfl rfl rfl (by decide +kernel) ⟨Nat.le_of_ble_eq_true rfl, Nat.le_of_ble_eq_true rfl⟩) (PW_preS hK hP) rfl rfl hl.1 rfl (lv_room (Nat.le_of_ble_eq_true rfl)) dX1_tare_1 ⟨Nat.zero_le _, Nat.zero_le _⟩) ?_
  refine lv_if_ne (tgt := 10) hx hb dX1_tare_4 (by decide) (fun c_4 => ?_) (fun c_4 => ?_)
  · refine lv_aload_n hx hb dX1_tare_10 rfl (lv_at hl 0 rfl) ?_
    refine q_callV (va_runV (As := []) (rest := []) ⟨hx, hb, hml, hown, hts⟩ (mX1_weighAll l D cI cS ad hI R F) (cwV 0 hts gX1_tare_X1_weighAll rfl rfl rfl (by decide +kernel) ⟨Nat.le_of_ble_eq_true rfl, Nat.le_of_ble_eq_true rfl⟩) (PW_preV (i := 0) (by decide) CC_0 rfl rfl hK hP) rfl rfl hl.1 rfl (lv_room (Nat.le_of_ble_eq_true rfl)) dX1_tare_11 ⟨Nat.zero_le _, Nat.zero_le _⟩) hS (fun H locs hP hS => ?_)
    refine lv_aload_n hx hb dX1_tare_14 rfl (lv_at hl 0 rfl) ?_
    refine q_getF (v := .ref (ad 15)) hx hb hts hin1 hown hK hP 4 (by decide) lk27 (fun _ h => h) rfl dX1_tare_15 ?_
    refine lv_iload_n hx hb dX1_tare_18 rfl (lv_at hl 1 rfl) ?_
    refine q_ild hx hb hK hP 15 24 (ar_15) dX1_tare_19 (by first | assumption | exact isCell_in (by assumption) | exact isWalker_in (by assumption) | exact isAboard_in (by assumption) | exact isPair_in1 (by assumption) | exact isPair_in2 (by assumption) | exact isWithin7_in (by assumption) | exact vp_in_nI (by omega) (by decide)) ?_
    refine lv_aload_n hx hb dX1_tare_20 rfl (lv_at hl 0 rfl) ?_
    refine q_getF (v := .ref (ad 1)) hx hb hts hin1 hown hK hP 0 (by decide) lk10 (fun _ h => h) rfl dX1_tare_21 ?_
    refine q_getS (v := .ref (ad 2)) hx hb hts hin0 hown hK hP 1 st_1 3 (by decide) lk56 (fun _ h => h) rfl dX1_tare_24 ?_
    refine lv_iload_n hx hb dX1_tare_27 rfl (lv_at hl 1 rfl) ?_
    refine q_ild hx hb hK hP 2 24 (ar_2) dX1_tare_28 (by first | assumption | exact isCell_in (by assumption) | exact isWalker_in (by assumption) | exact isAboard_in (by assumption) | exact isPair_in1 (by assumption) | exact isPair_in2 (by assumption) | exact isWithin7_in (by assumption) | exact vp_in_nI (by omega) (by decide)) ?_
    refine lv_icmp_le (tgt := 35) hx hb dX1_tare_29 (by decide) (fun c_29 => ?_) (fun c_29 => ?_)
    · refine lv_aload_n hx hb dX1_tare_35 rfl (lv_at hl 0 rfl) ?_
      refine q_callV (va_runV (As := []) (rest := []) ⟨hx, hb, hml, hown, hts⟩ (mX1_remember l D cI cS ad hI (xX1_weighAll R F) F o q ho hq hF0 hF1) (cwV 0 hts gX1_tare_X1_remember rfl rfl rfl (by decide +kernel) ⟨Nat.le_of_ble_eq_true rfl, Nat.le_of_ble_eq_true rfl⟩) (PW_preV (i := 0) (by decide) CC_0 rfl rfl hK hP) rfl rfl hl.1 rfl (lv_room (Nat.le_of_ble_eq_true rfl)) dX1_tare_36 ⟨Nat.zero_le _, Nat.zero_le _⟩) hS (fun H locs hP hS => ?_)
      refine lv_aload_n hx hb dX1_tare_39 rfl (lv_at hl 0 rfl) ?_
      refine q_getF (v := .ref (ad 1)) hx hb hts hin1 hown hK hP 0 (by decide) lk10 (fun _ h => h) rfl dX1_tare_40 ?_
      refine q_getS (v := .ref (ad 4)) hx hb hts hin0 hown hK hP 1 st_1 5 (by decide) lk62 (fun _ h => h) rfl dX1_tare_43 ?_
      refine lv_iload_n hx hb dX1_tare_46 rfl (lv_at hl 1 rfl) ?_
      refine lv_aload_n hx hb dX1_tare_47 rfl (lv_at hl 0 rfl) ?_
      refine q_getF (v := .ref (ad 15)) hx hb hts hin1 hown hK hP 4 (by decide) lk27 (fun _ h => h) rfl dX1_tare_48 ?_
      refine lv_iload_n hx hb dX1_tare_51 rfl (lv_at hl 1 rfl) ?_
      refine q_ild hx hb hK hP 15 24 (ar_15) dX1_tare_52 (by first | assumption | exact isCell_in (by assumption) | exact isWalker_in (by assumption) | exact isAboard_in (by assumption) | exact isPair_in1 (by assumption) | exact isPair_in2 (by assumption) | exact isWithin7_in (by assumption) | exact vp_in_nI (by omega) (by decide)) ?_
      refine q_ist hx hb hK hI hP hS 4 24 (ar_4) dX1_tare_53 (by first | assumption | exact isCell_in (by assumption) | exact isWalker_in (by assumption) | exact isAboard_in (by assumption) | exact isPair_in1 (by assumption) | exact isPair_in2 (by assumption) | exact isWithin7_in (by assumption) | exact vp_in_nI (by omega) (by decide)) (fun H locs hP hS => ?_)
      have hP : WP D cI cS ad (sR ((xX1_remember (xX1_weighAll R F) F o q).1) 4 ((p1).toNatClampNeg) (((xX1_remember (xX1_weighAll R F) F o q).1) 15 (p1).toNatClampNeg)) ((xX1_remember (xX1_weighAll R F) F o q).2) H := hP
      refine lv_aload_n hx hb dX1_tare_54 rfl (lv_at hl 0 rfl) ?_
      refine q_getF (v := .ref (ad 1)) hx hb hts hin1 hown hK hP 0 (by decide) lk10 (fun _ h => h) rfl dX1_tare_55 ?_
      refine q_getS (v := .ref (ad 5)) hx hb hts hin0 hown hK hP 1 st_1 6 (by decide) lk65 (fun _ h => h) rfl dX1_tare_58 ?_
      refine lv_iload_n hx hb dX1_tare_61 rfl (lv_at hl 1 rfl) ?_
      refine lv_aload_n hx hb dX1_tare_62 rfl (lv_at hl 0 rfl) ?_
      refine q_getF (v := .ref (ad 1)) hx hb hts hin1 hown hK hP 0 (by decide) lk10 (fun _ h => h) rfl dX1_tare_63 ?_
      refine q_getS (v := .int (((xX1_remember (xX1_weighAll R F) F o q).2) 1 0)) hx hb hts hin0 hown hK hP 1 st_1 0 (by decide) lk52 (fun _ h => h) rfl dX1_tare_66 ?_
      refine q_ist hx hb hK hI hP hS 5 24 (ar_5) dX1_tare_69 (by first | assumption | exact isCell_in (by assumption) | exact isWalker_in (by assumption) | exact isAboard_in (by assumption) | exact isPair_in1 (by assumption) | exact isPair_in2 (by assumption) | exact isWithin7_in (by assumption) | exact vp_in_nI (by omega) (by decide)) (fun H locs hP hS => ?_)
      have hP : WP D cI cS ad (sR (sR ((xX1_remember (xX1_weighAll R F) F o q).1) 4 ((p1).toNatClampNeg) (((xX1_remember (xX1_weighAll R F) F o q).1) 15 (p1).toNatClampNeg)) 5 ((p1).toNatClampNeg) (((xX1_remember (xX1_weighAll R F) F o q).2) 1 0)) ((xX1_remember (xX1_weighAll R F) F o q).2) H := hP
      refine lv_aload_n hx hb dX1_tare_70 rfl (lv_at hl 0 rfl) ?_
      refine q_getF (v := .ref (ad 1)) hx hb hts hin1 hown hK hP 0 (by decide) lk10 (fun _ h => h) rfl dX1_tare_71 ?_
      refine q_getS (v := .ref (ad 4)) hx hb hts hin0 hown hK hP 1 st_1 5 (by decide) lk62 (fun _ h => h) rfl dX1_tare_74 ?_
      refine lv_iload_n hx hb dX1_tare_77 rfl (lv_at hl 1 rfl) ?_
      refine q_ild hx hb hK hP 4 24 (ar_4) dX1_tare_78 (by first | assumption | exact isCell_in (by assumption) | exact isWalker_in (by assumption) | exact isAboard_in (by assumption) | exact isPair_in1 (by assumption) | exact isPair_in2 (by assumption) | exact isWithin7_in (by assumption) | exact vp_in_nI (by omega) (by decide)) ?_
      have hX : (xX1_tare R F p1 o q) = (((sR (sR ((xX1_remember (xX1_weighAll R F) F o q).1) 4 ((p1).toNatClampNeg) (((xX1_remember (xX1_weighAll R F) F o q).1) 15 (p1).toNatClampNeg)) 5 ((p1).toNatClampNeg) (((xX1_remember (xX1_weighAll R F) F o q).2) 1 0)) 4 (p1).toNatClampNeg), (sR (sR ((xX1_remember (xX1_weighAll R F) F o q).1) 4 ((p1).toNatClampNeg) (((xX1_remember (xX1_weighAll R F) F o q).1) 15 (p1).toNatClampNeg)) 5 ((p1).toNatClampNeg) (((xX1_remember (xX1_weighAll R F) F o q).2) 1 0)), ((xX1_remember (xX1_weighAll R F) F o q).2)) := by unfold xX1_tare; rw [if_neg c_4, if_pos c_29]
      exact W.iret (v := ((sR (sR ((xX1_remember (xX1_weighAll R F) F o q).1) 4 ((p1).toNatClampNeg) (((xX1_remember (xX1_weighAll R F) F o q).1) 15 (p1).toNatClampNeg)) 5 ((p1).toNatClampNeg) (((xX1_remember (xX1_weighAll R F) F o q).2) 1 0)) 4 (p1).toNatClampNeg)) hx hb hr (fun t ht hW => ⟨by rw [hX], by rw [hX, ht]; with_reducible exact hP, hS.F ht⟩) hS.2.2 dX1_tare_79
    · refine lv_ldc (v := -100002) hx hb hown lk55 dX1_tare_32 ?_
      have hX : (xX1_tare R F p1 o q) = ((-100002 : Int32), (xX1_weighAll R F), F) := by unfold xX1_tare; rw [if_neg c_4, if_neg c_29]
      exact W.iret (v := (-100002 : Int32)) hx hb hr (fun t ht hW => ⟨by rw [hX], by rw [hX, ht]; with_reducible exact hP, hS.F ht⟩) hS.2.2 dX1_tare_34
  · refine lv_ldc (v := -100001) hx hb hown lk45 dX1_tare_7 ?_
    have hX : (xX1_tare R F p1 o q) = ((-100001 : Int32), R, F) := by unfold xX1_tare; rw [if_pos c_4]
    exact W.iret (v := (-100001 : Int32)) hx hb hr (fun t ht hW => ⟨by rw [hX], by rw [hX, ht]; with_reducible exact hP, hS.F ht⟩) hS.2.2 dX1_tare_9

def xX1_board (R F : Nat → Nat → Int32) (p1 : Int32) (p2 : Int32) (p3 : Int32) (o : Nat) (q : Nat) : Int32 × (Nat → Nat → Int32) × (Nat → Nat → Int32) :=
  (if (xX1_isWeight p1) = (0 : Int32) then ((-100001 : Int32), R, F) else (if (xX1_isWeight p2) = (0 : Int32) then ((-100001 : Int32), R, F) else (if (xX1_isCell p3) = (0 : Int32) then ((-100001 : Int32), R, F) else (if (xX1_whoIsOn R F 7 p3) = (-100009 : Int32) then (if (xX1_isWithin (F 1 2) (0 : Int32) (7 : Int32)) = (0 : Int32) then ((-100003 : Int32), R, F) else ((F 1 2), (sR (sR (sR (sR ((xX1_remember R F o q).1) 6 (((F 1 2)).toNatClampNeg) p1) 7 (((F 1 2)).toNatClampNeg) p3) 8 (((F 1 2)).toNatClampNeg) p2) 9 (((F 1 2)).toNatClampNeg) p3), (sR ((xX1_remember R F o q).2) 1 2 ((((xX1_remember R F o q).2) 1 2) + (1 : Int32))))) else ((-100002 : Int32), R, F)))))
set_option maxHeartbeats 4000000 in
set_option maxRecDepth 100000 in
theorem mX1_board (l : Launch) (D : va_G) (cI cS : ClassId) (ad : Nat → Nat) (hI : Inj ad) (R F : Nat → Nat → Int32) (p1 : Int32) (p2 : Int32) (p3 : Int32) (o : Nat) (q : Nat) (ho : o < 5) (hq : q ≤ 5) (hF0 : F 0 0 = nI o) (hF1 : F 0 1 = nI q) : Met l yX1_board wsX1_board ({ frames := 4, cells := 0, slots := 0, locals := 111 }) (PW D cI cS ad R F [.ref (ad 0), .int p1, .int p2, .int p3]) (QI D cI cS ad ((xX1_board R F p1 p2 p3 o q).1) ((xX1_board R F p1 p2 p3 o q).2.1) ((xX1_board R F p1 p2 p3 o q).2.2)) 0 0 (AA ad) := by
  refine Met.ofW (cc := cX1_board) (maxL := 5) (ret := (some .int)) (by decide) rfl ?_
  intro p e s m args below meth c s₁ B hml hv
  obtain ⟨rfl, hP, hK⟩ := hv
  have hx := B.exec
  have hb := B.bytes
  have hr := B.returns
  have hts := atoms_spec (ws := wsX1_board) B.pre
  have hown : s.vm.findClass RX1 = some m.cls := findClass_of_methodNamed B.named
  have hlocks := B.notSynchronized
  have hS : va_S (AA ad) s.heap s.heap [] := va_S.rf
  have hl := lv_entry ([.ref (ad 0), .int p1, .int p2, .int p3]) (n := 5) (Nat.le_of_ble_eq_true rfl)
  rw [lg_entry_eq]
  generalize (lg_sl ([.ref (ad 0), .int p1, .int p2, .int p3]) ++ List.replicate (5 - (lg_sl ([.ref (ad 0), .int p1, .int p2, .int p3])).length) Slot.unset).toArray = ls at hl ⊢
  have hl : lv_has ls 5 [(0, .ref (ad 0)), (1, .int p1), (2, .int p2), (3, .int p3)] := hl
  have lk45 := hts (.constant RX1 45 (-100001)) (by decide +kernel)
  have lk10 := hts (.fieldLink RX1 10 "FerryFloor" "now" "LFerryFloor$State;") (by decide +kernel)
  have lk71 := hts (.fieldLink RX1 71 "FerryFloor$State" "places" "[I") (by decide +kernel)
  have lk78 := hts (.constant RX1 78 (-100009)) (by decide +kernel)
  have lk55 := hts (.constant RX1 55 (-100002)) (by decide +kernel)
  have lk79 := hts (.fieldLink RX1 79 "FerryFloor$State" "walkers" "I") (by decide +kernel)
  have lk82 := hts (.constant RX1 82 (-100003)) (by decide +kernel)
  have lk83 := hts (.fieldLink RX1 83 "FerryFloor$State" "weights" "[I") (by decide +kernel)
  have lk86 := hts (.fieldLink RX1 86 "FerryFloor$State" "bookWeights" "[I") (by decide +kernel)
  have lk89 := hts (.fieldLink RX1 89 "FerryFloor$State" "bookPlaces" "[I") (by decide +kernel)
  have hin1 : ∀ w ∈ u_ws RX1 TX1 7, w ∈ wsX1_board := by decide +kernel
  have hin0 : ∀ w ∈ u_ws RX0 TX0 15, w ∈ wsX1_board := by decide +kernel
  refine lv_iload_n hx hb dX1_board_0 rfl (lv_at hl 1 rfl) ?_
  refine q_callS (va_runS (As := [.int p1]) (rest := []) ⟨hx, hb, hml, hown, hts⟩ (mX1_isWeight l D cI cS ad hI R F p1) (va_cwS 1 hts gX1_board_X1_isWeight rfl rfl rfl (by decide +kernel) ⟨Nat.le_of_ble_eq_true rfl, Nat.le_of_ble_eq_true rfl⟩) (PW_preS hK hP) rfl rfl hl.1 rfl (lv_room (Nat.le_of_ble_eq_true rfl)) dX1_board_1 ⟨Nat.zero_le _, Nat.zero_le _⟩) ?_
  refine lv_if_eq (tgt := 21) hx hb dX1_board_4 (by decide) (fun c_4 => ?_) (fun c_4 => ?_)
  · refine lv_ldc (v := -100001) hx hb hown lk45 dX1_board_21 ?_
    have hX : (xX1_board R F p1 p2 p3 o q) = ((-100001 : Int32), R, F) := by unfold xX1_board; rw [if_pos c_4]
    exact W.iret (v := (-100001 : Int32)) hx hb hr (fun t ht hW => ⟨by rw [hX], by rw [hX, ht]; with_reducible exact hP, hS.F ht⟩) hS.2.2 dX1_board_23
  · refine lv_iload_n hx hb dX1_board_7 rfl (lv_at hl 2 rfl) ?_
    refine q_callS (va_runS (As := [.int p2]) (rest := []) ⟨hx, hb, hml, hown, hts⟩ (mX1_isWeight l D cI cS ad hI R F p2) (va_cwS 1 hts gX1_board_X1_isWeight rfl rfl rfl (by decide +kernel) ⟨Nat.le_of_ble_eq_true rfl, Nat.le_of_ble_eq_true rfl⟩) (PW_preS hK hP) rfl rfl hl.1 rfl (lv_room (Nat.le_of_ble_eq_true rfl)) dX1_board_8 ⟨Nat.zero_le _, Nat.zero_le _⟩) ?_
    refine lv_if_eq (tgt := 21) hx hb dX1_board_11 (by decide) (fun c_11 => ?_) (fun c_11 => ?_)
    · refine lv_ldc (v := -100001) hx hb hown lk45 dX1_board_21 ?_
      have hX : (xX1_board R F p1 p2 p3 o q) = ((-100001 : Int32), R, F) := by unfold xX1_board; rw [if_neg c_4, if_pos c_11]
      exact W.iret (v := (-100001 : Int32)) hx hb hr (fun t ht hW => ⟨by rw [hX], by rw [hX, ht]; with_reducible exact hP, hS.F ht⟩) hS.2.2 dX1_board_23
    · refine lv_iload_n hx hb dX1_board_14 rfl (lv_at hl 3 rfl) ?_
      refine q_callS (va_runS (As := [.int p3]) (rest := []) ⟨hx, hb, hml, hown, hts⟩ (mX1_isCell l D cI cS ad hI R F p3) (va_cwS 1 hts gX1_board_X1_isCell rfl rfl rfl (by decide +kernel) ⟨Nat.le_of_ble_eq_true rfl, Nat.le_of_ble_eq_true rfl⟩) (PW_preS hK hP) rfl rfl hl.1 rfl (lv_room (Nat.le_of_ble_eq_true rfl)) dX1_board_15 ⟨Nat.zero_le _, Nat.zero_le _⟩) ?_
      refine lv_if_ne (tgt := 24) hx hb dX1_board_18 (by decide) (fun c_18 => ?_) (fun c_18 => ?_)
      · refine lv_aload_n hx hb dX1_board_24 rfl (lv_at hl 0 rfl) ?_
        refine q_getF (v := .ref (ad 1)) hx hb hts hin1 hown hK hP 0 (by decide) lk10 (fun _ h => h) rfl dX1_board_25 ?_
        refine q_getS (v := .ref (ad 7)) hx hb hts hin0 hown hK hP 1 st_1 8 (by decide) lk71 (fun _ h => h) rfl dX1_board_28 ?_
        refine lv_iload_n hx hb dX1_board_31 rfl (lv_at hl 3 rfl) ?_
        refine q_callS (va_runS (As := [.ref (ad 7), .int p3]) (rest := []) ⟨hx, hb, hml, hown, hts⟩ (mX1_whoIsOn l D cI cS ad hI R F 7 p3 (ar_7)) (va_cwS 2 hts gX1_board_X1_whoIsOn rfl rfl rfl (by decide +kernel) ⟨Nat.le_of_ble_eq_true rfl, Nat.le_of_ble_eq_true rfl⟩) (PW_preS hK hP) rfl rfl hl.1 rfl (lv_room (Nat.le_of_ble_eq_true rfl)) dX1_board_32 ⟨Nat.zero_le _, Nat.zero_le _⟩) ?_
        refine lv_ldc (v := -100009) hx hb hown lk78 dX1_board_35 ?_
        refine lv_icmp_eq (tgt := 43) hx hb dX1_board_37 (by decide) (fun c_37 => ?_) (fun c_37 => ?_)
        · refine lv_aload_n hx hb dX1_board_43 rfl (lv_at hl 0 rfl) ?_
          refine q_getF (v := .ref (ad 1)) hx hb hts hin1 hown hK hP 0 (by decide) lk10 (fun _ h => h) rfl dX1_board_44 ?_
          refine q_getS (v := .int (F 1 2)) hx hb hts hin0 hown hK hP 1 st_1 2 (by decide) lk79 (fun _ h => h) rfl dX1_board_47 ?_
          refine lv_istore (lv' := [(4, .int (F 1 2)), (0, .ref (ad 0)), (1, .int p1), (2, .int p2), (3, .int p3)]) hx hb dX1_board_50 hl (by decide) rfl (fun ls hl => ?_)
          refine lv_iload hx hb dX1_board_52 (lv_at hl 0 rfl) ?_
          refine lv_iconst (v := 0) hx hb dX1_board_54 (by decide) ?_
          refine lv_bipush (v := 7) hx hb dX1_board_55 (by decide) ?_
          refine q_callS (va_runS (As := [.int (F 1 2), .int (0 : Int32), .int (7 : Int32)]) (rest := []) ⟨hx, hb, hml, hown, hts⟩ (mX1_isWithin l D cI cS ad hI R F (F 1 2) (0 : Int32) (7 : Int32)) (va_cwS 3 hts gX1_board_X1_isWithin rfl rfl rfl (by decide +kernel) ⟨Nat.le_of_ble_eq_true rfl, Nat.le_of_ble_eq_true rfl⟩) (PW_preS hK hP) rfl rfl hl.1 rfl (lv_room (Nat.le_of_ble_eq_true rfl)) dX1_board_57 ⟨Nat.zero_le _, Nat.zero_le _⟩) ?_
          refine lv_if_ne (tgt := 66) hx hb dX1_board_60 (by decide) (fun c_60 => ?_) (fun c_60 => ?_)
          · refine lv_aload_n hx hb dX1_board_66 rfl (lv_at hl 1 rfl) ?_
            refine q_callV (va_runV (As := []) (rest := []) ⟨hx, hb, hml, hown, hts⟩ (mX1_remember l D cI cS ad hI R F o q ho hq hF0 hF1) (cwV 0 hts gX1_board_X1_remember rfl rfl rfl (by decide +kernel) ⟨Nat.le_of_ble_eq_true rfl, Nat.le_of_ble_eq_true rfl⟩) (PW_preV (i := 0) (by decide) CC_0 rfl rfl hK hP) rfl rfl hl.1 rfl (lv_room (Nat.le_of_ble_eq_true rfl)) dX1_board_67 ⟨Nat.zero_le _, Nat.zero_le _⟩) hS (fun H locs hP hS => ?_)
            refine lv_aload_n hx hb dX1_board_70 rfl (lv_at hl 1 rfl) ?_
            refine q_getF (v := .ref (ad 1)) hx hb hts hin1 hown hK hP 0 (by decide) lk10 (fun _ h => h) rfl dX1_board_71 ?_
            refine q_getS (v := .ref (ad 6)) hx hb hts hin0 hown hK hP 1 st_1 7 (by decide) lk83 (fun _ h => h) rfl dX1_board_74 ?_
            refine lv_iload hx hb dX1_board_77 (lv_at hl 0 rfl) ?_
            refine lv_iload_n hx hb dX1_board_79 rfl (lv_at hl 2 rfl) ?_
            refine q_ist hx hb hK hI hP hS 6 8 (ar_6) dX1_board_80 (by first | assumption | exact isCell_in (by assumption) | exact isWalker_in (by assumption) | exact isAboard_in (by assumption) | exact isPair_in1 (by assumption) | exact isPair_in2 (by assumption) | exact isWithin7_in (by assumption) | exact vp_in_nI (by omega) (by decide)) (fun H locs hP hS => ?_)
            have hP : WP D cI cS ad (sR ((xX1_remember R F o q).1) 6 (((F 1 2)).toNatClampNeg) p1) ((xX1_remember R F o q).2) H := hP
            refine lv_aload_n hx hb dX1_board_81 rfl (lv_at hl 1 rfl) ?_
            refine q_getF (v := .ref (ad 1)) hx hb hts hin1 hown hK hP 0 (by decide) lk10 (fun _ h => h) rfl dX1_board_82 ?_
            refine q_getS (v := .ref (ad 7)) hx hb hts hin0 hown hK hP 1 st_1 8 (by decide) lk71 (fun _ h => h) rfl dX1_board_85 ?_
            refine lv_iload hx hb dX1_board_88 (lv_at hl 0 rfl) ?_
            refine lv_iload_n hx hb dX1_board_90 rfl (lv_at hl 4 rfl) ?_
            refine q_ist hx hb hK hI hP hS 7 8 (ar_7) dX1_board_91 (by first | assumption | exact isCell_in (by assumption) | exact isWalker_in (by assumption) | exact isAboard_in (by assumption) | exact isPair_in1 (by assumption) | exact isPair_in2 (by assumption) | exact isWithin7_in (by assumption) | exact vp_in_nI (by omega) (by decide)) (fun H locs hP hS => ?_)
            have hP : WP D cI cS ad (sR (sR ((xX1_remember R F o q).1) 6 (((F 1 2)).toNatClampNeg) p1) 7 (((F 1 2)).toNatClampNeg) p3) ((xX1_remember R F o q).2) H := hP
            refine lv_aload_n hx hb dX1_board_92 rfl (lv_at hl 1 rfl) ?_
            refine q_getF (v := .ref (ad 1)) hx hb hts hin1 hown hK hP 0 (by decide) lk10 (fun _ h => h) rfl dX1_board_93 ?_
            refine q_getS (v := .ref (ad 8)) hx hb hts hin0 hown hK hP 1 st_1 9 (by decide) lk86 (fun _ h => h) rfl dX1_board_96 ?_
            refine lv_iload hx hb dX1_board_99 (lv_at hl 0 rfl) ?_
            refine lv_iload_n hx hb dX1_board_101 rfl (lv_at hl 3 rfl) ?_
            refine q_ist hx hb hK hI hP hS 8 8 (ar_8) dX1_board_102 (by first | assumption | exact isCell_in (by assumption) | exact isWalker_in (by assumption) | exact isAboard_in (by assumption) | exact isPair_in1 (by assumption) | exact isPair_in2 (by assumption) | exact isWithin7_in (by assumption) | exact vp_in_nI (by omega) (by decide)) (fun H locs hP hS => ?_)
            have hP : WP D cI cS ad (sR (sR (sR ((xX1_remember R F o q).1) 6 (((F 1 2)).toNatClampNeg) p1) 7 (((F 1 2)).toNatClampNeg) p3) 8 (((F 1 2)).toNatClampNeg) p2) ((xX1_remember R F o q).2) H := hP
            refine lv_aload_n hx hb dX1_board_103 rfl (lv_at hl 1 rfl) ?_
            refine q_getF (v := .ref (ad 1)) hx hb hts hin1 hown hK hP 0 (by decide) lk10 (fun _ h => h) rfl dX1_board_104 ?_
            refine q_getS (v := .ref (ad 9)) hx hb hts hin0 hown hK hP 1 st_1 10 (by decide) lk89 (fun _ h => h) rfl dX1_board_107 ?_
            refine lv_iload hx hb dX1_board_110 (lv_at hl 0 rfl) ?_
            refine lv_iload_n hx hb dX1_board_112 rfl (lv_at hl 4 rfl) ?_
            refine q_ist hx hb hK hI hP hS 9 8 (ar_9) dX1_board_113 (by first | assumption | exact isCell_in (by assumption) | exact isWalker_in (by assumption) | exact isAboard_in (by assumption) | exact isPair_in1 (by assumption) | exact isPair_in2 (by assumption) | exact isWithin7_in (by assumption) | exact vp_in_nI (by omega) (by decide)) (fun H locs hP hS => ?_)
            have hP : WP D cI cS ad (sR (sR (sR (sR ((xX1_remember R F o q).1) 6 (((F 1 2)).toNatClampNeg) p1) 7 (((F 1 2)).toNatClampNeg) p3) 8 (((F 1 2)).toNatClampNeg) p2) 9 (((F 1 2)).toNatClampNeg) p3) ((xX1_remember R F o q).2) H := hP
            refine lv_aload_n hx hb dX1_board_114 rfl (lv_at hl 1 rfl) ?_
            refine q_getF (v := .ref (ad 1)) hx hb hts hin1 hown hK hP 0 (by decide) lk10 (fun _ h => h) rfl dX1_board_115 ?_
            refine lv_dup hx hb dX1_board_118 rfl ?_
            refine q_getS (v := .int (((xX1_remember R F o q).2) 1 2)) hx hb hts hin0 hown hK hP 1 st_1 2 (by decide) lk79 (fun _ h => h) rfl dX1_board_119 ?_
            refine lv_iconst (v := 1) hx hb dX1_board_122 (by decide) ?_
            refine lv_iadd hx hb dX1_board_123 ?_
            refine q_putS hx hb hts hin0 hown hK hI hP hS 1 st_1 2 (by decide) lk79 (fun _ h => h) dX1_board_124 (fun H locs hP hS => ?_)
            have hP : WP D cI cS ad (sR (sR (sR (sR ((xX1_remember R F o q).1) 6 (((F 1 2)).toNatClampNeg) p1) 7 (((F 1 2)).toNatClampNeg) p3) 8 (((F 1 2)).toNatClampNeg) p2) 9 (((F 1 2)).toNatClampNeg) p3) (sR ((xX1_remember R F o q).2) 1 2 ((((xX1_remember R F o q).2) 1 2) + (1 : Int32))) H := hP
            refine lv_iload hx hb dX1_board_127 (lv_at hl 0 rfl) ?_
            have hX : (xX1_board R F p1 p2 p3 o q) = ((F 1 2), (sR (sR (sR (sR ((xX1_remember R F o q).1) 6 (((F 1 2)).toNatClampNeg) p1) 7 (((F 1 2)).toNatClampNeg) p3) 8 (((F 1 2)).toNatClampNeg) p2) 9 (((F 1 2)).toNatClampNeg) p3), (sR ((xX1_remember R F o q).2) 1 2 ((((xX1_remember R F o q).2) 1 2) + (1 : Int32)))) := by unfold xX1_board; rw [if_neg c_4, if_neg c_11, if_neg c_18, if_pos c_37, if_neg c_60]
            exact W.iret (v := (F 1 2)) hx hb hr (fun t ht hW => ⟨by rw [hX], by rw [hX, ht]; with_reducible exact hP, hS.F ht⟩) hS.2.2 dX1_board_129
          · refine lv_ldc (v := -100003) hx hb hown lk82 dX1_board_63 ?_
            have hX : (xX1_board R F p1 p2 p3 o q) = ((-100003 : Int32), R, F) := by unfold xX1_board; rw [if_neg c_4, if_neg c_11, if_neg c_18, if_pos c_37, if_pos c_60]
            exact W.iret (v := (-100003 : Int32)) hx hb hr (fun t ht hW => ⟨by rw [hX], by rw [hX, ht]; with_reducible exact hP, hS.F ht⟩) hS.2.2 dX1_board_65
        · refine lv_ldc (v := -100002) hx hb hown lk55 dX1_board_40 ?_
          have hX : (xX1_board R F p1 p2 p3 o q) = ((-100002 : Int32), R, F) := by unfold xX1_board; rw [if_neg c_4, if_neg c_11, if_neg c_18, if_neg c_37]
          exact W.iret (v := (-100002 : Int32)) hx hb hr (fun t ht hW => ⟨by rw [hX], by rw [hX, ht]; with_reducible exact hP, hS.F ht⟩) hS.2.2 dX1_board_42
      · refine lv_ldc (v := -100001) hx hb hown lk45 dX1_board_21 ?_
        have hX : (xX1_board R F p1 p2 p3 o q) = ((-100001 : Int32), R, F) := by unfold xX1_board; rw [if_neg c_4, if_neg c_11, if_pos c_18]
        exact W.iret (v := (-100001 : Int32)) hx hb hr (fun t ht hW => ⟨by rw [hX], by rw [hX, ht]; with_reducible exact hP, hS.F ht⟩) hS.2.2 dX1_board_23

def xX1_walk (R F : Nat → Nat → Int32) (p1 : Int32) (p2 : Int32) (o : Nat) (q : Nat) : Int32 × (Nat → Nat → Int32) × (Nat → Nat → Int32) :=
  (if (xX1_isWalker R F p1) = (0 : Int32) then ((-100001 : Int32), R, F) else (if (xX1_isCell p2) = (0 : Int32) then ((-100001 : Int32), R, F) else (if (xX1_isAboard R F p1) = (0 : Int32) then ((-100002 : Int32), R, F) else (if (xX1_whoIsOn R F 7 p2) = (-100009 : Int32) then (if (xX1_isWalker (sR ((xX1_remember R F o q).1) 7 ((p1).toNatClampNeg) p2) ((xX1_remember R F o q).2) (xX1_whoIsOn ((xX1_remember R F o q).1) ((xX1_remember R F o q).2) 9 (((xX1_remember R F o q).1) 7 (p1).toNatClampNeg))) = (0 : Int32) then ((xX1_whoIsOn ((xX1_remember R F o q).1) ((xX1_remember R F o q).2) 9 (((xX1_remember R F o q).1) 7 (p1).toNatClampNeg)), (sR ((xX1_remember R F o q).1) 7 ((p1).toNatClampNeg) p2), ((xX1_remember R F o q).2)) else ((xX1_whoIsOn ((xX1_remember R F o q).1) ((xX1_remember R F o q).2) 9 (((xX1_remember R F o q).1) 7 (p1).toNatClampNeg)), (sR (sR ((xX1_remember R F o q).1) 7 ((p1).toNatClampNeg) p2) 9 (((xX1_whoIsOn ((xX1_remember R F o q).1) ((xX1_remember R F o q).2) 9 (((xX1_remember R F o q).1) 7 (p1).toNatClampNeg))).toNatClampNeg) p2), ((xX1_remember R F o q).2))) else ((-100002 : Int32), R, F)))))
set_option maxHeartbeats 4000000 in
set_option maxRecDepth 100000 in
theorem mX1_walk (l : Launch) (D : va_G) (cI cS : ClassId) (ad : Nat → Nat) (hI : Inj ad) (R F : Nat → Nat → Int32) (p1 : Int32) (p2 : Int32) (o : Nat) (q : Nat) (ho : o < 5) (hq : q ≤ 5) (hF0 : F 0 0 = nI o) (hF1 : F 0 1 = nI q) : Met l yX1_walk wsX1_walk ({ frames := 4, cells := 0, slots := 0, locals := 111 }) (PW D cI cS ad R F [.ref (ad 0), .int p1, .int p2]) (QI D cI cS ad ((xX1_walk R F p1 p2 o q).1) ((xX1_walk R F p1 p2 o q).2.1) ((xX1_walk R F p1 p2 o q).2.2)) 0 0 (AA ad) := by
  refine Met.ofW (cc := cX1_walk) (maxL := 4) (ret := (some .int)) (by decide) rfl ?_
  intro p e s m args below meth c s₁ B hml hv
  obtain ⟨rfl, hP, hK⟩ := hv
  have hx := B.exec
  have hb := B.bytes
  have hr := B.returns
  have hts := atoms_spec (ws := wsX1_walk) B.pre
  have hown : s.vm.findClass RX1 = some m.cls := findClass_of_methodNamed B.named
  have hlocks := B.notSynchronized
  have hS : va_S (AA ad) s.heap s.heap [] := va_S.rf
  have hl := lv_entry ([.ref (ad 0), .int p1, .int p2]) (n := 4) (Nat.le_of_ble_eq_true rfl)
  rw [lg_entry_eq]
  generalize (lg_sl ([.ref (ad 0), .int p1, .int p2]) ++ List.replicate (4 - (lg_sl ([.ref (ad 0), .int p1, .int p2])).length) Slot.unset).toArray = ls at hl ⊢
  have hl : lv_has ls 4 [(0, .ref (ad 0)), (1, .int p1), (2, .int p2)] := hl
  have lk45 := hts (.constant RX1 45 (-100001)) (by decide +kernel)
  have lk10 := hts (.fieldLink RX1 10 "FerryFloor" "now" "LFerryFloor$State;") (by decide +kernel)
  have lk71 := hts (.fieldLink RX1 71 "FerryFloor$State" "places" "[I") (by decide +kernel)
  have lk78 := hts (.constant RX1 78 (-100009)) (by decide +kernel)
  have lk55 := hts (.constant RX1 55 (-100002)) (by decide +kernel)
  have lk89 := hts (.fieldLink RX1 89 "FerryFloor$State" "bookPlaces" "[I") (by decide +kernel)
  have hin1 : ∀ w ∈ u_ws RX1 TX1 7, w ∈ wsX1_walk := by decide +kernel
  have hin0 : ∀ w ∈ u_ws RX0 TX0 15, w ∈ wsX1_walk := by decide +kernel
  refine lv_aload_n hx hb dX1_walk_0 rfl (lv_at hl 0 rfl) ?_
  refine lv_iload_n hx hb dX1_walk_1 rfl (lv_at hl 1 rfl) ?_
  refine q_callS (va_runV (As := [.int p1]) (rest := []) ⟨hx, hb, hml, hown, hts⟩ (mX1_isWalker l D cI cS ad hI R F p1) (cwV 1 hts gX1_walk_X1_isWalker rfl rfl rfl (by decide +kernel) ⟨Nat.le_of_ble_eq_true rfl, Nat.le_of_ble_eq_true rfl⟩) (PW_preV (i := 0) (by decide) CC_0 rfl rfl hK hP) rfl rfl hl.1 rfl (lv_room (Nat.le_of_ble_eq_true rfl)) dX1_walk_2 ⟨Nat.zero_le _, Nat.zero_le _⟩) ?_
  refine lv_if_eq (tgt := 15) hx hb dX1_walk_5 (by decide) (fun c_5 => ?_) (fun c_5 => ?_)
  · refine lv_ldc (v := -100001) hx hb hown lk45 dX1_walk_15 ?_
    have hX : (xX1_walk R F p1 p2 o q) = ((-100001 : Int32), R, F) := by unfold xX1_walk; rw [if_pos c_5]
    exact W.iret (v := (-100001 : Int32)) hx hb hr (fun t ht hW => ⟨by rw [hX], by rw [hX, ht]; with_reducible exact hP, hS.F ht⟩) hS.2.2 dX1_walk_17
  · refine lv_iload_n hx hb dX1_walk_8 rfl (lv_at hl 2 rfl) ?_
    refine q_callS (va_runS (As := [.int p2]) (rest := []) ⟨hx, hb, hml, hown, hts⟩ (mX1_isCell l D cI cS ad hI R F p2) (va_cwS 1 hts gX1_walk_X1_isCell rfl rfl rfl (by decide +kernel) ⟨Nat.le_of_ble_eq_true rfl, Nat.le_of_ble_eq_true rfl⟩) (PW_preS hK hP) rfl rfl hl.1 rfl (lv_room (Nat.le_of_ble_eq_true rfl)) dX1_walk_9 ⟨Nat.zero_le _, Nat.zero_le _⟩) ?_
    refine lv_if_ne (tgt := 18) hx hb dX1_walk_12 (by decide) (fun c_12 => ?_) (fun c_12 => ?_)
    · refine lv_aload_n hx hb dX1_walk_18 rfl (lv_at hl 0 rfl) ?_
      refine lv_iload_n hx hb dX1_walk_19 rfl (lv_at hl 1 rfl) ?_
      refine q_callS (va_runV (As := [.int p1]) (rest := []) ⟨hx, hb, hml, hown, hts⟩ (mX1_isAboard l D cI cS ad hI R F p1) (cwV 1 hts gX1_walk_X1_isAboard rfl rfl rfl (by decide +kernel) ⟨Nat.le_of_ble_eq_true rfl, Nat.le_of_ble_eq_true rfl⟩) (PW_preV (i := 0) (by decide) CC_0 rfl rfl hK hP) rfl rfl hl.1 rfl (lv_room (Nat.le_of_ble_eq_true rfl)) dX1_walk_20 ⟨Nat.zero_le _, Nat.zero_le _⟩) ?_
      refine lv_if_eq (tgt := 42) hx hb dX1_walk_23 (by decide) (fun c_23 => ?_) (fun c_23 => ?_)
      · refine lv_ldc (v := -100002) hx hb hown lk55 dX1_walk_42 ?_
        have hX : (xX1_walk R F p1 p2 o q) = ((-100002 : Int32), R, F) := by unfold xX1_walk; rw [if_neg c_5, if_neg c_12, if_pos c_23]
        exact W.iret (v := (-100002 : Int32)) hx hb hr (fun t ht hW => ⟨by rw [hX], by rw [hX, ht]; with_reducible exact hP, hS.F ht⟩) hS.2.2 dX1_walk_44
      · refine lv_aload_n hx hb dX1_walk_26 rfl (lv_at hl 0 rfl) ?_
        refine q_getF (v := .ref (ad 1)) hx hb hts hin1 hown hK hP 0 (by decide) lk10 (fun _ h => h) rfl dX1_walk_27 ?_
        refine q_getS (v := .ref (ad 7)) hx hb hts hin0 hown hK hP 1 st_1 8 (by decide) lk71 (fun _ h => h) rfl dX1_walk_30 ?_
        refine lv_iload_n hx hb dX1_walk_33 rfl (lv_at hl 2 rfl) ?_
        refine q_callS (va_runS (As := [.ref (ad 7), .int p2]) (rest := []) ⟨hx, hb, hml, hown, hts⟩ (mX1_whoIsOn l D cI cS ad hI R F 7 p2 (ar_7)) (va_cwS 2 hts gX1_walk_X1_whoIsOn rfl rfl rfl (by decide +kernel) ⟨Nat.le_of_ble_eq_true rfl, Nat.le_of_ble_eq_true rfl⟩) (PW_preS hK hP) rfl rfl hl.1 rfl (lv_room (Nat.le_of_ble_eq_true rfl)) dX1_walk_34 ⟨Nat.zero_le _, Nat.zero_le _⟩) ?_
        refine lv_ldc (v := -100009) hx hb hown lk78 dX1_walk_37 ?_
        refine lv_icmp_eq (tgt := 45) hx hb dX1_walk_39 (by decide) (fun c_39 => ?_) (fun c_39 => ?_)
        · refine lv_aload_n hx hb dX1_walk_45 rfl (lv_at hl 0 rfl) ?_
          refine q_callV (va_runV (As := []) (rest := []) ⟨hx, hb, hml, hown, hts⟩ (mX1_remember l D cI cS ad hI R F o q ho hq hF0 hF1) (cwV 0 hts gX1_walk_X1_remember rfl rfl rfl (by decide +kernel) ⟨Nat.le_of_ble_eq_true rfl, Nat.le_of_ble_eq_true rfl⟩) (PW_preV (i := 0) (by decide) CC_0 rfl rfl hK hP) rfl rfl hl.1 rfl (lv_room (Nat.le_of_ble_eq_true rfl)) dX1_walk_46 ⟨Nat.zero_le _, Nat.zero_le _⟩) hS (fun H locs hP hS => ?_)
          refine lv_aload_n hx hb dX1_walk_49 rfl (lv_at hl 0 rfl) ?_
          refine q_getF (v := .ref (ad 1)) hx hb hts hin1 hown hK hP 0 (by decide) lk10 (fun _ h => h) rfl dX1_walk_50 ?_
          refine q_getS (v := .ref (ad 9)) hx hb hts hin0 hown hK hP 1 st_1 10 (by decide) lk89 (fun _ h => h) rfl dX1_walk_53 ?_
          refine lv_aload_n hx hb dX1_walk_56 rfl (lv_at hl 0 rfl) ?_
          refine q_getF (v := .ref (ad 1)) hx hb hts hin1 hown hK hP 0 (by decide) lk10 (fun _ h => h) rfl dX1_walk_57 ?_
          refine q_getS (v := .ref (ad 7)) hx hb hts hin0 hown hK hP 1 st_1 8 (by decide) lk71 (fun _ h => h) rfl dX1_walk_60 ?_
          refine lv_iload_n hx hb dX1_walk_63 rfl (lv_at hl 1 rfl) ?_
          refine q_ild hx hb hK hP 7 8 (ar_7) dX1_walk_64 (by first | assumption | exact isCell_in (by assumption) | exact isWalker_in (by assumption) | exact isAboard_in (by assumption) | exact isPair_in1 (by assumption) | exact isPair_in2 (by assumption) | exact isWithin7_in (by assumption) | exact vp_in_nI (by omega) (by decide)) ?_
          refine q_callS (va_runS (As := [.ref (ad 9), .int (((xX1_remember R F o q).1) 7 (p1).toNatClampNeg)]) (rest := []) ⟨hx, hb, hml, hown, hts⟩ (mX1_whoIsOn l D cI cS ad hI ((xX1_remember R F o q).1) ((xX1_remember R F o q).2) 9 (((xX1_remember R F o q).1) 7 (p1).toNatClampNeg) (ar_9)) (va_cwS 2 hts gX1_walk_X1_whoIsOn rfl rfl rfl (by decide +kernel) ⟨Nat.le_of_ble_eq_true rfl, Nat.le_of_ble_eq_true rfl⟩) (PW_preS hK hP) rfl rfl hl.1 rfl (lv_room (Nat.le_of_ble_eq_true rfl)) dX1_walk_65 ⟨Nat.zero_le _, Nat.zero_le _⟩) ?_
          refine lv_istore_n (lv' := [(3, .int (xX1_whoIsOn ((xX1_remember R F o q).1) ((xX1_remember R F o q).2) 9 (((xX1_remember R F o q).1) 7 (p1).toNatClampNeg))), (0, .ref (ad 0)), (1, .int p1), (2, .int p2)]) hx hb dX1_walk_68 rfl hl (by decide) rfl (fun ls hl => ?_)
          refine lv_aload_n hx hb dX1_walk_69 rfl (lv_at hl 1 rfl) ?_
          refine q_getF (v := .ref (ad 1)) hx hb hts hin1 hown hK hP 0 (by decide) lk10 (fun _ h => h) rfl dX1_walk_70 ?_
          refine q_getS (v := .ref (ad 7)) hx hb hts hin0 hown hK hP 1 st_1 8 (by decide) lk71 (fun _ h => h) rfl dX1_walk_73 ?_
          refine lv_iload_n hx hb dX1_walk_76 rfl (lv_at hl 2 rfl) ?_
          refine lv_iload_n hx hb dX1_walk_77 rfl (lv_at hl 3 rfl) ?_
          refine q_ist hx hb hK hI hP hS 7 8 (ar_7) dX1_walk_78 (by first | assumption | exact isCell_in (by assumption) | exact isWalker_in (by assumption) | exact isAboard_in (by assumption) | exact isPair_in1 (by assumption) | exact isPair_in2 (by assumption) | exact isWithin7_in (by assumption) | exact vp_in_nI (by omega) (by decide)) (fun H locs hP hS => ?_)
          have hP : WP D cI cS ad (sR ((xX1_remember R F o q).1) 7 ((p1).toNatClampNeg) p2) ((xX1_remember R F o q).2) H := hP
          refine lv_aload_n hx hb dX1_walk_79 rfl (lv_at hl 1 rfl) ?_
          refine lv_iload_n hx hb dX1_walk_80 rfl (lv_at hl 0 rfl) ?_
          refine q_callS (va_runV (As := [.int (xX1_whoIsOn ((xX1_remember R F o q).1) ((xX1_remember R F o q).2) 9 (((xX1_remember R F o q).1) 7 (p1).toNatClampNeg))]) (rest := []) ⟨hx, hb, hml, hown, hts⟩ (mX1_isWalker l D cI cS ad hI (sR ((xX1_remember R F o q).1) 7 ((p1).toNatClampNeg) p2) ((xX1_remember R F o q).2) (xX1_whoIsOn ((xX1_remember R F o q).1) ((xX1_remember R F o q).2) 9 (((xX1_remember R F o q).1) 7 (p1).toNatClampNeg))) (cwV 1 hts gX1_walk_X1_isWalker rfl rfl rfl (by decide +kernel) ⟨Nat.le_of_ble_eq_true rfl, Nat.le_of_ble_eq_true rfl⟩) (PW_preV (i := 0) (by decide) CC_0 rfl rfl hK hP) rfl rfl hl.1 rfl (lv_room (Nat.le_of_ble_eq_true rfl)) dX1_walk_81 ⟨Nat.zero_le _, Nat.zero_le _⟩) ?_
          refine lv_if_eq (tgt := 97) hx hb dX1_walk_84 (by decide) (fun c_84 => ?_) (fun c_84 => ?_)
          · refine lv_iload_n hx hb dX1_walk_97 rfl (lv_at hl 0 rfl) ?_
            have hX : (xX1_walk R F p1 p2 o q) = ((xX1_whoIsOn ((xX1_remember R F o q).1) ((xX1_remember R F o q).2) 9 (((xX1_remember R F o q).1) 7 (p1).toNatClampNeg)), (sR ((xX1_remember R F o q).1) 7 ((p1).toNatClampNeg) p2), ((xX1_remember R F o q).2)) := by unfold xX1_walk; rw [if_neg c_5, if_neg c_12, if_neg c_23, if_pos c_39, if_pos c_84]
            exact W.iret (v := (xX1_whoIsOn ((xX1_remember R F o q).1) ((xX1_remember R F o q).2) 9 (((xX1_remember R F o q).1) 7 (p1).toNatClampNeg))) hx hb hr (fun t ht hW => ⟨by rw [hX], by rw [hX, ht]; with_reducible exact hP, hS.F ht⟩) hS.2.2 dX1_walk_98
          · refine lv_aload_n hx hb dX1_walk_87 rfl (lv_at hl 1 rfl) ?_
            refine q_getF (v := .ref (ad 1)) hx hb hts hin1 hown hK hP 0 (by decide) lk10 (fun _ h => h) rfl dX1_walk_88 ?_
            refine q_getS (v := .ref (ad 9)) hx hb hts hin0 hown hK hP 1 st_1 10 (by decide) lk89 (fun _ h => h) rfl dX1_walk_91 ?_
            refine lv_iload_n hx hb dX1_walk_94 rfl (lv_at hl 0 rfl) ?_
            refine lv_iload_n hx hb dX1_walk_95 rfl (lv_at hl 3 rfl) ?_
            refine q_ist hx hb hK hI hP hS 9 8 (ar_9) dX1_walk_96 (by first | assumption | exact isCell_in (by assumption) | exact isWalker_in (by assumption) | exact isAboard_in (by assumption) | exact isPair_in1 (by assumption) | exact isPair_in2 (by assumption) | exact isWithin7_in (by assumption) | exact vp_in_nI (by omega) (by decide)) (fun H locs hP hS => ?_)
            have hP : WP D cI cS ad (sR (sR ((xX1_remember R F o q).1) 7 ((p1).toNatClampNeg) p2) 9 (((xX1_whoIsOn ((xX1_remember R F o q).1) ((xX1_remember R F o q).2) 9 (((xX1_remember R F o q).1) 7 (p1).toNatClampNeg))).toNatClampNeg) p2) ((xX1_remember R F o q).2) H := hP
            refine lv_iload_n hx hb dX1_walk_97 rfl (lv_at hl 0 rfl) ?_
            have hX : (xX1_walk R F p1 p2 o q) = ((xX1_whoIsOn ((xX1_remember R F o q).1) ((xX1_remember R F o q).2) 9 (((xX1_remember R F o q).1) 7 (p1).toNatClampNeg)), (sR (sR ((xX1_remember R F o q).1) 7 ((p1).toNatClampNeg) p2) 9 (((xX1_whoIsOn ((xX1_remember R F o q).1) ((xX1_remember R F o q).2) 9 (((xX1_remember R F o q).1) 7 (p1).toNatClampNeg))).toNatClampNeg) p2), ((xX1_remember R F o q).2)) := by unfold xX1_walk; rw [if_neg c_5, if_neg c_12, if_neg c_23, if_pos c_39, if_neg c_84]
            exact W.iret (v := (xX1_whoIsOn ((xX1_remember R F o q).1) ((xX1_remember R F o q).2) 9 (((xX1_remember R F o q).1) 7 (p1).toNatClampNeg))) hx hb hr (fun t ht hW => ⟨by rw [hX], by rw [hX, ht]; with_reducible exact hP, hS.F ht⟩) hS.2.2 dX1_walk_98
        · refine lv_ldc (v := -100002) hx hb hown lk55 dX1_walk_42 ?_
          have hX : (xX1_walk R F p1 p2 o q) = ((-100002 : Int32), R, F) := by unfold xX1_walk; rw [if_neg c_5, if_neg c_12, if_neg c_23, if_neg c_39]
          exact W.iret (v := (-100002 : Int32)) hx hb hr (fun t ht hW => ⟨by rw [hX], by rw [hX, ht]; with_reducible exact hP, hS.F ht⟩) hS.2.2 dX1_walk_44
    · refine lv_ldc (v := -100001) hx hb hown lk45 dX1_walk_15 ?_
      have hX : (xX1_walk R F p1 p2 o q) = ((-100001 : Int32), R, F) := by unfold xX1_walk; rw [if_neg c_5, if_pos c_12]
      exact W.iret (v := (-100001 : Int32)) hx hb hr (fun t ht hW => ⟨by rw [hX], by rw [hX, ht]; with_reducible exact hP, hS.F ht⟩) hS.2.2 dX1_walk_17

def xX1_swap (R F : Nat → Nat → Int32) (p1 : Int32) (p2 : Int32) (o : Nat) (q : Nat) : Int32 × (Nat → Nat → Int32) × (Nat → Nat → Int32) :=
  (if (xX1_isPair R F p1 p2) = (0 : Int32) then ((-100001 : Int32), R, F) else (if (xX1_isAboard R F p1) = (0 : Int32) then ((-100002 : Int32), R, F) else (if (xX1_isAboard R F p2) = (0 : Int32) then ((-100002 : Int32), R, F) else (((xX1_errorWith (xX1_exchange ((xX1_remember R F o q).1) ((xX1_remember R F o q).2) 7 p1 p2) ((xX1_remember R F o q).2) 9).1), ((xX1_errorWith (xX1_exchange ((xX1_remember R F o q).1) ((xX1_remember R F o q).2) 7 p1 p2) ((xX1_remember R F o q).2) 9).2), ((xX1_remember R F o q).2)))))
set_option maxHeartbeats 4000000 in
set_option maxRecDepth 100000 in
theorem mX1_swap (l : Launch) (D : va_G) (cI cS : ClassId) (ad : Nat → Nat) (hI : Inj ad) (R F : Nat → Nat → Int32) (p1 : Int32) (p2 : Int32) (o : Nat) (q : Nat) (ho : o < 5) (hq : q ≤ 5) (hF0 : F 0 0 = nI o) (hF1 : F 0 1 = nI q) : Met l yX1_swap wsX1_swap ({ frames := 5, cells := 0, slots := 0, locals := 115 }) (PW D cI cS ad R F [.ref (ad 0), .int p1, .int p2]) (QI D cI cS ad ((xX1_swap R F p1 p2 o q).1) ((xX1_swap R F p1 p2 o q).2.1) ((xX1_swap R F p1 p2 o q).2.2)) 0 0 (AA ad) := by
  refine Met.ofW (cc := cX1_swap) (maxL := 3) (ret := (some .int)) (by decide) rfl ?_
  intro p e s m args below meth c s₁ B hml hv
  obtain ⟨rfl, hP, hK⟩ := hv
  have hx := B.exec
  have hb := B.bytes
  have hr := B.returns
  have hts := atoms_spec (ws := wsX1_swap) B.pre
  have hown : s.vm.findClass RX1 = some m.cls := findClass_of_methodNamed B.named
  have hlocks := B.notSynchronized
  have hS : va_S (AA ad) s.heap s.heap [] := va_S.rf
  have hl := lv_entry ([.ref (ad 0), .int p1, .int p2]) (n := 3) (Nat.le_of_ble_eq_true rfl)
  rw [lg_entry_eq]
  generalize (lg_sl ([.ref (ad 0), .int p1, .int p2]) ++ List.replicate (3 - (lg_sl ([.ref (ad 0), .int p1, .int p2])).length) Slot.unset).toArray = ls at hl ⊢
  have hl : lv_has ls 3 [(0, .ref (ad 0)), (1, .int p1), (2, .int p2)] := hl
  have lk45 := hts (.constant RX1 45 (-100001)) (by decide +kernel)
  have lk55 := hts (.constant RX1 55 (-100002)) (by decide +kernel)
  have lk10 := hts (.fieldLink RX1 10 "FerryFloor" "now" "LFerryFloor$State;") (by decide +kernel)
  have lk71 := hts (.fieldLink RX1 71 "FerryFloor$State" "places" "[I") (by decide +kernel)
  have lk89 := hts (.fieldLink RX1 89 "FerryFloor$State" "bookPlaces" "[I") (by decide +kernel)
  have hin1 : ∀ w ∈ u_ws RX1 TX1 7, w ∈ wsX1_swap := by decide +kernel
  have hin0 : ∀ w ∈ u_ws RX0 TX0 15, w ∈ wsX1_swap := by decide +kernel
  refine lv_aload_n hx hb dX1_swap_0 rfl (lv_at hl 0 rfl) ?_
  refine lv_iload_n hx hb dX1_swap_1 rfl (lv_at hl 1 rfl) ?_
  refine lv_iload_n hx hb dX1_swap_2 rfl (lv_at hl 2 rfl) ?_
  refine q_callS (va_runV (As := [.int p1, .int p2]) (rest := []) ⟨hx, hb, hml, hown, hts⟩ (mX1_isPair l D cI cS ad hI R F p1 p2) (cwV 2 hts gX1_swap_X1_isPair rfl rfl rfl (by decide +kernel) ⟨Nat.le_of_ble_eq_true rfl, Nat.le_of_ble_eq_true rfl⟩) (PW_preV (i := 0) (by decide) CC_0 rfl rfl hK hP) rfl rfl hl.1 rfl (lv_room (Nat.le_of_ble_eq_true rfl)) dX1_swap_3 ⟨Nat.zero_le _, Nat.zero_le _⟩) ?_
  refine lv_if_ne (tgt := 12) hx hb dX1_swap_6 (by decide) (fun c_6 => ?_) (fun c_6 => ?_)
  · refine lv_aload_n hx hb dX1_swap_12 rfl (lv_at hl 0 rfl) ?_
    refine lv_iload_n hx hb dX1_swap_13 rfl (lv_at hl 1 rfl) ?_
    refine q_callS (va_runV (As := [.int p1]) (rest := []) ⟨hx, hb, hml, hown, hts⟩ (mX1_isAboard l D cI cS ad hI R F p1) (cwV 1 hts gX1_swap_X1_isAboard rfl rfl rfl (by decide +kernel) ⟨Nat.le_of_ble_eq_true rfl, Nat.le_of_ble_eq_true rfl⟩) (PW_preV (i := 0) (by decide) CC_0 rfl rfl hK hP) rfl rfl hl.1 rfl (lv_room (Nat.le_of_ble_eq_true rfl)) dX1_swap_14 ⟨Nat.zero_le _, Nat.zero_le _⟩) ?_
    refine lv_if_eq (tgt := 28) hx hb dX1_swap_17 (by decide) (fun c_17 => ?_) (fun c_17 => ?_)
    · refine lv_ldc (v := -100002) hx hb hown lk55 dX1_swap_28 ?_
      have hX : (xX1_swap R F p1 p2 o q) = ((-100002 : Int32), R, F) := by unfold xX1_swap; rw [if_neg c_6, if_pos c_17]
      exact W.iret (v := (-100002 : Int32)) hx hb hr (fun t ht hW => ⟨by rw [hX], by rw [hX, ht]; with_reducible exact hP, hS.F ht⟩) hS.2.2 dX1_swap_30
    · refine lv_aload_n hx hb dX1_swap_20 rfl (lv_at hl 0 rfl) ?_
      refine lv_iload_n hx hb dX1_swap_21 rfl (lv_at hl 2 rfl) ?_
      refine q_callS (va_runV (As := [.int p2]) (rest := []) ⟨hx, hb, hml, hown, hts⟩ (mX1_isAboard l D cI cS ad hI R F p2) (cwV 1 hts gX1_swap_X1_isAboard rfl rfl rfl (by decide +kernel) ⟨Nat.le_of_ble_eq_true rfl, Nat.le_of_ble_eq_true rfl⟩) (PW_preV (i := 0) (by decide) CC_0 rfl rfl hK hP) rfl rfl hl.1 rfl (lv_room (Nat.le_of_ble_eq_true rfl)) dX1_swap_22 ⟨Nat.zero_le _, Nat.zero_le _⟩) ?_
      refine lv_if_ne (tgt := 31) hx hb dX1_swap_25 (by decide) (fun c_25 => ?_) (fun c_25 => ?_)
      · refine lv_aload_n hx hb dX1_swap_31 rfl (lv_at hl 0 rfl) ?_
        refine q_callV (va_runV (As := []) (rest := []) ⟨hx, hb, hml, hown, hts⟩ (mX1_remember l D cI cS ad hI R F o q ho hq hF0 hF1) (cwV 0 hts gX1_swap_X1_remember rfl rfl rfl (by decide +kernel) ⟨Nat.le_of_ble_eq_true rfl, Nat.le_of_ble_eq_true rfl⟩) (PW_preV (i := 0) (by decide) CC_0 rfl rfl hK hP) rfl rfl hl.1 rfl (lv_room (Nat.le_of_ble_eq_true rfl)) dX1_swap_32 ⟨Nat.zero_le _, Nat.zero_le _⟩) hS (fun H locs hP hS => ?_)
        refine lv_aload_n hx hb dX1_swap_35 rfl (lv_at hl 0 rfl) ?_
        refine q_getF (v := .ref (ad 1)) hx hb hts hin1 hown hK hP 0 (by decide) lk10 (fun _ h => h) rfl dX1_swap_36 ?_
        refine q_getS (v := .ref (ad 7)) hx hb hts hin0 hown hK hP 1 st_1 8 (by decide) lk71 (fun _ h => h) rfl dX1_swap_39 ?_
        refine lv_iload_n hx hb dX1_swap_42 rfl (lv_at hl 1 rfl) ?_
        refine lv_iload_n hx hb dX1_swap_43 rfl (lv_at hl 2 rfl) ?_
        refine q_callV (va_runS (As := [.ref (ad 7), .int p1, .int p2]) (rest := []) ⟨hx, hb, hml, hown, hts⟩ (mX1_exchange l D cI cS ad hI ((xX1_remember R F o q).1) ((xX1_remember R F o q).2) 7 p1 p2 (ar_7) (by first | assumption | exact isCell_in (by assumption) | exact isWalker_in (by assumption) | exact isAboard_in (by assumption) | exact isPair_in1 (by assumption) | exact isPair_in2 (by assumption) | exact isWithin7_in (by assumption) | exact vp_in_nI (by omega) (by decide)) (by first | assumption | exact isCell_in (by assumption) | exact isWalker_in (by assumption) | exact isAboard_in (by assumption) | exact isPair_in1 (by assumption) | exact isPair_in2 (by assumption) | exact isWithin7_in (by assumption) | exact vp_in_nI (by omega) (by decide))) (va_cwS 3 hts gX1_swap_X1_exchange rfl rfl rfl (by decide +kernel) ⟨Nat.le_of_ble_eq_true rfl, Nat.le_of_ble_eq_true rfl⟩) (PW_preS hK hP) rfl rfl hl.1 rfl (lv_room (Nat.le_of_ble_eq_true rfl)) dX1_swap_44 ⟨Nat.zero_le _, Nat.zero_le _⟩) hS (fun H locs hP hS => ?_)
        refine lv_aload_n hx hb dX1_swap_47 rfl (lv_at hl 0 rfl) ?_
        refine lv_aload_n hx hb dX1_swap_48 rfl (lv_at hl 0 rfl) ?_
        refine q_getF (v := .ref (ad 1)) hx hb hts hin1 hown hK hP 0 (by decide) lk10 (fun _ h => h) rfl dX1_swap_49 ?_
        refine q_getS (v := .ref (ad 9)) hx hb hts hin0 hown hK hP 1 st_1 10 (by decide) lk89 (fun _ h => h) rfl dX1_swap_52 ?_
        refine q_callI (va_runV (As := [.ref (ad 9)]) (rest := []) ⟨hx, hb, hml, hown, hts⟩ (mX1_errorWith l D cI cS ad hI (xX1_exchange ((xX1_remember R F o q).1) ((xX1_remember R F o q).2) 7 p1 p2) ((xX1_remember R F o q).2) 9 (ar_9)) (cwV 1 hts gX1_swap_X1_errorWith rfl rfl rfl (by decide +kernel) ⟨Nat.le_of_ble_eq_true rfl, Nat.le_of_ble_eq_true rfl⟩) (PW_preV (i := 0) (by decide) CC_0 rfl rfl hK hP) rfl rfl hl.1 rfl (lv_room (Nat.le_of_ble_eq_true rfl)) dX1_swap_55 ⟨Nat.zero_le _, Nat.zero_le _⟩) hS (fun H locs hP hS => ?_)
        have hX : (xX1_swap R F p1 p2 o q) = (((xX1_errorWith (xX1_exchange ((xX1_remember R F o q).1) ((xX1_remember R F o q).2) 7 p1 p2) ((xX1_remember R F o q).2) 9).1), ((xX1_errorWith (xX1_exchange ((xX1_remember R F o q).1) ((xX1_remember R F o q).2) 7 p1 p2) ((xX1_remember R F o q).2) 9).2), ((xX1_remember R F o q).2)) := by unfold xX1_swap; rw [if_neg c_6, if_neg c_17, if_neg c_25]
        exact W.iret (v := ((xX1_errorWith (xX1_exchange ((xX1_remember R F o q).1) ((xX1_remember R F o q).2) 7 p1 p2) ((xX1_remember R F o q).2) 9).1)) hx hb hr (fun t ht hW => ⟨by rw [hX], by rw [hX, ht]; with_reducible exact hP, hS.F ht⟩) hS.2.2 dX1_swap_58
      · refine lv_ldc (v := -100002) hx hb hown lk55 dX1_swap_28 ?_
        have hX : (xX1_swap R F p1 p2 o q) = ((-100002 : Int32), R, F) := by unfold xX1_swap; rw [if_neg c_6, if_neg c_17, if_pos c_25]
        exact W.iret (v := (-100002 : Int32)) hx hb hr (fun t ht hW => ⟨by rw [hX], by rw [hX, ht]; with_reducible exact hP, hS.F ht⟩) hS.2.2 dX1_swap_30
  · refine lv_ldc (v := -100001) hx hb hown lk45 dX1_swap_9 ?_
    have hX : (xX1_swap R F p1 p2 o q) = ((-100001 : Int32), R, F) := by unfold xX1_swap; rw [if_pos c_6]
    exact W.iret (v := (-100001 : Int32)) hx hb hr (fun t ht hW => ⟨by rw [hX], by rw [hX, ht]; with_reducible exact hP, hS.F ht⟩) hS.2.2 dX1_swap_11

def xX1_leave (R F : Nat → Nat → Int32) (p1 : Int32) (o : Nat) (q : Nat) : Int32 × (Nat → Nat → Int32) × (Nat → Nat → Int32) :=
  (if (xX1_isWalker R F p1) = (0 : Int32) then ((-100001 : Int32), R, F) else (if (xX1_isAboard R F p1) = (0 : Int32) then ((-100002 : Int32), R, F) else (if (xX1_isWalker ((xX1_remember R F o q).1) ((xX1_remember R F o q).2) (xX1_whoIsOn ((xX1_remember R F o q).1) ((xX1_remember R F o q).2) 9 (((xX1_remember R F o q).1) 7 (p1).toNatClampNeg))) = (0 : Int32) then (if (((xX1_remember R F o q).1) 7 (p1).toNatClampNeg) = (((xX1_remember R F o q).1) 9 (p1).toNatClampNeg) then ((1 : Int32), (sR (sR ((xX1_remember R F o q).1) 7 ((p1).toNatClampNeg) (-100009 : Int32)) 9 ((p1).toNatClampNeg) (-100009 : Int32)), ((xX1_remember R F o q).2)) else ((0 : Int32), (sR (sR ((xX1_remember R F o q).1) 7 ((p1).toNatClampNeg) (-100009 : Int32)) 9 ((p1).toNatClampNeg) (-100009 : Int32)), ((xX1_remember R F o q).2))) else (if (((xX1_remember R F o q).1) 7 (p1).toNatClampNeg) = (((xX1_remember R F o q).1) 9 (p1).toNatClampNeg) then ((1 : Int32), (sR (sR (sR ((xX1_remember R F o q).1) 9 (((xX1_whoIsOn ((xX1_remember R F o q).1) ((xX1_remember R F o q).2) 9 (((xX1_remember R F o q).1) 7 (p1).toNatClampNeg))).toNatClampNeg) (((xX1_remember R F o q).1) 9 (p1).toNatClampNeg)) 7 ((p1).toNatClampNeg) (-100009 : Int32)) 9 ((p1).toNatClampNeg) (-100009 : Int32)), ((xX1_remember R F o q).2)) else ((0 : Int32), (sR (sR (sR ((xX1_remember R F o q).1) 9 (((xX1_whoIsOn ((xX1_remember R F o q).1) ((xX1_remember R F o q).2) 9 (((xX1_remember R F o q).1) 7 (p1).toNatClampNeg))).toNatClampNeg) (((xX1_remember R F o q).1) 9 (p1).toNatClampNeg)) 7 ((p1).toNatClampNeg) (-100009 : Int32)) 9 ((p1).toNatClampNeg) (-100009 : Int32)), ((xX1_remember R F o q).2))))))
set_option maxHeartbeats 4000000 in
set_option maxRecDepth 100000 in
theorem mX1_leave (l : Launch) (D : va_G) (cI cS : ClassId) (ad : Nat → Nat) (hI : Inj ad) (R F : Nat → Nat → Int32) (p1 : Int32) (o : Nat) (q : Nat) (ho : o < 5) (hq : q ≤ 5) (hF0 : F 0 0 = nI o) (hF1 : F 0 1 = nI q) : Met l yX1_leave wsX1_leave ({ frames := 4, cells := 0, slots := 0, locals := 111 }) (PW D cI cS ad R F [.ref (ad 0), .int p1]) (QI D cI cS ad ((xX1_leave R F p1 o q).1) ((xX1_leave R F p1 o q).2.1) ((xX1_leave R F p1 o q).2.2)) 0 0 (AA ad) := by
  refine Met.ofW (cc := cX1_leave) (maxL := 5) (ret := (some .int)) (by decide) rfl ?_
  intro p e s m args below meth c s₁ B hml hv
  obtain ⟨rfl, hP, hK⟩ := hv
  have hx := B.exec
  have hb := B.bytes
  have hr := B.returns
  have hts := atoms_spec (ws := wsX1_leave) B.pre
  have hown : s.vm.findClass RX1 = some m.cls := findClass_of_methodNamed B.named
  have hlocks := B.notSynchronized
  have hS : va_S (AA ad) s.heap s.heap [] := va_S.rf
  have hl := lv_entry ([.ref (ad 0), .int p1]) (n := 5) (Nat.le_of_ble_eq_true rfl)
  rw [lg_entry_eq]
  generalize (lg_sl ([.ref (ad 0), .int p1]) ++ List.replicate (5 - (lg_sl ([.ref (ad 0), .int p1])).length) Slot.unset).toArray = ls at hl ⊢
  have hl : lv_has ls 5 [(0, .ref (ad 0)), (1, .int p1)] := hl
  have lk45 := hts (.constant RX1 45 (-100001)) (by decide +kernel)
  have lk55 := hts (.constant RX1 55 (-100002)) (by decide +kernel)
  have lk10 := hts (.fieldLink RX1 10 "FerryFloor" "now" "LFerryFloor$State;") (by decide +kernel)
  have lk71 := hts (.fieldLink RX1 71 "FerryFloor$State" "places" "[I") (by decide +kernel)
  have lk89 := hts (.fieldLink RX1 89 "FerryFloor$State" "bookPlaces" "[I") (by decide +kernel)
  have lk78 := hts (.constant RX1 78 (-100009)) (by decide +kernel)
  have hin1 : ∀ w ∈ u_ws RX1 TX1 7, w ∈ wsX1_leave := by decide +kernel
  have hin0 : ∀ w ∈ u_ws RX0 TX0 15, w ∈ wsX1_leave := by decide +kernel
  refine lv_aload_n hx hb dX1_leave_0 rfl (lv_at hl 0 rfl) ?_
  refine lv_iload_n hx hb dX1_leave_1 rfl (lv_at hl 1 rfl) ?_
  refine q_callS (va_runV (As := [.int p1]) (rest := []) ⟨hx, hb, hml, hown, hts⟩ (mX1_isWalker l D cI cS ad hI R F p1) (cwV 1 hts gX1_leave_X1_isWalker rfl rfl rfl (by decide +kernel) ⟨Nat.le_of_ble_eq_true rfl, Nat.le_of_ble_eq_true rfl⟩) (PW_preV (i := 0) (by decide) CC_0 rfl rfl hK hP) rfl rfl hl.1 rfl (lv_room (Nat.le_of_ble_eq_true rfl)) dX1_leave_2 ⟨Nat.zero_le _, Nat.zero_le _⟩) ?_
  refine lv_if_ne (tgt := 11) hx hb dX1_leave_5 (by decide) (fun c_5 => ?_) (fun c_5 => ?_)
  · refine lv_aload_n hx hb dX1_leave_11 rfl (lv_at hl 0 rfl) ?_
    refine lv_iload_n hx hb dX1_leave_12 rfl (lv_at hl 1 rfl) ?_
    refine q_callS (va_runV (As := [.int p1]) (rest := []) ⟨hx, hb, hml, hown, hts⟩ (mX1_isAboard l D cI cS ad hI R F p1) (cwV 1 hts gX1_leave_X1_isAboard rfl rfl rfl (by decide +kernel) ⟨Nat.le_of_ble_eq_true rfl, Nat.le_of_ble_eq_true rfl⟩) (PW_preV (i := 0) (by decide) CC_0 rfl rfl hK hP) rfl rfl hl.1 rfl (lv_room (Nat.le_of_ble_eq_true rfl)) dX1_leave_13 ⟨Nat.zero_le _, Nat.zero_le _⟩) ?_
    refine lv_if_ne (tgt := 22) hx hb dX1_leave_16 (by decide) (fun c_16 => ?_) (fun c_16 => ?_)
    · refine lv_aload_n hx hb dX1_leave_22 rfl (lv_at hl 0 rfl) ?_
      refine q_callV (va_runV (As := []) (rest := []) ⟨hx, hb, hml, hown, hts⟩ (mX1_remember l D cI cS ad hI R F o q ho hq hF0 hF1) (cwV 0 hts gX1_leave_X1_remember rfl rfl rfl (by decide +kernel) ⟨Nat.le_of_ble_eq_true rfl, Nat.le_of_ble_eq_true rfl⟩) (PW_preV (i := 0) (by decide) CC_0 rfl rfl hK hP) rfl rfl hl.1 rfl (lv_room (Nat.le_of_ble_eq_true rfl)) dX1_leave_23 ⟨Nat.zero_le _, Nat.zero_le _⟩) hS (fun H locs hP hS => ?_)
      refine lv_aload_n hx hb dX1_leave_26 rfl (lv_at hl 0 rfl) ?_
      refine q_getF (v := .ref (ad 1)) hx hb hts hin1 hown hK hP 0 (by decide) lk10 (fun _ h => h) rfl dX1_leave_27 ?_
      refine q_getS (v := .ref (ad 7)) hx hb hts hin0 hown hK hP 1 st_1 8 (by decide) lk71 (fun _ h => h) rfl dX1_leave_30 ?_
      refine lv_iload_n hx hb dX1_leave_33 rfl (lv_at hl 1 rfl) ?_
      refine q_ild hx hb hK hP 7 8 (ar_7) dX1_leave_34 (by first | assumption | exact isCell_in (by assumption) | exact isWalker_in (by assumption) | exact isAboard_in (by assumption) | exact isPair_in1 (by assumption) | exact isPair_in2 (by assumption) | exact isWithin7_in (by assumption) | exact vp_in_nI (by omega) (by decide)) ?_
      refine lv_istore_n (lv' := [(2, .int (((xX1_remember R F o q).1) 7 (p1).toNatClampNeg)), (0, .ref (ad 0)), (1, .int p1)]) hx hb dX1_leave_35 rfl hl (by decide) rfl (fun ls hl => ?_)
      refine lv_aload_n hx hb dX1_leave_36 rfl (lv_at hl 1 rfl) ?_
      refine q_getF (v := .ref (ad 1)) hx hb hts hin1 hown hK hP 0 (by decide) lk10 (fun _ h => h) rfl dX1_leave_37 ?_
      refine q_getS (v := .ref (ad 9)) hx hb hts hin0 hown hK hP 1 st_1 10 (by decide) lk89 (fun _ h => h) rfl dX1_leave_40 ?_
      refine lv_iload_n hx hb dX1_leave_43 rfl (lv_at hl 2 rfl) ?_
      refine q_ild hx hb hK hP 9 8 (ar_9) dX1_leave_44 (by first | assumption | exact isCell_in (by assumption) | exact isWalker_in (by assumption) | exact isAboard_in (by assumption) | exact isPair_in1 (by assumption) | exact isPair_in2 (by assumption) | exact isWithin7_in (by assumption) | exact vp_in_nI (by omega) (by decide)) ?_
      refine lv_istore_n (lv' := [(3, .int (((xX1_remember R F o q).1) 9 (p1).toNatClampNeg)), (2, .int (((xX1_remember R F o q).1) 7 (p1).toNatClampNeg)), (0, .ref (ad 0)), (1, .int p1)]) hx hb dX1_leave_45 rfl hl (by decide) rfl (fun ls hl => ?_)
      refine lv_aload_n hx hb dX1_leave_46 rfl (lv_at hl 2 rfl) ?_
      refine q_getF (v := .ref (ad 1)) hx hb hts hin1 hown hK hP 0 (by decide) lk10 (fun _ h => h) rfl dX1_leave_47 ?_
      refine q_getS (v := .ref (ad 9)) hx hb hts hin0 hown hK hP 1 st_1 10 (by decide) lk89 (fun _ h => h) rfl dX1_leave_50 ?_
      refine lv_iload_n hx hb dX1_leave_53 rfl (lv_at hl 1 rfl) ?_
      refine q_callS (va_runS (As := [.ref (ad 9), .int (((xX1_remember R F o q).1) 7 (p1).toNatClampNeg)]) (rest := []) ⟨hx, hb, hml, hown, hts⟩ (mX1_whoIsOn l D cI cS ad hI ((xX1_remember R F o q).1) ((xX1_remember R F o q).2) 9 (((xX1_remember R F o q).1) 7 (p1).toNatClampNeg) (ar_9)) (va_cwS 2 hts gX1_leave_X1_whoIsOn rfl rfl rfl (by decide +kernel) ⟨Nat.le_of_ble_eq_true rfl, Nat.le_of_ble_eq_true rfl⟩) (PW_preS hK hP) rfl rfl hl.1 rfl (lv_room (Nat.le_of_ble_eq_true rfl)) dX1_leave_54 ⟨Nat.zero_le _, Nat.zero_le _⟩) ?_
      refine lv_istore (lv' := [(4, .int (xX1_whoIsOn ((xX1_remember R F o q).1) ((xX1_remember R F o q).2) 9 (((xX1_remember R F o q).1) 7 (p1).toNatClampNeg))), (3, .int (((xX1_remember R F o q).1) 9 (p1).toNatClampNeg)), (2, .int (((xX1_remember R F o q).1) 7 (p1).toNatClampNeg)), (0, .ref (ad 0)), (1, .int p1)]) hx hb dX1_leave_57 hl (by decide) rfl (fun ls hl => ?_)
      refine lv_aload_n hx hb dX1_leave_59 rfl (lv_at hl 3 rfl) ?_
      refine lv_iload hx hb dX1_leave_60 (lv_at hl 0 rfl) ?_
      refine q_callS (va_runV (As := [.int (xX1_whoIsOn ((xX1_remember R F o q).1) ((xX1_remember R F o q).2) 9 (((xX1_remember R F o q).1) 7 (p1).toNatClampNeg))]) (rest := []) ⟨hx, hb, hml, hown, hts⟩ (mX1_isWalker l D cI cS ad hI ((xX1_remember R F o q).1) ((xX1_remember R F o q).2) (xX1_whoIsOn ((xX1_remember R F o q).1) ((xX1_remember R F o q).2) 9 (((xX1_remember R F o q).1) 7 (p1).toNatClampNeg))) (cwV 1 hts gX1_leave_X1_isWalker rfl rfl rfl (by decide +kernel) ⟨Nat.le_of_ble_eq_true rfl, Nat.le_of_ble_eq_true rfl⟩) (PW_preV (i := 0) (by decide) CC_0 rfl rfl hK hP) rfl rfl hl.1 rfl (lv_room (Nat.le_of_ble_eq_true rfl)) dX1_leave_62 ⟨Nat.zero_le _, Nat.zero_le _⟩) ?_
      refine lv_if_eq (tgt := 79) hx hb dX1_leave_65 (by decide) (fun c_65 => ?_) (fun c_65 => ?_)
      · refine lv_aload_n hx hb dX1_leave_79 rfl (lv_at hl 3 rfl) ?_
        refine q_getF (v := .ref (ad 1)) hx hb hts hin1 hown hK hP 0 (by decide) lk10 (fun _ h => h) rfl dX1_leave_80 ?_
        refine q_getS (v := .ref (ad 7)) hx hb hts hin0 hown hK hP 1 st_1 8 (by decide) lk71 (fun _ h => h) rfl dX1_leave_83 ?_
        refine lv_iload_n hx hb dX1_leave_86 rfl (lv_at hl 4 rfl) ?_
        refine lv_ldc (v := -100009) hx hb hown lk78 dX1_leave_87 ?_
        refine q_ist hx hb hK hI hP hS 7 8 (ar_7) dX1_leave_89 (by first | assumption | exact isCell_in (by assumption) | exact isWalker_in (by assumption) | exact isAboard_in (by assumption) | exact isPair_in1 (by assumption) | exact isPair_in2 (by assumption) | exact isWithin7_in (by assumption) | exact vp_in_nI (by omega) (by decide)) (fun H locs hP hS => ?_)
        have hP : WP D cI cS ad (sR ((xX1_remember R F o q).1) 7 ((p1).toNatClampNeg) (-100009 : Int32)) ((xX1_remember R F o q).2) H := hP
        refine lv_aload_n hx hb dX1_leave_90 rfl (lv_at hl 3 rfl) ?_
        refine q_getF (v := .ref (ad 1)) hx hb hts hin1 hown hK hP 0 (by decide) lk10 (fun _ h => h) rfl dX1_leave_91 ?_
        refine q_getS (v := .ref (ad 9)) hx hb hts hin0 hown hK hP 1 st_1 10 (by decide) lk89 (fun _ h => h) rfl dX1_leave_94 ?_
        refine lv_iload_n hx hb dX1_leave_97 rfl (lv_at hl 4 rfl) ?_
        refine lv_ldc (v := -100009) hx hb hown lk78 dX1_leave_98 ?_
        refine q_ist hx hb hK hI hP hS 9 8 (ar_9) dX1_leave_100 (by first | assumption | exact isCell_in (by assumption) | exact isWalker_in (by assumption) | exact isAboard_in (by assumption) | exact isPair_in1 (by assumption) | exact isPair_in2 (by assumption) | exact isWithin7_in (by assumption) | exact vp_in_nI (by omega) (by decide)) (fun H locs hP hS => ?_)
        have hP : WP D cI cS ad (sR (sR ((xX1_remember R F o q).1) 7 ((p1).toNatClampNeg) (-100009 : Int32)) 9 ((p1).toNatClampNeg) (-100009 : Int32)) ((xX1_remember R F o q).2) H := hP
        refine lv_iload_n hx hb dX1_leave_101 rfl (lv_at hl 2 rfl) ?_
        refine lv_iload_n hx hb dX1_leave_102 rfl (lv_at hl 1 rfl) ?_
        refine lv_icmp_ne (tgt := 110) hx hb dX1_leave_103 (by decide) (fun c_103 => ?_) (fun c_103 => ?_)
        · refine lv_iconst (v := 0) hx hb dX1_leave_110 (by decide) ?_
          have hX : (xX1_leave R F p1 o q) = ((0 : Int32), (sR (sR ((xX1_remember R F o q).1) 7 ((p1).toNatClampNeg) (-100009 : Int32)) 9 ((p1).toNatClampNeg) (-100009 : Int32)), ((xX1_remember R F o q).2)) := by unfold xX1_leave; rw [if_neg c_5, if_neg c_16, if_pos c_65, if_neg c_103]
          exact W.iret (v := (0 : Int32)) hx hb hr (fun t ht hW => ⟨by rw [hX], by rw [hX, ht]; with_reducible exact hP, hS.F ht⟩) hS.2.2 dX1_leave_111
        · refine lv_iconst (v := 1) hx hb dX1_leave_106 (by decide) ?_
          refine lv_goto (tgt := 111) hx hb dX1_leave_107 (by decide) ?_
          have hX : (xX1_leave R F p1 o q) = ((1 : Int32), (sR (sR ((xX1_remember R F o q).1) 7 ((p1).toNatClampNeg) (-100009 : Int32)) 9 ((p1).toNatClampNeg) (-100009 : Int32)), ((xX1_remember R F o q).2)) := by unfold xX1_leave; rw [if_neg c_5, if_neg c_16, if_pos c_65, if_pos c_103]
          exact W.iret (v := (1 : Int32)) hx hb hr (fun t ht hW => ⟨by rw [hX], by rw [hX, ht]; with_reducible exact hP, hS.F ht⟩) hS.2.2 dX1_leave_111
      · refine lv_aload_n hx hb dX1_leave_68 rfl (lv_at hl 3 rfl) ?_
        refine q_getF (v := .ref (ad 1)) hx hb hts hin1 hown hK hP 0 (by decide) lk10 (fun _ h => h) rfl dX1_leave_69 ?_
        refine q_getS (v := .ref (ad 9)) hx hb hts hin0 hown hK hP 1 st_1 10 (by decide) lk89 (fun _ h => h) rfl dX1_leave_72 ?_
        refine lv_iload hx hb dX1_leave_75 (lv_at hl 0 rfl) ?_
        refine lv_iload_n hx hb dX1_leave_77 rfl (lv_at hl 1 rfl) ?_
        refine q_ist hx hb hK hI hP hS 9 8 (ar_9) dX1_leave_78 (by first | assumption | exact isCell_in (by assumption) | exact isWalker_in (by assumption) | exact isAboard_in (by assumption) | exact isPair_in1 (by assumption) | exact isPair_in2 (by assumption) | exact isWithin7_in (by assumption) | exact vp_in_nI (by omega) (by decide)) (fun H locs hP hS => ?_)
        have hP : WP D cI cS ad (sR ((xX1_remember R F o q).1) 9 (((xX1_whoIsOn ((xX1_remember R F o q).1) ((xX1_remember R F o q).2) 9 (((xX1_remember R F o q).1) 7 (p1).toNatClampNeg))).toNatClampNeg) (((xX1_remember R F o q).1) 9 (p1).toNatClampNeg)) ((xX1_remember R F o q).2) H := hP
        refine lv_aload_n hx hb dX1_leave_79 rfl (lv_at hl 3 rfl) ?_
        refine q_getF (v := .ref (ad 1)) hx hb hts hin1 hown hK hP 0 (by decide) lk10 (fun _ h => h) rfl dX1_leave_80 ?_
        refine q_getS (v := .ref (ad 7)) hx hb hts hin0 hown hK hP 1 st_1 8 (by decide) lk71 (fun _ h => h) rfl dX1_leave_83 ?_
        refine lv_iload_n hx hb dX1_leave_86 rfl (lv_at hl 4 rfl) ?_
        refine lv_ldc (v := -100009) hx hb hown lk78 dX1_leave_87 ?_
        refine q_ist hx hb hK hI hP hS 7 8 (ar_7) dX1_leave_89 (by first | assumption | exact isCell_in (by assumption) | exact isWalker_in (by assumption) | exact isAboard_in (by assumption) | exact isPair_in1 (by assumption) | exact isPair_in2 (by assumption) | exact isWithin7_in (by assumption) | exact vp_in_nI (by omega) (by decide)) (fun H locs hP hS => ?_)
        have hP : WP D cI cS ad (sR (sR ((xX1_remember R F o q).1) 9 (((xX1_whoIsOn ((xX1_remember R F o q).1) ((xX1_remember R F o q).2) 9 (((xX1_remember R F o q).1) 7 (p1).toNatClampNeg))).toNatClampNeg) (((xX1_remember R F o q).1) 9 (p1).toNatClampNeg)) 7 ((p1).toNatClampNeg) (-100009 : Int32)) ((xX1_remember R F o q).2) H := hP
        refine lv_aload_n hx hb dX1_leave_90 rfl (lv_at hl 3 rfl) ?_
        refine q_getF (v := .ref (ad 1)) hx hb hts hin1 hown hK hP 0 (by decide) lk10 (fun _ h => h) rfl dX1_leave_91 ?_
        refine q_getS (v := .ref (ad 9)) hx hb hts hin0 hown hK hP 1 st_1 10 (by decide) lk89 (fun _ h => h) rfl dX1_leave_94 ?_
        refine lv_iload_n hx hb dX1_leave_97 rfl (lv_at hl 4 rfl) ?_
        refine lv_ldc (v := -100009) hx hb hown lk78 dX1_leave_98 ?_
        refine q_ist hx hb hK hI hP hS 9 8 (ar_9) dX1_leave_100 (by first | assumption | exact isCell_in (by assumption) | exact isWalker_in (by assumption) | exact isAboard_in (by assumption) | exact isPair_in1 (by assumption) | exact isPair_in2 (by assumption) | exact isWithin7_in (by assumption) | exact vp_in_nI (by omega) (by decide)) (fun H locs hP hS => ?_)
        have hP : WP D cI cS ad (sR (sR (sR ((xX1_remember R F o q).1) 9 (((xX1_whoIsOn ((xX1_remember R F o q).1) ((xX1_remember R F o q).2) 9 (((xX1_remember R F o q).1) 7 (p1).toNatClampNeg))).toNatClampNeg) (((xX1_remember R F o q).1) 9 (p1).toNatClampNeg)) 7 ((p1).toNatClampNeg) (-100009 : Int32)) 9 ((p1).toNatClampNeg) (-100009 : Int32)) ((xX1_remember R F o q).2) H := hP
        refine lv_iload_n hx hb dX1_leave_101 rfl (lv_at hl 2 rfl) ?_
        refine lv_iload_n hx hb dX1_leave_102 rfl (lv_at hl 1 rfl) ?_
        refine lv_icmp_ne (tgt := 110) hx hb dX1_leave_103 (by decide) (fun c_103 => ?_) (fun c_103 => ?_)
        · refine lv_iconst (v := 0) hx hb dX1_leave_110 (by decide) ?_
          have hX : (xX1_leave R F p1 o q) = ((0 : Int32), (sR (sR (sR ((xX1_remember R F o q).1) 9 (((xX1_whoIsOn ((xX1_remember R F o q).1) ((xX1_remember R F o q).2) 9 (((xX1_remember R F o q).1) 7 (p1).toNatClampNeg))).toNatClampNeg) (((xX1_remember R F o q).1) 9 (p1).toNatClampNeg)) 7 ((p1).toNatClampNeg) (-100009 : Int32)) 9 ((p1).toNatClampNeg) (-100009 : Int32)), ((xX1_remember R F o q).2)) := by unfold xX1_leave; rw [if_neg c_5, if_neg c_16, if_neg c_65, if_neg c_103]
          exact W.iret (v := (0 : Int32)) hx hb hr (fun t ht hW => ⟨by rw [hX], by rw [hX, ht]; with_reducible exact hP, hS.F ht⟩) hS.2.2 dX1_leave_111
        · refine lv_iconst (v := 1) hx hb dX1_leave_106 (by decide) ?_
          refine lv_goto (tgt := 111) hx hb dX1_leave_107 (by decide) ?_
          have hX : (xX1_leave R F p1 o q) = ((1 : Int32), (sR (sR (sR ((xX1_remember R F o q).1) 9 (((xX1_whoIsOn ((xX1_remember R F o q).1) ((xX1_remember R F o q).2) 9 (((xX1_remember R F o q).1) 7 (p1).toNatClampNeg))).toNatClampNeg) (((xX1_remember R F o q).1) 9 (p1).toNatClampNeg)) 7 ((p1).toNatClampNeg) (-100009 : Int32)) 9 ((p1).toNatClampNeg) (-100009 : Int32)), ((xX1_remember R F o q).2)) := by unfold xX1_leave; rw [if_neg c_5, if_neg c_16, if_neg c_65, if_pos c_103]
          exact W.iret (v := (1 : Int32)) hx hb hr (fun t ht hW => ⟨by rw [hX], by rw [hX, ht]; with_reducible exact hP, hS.F ht⟩) hS.2.2 dX1_leave_111
    · refine lv_ldc (v := -100002) hx hb hown lk55 dX1_leave_19 ?_
      have hX : (xX1_leave R F p1 o q) = ((-100002 : Int32), R, F) := by unfold xX1_leave; rw [if_neg c_5, if_pos c_16]
      exact W.iret (v := (-100002 : Int32)) hx hb hr (fun t ht hW => ⟨by rw [hX], by rw [hX, ht]; with_reducible exact hP, hS.F ht⟩) hS.2.2 dX1_leave_21
  · refine lv_ldc (v := -100001) hx hb hown lk45 dX1_leave_8 ?_
    have hX : (xX1_leave R F p1 o q) = ((-100001 : Int32), R, F) := by unfold xX1_leave; rw [if_pos c_5]
    exact W.iret (v := (-100001 : Int32)) hx hb hr (fun t ht hW => ⟨by rw [hX], by rw [hX, ht]; with_reducible exact hP, hS.F ht⟩) hS.2.2 dX1_leave_10

def xX1_setPrice (R F : Nat → Nat → Int32) (p1 : Int32) (o : Nat) (q : Nat) : Int32 × (Nat → Nat → Int32) × (Nat → Nat → Int32) :=
  (if (xX1_isWithin p1 (0 : Int32) (100 : Int32)) = (0 : Int32) then ((-100001 : Int32), R, F) else ((((xX1_remember R F o q).2) 1 1), ((xX1_remember R F o q).1), (sR ((xX1_remember R F o q).2) 1 1 p1)))
set_option maxHeartbeats 4000000 in
set_option maxRecDepth 100000 in
theorem mX1_setPrice (l : Launch) (D : va_G) (cI cS : ClassId) (ad : Nat → Nat) (hI : Inj ad) (R F : Nat → Nat → Int32) (p1 : Int32) (o : Nat) (q : Nat) (ho : o < 5) (hq : q ≤ 5) (hF0 : F 0 0 = nI o) (hF1 : F 0 1 = nI q) : Met l yX1_setPrice wsX1_setPrice ({ frames := 4, cells := 0, slots := 0, locals := 111 }) (PW D cI cS ad R F [.ref (ad 0), .int p1]) (QI D cI cS ad ((xX1_setPrice R F p1 o q).1) ((xX1_setPrice R F p1 o q).2.1) ((xX1_setPrice R F p1 o q).2.2)) 0 0 (AA ad) := by
  refine Met.ofW (cc := cX1_setPrice) (maxL := 3) (ret := (some .int)) (by decide) rfl ?_
  intro p e s m args below meth c s₁ B hml hv
  obtain ⟨rfl, hP, hK⟩ := hv
  have hx := B.exec
  have hb := B.bytes
  have hr := B.returns
  have hts := atoms_spec (ws := wsX1_setPrice) B.pre
  have hown : s.vm.findClass RX1 = some m.cls := findClass_of_methodNamed B.named
  have hlocks := B.notSynchronized
  have hS : va_S (AA ad) s.heap s.heap [] := va_S.rf
  have hl := lv_entry ([.ref (ad 0), .int p1]) (n := 3) (Nat.le_of_ble_eq_true rfl)
  rw [lg_entry_eq]
  generalize (lg_sl ([.ref (ad 0), .int p1]) ++ List.replicate (3 - (lg_sl ([.ref (ad 0), .int p1])).length) Slot.unset).toArray = ls at hl ⊢
  have hl : lv_has ls 3 [(0, .ref (ad 0)), (1, .int p1)] := hl
  have lk45 := hts (.constant RX1 45 (-100001)) (by decide +kernel)
  have lk10 := hts (.fieldLink RX1 10 "FerryFloor" "now" "LFerryFloor$State;") (by decide +kernel)
  have lk110 := hts (.fieldLink RX1 110 "FerryFloor$State" "price" "I") (by decide +kernel)
  have hin1 : ∀ w ∈ u_ws RX1 TX1 7, w ∈ wsX1_setPrice := by decide +kernel
  have hin0 : ∀ w ∈ u_ws RX0 TX0 15, w ∈ wsX1_setPrice := by decide +kernel
  refine lv_iload_n hx hb dX1_setPrice_0 rfl (lv_at hl 1 rfl) ?_
  refine lv_iconst (v := 0) hx hb dX1_setPrice_1 (by decide) ?_
  refine lv_bipush (v := 100) hx hb dX1_setPrice_2 (by decide) ?_
  refine q_callS (va_runS (As := [.int p1, .int (0 : Int32), .int (100 : Int32)]) (rest := []) ⟨hx, hb, hml, hown, hts⟩ (mX1_isWithin l D cI cS ad hI R F p1 (0 : Int32) (100 : Int32)) (va_cwS 3 hts gX1_setPrice_X1_isWithin rfl rfl rfl (by decide +kernel) ⟨Nat.le_of_ble_eq_true rfl, Nat.le_of_ble_eq_true rfl⟩) (PW_preS hK hP) rfl rfl hl.1 rfl (lv_room (Nat.le_of_ble_eq_true rfl)) dX1_setPrice_4 ⟨Nat.zero_le _, Nat.zero_le _⟩) ?_
  refine lv_if_ne (tgt := 13) hx hb dX1_setPrice_7 (by decide) (fun c_7 => ?_) (fun c_7 => ?_)
  · refine lv_aload_n hx hb dX1_setPrice_13 rfl (lv_at hl 0 rfl) ?_
    refine q_callV (va_runV (As := []) (rest := []) ⟨hx, hb, hml, hown, hts⟩ (mX1_remember l D cI cS ad hI R F o q ho hq hF0 hF1) (cwV 0 hts gX1_setPrice_X1_remember rfl rfl rfl (by decide +kernel) ⟨Nat.le_of_ble_eq_true rfl, Nat.le_of_ble_eq_true rfl⟩) (PW_preV (i := 0) (by decide) CC_0 rfl rfl hK hP) rfl rfl hl.1 rfl (lv_room (Nat.le_of_ble_eq_true rfl)) dX1_setPrice_14 ⟨Nat.zero_le _, Nat.zero_le _⟩) hS (fun H locs hP hS => ?_)
    refine lv_aload_n hx hb dX1_setPrice_17 rfl (lv_at hl 0 rfl) ?_
    refine q_getF (v := .ref (ad 1)) hx hb hts hin1 hown hK hP 0 (by decide) lk10 (fun _ h => h) rfl dX1_setPrice_18 ?_
    refine q_getS (v := .int (((xX1_remember R F o q).2) 1 1)) hx hb hts hin0 hown hK hP 1 st_1 1 (by decide) lk110 (fun _ h => h) rfl dX1_setPrice_21 ?_
    refine lv_istore_n (lv' := [(2, .int (((xX1_remember R F o q).2) 1 1)), (0, .ref (ad 0)), (1, .int p1)]) hx hb dX1_setPrice_24 rfl hl (by decide) rfl (fun ls hl => ?_)
    refine lv_aload_n hx hb dX1_setPrice_25 rfl (lv_at hl 1 rfl) ?_
    refine q_getF (v := .ref (ad 1)) hx hb hts hin1 hown hK hP 0 (by decide) lk10 (fun _ h => h) rfl dX1_setPrice_26 ?_
    refine lv_iload_n hx hb dX1_setPrice_29 rfl (lv_at hl 2 rfl) ?_
    refine q_putS hx hb hts hin0 hown hK hI hP hS 1 st_1 1 (by decide) lk110 (fun _ h => h) dX1_setPrice_30 (fun H locs hP hS => ?_)
    have hP : WP D cI cS ad ((xX1_remember R F o q).1) (sR ((xX1_remember R F o q).2) 1 1 p1) H := hP
    refine lv_iload_n hx hb dX1_setPrice_33 rfl (lv_at hl 0 rfl) ?_
    have hX : (xX1_setPrice R F p1 o q) = ((((xX1_remember R F o q).2) 1 1), ((xX1_remember R F o q).1), (sR ((xX1_remember R F o q).2) 1 1 p1)) := by unfold xX1_setPrice; rw [if_neg c_7]
    exact W.iret (v := (((xX1_remember R F o q).2) 1 1)) hx hb hr (fun t ht hW => ⟨by rw [hX], by rw [hX, ht]; with_reducible exact hP, hS.F ht⟩) hS.2.2 dX1_setPrice_34
  · refine lv_ldc (v := -100001) hx hb hown lk45 dX1_setPrice_10 ?_
    have hX : (xX1_setPrice R F p1 o q) = ((-100001 : Int32), R, F) := by unfold xX1_setPrice; rw [if_pos c_7]
    exact W.iret (v := (-100001 : Int32)) hx hb hr (fun t ht hW => ⟨by rw [hX], by rw [hX, ht]; with_reducible exact hP, hS.F ht⟩) hS.2.2 dX1_setPrice_12

def xX1_accuse (R F : Nat → Nat → Int32) (p1 : Int32) (p2 : Int32) (o : Nat) (q : Nat) : Int32 × (Nat → Nat → Int32) × (Nat → Nat → Int32) :=
  (if (xX1_isPair R F p1 p2) = (0 : Int32) then ((-100001 : Int32), R, F) else (if (xX1_isAboard R F p1) = (0 : Int32) then ((-100002 : Int32), R, F) else (if (xX1_isAboard R F p2) = (0 : Int32) then ((-100002 : Int32), R, F) else (((xX1_errorWith (sR (sR (xX1_exchange ((xX1_remember R F o q).1) ((xX1_remember R F o q).2) 9 p1 p2) 10 ((p1).toNatClampNeg) (((xX1_exchange ((xX1_remember R F o q).1) ((xX1_remember R F o q).2) 9 p1 p2) 10 (p1).toNatClampNeg) + (1 : Int32))) 10 ((p2).toNatClampNeg) (((sR (xX1_exchange ((xX1_remember R F o q).1) ((xX1_remember R F o q).2) 9 p1 p2) 10 ((p1).toNatClampNeg) (((xX1_exchange ((xX1_remember R F o q).1) ((xX1_remember R F o q).2) 9 p1 p2) 10 (p1).toNatClampNeg) + (1 : Int32))) 10 (p2).toNatClampNeg) + (1 : Int32))) ((xX1_remember R F o q).2) 9).1), ((xX1_errorWith (sR (sR (xX1_exchange ((xX1_remember R F o q).1) ((xX1_remember R F o q).2) 9 p1 p2) 10 ((p1).toNatClampNeg) (((xX1_exchange ((xX1_remember R F o q).1) ((xX1_remember R F o q).2) 9 p1 p2) 10 (p1).toNatClampNeg) + (1 : Int32))) 10 ((p2).toNatClampNeg) (((sR (xX1_exchange ((xX1_remember R F o q).1) ((xX1_remember R F o q).2) 9 p1 p2) 10 ((p1).toNatClampNeg) (((xX1_exchange ((xX1_remember R F o q).1) ((xX1_remember R F o q).2) 9 p1 p2) 10 (p1).toNatClampNeg) + (1 : Int32))) 10 (p2).toNatClampNeg) + (1 : Int32))) ((xX1_remember R F o q).2) 9).2), ((xX1_remember R F o q).2)))))
set_option maxHeartbeats 4000000 in
set_option maxRecDepth 100000 in
theorem mX1_accuse (l : Launch) (D : va_G) (cI cS : ClassId) (ad : Nat → Nat) (hI : Inj ad) (R F : Nat → Nat → Int32) (p1 : Int32) (p2 : Int32) (o : Nat) (q : Nat) (ho : o < 5) (hq : q ≤ 5) (hF0 : F 0 0 = nI o) (hF1 : F 0 1 = nI q) : Met l yX1_accuse wsX1_accuse ({ frames := 5, cells := 0, slots := 0, locals := 115 }) (PW D cI cS ad R F [.ref (ad 0), .int p1, .int p2]) (QI D cI cS ad ((xX1_accuse R F p1 p2 o q).1) ((xX1_accuse R F p1 p2 o q).2.1) ((xX1_accuse R F p1 p2 o q).2.2)) 0 0 (AA ad) := by
  refine Met.ofW (cc := cX1_accuse) (maxL := 3) (ret := (some .int)) (by decide) rfl ?_
  intro p e s m args below meth c s₁ B hml hv
  obtain ⟨rfl, hP, hK⟩ := hv
  have hx := B.exec
  have hb := B.bytes
  have hr := B.returns
  have hts := atoms_spec (ws := wsX1_accuse) B.pre
  have hown : s.vm.findClass RX1 = some m.cls := findClass_of_methodNamed B.named
  have hlocks := B.notSynchronized
  have hS : va_S (AA ad) s.heap s.heap [] := va_S.rf
  have hl := lv_entry ([.ref (ad 0), .int p1, .int p2]) (n := 3) (Nat.le_of_ble_eq_true rfl)
  rw [lg_entry_eq]
  generalize (lg_sl ([.ref (ad 0), .int p1, .int p2]) ++ List.replicate (3 - (lg_sl ([.ref (ad 0), .int p1, .int p2])).length) Slot.unset).toArray = ls at hl ⊢
  have hl : lv_has ls 3 [(0, .ref (ad 0)), (1, .int p1), (2, .int p2)] := hl
  have lk45 := hts (.constant RX1 45 (-100001)) (by decide +kernel)
  have lk55 := hts (.constant RX1 55 (-100002)) (by decide +kernel)
  have lk10 := hts (.fieldLink RX1 10 "FerryFloor" "now" "LFerryFloor$State;") (by decide +kernel)
  have lk89 := hts (.fieldLink RX1 89 "FerryFloor$State" "bookPlaces" "[I") (by decide +kernel)
  have lk113 := hts (.fieldLink RX1 113 "FerryFloor$State" "accusations" "[I") (by decide +kernel)
  have hin1 : ∀ w ∈ u_ws RX1 TX1 7, w ∈ wsX1_accuse := by decide +kernel
  have hin0 : ∀ w ∈ u_ws RX0 TX0 15, w ∈ wsX1_accuse := by decide +kernel
  refine lv_aload_n hx hb dX1_accuse_0 rfl (lv_at hl 0 rfl) ?_
  refine lv_iload_n hx hb dX1_accuse_1 rfl (lv_at hl 1 rfl) ?_
  refine lv_iload_n hx hb dX1_accuse_2 rfl (lv_at hl 2 rfl) ?_
  refine q_callS (va_runV (As := [.int p1, .int p2]) (rest := []) ⟨hx, hb, hml, hown, hts⟩ (mX1_isPair l D cI cS ad hI R F p1 p2) (cwV 2 hts gX1_accuse_X1_isPair rfl rfl rfl (by decide +kernel) ⟨Nat.le_of_ble_eq_true rfl, Nat.le_of_ble_eq_true rfl⟩) (PW_preV (i := 0) (by decide) CC_0 rfl rfl hK hP) rfl rfl hl.1 rfl (lv_room (Nat.le_of_ble_eq_true rfl)) dX1_accuse_3 ⟨Nat.zero_le _, Nat.zero_le _⟩) ?_
  refine lv_if_ne (tgt := 12) hx hb dX1_accuse_6 (by decide) (fun c_6 => ?_) (fun c_6 => ?_)
  · refine lv_aload_n hx hb dX1_accuse_12 rfl (lv_at hl 0 rfl) ?_
    refine lv_iload_n hx hb dX1_accuse_13 rfl (lv_at hl 1 rfl) ?_
    refine q_callS (va_runV (As := [.int p1]) (rest := []) ⟨hx, hb, hml, hown, hts⟩ (mX1_isAboard l D cI cS ad hI R F p1) (cwV 1 hts gX1_accuse_X1_isAboard rfl rfl rfl (by decide +kernel) ⟨Nat.le_of_ble_eq_true rfl, Nat.le_of_ble_eq_true rfl⟩) (PW_preV (i := 0) (by decide) CC_0 rfl rfl hK hP) rfl rfl hl.1 rfl (lv_room (Nat.le_of_ble_eq_true rfl)) dX1_accuse_14 ⟨Nat.zero_le _, Nat.zero_le _⟩) ?_
    refine lv_if_eq (tgt := 28) hx hb dX1_accuse_17 (by decide) (fun c_17 => ?_) (fun c_17 => ?_)
    · refine lv_ldc (v := -100002) hx hb hown lk55 dX1_accuse_28 ?_
      have hX : (xX1_accuse R F p1 p2 o q) = ((-100002 : Int32), R, F) := by unfold xX1_accuse; rw [if_neg c_6, if_pos c_17]
      exact W.iret (v := (-100002 : Int32)) hx hb hr (fun t ht hW => ⟨by rw [hX], by rw [hX, ht]; with_reducible exact hP, hS.F ht⟩) hS.2.2 dX1_accuse_30
    · refine lv_aload_n hx hb dX1_accuse_20 rfl (lv_at hl 0 rfl) ?_
      refine lv_iload_n hx hb dX1_accuse_21 rfl (lv_at hl 2 rfl) ?_
      refine q_callS (va_runV (As := [.int p2]) (rest := []) ⟨hx, hb, hml, hown, hts⟩ (mX1_isAboard l D cI cS ad hI R F p2) (cwV 1 hts gX1_accuse_X1_isAboard rfl rfl rfl (by decide +kernel) ⟨Nat.le_of_ble_eq_true rfl, Nat.le_of_ble_eq_true rfl⟩) (PW_preV (i := 0) (by decide) CC_0 rfl rfl hK hP) rfl rfl hl.1 rfl (lv_room (Nat.le_of_ble_eq_true rfl)) dX1_accuse_22 ⟨Nat.zero_le _, Nat.zero_le _⟩) ?_
      refine lv_if_ne (tgt := 31) hx hb dX1_accuse_25 (by decide) (fun c_25 => ?_) (fun c_25 => ?_)
      · refine lv_aload_n hx hb dX1_accuse_31 rfl (lv_at hl 0 rfl) ?_
        refine q_callV (va_runV (As := []) (rest := []) ⟨hx, hb, hml, hown, hts⟩ (mX1_remember l D cI cS ad hI R F o q ho hq hF0 hF1) (cwV 0 hts gX1_accuse_X1_remember rfl rfl rfl (by decide +kernel) ⟨Nat.le_of_ble_eq_true rfl, Nat.le_of_ble_eq_true rfl⟩) (PW_preV (i := 0) (by decide) CC_0 rfl rfl hK hP) rfl rfl hl.1 rfl (lv_room (Nat.le_of_ble_eq_true rfl)) dX1_accuse_32 ⟨Nat.zero_le _, Nat.zero_le _⟩) hS (fun H locs hP hS => ?_)
        refine lv_aload_n hx hb dX1_accuse_35 rfl (lv_at hl 0 rfl) ?_
        refine q_getF (v := .ref (ad 1)) hx hb hts hin1 hown hK hP 0 (by decide) lk10 (fun _ h => h) rfl dX1_accuse_36 ?_
        refine q_getS (v := .ref (ad 9)) hx hb hts hin0 hown hK hP 1 st_1 10 (by decide) lk89 (fun _ h => h) rfl dX1_accuse_39 ?_
        refine lv_iload_n hx hb dX1_accuse_42 rfl (lv_at hl 1 rfl) ?_
        refine lv_iload_n hx hb dX1_accuse_43 rfl (lv_at hl 2 rfl) ?_
        refine q_callV (va_runS (As := [.ref (ad 9), .int p1, .int p2]) (rest := []) ⟨hx, hb, hml, hown, hts⟩ (mX1_exchange l D cI cS ad hI ((xX1_remember R F o q).1) ((xX1_remember R F o q).2) 9 p1 p2 (ar_9) (by first | assumption | exact isCell_in (by assumption) | exact isWalker_in (by assumption) | exact isAboard_in (by assumption) | exact isPair_in1 (by assumption) | exact isPair_in2 (by assumption) | exact isWithin7_in (by assumption) | exact vp_in_nI (by omega) (by decide)) (by first | assumption | exact isCell_in (by assumption) | exact isWalker_in (by assumption) | exact isAboard_in (by assumption) | exact isPair_in1 (by assumption) | exact isPair_in2 (by assumption) | exact isWithin7_in (by assumption) | exact vp_in_nI (by omega) (by decide))) (va_cwS 3 hts gX1_accuse_X1_exchange rfl rfl rfl (by decide +kernel) ⟨Nat.le_of_ble_eq_true rfl, Nat.le_of_ble_eq_true rfl⟩) (PW_preS hK hP) rfl rfl hl.1 rfl (lv_room (Nat.le_of_ble_eq_true rfl)) dX1_accuse_44 ⟨Nat.zero_le _, Nat.zero_le _⟩) hS (fun H locs hP hS => ?_)
        refine lv_aload_n hx hb dX1_accuse_47 rfl (lv_at hl 0 rfl) ?_
        refine q_getF (v := .ref (ad 1)) hx hb hts hin1 hown hK hP 0 (by decide) lk10 (fun _ h => h) rfl dX1_accuse_48 ?_
        refine q_getS (v := .ref (ad 10)) hx hb hts hin0 hown hK hP 1 st_1 11 (by decide) lk113 (fun _ h => h) rfl dX1_accuse_51 ?_
        refine lv_iload_n hx hb dX1_accuse_54 rfl (lv_at hl 1 rfl) ?_
        refine lv_dup2_11 hx hb dX1_accuse_55 rfl rfl ?_
        refine q_ild hx hb hK hP 10 8 (ar_10) dX1_accuse_56 (by first | assumption | exact isCell_in (by assumption) | exact isWalker_in (by assumption) | exact isAboard_in (by assumption) | exact isPair_in1 (by assumption) | exact isPair_in2 (by assumption) | exact isWithin7_in (by assumption) | exact vp_in_nI (by omega) (by decide)) ?_
        refine lv_iconst (v := 1) hx hb dX1_accuse_57 (by decide) ?_
        refine lv_iadd hx hb dX1_accuse_58 ?_
        refine q_ist hx hb hK hI hP hS 10 8 (ar_10) dX1_accuse_59 (by first | assumption | exact isCell_in (by assumption) | exact isWalker_in (by assumption) | exact isAboard_in (by assumption) | exact isPair_in1 (by assumption) | exact isPair_in2 (by assumption) | exact isWithin7_in (by assumption) | exact vp_in_nI (by omega) (by decide)) (fun H locs hP hS => ?_)
        have hP : WP D cI cS ad (sR (xX1_exchange ((xX1_remember R F o q).1) ((xX1_remember R F o q).2) 9 p1 p2) 10 ((p1).toNatClampNeg) (((xX1_exchange ((xX1_remember R F o q).1) ((xX1_remember R F o q).2) 9 p1 p2) 10 (p1).toNatClampNeg) + (1 : Int32))) ((xX1_remember R F o q).2) H := hP
        refine lv_aload_n hx hb dX1_accuse_60 rfl (lv_at hl 0 rfl) ?_
        refine q_getF (v := .ref (ad 1)) hx hb hts hin1 hown hK hP 0 (by decide) lk10 (fun _ h => h) rfl dX1_accuse_61 ?_
        refine q_getS (v := .ref (ad 10)) hx hb hts hin0 hown hK hP 1 st_1 11 (by decide) lk113 (fun _ h => h) rfl dX1_accuse_64 ?_
        refine lv_iload_n hx hb dX1_accuse_67 rfl (lv_at hl 2 rfl) ?_
        refine lv_dup2_11 hx hb dX1_accuse_68 rfl rfl ?_
        refine q_ild hx hb hK hP 10 8 (ar_10) dX1_accuse_69 (by first | assumption | exact isCell_in (by assumption) | exact isWalker_in (by assumption) | exact isAboard_in (by assumption) | exact isPair_in1 (by assumption) | exact isPair_in2 (by assumption) | exact isWithin7_in (by assumption) | exact vp_in_nI (by omega) (by decide)) ?_
        refine lv_iconst (v := 1) hx hb dX1_accuse_70 (by decide) ?_
        refine lv_iadd hx hb dX1_accuse_71 ?_
        refine q_ist hx hb hK hI hP hS 10 8 (ar_10) dX1_accuse_72 (by first | assumption | exact isCell_in (by assumption) | exact isWalker_in (by assumption) | exact isAboard_in (by assumption) | exact isPair_in1 (by assumption) | exact isPair_in2 (by assumption) | exact isWithin7_in (by assumption) | exact vp_in_nI (by omega) (by decide)) (fun H locs hP hS => ?_)
        have hP : WP D cI cS ad (sR (sR (xX1_exchange ((xX1_remember R F o q).1) ((xX1_remember R F o q).2) 9 p1 p2) 10 ((p1).toNatClampNeg) (((xX1_exchange ((xX1_remember R F o q).1) ((xX1_remember R F o q).2) 9 p1 p2) 10 (p1).toNatClampNeg) + (1 : Int32))) 10 ((p2).toNatClampNeg) (((sR (xX1_exchange ((xX1_remember R F o q).1) ((xX1_remember R F o q).2) 9 p1 p2) 10 ((p1).toNatClampNeg) (((xX1_exchange ((xX1_remember R F o q).1) ((xX1_remember R F o q).2) 9 p1 p2) 10 (p1).toNatClampNeg) + (1 : Int32))) 10 (p2).toNatClampNeg) + (1 : Int32))) ((xX1_remember R F o q).2) H := hP
        refine lv_aload_n hx hb dX1_accuse_73 rfl (lv_at hl 0 rfl) ?_
        refine lv_aload_n hx hb dX1_accuse_74 rfl (lv_at hl 0 rfl) ?_
        refine q_getF (v := .ref (ad 1)) hx hb hts hin1 hown hK hP 0 (by decide) lk10 (fun _ h => h) rfl dX1_accuse_75 ?_
        refine q_getS (v := .ref (ad 9)) hx hb hts hin0 hown hK hP 1 st_1 10 (by decide) lk89 (fun _ h => h) rfl dX1_accuse_78 ?_
        refine q_callI (va_runV (As := [.ref (ad 9)]) (rest := []) ⟨hx, hb, hml, hown, hts⟩ (mX1_errorWith l D cI cS ad hI (sR (sR (xX1_exchange ((xX1_remember R F o q).1) ((xX1_remember R F o q).2) 9 p1 p2) 10 ((p1).toNatClampNeg) (((xX1_exchange ((xX1_remember R F o q).1) ((xX1_remember R F o q).2) 9 p1 p2) 10 (p1).toNatClampNeg) + (1 : Int32))) 10 ((p2).toNatClampNeg) (((sR (xX1_exchange ((xX1_remember R F o q).1) ((xX1_remember R F o q).2) 9 p1 p2) 10 ((p1).toNatClampNeg) (((xX1_exchange ((xX1_remember R F o q).1) ((xX1_remember R F o q).2) 9 p1 p2) 10 (p1).toNatClampNeg) + (1 : Int32))) 10 (p2).toNatClampNeg) + (1 : Int32))) ((xX1_remember R F o q).2) 9 (ar_9)) (cwV 1 hts gX1_accuse_X1_errorWith rfl rfl rfl (by decide +kernel) ⟨Nat.le_of_ble_eq_true rfl, Nat.le_of_ble_eq_true rfl⟩) (PW_preV (i := 0) (by decide) CC_0 rfl rfl hK hP) rfl rfl hl.1 rfl (lv_room (Nat.le_of_ble_eq_true rfl)) dX1_accuse_81 ⟨Nat.zero_le _, Nat.zero_le _⟩) hS (fun H locs hP hS => ?_)
        have hX : (xX1_accuse R F p1 p2 o q) = (((xX1_errorWith (sR (sR (xX1_exchange ((xX1_remember R F o q).1) ((xX1_remember R F o q).2) 9 p1 p2) 10 ((p1).toNatClampNeg) (((xX1_exchange ((xX1_remember R F o q).1) ((xX1_remember R F o q).2) 9 p1 p2) 10 (p1).toNatClampNeg) + (1 : Int32))) 10 ((p2).toNatClampNeg) (((sR (xX1_exchange ((xX1_remember R F o q).1) ((xX1_remember R F o q).2) 9 p1 p2) 10 ((p1).toNatClampNeg) (((xX1_exchange ((xX1_remember R F o q).1) ((xX1_remember R F o q).2) 9 p1 p2) 10 (p1).toNatClampNeg) + (1 : Int32))) 10 (p2).toNatClampNeg) + (1 : Int32))) ((xX1_remember R F o q).2) 9).1), ((xX1_errorWith (sR (sR (xX1_exchange ((xX1_remember R F o q).1) ((xX1_remember R F o q).2) 9 p1 p2) 10 ((p1).toNatClampNeg) (((xX1_exchange ((xX1_remember R F o q).1) ((xX1_remember R F o q).2) 9 p1 p2) 10 (p1).toNatClampNeg) + (1 : Int32))) 10 ((p2).toNatClampNeg) (((sR (xX1_exchange ((xX1_remember R F o q).1) ((xX1_remember R F o q).2) 9 p1 p2) 10 ((p1).toNatClampNeg) (((xX1_exchange ((xX1_remember R F o q).1) ((xX1_remember R F o q).2) 9 p1 p2) 10 (p1).toNatClampNeg) + (1 : Int32))) 10 (p2).toNatClampNeg) + (1 : Int32))) ((xX1_remember R F o q).2) 9).2), ((xX1_remember R F o q).2)) := by unfold xX1_accuse; rw [if_neg c_6, if_neg c_17, if_neg c_25]
        exact W.iret (v := ((xX1_errorWith (sR (sR (xX1_exchange ((xX1_remember R F o q).1) ((xX1_remember R F o q).2) 9 p1 p2) 10 ((p1).toNatClampNeg) (((xX1_exchange ((xX1_remember R F o q).1) ((xX1_remember R F o q).2) 9 p1 p2) 10 (p1).toNatClampNeg) + (1 : Int32))) 10 ((p2).toNatClampNeg) (((sR (xX1_exchange ((xX1_remember R F o q).1) ((xX1_remember R F o q).2) 9 p1 p2) 10 ((p1).toNatClampNeg) (((xX1_exchange ((xX1_remember R F o q).1) ((xX1_remember R F o q).2) 9 p1 p2) 10 (p1).toNatClampNeg) + (1 : Int32))) 10 (p2).toNatClampNeg) + (1 : Int32))) ((xX1_remember R F o q).2) 9).1)) hx hb hr (fun t ht hW => ⟨by rw [hX], by rw [hX, ht]; with_reducible exact hP, hS.F ht⟩) hS.2.2 dX1_accuse_84
      · refine lv_ldc (v := -100002) hx hb hown lk55 dX1_accuse_28 ?_
        have hX : (xX1_accuse R F p1 p2 o q) = ((-100002 : Int32), R, F) := by unfold xX1_accuse; rw [if_neg c_6, if_neg c_17, if_pos c_25]
        exact W.iret (v := (-100002 : Int32)) hx hb hr (fun t ht hW => ⟨by rw [hX], by rw [hX, ht]; with_reducible exact hP, hS.F ht⟩) hS.2.2 dX1_accuse_30
  · refine lv_ldc (v := -100001) hx hb hown lk45 dX1_accuse_9 ?_
    have hX : (xX1_accuse R F p1 p2 o q) = ((-100001 : Int32), R, F) := by unfold xX1_accuse; rw [if_pos c_6]
    exact W.iret (v := (-100001 : Int32)) hx hb hr (fun t ht hW => ⟨by rw [hX], by rw [hX, ht]; with_reducible exact hP, hS.F ht⟩) hS.2.2 dX1_accuse_11

def xX1_bill (R F : Nat → Nat → Int32) (p1 : Int32) (o : Nat) (q : Nat) : Int32 × (Nat → Nat → Int32) × (Nat → Nat → Int32) :=
  (if (xX1_isWalker R F p1) = (0 : Int32) then ((-100001 : Int32), R, F) else (if (xX1_isAboard R F p1) = (0 : Int32) then ((-100002 : Int32), R, F) else (if (R 11 (p1).toNatClampNeg) = (-100009 : Int32) then (if ((xX1_kilogramsToBill ((xX1_remember R F o q).1) ((xX1_remember R F o q).2) p1).1) < (20 : Int32) then (((xX1_kilogramsToBill ((xX1_remember R F o q).1) ((xX1_remember R F o q).2) p1).1), (sR (sR ((xX1_kilogramsToBill ((xX1_remember R F o q).1) ((xX1_remember R F o q).2) p1).2) 11 ((p1).toNatClampNeg) ((xX1_kilogramsToBill ((xX1_remember R F o q).1) ((xX1_remember R F o q).2) p1).1)) 12 ((p1).toNatClampNeg) (((xX1_remember R F o q).2) 1 1)), ((xX1_remember R F o q).2)) else (((xX1_kilogramsToBill ((xX1_remember R F o q).1) ((xX1_remember R F o q).2) p1).1), (sR (sR (sR ((xX1_kilogramsToBill ((xX1_remember R F o q).1) ((xX1_remember R F o q).2) p1).2) 11 ((p1).toNatClampNeg) ((xX1_kilogramsToBill ((xX1_remember R F o q).1) ((xX1_remember R F o q).2) p1).1)) 12 ((p1).toNatClampNeg) (((xX1_remember R F o q).2) 1 1)) 8 ((p1).toNatClampNeg) ((xX1_kilogramsToBill ((xX1_remember R F o q).1) ((xX1_remember R F o q).2) p1).1)), ((xX1_remember R F o q).2))) else ((-100002 : Int32), R, F))))
set_option maxHeartbeats 4000000 in
set_option maxRecDepth 100000 in
theorem mX1_bill (l : Launch) (D : va_G) (cI cS : ClassId) (ad : Nat → Nat) (hI : Inj ad) (R F : Nat → Nat → Int32) (p1 : Int32) (o : Nat) (q : Nat) (ho : o < 5) (hq : q ≤ 5) (hF0 : F 0 0 = nI o) (hF1 : F 0 1 = nI q) : Met l yX1_bill wsX1_bill ({ frames := 6, cells := 0, slots := 0, locals := 140 }) (PW D cI cS ad R F [.ref (ad 0), .int p1]) (QI D cI cS ad ((xX1_bill R F p1 o q).1) ((xX1_bill R F p1 o q).2.1) ((xX1_bill R F p1 o q).2.2)) 0 0 (AA ad) := by
  refine Met.ofW (cc := cX1_bill) (maxL := 3) (ret := (some .int)) (by decide) rfl ?_
  intro p e s m args below meth c s₁ B hml hv
  obtain ⟨rfl, hP, hK⟩ := hv
  have hx := B.exec
  have hb := B.bytes
  have hr := B.returns
  have hts := atoms_spec (ws := wsX1_bill) B.pre
  have hown : s.vm.findClass RX1 = some m.cls := findClass_of_methodNamed B.named
  have hlocks := B.notSynchronized
  have hS : va_S (AA ad) s.heap s.heap [] := va_S.rf
  have hl := lv_entry ([.ref (ad 0), .int p1]) (n := 3) (Nat.le_of_ble_eq_true rfl)
  rw [lg_entry_eq]
  generalize (lg_sl ([.ref (ad 0), .int p1]) ++ List.replicate (3 - (lg_sl ([.ref (ad 0), .int p1])).length) Slot.unset).toArray = ls at hl ⊢
  have hl : lv_has ls 3 [(0, .ref (ad 0)), (1, .int p1)] := hl
  have lk45 := hts (.constant RX1 45 (-100001)) (by decide +kernel)
  have lk10 := hts (.fieldLink RX1 10 "FerryFloor" "now" "LFerryFloor$State;") (by decide +kernel)
  have lk116 := hts (.fieldLink RX1 116 "FerryFloor$State" "billKilograms" "[I") (by decide +kernel)
  have lk78 := hts (.constant RX1 78 (-100009)) (by decide +kernel)
  have lk55 := hts (.constant RX1 55 (-100002)) (by decide +kernel)
  have lk123 := hts (.fieldLink RX1 123 "FerryFloor$State" "billPrices" "[I") (by decide +kernel)
  have lk110 := hts (.fieldLink RX1 110 "FerryFloor$State" "price" "I") (by decide +kernel)
  have lk86 := hts (.fieldLink RX1 86 "FerryFloor$State" "bookWeights" "[I") (by decide +kernel)
  have hin1 : ∀ w ∈ u_ws RX1 TX1 7, w ∈ wsX1_bill := by decide +kernel
  have hin0 : ∀ w ∈ u_ws RX0 TX0 15, w ∈ wsX1_bill := by decide +kernel
  refine lv_aload_n hx hb dX1_bill_0 rfl (lv_at hl 0 rfl) ?_
  refine lv_iload_n hx hb dX1_bill_1 rfl (lv_at hl 1 rfl) ?_
  refine q_callS (va_runV (As := [.int p1]) (rest := []) ⟨hx, hb, hml, hown, hts⟩ (mX1_isWalker l D cI cS ad hI R F p1) (cwV 1 hts gX1_bill_X1_isWalker rfl rfl rfl (by decide +kernel) ⟨Nat.le_of_ble_eq_true rfl, Nat.le_of_ble_eq_true rfl⟩) (PW_preV (i := 0) (by decide) CC_0 rfl rfl hK hP) rfl rfl hl.1 rfl (lv_room (Nat.le_of_ble_eq_true rfl)) dX1_bill_2 ⟨Nat.zero_le _, Nat.zero_le _⟩) ?_
  refine lv_if_ne (tgt := 11) hx hb dX1_bill_5 (by decide) (fun c_5 => ?_) (fun c_5 => ?_)
  · refine lv_aload_n hx hb dX1_bill_11 rfl (lv_at hl 0 rfl) ?_
    refine lv_iload_n hx hb dX1_bill_12 rfl (lv_at hl 1 rfl) ?_
    refine q_callS (va_runV (As := [.int p1]) (rest := []) ⟨hx, hb, hml, hown, hts⟩ (mX1_isAboard l D cI cS ad hI R F p1) (cwV 1 hts gX1_bill_X1_isAboard rfl rfl rfl (by decide +kernel) ⟨Nat.le_of_ble_eq_true rfl, Nat.le_of_ble_eq_true rfl⟩) (PW_preV (i := 0) (by decide) CC_0 rfl rfl hK hP) rfl rfl hl.1 rfl (lv_room (Nat.le_of_ble_eq_true rfl)) dX1_bill_13 ⟨Nat.zero_le _, Nat.zero_le _⟩) ?_
    refine lv_if_eq (tgt := 33) hx hb dX1_bill_16 (by decide) (fun c_16 => ?_) (fun c_16 => ?_)
    · refine lv_ldc (v := -100002) hx hb hown lk55 dX1_bill_33 ?_
      have hX : (xX1_bill R F p1 o q) = ((-100002 : Int32), R, F) := by unfold xX1_bill; rw [if_neg c_5, if_pos c_16]
      exact W.iret (v := (-100002 : Int32)) hx hb hr (fun t ht hW => ⟨by rw [hX], by rw [hX, ht]; with_reducible exact hP, hS.F ht⟩) hS.2.2 dX1_bill_35
    · refine lv_aload_n hx hb dX1_bill_19 rfl (lv_at hl 0 rfl) ?_
      refine q_getF (v := .ref (ad 1)) hx hb hts hin1 hown hK hP 0 (by decide) lk10 (fun _ h => h) rfl dX1_bill_20 ?_
      refine q_getS (v := .ref (ad 11)) hx hb hts hin0 hown hK hP 1 st_1 12 (by decide) lk116 (fun _ h => h) rfl dX1_bill_23 ?_
      refine lv_iload_n hx hb dX1_bill_26 rfl (lv_at hl 1 rfl) ?_
      refine q_ild hx hb hK hP 11 8 (ar_11) dX1_bill_27 (by first | assumption | exact isCell_in (by assumption) | exact isWalker_in (by assumption) | exact isAboard_in (by assumption) | exact isPair_in1 (by assumption) | exact isPair_in2 (by assumption) | exact isWithin7_in (by assumption) | exact vp_in_nI (by omega) (by decide)) ?_
      refine lv_ldc (v := -100009) hx hb hown lk78 dX1_bill_28 ?_
      refine lv_icmp_eq (tgt := 36) hx hb dX1_bill_30 (by decide) (fun c_30 => ?_) (fun c_30 => ?_)
      · refine lv_aload_n hx hb dX1_bill_36 rfl (lv_at hl 0 rfl) ?_
        refine q_callV (va_runV (As := []) (rest := []) ⟨hx, hb, hml, hown, hts⟩ (mX1_remember l D cI cS ad hI R F o q ho hq hF0 hF1) (cwV 0 hts gX1_bill_X1_remember rfl rfl rfl (by decide +kernel) ⟨Nat.le_of_ble_eq_true rfl, Nat.le_of_ble_eq_true rfl⟩) (PW_preV (i := 0) (by decide) CC_0 rfl rfl hK hP) rfl rfl hl.1 rfl (lv_room (Nat.le_of_ble_eq_true rfl)) dX1_bill_37 ⟨Nat.zero_le _, Nat.zero_le _⟩) hS (fun H locs hP hS => ?_)
        refine lv_aload_n hx hb dX1_bill_40 rfl (lv_at hl 0 rfl) ?_
        refine lv_iload_n hx hb dX1_bill_41 rfl (lv_at hl 1 rfl) ?_
        refine q_callI (va_runV (As := [.int p1]) (rest := []) ⟨hx, hb, hml, hown, hts⟩ (mX1_kilogramsToBill l D cI cS ad hI ((xX1_remember R F o q).1) ((xX1_remember R F o q).2) p1) (cwV 1 hts gX1_bill_X1_kilogramsToBill rfl rfl rfl (by decide +kernel) ⟨Nat.le_of_ble_eq_true rfl, Nat.le_of_ble_eq_true rfl⟩) (PW_preV (i := 0) (by decide) CC_0 rfl rfl hK hP) rfl rfl hl.1 rfl (lv_room (Nat.le_of_ble_eq_true rfl)) dX1_bill_42 ⟨Nat.zero_le _, Nat.zero_le _⟩) hS (fun H locs hP hS => ?_)
        refine lv_istore_n (lv' := [(2, .int ((xX1_kilogramsToBill ((xX1_remember R F o q).1) ((xX1_remember R F o q).2) p1).1)), (0, .ref (ad 0)), (1, .int p1)]) hx hb dX1_bill_45 rfl hl (by decide) rfl (fun ls hl => ?_)
        refine lv_aload_n hx hb dX1_bill_46 rfl (lv_at hl 1 rfl) ?_
        refine q_getF (v := .ref (ad 1)) hx hb hts hin1 hown hK hP 0 (by decide) lk10 (fun _ h => h) rfl dX1_bill_47 ?_
        refine q_getS (v := .ref (ad 11)) hx hb hts hin0 hown hK hP 1 st_1 12 (by decide) lk116 (fun _ h => h) rfl dX1_bill_50 ?_
        refine lv_iload_n hx hb dX1_bill_53 rfl (lv_at hl 2 rfl) ?_
        refine lv_iload_n hx hb dX1_bill_54 rfl (lv_at hl 0 rfl) ?_
        refine q_ist hx hb hK hI hP hS 11 8 (ar_11) dX1_bill_55 (by first | assumption | exact isCell_in (by assumption) | exact isWalker_in (by assumption) | exact isAboard_in (by assumption) | exact isPair_in1 (by assumption) | exact isPair_in2 (by assumption) | exact isWithin7_in (by assumption) | exact vp_in_nI (by omega) (by decide)) (fun H locs hP hS => ?_)
        have hP : WP D cI cS ad (sR ((xX1_kilogramsToBill ((xX1_remember R F o q).1) ((xX1_remember R F o q).2) p1).2) 11 ((p1).toNatClampNeg) ((xX1_kilogramsToBill ((xX1_remember R F o q).1) ((xX1_remember R F o q).2) p1).1)) ((xX1_remember R F o q).2) H := hP
        refine lv_aload_n hx hb dX1_bill_56 rfl (lv_at hl 1 rfl) ?_
        refine q_getF (v := .ref (ad 1)) hx hb hts hin1 hown hK hP 0 (by decide) lk10 (fun _ h => h) rfl dX1_bill_57 ?_
        refine q_getS (v := .ref (ad 12)) hx hb hts hin0 hown hK hP 1 st_1 13 (by decide) lk123 (fun _ h => h) rfl dX1_bill_60 ?_
        refine lv_iload_n hx hb dX1_bill_63 rfl (lv_at hl 2 rfl) ?_
        refine lv_aload_n hx hb dX1_bill_64 rfl (lv_at hl 1 rfl) ?_
        refine q_getF (v := .ref (ad 1)) hx hb hts hin1 hown hK hP 0 (by decide) lk10 (fun _ h => h) rfl dX1_bill_65 ?_
        refine q_getS (v := .int (((xX1_remember R F o q).2) 1 1)) hx hb hts hin0 hown hK hP 1 st_1 1 (by decide) lk110 (fun _ h => h) rfl dX1_bill_68 ?_
        refine q_ist hx hb hK hI hP hS 12 8 (ar_12) dX1_bill_71 (by first | assumption | exact isCell_in (by assumption) | exact isWalker_in (by assumption) | exact isAboard_in (by assumption) | exact isPair_in1 (by assumption) | exact isPair_in2 (by assumption) | exact isWithin7_in (by assumption) | exact vp_in_nI (by omega) (by decide)) (fun H locs hP hS => ?_)
        have hP : WP D cI cS ad (sR (sR ((xX1_kilogramsToBill ((xX1_remember R F o q).1) ((xX1_remember R F o q).2) p1).2) 11 ((p1).toNatClampNeg) ((xX1_kilogramsToBill ((xX1_remember R F o q).1) ((xX1_remember R F o q).2) p1).1)) 12 ((p1).toNatClampNeg) (((xX1_remember R F o q).2) 1 1)) ((xX1_remember R F o q).2) H := hP
        refine lv_iload_n hx hb dX1_bill_72 rfl (lv_at hl 0 rfl) ?_
        refine lv_bipush (v := 20) hx hb dX1_bill_73 (by decide) ?_
        refine lv_icmp_lt (tgt := 88) hx hb dX1_bill_75 (by decide) (fun c_75 => ?_) (fun c_75 => ?_)
        · refine lv_iload_n hx hb dX1_bill_88 rfl (lv_at hl 0 rfl) ?_
          have hX : (xX1_bill R F p1 o q) = (((xX1_kilogramsToBill ((xX1_remember R F o q).1) ((xX1_remember R F o q).2) p1).1), (sR (sR ((xX1_kilogramsToBill ((xX1_remember R F o q).1) ((xX1_remember R F o q).2) p1).2) 11 ((p1).toNatClampNeg) ((xX1_kilogramsToBill ((xX1_remember R F o q).1) ((xX1_remember R F o q).2) p1).1)) 12 ((p1).toNatClampNeg) (((xX1_remember R F o q).2) 1 1)), ((xX1_remember R F o q).2)) := by unfold xX1_bill; rw [if_neg c_5, if_neg c_16, if_pos c_30, if_pos c_75]
          exact W.iret (v := ((xX1_kilogramsToBill ((xX1_remember R F o q).1) ((xX1_remember R F o q).2) p1).1)) hx hb hr (fun t ht hW => ⟨by rw [hX], by rw [hX, ht]; with_reducible exact hP, hS.F ht⟩) hS.2.2 dX1_bill_89
        · refine lv_aload_n hx hb dX1_bill_78 rfl (lv_at hl 1 rfl) ?_
          refine q_getF (v := .ref (ad 1)) hx hb hts hin1 hown hK hP 0 (by decide) lk10 (fun _ h => h) rfl dX1_bill_79 ?_
          refine q_getS (v := .ref (ad 8)) hx hb hts hin0 hown hK hP 1 st_1 9 (by decide) lk86 (fun _ h => h) rfl dX1_bill_82 ?_
          refine lv_iload_n hx hb dX1_bill_85 rfl (lv_at hl 2 rfl) ?_
          refine lv_iload_n hx hb dX1_bill_86 rfl (lv_at hl 0 rfl) ?_
          refine q_ist hx hb hK hI hP hS 8 8 (ar_8) dX1_bill_87 (by first | assumption | exact isCell_in (by assumption) | exact isWalker_in (by assumption) | exact isAboard_in (by assumption) | exact isPair_in1 (by assumption) | exact isPair_in2 (by assumption) | exact isWithin7_in (by assumption) | exact vp_in_nI (by omega) (by decide)) (fun H locs hP hS => ?_)
          have hP : WP D cI cS ad (sR (sR (sR ((xX1_kilogramsToBill ((xX1_remember R F o q).1) ((xX1_remember R F o q).2) p1).2) 11 ((p1).toNatClampNeg) ((xX1_kilogramsToBill ((xX1_remember R F o q).1) ((xX1_remember R F o q).2) p1).1)) 12 ((p1).toNatClampNeg) (((xX1_remember R F o q).2) 1 1)) 8 ((p1).toNatClampNeg) ((xX1_kilogramsToBill ((xX1_remember R F o q).1) ((xX1_remember R F o q).2) p1).1)) ((xX1_remember R F o q).2) H := hP
          refine lv_iload_n hx hb dX1_bill_88 rfl (lv_at hl 0 rfl) ?_
          have hX : (xX1_bill R F p1 o q) = (((xX1_kilogramsToBill ((xX1_remember R F o q).1) ((xX1_remember R F o q).2) p1).1), (sR (sR (sR ((xX1_kilogramsToBill ((xX1_remember R F o q).1) ((xX1_remember R F o q).2) p1).2) 11 ((p1).toNatClampNeg) ((xX1_kilogramsToBill ((xX1_remember R F o q).1) ((xX1_remember R F o q).2) p1).1)) 12 ((p1).toNatClampNeg) (((xX1_remember R F o q).2) 1 1)) 8 ((p1).toNatClampNeg) ((xX1_kilogramsToBill ((xX1_remember R F o q).1) ((xX1_remember R F o q).2) p1).1)), ((xX1_remember R F o q).2)) := by unfold xX1_bill; rw [if_neg c_5, if_neg c_16, if_pos c_30, if_neg c_75]
          exact W.iret (v := ((xX1_kilogramsToBill ((xX1_remember R F o q).1) ((xX1_remember R F o q).2) p1).1)) hx hb hr (fun t ht hW => ⟨by rw [hX], by rw [hX, ht]; with_reducible exact hP, hS.F ht⟩) hS.2.2 dX1_bill_89
      · refine lv_ldc (v := -100002) hx hb hown lk55 dX1_bill_33 ?_
        have hX : (xX1_bill R F p1 o q) = ((-100002 : Int32), R, F) := by unfold xX1_bill; rw [if_neg c_5, if_neg c_16, if_neg c_30]
        exact W.iret (v := (-100002 : Int32)) hx hb hr (fun t ht hW => ⟨by rw [hX], by rw [hX, ht]; with_reducible exact hP, hS.F ht⟩) hS.2.2 dX1_bill_35
  · refine lv_ldc (v := -100001) hx hb hown lk45 dX1_bill_8 ?_
    have hX : (xX1_bill R F p1 o q) = ((-100001 : Int32), R, F) := by unfold xX1_bill; rw [if_pos c_5]
    exact W.iret (v := (-100001 : Int32)) hx hb hr (fun t ht hW => ⟨by rw [hX], by rw [hX, ht]; with_reducible exact hP, hS.F ht⟩) hS.2.2 dX1_bill_10

def xX1_complain (R F : Nat → Nat → Int32) (p1 : Int32) (o : Nat) (q : Nat) : Int32 × (Nat → Nat → Int32) × (Nat → Nat → Int32) :=
  (if (xX1_isWalker R F p1) = (0 : Int32) then ((-100001 : Int32), R, F) else (if (xX1_isAboard R F p1) = (0 : Int32) then (if (R 11 (p1).toNatClampNeg) = (-100009 : Int32) then ((-100002 : Int32), R, F) else (if (R 13 (p1).toNatClampNeg) = (-100009 : Int32) then ((xX1_backAmount (sR ((xX1_remember R F o q).1) 13 ((p1).toNatClampNeg) (if (0 : Int32) < ((((xX1_remember R F o q).1) 11 (p1).toNatClampNeg) - (((xX1_remember R F o q).1) 6 (p1).toNatClampNeg)) then ((((xX1_remember R F o q).1) 11 (p1).toNatClampNeg) - (((xX1_remember R F o q).1) 6 (p1).toNatClampNeg)) else (0 : Int32))) ((xX1_remember R F o q).2) p1), (sR ((xX1_remember R F o q).1) 13 ((p1).toNatClampNeg) (if (0 : Int32) < ((((xX1_remember R F o q).1) 11 (p1).toNatClampNeg) - (((xX1_remember R F o q).1) 6 (p1).toNatClampNeg)) then ((((xX1_remember R F o q).1) 11 (p1).toNatClampNeg) - (((xX1_remember R F o q).1) 6 (p1).toNatClampNeg)) else (0 : Int32))), ((xX1_remember R F o q).2)) else ((-100002 : Int32), R, F))) else ((-100002 : Int32), R, F)))
set_option maxHeartbeats 4000000 in
set_option maxRecDepth 100000 in
theorem mX1_complain (l : Launch) (D : va_G) (cI cS : ClassId) (ad : Nat → Nat) (hI : Inj ad) (R F : Nat → Nat → Int32) (p1 : Int32) (o : Nat) (q : Nat) (ho : o < 5) (hq : q ≤ 5) (hF0 : F 0 0 = nI o) (hF1 : F 0 1 = nI q) : Met l yX1_complain wsX1_complain ({ frames := 4, cells := 0, slots := 0, locals := 111 }) (PW D cI cS ad R F [.ref (ad 0), .int p1]) (QI D cI cS ad ((xX1_complain R F p1 o q).1) ((xX1_complain R F p1 o q).2.1) ((xX1_complain R F p1 o q).2.2)) 0 0 (AA ad) := by
  refine Met.ofW (cc := cX1_complain) (maxL := 2) (ret := (some .int)) (by decide) rfl ?_
  intro p e s m args below meth c s₁ B hml hv
  obtain ⟨rfl, hP, hK⟩ := hv
  have hx := B.exec
  have hb := B.bytes
  have hr := B.returns
  have hts := atoms_spec (ws := wsX1_complain) B.pre
  have hown : s.vm.findClass RX1 = some m.cls := findClass_of_methodNamed B.named
  have hlocks := B.notSynchronized
  have hS : va_S (AA ad) s.heap s.heap [] := va_S.rf
  have hl := lv_entry ([.ref (ad 0), .int p1]) (n := 2) (Nat.le_of_ble_eq_true rfl)
  rw [lg_entry_eq]
  generalize (lg_sl ([.ref (ad 0), .int p1]) ++ List.replicate (2 - (lg_sl ([.ref (ad 0), .int p1])).length) Slot.unset).toArray = ls at hl ⊢
  have hl : lv_has ls 2 [(0, .ref (ad 0)), (1, .int p1)] := hl
  have lk45 := hts (.constant RX1 45 (-100001)) (by decide +kernel)
  have lk10 := hts (.fieldLink RX1 10 "FerryFloor" "now" "LFerryFloor$State;") (by decide +kernel)
  have lk116 := hts (.fieldLink RX1 116 "FerryFloor$State" "billKilograms" "[I") (by decide +kernel)
  have lk78 := hts (.constant RX1 78 (-100009)) (by decide +kernel)
  have lk126 := hts (.fieldLink RX1 126 "FerryFloor$State" "backKilograms" "[I") (by decide +kernel)
  have lk55 := hts (.constant RX1 55 (-100002)) (by decide +kernel)
  have lk83 := hts (.fieldLink RX1 83 "FerryFloor$State" "weights" "[I") (by decide +kernel)
  have hin1 : ∀ w ∈ u_ws RX1 TX1 7, w ∈ wsX1_complain := by decide +kernel
  have hin0 : ∀ w ∈ u_ws RX0 TX0 15, w ∈ wsX1_complain := by decide +kernel
  refine lv_aload_n hx hb dX1_complain_0 rfl (lv_at hl 0 rfl) ?_
  refine lv_iload_n hx hb dX1_complain_1 rfl (lv_at hl 1 rfl) ?_
  refine q_callS (va_runV (As := [.int p1]) (rest := []) ⟨hx, hb, hml, hown, hts⟩ (mX1_isWalker l D cI cS ad hI R F p1) (cwV 1 hts gX1_complain_X1_isWalker rfl rfl rfl (by decide +kernel) ⟨Nat.le_of_ble_eq_true rfl, Nat.le_of_ble_eq_true rfl⟩) (PW_preV (i := 0) (by decide) CC_0 rfl rfl hK hP) rfl rfl hl.1 rfl (lv_room (Nat.le_of_ble_eq_true rfl)) dX1_complain_2 ⟨Nat.zero_le _, Nat.zero_le _⟩) ?_
  refine lv_if_ne (tgt := 11) hx hb dX1_complain_5 (by decide) (fun c_5 => ?_) (fun c_5 => ?_)
  · refine lv_aload_n hx hb dX1_complain_11 rfl (lv_at hl 0 rfl) ?_
    refine lv_iload_n hx hb dX1_complain_12 rfl (lv_at hl 1 rfl) ?_
    refine q_callS (va_runV (As := [.int p1]) (rest := []) ⟨hx, hb, hml, hown, hts⟩ (mX1_isAboard l D cI cS ad hI R F p1) (cwV 1 hts gX1_complain_X1_isAboard rfl rfl rfl (by decide +kernel) ⟨Nat.le_of_ble_eq_true rfl, Nat.le_of_ble_eq_true rfl⟩) (PW_preV (i := 0) (by decide) CC_0 rfl rfl hK hP) rfl rfl hl.1 rfl (lv_room (Nat.le_of_ble_eq_true rfl)) dX1_complain_13 ⟨Nat.zero_le _, Nat.zero_le _⟩) ?_
    refine lv_if_ne (tgt := 47) hx hb dX1_complain_16 (by decide) (fun c_16 => ?_) (fun c_16 => ?_)
    · refine lv_ldc (v := -100002) hx hb hown lk55 dX1_complain_47 ?_
      have hX : (xX1_complain R F p1 o q) = ((-100002 : Int32), R, F) := by unfold xX1_complain; rw [if_neg c_5, if_neg c_16]
      exact W.iret (v := (-100002 : Int32)) hx hb hr (fun t ht hW => ⟨by rw [hX], by rw [hX, ht]; with_reducible exact hP, hS.F ht⟩) hS.2.2 dX1_complain_49
    · refine lv_aload_n hx hb dX1_complain_19 rfl (lv_at hl 0 rfl) ?_
      refine q_getF (v := .ref (ad 1)) hx hb hts hin1 hown hK hP 0 (by decide) lk10 (fun _ h => h) rfl dX1_complain_20 ?_
      refine q_getS (v := .ref (ad 11)) hx hb hts hin0 hown hK hP 1 st_1 12 (by decide) lk116 (fun _ h => h) rfl dX1_complain_23 ?_
      refine lv_iload_n hx hb dX1_complain_26 rfl (lv_at hl 1 rfl) ?_
      refine q_ild hx hb hK hP 11 8 (ar_11) dX1_complain_27 (by first | assumption | exact isCell_in (by assumption) | exact isWalker_in (by assumption) | exact isAboard_in (by assumption) | exact isPair_in1 (by assumption) | exact isPair_in2 (by assumption) | exact isWithin7_in (by assumption) | exact vp_in_nI (by omega) (by decide)) ?_
      refine lv_ldc (v := -100009) hx hb hown lk78 dX1_complain_28 ?_
      refine lv_icmp_eq (tgt := 47) hx hb dX1_complain_30 (by decide) (fun c_30 => ?_) (fun c_30 => ?_)
      · refine lv_ldc (v := -100002) hx hb hown lk55 dX1_complain_47 ?_
        have hX : (xX1_complain R F p1 o q) = ((-100002 : Int32), R, F) := by unfold xX1_complain; rw [if_neg c_5, if_pos c_16, if_pos c_30]
        exact W.iret (v := (-100002 : Int32)) hx hb hr (fun t ht hW => ⟨by rw [hX], by rw [hX, ht]; with_reducible exact hP, hS.F ht⟩) hS.2.2 dX1_complain_49
      · refine lv_aload_n hx hb dX1_complain_33 rfl (lv_at hl 0 rfl) ?_
        refine q_getF (v := .ref (ad 1)) hx hb hts hin1 hown hK hP 0 (by decide) lk10 (fun _ h => h) rfl dX1_complain_34 ?_
        refine q_getS (v := .ref (ad 13)) hx hb hts hin0 hown hK hP 1 st_1 14 (by decide) lk126 (fun _ h => h) rfl dX1_complain_37 ?_
        refine lv_iload_n hx hb dX1_complain_40 rfl (lv_at hl 1 rfl) ?_
        refine q_ild hx hb hK hP 13 8 (ar_13) dX1_complain_41 (by first | assumption | exact isCell_in (by assumption) | exact isWalker_in (by assumption) | exact isAboard_in (by assumption) | exact isPair_in1 (by assumption) | exact isPair_in2 (by assumption) | exact isWithin7_in (by assumption) | exact vp_in_nI (by omega) (by decide)) ?_
        refine lv_ldc (v := -100009) hx hb hown lk78 dX1_complain_42 ?_
        refine lv_icmp_eq (tgt := 50) hx hb dX1_complain_44 (by decide) (fun c_44 => ?_) (fun c_44 => ?_)
        · refine lv_aload_n hx hb dX1_complain_50 rfl (lv_at hl 0 rfl) ?_
          refine q_callV (va_runV (As := []) (rest := []) ⟨hx, hb, hml, hown, hts⟩ (mX1_remember l D cI cS ad hI R F o q ho hq hF0 hF1) (cwV 0 hts gX1_complain_X1_remember rfl rfl rfl (by decide +kernel) ⟨Nat.le_of_ble_eq_true rfl, Nat.le_of_ble_eq_true rfl⟩) (PW_preV (i := 0) (by decide) CC_0 rfl rfl hK hP) rfl rfl hl.1 rfl (lv_room (Nat.le_of_ble_eq_true rfl)) dX1_complain_51 ⟨Nat.zero_le _, Nat.zero_le _⟩) hS (fun H locs hP hS => ?_)
          refine lv_aload_n hx hb dX1_complain_54 rfl (lv_at hl 0 rfl) ?_
          refine q_getF (v := .ref (ad 1)) hx hb hts hin1 hown hK hP 0 (by decide) lk10 (fun _ h => h) rfl dX1_complain_55 ?_
          refine q_getS (v := .ref (ad 13)) hx hb hts hin0 hown hK hP 1 st_1 14 (by decide) lk126 (fun _ h => h) rfl dX1_complain_58 ?_
          refine lv_iload_n hx hb dX1_complain_61 rfl (lv_at hl 1 rfl) ?_
          refine lv_iconst (v := 0) hx hb dX1_complain_62 (by decide) ?_
          refine lv_aload_n hx hb dX1_complain_63 rfl (lv_at hl 0 rfl) ?_
          refine q_getF (v := .ref (ad 1)) hx hb hts hin1 hown hK hP 0 (by decide) lk10 (fun _ h => h) rfl dX1_complain_64 ?_
          refine q_getS (v := .ref (ad 11)) hx hb hts hin0 hown hK hP 1 st_1 12 (by decide) lk116 (fun _ h => h) rfl dX1_complain_67 ?_
          refine lv_iload_n hx hb dX1_complain_70 rfl (lv_at hl 1 rfl) ?_
          refine q_ild hx hb hK hP 11 8 (ar_11) dX1_complain_71 (by first | assumption | exact isCell_in (by assumption) | exact isWalker_in (by assumption) | exact isAboard_in (by assumption) | exact isPair_in1 (by assumption) | exact isPair_in2 (by assumption) | exact isWithin7_in (by assumption) | exact vp_in_nI (by omega) (by decide)) ?_
          refine lv_aload_n hx hb dX1_complain_72 rfl (lv_at hl 0 rfl) ?_
          refine q_getF (v := .ref (ad 1)) hx hb hts hin1 hown hK hP 0 (by decide) lk10 (fun _ h => h) rfl dX1_complain_73 ?_
          refine q_getS (v := .ref (ad 6)) hx hb hts hin0 hown hK hP 1 st_1 7 (by decide) lk83 (fun _ h => h) rfl dX1_complain_76 ?_
          refine lv_iload_n hx hb dX1_complain_79 rfl (lv_at hl 1 rfl) ?_
          refine q_ild hx hb hK hP 6 8 (ar_6) dX1_complain_80 (by first | assumption | exact isCell_in (by assumption) | exact isWalker_in (by assumption) | exact isAboard_in (by assumption) | exact isPair_in1 (by assumption) | exact isPair_in2 (by assumption) | exact isWithin7_in (by assumption) | exact vp_in_nI (by omega) (by decide)) ?_
          refine lv_isub hx hb dX1_complain_81 ?_
          refine va_mmax hx hb (hml.trans hl.1.symm) hown (hts (.methodLink RX1 129 Lib.Math.max.name) (by decide +kernel)) (hts (.static Lib.Math.max.name) (by decide +kernel)) (hts (.initialized "java/lang/Math") (by decide +kernel)) (hts (.code Lib.Math.max.name Lib.Math.max.code 2 (some .int)) (by decide +kernel)) (Nat.le_of_ble_eq_true rfl) (Nat.le_of_ble_eq_true rfl) (Nat.zero_le _) (Nat.zero_le _) dX1_complain_82 ?_
          refine q_ist hx hb hK hI hP hS 13 8 (ar_13) dX1_complain_85 (by first | assumption | exact isCell_in (by assumption) | exact isWalker_in (by assumption) | exact isAboard_in (by assumption) | exact isPair_in1 (by assumption) | exact isPair_in2 (by assumption) | exact isWithin7_in (by assumption) | exact vp_in_nI (by omega) (by decide)) (fun H locs hP hS => ?_)
          have hP : WP D cI cS ad (sR ((xX1_remember R F o q).1) 13 ((p1).toNatClampNeg) (if (0 : Int32) < ((((xX1_remember R F o q).1) 11 (p1).toNatClampNeg) - (((xX1_remember R F o q).1) 6 (p1).toNatClampNeg)) then ((((xX1_remember R F o q).1) 11 (p1).toNatClampNeg) - (((xX1_remember R F o q).1) 6 (p1).toNatClampNeg)) else (0 : Int32))) ((xX1_remember R F o q).2) H := hP
          refine lv_aload_n hx hb dX1_complain_86 rfl (lv_at hl 0 rfl) ?_
          refine lv_iload_n hx hb dX1_complain_87 rfl (lv_at hl 1 rfl) ?_
          refine q_callS (va_runV (As := [.int p1]) (rest := []) ⟨hx, hb, hml, hown, hts⟩ (mX1_backAmount l D cI cS ad hI (sR ((xX1_remember R F o q).1) 13 ((p1).toNatClampNeg) (if (0 : Int32) < ((((xX1_remember R F o q).1) 11 (p1).toNatClampNeg) - (((xX1_remember R F o q).1) 6 (p1).toNatClampNeg)) then ((((xX1_remember R F o q).1) 11 (p1).toNatClampNeg) - (((xX1_remember R F o q).1) 6 (p1).toNatClampNeg)) else (0 : Int32))) ((xX1_remember R F o q).2) p1) (cwV 1 hts gX1_complain_X1_backAmount rfl rfl rfl (by decide +kernel) ⟨Nat.le_of_ble_eq_true rfl, Nat.le_of_ble_eq_true rfl⟩) (PW_preV (i := 0) (by decide) CC_0 rfl rfl hK hP) rfl rfl hl.1 rfl (lv_room (Nat.le_of_ble_eq_true rfl)) dX1_complain_88 ⟨Nat.zero_le _, Nat.zero_le _⟩) ?_
          have hX : (xX1_complain R F p1 o q) = ((xX1_backAmount (sR ((xX1_remember R F o q).1) 13 ((p1).toNatClampNeg) (if (0 : Int32) < ((((xX1_remember R F o q).1) 11 (p1).toNatClampNeg) - (((xX1_remember R F o q).1) 6 (p1).toNatClampNeg)) then ((((xX1_remember R F o q).1) 11 (p1).toNatClampNeg) - (((xX1_remember R F o q).1) 6 (p1).toNatClampNeg)) else (0 : Int32))) ((xX1_remember R F o q).2) p1), (sR ((xX1_remember R F o q).1) 13 ((p1).toNatClampNeg) (if (0 : Int32) < ((((xX1_remember R F o q).1) 11 (p1).toNatClampNeg) - (((xX1_remember R F o q).1) 6 (p1).toNatClampNeg)) then ((((xX1_remember R F o q).1) 11 (p1).toNatClampNeg) - (((xX1_remember R F o q).1) 6 (p1).toNatClampNeg)) else (0 : Int32))), ((xX1_remember R F o q).2)) := by unfold xX1_complain; rw [if_neg c_5, if_pos c_16, if_neg c_30, if_pos c_44]
          exact W.iret (v := (xX1_backAmount (sR ((xX1_remember R F o q).1) 13 ((p1).toNatClampNeg) (if (0 : Int32) < ((((xX1_remember R F o q).1) 11 (p1).toNatClampNeg) - (((xX1_remember R F o q).1) 6 (p1).toNatClampNeg)) then ((((xX1_remember R F o q).1) 11 (p1).toNatClampNeg) - (((xX1_remember R F o q).1) 6 (p1).toNatClampNeg)) else (0 : Int32))) ((xX1_remember R F o q).2) p1)) hx hb hr (fun t ht hW => ⟨by rw [hX], by rw [hX, ht]; with_reducible exact hP, hS.F ht⟩) hS.2.2 dX1_complain_91
        · refine lv_ldc (v := -100002) hx hb hown lk55 dX1_complain_47 ?_
          have hX : (xX1_complain R F p1 o q) = ((-100002 : Int32), R, F) := by unfold xX1_complain; rw [if_neg c_5, if_pos c_16, if_neg c_30, if_neg c_44]
          exact W.iret (v := (-100002 : Int32)) hx hb hr (fun t ht hW => ⟨by rw [hX], by rw [hX, ht]; with_reducible exact hP, hS.F ht⟩) hS.2.2 dX1_complain_49
  · refine lv_ldc (v := -100001) hx hb hown lk45 dX1_complain_8 ?_
    have hX : (xX1_complain R F p1 o q) = ((-100001 : Int32), R, F) := by unfold xX1_complain; rw [if_pos c_5]
    exact W.iret (v := (-100001 : Int32)) hx hb hr (fun t ht hW => ⟨by rw [hX], by rw [hX, ht]; with_reducible exact hP, hS.F ht⟩) hS.2.2 dX1_complain_10

