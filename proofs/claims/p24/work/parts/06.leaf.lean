def xX1_nearCell (p1 : Int32) (p2 : Int32) : Int32 :=
  (if p2 = (0 : Int32) then p1 else (if p2 = (1 : Int32) then (p1 - (6 : Int32)) else (if p2 = (2 : Int32) then (p1 + (6 : Int32)) else (if p2 = (3 : Int32) then (if (p1 - p1 / (6 : Int32) * (6 : Int32)) = (0 : Int32) then (-100009 : Int32) else (p1 - (1 : Int32))) else (if p2 = (4 : Int32) then (if (p1 - p1 / (6 : Int32) * (6 : Int32)) = (5 : Int32) then (-100009 : Int32) else (p1 + (1 : Int32))) else (-100009 : Int32))))))
set_option maxHeartbeats 4000000 in
set_option maxRecDepth 100000 in
theorem mX1_nearCell (l : Launch) (D : va_G) (cI cS : ClassId) (ad : Nat → Nat) (hI : Inj ad) (R F : Nat → Nat → Int32) (p1 : Int32) (p2 : Int32) : Met l yX1_nearCell wsX1_nearCell ({ frames := 0, cells := 0, slots := 0, locals := 0 }) (PW D cI cS ad R F [.int p1, .int p2]) (QS (xX1_nearCell p1 p2)) 0 0 (fun _ => False) := by
  refine Met.ofW (cc := cX1_nearCell) (maxL := 3) (ret := (some .int)) (by decide) rfl ?_
  intro p e s m args below meth c s₁ B hml hv
  obtain ⟨rfl, hP, hK⟩ := hv
  have hx := B.exec
  have hb := B.bytes
  have hr := B.returns
  have hts := atoms_spec (ws := wsX1_nearCell) B.pre
  have hown : s.vm.findClass RX1 = some m.cls := findClass_of_methodNamed B.named
  have hlocks := B.notSynchronized
  have hS : va_S (AA ad) s.heap s.heap [] := va_S.rf
  have hl := lv_entry ([.int p1, .int p2]) (n := 3) (Nat.le_of_ble_eq_true rfl)
  rw [lg_entry_eq]
  generalize (lg_sl ([.int p1, .int p2]) ++ List.replicate (3 - (lg_sl ([.int p1, .int p2])).length) Slot.unset).toArray = ls at hl ⊢
  have hl : lv_has ls 3 [(0, .int p1), (1, .int p2)] := hl
  have lk78 := hts (.constant RX1 78 (-100009)) (by decide +kernel)
  refine lv_iload_n hx hb dX1_nearCell_0 rfl (lv_at hl 0 rfl) ?_
  refine lv_bipush (v := 6) hx hb dX1_nearCell_1 (by decide) ?_
  refine lv_irem hx hb dX1_nearCell_3 (by decide) ?_
  refine lv_istore_n (lv' := [(2, .int (p1 - p1 / (6 : Int32) * (6 : Int32))), (0, .int p1), (1, .int p2)]) hx hb dX1_nearCell_4 rfl hl (by decide) rfl (fun ls hl => ?_)
  refine lv_iload_n hx hb dX1_nearCell_5 rfl (lv_at hl 2 rfl) ?_
  by_cases c_6_0 : p2 = (0 : Int32)
  · refine lv_tableIn (x := p2) (off := 34) (tgt := 40) hx hb dX1_nearCell_6 (by rw [c_6_0]; decide) (by rw [c_6_0]; decide) (by rw [c_6_0]; rfl) (by decide) ?_
    refine lv_iload_n hx hb dX1_nearCell_40 rfl (lv_at hl 1 rfl) ?_
    have hX : (xX1_nearCell p1 p2) = p1 := by unfold xX1_nearCell; rw [if_pos c_6_0]
    exact W.iret (v := p1) hx hb hr (fun t ht hW => ⟨by rw [hX], ht⟩) (fun _ h => by cases h) dX1_nearCell_41
  by_cases c_6_1 : p2 = (1 : Int32)
  · refine lv_tableIn (x := p2) (off := 36) (tgt := 42) hx hb dX1_nearCell_6 (by rw [c_6_1]; decide) (by rw [c_6_1]; decide) (by rw [c_6_1]; rfl) (by decide) ?_
    refine lv_iload_n hx hb dX1_nearCell_42 rfl (lv_at hl 1 rfl) ?_
    refine lv_bipush (v := 6) hx hb dX1_nearCell_43 (by decide) ?_
    refine lv_isub hx hb dX1_nearCell_45 ?_
    have hX : (xX1_nearCell p1 p2) = (p1 - (6 : Int32)) := by unfold xX1_nearCell; rw [if_neg c_6_0, if_pos c_6_1]
    exact W.iret (v := (p1 - (6 : Int32))) hx hb hr (fun t ht hW => ⟨by rw [hX], ht⟩) (fun _ h => by cases h) dX1_nearCell_46
  by_cases c_6_2 : p2 = (2 : Int32)
  · refine lv_tableIn (x := p2) (off := 41) (tgt := 47) hx hb dX1_nearCell_6 (by rw [c_6_2]; decide) (by rw [c_6_2]; decide) (by rw [c_6_2]; rfl) (by decide) ?_
    refine lv_iload_n hx hb dX1_nearCell_47 rfl (lv_at hl 1 rfl) ?_
    refine lv_bipush (v := 6) hx hb dX1_nearCell_48 (by decide) ?_
    refine lv_iadd hx hb dX1_nearCell_50 ?_
    have hX : (xX1_nearCell p1 p2) = (p1 + (6 : Int32)) := by unfold xX1_nearCell; rw [if_neg c_6_0, if_neg c_6_1, if_pos c_6_2]
    exact W.iret (v := (p1 + (6 : Int32))) hx hb hr (fun t ht hW => ⟨by rw [hX], ht⟩) (fun _ h => by cases h) dX1_nearCell_51
  by_cases c_6_3 : p2 = (3 : Int32)
  · refine lv_tableIn (x := p2) (off := 46) (tgt := 52) hx hb dX1_nearCell_6 (by rw [c_6_3]; decide) (by rw [c_6_3]; decide) (by rw [c_6_3]; rfl) (by decide) ?_
    refine lv_iload_n hx hb dX1_nearCell_52 rfl (lv_at hl 0 rfl) ?_
    refine lv_if_ne (tgt := 61) hx hb dX1_nearCell_53 (by decide) (fun c_53 => ?_) (fun c_53 => ?_)
    · refine lv_iload_n hx hb dX1_nearCell_61 rfl (lv_at hl 1 rfl) ?_
      refine lv_iconst (v := 1) hx hb dX1_nearCell_62 (by decide) ?_
      refine lv_isub hx hb dX1_nearCell_63 ?_
      have hX : (xX1_nearCell p1 p2) = (p1 - (1 : Int32)) := by unfold xX1_nearCell; rw [if_neg c_6_0, if_neg c_6_1, if_neg c_6_2, if_pos c_6_3, if_neg c_53]
      exact W.iret (v := (p1 - (1 : Int32))) hx hb hr (fun t ht hW => ⟨by rw [hX], ht⟩) (fun _ h => by cases h) dX1_nearCell_64
    · refine lv_ldc (v := -100009) hx hb hown lk78 dX1_nearCell_56 ?_
      refine lv_goto (tgt := 64) hx hb dX1_nearCell_58 (by decide) ?_
      have hX : (xX1_nearCell p1 p2) = (-100009 : Int32) := by unfold xX1_nearCell; rw [if_neg c_6_0, if_neg c_6_1, if_neg c_6_2, if_pos c_6_3, if_pos c_53]
      exact W.iret (v := (-100009 : Int32)) hx hb hr (fun t ht hW => ⟨by rw [hX], ht⟩) (fun _ h => by cases h) dX1_nearCell_64
  by_cases c_6_4 : p2 = (4 : Int32)
  · refine lv_tableIn (x := p2) (off := 59) (tgt := 65) hx hb dX1_nearCell_6 (by rw [c_6_4]; decide) (by rw [c_6_4]; decide) (by rw [c_6_4]; rfl) (by decide) ?_
    refine lv_iload_n hx hb dX1_nearCell_65 rfl (lv_at hl 0 rfl) ?_
    refine lv_iconst (v := 5) hx hb dX1_nearCell_66 (by decide) ?_
    refine lv_icmp_ne (tgt := 75) hx hb dX1_nearCell_67 (by decide) (fun c_67 => ?_) (fun c_67 => ?_)
    · refine lv_iload_n hx hb dX1_nearCell_75 rfl (lv_at hl 1 rfl) ?_
      refine lv_iconst (v := 1) hx hb dX1_nearCell_76 (by decide) ?_
      refine lv_iadd hx hb dX1_nearCell_77 ?_
      have hX : (xX1_nearCell p1 p2) = (p1 + (1 : Int32)) := by unfold xX1_nearCell; rw [if_neg c_6_0, if_neg c_6_1, if_neg c_6_2, if_neg c_6_3, if_pos c_6_4, if_neg c_67]
      exact W.iret (v := (p1 + (1 : Int32))) hx hb hr (fun t ht hW => ⟨by rw [hX], ht⟩) (fun _ h => by cases h) dX1_nearCell_78
    · refine lv_ldc (v := -100009) hx hb hown lk78 dX1_nearCell_70 ?_
      refine lv_goto (tgt := 78) hx hb dX1_nearCell_72 (by decide) ?_
      have hX : (xX1_nearCell p1 p2) = (-100009 : Int32) := by unfold xX1_nearCell; rw [if_neg c_6_0, if_neg c_6_1, if_neg c_6_2, if_neg c_6_3, if_pos c_6_4, if_pos c_67]
      exact W.iret (v := (-100009 : Int32)) hx hb hr (fun t ht hW => ⟨by rw [hX], ht⟩) (fun _ h => by cases h) dX1_nearCell_78
  refine lv_tableOut (x := p2) (tgt := 79) hx hb dX1_nearCell_6 (sw_out5 c_6_0 c_6_1 c_6_2 c_6_3 c_6_4) (by decide) ?_
  refine lv_ldc (v := -100009) hx hb hown lk78 dX1_nearCell_79 ?_
  have hX : (xX1_nearCell p1 p2) = (-100009 : Int32) := by unfold xX1_nearCell; rw [if_neg c_6_0, if_neg c_6_1, if_neg c_6_2, if_neg c_6_3, if_neg c_6_4]
  exact W.iret (v := (-100009 : Int32)) hx hb hr (fun t ht hW => ⟨by rw [hX], ht⟩) (fun _ h => by cases h) dX1_nearCell_81

def hX1_whoIsOn_2 (R F : Nat → Nat → Int32) (i1 : Nat) (p2 : Int32) : Nat → Nat → Int32
  | 0, k => (-100009 : Int32)
  | n + 1, k => (if (R i1 k) = p2 then (nI k) else (hX1_whoIsOn_2 R F i1 p2 n (k + 1)))
theorem hX1_whoIsOn_2_z (R F : Nat → Nat → Int32) (i1 : Nat) (p2 : Int32) (k : Nat) : hX1_whoIsOn_2 R F i1 p2 0 k = (-100009 : Int32) := rfl
theorem hX1_whoIsOn_2_s (R F : Nat → Nat → Int32) (i1 : Nat) (p2 : Int32) (n : Nat) (k : Nat) : hX1_whoIsOn_2 R F i1 p2 (n + 1) k = (if (R i1 k) = p2 then (nI k) else (hX1_whoIsOn_2 R F i1 p2 n (k + 1))) := rfl
def xX1_whoIsOn (R F : Nat → Nat → Int32) (i1 : Nat) (p2 : Int32) : Int32 :=
  (hX1_whoIsOn_2 R F i1 p2 8 0)
set_option maxHeartbeats 4000000 in
set_option maxRecDepth 100000 in
theorem mX1_whoIsOn (l : Launch) (D : va_G) (cI cS : ClassId) (ad : Nat → Nat) (hI : Inj ad) (R F : Nat → Nat → Int32) (i1 : Nat) (p2 : Int32) (hi1 : Ar i1 8) : Met l yX1_whoIsOn wsX1_whoIsOn ({ frames := 0, cells := 0, slots := 0, locals := 0 }) (PW D cI cS ad R F [.ref (ad i1), .int p2]) (QS (xX1_whoIsOn R F i1 p2)) 0 0 (fun _ => False) := by
  refine Met.ofW (cc := cX1_whoIsOn) (maxL := 3) (ret := (some .int)) (by decide) rfl ?_
  intro p e s m args below meth c s₁ B hml hv
  obtain ⟨rfl, hP, hK⟩ := hv
  have hx := B.exec
  have hb := B.bytes
  have hr := B.returns
  have hts := atoms_spec (ws := wsX1_whoIsOn) B.pre
  have hown : s.vm.findClass RX1 = some m.cls := findClass_of_methodNamed B.named
  have hlocks := B.notSynchronized
  have hS : va_S (AA ad) s.heap s.heap [] := va_S.rf
  have hl := lv_entry ([.ref (ad i1), .int p2]) (n := 3) (Nat.le_of_ble_eq_true rfl)
  rw [lg_entry_eq]
  generalize (lg_sl ([.ref (ad i1), .int p2]) ++ List.replicate (3 - (lg_sl ([.ref (ad i1), .int p2])).length) Slot.unset).toArray = ls at hl ⊢
  have hl : lv_has ls 3 [(0, .ref (ad i1)), (1, .int p2)] := hl
  have lk78 := hts (.constant RX1 78 (-100009)) (by decide +kernel)
  refine lv_iconst (v := 0) hx hb dX1_whoIsOn_0 (by decide) ?_
  refine lv_istore_n (lv' := [(2, .int (0 : Int32)), (0, .ref (ad i1)), (1, .int p2)]) hx hb dX1_whoIsOn_1 rfl hl (by decide) rfl (fun ls hl => ?_)
  refine q_loop (fun nn H locs ls => ∃ (k : Nat), k + nn = 8 ∧ hX1_whoIsOn_2 R F i1 p2 nn k = (xX1_whoIsOn R F i1 p2) ∧ WP D cI cS ad R F H ∧ locs = [] ∧ H = s.heap ∧ lv_has ls 3 [(2, .int (nI k)), (0, .ref (ad i1)), (1, .int p2)]) 8 ⟨0, by omega, by unfold xX1_whoIsOn; rfl, hP, rfl, rfl, lv_sub hl [0, 1, 2] rfl⟩ ?_ ?_
  · intro H locs ls hz
    obtain ⟨k, hkn, hsp, hP, rfl, rfl, hl⟩ := hz
    refine lv_iload_n hx hb dX1_whoIsOn_2 rfl (lv_at hl 0 rfl) ?_
    refine lv_bipush (v := 8) hx hb dX1_whoIsOn_3 (by decide) ?_
    refine lv_icmp_ge (tgt := 23) hx hb dX1_whoIsOn_5 (by decide) (fun c_5 => ?_) (fun c_5 => ?_)
    · refine lv_ldc (v := -100009) hx hb hown lk78 dX1_whoIsOn_23 ?_
      have hX : (xX1_whoIsOn R F i1 p2) = (-100009 : Int32) := by rw [← hsp, hX1_whoIsOn_2_z]
      exact W.iret (v := (-100009 : Int32)) hx hb hr (fun t ht hW => ⟨by rw [hX], ht⟩) (fun _ h => by cases h) dX1_whoIsOn_25
    · exact absurd (nI_le (a := 8) (b := k) (by omega) (by omega)) c_5
  · intro n ih H locs ls hz
    obtain ⟨k, hkn, hsp, hP, rfl, rfl, hl⟩ := hz
    refine lv_iload_n hx hb dX1_whoIsOn_2 rfl (lv_at hl 0 rfl) ?_
    refine lv_bipush (v := 8) hx hb dX1_whoIsOn_3 (by decide) ?_
    refine lv_icmp_ge (tgt := 23) hx hb dX1_whoIsOn_5 (by decide) (fun c_5 => ?_) (fun c_5 => ?_)
    · exact absurd c_5 (nI_ge (a := k) (b := 8) (by omega) (by omega))
    · refine lv_aload_n hx hb dX1_whoIsOn_8 rfl (lv_at hl 1 rfl) ?_
      refine lv_iload_n hx hb dX1_whoIsOn_9 rfl (lv_at hl 0 rfl) ?_
      refine q_ildN hx hb hK hP i1 8 hi1 k dX1_whoIsOn_10 rfl (by omega) (by decide) ?_
      refine lv_iload_n hx hb dX1_whoIsOn_11 rfl (lv_at hl 2 rfl) ?_
      refine lv_icmp_ne (tgt := 17) hx hb dX1_whoIsOn_12 (by decide) (fun c_12 => ?_) (fun c_12 => ?_)
      · refine lv_iinc (v := (nI (k + 1))) (lv' := [(2, .int (nI (k + 1))), (0, .ref (ad i1)), (1, .int p2)]) hx hb dX1_whoIsOn_17 hl (k := 0) rfl (nI_1 k) (by decide) rfl (fun ls hl => ?_)
        refine lv_goto (tgt := 2) hx hb dX1_whoIsOn_20 (by decide) ?_
        exact ih _ _ _ ⟨(k + 1), by omega, by rw [← hsp, hX1_whoIsOn_2_s, if_neg c_12], hP, rfl, rfl, lv_sub hl [0, 1, 2] rfl⟩
      · refine lv_iload_n hx hb dX1_whoIsOn_15 rfl (lv_at hl 0 rfl) ?_
        have hX : (xX1_whoIsOn R F i1 p2) = (nI k) := by rw [← hsp, hX1_whoIsOn_2_s, if_pos c_12]
        exact W.iret (v := (nI k)) hx hb hr (fun t ht hW => ⟨by rw [hX], ht⟩) (fun _ h => by cases h) dX1_whoIsOn_16

def xX1_exchange (R F : Nat → Nat → Int32) (i1 : Nat) (p2 : Int32) (p3 : Int32) : (Nat → Nat → Int32) :=
  (sR (sR R i1 ((p2).toNatClampNeg) (R i1 (p3).toNatClampNeg)) i1 ((p3).toNatClampNeg) (R i1 (p2).toNatClampNeg))
set_option maxHeartbeats 4000000 in
set_option maxRecDepth 100000 in
theorem mX1_exchange (l : Launch) (D : va_G) (cI cS : ClassId) (ad : Nat → Nat) (hI : Inj ad) (R F : Nat → Nat → Int32) (i1 : Nat) (p2 : Int32) (p3 : Int32) (hi1 : Ar i1 8) (h2 : vp_in p2 8) (h3 : vp_in p3 8) : Met l yX1_exchange wsX1_exchange ({ frames := 0, cells := 0, slots := 0, locals := 0 }) (PW D cI cS ad R F [.ref (ad i1), .int p2, .int p3]) (QV D cI cS ad (xX1_exchange R F i1 p2 p3) F) 0 0 (AA ad) := by
  refine Met.ofW (cc := cX1_exchange) (maxL := 4) (ret := none) (by decide) rfl ?_
  intro p e s m args below meth c s₁ B hml hv
  obtain ⟨rfl, hP, hK⟩ := hv
  have hx := B.exec
  have hb := B.bytes
  have hr := B.returns
  have hts := atoms_spec (ws := wsX1_exchange) B.pre
  have hown : s.vm.findClass RX1 = some m.cls := findClass_of_methodNamed B.named
  have hlocks := B.notSynchronized
  have hS : va_S (AA ad) s.heap s.heap [] := va_S.rf
  have hl := lv_entry ([.ref (ad i1), .int p2, .int p3]) (n := 4) (Nat.le_of_ble_eq_true rfl)
  rw [lg_entry_eq]
  generalize (lg_sl ([.ref (ad i1), .int p2, .int p3]) ++ List.replicate (4 - (lg_sl ([.ref (ad i1), .int p2, .int p3])).length) Slot.unset).toArray = ls at hl ⊢
  have hl : lv_has ls 4 [(0, .ref (ad i1)), (1, .int p2), (2, .int p3)] := hl
  refine lv_aload_n hx hb dX1_exchange_0 rfl (lv_at hl 0 rfl) ?_
  refine lv_iload_n hx hb dX1_exchange_1 rfl (lv_at hl 1 rfl) ?_
  refine q_ild hx hb hK hP i1 8 hi1 dX1_exchange_2 (by first | assumption | exact isCell_in (by assumption) | exact isWalker_in (by assumption) | exact isAboard_in (by assumption) | exact isPair_in1 (by assumption) | exact isPair_in2 (by assumption) | exact isWithin7_in (by assumption) | exact vp_in_nI (by omega) (by decide)) ?_
  refine lv_istore_n (lv' := [(3, .int (R i1 (p2).toNatClampNeg)), (0, .ref (ad i1)), (1, .int p2), (2, .int p3)]) hx hb dX1_exchange_3 rfl hl (by decide) rfl (fun ls hl => ?_)
  refine lv_aload_n hx hb dX1_exchange_4 rfl (lv_at hl 1 rfl) ?_
  refine lv_iload_n hx hb dX1_exchange_5 rfl (lv_at hl 2 rfl) ?_
  refine lv_aload_n hx hb dX1_exchange_6 rfl (lv_at hl 1 rfl) ?_
  refine lv_iload_n hx hb dX1_exchange_7 rfl (lv_at hl 3 rfl) ?_
  refine q_ild hx hb hK hP i1 8 hi1 dX1_exchange_8 (by first | assumption | exact isCell_in (by assumption) | exact isWalker_in (by assumption) | exact isAboard_in (by assumption) | exact isPair_in1 (by assumption) | exact isPair_in2 (by assumption) | exact isWithin7_in (by assumption) | exact vp_in_nI (by omega) (by decide)) ?_
  refine q_ist hx hb hK hI hP hS i1 8 hi1 dX1_exchange_9 (by first | assumption | exact isCell_in (by assumption) | exact isWalker_in (by assumption) | exact isAboard_in (by assumption) | exact isPair_in1 (by assumption) | exact isPair_in2 (by assumption) | exact isWithin7_in (by assumption) | exact vp_in_nI (by omega) (by decide)) (fun H locs hP hS => ?_)
  have hP : WP D cI cS ad (sR R i1 ((p2).toNatClampNeg) (R i1 (p3).toNatClampNeg)) F H := hP
  refine lv_aload_n hx hb dX1_exchange_10 rfl (lv_at hl 1 rfl) ?_
  refine lv_iload_n hx hb dX1_exchange_11 rfl (lv_at hl 3 rfl) ?_
  refine lv_iload_n hx hb dX1_exchange_12 rfl (lv_at hl 0 rfl) ?_
  refine q_ist hx hb hK hI hP hS i1 8 hi1 dX1_exchange_13 (by first | assumption | exact isCell_in (by assumption) | exact isWalker_in (by assumption) | exact isAboard_in (by assumption) | exact isPair_in1 (by assumption) | exact isPair_in2 (by assumption) | exact isWithin7_in (by assumption) | exact vp_in_nI (by omega) (by decide)) (fun H locs hP hS => ?_)
  have hP : WP D cI cS ad (sR (sR R i1 ((p2).toNatClampNeg) (R i1 (p3).toNatClampNeg)) i1 ((p3).toNatClampNeg) (R i1 (p2).toNatClampNeg)) F H := hP
  have hX : (xX1_exchange R F i1 p2 p3) = (sR (sR R i1 ((p2).toNatClampNeg) (R i1 (p3).toNatClampNeg)) i1 ((p3).toNatClampNeg) (R i1 (p2).toNatClampNeg)) := by unfold xX1_exchange; rfl
  exact W.vret hx hb hr (fun t ht hW => ⟨rfl, by rw [hX, ht]; with_reducible exact hP, hS.F ht⟩) hS.2.2 dX1_exchange_14

def xX1_orZero (p1 : Int32) : Int32 :=
  (if p1 = (-100009 : Int32) then (0 : Int32) else p1)
set_option maxHeartbeats 4000000 in
set_option maxRecDepth 100000 in
theorem mX1_orZero (l : Launch) (D : va_G) (cI cS : ClassId) (ad : Nat → Nat) (hI : Inj ad) (R F : Nat → Nat → Int32) (p1 : Int32) : Met l yX1_orZero wsX1_orZero ({ frames := 0, cells := 0, slots := 0, locals := 0 }) (PW D cI cS ad R F [.int p1]) (QS (xX1_orZero p1)) 0 0 (fun _ => False) := by
  refine Met.ofW (cc := cX1_orZero) (maxL := 1) (ret := (some .int)) (by decide) rfl ?_
  intro p e s m args below meth c s₁ B hml hv
  obtain ⟨rfl, hP, hK⟩ := hv
  have hx := B.exec
  have hb := B.bytes
  have hr := B.returns
  have hts := atoms_spec (ws := wsX1_orZero) B.pre
  have hown : s.vm.findClass RX1 = some m.cls := findClass_of_methodNamed B.named
  have hlocks := B.notSynchronized
  have hS : va_S (AA ad) s.heap s.heap [] := va_S.rf
  have hl := lv_entry ([.int p1]) (n := 1) (Nat.le_of_ble_eq_true rfl)
  rw [lg_entry_eq]
  generalize (lg_sl ([.int p1]) ++ List.replicate (1 - (lg_sl ([.int p1])).length) Slot.unset).toArray = ls at hl ⊢
  have hl : lv_has ls 1 [(0, .int p1)] := hl
  have lk78 := hts (.constant RX1 78 (-100009)) (by decide +kernel)
  refine lv_iload_n hx hb dX1_orZero_0 rfl (lv_at hl 0 rfl) ?_
  refine lv_ldc (v := -100009) hx hb hown lk78 dX1_orZero_1 ?_
  refine lv_icmp_ne (tgt := 10) hx hb dX1_orZero_3 (by decide) (fun c_3 => ?_) (fun c_3 => ?_)
  · refine lv_iload_n hx hb dX1_orZero_10 rfl (lv_at hl 0 rfl) ?_
    have hX : (xX1_orZero p1) = p1 := by unfold xX1_orZero; rw [if_neg c_3]
    exact W.iret (v := p1) hx hb hr (fun t ht hW => ⟨by rw [hX], ht⟩) (fun _ h => by cases h) dX1_orZero_11
  · refine lv_iconst (v := 0) hx hb dX1_orZero_6 (by decide) ?_
    refine lv_goto (tgt := 11) hx hb dX1_orZero_7 (by decide) ?_
    have hX : (xX1_orZero p1) = (0 : Int32) := by unfold xX1_orZero; rw [if_pos c_3]
    exact W.iret (v := (0 : Int32)) hx hb hr (fun t ht hW => ⟨by rw [hX], ht⟩) (fun _ h => by cases h) dX1_orZero_11

def xX1_slotAfter (R F : Nat → Nat → Int32) (p1 : Int32) : Int32 :=
  (xJ9_floorMod_7cf53 ((F 0 0) + p1) (5 : Int32))
set_option maxHeartbeats 4000000 in
set_option maxRecDepth 100000 in
theorem mX1_slotAfter (l : Launch) (D : va_G) (cI cS : ClassId) (ad : Nat → Nat) (hI : Inj ad) (R F : Nat → Nat → Int32) (p1 : Int32) : Met l yX1_slotAfter wsX1_slotAfter ({ frames := 1, cells := 0, slots := 0, locals := 22 }) (PW D cI cS ad R F [.ref (ad 0), .int p1]) (QS (xX1_slotAfter R F p1)) 0 0 (fun _ => False) := by
  refine Met.ofW (cc := cX1_slotAfter) (maxL := 2) (ret := (some .int)) (by decide) rfl ?_
  intro p e s m args below meth c s₁ B hml hv
  obtain ⟨rfl, hP, hK⟩ := hv
  have hx := B.exec
  have hb := B.bytes
  have hr := B.returns
  have hts := atoms_spec (ws := wsX1_slotAfter) B.pre
  have hown : s.vm.findClass RX1 = some m.cls := findClass_of_methodNamed B.named
  have hlocks := B.notSynchronized
  have hS : va_S (AA ad) s.heap s.heap [] := va_S.rf
  have hl := lv_entry ([.ref (ad 0), .int p1]) (n := 2) (Nat.le_of_ble_eq_true rfl)
  rw [lg_entry_eq]
  generalize (lg_sl ([.ref (ad 0), .int p1]) ++ List.replicate (2 - (lg_sl ([.ref (ad 0), .int p1])).length) Slot.unset).toArray = ls at hl ⊢
  have hl : lv_has ls 2 [(0, .ref (ad 0)), (1, .int p1)] := hl
  have lk20 := hts (.fieldLink RX1 20 "FerryFloor" "oldest" "I") (by decide +kernel)
  have hin1 : ∀ w ∈ u_ws RX1 TX1 7, w ∈ wsX1_slotAfter := by decide +kernel
  refine lv_aload_n hx hb dX1_slotAfter_0 rfl (lv_at hl 0 rfl) ?_
  refine q_getF (v := .int (F 0 0)) hx hb hts hin1 hown hK hP 2 (by decide) lk20 (fun _ h => h) rfl dX1_slotAfter_1 ?_
  refine lv_iload_n hx hb dX1_slotAfter_4 rfl (lv_at hl 1 rfl) ?_
  refine lv_iadd hx hb dX1_slotAfter_5 ?_
  refine lv_iconst (v := 5) hx hb dX1_slotAfter_6 (by decide) ?_
  refine q_callS (va_runS (As := [.int ((F 0 0) + p1), .int (5 : Int32)]) (rest := []) ⟨hx, hb, hml, hown, hts⟩ (mJ9_floorMod_7cf53 l D cI cS ad hI R F ((F 0 0) + p1) (5 : Int32) (by decide)) (va_cwS 2 hts gX1_slotAfter_J9_floorMod_7cf53 rfl rfl rfl (by decide +kernel) ⟨Nat.le_of_ble_eq_true rfl, Nat.le_of_ble_eq_true rfl⟩) (PW_preS hK hP) rfl rfl hl.1 rfl (lv_room (Nat.le_of_ble_eq_true rfl)) dX1_slotAfter_7 ⟨Nat.zero_le _, Nat.zero_le _⟩) ?_
  have hX : (xX1_slotAfter R F p1) = (xJ9_floorMod_7cf53 ((F 0 0) + p1) (5 : Int32)) := by unfold xX1_slotAfter; rfl
  exact W.iret (v := (xJ9_floorMod_7cf53 ((F 0 0) + p1) (5 : Int32))) hx hb hr (fun t ht hW => ⟨by rw [hX], ht⟩) (fun _ h => by cases h) dX1_slotAfter_10

def xX1_copyRow (R F : Nat → Nat → Int32) (i1 : Nat) (i2 : Nat) (n0 : Nat) : (Nat → Nat → Int32) :=
  (va_up R i2 (va_cpy (R i1) (R i2) 0 0 n0))
set_option maxHeartbeats 4000000 in
set_option maxRecDepth 100000 in
theorem mX1_copyRow (l : Launch) (D : va_G) (cI cS : ClassId) (ad : Nat → Nat) (hI : Inj ad) (R F : Nat → Nat → Int32) (i1 : Nat) (i2 : Nat) (n0 : Nat) (hi1 : Ar i1 n0) (hi2 : Ar i2 n0) (hn : n0 < 2 ^ 31) : Met l yX1_copyRow wsX1_copyRow ({ frames := 1, cells := 0, slots := 0, locals := 48 }) (PW D cI cS ad R F [.ref (ad i1), .ref (ad i2)]) (QV D cI cS ad (xX1_copyRow R F i1 i2 n0) F) 0 0 (AA ad) := by
  refine Met.ofW (cc := cX1_copyRow) (maxL := 2) (ret := none) (by decide) rfl ?_
  intro p e s m args below meth c s₁ B hml hv
  obtain ⟨rfl, hP, hK⟩ := hv
  have hx := B.exec
  have hb := B.bytes
  have hr := B.returns
  have hts := atoms_spec (ws := wsX1_copyRow) B.pre
  have hown : s.vm.findClass RX1 = some m.cls := findClass_of_methodNamed B.named
  have hlocks := B.notSynchronized
  have hS : va_S (AA ad) s.heap s.heap [] := va_S.rf
  have hl := lv_entry ([.ref (ad i1), .ref (ad i2)]) (n := 2) (Nat.le_of_ble_eq_true rfl)
  rw [lg_entry_eq]
  generalize (lg_sl ([.ref (ad i1), .ref (ad i2)]) ++ List.replicate (2 - (lg_sl ([.ref (ad i1), .ref (ad i2)])).length) Slot.unset).toArray = ls at hl ⊢
  have hl : lv_has ls 2 [(0, .ref (ad i1)), (1, .ref (ad i2))] := hl
  refine lv_aload_n hx hb dX1_copyRow_0 rfl (lv_at hl 0 rfl) ?_
  refine lv_iconst (v := 0) hx hb dX1_copyRow_1 (by decide) ?_
  refine lv_aload_n hx hb dX1_copyRow_2 rfl (lv_at hl 1 rfl) ?_
  refine lv_iconst (v := 0) hx hb dX1_copyRow_3 (by decide) ?_
  refine lv_aload_n hx hb dX1_copyRow_4 rfl (lv_at hl 0 rfl) ?_
  refine q_len hx hb hK hP i1 n0 hi1 dX1_copyRow_5 ?_
  refine lv_aload_n hx hb dX1_copyRow_6 rfl (lv_at hl 1 rfl) ?_
  refine q_len hx hb hK hP i2 n0 hi2 dX1_copyRow_7 ?_
  refine va_mmin hx hb (hml.trans hl.1.symm) hown (hts (.methodLink RX1 205 Lib.Math.min.name) (by decide +kernel)) (hts (.static Lib.Math.min.name) (by decide +kernel)) (hts (.initialized "java/lang/Math") (by decide +kernel)) (hts (.code Lib.Math.min.name Lib.Math.min.code 2 (some .int)) (by decide +kernel)) (Nat.le_of_ble_eq_true rfl) (Nat.le_of_ble_eq_true rfl) (Nat.zero_le _) (Nat.zero_le _) dX1_copyRow_8 ?_
  refine q_top (y := (nI n0)) (by split <;> rfl) ?_
  refine q_copy hx hb (hml.trans hl.1.symm) hown (hts (.methodLink RX1 217 arraycopyName) (by decide +kernel)) (hts (.native arraycopyName) (by decide +kernel)) (hts (.static arraycopyName) (by decide +kernel)) (hts (.initialized "java/lang/System") (by decide +kernel)) hK hI hP hS i1 i2 n0 hi1 hi2 hn (Nat.le_of_ble_eq_true rfl) (by decide) dX1_copyRow_11 (fun H locs hP hS => ?_)
  have hX : (xX1_copyRow R F i1 i2 n0) = (va_up R i2 (va_cpy (R i1) (R i2) 0 0 n0)) := by unfold xX1_copyRow; rfl
  exact W.vret hx hb hr (fun t ht hW => ⟨rfl, by rw [hX, ht]; with_reducible exact hP, hS.F ht⟩) hS.2.2 dX1_copyRow_14

def hX1_sumOf_4 (R F : Nat → Nat → Int32) (i1 : Nat) : Nat → Nat → Int32 → Int32
  | 0, k, x1 => x1
  | n + 1, k, x1 => (hX1_sumOf_4 R F i1 n (k + 1) (x1 + (R i1 k)))
theorem hX1_sumOf_4_z (R F : Nat → Nat → Int32) (i1 : Nat) (k : Nat) (x1 : Int32) : hX1_sumOf_4 R F i1 0 k x1 = x1 := rfl
theorem hX1_sumOf_4_s (R F : Nat → Nat → Int32) (i1 : Nat) (n : Nat) (k : Nat) (x1 : Int32) : hX1_sumOf_4 R F i1 (n + 1) k x1 = (hX1_sumOf_4 R F i1 n (k + 1) (x1 + (R i1 k))) := rfl
def xX1_sumOf (R F : Nat → Nat → Int32) (i1 : Nat) : Int32 :=
  (hX1_sumOf_4 R F i1 24 0 (0 : Int32))
set_option maxHeartbeats 4000000 in
set_option maxRecDepth 100000 in
theorem mX1_sumOf (l : Launch) (D : va_G) (cI cS : ClassId) (ad : Nat → Nat) (hI : Inj ad) (R F : Nat → Nat → Int32) (i1 : Nat) (hi1 : Ar i1 24) : Met l yX1_sumOf wsX1_sumOf ({ frames := 0, cells := 0, slots := 0, locals := 0 }) (PW D cI cS ad R F [.ref (ad i1)]) (QS (xX1_sumOf R F i1)) 0 0 (fun _ => False) := by
  refine Met.ofW (cc := cX1_sumOf) (maxL := 3) (ret := (some .int)) (by decide) rfl ?_
  intro p e s m args below meth c s₁ B hml hv
  obtain ⟨rfl, hP, hK⟩ := hv
  have hx := B.exec
  have hb := B.bytes
  have hr := B.returns
  have hts := atoms_spec (ws := wsX1_sumOf) B.pre
  have hown : s.vm.findClass RX1 = some m.cls := findClass_of_methodNamed B.named
  have hlocks := B.notSynchronized
  have hS : va_S (AA ad) s.heap s.heap [] := va_S.rf
  have hl := lv_entry ([.ref (ad i1)]) (n := 3) (Nat.le_of_ble_eq_true rfl)
  rw [lg_entry_eq]
  generalize (lg_sl ([.ref (ad i1)]) ++ List.replicate (3 - (lg_sl ([.ref (ad i1)])).length) Slot.unset).toArray = ls at hl ⊢
  have hl : lv_has ls 3 [(0, .ref (ad i1))] := hl
  refine lv_iconst (v := 0) hx hb dX1_sumOf_0 (by decide) ?_
  refine lv_istore_n (lv' := [(1, .int (0 : Int32)), (0, .ref (ad i1))]) hx hb dX1_sumOf_1 rfl hl (by decide) rfl (fun ls hl => ?_)
  refine lv_iconst (v := 0) hx hb dX1_sumOf_2 (by decide) ?_
  refine lv_istore_n (lv' := [(2, .int (0 : Int32)), (1, .int (0 : Int32)), (0, .ref (ad i1))]) hx hb dX1_sumOf_3 rfl hl (by decide) rfl (fun ls hl => ?_)
  refine q_loop (fun nn H locs ls => ∃ (k : Nat) (x1 : Int32), k + nn = 24 ∧ hX1_sumOf_4 R F i1 nn k x1 = (xX1_sumOf R F i1) ∧ WP D cI cS ad R F H ∧ locs = [] ∧ H = s.heap ∧ lv_has ls 3 [(2, .int (nI k)), (1, .int x1), (0, .ref (ad i1))]) 24 ⟨0, (0 : Int32), by omega, by unfold xX1_sumOf; rfl, hP, rfl, rfl, lv_sub hl [0, 1, 2] rfl⟩ ?_ ?_
  · intro H locs ls hz
    obtain ⟨k, x1, hkn, hsp, hP, rfl, rfl, hl⟩ := hz
    refine lv_iload_n hx hb dX1_sumOf_4 rfl (lv_at hl 0 rfl) ?_
    refine lv_aload_n hx hb dX1_sumOf_5 rfl (lv_at hl 2 rfl) ?_
    refine q_len hx hb hK hP i1 24 hi1 dX1_sumOf_6 ?_
    refine lv_icmp_ge (tgt := 22) hx hb dX1_sumOf_7 (by decide) (fun c_7 => ?_) (fun c_7 => ?_)
    · refine lv_iload_n hx hb dX1_sumOf_22 rfl (lv_at hl 1 rfl) ?_
      have hX : (xX1_sumOf R F i1) = x1 := by rw [← hsp, hX1_sumOf_4_z]
      exact W.iret (v := x1) hx hb hr (fun t ht hW => ⟨by rw [hX], ht⟩) (fun _ h => by cases h) dX1_sumOf_23
    · exact absurd (nI_le (a := 24) (b := k) (by omega) (by omega)) c_7
  · intro n ih H locs ls hz
    obtain ⟨k, x1, hkn, hsp, hP, rfl, rfl, hl⟩ := hz
    refine lv_iload_n hx hb dX1_sumOf_4 rfl (lv_at hl 0 rfl) ?_
    refine lv_aload_n hx hb dX1_sumOf_5 rfl (lv_at hl 2 rfl) ?_
    refine q_len hx hb hK hP i1 24 hi1 dX1_sumOf_6 ?_
    refine lv_icmp_ge (tgt := 22) hx hb dX1_sumOf_7 (by decide) (fun c_7 => ?_) (fun c_7 => ?_)
    · exact absurd c_7 (nI_ge (a := k) (b := 24) (by omega) (by omega))
    · refine lv_iload_n hx hb dX1_sumOf_10 rfl (lv_at hl 1 rfl) ?_
      refine lv_aload_n hx hb dX1_sumOf_11 rfl (lv_at hl 2 rfl) ?_
      refine lv_iload_n hx hb dX1_sumOf_12 rfl (lv_at hl 0 rfl) ?_
      refine q_ildN hx hb hK hP i1 24 hi1 k dX1_sumOf_13 rfl (by omega) (by decide) ?_
      refine lv_iadd hx hb dX1_sumOf_14 ?_
      refine lv_istore_n (lv' := [(1, .int (x1 + (R i1 k))), (2, .int (nI k)), (0, .ref (ad i1))]) hx hb dX1_sumOf_15 rfl hl (by decide) rfl (fun ls hl => ?_)
      refine lv_iinc (v := (nI (k + 1))) (lv' := [(2, .int (nI (k + 1))), (1, .int (x1 + (R i1 k))), (0, .ref (ad i1))]) hx hb dX1_sumOf_16 hl (k := 1) rfl (nI_1 k) (by decide) rfl (fun ls hl => ?_)
      refine lv_goto (tgt := 4) hx hb dX1_sumOf_19 (by decide) ?_
      exact ih _ _ _ ⟨(k + 1), (x1 + (R i1 k)), by omega, by rw [← hsp, hX1_sumOf_4_s], hP, rfl, rfl, lv_sub hl [0, 1, 2] rfl⟩

theorem nx_xor (a b : Nat) : nI a ^^^ nI b = nI (a ^^^ b) := by
  apply Int32.toBitVec_inj.1
  show BitVec.ofNat 32 a ^^^ BitVec.ofNat 32 b = BitVec.ofNat 32 (a ^^^ b)
  apply BitVec.eq_of_getLsbD_eq
  intro i hi
  simp [hi]
theorem fm_eq {a : Nat} (h : a < 2 ^ 31) : xJ9_floorMod_7cf53 (nI a) 5 = nI (a % 5) := by
  have e : nI a - nI a / 5 * 5 = nI (a % 5) := pk_rem (d := 5) h (by decide) (by decide)
  unfold xJ9_floorMod_7cf53
  rw [e]
  split
  · rfl
  · next h1 =>
    exfalso
    apply h1
    rw [show nI a ^^^ (5 : Int32) = nI (a ^^^ 5) from nx_xor a 5]
    exact nI_pos' (Nat.xor_lt_two_pow h (by decide))
theorem slot_eq {R F : Nat → Nat → Int32} {a b : Nat} {p : Int32} (h0 : F 0 0 = nI a) (hp : p = nI b) (h : a + b < 2 ^ 31) : xX1_slotAfter R F p = nI ((a + b) % 5) := by
  unfold xX1_slotAfter
  rw [h0, hp, nI_add]
  exact fm_eq h
