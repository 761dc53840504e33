theorem i_nlt {a b : Int32} (h : ¬ a < b) : b.toInt ≤ a.toInt := by
  rw [Int32.lt_iff_toInt_lt] at h
  omega
theorem i_nle {a b : Int32} (h : ¬ a ≤ b) : b.toInt < a.toInt := by
  rw [Int32.le_iff_toInt_le] at h
  omega
theorem i_0 : (0 : Int32).toInt = 0 := rfl
theorem i_7 : (7 : Int32).toInt = 7 := rfl
theorem i_8 : (8 : Int32).toInt = 8 := rfl
theorem i_24 : (24 : Int32).toInt = 24 := rfl
def xJ9_floorMod_7cf53 (p1 : Int32) (p2 : Int32) : Int32 :=
  (if (0 : Int32) ≤ (p1 ^^^ p2) then (p1 - p1 / p2 * p2) else (if (p1 - p1 / p2 * p2) = (0 : Int32) then (p1 - p1 / p2 * p2) else ((p1 - p1 / p2 * p2) + p2)))
set_option maxHeartbeats 4000000 in
set_option maxRecDepth 100000 in
theorem mJ9_floorMod_7cf53 (l : Launch) (D : va_G) (cI cS : ClassId) (ad : Nat → Nat) (hI : Inj ad) (R F : Nat → Nat → Int32) (p1 : Int32) (p2 : Int32) (hne : ¬ p2 = 0) : Met l yJ9_floorMod_7cf53 wsJ9_floorMod_7cf53 ({ frames := 0, cells := 0, slots := 0, locals := 0 }) (PW D cI cS ad R F [.int p1, .int p2]) (QS (xJ9_floorMod_7cf53 p1 p2)) 0 0 (fun _ => False) := by
  refine Met.ofWF (cc := cJ9_floorMod_7cf53) (maxL := 3) (ret := (some .int)) (by decide +kernel) rfl ?_
  intro p e s m args below meth c s₁ B hml hv
  obtain ⟨rfl, hP, hK⟩ := hv
  have hx := B.exec
  have hb := B.bytes
  have hr := B.returns
  have hts := atoms_spec (ws := wsJ9_floorMod_7cf53) B.pre
  have hown : s.vm.findClass RJ9 = some m.cls := findClass_of_methodNamed B.named
  have hlocks := B.notSynchronized
  have hS : va_S (AA ad) s.heap s.heap [] := va_S.rf
  have hl := lv_entry ([.int p1, .int p2]) (n := 3) (Nat.le_of_ble_eq_true rfl)
  rw [lg_entry_eq]
  generalize (lg_sl ([.int p1, .int p2]) ++ List.replicate (3 - (lg_sl ([.int p1, .int p2])).length) Slot.unset).toArray = ls at hl ⊢
  have hl : lv_has ls 3 [(0, .int p1), (1, .int p2)] := hl
  refine lv_iload_n hx hb dJ9_floorMod_7cf53_0 rfl (lv_at hl 0 rfl) ?_
  refine lv_iload_n hx hb dJ9_floorMod_7cf53_1 rfl (lv_at hl 1 rfl) ?_
  refine lv_irem hx hb dJ9_floorMod_7cf53_2 hne ?_
  refine lv_istore_n (lv' := [(2, .int (p1 - p1 / p2 * p2)), (0, .int p1), (1, .int p2)]) hx hb dJ9_floorMod_7cf53_3 rfl hl (by decide) rfl (fun ls hl => ?_)
  refine lv_iload_n hx hb dJ9_floorMod_7cf53_4 rfl (lv_at hl 1 rfl) ?_
  refine lv_iload_n hx hb dJ9_floorMod_7cf53_5 rfl (lv_at hl 2 rfl) ?_
  refine lv_ixor hx hb dJ9_floorMod_7cf53_6 ?_
  refine lv_if_ge (tgt := 18) hx hb dJ9_floorMod_7cf53_7 (by decide) (fun c_7 => ?_) (fun c_7 => ?_)
  · refine lv_iload_n hx hb dJ9_floorMod_7cf53_18 rfl (lv_at hl 0 rfl) ?_
    have hX : (xJ9_floorMod_7cf53 p1 p2) = (p1 - p1 / p2 * p2) := by unfold xJ9_floorMod_7cf53; rw [if_pos c_7]
    exact W.iret (v := (p1 - p1 / p2 * p2)) hx hb hr (fun t ht hW => ⟨by rw [hX], ht⟩) (fun _ h => by cases h) dJ9_floorMod_7cf53_19
  · refine lv_iload_n hx hb dJ9_floorMod_7cf53_10 rfl (lv_at hl 0 rfl) ?_
    refine lv_if_eq (tgt := 18) hx hb dJ9_floorMod_7cf53_11 (by decide) (fun c_11 => ?_) (fun c_11 => ?_)
    · refine lv_iload_n hx hb dJ9_floorMod_7cf53_18 rfl (lv_at hl 0 rfl) ?_
      have hX : (xJ9_floorMod_7cf53 p1 p2) = (p1 - p1 / p2 * p2) := by unfold xJ9_floorMod_7cf53; rw [if_neg c_7, if_pos c_11]
      exact W.iret (v := (p1 - p1 / p2 * p2)) hx hb hr (fun t ht hW => ⟨by rw [hX], ht⟩) (fun _ h => by cases h) dJ9_floorMod_7cf53_19
    · refine lv_iload_n hx hb dJ9_floorMod_7cf53_14 rfl (lv_at hl 0 rfl) ?_
      refine lv_iload_n hx hb dJ9_floorMod_7cf53_15 rfl (lv_at hl 2 rfl) ?_
      refine lv_iadd hx hb dJ9_floorMod_7cf53_16 ?_
      have hX : (xJ9_floorMod_7cf53 p1 p2) = ((p1 - p1 / p2 * p2) + p2) := by unfold xJ9_floorMod_7cf53; rw [if_neg c_7, if_neg c_11]
      exact W.iret (v := ((p1 - p1 / p2 * p2) + p2)) hx hb hr (fun t ht hW => ⟨by rw [hX], ht⟩) (fun _ h => by cases h) dJ9_floorMod_7cf53_17

def xX1_isWithin (p1 : Int32) (p2 : Int32) (p3 : Int32) : Int32 :=
  (if p1 < p2 then (0 : Int32) else (if p3 < p1 then (0 : Int32) else (1 : Int32)))
set_option maxHeartbeats 4000000 in
set_option maxRecDepth 100000 in
theorem mX1_isWithin (l : Launch) (D : va_G) (cI cS : ClassId) (ad : Nat → Nat) (hI : Inj ad) (R F : Nat → Nat → Int32) (p1 : Int32) (p2 : Int32) (p3 : Int32) : Met l yX1_isWithin wsX1_isWithin ({ frames := 0, cells := 0, slots := 0, locals := 0 }) (PW D cI cS ad R F [.int p1, .int p2, .int p3]) (QS (xX1_isWithin p1 p2 p3)) 0 0 (fun _ => False) := by
  refine Met.ofW (cc := cX1_isWithin) (maxL := 3) (ret := (some .boolean)) (by decide) rfl ?_
  intro p e s m args below meth c s₁ B hml hv
  obtain ⟨rfl, hP, hK⟩ := hv
  have hx := B.exec
  have hb := B.bytes
  have hr := B.returns
  have hts := atoms_spec (ws := wsX1_isWithin) B.pre
  have hown : s.vm.findClass RX1 = some m.cls := findClass_of_methodNamed B.named
  have hlocks := B.notSynchronized
  have hS : va_S (AA ad) s.heap s.heap [] := va_S.rf
  have hl := lv_entry ([.int p1, .int p2, .int p3]) (n := 3) (Nat.le_of_ble_eq_true rfl)
  rw [lg_entry_eq]
  generalize (lg_sl ([.int p1, .int p2, .int p3]) ++ List.replicate (3 - (lg_sl ([.int p1, .int p2, .int p3])).length) Slot.unset).toArray = ls at hl ⊢
  have hl : lv_has ls 3 [(0, .int p1), (1, .int p2), (2, .int p3)] := hl
  refine lv_iload_n hx hb dX1_isWithin_0 rfl (lv_at hl 0 rfl) ?_
  refine lv_iload_n hx hb dX1_isWithin_1 rfl (lv_at hl 1 rfl) ?_
  refine lv_icmp_lt (tgt := 14) hx hb dX1_isWithin_2 (by decide) (fun c_2 => ?_) (fun c_2 => ?_)
  · refine lv_iconst (v := 0) hx hb dX1_isWithin_14 (by decide) ?_
    have hX : (xX1_isWithin p1 p2 p3) = (0 : Int32) := by unfold xX1_isWithin; rw [if_pos c_2]
    exact W.zret (v := (0 : Int32)) hx hb hr rfl (fun t ht hW => ⟨by rw [hX], ht⟩) (fun _ h => by cases h) dX1_isWithin_15
  · refine lv_iload_n hx hb dX1_isWithin_5 rfl (lv_at hl 0 rfl) ?_
    refine lv_iload_n hx hb dX1_isWithin_6 rfl (lv_at hl 2 rfl) ?_
    refine lv_icmp_gt (tgt := 14) hx hb dX1_isWithin_7 (by decide) (fun c_7 => ?_) (fun c_7 => ?_)
    · refine lv_iconst (v := 0) hx hb dX1_isWithin_14 (by decide) ?_
      have hX : (xX1_isWithin p1 p2 p3) = (0 : Int32) := by unfold xX1_isWithin; rw [if_neg c_2, if_pos c_7]
      exact W.zret (v := (0 : Int32)) hx hb hr rfl (fun t ht hW => ⟨by rw [hX], ht⟩) (fun _ h => by cases h) dX1_isWithin_15
    · refine lv_iconst (v := 1) hx hb dX1_isWithin_10 (by decide) ?_
      refine lv_goto (tgt := 15) hx hb dX1_isWithin_11 (by decide) ?_
      have hX : (xX1_isWithin p1 p2 p3) = (1 : Int32) := by unfold xX1_isWithin; rw [if_neg c_2, if_neg c_7]
      exact W.zret (v := (1 : Int32)) hx hb hr rfl (fun t ht hW => ⟨by rw [hX], ht⟩) (fun _ h => by cases h) dX1_isWithin_15

theorem nz_X1_isWithin (a b c : Int32) : narrow .boolean (.int (xX1_isWithin a b c)) = .int (xX1_isWithin a b c) := by
  unfold xX1_isWithin
  split
  · rfl
  · split <;> rfl
def xX1_isCell (p1 : Int32) : Int32 :=
  (if p1 < (0 : Int32) then (0 : Int32) else (if (24 : Int32) ≤ p1 then (0 : Int32) else (1 : Int32)))
set_option maxHeartbeats 4000000 in
set_option maxRecDepth 100000 in
theorem mX1_isCell (l : Launch) (D : va_G) (cI cS : ClassId) (ad : Nat → Nat) (hI : Inj ad) (R F : Nat → Nat → Int32) (p1 : Int32) : Met l yX1_isCell wsX1_isCell ({ frames := 0, cells := 0, slots := 0, locals := 0 }) (PW D cI cS ad R F [.int p1]) (QS (xX1_isCell p1)) 0 0 (fun _ => False) := by
  refine Met.ofW (cc := cX1_isCell) (maxL := 1) (ret := (some .boolean)) (by decide) rfl ?_
  intro p e s m args below meth c s₁ B hml hv
  obtain ⟨rfl, hP, hK⟩ := hv
  have hx := B.exec
  have hb := B.bytes
  have hr := B.returns
  have hts := atoms_spec (ws := wsX1_isCell) B.pre
  have hown : s.vm.findClass RX1 = some m.cls := findClass_of_methodNamed B.named
  have hlocks := B.notSynchronized
  have hS : va_S (AA ad) s.heap s.heap [] := va_S.rf
  have hl := lv_entry ([.int p1]) (n := 1) (Nat.le_of_ble_eq_true rfl)
  rw [lg_entry_eq]
  generalize (lg_sl ([.int p1]) ++ List.replicate (1 - (lg_sl ([.int p1])).length) Slot.unset).toArray = ls at hl ⊢
  have hl : lv_has ls 1 [(0, .int p1)] := hl
  refine lv_iload_n hx hb dX1_isCell_0 rfl (lv_at hl 0 rfl) ?_
  refine lv_if_lt (tgt := 14) hx hb dX1_isCell_1 (by decide) (fun c_1 => ?_) (fun c_1 => ?_)
  · refine lv_iconst (v := 0) hx hb dX1_isCell_14 (by decide) ?_
    have hX : (xX1_isCell p1) = (0 : Int32) := by unfold xX1_isCell; rw [if_pos c_1]
    exact W.zret (v := (0 : Int32)) hx hb hr rfl (fun t ht hW => ⟨by rw [hX], ht⟩) (fun _ h => by cases h) dX1_isCell_15
  · refine lv_iload_n hx hb dX1_isCell_4 rfl (lv_at hl 0 rfl) ?_
    refine lv_bipush (v := 24) hx hb dX1_isCell_5 (by decide) ?_
    refine lv_icmp_ge (tgt := 14) hx hb dX1_isCell_7 (by decide) (fun c_7 => ?_) (fun c_7 => ?_)
    · refine lv_iconst (v := 0) hx hb dX1_isCell_14 (by decide) ?_
      have hX : (xX1_isCell p1) = (0 : Int32) := by unfold xX1_isCell; rw [if_neg c_1, if_pos c_7]
      exact W.zret (v := (0 : Int32)) hx hb hr rfl (fun t ht hW => ⟨by rw [hX], ht⟩) (fun _ h => by cases h) dX1_isCell_15
    · refine lv_iconst (v := 1) hx hb dX1_isCell_10 (by decide) ?_
      refine lv_goto (tgt := 15) hx hb dX1_isCell_11 (by decide) ?_
      have hX : (xX1_isCell p1) = (1 : Int32) := by unfold xX1_isCell; rw [if_neg c_1, if_neg c_7]
      exact W.zret (v := (1 : Int32)) hx hb hr rfl (fun t ht hW => ⟨by rw [hX], ht⟩) (fun _ h => by cases h) dX1_isCell_15

def xX1_isWeight (p1 : Int32) : Int32 :=
  (xX1_isWithin p1 (20 : Int32) (150 : Int32))
set_option maxHeartbeats 4000000 in
set_option maxRecDepth 100000 in
theorem mX1_isWeight (l : Launch) (D : va_G) (cI cS : ClassId) (ad : Nat → Nat) (hI : Inj ad) (R F : Nat → Nat → Int32) (p1 : Int32) : Met l yX1_isWeight wsX1_isWeight ({ frames := 1, cells := 0, slots := 0, locals := 22 }) (PW D cI cS ad R F [.int p1]) (QS (xX1_isWeight p1)) 0 0 (fun _ => False) := by
  refine Met.ofW (cc := cX1_isWeight) (maxL := 1) (ret := (some .boolean)) (by decide) rfl ?_
  intro p e s m args below meth c s₁ B hml hv
  obtain ⟨rfl, hP, hK⟩ := hv
  have hx := B.exec
  have hb := B.bytes
  have hr := B.returns
  have hts := atoms_spec (ws := wsX1_isWeight) B.pre
  have hown : s.vm.findClass RX1 = some m.cls := findClass_of_methodNamed B.named
  have hlocks := B.notSynchronized
  have hS : va_S (AA ad) s.heap s.heap [] := va_S.rf
  have hl := lv_entry ([.int p1]) (n := 1) (Nat.le_of_ble_eq_true rfl)
  rw [lg_entry_eq]
  generalize (lg_sl ([.int p1]) ++ List.replicate (1 - (lg_sl ([.int p1])).length) Slot.unset).toArray = ls at hl ⊢
  have hl : lv_has ls 1 [(0, .int p1)] := hl
  refine lv_iload_n hx hb dX1_isWeight_0 rfl (lv_at hl 0 rfl) ?_
  refine lv_bipush (v := 20) hx hb dX1_isWeight_1 (by decide) ?_
  refine lv_sipush (v := 150) hx hb dX1_isWeight_3 (by decide) ?_
  refine q_callS (va_runS (As := [.int p1, .int (20 : Int32), .int (150 : Int32)]) (rest := []) ⟨hx, hb, hml, hown, hts⟩ (mX1_isWithin l D cI cS ad hI R F p1 (20 : Int32) (150 : Int32)) (va_cwS 3 hts gX1_isWeight_X1_isWithin rfl rfl rfl (by decide +kernel) ⟨Nat.le_of_ble_eq_true rfl, Nat.le_of_ble_eq_true rfl⟩) (PW_preS hK hP) rfl rfl hl.1 rfl (lv_room (Nat.le_of_ble_eq_true rfl)) dX1_isWeight_6 ⟨Nat.zero_le _, Nat.zero_le _⟩) ?_
  have hX : (xX1_isWeight p1) = (xX1_isWithin p1 (20 : Int32) (150 : Int32)) := by unfold xX1_isWeight; rfl
  exact W.zret (v := (xX1_isWithin p1 (20 : Int32) (150 : Int32))) hx hb hr (nz_X1_isWithin _ _ _) (fun t ht hW => ⟨by rw [hX], ht⟩) (fun _ h => by cases h) dX1_isWeight_9

def xX1_isWalker (R F : Nat → Nat → Int32) (p1 : Int32) : Int32 :=
  (if p1 < (0 : Int32) then (0 : Int32) else (if (F 1 2) ≤ p1 then (0 : Int32) else (if (8 : Int32) ≤ p1 then (0 : Int32) else (1 : Int32))))
set_option maxHeartbeats 4000000 in
set_option maxRecDepth 100000 in
theorem mX1_isWalker (l : Launch) (D : va_G) (cI cS : ClassId) (ad : Nat → Nat) (hI : Inj ad) (R F : Nat → Nat → Int32) (p1 : Int32) : Met l yX1_isWalker wsX1_isWalker ({ frames := 0, cells := 0, slots := 0, locals := 0 }) (PW D cI cS ad R F [.ref (ad 0), .int p1]) (QS (xX1_isWalker R F p1)) 0 0 (fun _ => False) := by
  refine Met.ofW (cc := cX1_isWalker) (maxL := 2) (ret := (some .boolean)) (by decide) rfl ?_
  intro p e s m args below meth c s₁ B hml hv
  obtain ⟨rfl, hP, hK⟩ := hv
  have hx := B.exec
  have hb := B.bytes
  have hr := B.returns
  have hts := atoms_spec (ws := wsX1_isWalker) B.pre
  have hown : s.vm.findClass RX1 = some m.cls := findClass_of_methodNamed B.named
  have hlocks := B.notSynchronized
  have hS : va_S (AA ad) s.heap s.heap [] := va_S.rf
  have hl := lv_entry ([.ref (ad 0), .int p1]) (n := 2) (Nat.le_of_ble_eq_true rfl)
  rw [lg_entry_eq]
  generalize (lg_sl ([.ref (ad 0), .int p1]) ++ List.replicate (2 - (lg_sl ([.ref (ad 0), .int p1])).length) Slot.unset).toArray = ls at hl ⊢
  have hl : lv_has ls 2 [(0, .ref (ad 0)), (1, .int p1)] := hl
  have lk10 := hts (.fieldLink RX1 10 "FerryFloor" "now" "LFerryFloor$State;") (by decide +kernel)
  have lk79 := hts (.fieldLink RX1 79 "FerryFloor$State" "walkers" "I") (by decide +kernel)
  have hin1 : ∀ w ∈ u_ws RX1 TX1 7, w ∈ wsX1_isWalker := by decide +kernel
  have hin0 : ∀ w ∈ u_ws RX0 TX0 15, w ∈ wsX1_isWalker := by decide +kernel
  refine lv_iload_n hx hb dX1_isWalker_0 rfl (lv_at hl 1 rfl) ?_
  refine lv_if_lt (tgt := 25) hx hb dX1_isWalker_1 (by decide) (fun c_1 => ?_) (fun c_1 => ?_)
  · refine lv_iconst (v := 0) hx hb dX1_isWalker_25 (by decide) ?_
    have hX : (xX1_isWalker R F p1) = (0 : Int32) := by unfold xX1_isWalker; rw [if_pos c_1]
    exact W.zret (v := (0 : Int32)) hx hb hr rfl (fun t ht hW => ⟨by rw [hX], ht⟩) (fun _ h => by cases h) dX1_isWalker_26
  · refine lv_iload_n hx hb dX1_isWalker_4 rfl (lv_at hl 1 rfl) ?_
    refine lv_aload_n hx hb dX1_isWalker_5 rfl (lv_at hl 0 rfl) ?_
    refine q_getF (v := .ref (ad 1)) hx hb hts hin1 hown hK hP 0 (by decide) lk10 (fun _ h => h) rfl dX1_isWalker_6 ?_
    refine q_getS (v := .int (F 1 2)) hx hb hts hin0 hown hK hP 1 st_1 2 (by decide) lk79 (fun _ h => h) rfl dX1_isWalker_9 ?_
    refine lv_icmp_ge (tgt := 25) hx hb dX1_isWalker_12 (by decide) (fun c_12 => ?_) (fun c_12 => ?_)
    · refine lv_iconst (v := 0) hx hb dX1_isWalker_25 (by decide) ?_
      have hX : (xX1_isWalker R F p1) = (0 : Int32) := by unfold xX1_isWalker; rw [if_neg c_1, if_pos c_12]
      exact W.zret (v := (0 : Int32)) hx hb hr rfl (fun t ht hW => ⟨by rw [hX], ht⟩) (fun _ h => by cases h) dX1_isWalker_26
    · refine lv_iload_n hx hb dX1_isWalker_15 rfl (lv_at hl 1 rfl) ?_
      refine lv_bipush (v := 8) hx hb dX1_isWalker_16 (by decide) ?_
      refine lv_icmp_ge (tgt := 25) hx hb dX1_isWalker_18 (by decide) (fun c_18 => ?_) (fun c_18 => ?_)
      · refine lv_iconst (v := 0) hx hb dX1_isWalker_25 (by decide) ?_
        have hX : (xX1_isWalker R F p1) = (0 : Int32) := by unfold xX1_isWalker; rw [if_neg c_1, if_neg c_12, if_pos c_18]
        exact W.zret (v := (0 : Int32)) hx hb hr rfl (fun t ht hW => ⟨by rw [hX], ht⟩) (fun _ h => by cases h) dX1_isWalker_26
      · refine lv_iconst (v := 1) hx hb dX1_isWalker_21 (by decide) ?_
        refine lv_goto (tgt := 26) hx hb dX1_isWalker_22 (by decide) ?_
        have hX : (xX1_isWalker R F p1) = (1 : Int32) := by unfold xX1_isWalker; rw [if_neg c_1, if_neg c_12, if_neg c_18]
        exact W.zret (v := (1 : Int32)) hx hb hr rfl (fun t ht hW => ⟨by rw [hX], ht⟩) (fun _ h => by cases h) dX1_isWalker_26

theorem isCell_in {p : Int32} (h : ¬ xX1_isCell p = 0) : vp_in p 24 := by
  unfold xX1_isCell at h
  split at h
  · exact absurd rfl h
  · next h1 =>
    split at h
    · exact absurd rfl h
    · next h2 =>
      have a := i_nlt h1
      have b := i_nle h2
      rw [i_0] at a
      rw [i_24] at b
      exact vp_in_iff.mpr ⟨a, b⟩
theorem isWalker_in {R F : Nat → Nat → Int32} {p : Int32} (h : ¬ xX1_isWalker R F p = 0) : vp_in p 8 := by
  unfold xX1_isWalker at h
  split at h
  · exact absurd rfl h
  · next h1 =>
    split at h
    · exact absurd rfl h
    · split at h
      · exact absurd rfl h
      · next h2 =>
        have a := i_nlt h1
        have b := i_nle h2
        rw [i_0] at a
        rw [i_8] at b
        exact vp_in_iff.mpr ⟨a, b⟩
def xX1_isPair (R F : Nat → Nat → Int32) (p1 : Int32) (p2 : Int32) : Int32 :=
  (if (xX1_isWalker R F p1) = (0 : Int32) then (0 : Int32) else (if (xX1_isWalker R F p2) = (0 : Int32) then (0 : Int32) else (if p1 = p2 then (0 : Int32) else (1 : Int32))))
set_option maxHeartbeats 4000000 in
set_option maxRecDepth 100000 in
theorem mX1_isPair (l : Launch) (D : va_G) (cI cS : ClassId) (ad : Nat → Nat) (hI : Inj ad) (R F : Nat → Nat → Int32) (p1 : Int32) (p2 : Int32) : Met l yX1_isPair wsX1_isPair ({ frames := 1, cells := 0, slots := 0, locals := 21 }) (PW D cI cS ad R F [.ref (ad 0), .int p1, .int p2]) (QS (xX1_isPair R F p1 p2)) 0 0 (fun _ => False) := by
  refine Met.ofW (cc := cX1_isPair) (maxL := 3) (ret := (some .boolean)) (by decide) rfl ?_
  intro p e s m args below meth c s₁ B hml hv
  obtain ⟨rfl, hP, hK⟩ := hv
  have hx := B.exec
  have hb := B.bytes
  have hr := B.returns
  have hts := atoms_spec (ws := wsX1_isPair) B.pre
  have hown : s.vm.findClass RX1 = some m.cls := findClass_of_methodNamed B.named
  have hlocks := B.notSynchronized
  have hS : va_S (AA ad) s.heap s.heap [] := va_S.rf
  have hl := lv_entry ([.ref (ad 0), .int p1, .int p2]) (n := 3) (Nat.le_of_ble_eq_true rfl)
  rw [lg_entry_eq]
  generalize (lg_sl ([.ref (ad 0), .int p1, .int p2]) ++ List.replicate (3 - (lg_sl ([.ref (ad 0), .int p1, .int p2])).length) Slot.unset).toArray = ls at hl ⊢
  have hl : lv_has ls 3 [(0, .ref (ad 0)), (1, .int p1), (2, .int p2)] := hl
  refine lv_aload_n hx hb dX1_isPair_0 rfl (lv_at hl 0 rfl) ?_
  refine lv_iload_n hx hb dX1_isPair_1 rfl (lv_at hl 1 rfl) ?_
  refine q_callS (va_runV (As := [.int p1]) (rest := []) ⟨hx, hb, hml, hown, hts⟩ (mX1_isWalker l D cI cS ad hI R F p1) (cwV 1 hts gX1_isPair_X1_isWalker rfl rfl rfl (by decide +kernel) ⟨Nat.le_of_ble_eq_true rfl, Nat.le_of_ble_eq_true rfl⟩) (PW_preV (i := 0) (by decide) CC_0 rfl rfl hK hP) rfl rfl hl.1 rfl (lv_room (Nat.le_of_ble_eq_true rfl)) dX1_isPair_2 ⟨Nat.zero_le _, Nat.zero_le _⟩) ?_
  refine lv_if_eq (tgt := 25) hx hb dX1_isPair_5 (by decide) (fun c_5 => ?_) (fun c_5 => ?_)
  · refine lv_iconst (v := 0) hx hb dX1_isPair_25 (by decide) ?_
    have hX : (xX1_isPair R F p1 p2) = (0 : Int32) := by unfold xX1_isPair; rw [if_pos c_5]
    exact W.zret (v := (0 : Int32)) hx hb hr rfl (fun t ht hW => ⟨by rw [hX], ht⟩) (fun _ h => by cases h) dX1_isPair_26
  · refine lv_aload_n hx hb dX1_isPair_8 rfl (lv_at hl 0 rfl) ?_
    refine lv_iload_n hx hb dX1_isPair_9 rfl (lv_at hl 2 rfl) ?_
    refine q_callS (va_runV (As := [.int p2]) (rest := []) ⟨hx, hb, hml, hown, hts⟩ (mX1_isWalker l D cI cS ad hI R F p2) (cwV 1 hts gX1_isPair_X1_isWalker rfl rfl rfl (by decide +kernel) ⟨Nat.le_of_ble_eq_true rfl, Nat.le_of_ble_eq_true rfl⟩) (PW_preV (i := 0) (by decide) CC_0 rfl rfl hK hP) rfl rfl hl.1 rfl (lv_room (Nat.le_of_ble_eq_true rfl)) dX1_isPair_10 ⟨Nat.zero_le _, Nat.zero_le _⟩) ?_
    refine lv_if_eq (tgt := 25) hx hb dX1_isPair_13 (by decide) (fun c_13 => ?_) (fun c_13 => ?_)
    · refine lv_iconst (v := 0) hx hb dX1_isPair_25 (by decide) ?_
      have hX : (xX1_isPair R F p1 p2) = (0 : Int32) := by unfold xX1_isPair; rw [if_neg c_5, if_pos c_13]
      exact W.zret (v := (0 : Int32)) hx hb hr rfl (fun t ht hW => ⟨by rw [hX], ht⟩) (fun _ h => by cases h) dX1_isPair_26
    · refine lv_iload_n hx hb dX1_isPair_16 rfl (lv_at hl 1 rfl) ?_
      refine lv_iload_n hx hb dX1_isPair_17 rfl (lv_at hl 2 rfl) ?_
      refine lv_icmp_eq (tgt := 25) hx hb dX1_isPair_18 (by decide) (fun c_18 => ?_) (fun c_18 => ?_)
      · refine lv_iconst (v := 0) hx hb dX1_isPair_25 (by decide) ?_
        have hX : (xX1_isPair R F p1 p2) = (0 : Int32) := by unfold xX1_isPair; rw [if_neg c_5, if_neg c_13, if_pos c_18]
        exact W.zret (v := (0 : Int32)) hx hb hr rfl (fun t ht hW => ⟨by rw [hX], ht⟩) (fun _ h => by cases h) dX1_isPair_26
      · refine lv_iconst (v := 1) hx hb dX1_isPair_21 (by decide) ?_
        refine lv_goto (tgt := 26) hx hb dX1_isPair_22 (by decide) ?_
        have hX : (xX1_isPair R F p1 p2) = (1 : Int32) := by unfold xX1_isPair; rw [if_neg c_5, if_neg c_13, if_neg c_18]
        exact W.zret (v := (1 : Int32)) hx hb hr rfl (fun t ht hW => ⟨by rw [hX], ht⟩) (fun _ h => by cases h) dX1_isPair_26

def xX1_isAboard (R F : Nat → Nat → Int32) (p1 : Int32) : Int32 :=
  (if (xX1_isWalker R F p1) = (0 : Int32) then (0 : Int32) else (if (R 7 (p1).toNatClampNeg) = (-100009 : Int32) then (0 : Int32) else (1 : Int32)))
set_option maxHeartbeats 4000000 in
set_option maxRecDepth 100000 in
theorem mX1_isAboard (l : Launch) (D : va_G) (cI cS : ClassId) (ad : Nat → Nat) (hI : Inj ad) (R F : Nat → Nat → Int32) (p1 : Int32) : Met l yX1_isAboard wsX1_isAboard ({ frames := 1, cells := 0, slots := 0, locals := 21 }) (PW D cI cS ad R F [.ref (ad 0), .int p1]) (QS (xX1_isAboard R F p1)) 0 0 (fun _ => False) := by
  refine Met.ofW (cc := cX1_isAboard) (maxL := 2) (ret := (some .boolean)) (by decide) rfl ?_
  intro p e s m args below meth c s₁ B hml hv
  obtain ⟨rfl, hP, hK⟩ := hv
  have hx := B.exec
  have hb := B.bytes
  have hr := B.returns
  have hts := atoms_spec (ws := wsX1_isAboard) B.pre
  have hown : s.vm.findClass RX1 = some m.cls := findClass_of_methodNamed B.named
  have hlocks := B.notSynchronized
  have hS : va_S (AA ad) s.heap s.heap [] := va_S.rf
  have hl := lv_entry ([.ref (ad 0), .int p1]) (n := 2) (Nat.le_of_ble_eq_true rfl)
  rw [lg_entry_eq]
  generalize (lg_sl ([.ref (ad 0), .int p1]) ++ List.replicate (2 - (lg_sl ([.ref (ad 0), .int p1])).length) Slot.unset).toArray = ls at hl ⊢
  have hl : lv_has ls 2 [(0, .ref (ad 0)), (1, .int p1)] := hl
  have lk10 := hts (.fieldLink RX1 10 "FerryFloor" "now" "LFerryFloor$State;") (by decide +kernel)
  have lk71 := hts (.fieldLink RX1 71 "FerryFloor$State" "places" "[I") (by decide +kernel)
  have lk78 := hts (.constant RX1 78 (-100009)) (by decide +kernel)
  have hin1 : ∀ w ∈ u_ws RX1 TX1 7, w ∈ wsX1_isAboard := by decide +kernel
  have hin0 : ∀ w ∈ u_ws RX0 TX0 15, w ∈ wsX1_isAboard := by decide +kernel
  refine lv_aload_n hx hb dX1_isAboard_0 rfl (lv_at hl 0 rfl) ?_
  refine lv_iload_n hx hb dX1_isAboard_1 rfl (lv_at hl 1 rfl) ?_
  refine q_callS (va_runV (As := [.int p1]) (rest := []) ⟨hx, hb, hml, hown, hts⟩ (mX1_isWalker l D cI cS ad hI R F p1) (cwV 1 hts gX1_isAboard_X1_isWalker rfl rfl rfl (by decide +kernel) ⟨Nat.le_of_ble_eq_true rfl, Nat.le_of_ble_eq_true rfl⟩) (PW_preV (i := 0) (by decide) CC_0 rfl rfl hK hP) rfl rfl hl.1 rfl (lv_room (Nat.le_of_ble_eq_true rfl)) dX1_isAboard_2 ⟨Nat.zero_le _, Nat.zero_le _⟩) ?_
  refine lv_if_eq (tgt := 26) hx hb dX1_isAboard_5 (by decide) (fun c_5 => ?_) (fun c_5 => ?_)
  · refine lv_iconst (v := 0) hx hb dX1_isAboard_26 (by decide) ?_
    have hX : (xX1_isAboard R F p1) = (0 : Int32) := by unfold xX1_isAboard; rw [if_pos c_5]
    exact W.zret (v := (0 : Int32)) hx hb hr rfl (fun t ht hW => ⟨by rw [hX], ht⟩) (fun _ h => by cases h) dX1_isAboard_27
  · refine lv_aload_n hx hb dX1_isAboard_8 rfl (lv_at hl 0 rfl) ?_
    refine q_getF (v := .ref (ad 1)) hx hb hts hin1 hown hK hP 0 (by decide) lk10 (fun _ h => h) rfl dX1_isAboard_9 ?_
    refine q_getS (v := .ref (ad 7)) hx hb hts hin0 hown hK hP 1 st_1 8 (by decide) lk71 (fun _ h => h) rfl dX1_isAboard_12 ?_
    refine lv_iload_n hx hb dX1_isAboard_15 rfl (lv_at hl 1 rfl) ?_
    refine q_ild hx hb hK hP 7 8 (ar_7) dX1_isAboard_16 (by first | assumption | exact isCell_in (by assumption) | exact isWalker_in (by assumption) | exact isAboard_in (by assumption) | exact isPair_in1 (by assumption) | exact isPair_in2 (by assumption) | exact isWithin7_in (by assumption) | exact vp_in_nI (by omega) (by decide)) ?_
    refine lv_ldc (v := -100009) hx hb hown lk78 dX1_isAboard_17 ?_
    refine lv_icmp_eq (tgt := 26) hx hb dX1_isAboard_19 (by decide) (fun c_19 => ?_) (fun c_19 => ?_)
    · refine lv_iconst (v := 0) hx hb dX1_isAboard_26 (by decide) ?_
      have hX : (xX1_isAboard R F p1) = (0 : Int32) := by unfold xX1_isAboard; rw [if_neg c_5, if_pos c_19]
      exact W.zret (v := (0 : Int32)) hx hb hr rfl (fun t ht hW => ⟨by rw [hX], ht⟩) (fun _ h => by cases h) dX1_isAboard_27
    · refine lv_iconst (v := 1) hx hb dX1_isAboard_22 (by decide) ?_
      refine lv_goto (tgt := 27) hx hb dX1_isAboard_23 (by decide) ?_
      have hX : (xX1_isAboard R F p1) = (1 : Int32) := by unfold xX1_isAboard; rw [if_neg c_5, if_neg c_19]
      exact W.zret (v := (1 : Int32)) hx hb hr rfl (fun t ht hW => ⟨by rw [hX], ht⟩) (fun _ h => by cases h) dX1_isAboard_27

theorem isAboard_in {R F : Nat → Nat → Int32} {p : Int32} (h : ¬ xX1_isAboard R F p = 0) : vp_in p 8 := by
  unfold xX1_isAboard at h
  split at h
  · exact absurd rfl h
  · next h1 => exact isWalker_in h1
theorem isPair_in1 {R F : Nat → Nat → Int32} {p r : Int32} (h : ¬ xX1_isPair R F p r = 0) : vp_in p 8 := by
  unfold xX1_isPair at h
  split at h
  · exact absurd rfl h
  · next h1 => exact isWalker_in h1
theorem isPair_in2 {R F : Nat → Nat → Int32} {p r : Int32} (h : ¬ xX1_isPair R F p r = 0) : vp_in r 8 := by
  unfold xX1_isPair at h
  split at h
  · exact absurd rfl h
  · split at h
    · exact absurd rfl h
    · next h1 => exact isWalker_in h1
theorem isWithin7_in {p : Int32} (h : ¬ xX1_isWithin p 0 7 = 0) : vp_in p 8 := by
  unfold xX1_isWithin at h
  split at h
  · exact absurd rfl h
  · next h1 =>
    split at h
    · exact absurd rfl h
    · next h2 =>
      have a := i_nlt h1
      have b := i_nlt h2
      rw [i_0] at a
      rw [i_7] at b
      exact vp_in_iff.mpr ⟨a, by omega⟩
