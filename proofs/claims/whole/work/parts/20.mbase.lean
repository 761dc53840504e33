def xX2_in (p1 : Int32) (p2 : Int32) (p3 : Int32) : Int32 :=
  (if p1 < p2 then (0 : Int32) else (if p3 < p1 then (0 : Int32) else (1 : Int32)))
set_option maxHeartbeats 4000000 in
set_option maxRecDepth 100000 in
theorem mX2_in (l : Launch) (D : va_G) (cI cS : ClassId) (ad : Nat → Nat) (hI : Inj ad) (R F : Nat → Nat → Int32) (p1 : Int32) (p2 : Int32) (p3 : Int32) : Met l yX2_in wsX2_in ({ frames := 0, cells := 0, slots := 0, locals := 0 }) (PW D cI cS ad R F [.int p1, .int p2, .int p3]) (QS (xX2_in p1 p2 p3)) 0 0 (fun _ => False) := by
  refine Met.ofW (cc := cX2_in) (maxL := 3) (ret := (some .boolean)) (by decide) rfl ?_
  intro p e s m args below meth c s₁ B hml hv
  obtain ⟨rfl, hP, hK⟩ := hv
  have hx := B.exec
  have hb := B.bytes
  have hr := B.returns
  have hts := atoms_spec (ws := wsX2_in) B.pre
  have hown : s.vm.findClass RX2 = some m.cls := findClass_of_methodNamed B.named
  have hlocks := B.notSynchronized
  have hS : va_S (AA ad) s.heap s.heap [] := va_S.rf
  have hl := lv_entry ([.int p1, .int p2, .int p3]) (n := 3) (Nat.le_of_ble_eq_true rfl)
  rw [lg_entry_eq]
  generalize (lg_sl ([.int p1, .int p2, .int p3]) ++ List.replicate (3 - (lg_sl ([.int p1, .int p2, .int p3])).length) Slot.unset).toArray = ls at hl ⊢
  have hl : lv_has ls 3 [(0, .int p1), (1, .int p2), (2, .int p3)] := hl
  refine lv_iload_n hx hb dX2_in_0 rfl (lv_at hl 0 rfl) ?_
  refine lv_iload_n hx hb dX2_in_1 rfl (lv_at hl 1 rfl) ?_
  refine lv_icmp_lt (tgt := 14) hx hb dX2_in_2 (by decide) (fun c_2 => ?_) (fun c_2 => ?_)
  · refine lv_iconst (v := 0) hx hb dX2_in_14 (by decide) ?_
    have hX : (xX2_in p1 p2 p3) = (0 : Int32) := by unfold xX2_in; rw [if_pos c_2]
    exact W.zret (v := (0 : Int32)) hx hb hr rfl (fun t ht hW => ⟨by rw [hX], ht⟩) (fun _ h => by cases h) dX2_in_15
  · refine lv_iload_n hx hb dX2_in_5 rfl (lv_at hl 0 rfl) ?_
    refine lv_iload_n hx hb dX2_in_6 rfl (lv_at hl 2 rfl) ?_
    refine lv_icmp_gt (tgt := 14) hx hb dX2_in_7 (by decide) (fun c_7 => ?_) (fun c_7 => ?_)
    · refine lv_iconst (v := 0) hx hb dX2_in_14 (by decide) ?_
      have hX : (xX2_in p1 p2 p3) = (0 : Int32) := by unfold xX2_in; rw [if_neg c_2, if_pos c_7]
      exact W.zret (v := (0 : Int32)) hx hb hr rfl (fun t ht hW => ⟨by rw [hX], ht⟩) (fun _ h => by cases h) dX2_in_15
    · refine lv_iconst (v := 1) hx hb dX2_in_10 (by decide) ?_
      refine lv_goto (tgt := 15) hx hb dX2_in_11 (by decide) ?_
      have hX : (xX2_in p1 p2 p3) = (1 : Int32) := by unfold xX2_in; rw [if_neg c_2, if_neg c_7]
      exact W.zret (v := (1 : Int32)) hx hb hr rfl (fun t ht hW => ⟨by rw [hX], ht⟩) (fun _ h => by cases h) dX2_in_15

theorem nz_X2_in (a b c : Int32) : narrow .boolean (.int (xX2_in a b c)) = .int (xX2_in a b c) := by
  unfold xX2_in
  split
  · rfl
  · split <;> rfl
theorem in_i {p a b : Int32} (h : ¬ xX2_in p a b = 0) : a.toInt ≤ p.toInt ∧ p.toInt ≤ b.toInt := by
  unfold xX2_in at h
  split at h
  · exact absurd rfl h
  · next h1 =>
    split at h
    · exact absurd rfl h
    · next h2 => exact ⟨i_nlt h1, i_nlt h2⟩
theorem in_nat {x : Int32} {n : Nat} (h : vp_in x n) (hn : n < 2 ^ 31) : x = nI x.toNatClampNeg ∧ x.toNatClampNeg < n := by
  obtain ⟨j, h1, rfl⟩ := vp_in_of h hn
  rw [nI_clamp (by omega)]
  exact ⟨rfl, h1⟩
def xX2_isCell (p1 : Int32) : Int32 :=
  (xX2_in p1 (0 : Int32) (23 : Int32))
set_option maxHeartbeats 4000000 in
set_option maxRecDepth 100000 in
theorem mX2_isCell (l : Launch) (D : va_G) (cI cS : ClassId) (ad : Nat → Nat) (hI : Inj ad) (R F : Nat → Nat → Int32) (p1 : Int32) : Met l yX2_isCell wsX2_isCell ({ frames := 1, cells := 0, slots := 0, locals := 22 }) (PW D cI cS ad R F [.int p1]) (QS (xX2_isCell p1)) 0 0 (fun _ => False) := by
  refine Met.ofW (cc := cX2_isCell) (maxL := 1) (ret := (some .boolean)) (by decide) rfl ?_
  intro p e s m args below meth c s₁ B hml hv
  obtain ⟨rfl, hP, hK⟩ := hv
  have hx := B.exec
  have hb := B.bytes
  have hr := B.returns
  have hts := atoms_spec (ws := wsX2_isCell) B.pre
  have hown : s.vm.findClass RX2 = some m.cls := findClass_of_methodNamed B.named
  have hlocks := B.notSynchronized
  have hS : va_S (AA ad) s.heap s.heap [] := va_S.rf
  have hl := lv_entry ([.int p1]) (n := 1) (Nat.le_of_ble_eq_true rfl)
  rw [lg_entry_eq]
  generalize (lg_sl ([.int p1]) ++ List.replicate (1 - (lg_sl ([.int p1])).length) Slot.unset).toArray = ls at hl ⊢
  have hl : lv_has ls 1 [(0, .int p1)] := hl
  refine lv_iload_n hx hb dX2_isCell_0 rfl (lv_at hl 0 rfl) ?_
  refine lv_iconst (v := 0) hx hb dX2_isCell_1 (by decide) ?_
  refine lv_bipush (v := 23) hx hb dX2_isCell_2 (by decide) ?_
  refine q_callS (va_runS (As := [.int p1, .int (0 : Int32), .int (23 : Int32)]) (rest := []) ⟨hx, hb, hml, hown, hts⟩ (mX2_in l D cI cS ad hI R F p1 (0 : Int32) (23 : Int32)) (va_cwS 3 hts gX2_isCell_X2_in rfl rfl rfl (by decide +kernel) ⟨Nat.le_of_ble_eq_true rfl, Nat.le_of_ble_eq_true rfl⟩) (PW_preS hK hP) rfl rfl hl.1 rfl (lv_room (Nat.le_of_ble_eq_true rfl)) dX2_isCell_4 ⟨Nat.zero_le _, Nat.zero_le _⟩) ?_
  have hX : (xX2_isCell p1) = (xX2_in p1 (0 : Int32) (23 : Int32)) := by unfold xX2_isCell; rfl
  exact W.zret (v := (xX2_in p1 (0 : Int32) (23 : Int32))) hx hb hr (nz_X2_in _ _ _) (fun t ht hW => ⟨by rw [hX], ht⟩) (fun _ h => by cases h) dX2_isCell_7

def xX2_isWeight (p1 : Int32) : Int32 :=
  (xX2_in p1 (20 : Int32) (150 : Int32))
set_option maxHeartbeats 4000000 in
set_option maxRecDepth 100000 in
theorem mX2_isWeight (l : Launch) (D : va_G) (cI cS : ClassId) (ad : Nat → Nat) (hI : Inj ad) (R F : Nat → Nat → Int32) (p1 : Int32) : Met l yX2_isWeight wsX2_isWeight ({ frames := 1, cells := 0, slots := 0, locals := 22 }) (PW D cI cS ad R F [.int p1]) (QS (xX2_isWeight p1)) 0 0 (fun _ => False) := by
  refine Met.ofW (cc := cX2_isWeight) (maxL := 1) (ret := (some .boolean)) (by decide) rfl ?_
  intro p e s m args below meth c s₁ B hml hv
  obtain ⟨rfl, hP, hK⟩ := hv
  have hx := B.exec
  have hb := B.bytes
  have hr := B.returns
  have hts := atoms_spec (ws := wsX2_isWeight) B.pre
  have hown : s.vm.findClass RX2 = some m.cls := findClass_of_methodNamed B.named
  have hlocks := B.notSynchronized
  have hS : va_S (AA ad) s.heap s.heap [] := va_S.rf
  have hl := lv_entry ([.int p1]) (n := 1) (Nat.le_of_ble_eq_true rfl)
  rw [lg_entry_eq]
  generalize (lg_sl ([.int p1]) ++ List.replicate (1 - (lg_sl ([.int p1])).length) Slot.unset).toArray = ls at hl ⊢
  have hl : lv_has ls 1 [(0, .int p1)] := hl
  refine lv_iload_n hx hb dX2_isWeight_0 rfl (lv_at hl 0 rfl) ?_
  refine lv_bipush (v := 20) hx hb dX2_isWeight_1 (by decide) ?_
  refine lv_sipush (v := 150) hx hb dX2_isWeight_3 (by decide) ?_
  refine q_callS (va_runS (As := [.int p1, .int (20 : Int32), .int (150 : Int32)]) (rest := []) ⟨hx, hb, hml, hown, hts⟩ (mX2_in l D cI cS ad hI R F p1 (20 : Int32) (150 : Int32)) (va_cwS 3 hts gX2_isWeight_X2_in rfl rfl rfl (by decide +kernel) ⟨Nat.le_of_ble_eq_true rfl, Nat.le_of_ble_eq_true rfl⟩) (PW_preS hK hP) rfl rfl hl.1 rfl (lv_room (Nat.le_of_ble_eq_true rfl)) dX2_isWeight_6 ⟨Nat.zero_le _, Nat.zero_le _⟩) ?_
  have hX : (xX2_isWeight p1) = (xX2_in p1 (20 : Int32) (150 : Int32)) := by unfold xX2_isWeight; rfl
  exact W.zret (v := (xX2_in p1 (20 : Int32) (150 : Int32))) hx hb hr (nz_X2_in _ _ _) (fun t ht hW => ⟨by rw [hX], ht⟩) (fun _ h => by cases h) dX2_isWeight_9

theorem i_23 : (23 : Int32).toInt = 23 := rfl
theorem cell_of {p : Int32} (h : ¬ xX2_isCell p = 0) : p = nI p.toNatClampNeg ∧ p.toNatClampNeg < 24 := by
  obtain ⟨a, b⟩ := in_i h
  rw [i_0] at a
  rw [i_23] at b
  exact in_nat (vp_in_iff.mpr ⟨a, by omega⟩) (by decide)
theorem in07_of {p : Int32} (h : ¬ xX2_in p 0 7 = 0) : p = nI p.toNatClampNeg ∧ p.toNatClampNeg < 8 := by
  obtain ⟨a, b⟩ := in_i h
  rw [i_0] at a
  rw [i_7] at b
  exact in_nat (vp_in_iff.mpr ⟨a, by omega⟩) (by decide)
theorem in07 {p : Int32} (h : ¬ xX2_in p 0 7 = 0) : p = 0 ∨ p = 1 ∨ p = 2 ∨ p = 3 ∨ p = 4 ∨ p = 5 ∨ p = 6 ∨ p = 7 := by
  obtain ⟨a, b⟩ := in07_of h
  have key : ∀ k, k < 8 → nI k = 0 ∨ nI k = 1 ∨ nI k = 2 ∨ nI k = 3 ∨ nI k = 4 ∨ nI k = 5 ∨ nI k = 6 ∨ nI k = 7 := by decide
  rw [a]
  exact key _ b
def xX2_isWalker (s : Nat → Int32) (p1 : Int32) : Int32 :=
  (if p1 < (0 : Int32) then (0 : Int32) else (if (s 1) ≤ p1 then (0 : Int32) else (1 : Int32)))
set_option maxHeartbeats 4000000 in
set_option maxRecDepth 100000 in
theorem mX2_isWalker (l : Launch) (D : va_G) (cI cS : ClassId) (ad : Nat → Nat) (hI : Inj ad) (R F : Nat → Nat → Int32) (p1 : Int32) : Met l yX2_isWalker wsX2_isWalker ({ frames := 0, cells := 0, slots := 0, locals := 0 }) (PW D cI cS ad R F [.ref (ad 83), .int p1]) (QS (xX2_isWalker (R 84) p1)) 0 0 (fun _ => False) := by
  refine Met.ofW (cc := cX2_isWalker) (maxL := 2) (ret := (some .boolean)) (by decide) rfl ?_
  intro p e s m args below meth c s₁ B hml hv
  obtain ⟨rfl, hP, hK⟩ := hv
  have hx := B.exec
  have hb := B.bytes
  have hr := B.returns
  have hts := atoms_spec (ws := wsX2_isWalker) B.pre
  have hown : s.vm.findClass RX2 = some m.cls := findClass_of_methodNamed B.named
  have hlocks := B.notSynchronized
  have hS : va_S (AA ad) s.heap s.heap [] := va_S.rf
  have hl := lv_entry ([.ref (ad 83), .int p1]) (n := 2) (Nat.le_of_ble_eq_true rfl)
  rw [lg_entry_eq]
  generalize (lg_sl ([.ref (ad 83), .int p1]) ++ List.replicate (2 - (lg_sl ([.ref (ad 83), .int p1])).length) Slot.unset).toArray = ls at hl ⊢
  have hl : lv_has ls 2 [(0, .ref (ad 83)), (1, .int p1)] := hl
  have lk7 := hts (.fieldLink RX2 7 "FerryFloorModel" "s" "[I") (by decide +kernel)
  have hin2 : ∀ w ∈ u_ws RX2 TX2 5, w ∈ wsX2_isWalker := by decide +kernel
  refine lv_iload_n hx hb dX2_isWalker_0 rfl (lv_at hl 1 rfl) ?_
  refine lv_if_lt (tgt := 18) hx hb dX2_isWalker_1 (by decide) (fun c_1 => ?_) (fun c_1 => ?_)
  · refine lv_iconst (v := 0) hx hb dX2_isWalker_18 (by decide) ?_
    have hX : (xX2_isWalker (R 84) p1) = (0 : Int32) := by unfold xX2_isWalker; rw [if_pos c_1]
    exact W.zret (v := (0 : Int32)) hx hb hr rfl (fun t ht hW => ⟨by rw [hX], ht⟩) (fun _ h => by cases h) dX2_isWalker_19
  · refine lv_iload_n hx hb dX2_isWalker_4 rfl (lv_at hl 1 rfl) ?_
    refine lv_aload_n hx hb dX2_isWalker_5 rfl (lv_at hl 0 rfl) ?_
    refine q_getM (v := .ref (ad 84)) hx hb hts hin2 hown hK hP 0 (by decide) lk7 (fun _ h => h) rfl dX2_isWalker_6 ?_
    refine lv_iconst (v := 1) hx hb dX2_isWalker_9 (by decide) ?_
    refine q_ildN hx hb hK hP 84 182 (ar_84) 1 dX2_isWalker_10 rfl (by omega) (by decide) ?_
    refine lv_icmp_ge (tgt := 18) hx hb dX2_isWalker_11 (by decide) (fun c_11 => ?_) (fun c_11 => ?_)
    · refine lv_iconst (v := 0) hx hb dX2_isWalker_18 (by decide) ?_
      have hX : (xX2_isWalker (R 84) p1) = (0 : Int32) := by unfold xX2_isWalker; rw [if_neg c_1, if_pos c_11]
      exact W.zret (v := (0 : Int32)) hx hb hr rfl (fun t ht hW => ⟨by rw [hX], ht⟩) (fun _ h => by cases h) dX2_isWalker_19
    · refine lv_iconst (v := 1) hx hb dX2_isWalker_14 (by decide) ?_
      refine lv_goto (tgt := 19) hx hb dX2_isWalker_15 (by decide) ?_
      have hX : (xX2_isWalker (R 84) p1) = (1 : Int32) := by unfold xX2_isWalker; rw [if_neg c_1, if_neg c_11]
      exact W.zret (v := (1 : Int32)) hx hb hr rfl (fun t ht hW => ⟨by rw [hX], ht⟩) (fun _ h => by cases h) dX2_isWalker_19

theorem wk_of {s : Nat → Int32} {p : Int32} {kw : Nat} (h : ¬ xX2_isWalker s p = 0) (hW : s 1 = nI kw) (hk : kw ≤ 8) : p = nI p.toNatClampNeg ∧ p.toNatClampNeg < kw := by
  unfold xX2_isWalker at h
  split at h
  · exact absurd rfl h
  · next h1 =>
    split at h
    · exact absurd rfl h
    · next h2 =>
      have a := i_nlt h1
      have b := i_nle h2
      rw [i_0] at a
      rw [hW, nI_toInt (by omega)] at b
      exact in_nat (vp_in_iff.mpr ⟨a, b⟩) (by omega)
def xX2_of (s : Nat → Int32) (w1 : Nat) (w2 : Nat) : Int32 :=
  (s ((6 + (4 * w1)) + w2))
set_option maxHeartbeats 4000000 in
set_option maxRecDepth 100000 in
theorem mX2_of (l : Launch) (D : va_G) (cI cS : ClassId) (ad : Nat → Nat) (hI : Inj ad) (R F : Nat → Nat → Int32) (w1 : Nat) (w2 : Nat) (h1 : 6 + 4 * w1 + w2 < 182) : Met l yX2_of wsX2_of ({ frames := 0, cells := 0, slots := 0, locals := 0 }) (PW D cI cS ad R F [.ref (ad 83), .int (nI w1), .int (nI w2)]) (QS (xX2_of (R 84) w1 w2)) 0 0 (fun _ => False) := by
  refine Met.ofW (cc := cX2_of) (maxL := 3) (ret := (some .int)) (by decide) rfl ?_
  intro p e s m args below meth c s₁ B hml hv
  obtain ⟨rfl, hP, hK⟩ := hv
  have hx := B.exec
  have hb := B.bytes
  have hr := B.returns
  have hts := atoms_spec (ws := wsX2_of) B.pre
  have hown : s.vm.findClass RX2 = some m.cls := findClass_of_methodNamed B.named
  have hlocks := B.notSynchronized
  have hS : va_S (AA ad) s.heap s.heap [] := va_S.rf
  have hl := lv_entry ([.ref (ad 83), .int (nI w1), .int (nI w2)]) (n := 3) (Nat.le_of_ble_eq_true rfl)
  rw [lg_entry_eq]
  generalize (lg_sl ([.ref (ad 83), .int (nI w1), .int (nI w2)]) ++ List.replicate (3 - (lg_sl ([.ref (ad 83), .int (nI w1), .int (nI w2)])).length) Slot.unset).toArray = ls at hl ⊢
  have hl : lv_has ls 3 [(0, .ref (ad 83)), (1, .int (nI w1)), (2, .int (nI w2))] := hl
  have lk7 := hts (.fieldLink RX2 7 "FerryFloorModel" "s" "[I") (by decide +kernel)
  have hin2 : ∀ w ∈ u_ws RX2 TX2 5, w ∈ wsX2_of := by decide +kernel
  refine lv_aload_n hx hb dX2_of_0 rfl (lv_at hl 0 rfl) ?_
  refine q_getM (v := .ref (ad 84)) hx hb hts hin2 hown hK hP 0 (by decide) lk7 (fun _ h => h) rfl dX2_of_1 ?_
  refine lv_bipush (v := 6) hx hb dX2_of_4 (by decide) ?_
  refine lv_iconst (v := 4) hx hb dX2_of_6 (by decide) ?_
  refine lv_iload_n hx hb dX2_of_7 rfl (lv_at hl 1 rfl) ?_
  refine lv_imul hx hb dX2_of_8 ?_
  refine q_top (y := (nI (4 * w1))) (pk_mul 4 w1) ?_
  refine lv_iadd hx hb dX2_of_9 ?_
  refine q_top (y := (nI (6 + (4 * w1)))) (nI_add 6 (4 * w1)) ?_
  refine lv_iload_n hx hb dX2_of_10 rfl (lv_at hl 2 rfl) ?_
  refine lv_iadd hx hb dX2_of_11 ?_
  refine q_top (y := (nI ((6 + (4 * w1)) + w2))) (nI_add (6 + (4 * w1)) w2) ?_
  refine q_ildN hx hb hK hP 84 182 (ar_84) ((6 + (4 * w1)) + w2) dX2_of_12 rfl (by omega) (by decide) ?_
  have hX : (xX2_of (R 84) w1 w2) = (R 84 ((6 + (4 * w1)) + w2)) := by unfold xX2_of; rfl
  exact W.iret (v := (R 84 ((6 + (4 * w1)) + w2))) hx hb hr (fun t ht hW => ⟨by rw [hX], ht⟩) (fun _ h => by cases h) dX2_of_13

def xX2_ofWalker (s : Nat → Int32) (w1 : Nat) (w2 : Nat) : Int32 :=
  (s ((102 + (10 * w1)) + w2))
set_option maxHeartbeats 4000000 in
set_option maxRecDepth 100000 in
theorem mX2_ofWalker (l : Launch) (D : va_G) (cI cS : ClassId) (ad : Nat → Nat) (hI : Inj ad) (R F : Nat → Nat → Int32) (w1 : Nat) (w2 : Nat) (h1 : 102 + 10 * w1 + w2 < 182) : Met l yX2_ofWalker wsX2_ofWalker ({ frames := 0, cells := 0, slots := 0, locals := 0 }) (PW D cI cS ad R F [.ref (ad 83), .int (nI w1), .int (nI w2)]) (QS (xX2_ofWalker (R 84) w1 w2)) 0 0 (fun _ => False) := by
  refine Met.ofW (cc := cX2_ofWalker) (maxL := 3) (ret := (some .int)) (by decide) rfl ?_
  intro p e s m args below meth c s₁ B hml hv
  obtain ⟨rfl, hP, hK⟩ := hv
  have hx := B.exec
  have hb := B.bytes
  have hr := B.returns
  have hts := atoms_spec (ws := wsX2_ofWalker) B.pre
  have hown : s.vm.findClass RX2 = some m.cls := findClass_of_methodNamed B.named
  have hlocks := B.notSynchronized
  have hS : va_S (AA ad) s.heap s.heap [] := va_S.rf
  have hl := lv_entry ([.ref (ad 83), .int (nI w1), .int (nI w2)]) (n := 3) (Nat.le_of_ble_eq_true rfl)
  rw [lg_entry_eq]
  generalize (lg_sl ([.ref (ad 83), .int (nI w1), .int (nI w2)]) ++ List.replicate (3 - (lg_sl ([.ref (ad 83), .int (nI w1), .int (nI w2)])).length) Slot.unset).toArray = ls at hl ⊢
  have hl : lv_has ls 3 [(0, .ref (ad 83)), (1, .int (nI w1)), (2, .int (nI w2))] := hl
  have lk7 := hts (.fieldLink RX2 7 "FerryFloorModel" "s" "[I") (by decide +kernel)
  have hin2 : ∀ w ∈ u_ws RX2 TX2 5, w ∈ wsX2_ofWalker := by decide +kernel
  refine lv_aload_n hx hb dX2_ofWalker_0 rfl (lv_at hl 0 rfl) ?_
  refine q_getM (v := .ref (ad 84)) hx hb hts hin2 hown hK hP 0 (by decide) lk7 (fun _ h => h) rfl dX2_ofWalker_1 ?_
  refine lv_bipush (v := 102) hx hb dX2_ofWalker_4 (by decide) ?_
  refine lv_bipush (v := 10) hx hb dX2_ofWalker_6 (by decide) ?_
  refine lv_iload_n hx hb dX2_ofWalker_8 rfl (lv_at hl 1 rfl) ?_
  refine lv_imul hx hb dX2_ofWalker_9 ?_
  refine q_top (y := (nI (10 * w1))) (pk_mul 10 w1) ?_
  refine lv_iadd hx hb dX2_ofWalker_10 ?_
  refine q_top (y := (nI (102 + (10 * w1)))) (nI_add 102 (10 * w1)) ?_
  refine lv_iload_n hx hb dX2_ofWalker_11 rfl (lv_at hl 2 rfl) ?_
  refine lv_iadd hx hb dX2_ofWalker_12 ?_
  refine q_top (y := (nI ((102 + (10 * w1)) + w2))) (nI_add (102 + (10 * w1)) w2) ?_
  refine q_ildN hx hb hK hP 84 182 (ar_84) ((102 + (10 * w1)) + w2) dX2_ofWalker_13 rfl (by omega) (by decide) ?_
  have hX : (xX2_ofWalker (R 84) w1 w2) = (R 84 ((102 + (10 * w1)) + w2)) := by unfold xX2_ofWalker; rfl
  exact W.iret (v := (R 84 ((102 + (10 * w1)) + w2))) hx hb hr (fun t ht hW => ⟨by rw [hX], ht⟩) (fun _ h => by cases h) dX2_ofWalker_14

def xX2_isAboard (s : Nat → Int32) (w1 : Nat) : Int32 :=
  (if (xX2_ofWalker s w1 1) = (-100009 : Int32) then (0 : Int32) else (1 : Int32))
set_option maxHeartbeats 4000000 in
set_option maxRecDepth 100000 in
theorem mX2_isAboard (l : Launch) (D : va_G) (cI cS : ClassId) (ad : Nat → Nat) (hI : Inj ad) (R F : Nat → Nat → Int32) (w1 : Nat) (h1 : w1 < 8) : Met l yX2_isAboard wsX2_isAboard ({ frames := 1, cells := 0, slots := 0, locals := 22 }) (PW D cI cS ad R F [.ref (ad 83), .int (nI w1)]) (QS (xX2_isAboard (R 84) w1)) 0 0 (fun _ => False) := by
  refine Met.ofW (cc := cX2_isAboard) (maxL := 2) (ret := (some .boolean)) (by decide) rfl ?_
  intro p e s m args below meth c s₁ B hml hv
  obtain ⟨rfl, hP, hK⟩ := hv
  have hx := B.exec
  have hb := B.bytes
  have hr := B.returns
  have hts := atoms_spec (ws := wsX2_isAboard) B.pre
  have hown : s.vm.findClass RX2 = some m.cls := findClass_of_methodNamed B.named
  have hlocks := B.notSynchronized
  have hS : va_S (AA ad) s.heap s.heap [] := va_S.rf
  have hl := lv_entry ([.ref (ad 83), .int (nI w1)]) (n := 2) (Nat.le_of_ble_eq_true rfl)
  rw [lg_entry_eq]
  generalize (lg_sl ([.ref (ad 83), .int (nI w1)]) ++ List.replicate (2 - (lg_sl ([.ref (ad 83), .int (nI w1)])).length) Slot.unset).toArray = ls at hl ⊢
  have hl : lv_has ls 2 [(0, .ref (ad 83)), (1, .int (nI w1))] := hl
  have lk31 := hts (.constant RX2 31 (-100009)) (by decide +kernel)
  refine lv_aload_n hx hb dX2_isAboard_0 rfl (lv_at hl 0 rfl) ?_
  refine lv_iload_n hx hb dX2_isAboard_1 rfl (lv_at hl 1 rfl) ?_
  refine lv_iconst (v := 1) hx hb dX2_isAboard_2 (by decide) ?_
  refine q_callS (va_runV (As := [.int (nI w1), .int (nI 1)]) (rest := []) ⟨hx, hb, hml, hown, hts⟩ (mX2_ofWalker l D cI cS ad hI R F w1 1 (by omega)) (cwV 2 hts gX2_isAboard_X2_ofWalker rfl rfl rfl (by decide +kernel) ⟨Nat.le_of_ble_eq_true rfl, Nat.le_of_ble_eq_true rfl⟩) (PW_preV (i := 83) (by decide) CC_83 rfl rfl hK hP) rfl rfl hl.1 rfl (lv_room (Nat.le_of_ble_eq_true rfl)) dX2_isAboard_3 ⟨Nat.zero_le _, Nat.zero_le _⟩) ?_
  refine lv_ldc (v := -100009) hx hb hown lk31 dX2_isAboard_6 ?_
  refine lv_icmp_eq (tgt := 15) hx hb dX2_isAboard_8 (by decide) (fun c_8 => ?_) (fun c_8 => ?_)
  · refine lv_iconst (v := 0) hx hb dX2_isAboard_15 (by decide) ?_
    have hX : (xX2_isAboard (R 84) w1) = (0 : Int32) := by unfold xX2_isAboard; rw [if_pos c_8]
    exact W.zret (v := (0 : Int32)) hx hb hr rfl (fun t ht hW => ⟨by rw [hX], ht⟩) (fun _ h => by cases h) dX2_isAboard_16
  · refine lv_iconst (v := 1) hx hb dX2_isAboard_11 (by decide) ?_
    refine lv_goto (tgt := 16) hx hb dX2_isAboard_12 (by decide) ?_
    have hX : (xX2_isAboard (R 84) w1) = (1 : Int32) := by unfold xX2_isAboard; rw [if_neg c_8]
    exact W.zret (v := (1 : Int32)) hx hb hr rfl (fun t ht hW => ⟨by rw [hX], ht⟩) (fun _ h => by cases h) dX2_isAboard_16

def xX2_areNeighbors (p1 : Int32) (p2 : Int32) : Int32 :=
  (if p2 ≤ p1 then (if (p1 - p2) = (6 : Int32) then (1 : Int32) else (if (p1 - p2) = (1 : Int32) then (if (p1 / (6 : Int32)) = (p2 / (6 : Int32)) then (1 : Int32) else (0 : Int32)) else (0 : Int32))) else (if (p2 - p1) = (6 : Int32) then (1 : Int32) else (if (p2 - p1) = (1 : Int32) then (if (p1 / (6 : Int32)) = (p2 / (6 : Int32)) then (1 : Int32) else (0 : Int32)) else (0 : Int32))))
set_option maxHeartbeats 4000000 in
set_option maxRecDepth 100000 in
theorem mX2_areNeighbors (l : Launch) (D : va_G) (cI cS : ClassId) (ad : Nat → Nat) (hI : Inj ad) (R F : Nat → Nat → Int32) (p1 : Int32) (p2 : Int32) : Met l yX2_areNeighbors wsX2_areNeighbors ({ frames := 0, cells := 0, slots := 0, locals := 0 }) (PW D cI cS ad R F [.int p1, .int p2]) (QS (xX2_areNeighbors p1 p2)) 0 0 (fun _ => False) := by
  refine Met.ofW (cc := cX2_areNeighbors) (maxL := 3) (ret := (some .boolean)) (by decide) rfl ?_
  intro p e s m args below meth c s₁ B hml hv
  obtain ⟨rfl, hP, hK⟩ := hv
  have hx := B.exec
  have hb := B.bytes
  have hr := B.returns
  have hts := atoms_spec (ws := wsX2_areNeighbors) B.pre
  have hown : s.vm.findClass RX2 = some m.cls := findClass_of_methodNamed B.named
  have hlocks := B.notSynchronized
  have hS : va_S (AA ad) s.heap s.heap [] := va_S.rf
  have hl := lv_entry ([.int p1, .int p2]) (n := 3) (Nat.le_of_ble_eq_true rfl)
  rw [lg_entry_eq]
  generalize (lg_sl ([.int p1, .int p2]) ++ List.replicate (3 - (lg_sl ([.int p1, .int p2])).length) Slot.unset).toArray = ls at hl ⊢
  have hl : lv_has ls 3 [(0, .int p1), (1, .int p2)] := hl
  refine lv_iload_n hx hb dX2_areNeighbors_0 rfl (lv_at hl 0 rfl) ?_
  refine lv_iload_n hx hb dX2_areNeighbors_1 rfl (lv_at hl 1 rfl) ?_
  refine lv_icmp_ge (tgt := 11) hx hb dX2_areNeighbors_2 (by decide) (fun c_2 => ?_) (fun c_2 => ?_)
  · refine lv_iload_n hx hb dX2_areNeighbors_11 rfl (lv_at hl 0 rfl) ?_
    refine lv_iload_n hx hb dX2_areNeighbors_12 rfl (lv_at hl 1 rfl) ?_
    refine lv_isub hx hb dX2_areNeighbors_13 ?_
    refine lv_istore_n (lv' := [(2, .int (p1 - p2)), (0, .int p1), (1, .int p2)]) hx hb dX2_areNeighbors_14 rfl hl (by decide) rfl (fun ls hl => ?_)
    refine lv_iload_n hx hb dX2_areNeighbors_15 rfl (lv_at hl 0 rfl) ?_
    refine lv_bipush (v := 6) hx hb dX2_areNeighbors_16 (by decide) ?_
    refine lv_icmp_eq (tgt := 37) hx hb dX2_areNeighbors_18 (by decide) (fun c_18 => ?_) (fun c_18 => ?_)
    · refine lv_iconst (v := 1) hx hb dX2_areNeighbors_37 (by decide) ?_
      refine lv_goto (tgt := 42) hx hb dX2_areNeighbors_38 (by decide) ?_
      have hX : (xX2_areNeighbors p1 p2) = (1 : Int32) := by unfold xX2_areNeighbors; rw [if_pos c_2, if_pos c_18]
      exact W.zret (v := (1 : Int32)) hx hb hr rfl (fun t ht hW => ⟨by rw [hX], ht⟩) (fun _ h => by cases h) dX2_areNeighbors_42
    · refine lv_iload_n hx hb dX2_areNeighbors_21 rfl (lv_at hl 0 rfl) ?_
      refine lv_iconst (v := 1) hx hb dX2_areNeighbors_22 (by decide) ?_
      refine lv_icmp_ne (tgt := 41) hx hb dX2_areNeighbors_23 (by decide) (fun c_23 => ?_) (fun c_23 => ?_)
      · refine lv_iconst (v := 0) hx hb dX2_areNeighbors_41 (by decide) ?_
        have hX : (xX2_areNeighbors p1 p2) = (0 : Int32) := by unfold xX2_areNeighbors; rw [if_pos c_2, if_neg c_18, if_neg c_23]
        exact W.zret (v := (0 : Int32)) hx hb hr rfl (fun t ht hW => ⟨by rw [hX], ht⟩) (fun _ h => by cases h) dX2_areNeighbors_42
      · refine lv_iload_n hx hb dX2_areNeighbors_26 rfl (lv_at hl 1 rfl) ?_
        refine lv_bipush (v := 6) hx hb dX2_areNeighbors_27 (by decide) ?_
        refine lv_idiv hx hb dX2_areNeighbors_29 (by decide) ?_
        refine lv_iload_n hx hb dX2_areNeighbors_30 rfl (lv_at hl 2 rfl) ?_
        refine lv_bipush (v := 6) hx hb dX2_areNeighbors_31 (by decide) ?_
        refine lv_idiv hx hb dX2_areNeighbors_33 (by decide) ?_
        refine lv_icmp_ne (tgt := 41) hx hb dX2_areNeighbors_34 (by decide) (fun c_34 => ?_) (fun c_34 => ?_)
        · refine lv_iconst (v := 0) hx hb dX2_areNeighbors_41 (by decide) ?_
          have hX : (xX2_areNeighbors p1 p2) = (0 : Int32) := by unfold xX2_areNeighbors; rw [if_pos c_2, if_neg c_18, if_pos c_23, if_neg c_34]
          exact W.zret (v := (0 : Int32)) hx hb hr rfl (fun t ht hW => ⟨by rw [hX], ht⟩) (fun _ h => by cases h) dX2_areNeighbors_42
        · refine lv_iconst (v := 1) hx hb dX2_areNeighbors_37 (by decide) ?_
          refine lv_goto (tgt := 42) hx hb dX2_areNeighbors_38 (by decide) ?_
          have hX : (xX2_areNeighbors p1 p2) = (1 : Int32) := by unfold xX2_areNeighbors; rw [if_pos c_2, if_neg c_18, if_pos c_23, if_pos c_34]
          exact W.zret (v := (1 : Int32)) hx hb hr rfl (fun t ht hW => ⟨by rw [hX], ht⟩) (fun _ h => by cases h) dX2_areNeighbors_42
  · refine lv_iload_n hx hb dX2_areNeighbors_5 rfl (lv_at hl 1 rfl) ?_
    refine lv_iload_n hx hb dX2_areNeighbors_6 rfl (lv_at hl 0 rfl) ?_
    refine lv_isub hx hb dX2_areNeighbors_7 ?_
    refine lv_goto (tgt := 14) hx hb dX2_areNeighbors_8 (by decide) ?_
    refine lv_istore_n (lv' := [(2, .int (p2 - p1)), (0, .int p1), (1, .int p2)]) hx hb dX2_areNeighbors_14 rfl hl (by decide) rfl (fun ls hl => ?_)
    refine lv_iload_n hx hb dX2_areNeighbors_15 rfl (lv_at hl 0 rfl) ?_
    refine lv_bipush (v := 6) hx hb dX2_areNeighbors_16 (by decide) ?_
    refine lv_icmp_eq (tgt := 37) hx hb dX2_areNeighbors_18 (by decide) (fun c_18 => ?_) (fun c_18 => ?_)
    · refine lv_iconst (v := 1) hx hb dX2_areNeighbors_37 (by decide) ?_
      refine lv_goto (tgt := 42) hx hb dX2_areNeighbors_38 (by decide) ?_
      have hX : (xX2_areNeighbors p1 p2) = (1 : Int32) := by unfold xX2_areNeighbors; rw [if_neg c_2, if_pos c_18]
      exact W.zret (v := (1 : Int32)) hx hb hr rfl (fun t ht hW => ⟨by rw [hX], ht⟩) (fun _ h => by cases h) dX2_areNeighbors_42
    · refine lv_iload_n hx hb dX2_areNeighbors_21 rfl (lv_at hl 0 rfl) ?_
      refine lv_iconst (v := 1) hx hb dX2_areNeighbors_22 (by decide) ?_
      refine lv_icmp_ne (tgt := 41) hx hb dX2_areNeighbors_23 (by decide) (fun c_23 => ?_) (fun c_23 => ?_)
      · refine lv_iconst (v := 0) hx hb dX2_areNeighbors_41 (by decide) ?_
        have hX : (xX2_areNeighbors p1 p2) = (0 : Int32) := by unfold xX2_areNeighbors; rw [if_neg c_2, if_neg c_18, if_neg c_23]
        exact W.zret (v := (0 : Int32)) hx hb hr rfl (fun t ht hW => ⟨by rw [hX], ht⟩) (fun _ h => by cases h) dX2_areNeighbors_42
      · refine lv_iload_n hx hb dX2_areNeighbors_26 rfl (lv_at hl 1 rfl) ?_
        refine lv_bipush (v := 6) hx hb dX2_areNeighbors_27 (by decide) ?_
        refine lv_idiv hx hb dX2_areNeighbors_29 (by decide) ?_
        refine lv_iload_n hx hb dX2_areNeighbors_30 rfl (lv_at hl 2 rfl) ?_
        refine lv_bipush (v := 6) hx hb dX2_areNeighbors_31 (by decide) ?_
        refine lv_idiv hx hb dX2_areNeighbors_33 (by decide) ?_
        refine lv_icmp_ne (tgt := 41) hx hb dX2_areNeighbors_34 (by decide) (fun c_34 => ?_) (fun c_34 => ?_)
        · refine lv_iconst (v := 0) hx hb dX2_areNeighbors_41 (by decide) ?_
          have hX : (xX2_areNeighbors p1 p2) = (0 : Int32) := by unfold xX2_areNeighbors; rw [if_neg c_2, if_neg c_18, if_pos c_23, if_neg c_34]
          exact W.zret (v := (0 : Int32)) hx hb hr rfl (fun t ht hW => ⟨by rw [hX], ht⟩) (fun _ h => by cases h) dX2_areNeighbors_42
        · refine lv_iconst (v := 1) hx hb dX2_areNeighbors_37 (by decide) ?_
          refine lv_goto (tgt := 42) hx hb dX2_areNeighbors_38 (by decide) ?_
          have hX : (xX2_areNeighbors p1 p2) = (1 : Int32) := by unfold xX2_areNeighbors; rw [if_neg c_2, if_neg c_18, if_pos c_23, if_pos c_34]
          exact W.zret (v := (1 : Int32)) hx hb hr rfl (fun t ht hW => ⟨by rw [hX], ht⟩) (fun _ h => by cases h) dX2_areNeighbors_42

def hX2_neighbors_4 (p1 : Int32) : Nat → Nat → Int32 → Int32
  | 0, k, x1 => x1
  | n + 1, k, x1 => (if (xX2_areNeighbors p1 (nI k)) = (0 : Int32) then (hX2_neighbors_4 p1 n (k + 1) (x1 + (0 : Int32))) else (hX2_neighbors_4 p1 n (k + 1) (x1 + (1 : Int32))))
theorem hX2_neighbors_4_z (p1 : Int32) (k : Nat) (x1 : Int32) : hX2_neighbors_4 p1 0 k x1 = x1 := rfl
theorem hX2_neighbors_4_s (p1 : Int32) (n : Nat) (k : Nat) (x1 : Int32) : hX2_neighbors_4 p1 (n + 1) k x1 = (if (xX2_areNeighbors p1 (nI k)) = (0 : Int32) then (hX2_neighbors_4 p1 n (k + 1) (x1 + (0 : Int32))) else (hX2_neighbors_4 p1 n (k + 1) (x1 + (1 : Int32)))) := rfl
def xX2_neighbors (p1 : Int32) : Int32 :=
  (hX2_neighbors_4 p1 24 0 (0 : Int32))
set_option maxHeartbeats 4000000 in
set_option maxRecDepth 100000 in
theorem mX2_neighbors (l : Launch) (D : va_G) (cI cS : ClassId) (ad : Nat → Nat) (hI : Inj ad) (R F : Nat → Nat → Int32) (p1 : Int32) : Met l yX2_neighbors wsX2_neighbors ({ frames := 1, cells := 0, slots := 0, locals := 22 }) (PW D cI cS ad R F [.int p1]) (QS (xX2_neighbors p1)) 0 0 (fun _ => False) := by
  refine Met.ofW (cc := cX2_neighbors) (maxL := 3) (ret := (some .int)) (by decide) rfl ?_
  intro p e s m args below meth c s₁ B hml hv
  obtain ⟨rfl, hP, hK⟩ := hv
  have hx := B.exec
  have hb := B.bytes
  have hr := B.returns
  have hts := atoms_spec (ws := wsX2_neighbors) B.pre
  have hown : s.vm.findClass RX2 = some m.cls := findClass_of_methodNamed B.named
  have hlocks := B.notSynchronized
  have hS : va_S (AA ad) s.heap s.heap [] := va_S.rf
  have hl := lv_entry ([.int p1]) (n := 3) (Nat.le_of_ble_eq_true rfl)
  rw [lg_entry_eq]
  generalize (lg_sl ([.int p1]) ++ List.replicate (3 - (lg_sl ([.int p1])).length) Slot.unset).toArray = ls at hl ⊢
  have hl : lv_has ls 3 [(0, .int p1)] := hl
  refine lv_iconst (v := 0) hx hb dX2_neighbors_0 (by decide) ?_
  refine lv_istore_n (lv' := [(1, .int (0 : Int32)), (0, .int p1)]) hx hb dX2_neighbors_1 rfl hl (by decide) rfl (fun ls hl => ?_)
  refine lv_iconst (v := 0) hx hb dX2_neighbors_2 (by decide) ?_
  refine lv_istore_n (lv' := [(2, .int (0 : Int32)), (1, .int (0 : Int32)), (0, .int p1)]) hx hb dX2_neighbors_3 rfl hl (by decide) rfl (fun ls hl => ?_)
  refine q_loop (fun nn H locs ls => ∃ (k : Nat) (x1 : Int32), k + nn = 24 ∧ hX2_neighbors_4 p1 nn k x1 = (xX2_neighbors p1) ∧ WP D cI cS ad R F H ∧ locs = [] ∧ H = s.heap ∧ lv_has ls 3 [(2, .int (nI k)), (1, .int x1), (0, .int p1)]) 24 ⟨0, (0 : Int32), by omega, by unfold xX2_neighbors; rfl, hP, rfl, rfl, lv_sub hl [0, 1, 2] rfl⟩ ?_ ?_
  · intro H locs ls hz
    obtain ⟨k, x1, hkn, hsp, hP, rfl, rfl, hl⟩ := hz
    refine lv_iload_n hx hb dX2_neighbors_4 rfl (lv_at hl 0 rfl) ?_
    refine lv_bipush (v := 24) hx hb dX2_neighbors_5 (by decide) ?_
    refine lv_icmp_ge (tgt := 32) hx hb dX2_neighbors_7 (by decide) (fun c_7 => ?_) (fun c_7 => ?_)
    · refine lv_iload_n hx hb dX2_neighbors_32 rfl (lv_at hl 1 rfl) ?_
      have hX : (xX2_neighbors p1) = x1 := by rw [← hsp, hX2_neighbors_4_z]
      exact W.iret (v := x1) hx hb hr (fun t ht hW => ⟨by rw [hX], ht⟩) (fun _ h => by cases h) dX2_neighbors_33
    · exact absurd (nI_le (a := 24) (b := k) (by omega) (by omega)) c_7
  · intro n ih H locs ls hz
    obtain ⟨k, x1, hkn, hsp, hP, rfl, rfl, hl⟩ := hz
    refine lv_iload_n hx hb dX2_neighbors_4 rfl (lv_at hl 0 rfl) ?_
    refine lv_bipush (v := 24) hx hb dX2_neighbors_5 (by decide) ?_
    refine lv_icmp_ge (tgt := 32) hx hb dX2_neighbors_7 (by decide) (fun c_7 => ?_) (fun c_7 => ?_)
    · exact absurd c_7 (nI_ge (a := k) (b := 24) (by omega) (by omega))
    · refine lv_iload_n hx hb dX2_neighbors_10 rfl (lv_at hl 1 rfl) ?_
      refine lv_iload_n hx hb dX2_neighbors_11 rfl (lv_at hl 2 rfl) ?_
      refine lv_iload_n hx hb dX2_neighbors_12 rfl (lv_at hl 0 rfl) ?_
      refine q_callS (va_runS (As := [.int p1, .int (nI k)]) (rest := [.int x1]) ⟨hx, hb, hml, hown, hts⟩ (mX2_areNeighbors l D cI cS ad hI R F p1 (nI k)) (va_cwS 2 hts gX2_neighbors_X2_areNeighbors rfl rfl rfl (by decide +kernel) ⟨Nat.le_of_ble_eq_true rfl, Nat.le_of_ble_eq_true rfl⟩) (PW_preS hK hP) rfl rfl hl.1 rfl (lv_room (Nat.le_of_ble_eq_true rfl)) dX2_neighbors_13 ⟨Nat.zero_le _, Nat.zero_le _⟩) ?_
      refine lv_if_eq (tgt := 23) hx hb dX2_neighbors_16 (by decide) (fun c_16 => ?_) (fun c_16 => ?_)
      · refine lv_iconst (v := 0) hx hb dX2_neighbors_23 (by decide) ?_
        refine lv_iadd hx hb dX2_neighbors_24 ?_
        refine lv_istore_n (lv' := [(1, .int (x1 + (0 : Int32))), (2, .int (nI k)), (0, .int p1)]) hx hb dX2_neighbors_25 rfl hl (by decide) rfl (fun ls hl => ?_)
        refine lv_iinc (v := (nI (k + 1))) (lv' := [(2, .int (nI (k + 1))), (1, .int (x1 + (0 : Int32))), (0, .int p1)]) hx hb dX2_neighbors_26 hl (k := 1) rfl (nI_1 k) (by decide) rfl (fun ls hl => ?_)
        refine lv_goto (tgt := 4) hx hb dX2_neighbors_29 (by decide) ?_
        exact ih _ _ _ ⟨(k + 1), (x1 + (0 : Int32)), by omega, by rw [← hsp, hX2_neighbors_4_s, if_pos c_16], hP, rfl, rfl, lv_sub hl [0, 1, 2] rfl⟩
      · refine lv_iconst (v := 1) hx hb dX2_neighbors_19 (by decide) ?_
        refine lv_goto (tgt := 24) hx hb dX2_neighbors_20 (by decide) ?_
        refine lv_iadd hx hb dX2_neighbors_24 ?_
        refine lv_istore_n (lv' := [(1, .int (x1 + (1 : Int32))), (2, .int (nI k)), (0, .int p1)]) hx hb dX2_neighbors_25 rfl hl (by decide) rfl (fun ls hl => ?_)
        refine lv_iinc (v := (nI (k + 1))) (lv' := [(2, .int (nI (k + 1))), (1, .int (x1 + (1 : Int32))), (0, .int p1)]) hx hb dX2_neighbors_26 hl (k := 1) rfl (nI_1 k) (by decide) rfl (fun ls hl => ?_)
        refine lv_goto (tgt := 4) hx hb dX2_neighbors_29 (by decide) ?_
        exact ih _ _ _ ⟨(k + 1), (x1 + (1 : Int32)), by omega, by rw [← hsp, hX2_neighbors_4_s, if_neg c_16], hP, rfl, rfl, lv_sub hl [0, 1, 2] rfl⟩

def xX2_share (p1 : Int32) (p2 : Int32) (p3 : Int32) : Int32 :=
  (if p2 = p3 then (p1 - ((xX2_neighbors p2) * (p1 / (8 : Int32)))) else (if (xX2_areNeighbors p2 p3) = (0 : Int32) then (0 : Int32) else (p1 / (8 : Int32))))
set_option maxHeartbeats 4000000 in
set_option maxRecDepth 100000 in
theorem mX2_share (l : Launch) (D : va_G) (cI cS : ClassId) (ad : Nat → Nat) (hI : Inj ad) (R F : Nat → Nat → Int32) (p1 : Int32) (p2 : Int32) (p3 : Int32) : Met l yX2_share wsX2_share ({ frames := 2, cells := 0, slots := 0, locals := 44 }) (PW D cI cS ad R F [.int p1, .int p2, .int p3]) (QS (xX2_share p1 p2 p3)) 0 0 (fun _ => False) := by
  refine Met.ofW (cc := cX2_share) (maxL := 3) (ret := (some .int)) (by decide) rfl ?_
  intro p e s m args below meth c s₁ B hml hv
  obtain ⟨rfl, hP, hK⟩ := hv
  have hx := B.exec
  have hb := B.bytes
  have hr := B.returns
  have hts := atoms_spec (ws := wsX2_share) B.pre
  have hown : s.vm.findClass RX2 = some m.cls := findClass_of_methodNamed B.named
  have hlocks := B.notSynchronized
  have hS : va_S (AA ad) s.heap s.heap [] := va_S.rf
  have hl := lv_entry ([.int p1, .int p2, .int p3]) (n := 3) (Nat.le_of_ble_eq_true rfl)
  rw [lg_entry_eq]
  generalize (lg_sl ([.int p1, .int p2, .int p3]) ++ List.replicate (3 - (lg_sl ([.int p1, .int p2, .int p3])).length) Slot.unset).toArray = ls at hl ⊢
  have hl : lv_has ls 3 [(0, .int p1), (1, .int p2), (2, .int p3)] := hl
  refine lv_iload_n hx hb dX2_share_0 rfl (lv_at hl 1 rfl) ?_
  refine lv_iload_n hx hb dX2_share_1 rfl (lv_at hl 2 rfl) ?_
  refine lv_icmp_ne (tgt := 19) hx hb dX2_share_2 (by decide) (fun c_2 => ?_) (fun c_2 => ?_)
  · refine lv_iload_n hx hb dX2_share_19 rfl (lv_at hl 1 rfl) ?_
    refine lv_iload_n hx hb dX2_share_20 rfl (lv_at hl 2 rfl) ?_
    refine q_callS (va_runS (As := [.int p2, .int p3]) (rest := []) ⟨hx, hb, hml, hown, hts⟩ (mX2_areNeighbors l D cI cS ad hI R F p2 p3) (va_cwS 2 hts gX2_share_X2_areNeighbors rfl rfl rfl (by decide +kernel) ⟨Nat.le_of_ble_eq_true rfl, Nat.le_of_ble_eq_true rfl⟩) (PW_preS hK hP) rfl rfl hl.1 rfl (lv_room (Nat.le_of_ble_eq_true rfl)) dX2_share_21 ⟨Nat.zero_le _, Nat.zero_le _⟩) ?_
    refine lv_if_eq (tgt := 34) hx hb dX2_share_24 (by decide) (fun c_24 => ?_) (fun c_24 => ?_)
    · refine lv_iconst (v := 0) hx hb dX2_share_34 (by decide) ?_
      have hX : (xX2_share p1 p2 p3) = (0 : Int32) := by unfold xX2_share; rw [if_neg c_2, if_pos c_24]
      exact W.iret (v := (0 : Int32)) hx hb hr (fun t ht hW => ⟨by rw [hX], ht⟩) (fun _ h => by cases h) dX2_share_35
    · refine lv_iload_n hx hb dX2_share_27 rfl (lv_at hl 0 rfl) ?_
      refine lv_bipush (v := 8) hx hb dX2_share_28 (by decide) ?_
      refine lv_idiv hx hb dX2_share_30 (by decide) ?_
      refine lv_goto (tgt := 35) hx hb dX2_share_31 (by decide) ?_
      have hX : (xX2_share p1 p2 p3) = (p1 / (8 : Int32)) := by unfold xX2_share; rw [if_neg c_2, if_neg c_24]
      exact W.iret (v := (p1 / (8 : Int32))) hx hb hr (fun t ht hW => ⟨by rw [hX], ht⟩) (fun _ h => by cases h) dX2_share_35
  · refine lv_iload_n hx hb dX2_share_5 rfl (lv_at hl 0 rfl) ?_
    refine lv_iload_n hx hb dX2_share_6 rfl (lv_at hl 1 rfl) ?_
    refine q_callS (va_runS (As := [.int p2]) (rest := [.int p1]) ⟨hx, hb, hml, hown, hts⟩ (mX2_neighbors l D cI cS ad hI R F p2) (va_cwS 1 hts gX2_share_X2_neighbors rfl rfl rfl (by decide +kernel) ⟨Nat.le_of_ble_eq_true rfl, Nat.le_of_ble_eq_true rfl⟩) (PW_preS hK hP) rfl rfl hl.1 rfl (lv_room (Nat.le_of_ble_eq_true rfl)) dX2_share_7 ⟨Nat.zero_le _, Nat.zero_le _⟩) ?_
    refine lv_iload_n hx hb dX2_share_10 rfl (lv_at hl 0 rfl) ?_
    refine lv_bipush (v := 8) hx hb dX2_share_11 (by decide) ?_
    refine lv_idiv hx hb dX2_share_13 (by decide) ?_
    refine lv_imul hx hb dX2_share_14 ?_
    refine lv_isub hx hb dX2_share_15 ?_
    refine lv_goto (tgt := 35) hx hb dX2_share_16 (by decide) ?_
    have hX : (xX2_share p1 p2 p3) = (p1 - ((xX2_neighbors p2) * (p1 / (8 : Int32)))) := by unfold xX2_share; rw [if_pos c_2]
    exact W.iret (v := (p1 - ((xX2_neighbors p2) * (p1 / (8 : Int32))))) hx hb hr (fun t ht hW => ⟨by rw [hX], ht⟩) (fun _ h => by cases h) dX2_share_35

def xX2_isNear (p1 : Int32) (p2 : Int32) : Int32 :=
  (if p1 = p2 then (1 : Int32) else (if (xX2_areNeighbors p1 p2) = (0 : Int32) then (0 : Int32) else (1 : Int32)))
set_option maxHeartbeats 4000000 in
set_option maxRecDepth 100000 in
theorem mX2_isNear (l : Launch) (D : va_G) (cI cS : ClassId) (ad : Nat → Nat) (hI : Inj ad) (R F : Nat → Nat → Int32) (p1 : Int32) (p2 : Int32) : Met l yX2_isNear wsX2_isNear ({ frames := 1, cells := 0, slots := 0, locals := 22 }) (PW D cI cS ad R F [.int p1, .int p2]) (QS (xX2_isNear p1 p2)) 0 0 (fun _ => False) := by
  refine Met.ofW (cc := cX2_isNear) (maxL := 2) (ret := (some .boolean)) (by decide) rfl ?_
  intro p e s m args below meth c s₁ B hml hv
  obtain ⟨rfl, hP, hK⟩ := hv
  have hx := B.exec
  have hb := B.bytes
  have hr := B.returns
  have hts := atoms_spec (ws := wsX2_isNear) B.pre
  have hown : s.vm.findClass RX2 = some m.cls := findClass_of_methodNamed B.named
  have hlocks := B.notSynchronized
  have hS : va_S (AA ad) s.heap s.heap [] := va_S.rf
  have hl := lv_entry ([.int p1, .int p2]) (n := 2) (Nat.le_of_ble_eq_true rfl)
  rw [lg_entry_eq]
  generalize (lg_sl ([.int p1, .int p2]) ++ List.replicate (2 - (lg_sl ([.int p1, .int p2])).length) Slot.unset).toArray = ls at hl ⊢
  have hl : lv_has ls 2 [(0, .int p1), (1, .int p2)] := hl
  refine lv_iload_n hx hb dX2_isNear_0 rfl (lv_at hl 0 rfl) ?_
  refine lv_iload_n hx hb dX2_isNear_1 rfl (lv_at hl 1 rfl) ?_
  refine lv_icmp_eq (tgt := 13) hx hb dX2_isNear_2 (by decide) (fun c_2 => ?_) (fun c_2 => ?_)
  · refine lv_iconst (v := 1) hx hb dX2_isNear_13 (by decide) ?_
    refine lv_goto (tgt := 18) hx hb dX2_isNear_14 (by decide) ?_
    have hX : (xX2_isNear p1 p2) = (1 : Int32) := by unfold xX2_isNear; rw [if_pos c_2]
    exact W.zret (v := (1 : Int32)) hx hb hr rfl (fun t ht hW => ⟨by rw [hX], ht⟩) (fun _ h => by cases h) dX2_isNear_18
  · refine lv_iload_n hx hb dX2_isNear_5 rfl (lv_at hl 0 rfl) ?_
    refine lv_iload_n hx hb dX2_isNear_6 rfl (lv_at hl 1 rfl) ?_
    refine q_callS (va_runS (As := [.int p1, .int p2]) (rest := []) ⟨hx, hb, hml, hown, hts⟩ (mX2_areNeighbors l D cI cS ad hI R F p1 p2) (va_cwS 2 hts gX2_isNear_X2_areNeighbors rfl rfl rfl (by decide +kernel) ⟨Nat.le_of_ble_eq_true rfl, Nat.le_of_ble_eq_true rfl⟩) (PW_preS hK hP) rfl rfl hl.1 rfl (lv_room (Nat.le_of_ble_eq_true rfl)) dX2_isNear_7 ⟨Nat.zero_le _, Nat.zero_le _⟩) ?_
    refine lv_if_eq (tgt := 17) hx hb dX2_isNear_10 (by decide) (fun c_10 => ?_) (fun c_10 => ?_)
    · refine lv_iconst (v := 0) hx hb dX2_isNear_17 (by decide) ?_
      have hX : (xX2_isNear p1 p2) = (0 : Int32) := by unfold xX2_isNear; rw [if_neg c_2, if_pos c_10]
      exact W.zret (v := (0 : Int32)) hx hb hr rfl (fun t ht hW => ⟨by rw [hX], ht⟩) (fun _ h => by cases h) dX2_isNear_18
    · refine lv_iconst (v := 1) hx hb dX2_isNear_13 (by decide) ?_
      refine lv_goto (tgt := 18) hx hb dX2_isNear_14 (by decide) ?_
      have hX : (xX2_isNear p1 p2) = (1 : Int32) := by unfold xX2_isNear; rw [if_neg c_2, if_neg c_10]
      exact W.zret (v := (1 : Int32)) hx hb hr rfl (fun t ht hW => ⟨by rw [hX], ht⟩) (fun _ h => by cases h) dX2_isNear_18

def xX2_puts (R F : Nat → Nat → Int32) (w1 : Nat) (w2 : Nat) (p3 : Int32) : (Nat → Nat → Int32) :=
  (sR R 84 ((102 + (10 * w1)) + w2) p3)
set_option maxHeartbeats 4000000 in
set_option maxRecDepth 100000 in
theorem mX2_puts (l : Launch) (D : va_G) (cI cS : ClassId) (ad : Nat → Nat) (hI : Inj ad) (R F : Nat → Nat → Int32) (w1 : Nat) (w2 : Nat) (p3 : Int32) (h1 : 102 + 10 * w1 + w2 < 182) : Met l yX2_puts wsX2_puts ({ frames := 0, cells := 0, slots := 0, locals := 0 }) (PW D cI cS ad R F [.ref (ad 83), .int (nI w1), .int (nI w2), .int p3]) (QV D cI cS ad (xX2_puts R F w1 w2 p3) F) 0 0 (AA ad) := by
  refine Met.ofW (cc := cX2_puts) (maxL := 4) (ret := none) (by decide) rfl ?_
  intro p e s m args below meth c s₁ B hml hv
  obtain ⟨rfl, hP, hK⟩ := hv
  have hx := B.exec
  have hb := B.bytes
  have hr := B.returns
  have hts := atoms_spec (ws := wsX2_puts) B.pre
  have hown : s.vm.findClass RX2 = some m.cls := findClass_of_methodNamed B.named
  have hlocks := B.notSynchronized
  have hS : va_S (AA ad) s.heap s.heap [] := va_S.rf
  have hl := lv_entry ([.ref (ad 83), .int (nI w1), .int (nI w2), .int p3]) (n := 4) (Nat.le_of_ble_eq_true rfl)
  rw [lg_entry_eq]
  generalize (lg_sl ([.ref (ad 83), .int (nI w1), .int (nI w2), .int p3]) ++ List.replicate (4 - (lg_sl ([.ref (ad 83), .int (nI w1), .int (nI w2), .int p3])).length) Slot.unset).toArray = ls at hl ⊢
  have hl : lv_has ls 4 [(0, .ref (ad 83)), (1, .int (nI w1)), (2, .int (nI w2)), (3, .int p3)] := hl
  have lk7 := hts (.fieldLink RX2 7 "FerryFloorModel" "s" "[I") (by decide +kernel)
  have hin2 : ∀ w ∈ u_ws RX2 TX2 5, w ∈ wsX2_puts := by decide +kernel
  refine lv_aload_n hx hb dX2_puts_0 rfl (lv_at hl 0 rfl) ?_
  refine q_getM (v := .ref (ad 84)) hx hb hts hin2 hown hK hP 0 (by decide) lk7 (fun _ h => h) rfl dX2_puts_1 ?_
  refine lv_bipush (v := 102) hx hb dX2_puts_4 (by decide) ?_
  refine lv_bipush (v := 10) hx hb dX2_puts_6 (by decide) ?_
  refine lv_iload_n hx hb dX2_puts_8 rfl (lv_at hl 1 rfl) ?_
  refine lv_imul hx hb dX2_puts_9 ?_
  refine q_top (y := (nI (10 * w1))) (pk_mul 10 w1) ?_
  refine lv_iadd hx hb dX2_puts_10 ?_
  refine q_top (y := (nI (102 + (10 * w1)))) (nI_add 102 (10 * w1)) ?_
  refine lv_iload_n hx hb dX2_puts_11 rfl (lv_at hl 2 rfl) ?_
  refine lv_iadd hx hb dX2_puts_12 ?_
  refine q_top (y := (nI ((102 + (10 * w1)) + w2))) (nI_add (102 + (10 * w1)) w2) ?_
  refine lv_iload_n hx hb dX2_puts_13 rfl (lv_at hl 3 rfl) ?_
  refine q_istN hx hb hK hI hP hS 84 182 (ar_84) ((102 + (10 * w1)) + w2) dX2_puts_14 rfl (by omega) (by decide) (fun H locs hP hS => ?_)
  have hP : WP D cI cS ad (sR R 84 ((102 + (10 * w1)) + w2) p3) F H := hP
  have hX : (xX2_puts R F w1 w2 p3) = (sR R 84 ((102 + (10 * w1)) + w2) p3) := by unfold xX2_puts; rfl
  exact W.vret hx hb hr (fun t ht hW => ⟨rfl, by rw [hX, ht]; with_reducible exact hP, hS.F ht⟩) hS.2.2 dX2_puts_15

theorem puts_1 {R F : Nat → Nat → Int32} {w k : Nat} {v : Int32} : xX2_puts R F w k v 84 1 = R 84 1 := by
  unfold xX2_puts
  exact sR_same_ne (by omega)
def xX2_exchanges (R F : Nat → Nat → Int32) (w1 : Nat) (w2 : Nat) (w3 : Nat) : (Nat → Nat → Int32) :=
  (xX2_puts (xX2_puts R F w1 w3 (xX2_ofWalker (R 84) w2 w3)) F w2 w3 (xX2_ofWalker (R 84) w1 w3))
set_option maxHeartbeats 4000000 in
set_option maxRecDepth 100000 in
theorem mX2_exchanges (l : Launch) (D : va_G) (cI cS : ClassId) (ad : Nat → Nat) (hI : Inj ad) (R F : Nat → Nat → Int32) (w1 : Nat) (w2 : Nat) (w3 : Nat) (h1 : w1 < 8) (h2 : w2 < 8) (h3 : w3 < 10) : Met l yX2_exchanges wsX2_exchanges ({ frames := 1, cells := 0, slots := 0, locals := 23 }) (PW D cI cS ad R F [.ref (ad 83), .int (nI w1), .int (nI w2), .int (nI w3)]) (QV D cI cS ad (xX2_exchanges R F w1 w2 w3) F) 0 0 (AA ad) := by
  refine Met.ofW (cc := cX2_exchanges) (maxL := 5) (ret := none) (by decide) rfl ?_
  intro p e s m args below meth c s₁ B hml hv
  obtain ⟨rfl, hP, hK⟩ := hv
  have hx := B.exec
  have hb := B.bytes
  have hr := B.returns
  have hts := atoms_spec (ws := wsX2_exchanges) B.pre
  have hown : s.vm.findClass RX2 = some m.cls := findClass_of_methodNamed B.named
  have hlocks := B.notSynchronized
  have hS : va_S (AA ad) s.heap s.heap [] := va_S.rf
  have hl := lv_entry ([.ref (ad 83), .int (nI w1), .int (nI w2), .int (nI w3)]) (n := 5) (Nat.le_of_ble_eq_true rfl)
  rw [lg_entry_eq]
  generalize (lg_sl ([.ref (ad 83), .int (nI w1), .int (nI w2), .int (nI w3)]) ++ List.replicate (5 - (lg_sl ([.ref (ad 83), .int (nI w1), .int (nI w2), .int (nI w3)])).length) Slot.unset).toArray = ls at hl ⊢
  have hl : lv_has ls 5 [(0, .ref (ad 83)), (1, .int (nI w1)), (2, .int (nI w2)), (3, .int (nI w3))] := hl
  refine lv_aload_n hx hb dX2_exchanges_0 rfl (lv_at hl 0 rfl) ?_
  refine lv_iload_n hx hb dX2_exchanges_1 rfl (lv_at hl 1 rfl) ?_
  refine lv_iload_n hx hb dX2_exchanges_2 rfl (lv_at hl 3 rfl) ?_
  refine q_callS (va_runV (As := [.int (nI w1), .int (nI w3)]) (rest := []) ⟨hx, hb, hml, hown, hts⟩ (mX2_ofWalker l D cI cS ad hI R F w1 w3 (by omega)) (cwV 2 hts gX2_exchanges_X2_ofWalker rfl rfl rfl (by decide +kernel) ⟨Nat.le_of_ble_eq_true rfl, Nat.le_of_ble_eq_true rfl⟩) (PW_preV (i := 83) (by decide) CC_83 rfl rfl hK hP) rfl rfl hl.1 rfl (lv_room (Nat.le_of_ble_eq_true rfl)) dX2_exchanges_3 ⟨Nat.zero_le _, Nat.zero_le _⟩) ?_
  refine lv_istore (lv' := [(4, .int (xX2_ofWalker (R 84) w1 w3)), (0, .ref (ad 83)), (1, .int (nI w1)), (2, .int (nI w2)), (3, .int (nI w3))]) hx hb dX2_exchanges_6 hl (by decide) rfl (fun ls hl => ?_)
  refine lv_aload_n hx hb dX2_exchanges_8 rfl (lv_at hl 1 rfl) ?_
  refine lv_iload_n hx hb dX2_exchanges_9 rfl (lv_at hl 2 rfl) ?_
  refine lv_iload_n hx hb dX2_exchanges_10 rfl (lv_at hl 4 rfl) ?_
  refine lv_aload_n hx hb dX2_exchanges_11 rfl (lv_at hl 1 rfl) ?_
  refine lv_iload_n hx hb dX2_exchanges_12 rfl (lv_at hl 3 rfl) ?_
  refine lv_iload_n hx hb dX2_exchanges_13 rfl (lv_at hl 4 rfl) ?_
  refine q_callS (va_runV (As := [.int (nI w2), .int (nI w3)]) (rest := [.int (nI w3), .int (nI w1), .ref (ad 83)]) ⟨hx, hb, hml, hown, hts⟩ (mX2_ofWalker l D cI cS ad hI R F w2 w3 (by omega)) (cwV 2 hts gX2_exchanges_X2_ofWalker rfl rfl rfl (by decide +kernel) ⟨Nat.le_of_ble_eq_true rfl, Nat.le_of_ble_eq_true rfl⟩) (PW_preV (i := 83) (by decide) CC_83 rfl rfl hK hP) rfl rfl hl.1 rfl (lv_room (Nat.le_of_ble_eq_true rfl)) dX2_exchanges_14 ⟨Nat.zero_le _, Nat.zero_le _⟩) ?_
  refine q_callV (va_runV (As := [.int (nI w1), .int (nI w3), .int (xX2_ofWalker (R 84) w2 w3)]) (rest := []) ⟨hx, hb, hml, hown, hts⟩ (mX2_puts l D cI cS ad hI R F w1 w3 (xX2_ofWalker (R 84) w2 w3) (by omega)) (cwV 3 hts gX2_exchanges_X2_puts rfl rfl rfl (by decide +kernel) ⟨Nat.le_of_ble_eq_true rfl, Nat.le_of_ble_eq_true rfl⟩) (PW_preV (i := 83) (by decide) CC_83 rfl rfl hK hP) rfl rfl hl.1 rfl (lv_room (Nat.le_of_ble_eq_true rfl)) dX2_exchanges_17 ⟨Nat.zero_le _, Nat.zero_le _⟩) hS (fun H locs hP hS => ?_)
  refine lv_aload_n hx hb dX2_exchanges_20 rfl (lv_at hl 1 rfl) ?_
  refine lv_iload_n hx hb dX2_exchanges_21 rfl (lv_at hl 3 rfl) ?_
  refine lv_iload_n hx hb dX2_exchanges_22 rfl (lv_at hl 4 rfl) ?_
  refine lv_iload hx hb dX2_exchanges_23 (lv_at hl 0 rfl) ?_
  refine q_callV (va_runV (As := [.int (nI w2), .int (nI w3), .int (xX2_ofWalker (R 84) w1 w3)]) (rest := []) ⟨hx, hb, hml, hown, hts⟩ (mX2_puts l D cI cS ad hI (xX2_puts R F w1 w3 (xX2_ofWalker (R 84) w2 w3)) F w2 w3 (xX2_ofWalker (R 84) w1 w3) (by omega)) (cwV 3 hts gX2_exchanges_X2_puts rfl rfl rfl (by decide +kernel) ⟨Nat.le_of_ble_eq_true rfl, Nat.le_of_ble_eq_true rfl⟩) (PW_preV (i := 83) (by decide) CC_83 rfl rfl hK hP) rfl rfl hl.1 rfl (lv_room (Nat.le_of_ble_eq_true rfl)) dX2_exchanges_25 ⟨Nat.zero_le _, Nat.zero_le _⟩) hS (fun H locs hP hS => ?_)
  have hX : (xX2_exchanges R F w1 w2 w3) = (xX2_puts (xX2_puts R F w1 w3 (xX2_ofWalker (R 84) w2 w3)) F w2 w3 (xX2_ofWalker (R 84) w1 w3)) := by unfold xX2_exchanges; rfl
  exact W.vret hx hb hr (fun t ht hW => ⟨rfl, by rw [hX, ht]; with_reducible exact hP, hS.F ht⟩) hS.2.2 dX2_exchanges_28

theorem exch_1 {R F : Nat → Nat → Int32} {a b k : Nat} : xX2_exchanges R F a b k 84 1 = R 84 1 := by
  unfold xX2_exchanges
  rw [puts_1, puts_1]
