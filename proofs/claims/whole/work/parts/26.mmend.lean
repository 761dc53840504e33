def xX2_guess (R F : Nat → Nat → Int32) (p1 : Int32) (kw : Nat) : Int32 × (Nat → Nat → Int32) × (Nat → Nat → Int32) :=
  (if (xX2_in p1 (0 : Int32) (1 : Int32)) = (0 : Int32) then ((-100001 : Int32), R, F) else (if ((B2 kw (R 84)).1) = (-100009 : Int32) then (((B2 kw (R 84)).1), R, (sR F 83 1 (B2 kw (R 84)).2)) else (if p1 = (0 : Int32) then (((B2 kw (R 84)).1), R, (sR F 83 1 (B2 kw (R 84)).2)) else (((sR F 83 1 (B2 kw (R 84)).2) 83 1), R, (sR F 83 1 (B2 kw (R 84)).2)))))
set_option maxHeartbeats 4000000 in
set_option maxRecDepth 100000 in
theorem mX2_guess (l : Launch) (D : va_G) (cI cS : ClassId) (ad : Nat → Nat) (hI : Inj ad) (R F : Nat → Nat → Int32) (p1 : Int32) (kw : Nat) (hkw : kw ≤ 8) (hW : R 84 1 = nI kw) : Met l yX2_guess wsX2_guess ({ frames := 7, cells := 0, slots := 0, locals := 158 }) (PW D cI cS ad R F [.ref (ad 83), .int p1]) (QI D cI cS ad ((xX2_guess R F p1 kw).1) ((xX2_guess R F p1 kw).2.1) ((xX2_guess R F p1 kw).2.2)) 0 0 (AA ad) := by
  refine Met.ofW (cc := cX2_guess) (maxL := 3) (ret := (some .int)) (by decide) rfl ?_
  intro p e s m args below meth c s₁ B hml hv
  obtain ⟨rfl, hP, hK⟩ := hv
  have hx := B.exec
  have hb := B.bytes
  have hr := B.returns
  have hts := atoms_spec (ws := wsX2_guess) B.pre
  have hown : s.vm.findClass RX2 = some m.cls := findClass_of_methodNamed B.named
  have hlocks := B.notSynchronized
  have hS : va_S (AA ad) s.heap s.heap [] := va_S.rf
  have hl := lv_entry ([.ref (ad 83), .int p1]) (n := 3) (Nat.le_of_ble_eq_true rfl)
  rw [lg_entry_eq]
  generalize (lg_sl ([.ref (ad 83), .int p1]) ++ List.replicate (3 - (lg_sl ([.ref (ad 83), .int p1])).length) Slot.unset).toArray = ls at hl ⊢
  have hl : lv_has ls 3 [(0, .ref (ad 83)), (1, .int p1)] := hl
  have lk66 := hts (.constant RX2 66 (-100001)) (by decide +kernel)
  have lk31 := hts (.constant RX2 31 (-100009)) (by decide +kernel)
  have lk117 := hts (.fieldLink RX2 117 "FerryFloorModel" "least" "I") (by decide +kernel)
  have hin2 : ∀ w ∈ u_ws RX2 TX2 5, w ∈ wsX2_guess := by decide +kernel
  refine lv_iload_n hx hb dX2_guess_0 rfl (lv_at hl 1 rfl) ?_
  refine lv_iconst (v := 0) hx hb dX2_guess_1 (by decide) ?_
  refine lv_iconst (v := 1) hx hb dX2_guess_2 (by decide) ?_
  refine q_callS (va_runS (As := [.int p1, .int (0 : Int32), .int (1 : Int32)]) (rest := []) ⟨hx, hb, hml, hown, hts⟩ (mX2_in l D cI cS ad hI R F p1 (0 : Int32) (1 : Int32)) (va_cwS 3 hts gX2_guess_X2_in rfl rfl rfl (by decide +kernel) ⟨Nat.le_of_ble_eq_true rfl, Nat.le_of_ble_eq_true rfl⟩) (PW_preS hK hP) rfl rfl hl.1 rfl (lv_room (Nat.le_of_ble_eq_true rfl)) dX2_guess_3 ⟨Nat.zero_le _, Nat.zero_le _⟩) ?_
  refine lv_if_ne (tgt := 12) hx hb dX2_guess_6 (by decide) (fun c_6 => ?_) (fun c_6 => ?_)
  · refine lv_aload_n hx hb dX2_guess_12 rfl (lv_at hl 0 rfl) ?_
    refine q_callI (va_runV (As := []) (rest := []) ⟨hx, hb, hml, hown, hts⟩ (mX2_bestTwo l D cI cS ad hI R F kw hkw hW) (cwV 0 hts gX2_guess_X2_bestTwo rfl rfl rfl (by decide +kernel) ⟨Nat.le_of_ble_eq_true rfl, Nat.le_of_ble_eq_true rfl⟩) (PW_preV (i := 83) (by decide) CC_83 rfl rfl hK hP) rfl rfl hl.1 rfl (lv_room (Nat.le_of_ble_eq_true rfl)) dX2_guess_13 ⟨Nat.zero_le _, Nat.zero_le _⟩) hS (fun H locs hP hS => ?_)
    have hP : WP D cI cS ad R (sR F 83 1 (B2 kw (R 84)).2) H := by rw [bestTwo_eq] at hP; dsimp only at hP; exact hP
    refine q_top (y := ((B2 kw (R 84)).1)) (by rw [bestTwo_eq]) ?_
    refine lv_istore_n (lv' := [(2, .int ((B2 kw (R 84)).1)), (0, .ref (ad 83)), (1, .int p1)]) hx hb dX2_guess_16 rfl hl (by decide) rfl (fun ls hl => ?_)
    refine lv_iload_n hx hb dX2_guess_17 rfl (lv_at hl 0 rfl) ?_
    refine lv_ldc (v := -100009) hx hb hown lk31 dX2_guess_18 ?_
    refine lv_icmp_eq (tgt := 27) hx hb dX2_guess_20 (by decide) (fun c_20 => ?_) (fun c_20 => ?_)
    · refine lv_iload_n hx hb dX2_guess_27 rfl (lv_at hl 0 rfl) ?_
      refine lv_goto (tgt := 35) hx hb dX2_guess_28 (by decide) ?_
      have hX : (xX2_guess R F p1 kw) = (((B2 kw (R 84)).1), R, (sR F 83 1 (B2 kw (R 84)).2)) := by unfold xX2_guess; rw [if_neg c_6, if_pos c_20]
      exact W.iret (v := ((B2 kw (R 84)).1)) hx hb hr (fun t ht hW => ⟨by rw [hX], by rw [hX, ht]; with_reducible exact hP, hS.F ht⟩) hS.2.2 dX2_guess_35
    · refine lv_iload_n hx hb dX2_guess_23 rfl (lv_at hl 2 rfl) ?_
      refine lv_if_ne (tgt := 31) hx hb dX2_guess_24 (by decide) (fun c_24 => ?_) (fun c_24 => ?_)
      · refine lv_aload_n hx hb dX2_guess_31 rfl (lv_at hl 1 rfl) ?_
        refine q_getM (v := .int ((sR F 83 1 (B2 kw (R 84)).2) 83 1)) hx hb hts hin2 hown hK hP 3 (by decide) lk117 (fun _ h => h) rfl dX2_guess_32 ?_
        have hX : (xX2_guess R F p1 kw) = (((sR F 83 1 (B2 kw (R 84)).2) 83 1), R, (sR F 83 1 (B2 kw (R 84)).2)) := by unfold xX2_guess; rw [if_neg c_6, if_neg c_20, if_neg c_24]
        exact W.iret (v := ((sR F 83 1 (B2 kw (R 84)).2) 83 1)) hx hb hr (fun t ht hW => ⟨by rw [hX], by rw [hX, ht]; with_reducible exact hP, hS.F ht⟩) hS.2.2 dX2_guess_35
      · refine lv_iload_n hx hb dX2_guess_27 rfl (lv_at hl 0 rfl) ?_
        refine lv_goto (tgt := 35) hx hb dX2_guess_28 (by decide) ?_
        have hX : (xX2_guess R F p1 kw) = (((B2 kw (R 84)).1), R, (sR F 83 1 (B2 kw (R 84)).2)) := by unfold xX2_guess; rw [if_neg c_6, if_neg c_20, if_pos c_24]
        exact W.iret (v := ((B2 kw (R 84)).1)) hx hb hr (fun t ht hW => ⟨by rw [hX], by rw [hX, ht]; with_reducible exact hP, hS.F ht⟩) hS.2.2 dX2_guess_35
  · refine lv_ldc (v := -100001) hx hb hown lk66 dX2_guess_9 ?_
    have hX : (xX2_guess R F p1 kw) = ((-100001 : Int32), R, F) := by unfold xX2_guess; rw [if_pos c_6]
    exact W.iret (v := (-100001 : Int32)) hx hb hr (fun t ht hW => ⟨by rw [hX], by rw [hX, ht]; with_reducible exact hP, hS.F ht⟩) hS.2.2 dX2_guess_11

def hX2_mend_84 (R F : Nat → Nat → Int32) (p1 : Int32) (kw : Nat) (f : Nat) (k : Nat) (R1 : Nat → Nat → Int32) (k2 : Nat) (x32 : Int32) (R2 : Nat → Nat → Int32) (F2 : Nat → Nat → Int32) : Nat → Nat → (Nat → Nat → Int32) → Int32 × (Nat → Nat → Int32) × (Nat → Nat → Int32)
  | 0, k3, R3 => (if p1 = (0 : Int32) then ((nI k2), R3, F2) else ((xX2_error (R2 84) kw), R3, F2))
  | n3 + 1, k3, R3 => (hX2_mend_84 R F p1 kw f k R1 k2 x32 R2 F2 n3 (k3 + 1) (xX2_puts R3 F2 k3 3 (R3 86 k3)))
theorem hX2_mend_84_z (R F : Nat → Nat → Int32) (p1 : Int32) (kw : Nat) (f : Nat) (k : Nat) (R1 : Nat → Nat → Int32) (k2 : Nat) (x32 : Int32) (R2 : Nat → Nat → Int32) (F2 : Nat → Nat → Int32) (k3 : Nat) (R3 : Nat → Nat → Int32) : hX2_mend_84 R F p1 kw f k R1 k2 x32 R2 F2 0 k3 R3 = (if p1 = (0 : Int32) then ((nI k2), R3, F2) else ((xX2_error (R2 84) kw), R3, F2)) := rfl
theorem hX2_mend_84_s (R F : Nat → Nat → Int32) (p1 : Int32) (kw : Nat) (f : Nat) (k : Nat) (R1 : Nat → Nat → Int32) (k2 : Nat) (x32 : Int32) (R2 : Nat → Nat → Int32) (F2 : Nat → Nat → Int32) (n3 : Nat) (k3 : Nat) (R3 : Nat → Nat → Int32) : hX2_mend_84 R F p1 kw f k R1 k2 x32 R2 F2 (n3 + 1) k3 R3 = (hX2_mend_84 R F p1 kw f k R1 k2 x32 R2 F2 n3 (k3 + 1) (xX2_puts R3 F2 k3 3 (R3 86 k3))) := rfl
def hX2_mend_84b (R F : Nat → Nat → Int32) (p1 : Int32) (kw : Nat) (f : Nat) (k : Nat) (R1 : Nat → Nat → Int32) (k2 : Nat) (x32 : Int32) (R2 : Nat → Nat → Int32) (F2 : Nat → Nat → Int32) : Nat → Nat → (Nat → Nat → Int32) → Int32 × (Nat → Nat → Int32) × (Nat → Nat → Int32)
  | 0, k3, R3 => (if p1 = (0 : Int32) then ((nI k2), R3, F2) else ((xX2_error (R2 84) kw), R3, F2))
  | n3 + 1, k3, R3 => (hX2_mend_84b R F p1 kw f k R1 k2 x32 R2 F2 n3 (k3 + 1) (xX2_puts R3 F2 k3 3 (R3 86 k3)))
theorem hX2_mend_84b_z (R F : Nat → Nat → Int32) (p1 : Int32) (kw : Nat) (f : Nat) (k : Nat) (R1 : Nat → Nat → Int32) (k2 : Nat) (x32 : Int32) (R2 : Nat → Nat → Int32) (F2 : Nat → Nat → Int32) (k3 : Nat) (R3 : Nat → Nat → Int32) : hX2_mend_84b R F p1 kw f k R1 k2 x32 R2 F2 0 k3 R3 = (if p1 = (0 : Int32) then ((nI k2), R3, F2) else ((xX2_error (R2 84) kw), R3, F2)) := rfl
theorem hX2_mend_84b_s (R F : Nat → Nat → Int32) (p1 : Int32) (kw : Nat) (f : Nat) (k : Nat) (R1 : Nat → Nat → Int32) (k2 : Nat) (x32 : Int32) (R2 : Nat → Nat → Int32) (F2 : Nat → Nat → Int32) (n3 : Nat) (k3 : Nat) (R3 : Nat → Nat → Int32) : hX2_mend_84b R F p1 kw f k R1 k2 x32 R2 F2 (n3 + 1) k3 R3 = (hX2_mend_84b R F p1 kw f k R1 k2 x32 R2 F2 n3 (k3 + 1) (xX2_puts R3 F2 k3 3 (R3 86 k3))) := rfl
def hX2_mend_45 (R F : Nat → Nat → Int32) (p1 : Int32) (kw : Nat) (f : Nat) (k : Nat) (R1 : Nat → Nat → Int32) : Nat → Nat → Int32 → (Nat → Nat → Int32) → (Nat → Nat → Int32) → Int32 × (Nat → Nat → Int32) × (Nat → Nat → Int32)
  | 0, k2, x32, R2, F2 => (hX2_mend_84 R F p1 kw f k R1 k2 x32 R2 F2 8 0 R2)
  | n2 + 1, k2, x32, R2, F2 => (if x32 = (-100009 : Int32) then (hX2_mend_84b R F p1 kw f k R1 k2 x32 R2 F2 8 0 R2) else (hX2_mend_45 R F p1 kw f k R1 n2 (k2 + 1) ((B2 kw ((xX2_exchanges R2 F2 ((x32).toNatClampNeg / 10) ((x32).toNatClampNeg % 10) 3) 84)).1) (xX2_exchanges R2 F2 ((x32).toNatClampNeg / 10) ((x32).toNatClampNeg % 10) 3) (sR F2 83 1 (B2 kw ((xX2_exchanges R2 F2 ((x32).toNatClampNeg / 10) ((x32).toNatClampNeg % 10) 3) 84)).2)))
theorem hX2_mend_45_z (R F : Nat → Nat → Int32) (p1 : Int32) (kw : Nat) (f : Nat) (k : Nat) (R1 : Nat → Nat → Int32) (k2 : Nat) (x32 : Int32) (R2 : Nat → Nat → Int32) (F2 : Nat → Nat → Int32) : hX2_mend_45 R F p1 kw f k R1 0 k2 x32 R2 F2 = (hX2_mend_84 R F p1 kw f k R1 k2 x32 R2 F2 8 0 R2) := rfl
theorem hX2_mend_45_s (R F : Nat → Nat → Int32) (p1 : Int32) (kw : Nat) (f : Nat) (k : Nat) (R1 : Nat → Nat → Int32) (n2 : Nat) (k2 : Nat) (x32 : Int32) (R2 : Nat → Nat → Int32) (F2 : Nat → Nat → Int32) : hX2_mend_45 R F p1 kw f k R1 (n2 + 1) k2 x32 R2 F2 = (if x32 = (-100009 : Int32) then (hX2_mend_84b R F p1 kw f k R1 k2 x32 R2 F2 8 0 R2) else (hX2_mend_45 R F p1 kw f k R1 n2 (k2 + 1) ((B2 kw ((xX2_exchanges R2 F2 ((x32).toNatClampNeg / 10) ((x32).toNatClampNeg % 10) 3) 84)).1) (xX2_exchanges R2 F2 ((x32).toNatClampNeg / 10) ((x32).toNatClampNeg % 10) 3) (sR F2 83 1 (B2 kw ((xX2_exchanges R2 F2 ((x32).toNatClampNeg / 10) ((x32).toNatClampNeg % 10) 3) 84)).2))) := rfl
def hX2_mend_14 (R F : Nat → Nat → Int32) (p1 : Int32) (kw : Nat) (f : Nat) : Nat → Nat → (Nat → Nat → Int32) → Int32 × (Nat → Nat → Int32) × (Nat → Nat → Int32)
  | 0, k, R1 => (hX2_mend_45 R F p1 kw f k R1 f 0 ((B2 kw (R1 84)).1) R1 (sR F 83 1 (B2 kw (R1 84)).2))
  | n + 1, k, R1 => (hX2_mend_14 R F p1 kw f n (k + 1) (sR R1 86 k (xX2_ofWalker (R1 84) k 3)))
theorem hX2_mend_14_z (R F : Nat → Nat → Int32) (p1 : Int32) (kw : Nat) (f : Nat) (k : Nat) (R1 : Nat → Nat → Int32) : hX2_mend_14 R F p1 kw f 0 k R1 = (hX2_mend_45 R F p1 kw f k R1 f 0 ((B2 kw (R1 84)).1) R1 (sR F 83 1 (B2 kw (R1 84)).2)) := rfl
theorem hX2_mend_14_s (R F : Nat → Nat → Int32) (p1 : Int32) (kw : Nat) (f : Nat) (n : Nat) (k : Nat) (R1 : Nat → Nat → Int32) : hX2_mend_14 R F p1 kw f (n + 1) k R1 = (hX2_mend_14 R F p1 kw f n (k + 1) (sR R1 86 k (xX2_ofWalker (R1 84) k 3))) := rfl
def xX2_mend (R F : Nat → Nat → Int32) (p1 : Int32) (kw : Nat) (f : Nat) : Int32 × (Nat → Nat → Int32) × (Nat → Nat → Int32) :=
  (if (xX2_in p1 (0 : Int32) (1 : Int32)) = (0 : Int32) then ((-100001 : Int32), R, F) else (hX2_mend_14 R F p1 kw f 8 0 R))
set_option maxHeartbeats 4000000 in
set_option maxRecDepth 100000 in
theorem mX2_mend (l : Launch) (D : va_G) (cI cS : ClassId) (ad : Nat → Nat) (hI : Inj ad) (R F : Nat → Nat → Int32) (p1 : Int32) (kw : Nat) (f : Nat) (hkw : kw ≤ 8) (hW : R 84 1 = nI kw) (hE : mE kw f (R 84)) : Met l yX2_mend wsX2_mend ({ frames := 7, cells := 0, slots := 0, locals := 158 }) (PW D cI cS ad R F [.ref (ad 83), .int p1]) (QI D cI cS ad ((xX2_mend R F p1 kw f).1) ((xX2_mend R F p1 kw f).2.1) ((xX2_mend R F p1 kw f).2.2)) 0 0 (AA ad) := by
  refine Met.ofW (cc := cX2_mend) (maxL := 6) (ret := (some .int)) (by decide) rfl ?_
  intro p e s m args below meth c s₁ B hml hv
  obtain ⟨rfl, hP, hK⟩ := hv
  have hx := B.exec
  have hb := B.bytes
  have hr := B.returns
  have hts := atoms_spec (ws := wsX2_mend) B.pre
  have hown : s.vm.findClass RX2 = some m.cls := findClass_of_methodNamed B.named
  have hlocks := B.notSynchronized
  have hS : va_S (AA ad) s.heap s.heap [] := va_S.rf
  have hl := lv_entry ([.ref (ad 83), .int p1]) (n := 6) (Nat.le_of_ble_eq_true rfl)
  rw [lg_entry_eq]
  generalize (lg_sl ([.ref (ad 83), .int p1]) ++ List.replicate (6 - (lg_sl ([.ref (ad 83), .int p1])).length) Slot.unset).toArray = ls at hl ⊢
  have hl : lv_has ls 6 [(0, .ref (ad 83)), (1, .int p1)] := hl
  have lk66 := hts (.constant RX2 66 (-100001)) (by decide +kernel)
  have lk16 := hts (.fieldLink RX2 16 "FerryFloorModel" "held" "[I") (by decide +kernel)
  have lk31 := hts (.constant RX2 31 (-100009)) (by decide +kernel)
  have hin2 : ∀ w ∈ u_ws RX2 TX2 5, w ∈ wsX2_mend := by decide +kernel
  refine lv_iload_n hx hb dX2_mend_0 rfl (lv_at hl 1 rfl) ?_
  refine lv_iconst (v := 0) hx hb dX2_mend_1 (by decide) ?_
  refine lv_iconst (v := 1) hx hb dX2_mend_2 (by decide) ?_
  refine q_callS (va_runS (As := [.int p1, .int (0 : Int32), .int (1 : Int32)]) (rest := []) ⟨hx, hb, hml, hown, hts⟩ (mX2_in l D cI cS ad hI R F p1 (0 : Int32) (1 : Int32)) (va_cwS 3 hts gX2_mend_X2_in rfl rfl rfl (by decide +kernel) ⟨Nat.le_of_ble_eq_true rfl, Nat.le_of_ble_eq_true rfl⟩) (PW_preS hK hP) rfl rfl hl.1 rfl (lv_room (Nat.le_of_ble_eq_true rfl)) dX2_mend_3 ⟨Nat.zero_le _, Nat.zero_le _⟩) ?_
  refine lv_if_ne (tgt := 12) hx hb dX2_mend_6 (by decide) (fun c_6 => ?_) (fun c_6 => ?_)
  · refine lv_iconst (v := 0) hx hb dX2_mend_12 (by decide) ?_
    refine lv_istore_n (lv' := [(2, .int (0 : Int32)), (0, .ref (ad 83)), (1, .int p1)]) hx hb dX2_mend_13 rfl hl (by decide) rfl (fun ls hl => ?_)
    refine q_loop (fun nn H locs ls => ∃ (k : Nat) (R1 : Nat → Nat → Int32), k + nn = 8 ∧ hX2_mend_14 R F p1 kw f nn k R1 = (xX2_mend R F p1 kw f) ∧ R1 84 = R 84 ∧ WP D cI cS ad R1 F H ∧ va_S (AA ad) s.heap H locs ∧ lv_has ls 6 [(2, .int (nI k)), (0, .ref (ad 83)), (1, .int p1)]) 8 ⟨0, R, by omega, by unfold xX2_mend; rw [if_neg c_6], rfl, hP, hS, lv_sub hl [0, 1, 2] rfl⟩ ?_ ?_
    · intro H locs ls hz
      obtain ⟨k, R1, hkn, hsp, h84, hP, hS, hl⟩ := hz
      have hW1 : R1 84 1 = nI kw := (congrFun h84 1).trans hW
      refine lv_iload_n hx hb dX2_mend_14 rfl (lv_at hl 0 rfl) ?_
      refine lv_bipush (v := 8) hx hb dX2_mend_15 (by decide) ?_
      refine lv_icmp_ge (tgt := 38) hx hb dX2_mend_17 (by decide) (fun c_17 => ?_) (fun c_17 => ?_)
      · refine lv_iconst (v := 0) hx hb dX2_mend_38 (by decide) ?_
        refine lv_istore_n (lv' := [(2, .int (0 : Int32)), (0, .ref (ad 83)), (1, .int p1)]) hx hb dX2_mend_39 rfl hl (by decide) rfl (fun ls hl => ?_)
        refine lv_aload_n hx hb dX2_mend_40 rfl (lv_at hl 1 rfl) ?_
        refine q_callI (va_runV (As := []) (rest := []) ⟨hx, hb, hml, hown, hts⟩ (mX2_bestTwo l D cI cS ad hI R1 F kw hkw hW1) (cwV 0 hts gX2_mend_X2_bestTwo rfl rfl rfl (by decide +kernel) ⟨Nat.le_of_ble_eq_true rfl, Nat.le_of_ble_eq_true rfl⟩) (PW_preV (i := 83) (by decide) CC_83 rfl rfl hK hP) rfl rfl hl.1 rfl (lv_room (Nat.le_of_ble_eq_true rfl)) dX2_mend_41 ⟨Nat.zero_le _, Nat.zero_le _⟩) hS (fun H locs hP hS => ?_)
        have hP : WP D cI cS ad R1 (sR F 83 1 (B2 kw (R1 84)).2) H := by rw [bestTwo_eq] at hP; dsimp only at hP; exact hP
        refine q_top (y := ((B2 kw (R1 84)).1)) (by rw [bestTwo_eq]) ?_
        refine lv_istore_n (lv' := [(3, .int ((B2 kw (R1 84)).1)), (2, .int (0 : Int32)), (0, .ref (ad 83)), (1, .int p1)]) hx hb dX2_mend_44 rfl hl (by decide) rfl (fun ls hl => ?_)
        refine q_loop (fun nn H locs ls => ∃ (k2 : Nat) (x32 : Int32) (R2 : Nat → Nat → Int32) (F2 : Nat → Nat → Int32), k2 + nn = f ∧ hX2_mend_45 R F p1 kw f k R1 nn k2 x32 R2 F2 = (xX2_mend R F p1 kw f) ∧ R2 84 1 = nI kw ∧ x32 = (B2 kw (R2 84)).1 ∧ mE kw nn (R2 84) ∧ WP D cI cS ad R2 F2 H ∧ va_S (AA ad) s.heap H locs ∧ lv_has ls 6 [(3, .int x32), (2, .int (nI k2)), (0, .ref (ad 83)), (1, .int p1)]) f ⟨0, ((B2 kw (R1 84)).1), R1, (sR F 83 1 (B2 kw (R1 84)).2), by omega, by rw [← hsp, hX2_mend_14_z], hW1, rfl, (by rw [h84]; exact hE), hP, hS, lv_sub hl [0, 1, 2, 3] rfl⟩ ?_ ?_
        · intro H locs ls hz
          obtain ⟨k2, x32, R2, F2, hkn2, hsp2, hW2, hx3, hE2, hP, hS, hl⟩ := hz
          refine lv_iload_n hx hb dX2_mend_45 rfl (lv_at hl 0 rfl) ?_
          refine lv_ldc (v := -100009) hx hb hown lk31 dX2_mend_46 ?_
          refine lv_icmp_eq (tgt := 75) hx hb dX2_mend_48 (by decide) (fun c_48 => ?_) (fun c_48 => ?_)
          · refine lv_aload_n hx hb dX2_mend_75 rfl (lv_at hl 2 rfl) ?_
            refine q_callS (va_runV (As := []) (rest := []) ⟨hx, hb, hml, hown, hts⟩ (mX2_error l D cI cS ad hI R2 F2 kw hkw hW2) (cwV 0 hts gX2_mend_X2_error rfl rfl rfl (by decide +kernel) ⟨Nat.le_of_ble_eq_true rfl, Nat.le_of_ble_eq_true rfl⟩) (PW_preV (i := 83) (by decide) CC_83 rfl rfl hK hP) rfl rfl hl.1 rfl (lv_room (Nat.le_of_ble_eq_true rfl)) dX2_mend_76 ⟨Nat.zero_le _, Nat.zero_le _⟩) ?_
            refine lv_istore (lv' := [(4, .int (xX2_error (R2 84) kw)), (3, .int x32), (2, .int (nI k2)), (0, .ref (ad 83)), (1, .int p1)]) hx hb dX2_mend_79 hl (by decide) rfl (fun ls hl => ?_)
            refine lv_iconst (v := 0) hx hb dX2_mend_81 (by decide) ?_
            refine lv_istore (lv' := [(5, .int (0 : Int32)), (4, .int (xX2_error (R2 84) kw)), (3, .int x32), (2, .int (nI k2)), (0, .ref (ad 83)), (1, .int p1)]) hx hb dX2_mend_82 hl (by decide) rfl (fun ls hl => ?_)
            refine q_loop (fun nn H locs ls => ∃ (k3 : Nat) (R3 : Nat → Nat → Int32), k3 + nn = 8 ∧ hX2_mend_84 R F p1 kw f k R1 k2 x32 R2 F2 nn k3 R3 = (xX2_mend R F p1 kw f) ∧ WP D cI cS ad R3 F2 H ∧ va_S (AA ad) s.heap H locs ∧ lv_has ls 6 [(5, .int (nI k3)), (4, .int (xX2_error (R2 84) kw)), (3, .int x32), (2, .int (nI k2)), (0, .ref (ad 83)), (1, .int p1)]) 8 ⟨0, R2, by omega, by rw [← hsp2, hX2_mend_45_z], hP, hS, lv_sub hl [0, 1, 2, 3, 4, 5] rfl⟩ ?_ ?_
            · intro H locs ls hz
              obtain ⟨k3, R3, hkn3, hsp3, hP, hS, hl⟩ := hz
              refine lv_iload hx hb dX2_mend_84 (lv_at hl 0 rfl) ?_
              refine lv_bipush (v := 8) hx hb dX2_mend_86 (by decide) ?_
              refine lv_icmp_ge (tgt := 111) hx hb dX2_mend_88 (by decide) (fun c_88 => ?_) (fun c_88 => ?_)
              · refine lv_iload_n hx hb dX2_mend_111 rfl (lv_at hl 5 rfl) ?_
                refine lv_if_ne (tgt := 119) hx hb dX2_mend_112 (by decide) (fun c_112 => ?_) (fun c_112 => ?_)
                · refine lv_iload hx hb dX2_mend_119 (lv_at hl 1 rfl) ?_
                  have hX : (xX2_mend R F p1 kw f) = ((xX2_error (R2 84) kw), R3, F2) := by rw [← hsp3, hX2_mend_84_z, if_neg c_112]
                  exact W.iret (v := (xX2_error (R2 84) kw)) hx hb hr (fun t ht hW => ⟨by rw [hX], by rw [hX, ht]; with_reducible exact hP, hS.F ht⟩) hS.2.2 dX2_mend_121
                · refine lv_iload_n hx hb dX2_mend_115 rfl (lv_at hl 3 rfl) ?_
                  refine lv_goto (tgt := 121) hx hb dX2_mend_116 (by decide) ?_
                  have hX : (xX2_mend R F p1 kw f) = ((nI k2), R3, F2) := by rw [← hsp3, hX2_mend_84_z, if_pos c_112]
                  exact W.iret (v := (nI k2)) hx hb hr (fun t ht hW => ⟨by rw [hX], by rw [hX, ht]; with_reducible exact hP, hS.F ht⟩) hS.2.2 dX2_mend_121
              · exact absurd (nI_le (a := 8) (b := k3) (by omega) (by omega)) c_88
            · intro n3 ih3 H locs ls hz
              obtain ⟨k3, R3, hkn3, hsp3, hP, hS, hl⟩ := hz
              refine lv_iload hx hb dX2_mend_84 (lv_at hl 0 rfl) ?_
              refine lv_bipush (v := 8) hx hb dX2_mend_86 (by decide) ?_
              refine lv_icmp_ge (tgt := 111) hx hb dX2_mend_88 (by decide) (fun c_88 => ?_) (fun c_88 => ?_)
              · exact absurd c_88 (nI_ge (a := k3) (b := 8) (by omega) (by omega))
              · refine lv_aload_n hx hb dX2_mend_91 rfl (lv_at hl 4 rfl) ?_
                refine lv_iload hx hb dX2_mend_92 (lv_at hl 0 rfl) ?_
                refine lv_iconst (v := 3) hx hb dX2_mend_94 (by decide) ?_
                refine lv_aload_n hx hb dX2_mend_95 rfl (lv_at hl 4 rfl) ?_
                refine q_getM (v := .ref (ad 86)) hx hb hts hin2 hown hK hP 4 (by decide) lk16 (fun _ h => h) rfl dX2_mend_96 ?_
                refine lv_iload hx hb dX2_mend_99 (lv_at hl 0 rfl) ?_
                refine q_ildN hx hb hK hP 86 8 (ar_86) k3 dX2_mend_101 rfl (by omega) (by decide) ?_
                refine q_callV (va_runV (As := [.int (nI k3), .int (nI 3), .int (R3 86 k3)]) (rest := []) ⟨hx, hb, hml, hown, hts⟩ (mX2_puts l D cI cS ad hI R3 F2 k3 3 (R3 86 k3) (by omega)) (cwV 3 hts gX2_mend_X2_puts rfl rfl rfl (by decide +kernel) ⟨Nat.le_of_ble_eq_true rfl, Nat.le_of_ble_eq_true rfl⟩) (PW_preV (i := 83) (by decide) CC_83 rfl rfl hK hP) rfl rfl hl.1 rfl (lv_room (Nat.le_of_ble_eq_true rfl)) dX2_mend_102 ⟨Nat.zero_le _, Nat.zero_le _⟩) hS (fun H locs hP hS => ?_)
                refine lv_iinc (v := (nI (k3 + 1))) (lv' := [(5, .int (nI (k3 + 1))), (4, .int (xX2_error (R2 84) kw)), (3, .int x32), (2, .int (nI k2)), (0, .ref (ad 83)), (1, .int p1)]) hx hb dX2_mend_105 hl (k := 0) rfl (nI_1 k3) (by decide) rfl (fun ls hl => ?_)
                refine lv_goto (tgt := 84) hx hb dX2_mend_108 (by decide) ?_
                exact ih3 _ _ _ ⟨(k3 + 1), (xX2_puts R3 F2 k3 3 (R3 86 k3)), by omega, by rw [← hsp3, hX2_mend_84_s], hP, hS, lv_sub hl [0, 1, 2, 3, 4, 5] rfl⟩
          · exact (c_48 (hx3.trans hE2)).elim
        · intro n2 ih2 H locs ls hz
          obtain ⟨k2, x32, R2, F2, hkn2, hsp2, hW2, hx3, hE2, hP, hS, hl⟩ := hz
          refine lv_iload_n hx hb dX2_mend_45 rfl (lv_at hl 0 rfl) ?_
          refine lv_ldc (v := -100009) hx hb hown lk31 dX2_mend_46 ?_
          refine lv_icmp_eq (tgt := 75) hx hb dX2_mend_48 (by decide) (fun c_48 => ?_) (fun c_48 => ?_)
          · refine lv_aload_n hx hb dX2_mend_75 rfl (lv_at hl 2 rfl) ?_
            refine q_callS (va_runV (As := []) (rest := []) ⟨hx, hb, hml, hown, hts⟩ (mX2_error l D cI cS ad hI R2 F2 kw hkw hW2) (cwV 0 hts gX2_mend_X2_error rfl rfl rfl (by decide +kernel) ⟨Nat.le_of_ble_eq_true rfl, Nat.le_of_ble_eq_true rfl⟩) (PW_preV (i := 83) (by decide) CC_83 rfl rfl hK hP) rfl rfl hl.1 rfl (lv_room (Nat.le_of_ble_eq_true rfl)) dX2_mend_76 ⟨Nat.zero_le _, Nat.zero_le _⟩) ?_
            refine lv_istore (lv' := [(4, .int (xX2_error (R2 84) kw)), (3, .int x32), (2, .int (nI k2)), (0, .ref (ad 83)), (1, .int p1)]) hx hb dX2_mend_79 hl (by decide) rfl (fun ls hl => ?_)
            refine lv_iconst (v := 0) hx hb dX2_mend_81 (by decide) ?_
            refine lv_istore (lv' := [(5, .int (0 : Int32)), (4, .int (xX2_error (R2 84) kw)), (3, .int x32), (2, .int (nI k2)), (0, .ref (ad 83)), (1, .int p1)]) hx hb dX2_mend_82 hl (by decide) rfl (fun ls hl => ?_)
            refine q_loop (fun nn H locs ls => ∃ (k3 : Nat) (R3 : Nat → Nat → Int32), k3 + nn = 8 ∧ hX2_mend_84b R F p1 kw f k R1 k2 x32 R2 F2 nn k3 R3 = (xX2_mend R F p1 kw f) ∧ WP D cI cS ad R3 F2 H ∧ va_S (AA ad) s.heap H locs ∧ lv_has ls 6 [(5, .int (nI k3)), (4, .int (xX2_error (R2 84) kw)), (3, .int x32), (2, .int (nI k2)), (0, .ref (ad 83)), (1, .int p1)]) 8 ⟨0, R2, by omega, by rw [← hsp2, hX2_mend_45_s, if_pos c_48], hP, hS, lv_sub hl [0, 1, 2, 3, 4, 5] rfl⟩ ?_ ?_
            · intro H locs ls hz
              obtain ⟨k3, R3, hkn3, hsp3, hP, hS, hl⟩ := hz
              refine lv_iload hx hb dX2_mend_84 (lv_at hl 0 rfl) ?_
              refine lv_bipush (v := 8) hx hb dX2_mend_86 (by decide) ?_
              refine lv_icmp_ge (tgt := 111) hx hb dX2_mend_88 (by decide) (fun c_88 => ?_) (fun c_88 => ?_)
              · refine lv_iload_n hx hb dX2_mend_111 rfl (lv_at hl 5 rfl) ?_
                refine lv_if_ne (tgt := 119) hx hb dX2_mend_112 (by decide) (fun c_112 => ?_) (fun c_112 => ?_)
                · refine lv_iload hx hb dX2_mend_119 (lv_at hl 1 rfl) ?_
                  have hX : (xX2_mend R F p1 kw f) = ((xX2_error (R2 84) kw), R3, F2) := by rw [← hsp3, hX2_mend_84b_z, if_neg c_112]
                  exact W.iret (v := (xX2_error (R2 84) kw)) hx hb hr (fun t ht hW => ⟨by rw [hX], by rw [hX, ht]; with_reducible exact hP, hS.F ht⟩) hS.2.2 dX2_mend_121
                · refine lv_iload_n hx hb dX2_mend_115 rfl (lv_at hl 3 rfl) ?_
                  refine lv_goto (tgt := 121) hx hb dX2_mend_116 (by decide) ?_
                  have hX : (xX2_mend R F p1 kw f) = ((nI k2), R3, F2) := by rw [← hsp3, hX2_mend_84b_z, if_pos c_112]
                  exact W.iret (v := (nI k2)) hx hb hr (fun t ht hW => ⟨by rw [hX], by rw [hX, ht]; with_reducible exact hP, hS.F ht⟩) hS.2.2 dX2_mend_121
              · exact absurd (nI_le (a := 8) (b := k3) (by omega) (by omega)) c_88
            · intro n3 ih3 H locs ls hz
              obtain ⟨k3, R3, hkn3, hsp3, hP, hS, hl⟩ := hz
              refine lv_iload hx hb dX2_mend_84 (lv_at hl 0 rfl) ?_
              refine lv_bipush (v := 8) hx hb dX2_mend_86 (by decide) ?_
              refine lv_icmp_ge (tgt := 111) hx hb dX2_mend_88 (by decide) (fun c_88 => ?_) (fun c_88 => ?_)
              · exact absurd c_88 (nI_ge (a := k3) (b := 8) (by omega) (by omega))
              · refine lv_aload_n hx hb dX2_mend_91 rfl (lv_at hl 4 rfl) ?_
                refine lv_iload hx hb dX2_mend_92 (lv_at hl 0 rfl) ?_
                refine lv_iconst (v := 3) hx hb dX2_mend_94 (by decide) ?_
                refine lv_aload_n hx hb dX2_mend_95 rfl (lv_at hl 4 rfl) ?_
                refine q_getM (v := .ref (ad 86)) hx hb hts hin2 hown hK hP 4 (by decide) lk16 (fun _ h => h) rfl dX2_mend_96 ?_
                refine lv_iload hx hb dX2_mend_99 (lv_at hl 0 rfl) ?_
                refine q_ildN hx hb hK hP 86 8 (ar_86) k3 dX2_mend_101 rfl (by omega) (by decide) ?_
                refine q_callV (va_runV (As := [.int (nI k3), .int (nI 3), .int (R3 86 k3)]) (rest := []) ⟨hx, hb, hml, hown, hts⟩ (mX2_puts l D cI cS ad hI R3 F2 k3 3 (R3 86 k3) (by omega)) (cwV 3 hts gX2_mend_X2_puts rfl rfl rfl (by decide +kernel) ⟨Nat.le_of_ble_eq_true rfl, Nat.le_of_ble_eq_true rfl⟩) (PW_preV (i := 83) (by decide) CC_83 rfl rfl hK hP) rfl rfl hl.1 rfl (lv_room (Nat.le_of_ble_eq_true rfl)) dX2_mend_102 ⟨Nat.zero_le _, Nat.zero_le _⟩) hS (fun H locs hP hS => ?_)
                refine lv_iinc (v := (nI (k3 + 1))) (lv' := [(5, .int (nI (k3 + 1))), (4, .int (xX2_error (R2 84) kw)), (3, .int x32), (2, .int (nI k2)), (0, .ref (ad 83)), (1, .int p1)]) hx hb dX2_mend_105 hl (k := 0) rfl (nI_1 k3) (by decide) rfl (fun ls hl => ?_)
                refine lv_goto (tgt := 84) hx hb dX2_mend_108 (by decide) ?_
                exact ih3 _ _ _ ⟨(k3 + 1), (xX2_puts R3 F2 k3 3 (R3 86 k3)), by omega, by rw [← hsp3, hX2_mend_84b_s], hP, hS, lv_sub hl [0, 1, 2, 3, 4, 5] rfl⟩
          · obtain ⟨hxa, hxb, hxc, hxd⟩ := B2_nat hx3 c_48 hkw
            refine lv_aload_n hx hb dX2_mend_51 rfl (lv_at hl 2 rfl) ?_
            refine lv_iload_n hx hb dX2_mend_52 rfl (lv_at hl 0 rfl) ?_
            refine lv_bipush (v := 10) hx hb dX2_mend_53 (by decide) ?_
            refine lv_idiv hx hb dX2_mend_55 (by decide) ?_
            refine q_top (y := (nI ((x32).toNatClampNeg / 10))) hxa ?_
            refine lv_iload_n hx hb dX2_mend_56 rfl (lv_at hl 0 rfl) ?_
            refine lv_bipush (v := 10) hx hb dX2_mend_57 (by decide) ?_
            refine lv_irem hx hb dX2_mend_59 (by decide) ?_
            refine q_top (y := (nI ((x32).toNatClampNeg % 10))) hxb ?_
            refine lv_iconst (v := 3) hx hb dX2_mend_60 (by decide) ?_
            refine q_callV (va_runV (As := [.int (nI ((x32).toNatClampNeg / 10)), .int (nI ((x32).toNatClampNeg % 10)), .int (nI 3)]) (rest := []) ⟨hx, hb, hml, hown, hts⟩ (mX2_exchanges l D cI cS ad hI R2 F2 ((x32).toNatClampNeg / 10) ((x32).toNatClampNeg % 10) 3 (by omega) (by omega) (by omega)) (cwV 3 hts gX2_mend_X2_exchanges rfl rfl rfl (by decide +kernel) ⟨Nat.le_of_ble_eq_true rfl, Nat.le_of_ble_eq_true rfl⟩) (PW_preV (i := 83) (by decide) CC_83 rfl rfl hK hP) rfl rfl hl.1 rfl (lv_room (Nat.le_of_ble_eq_true rfl)) dX2_mend_61 ⟨Nat.zero_le _, Nat.zero_le _⟩) hS (fun H locs hP hS => ?_)
            refine lv_iinc (v := (nI (k2 + 1))) (lv' := [(2, .int (nI (k2 + 1))), (3, .int x32), (0, .ref (ad 83)), (1, .int p1)]) hx hb dX2_mend_64 hl (k := 1) rfl (nI_1 k2) (by decide) rfl (fun ls hl => ?_)
            refine lv_aload_n hx hb dX2_mend_67 rfl (lv_at hl 2 rfl) ?_
            refine q_callI (va_runV (As := []) (rest := []) ⟨hx, hb, hml, hown, hts⟩ (mX2_bestTwo l D cI cS ad hI (xX2_exchanges R2 F2 ((x32).toNatClampNeg / 10) ((x32).toNatClampNeg % 10) 3) F2 kw hkw (exch_1.trans hW2)) (cwV 0 hts gX2_mend_X2_bestTwo rfl rfl rfl (by decide +kernel) ⟨Nat.le_of_ble_eq_true rfl, Nat.le_of_ble_eq_true rfl⟩) (PW_preV (i := 83) (by decide) CC_83 rfl rfl hK hP) rfl rfl hl.1 rfl (lv_room (Nat.le_of_ble_eq_true rfl)) dX2_mend_68 ⟨Nat.zero_le _, Nat.zero_le _⟩) hS (fun H locs hP hS => ?_)
            have hP : WP D cI cS ad (xX2_exchanges R2 F2 ((x32).toNatClampNeg / 10) ((x32).toNatClampNeg % 10) 3) (sR F2 83 1 (B2 kw ((xX2_exchanges R2 F2 ((x32).toNatClampNeg / 10) ((x32).toNatClampNeg % 10) 3) 84)).2) H := by rw [bestTwo_eq] at hP; dsimp only at hP; exact hP
            refine q_top (y := ((B2 kw ((xX2_exchanges R2 F2 ((x32).toNatClampNeg / 10) ((x32).toNatClampNeg % 10) 3) 84)).1)) (by rw [bestTwo_eq]) ?_
            refine lv_istore_n (lv' := [(3, .int ((B2 kw ((xX2_exchanges R2 F2 ((x32).toNatClampNeg / 10) ((x32).toNatClampNeg % 10) 3) 84)).1)), (2, .int (nI (k2 + 1))), (0, .ref (ad 83)), (1, .int p1)]) hx hb dX2_mend_71 rfl hl (by decide) rfl (fun ls hl => ?_)
            refine lv_goto (tgt := 45) hx hb dX2_mend_72 (by decide) ?_
            exact ih2 _ _ _ ⟨(k2 + 1), ((B2 kw ((xX2_exchanges R2 F2 ((x32).toNatClampNeg / 10) ((x32).toNatClampNeg % 10) 3) 84)).1), (xX2_exchanges R2 F2 ((x32).toNatClampNeg / 10) ((x32).toNatClampNeg % 10) 3), (sR F2 83 1 (B2 kw ((xX2_exchanges R2 F2 ((x32).toNatClampNeg / 10) ((x32).toNatClampNeg % 10) 3) 84)).2), by omega, by rw [← hsp2, hX2_mend_45_s, if_neg c_48], (exch_1.trans hW2), rfl, (by rw [exch_84]; exact mE_next hE2 hx3 c_48), hP, hS, lv_sub hl [0, 1, 2, 3] rfl⟩
      · exact absurd (nI_le (a := 8) (b := k) (by omega) (by omega)) c_17
    · intro n ih H locs ls hz
      obtain ⟨k, R1, hkn, hsp, h84, hP, hS, hl⟩ := hz
      refine lv_iload_n hx hb dX2_mend_14 rfl (lv_at hl 0 rfl) ?_
      refine lv_bipush (v := 8) hx hb dX2_mend_15 (by decide) ?_
      refine lv_icmp_ge (tgt := 38) hx hb dX2_mend_17 (by decide) (fun c_17 => ?_) (fun c_17 => ?_)
      · exact absurd c_17 (nI_ge (a := k) (b := 8) (by omega) (by omega))
      · refine lv_aload_n hx hb dX2_mend_20 rfl (lv_at hl 1 rfl) ?_
        refine q_getM (v := .ref (ad 86)) hx hb hts hin2 hown hK hP 4 (by decide) lk16 (fun _ h => h) rfl dX2_mend_21 ?_
        refine lv_iload_n hx hb dX2_mend_24 rfl (lv_at hl 0 rfl) ?_
        refine lv_aload_n hx hb dX2_mend_25 rfl (lv_at hl 1 rfl) ?_
        refine lv_iload_n hx hb dX2_mend_26 rfl (lv_at hl 0 rfl) ?_
        refine lv_iconst (v := 3) hx hb dX2_mend_27 (by decide) ?_
        refine q_callS (va_runV (As := [.int (nI k), .int (nI 3)]) (rest := [.int (nI k), .ref (ad 86)]) ⟨hx, hb, hml, hown, hts⟩ (mX2_ofWalker l D cI cS ad hI R1 F k 3 (by omega)) (cwV 2 hts gX2_mend_X2_ofWalker rfl rfl rfl (by decide +kernel) ⟨Nat.le_of_ble_eq_true rfl, Nat.le_of_ble_eq_true rfl⟩) (PW_preV (i := 83) (by decide) CC_83 rfl rfl hK hP) rfl rfl hl.1 rfl (lv_room (Nat.le_of_ble_eq_true rfl)) dX2_mend_28 ⟨Nat.zero_le _, Nat.zero_le _⟩) ?_
        refine q_istN hx hb hK hI hP hS 86 8 (ar_86) k dX2_mend_31 rfl (by omega) (by decide) (fun H locs hP hS => ?_)
        have hP : WP D cI cS ad (sR R1 86 k (xX2_ofWalker (R1 84) k 3)) F H := hP
        refine lv_iinc (v := (nI (k + 1))) (lv' := [(2, .int (nI (k + 1))), (0, .ref (ad 83)), (1, .int p1)]) hx hb dX2_mend_32 hl (k := 0) rfl (nI_1 k) (by decide) rfl (fun ls hl => ?_)
        refine lv_goto (tgt := 14) hx hb dX2_mend_35 (by decide) ?_
        exact ih _ _ _ ⟨(k + 1), (sR R1 86 k (xX2_ofWalker (R1 84) k 3)), by omega, by rw [← hsp, hX2_mend_14_s], ((sR_ne (by decide) _ _).trans h84), hP, hS, lv_sub hl [0, 1, 2] rfl⟩
  · refine lv_ldc (v := -100001) hx hb hown lk66 dX2_mend_9 ?_
    have hX : (xX2_mend R F p1 kw f) = ((-100001 : Int32), R, F) := by unfold xX2_mend; rw [if_pos c_6]
    exact W.iret (v := (-100001 : Int32)) hx hb hr (fun t ht hW => ⟨by rw [hX], by rw [hX, ht]; with_reducible exact hP, hS.F ht⟩) hS.2.2 dX2_mend_11

