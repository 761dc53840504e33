def hX2_acts_51 (R F : Nat → Nat → Int32) (q : Nat) : Nat → Nat → (Nat → Nat → Int32) → (Nat → Nat → Int32) × (Nat → Nat → Int32)
  | 0, k, R1 => (R1, (sR F 83 0 (nI (q + 1))))
  | n + 1, k, R1 => (hX2_acts_51 R F q n (k + 1) (sR R1 85 ((182 * q) + k) (R1 84 k)))
theorem hX2_acts_51_z (R F : Nat → Nat → Int32) (q : Nat) (k : Nat) (R1 : Nat → Nat → Int32) : hX2_acts_51 R F q 0 k R1 = (R1, (sR F 83 0 (nI (q + 1)))) := rfl
theorem hX2_acts_51_s (R F : Nat → Nat → Int32) (q : Nat) (n : Nat) (k : Nat) (R1 : Nat → Nat → Int32) : hX2_acts_51 R F q (n + 1) k R1 = (hX2_acts_51 R F q n (k + 1) (sR R1 85 ((182 * q) + k) (R1 84 k))) := rfl
def hX2_acts_51b (R F : Nat → Nat → Int32) (q : Nat) (k : Nat) (R1 : Nat → Nat → Int32) : Nat → Nat → (Nat → Nat → Int32) → (Nat → Nat → Int32) × (Nat → Nat → Int32)
  | 0, k2, R2 => (R2, (sR (sR F 83 0 (nI 4)) 83 0 (nI (4 + 1))))
  | n2 + 1, k2, R2 => (hX2_acts_51b R F q k R1 n2 (k2 + 1) (sR R2 85 ((182 * 4) + k2) (R2 84 k2)))
theorem hX2_acts_51b_z (R F : Nat → Nat → Int32) (q : Nat) (k : Nat) (R1 : Nat → Nat → Int32) (k2 : Nat) (R2 : Nat → Nat → Int32) : hX2_acts_51b R F q k R1 0 k2 R2 = (R2, (sR (sR F 83 0 (nI 4)) 83 0 (nI (4 + 1)))) := rfl
theorem hX2_acts_51b_s (R F : Nat → Nat → Int32) (q : Nat) (k : Nat) (R1 : Nat → Nat → Int32) (n2 : Nat) (k2 : Nat) (R2 : Nat → Nat → Int32) : hX2_acts_51b R F q k R1 (n2 + 1) k2 R2 = (hX2_acts_51b R F q k R1 n2 (k2 + 1) (sR R2 85 ((182 * 4) + k2) (R2 84 k2))) := rfl
def hX2_acts_10 (R F : Nat → Nat → Int32) (q : Nat) : Nat → Nat → (Nat → Nat → Int32) → (Nat → Nat → Int32) × (Nat → Nat → Int32)
  | 0, k, R1 => (hX2_acts_51b R F q k R1 182 0 R1)
  | n + 1, k, R1 => (hX2_acts_10 R F q n (k + 1) (sR R1 85 k (R1 85 (k + 182))))
theorem hX2_acts_10_z (R F : Nat → Nat → Int32) (q : Nat) (k : Nat) (R1 : Nat → Nat → Int32) : hX2_acts_10 R F q 0 k R1 = (hX2_acts_51b R F q k R1 182 0 R1) := rfl
theorem hX2_acts_10_s (R F : Nat → Nat → Int32) (q : Nat) (n : Nat) (k : Nat) (R1 : Nat → Nat → Int32) : hX2_acts_10 R F q (n + 1) k R1 = (hX2_acts_10 R F q n (k + 1) (sR R1 85 k (R1 85 (k + 182)))) := rfl
def xX2_acts (R F : Nat → Nat → Int32) (q : Nat) : (Nat → Nat → Int32) × (Nat → Nat → Int32) :=
  (if (F 83 0) = (5 : Int32) then (hX2_acts_10 R F q 728 0 R) else (hX2_acts_51 R F q 182 0 R))
set_option maxHeartbeats 4000000 in
set_option maxRecDepth 100000 in
theorem mX2_acts (l : Launch) (D : va_G) (cI cS : ClassId) (ad : Nat → Nat) (hI : Inj ad) (R F : Nat → Nat → Int32) (q : Nat) (hq : q ≤ 5) (hpq : F 83 0 = nI q) : Met l yX2_acts wsX2_acts ({ frames := 0, cells := 0, slots := 0, locals := 0 }) (PW D cI cS ad R F [.ref (ad 83)]) (QV D cI cS ad ((xX2_acts R F q).1) ((xX2_acts R F q).2)) 0 0 (AA ad) := by
  refine Met.ofW (cc := cX2_acts) (maxL := 2) (ret := none) (by decide) rfl ?_
  intro p e s m args below meth c s₁ B hml hv
  obtain ⟨rfl, hP, hK⟩ := hv
  have hx := B.exec
  have hb := B.bytes
  have hr := B.returns
  have hts := atoms_spec (ws := wsX2_acts) B.pre
  have hown : s.vm.findClass RX2 = some m.cls := findClass_of_methodNamed B.named
  have hlocks := B.notSynchronized
  have hS : va_S (AA ad) s.heap s.heap [] := va_S.rf
  have hl := lv_entry ([.ref (ad 83)]) (n := 2) (Nat.le_of_ble_eq_true rfl)
  rw [lg_entry_eq]
  generalize (lg_sl ([.ref (ad 83)]) ++ List.replicate (2 - (lg_sl ([.ref (ad 83)])).length) Slot.unset).toArray = ls at hl ⊢
  have hl : lv_has ls 2 [(0, .ref (ad 83))] := hl
  have lk19 := hts (.fieldLink RX2 19 "FerryFloorModel" "pasts" "I") (by decide +kernel)
  have lk13 := hts (.fieldLink RX2 13 "FerryFloorModel" "past" "[I") (by decide +kernel)
  have lk7 := hts (.fieldLink RX2 7 "FerryFloorModel" "s" "[I") (by decide +kernel)
  have hin2 : ∀ w ∈ u_ws RX2 TX2 5, w ∈ wsX2_acts := by decide +kernel
  refine lv_aload_n hx hb dX2_acts_0 rfl (lv_at hl 0 rfl) ?_
  refine q_getM (v := .int (F 83 0)) hx hb hts hin2 hown hK hP 2 (by decide) lk19 (fun _ h => h) rfl dX2_acts_1 ?_
  refine lv_iconst (v := 5) hx hb dX2_acts_4 (by decide) ?_
  refine lv_icmp_ne (tgt := 49) hx hb dX2_acts_5 (by decide) (fun c_5 => ?_) (fun c_5 => ?_)
  · have hq4 : q ≤ 4 := by
      rcases Nat.lt_or_ge q 5 with h | h
      · omega
      · have h5 : q = 5 := by omega
        exact absurd (by rw [hpq, h5]; rfl) c_5
    refine lv_iconst (v := 0) hx hb dX2_acts_49 (by decide) ?_
    refine lv_istore_n (lv' := [(1, .int (0 : Int32)), (0, .ref (ad 83))]) hx hb dX2_acts_50 rfl hl (by decide) rfl (fun ls hl => ?_)
    refine q_loop (fun nn H locs ls => ∃ (k : Nat) (R1 : Nat → Nat → Int32), k + nn = 182 ∧ hX2_acts_51 R F q nn k R1 = (xX2_acts R F q) ∧ WP D cI cS ad R1 F H ∧ va_S (AA ad) s.heap H locs ∧ lv_has ls 2 [(1, .int (nI k)), (0, .ref (ad 83))]) 182 ⟨0, R, by omega, by unfold xX2_acts; rw [if_neg c_5], hP, hS, lv_sub hl [0, 1] rfl⟩ ?_ ?_
    · intro H locs ls hz
      obtain ⟨k, R1, hkn, hsp, hP, hS, hl⟩ := hz
      refine lv_iload_n hx hb dX2_acts_51 rfl (lv_at hl 0 rfl) ?_
      refine lv_sipush (v := 182) hx hb dX2_acts_52 (by decide) ?_
      refine lv_icmp_ge (tgt := 85) hx hb dX2_acts_55 (by decide) (fun c_55 => ?_) (fun c_55 => ?_)
      · refine lv_aload_n hx hb dX2_acts_85 rfl (lv_at hl 1 rfl) ?_
        refine lv_dup hx hb dX2_acts_86 rfl ?_
        refine q_getM (v := .int (F 83 0)) hx hb hts hin2 hown hK hP 2 (by decide) lk19 (fun _ h => h) rfl dX2_acts_87 ?_
        refine q_top (y := (nI q)) hpq ?_
        refine lv_iconst (v := 1) hx hb dX2_acts_90 (by decide) ?_
        refine lv_iadd hx hb dX2_acts_91 ?_
        refine q_top (y := (nI (q + 1))) (nI_add q 1) ?_
        refine q_putM hx hb hts hin2 hown hK hI hP hS 2 (by decide) lk19 (fun _ h => h) dX2_acts_92 (fun H locs hP hS => ?_)
        have hP : WP D cI cS ad R1 (sR F 83 0 (nI (q + 1))) H := hP
        have hX : (xX2_acts R F q) = (R1, (sR F 83 0 (nI (q + 1)))) := by rw [← hsp, hX2_acts_51_z]
        exact W.vret hx hb hr (fun t ht hW => ⟨rfl, by rw [hX, ht]; with_reducible exact hP, hS.F ht⟩) hS.2.2 dX2_acts_95
      · exact absurd (nI_le (a := 182) (b := k) (by omega) (by omega)) c_55
    · intro n ih H locs ls hz
      obtain ⟨k, R1, hkn, hsp, hP, hS, hl⟩ := hz
      refine lv_iload_n hx hb dX2_acts_51 rfl (lv_at hl 0 rfl) ?_
      refine lv_sipush (v := 182) hx hb dX2_acts_52 (by decide) ?_
      refine lv_icmp_ge (tgt := 85) hx hb dX2_acts_55 (by decide) (fun c_55 => ?_) (fun c_55 => ?_)
      · exact absurd c_55 (nI_ge (a := k) (b := 182) (by omega) (by omega))
      · refine lv_aload_n hx hb dX2_acts_58 rfl (lv_at hl 1 rfl) ?_
        refine q_getM (v := .ref (ad 85)) hx hb hts hin2 hown hK hP 1 (by decide) lk13 (fun _ h => h) rfl dX2_acts_59 ?_
        refine lv_sipush (v := 182) hx hb dX2_acts_62 (by decide) ?_
        refine lv_aload_n hx hb dX2_acts_65 rfl (lv_at hl 1 rfl) ?_
        refine q_getM (v := .int (F 83 0)) hx hb hts hin2 hown hK hP 2 (by decide) lk19 (fun _ h => h) rfl dX2_acts_66 ?_
        refine q_top (y := (nI q)) hpq ?_
        refine lv_imul hx hb dX2_acts_69 ?_
        refine q_top (y := (nI (182 * q))) (pk_mul 182 q) ?_
        refine lv_iload_n hx hb dX2_acts_70 rfl (lv_at hl 0 rfl) ?_
        refine lv_iadd hx hb dX2_acts_71 ?_
        refine q_top (y := (nI ((182 * q) + k))) (nI_add (182 * q) k) ?_
        refine lv_aload_n hx hb dX2_acts_72 rfl (lv_at hl 1 rfl) ?_
        refine q_getM (v := .ref (ad 84)) hx hb hts hin2 hown hK hP 0 (by decide) lk7 (fun _ h => h) rfl dX2_acts_73 ?_
        refine lv_iload_n hx hb dX2_acts_76 rfl (lv_at hl 0 rfl) ?_
        refine q_ildN hx hb hK hP 84 182 (ar_84) k dX2_acts_77 rfl (by omega) (by decide) ?_
        refine q_istN hx hb hK hI hP hS 85 910 (ar_85) ((182 * q) + k) dX2_acts_78 rfl (by omega) (by decide) (fun H locs hP hS => ?_)
        have hP : WP D cI cS ad (sR R1 85 ((182 * q) + k) (R1 84 k)) F H := hP
        refine lv_iinc (v := (nI (k + 1))) (lv' := [(1, .int (nI (k + 1))), (0, .ref (ad 83))]) hx hb dX2_acts_79 hl (k := 0) rfl (nI_1 k) (by decide) rfl (fun ls hl => ?_)
        refine lv_goto (tgt := 51) hx hb dX2_acts_82 (by decide) ?_
        exact ih _ _ _ ⟨(k + 1), (sR R1 85 ((182 * q) + k) (R1 84 k)), by omega, by rw [← hsp, hX2_acts_51_s], hP, hS, lv_sub hl [0, 1] rfl⟩
  · refine lv_iconst (v := 0) hx hb dX2_acts_8 (by decide) ?_
    refine lv_istore_n (lv' := [(1, .int (0 : Int32)), (0, .ref (ad 83))]) hx hb dX2_acts_9 rfl hl (by decide) rfl (fun ls hl => ?_)
    refine q_loop (fun nn H locs ls => ∃ (k : Nat) (R1 : Nat → Nat → Int32), k + nn = 728 ∧ hX2_acts_10 R F q nn k R1 = (xX2_acts R F q) ∧ WP D cI cS ad R1 F H ∧ va_S (AA ad) s.heap H locs ∧ lv_has ls 2 [(1, .int (nI k)), (0, .ref (ad 83))]) 728 ⟨0, R, by omega, by unfold xX2_acts; rw [if_pos c_5], hP, hS, lv_sub hl [0, 1] rfl⟩ ?_ ?_
    · intro H locs ls hz
      obtain ⟨k, R1, hkn, hsp, hP, hS, hl⟩ := hz
      refine lv_iload_n hx hb dX2_acts_10 rfl (lv_at hl 0 rfl) ?_
      refine lv_sipush (v := 728) hx hb dX2_acts_11 (by decide) ?_
      refine lv_icmp_ge (tgt := 39) hx hb dX2_acts_14 (by decide) (fun c_14 => ?_) (fun c_14 => ?_)
      · refine lv_aload_n hx hb dX2_acts_39 rfl (lv_at hl 1 rfl) ?_
        refine lv_dup hx hb dX2_acts_40 rfl ?_
        refine q_getM (v := .int (F 83 0)) hx hb hts hin2 hown hK hP 2 (by decide) lk19 (fun _ h => h) rfl dX2_acts_41 ?_
        refine q_top (y := (5 : Int32)) c_5 ?_
        refine lv_iconst (v := 1) hx hb dX2_acts_44 (by decide) ?_
        refine lv_isub hx hb dX2_acts_45 ?_
        refine q_top (y := (nI 4)) (by decide) ?_
        refine q_putM hx hb hts hin2 hown hK hI hP hS 2 (by decide) lk19 (fun _ h => h) dX2_acts_46 (fun H locs hP hS => ?_)
        have hP : WP D cI cS ad R1 (sR F 83 0 (nI 4)) H := hP
        refine lv_iconst (v := 0) hx hb dX2_acts_49 (by decide) ?_
        refine lv_istore_n (lv' := [(1, .int (0 : Int32)), (0, .ref (ad 83))]) hx hb dX2_acts_50 rfl hl (by decide) rfl (fun ls hl => ?_)
        refine q_loop (fun nn H locs ls => ∃ (k2 : Nat) (R2 : Nat → Nat → Int32), k2 + nn = 182 ∧ hX2_acts_51b R F q k R1 nn k2 R2 = (xX2_acts R F q) ∧ WP D cI cS ad R2 (sR F 83 0 (nI 4)) H ∧ va_S (AA ad) s.heap H locs ∧ lv_has ls 2 [(1, .int (nI k2)), (0, .ref (ad 83))]) 182 ⟨0, R1, by omega, by rw [← hsp, hX2_acts_10_z], hP, hS, lv_sub hl [0, 1] rfl⟩ ?_ ?_
        · intro H locs ls hz
          obtain ⟨k2, R2, hkn2, hsp2, hP, hS, hl⟩ := hz
          refine lv_iload_n hx hb dX2_acts_51 rfl (lv_at hl 0 rfl) ?_
          refine lv_sipush (v := 182) hx hb dX2_acts_52 (by decide) ?_
          refine lv_icmp_ge (tgt := 85) hx hb dX2_acts_55 (by decide) (fun c_55 => ?_) (fun c_55 => ?_)
          · refine lv_aload_n hx hb dX2_acts_85 rfl (lv_at hl 1 rfl) ?_
            refine lv_dup hx hb dX2_acts_86 rfl ?_
            refine q_getM (v := .int ((sR F 83 0 (nI 4)) 83 0)) hx hb hts hin2 hown hK hP 2 (by decide) lk19 (fun _ h => h) rfl dX2_acts_87 ?_
            refine q_top (y := (nI 4)) rfl ?_
            refine lv_iconst (v := 1) hx hb dX2_acts_90 (by decide) ?_
            refine lv_iadd hx hb dX2_acts_91 ?_
            refine q_top (y := (nI (4 + 1))) (nI_add 4 1) ?_
            refine q_putM hx hb hts hin2 hown hK hI hP hS 2 (by decide) lk19 (fun _ h => h) dX2_acts_92 (fun H locs hP hS => ?_)
            have hP : WP D cI cS ad R2 (sR (sR F 83 0 (nI 4)) 83 0 (nI (4 + 1))) H := hP
            have hX : (xX2_acts R F q) = (R2, (sR (sR F 83 0 (nI 4)) 83 0 (nI (4 + 1)))) := by rw [← hsp2, hX2_acts_51b_z]
            exact W.vret hx hb hr (fun t ht hW => ⟨rfl, by rw [hX, ht]; with_reducible exact hP, hS.F ht⟩) hS.2.2 dX2_acts_95
          · exact absurd (nI_le (a := 182) (b := k2) (by omega) (by omega)) c_55
        · intro n2 ih2 H locs ls hz
          obtain ⟨k2, R2, hkn2, hsp2, hP, hS, hl⟩ := hz
          refine lv_iload_n hx hb dX2_acts_51 rfl (lv_at hl 0 rfl) ?_
          refine lv_sipush (v := 182) hx hb dX2_acts_52 (by decide) ?_
          refine lv_icmp_ge (tgt := 85) hx hb dX2_acts_55 (by decide) (fun c_55 => ?_) (fun c_55 => ?_)
          · exact absurd c_55 (nI_ge (a := k2) (b := 182) (by omega) (by omega))
          · refine lv_aload_n hx hb dX2_acts_58 rfl (lv_at hl 1 rfl) ?_
            refine q_getM (v := .ref (ad 85)) hx hb hts hin2 hown hK hP 1 (by decide) lk13 (fun _ h => h) rfl dX2_acts_59 ?_
            refine lv_sipush (v := 182) hx hb dX2_acts_62 (by decide) ?_
            refine lv_aload_n hx hb dX2_acts_65 rfl (lv_at hl 1 rfl) ?_
            refine q_getM (v := .int ((sR F 83 0 (nI 4)) 83 0)) hx hb hts hin2 hown hK hP 2 (by decide) lk19 (fun _ h => h) rfl dX2_acts_66 ?_
            refine q_top (y := (nI 4)) rfl ?_
            refine lv_imul hx hb dX2_acts_69 ?_
            refine q_top (y := (nI (182 * 4))) (pk_mul 182 4) ?_
            refine lv_iload_n hx hb dX2_acts_70 rfl (lv_at hl 0 rfl) ?_
            refine lv_iadd hx hb dX2_acts_71 ?_
            refine q_top (y := (nI ((182 * 4) + k2))) (nI_add (182 * 4) k2) ?_
            refine lv_aload_n hx hb dX2_acts_72 rfl (lv_at hl 1 rfl) ?_
            refine q_getM (v := .ref (ad 84)) hx hb hts hin2 hown hK hP 0 (by decide) lk7 (fun _ h => h) rfl dX2_acts_73 ?_
            refine lv_iload_n hx hb dX2_acts_76 rfl (lv_at hl 0 rfl) ?_
            refine q_ildN hx hb hK hP 84 182 (ar_84) k2 dX2_acts_77 rfl (by omega) (by decide) ?_
            refine q_istN hx hb hK hI hP hS 85 910 (ar_85) ((182 * 4) + k2) dX2_acts_78 rfl (by omega) (by decide) (fun H locs hP hS => ?_)
            have hP : WP D cI cS ad (sR R2 85 ((182 * 4) + k2) (R2 84 k2)) (sR F 83 0 (nI 4)) H := hP
            refine lv_iinc (v := (nI (k2 + 1))) (lv' := [(1, .int (nI (k2 + 1))), (0, .ref (ad 83))]) hx hb dX2_acts_79 hl (k := 0) rfl (nI_1 k2) (by decide) rfl (fun ls hl => ?_)
            refine lv_goto (tgt := 51) hx hb dX2_acts_82 (by decide) ?_
            exact ih2 _ _ _ ⟨(k2 + 1), (sR R2 85 ((182 * 4) + k2) (R2 84 k2)), by omega, by rw [← hsp2, hX2_acts_51b_s], hP, hS, lv_sub hl [0, 1] rfl⟩
      · exact absurd (nI_le (a := 728) (b := k) (by omega) (by omega)) c_14
    · intro n ih H locs ls hz
      obtain ⟨k, R1, hkn, hsp, hP, hS, hl⟩ := hz
      refine lv_iload_n hx hb dX2_acts_10 rfl (lv_at hl 0 rfl) ?_
      refine lv_sipush (v := 728) hx hb dX2_acts_11 (by decide) ?_
      refine lv_icmp_ge (tgt := 39) hx hb dX2_acts_14 (by decide) (fun c_14 => ?_) (fun c_14 => ?_)
      · exact absurd c_14 (nI_ge (a := k) (b := 728) (by omega) (by omega))
      · refine lv_aload_n hx hb dX2_acts_17 rfl (lv_at hl 1 rfl) ?_
        refine q_getM (v := .ref (ad 85)) hx hb hts hin2 hown hK hP 1 (by decide) lk13 (fun _ h => h) rfl dX2_acts_18 ?_
        refine lv_iload_n hx hb dX2_acts_21 rfl (lv_at hl 0 rfl) ?_
        refine lv_aload_n hx hb dX2_acts_22 rfl (lv_at hl 1 rfl) ?_
        refine q_getM (v := .ref (ad 85)) hx hb hts hin2 hown hK hP 1 (by decide) lk13 (fun _ h => h) rfl dX2_acts_23 ?_
        refine lv_iload_n hx hb dX2_acts_26 rfl (lv_at hl 0 rfl) ?_
        refine lv_sipush (v := 182) hx hb dX2_acts_27 (by decide) ?_
        refine lv_iadd hx hb dX2_acts_30 ?_
        refine q_top (y := (nI (k + 182))) (nI_add k 182) ?_
        refine q_ildN hx hb hK hP 85 910 (ar_85) (k + 182) dX2_acts_31 rfl (by omega) (by decide) ?_
        refine q_istN hx hb hK hI hP hS 85 910 (ar_85) k dX2_acts_32 rfl (by omega) (by decide) (fun H locs hP hS => ?_)
        have hP : WP D cI cS ad (sR R1 85 k (R1 85 (k + 182))) F H := hP
        refine lv_iinc (v := (nI (k + 1))) (lv' := [(1, .int (nI (k + 1))), (0, .ref (ad 83))]) hx hb dX2_acts_33 hl (k := 0) rfl (nI_1 k) (by decide) rfl (fun ls hl => ?_)
        refine lv_goto (tgt := 10) hx hb dX2_acts_36 (by decide) ?_
        exact ih _ _ _ ⟨(k + 1), (sR R1 85 k (R1 85 (k + 182))), by omega, by rw [← hsp, hX2_acts_10_s], hP, hS, lv_sub hl [0, 1] rfl⟩

def hX2_undo_22 (R F : Nat → Nat → Int32) (q : Nat) : Nat → Nat → (Nat → Nat → Int32) → Int32 × (Nat → Nat → Int32) × (Nat → Nat → Int32)
  | 0, k, R1 => ((nI (q - 1)), R1, (sR F 83 0 (nI (q - 1))))
  | n + 1, k, R1 => (hX2_undo_22 R F q n (k + 1) (sR R1 84 k (R1 85 ((182 * (q - 1)) + k))))
theorem hX2_undo_22_z (R F : Nat → Nat → Int32) (q : Nat) (k : Nat) (R1 : Nat → Nat → Int32) : hX2_undo_22 R F q 0 k R1 = ((nI (q - 1)), R1, (sR F 83 0 (nI (q - 1)))) := rfl
theorem hX2_undo_22_s (R F : Nat → Nat → Int32) (q : Nat) (n : Nat) (k : Nat) (R1 : Nat → Nat → Int32) : hX2_undo_22 R F q (n + 1) k R1 = (hX2_undo_22 R F q n (k + 1) (sR R1 84 k (R1 85 ((182 * (q - 1)) + k)))) := rfl
def xX2_undo (R F : Nat → Nat → Int32) (q : Nat) : Int32 × (Nat → Nat → Int32) × (Nat → Nat → Int32) :=
  (if (F 83 0) = (0 : Int32) then ((-100002 : Int32), R, F) else (hX2_undo_22 R F q 182 0 R))
set_option maxHeartbeats 4000000 in
set_option maxRecDepth 100000 in
theorem mX2_undo (l : Launch) (D : va_G) (cI cS : ClassId) (ad : Nat → Nat) (hI : Inj ad) (R F : Nat → Nat → Int32) (q : Nat) (hq : q ≤ 5) (hpq : F 83 0 = nI q) : Met l yX2_undo wsX2_undo ({ frames := 0, cells := 0, slots := 0, locals := 0 }) (PW D cI cS ad R F [.ref (ad 83)]) (QI D cI cS ad ((xX2_undo R F q).1) ((xX2_undo R F q).2.1) ((xX2_undo R F q).2.2)) 0 0 (AA ad) := by
  refine Met.ofW (cc := cX2_undo) (maxL := 2) (ret := (some .int)) (by decide) rfl ?_
  intro p e s m args below meth c s₁ B hml hv
  obtain ⟨rfl, hP, hK⟩ := hv
  have hx := B.exec
  have hb := B.bytes
  have hr := B.returns
  have hts := atoms_spec (ws := wsX2_undo) B.pre
  have hown : s.vm.findClass RX2 = some m.cls := findClass_of_methodNamed B.named
  have hlocks := B.notSynchronized
  have hS : va_S (AA ad) s.heap s.heap [] := va_S.rf
  have hl := lv_entry ([.ref (ad 83)]) (n := 2) (Nat.le_of_ble_eq_true rfl)
  rw [lg_entry_eq]
  generalize (lg_sl ([.ref (ad 83)]) ++ List.replicate (2 - (lg_sl ([.ref (ad 83)])).length) Slot.unset).toArray = ls at hl ⊢
  have hl : lv_has ls 2 [(0, .ref (ad 83))] := hl
  have lk19 := hts (.fieldLink RX2 19 "FerryFloorModel" "pasts" "I") (by decide +kernel)
  have lk70 := hts (.constant RX2 70 (-100002)) (by decide +kernel)
  have lk7 := hts (.fieldLink RX2 7 "FerryFloorModel" "s" "[I") (by decide +kernel)
  have lk13 := hts (.fieldLink RX2 13 "FerryFloorModel" "past" "[I") (by decide +kernel)
  have hin2 : ∀ w ∈ u_ws RX2 TX2 5, w ∈ wsX2_undo := by decide +kernel
  refine lv_aload_n hx hb dX2_undo_0 rfl (lv_at hl 0 rfl) ?_
  refine q_getM (v := .int (F 83 0)) hx hb hts hin2 hown hK hP 2 (by decide) lk19 (fun _ h => h) rfl dX2_undo_1 ?_
  refine lv_if_ne (tgt := 10) hx hb dX2_undo_4 (by decide) (fun c_4 => ?_) (fun c_4 => ?_)
  · have hq1 : 1 ≤ q := by
      rcases Nat.eq_zero_or_pos q with h | h
      · exact absurd (by rw [hpq, h]; rfl) c_4
      · exact h
    refine lv_aload_n hx hb dX2_undo_10 rfl (lv_at hl 0 rfl) ?_
    refine lv_dup hx hb dX2_undo_11 rfl ?_
    refine q_getM (v := .int (F 83 0)) hx hb hts hin2 hown hK hP 2 (by decide) lk19 (fun _ h => h) rfl dX2_undo_12 ?_
    refine q_top (y := (nI q)) hpq ?_
    refine lv_iconst (v := 1) hx hb dX2_undo_15 (by decide) ?_
    refine lv_isub hx hb dX2_undo_16 ?_
    refine q_top (y := (nI (q - 1))) (pk_sub hq1) ?_
    refine q_putM hx hb hts hin2 hown hK hI hP hS 2 (by decide) lk19 (fun _ h => h) dX2_undo_17 (fun H locs hP hS => ?_)
    have hP : WP D cI cS ad R (sR F 83 0 (nI (q - 1))) H := hP
    refine lv_iconst (v := 0) hx hb dX2_undo_20 (by decide) ?_
    refine lv_istore_n (lv' := [(1, .int (0 : Int32)), (0, .ref (ad 83))]) hx hb dX2_undo_21 rfl hl (by decide) rfl (fun ls hl => ?_)
    refine q_loop (fun nn H locs ls => ∃ (k : Nat) (R1 : Nat → Nat → Int32), k + nn = 182 ∧ hX2_undo_22 R F q nn k R1 = (xX2_undo R F q) ∧ WP D cI cS ad R1 (sR F 83 0 (nI (q - 1))) H ∧ va_S (AA ad) s.heap H locs ∧ lv_has ls 2 [(1, .int (nI k)), (0, .ref (ad 83))]) 182 ⟨0, R, by omega, by unfold xX2_undo; rw [if_neg c_4], hP, hS, lv_sub hl [0, 1] rfl⟩ ?_ ?_
    · intro H locs ls hz
      obtain ⟨k, R1, hkn, hsp, hP, hS, hl⟩ := hz
      refine lv_iload_n hx hb dX2_undo_22 rfl (lv_at hl 0 rfl) ?_
      refine lv_sipush (v := 182) hx hb dX2_undo_23 (by decide) ?_
      refine lv_icmp_ge (tgt := 56) hx hb dX2_undo_26 (by decide) (fun c_26 => ?_) (fun c_26 => ?_)
      · refine lv_aload_n hx hb dX2_undo_56 rfl (lv_at hl 1 rfl) ?_
        refine q_getM (v := .int ((sR F 83 0 (nI (q - 1))) 83 0)) hx hb hts hin2 hown hK hP 2 (by decide) lk19 (fun _ h => h) rfl dX2_undo_57 ?_
        refine q_top (y := (nI (q - 1))) rfl ?_
        have hX : (xX2_undo R F q) = ((nI (q - 1)), R1, (sR F 83 0 (nI (q - 1)))) := by rw [← hsp, hX2_undo_22_z]
        exact W.iret (v := (nI (q - 1))) hx hb hr (fun t ht hW => ⟨by rw [hX], by rw [hX, ht]; with_reducible exact hP, hS.F ht⟩) hS.2.2 dX2_undo_60
      · exact absurd (nI_le (a := 182) (b := k) (by omega) (by omega)) c_26
    · intro n ih H locs ls hz
      obtain ⟨k, R1, hkn, hsp, hP, hS, hl⟩ := hz
      refine lv_iload_n hx hb dX2_undo_22 rfl (lv_at hl 0 rfl) ?_
      refine lv_sipush (v := 182) hx hb dX2_undo_23 (by decide) ?_
      refine lv_icmp_ge (tgt := 56) hx hb dX2_undo_26 (by decide) (fun c_26 => ?_) (fun c_26 => ?_)
      · exact absurd c_26 (nI_ge (a := k) (b := 182) (by omega) (by omega))
      · refine lv_aload_n hx hb dX2_undo_29 rfl (lv_at hl 1 rfl) ?_
        refine q_getM (v := .ref (ad 84)) hx hb hts hin2 hown hK hP 0 (by decide) lk7 (fun _ h => h) rfl dX2_undo_30 ?_
        refine lv_iload_n hx hb dX2_undo_33 rfl (lv_at hl 0 rfl) ?_
        refine lv_aload_n hx hb dX2_undo_34 rfl (lv_at hl 1 rfl) ?_
        refine q_getM (v := .ref (ad 85)) hx hb hts hin2 hown hK hP 1 (by decide) lk13 (fun _ h => h) rfl dX2_undo_35 ?_
        refine lv_sipush (v := 182) hx hb dX2_undo_38 (by decide) ?_
        refine lv_aload_n hx hb dX2_undo_41 rfl (lv_at hl 1 rfl) ?_
        refine q_getM (v := .int ((sR F 83 0 (nI (q - 1))) 83 0)) hx hb hts hin2 hown hK hP 2 (by decide) lk19 (fun _ h => h) rfl dX2_undo_42 ?_
        refine q_top (y := (nI (q - 1))) rfl ?_
        refine lv_imul hx hb dX2_undo_45 ?_
        refine q_top (y := (nI (182 * (q - 1)))) (pk_mul 182 (q - 1)) ?_
        refine lv_iload_n hx hb dX2_undo_46 rfl (lv_at hl 0 rfl) ?_
        refine lv_iadd hx hb dX2_undo_47 ?_
        refine q_top (y := (nI ((182 * (q - 1)) + k))) (nI_add (182 * (q - 1)) k) ?_
        refine q_ildN hx hb hK hP 85 910 (ar_85) ((182 * (q - 1)) + k) dX2_undo_48 rfl (by omega) (by decide) ?_
        refine q_istN hx hb hK hI hP hS 84 182 (ar_84) k dX2_undo_49 rfl (by omega) (by decide) (fun H locs hP hS => ?_)
        have hP : WP D cI cS ad (sR R1 84 k (R1 85 ((182 * (q - 1)) + k))) (sR F 83 0 (nI (q - 1))) H := hP
        refine lv_iinc (v := (nI (k + 1))) (lv' := [(1, .int (nI (k + 1))), (0, .ref (ad 83))]) hx hb dX2_undo_50 hl (k := 0) rfl (nI_1 k) (by decide) rfl (fun ls hl => ?_)
        refine lv_goto (tgt := 22) hx hb dX2_undo_53 (by decide) ?_
        exact ih _ _ _ ⟨(k + 1), (sR R1 84 k (R1 85 ((182 * (q - 1)) + k))), by omega, by rw [← hsp, hX2_undo_22_s], hP, hS, lv_sub hl [0, 1] rfl⟩
  · refine lv_ldc (v := -100002) hx hb hown lk70 dX2_undo_7 ?_
    have hX : (xX2_undo R F q) = ((-100002 : Int32), R, F) := by unfold xX2_undo; rw [if_pos c_4]
    exact W.iret (v := (-100002 : Int32)) hx hb hr (fun t ht hW => ⟨by rw [hX], by rw [hX, ht]; with_reducible exact hP, hS.F ht⟩) hS.2.2 dX2_undo_9

theorem acts_l2 {R F : Nat → Nat → Int32} {q : Nat} : ∀ (n k : Nat) (R1 : Nat → Nat → Int32), (hX2_acts_51 R F q n k R1).1 84 = R1 84 := by
  intro n
  induction n with
  | zero => intro k R1; rfl
  | succ n ih => intro k R1; rw [hX2_acts_51_s, ih, sR_ne (by decide)]
theorem acts_l3 {R F : Nat → Nat → Int32} {q k : Nat} {R1 : Nat → Nat → Int32} : ∀ (n k2 : Nat) (R2 : Nat → Nat → Int32), (hX2_acts_51b R F q k R1 n k2 R2).1 84 = R2 84 := by
  intro n
  induction n with
  | zero => intro k2 R2; rfl
  | succ n ih => intro k2 R2; rw [hX2_acts_51b_s, ih, sR_ne (by decide)]
theorem acts_l1 {R F : Nat → Nat → Int32} {q : Nat} : ∀ (n k : Nat) (R1 : Nat → Nat → Int32), (hX2_acts_10 R F q n k R1).1 84 = R1 84 := by
  intro n
  induction n with
  | zero => intro k R1; rw [hX2_acts_10_z]; exact acts_l3 _ _ _
  | succ n ih => intro k R1; rw [hX2_acts_10_s, ih, sR_ne (by decide)]
theorem acts_84 {R F : Nat → Nat → Int32} {q : Nat} : (xX2_acts R F q).1 84 = R 84 := by
  unfold xX2_acts
  split
  · exact acts_l1 _ _ _
  · exact acts_l2 _ _ _
theorem why_of {s : Nat → Int32} {p r : Int32} {kw : Nat} (h : xX2_whyNotTwo s p r = 0) (hW : s 1 = nI kw) (hk : kw ≤ 8) : p = nI p.toNatClampNeg ∧ p.toNatClampNeg < kw ∧ r = nI r.toNatClampNeg ∧ r.toNatClampNeg < kw := by
  unfold xX2_whyNotTwo at h
  split at h
  · exact absurd h (by decide)
  · next h1 =>
    split at h
    · exact absurd h (by decide)
    · next h2 =>
      obtain ⟨a, b⟩ := wk_of h1 hW hk
      obtain ⟨c, d⟩ := wk_of h2 hW hk
      exact ⟨a, b, c, d⟩
