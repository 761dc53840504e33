set_option maxHeartbeats 4000000 in
set_option maxRecDepth 100000 in
theorem mL_isSo (l : Launch) (D : va_G) (cI cS : ClassId) (ad : Nat → Nat) (hI : Inj ad) (R F : Nat → Nat → Int32) (kw mi : Nat) (hN0 : NOW R F R kw mi) : Met l yL_isSo wsL_isSo ({ frames := 6, cells := 0, slots := 0, locals := 138 }) (PW D cI cS ad R F [.ref (ad 0), .ref (ad 83), .ref (ad 84), .ref (ad 85), .ref (ad 86), .ref (ad 87), .ref (ad 88), .ref (ad 89)]) (QE D cI cS ad R F) 0 0 (AA ad) := by
  refine Met.ofW (cc := cL_isSo) (maxL := 19) (ret := (some .boolean)) (by decide) rfl ?_
  intro p e s m args below meth c s₁ B hml hv
  obtain ⟨rfl, hP, hK⟩ := hv
  have hx := B.exec
  have hb := B.bytes
  have hr := B.returns
  have hts := atoms_spec (ws := wsL_isSo) B.pre
  have hown : s.vm.findClass RL = some m.cls := findClass_of_methodNamed B.named
  have hlocks := B.notSynchronized
  have hS : va_S (AA ad) s.heap s.heap [] := va_S.rf
  have hl := lv_entry ([.ref (ad 0), .ref (ad 83), .ref (ad 84), .ref (ad 85), .ref (ad 86), .ref (ad 87), .ref (ad 88), .ref (ad 89)]) (n := 19) (Nat.le_of_ble_eq_true rfl)
  rw [lg_entry_eq]
  generalize (lg_sl ([.ref (ad 0), .ref (ad 83), .ref (ad 84), .ref (ad 85), .ref (ad 86), .ref (ad 87), .ref (ad 88), .ref (ad 89)]) ++ List.replicate (19 - (lg_sl ([.ref (ad 0), .ref (ad 83), .ref (ad 84), .ref (ad 85), .ref (ad 86), .ref (ad 87), .ref (ad 88), .ref (ad 89)])).length) Slot.unset).toArray = ls at hl ⊢
  have hl : lv_has ls 19 [(0, .ref (ad 0)), (1, .ref (ad 83)), (2, .ref (ad 84)), (3, .ref (ad 85)), (4, .ref (ad 86)), (5, .ref (ad 87)), (6, .ref (ad 88)), (7, .ref (ad 89))] := hl
  have lk94 := hts (.constant RL 94 (-100009)) (by decide +kernel)
  have lk33 := hts (.constant RL 33 (-100002)) (by decide +kernel)
  have lk32 := hts (.constant RL 32 (-100001)) (by decide +kernel)
  have hN := hN0
  have hkw : kw ≤ 8 := hN0.1.1
  have hW : R 83 1 = nI kw := hN0.1.2.2.2.1
  have hkR : ∀ i, i ≠ 15 → i ≠ 16 → R i = R i := fun _ _ _ => rfl
  refine lv_iconst (v := 0) hx hb dL_isSo_0 (by decide) ?_
  refine lv_istore (lv' := [(8, .int (0 : Int32)), (0, .ref (ad 0)), (1, .ref (ad 83)), (2, .ref (ad 84)), (3, .ref (ad 85)), (4, .ref (ad 86)), (5, .ref (ad 87)), (6, .ref (ad 88)), (7, .ref (ad 89))]) hx hb dL_isSo_1 hl (by decide) rfl (fun ls hl => ?_)
  refine lv_iconst (v := 0) hx hb dL_isSo_3 (by decide) ?_
  refine lv_istore (lv' := [(9, .int (0 : Int32)), (8, .int (0 : Int32)), (0, .ref (ad 0)), (1, .ref (ad 83)), (2, .ref (ad 84)), (3, .ref (ad 85)), (4, .ref (ad 86)), (5, .ref (ad 87)), (6, .ref (ad 88)), (7, .ref (ad 89))]) hx hb dL_isSo_4 hl (by decide) rfl (fun ls hl => ?_)
  refine lv_iconst (v := 0) hx hb dL_isSo_6 (by decide) ?_
  refine lv_istore (lv' := [(10, .int (0 : Int32)), (9, .int (0 : Int32)), (8, .int (0 : Int32)), (0, .ref (ad 0)), (1, .ref (ad 83)), (2, .ref (ad 84)), (3, .ref (ad 85)), (4, .ref (ad 86)), (5, .ref (ad 87)), (6, .ref (ad 88)), (7, .ref (ad 89))]) hx hb dL_isSo_7 hl (by decide) rfl (fun ls hl => ?_)
  refine lv_iconst (v := 0) hx hb dL_isSo_9 (by decide) ?_
  refine lv_istore (lv' := [(11, .int (0 : Int32)), (10, .int (0 : Int32)), (9, .int (0 : Int32)), (8, .int (0 : Int32)), (0, .ref (ad 0)), (1, .ref (ad 83)), (2, .ref (ad 84)), (3, .ref (ad 85)), (4, .ref (ad 86)), (5, .ref (ad 87)), (6, .ref (ad 88)), (7, .ref (ad 89))]) hx hb dL_isSo_10 hl (by decide) rfl (fun ls hl => ?_)
  refine lv_iconst (v := 0) hx hb dL_isSo_12 (by decide) ?_
  refine lv_istore (lv' := [(12, .int (0 : Int32)), (11, .int (0 : Int32)), (10, .int (0 : Int32)), (9, .int (0 : Int32)), (8, .int (0 : Int32)), (0, .ref (ad 0)), (1, .ref (ad 83)), (2, .ref (ad 84)), (3, .ref (ad 85)), (4, .ref (ad 86)), (5, .ref (ad 87)), (6, .ref (ad 88)), (7, .ref (ad 89))]) hx hb dL_isSo_13 hl (by decide) rfl (fun ls hl => ?_)
  refine lv_iconst (v := 0) hx hb dL_isSo_15 (by decide) ?_
  refine lv_istore (lv' := [(13, .int (0 : Int32)), (12, .int (0 : Int32)), (11, .int (0 : Int32)), (10, .int (0 : Int32)), (9, .int (0 : Int32)), (8, .int (0 : Int32)), (0, .ref (ad 0)), (1, .ref (ad 83)), (2, .ref (ad 84)), (3, .ref (ad 85)), (4, .ref (ad 86)), (5, .ref (ad 87)), (6, .ref (ad 88)), (7, .ref (ad 89))]) hx hb dL_isSo_16 hl (by decide) rfl (fun ls hl => ?_)
  refine lv_iconst (v := 1) hx hb dL_isSo_18 (by decide) ?_
  refine lv_istore (lv' := [(14, .int (1 : Int32)), (13, .int (0 : Int32)), (12, .int (0 : Int32)), (11, .int (0 : Int32)), (10, .int (0 : Int32)), (9, .int (0 : Int32)), (8, .int (0 : Int32)), (0, .ref (ad 0)), (1, .ref (ad 83)), (2, .ref (ad 84)), (3, .ref (ad 85)), (4, .ref (ad 86)), (5, .ref (ad 87)), (6, .ref (ad 88)), (7, .ref (ad 89))]) hx hb dL_isSo_19 hl (by decide) rfl (fun ls hl => ?_)
  refine lv_iconst (v := 0) hx hb dL_isSo_21 (by decide) ?_
  refine lv_istore (lv' := [(15, .int (0 : Int32)), (14, .int (1 : Int32)), (13, .int (0 : Int32)), (12, .int (0 : Int32)), (11, .int (0 : Int32)), (10, .int (0 : Int32)), (9, .int (0 : Int32)), (8, .int (0 : Int32)), (0, .ref (ad 0)), (1, .ref (ad 83)), (2, .ref (ad 84)), (3, .ref (ad 85)), (4, .ref (ad 86)), (5, .ref (ad 87)), (6, .ref (ad 88)), (7, .ref (ad 89))]) hx hb dL_isSo_22 hl (by decide) rfl (fun ls hl => ?_)
  refine q_loop (fun nn H locs ls => ∃ (k : Nat) (Q1 : Nat → Nat → Int32), k + nn = 24 ∧ NOW Q1 F R kw mi ∧ (∀ i, i ≠ 15 → i ≠ 16 → Q1 i = R i) ∧ WP D cI cS ad Q1 F H ∧ va_S (AA ad) s.heap H locs ∧ lv_has ls 19 [(15, .int (nI k)), (14, .int (1 : Int32)), (13, .int (0 : Int32)), (12, .int (0 : Int32)), (11, .int (0 : Int32)), (10, .int (sZe R k)), (9, .int (sTa R k)), (8, .int (sRd R kw k)), (0, .ref (ad 0)), (1, .ref (ad 83)), (2, .ref (ad 84)), (3, .ref (ad 85)), (4, .ref (ad 86)), (5, .ref (ad 87)), (6, .ref (ad 88)), (7, .ref (ad 89))]) 24 ⟨0, R, by omega, hN, hkR, hP, hS, lv_sub hl [0, 1, 2, 3, 4, 5, 6, 7, 8, 9, 10, 11, 12, 13, 14, 15] rfl⟩ ?_ ?_
  · intro H locs ls hz
    obtain ⟨k, Q1, hkn, hN, hkR, hP, hS, hl⟩ := hz
    have hk9 : k = 24 := by omega
    rw [hk9] at hl
    refine lv_iload hx hb dL_isSo_24 (lv_at hl 0 rfl) ?_
    refine lv_bipush (v := 24) hx hb dL_isSo_26 (by decide) ?_
    refine lv_icmp_ge (tgt := 279) hx hb dL_isSo_28 (by decide) (fun c_28 => ?_) (fun c_28 => ?_)
    · refine lv_iconst (v := 0) hx hb dL_isSo_279 (by decide) ?_
      refine lv_istore (lv' := [(15, .int (0 : Int32)), (14, .int (1 : Int32)), (13, .int (0 : Int32)), (12, .int (0 : Int32)), (11, .int (0 : Int32)), (10, .int (sZe R 24)), (9, .int (sTa R 24)), (8, .int (sRd R kw 24)), (0, .ref (ad 0)), (1, .ref (ad 83)), (2, .ref (ad 84)), (3, .ref (ad 85)), (4, .ref (ad 86)), (5, .ref (ad 87)), (6, .ref (ad 88)), (7, .ref (ad 89))]) hx hb dL_isSo_280 hl (by decide) rfl (fun ls hl => ?_)
      refine q_loop (fun nn H locs ls => ∃ (k2 : Nat) (Q2 : Nat → Nat → Int32), k2 + nn = kw ∧ NOW Q2 F R kw mi ∧ (∀ i, i ≠ 15 → i ≠ 16 → Q2 i = R i) ∧ WP D cI cS ad Q2 F H ∧ va_S (AA ad) s.heap H locs ∧ lv_has ls 19 [(15, .int (nI k2)), (14, .int (1 : Int32)), (13, .int (sWr R k2)), (12, .int (sAb R k2)), (11, .int (sHe R k2)), (10, .int (sZe R 24)), (9, .int (sTa R 24)), (8, .int (sRd R kw 24)), (0, .ref (ad 0)), (1, .ref (ad 83)), (2, .ref (ad 84)), (3, .ref (ad 85)), (4, .ref (ad 86)), (5, .ref (ad 87)), (6, .ref (ad 88)), (7, .ref (ad 89))]) kw ⟨0, Q1, by omega, hN, hkR, hP, hS, lv_sub hl [0, 1, 2, 3, 4, 5, 6, 7, 8, 9, 10, 11, 12, 13, 14, 15] rfl⟩ ?_ ?_
      · intro H locs ls hz
        obtain ⟨k2, Q2, hkn2, hN, hkR, hP, hS, hl⟩ := hz
        have hk92 : k2 = kw := by omega
        rw [hk92] at hl
        refine lv_iload hx hb dL_isSo_282 (lv_at hl 0 rfl) ?_
        refine lv_aload_n hx hb dL_isSo_284 rfl (lv_at hl 9 rfl) ?_
        refine lv_iconst (v := 1) hx hb dL_isSo_285 (by decide) ?_
        refine q_ildN hx hb hK hP 83 6 (ar_83) 1 dL_isSo_286 rfl (by omega) (by decide) ?_
        refine q_top (y := (R 83 1)) (congrFun (hkR 83 (by decide) (by decide)) _) ?_
        refine q_top (y := (nI kw)) hW ?_
        refine lv_icmp_ge (tgt := 660) hx hb dL_isSo_287 (by decide) (fun c_287 => ?_) (fun c_287 => ?_)
        · refine lv_iload hx hb dL_isSo_660 (lv_at hl 1 rfl) ?_
          refine lv_if_eq (tgt := 679) hx hb dL_isSo_662 (by decide) (fun c_662 => ?_) (fun c_662 => ?_)
          · exact absurd c_662 (by decide)
          · refine lv_iload hx hb dL_isSo_665 (lv_at hl 7 rfl) ?_
            refine lv_iload hx hb dL_isSo_667 (lv_at hl 4 rfl) ?_
            refine lv_iload hx hb dL_isSo_669 (lv_at hl 5 rfl) ?_
            refine lv_iadd hx hb dL_isSo_671 ?_
            refine lv_icmp_ne (tgt := 679) hx hb dL_isSo_672 (by decide) (fun c_672 => ?_) (fun c_672 => ?_)
            · exact absurd (readings_eq hN) c_672
            · refine lv_iconst (v := 1) hx hb dL_isSo_675 (by decide) ?_
              refine lv_goto (tgt := 680) hx hb dL_isSo_676 (by decide) ?_
              refine lv_istore (lv' := [(14, .int (1 : Int32)), (15, .int (nI kw)), (13, .int (sWr R kw)), (12, .int (sAb R kw)), (11, .int (sHe R kw)), (10, .int (sZe R 24)), (9, .int (sTa R 24)), (8, .int (sRd R kw 24)), (0, .ref (ad 0)), (1, .ref (ad 83)), (2, .ref (ad 84)), (3, .ref (ad 85)), (4, .ref (ad 86)), (5, .ref (ad 87)), (6, .ref (ad 88)), (7, .ref (ad 89))]) hx hb dL_isSo_680 hl (by decide) rfl (fun ls hl => ?_)
              refine lv_iload hx hb dL_isSo_682 (lv_at hl 0 rfl) ?_
              refine lv_if_eq (tgt := 855) hx hb dL_isSo_684 (by decide) (fun c_684 => ?_) (fun c_684 => ?_)
              · exact absurd c_684 c_662
              · refine lv_aload_n hx hb dL_isSo_687 rfl (lv_at hl 8 rfl) ?_
                refine lv_iconst (v := 0) hx hb dL_isSo_688 (by decide) ?_
                refine q_callI (va_runV (As := [.int (0 : Int32)]) (rest := []) ⟨hx, hb, hml, hown, hts⟩ (mX1_count l D cI cS ad hI Q2 F (0 : Int32)) (cwV 1 hts gL_isSo_X1_count rfl rfl rfl (by decide +kernel) ⟨Nat.le_of_ble_eq_true rfl, Nat.le_of_ble_eq_true rfl⟩) (PW_preV (i := 0) (by decide) CC_0 rfl rfl hK hP) rfl rfl hl.1 rfl (lv_room (Nat.le_of_ble_eq_true rfl)) dL_isSo_689 ⟨Nat.zero_le _, Nat.zero_le _⟩) hS (fun H locs hP hS => ?_)
                refine q_top (y := (R 83 0)) (lk_n0 hN) ?_
                have hq : ∀ i, i ≠ 15 → i ≠ 16 → (xX1_count Q2 F (0 : Int32)).2 i = Q2 i := fun i h1 h2 => count_kp h1 h2
                generalize (xX1_count Q2 F (0 : Int32)).2 = Q3 at hP hq
                have hN : NOW Q3 F R kw mi := NOW_rows hN (fun j h1 h2 => hq j (by omega) (by omega)) rfl (fun _ _ _ => rfl)
                have hkR : ∀ i, i ≠ 15 → i ≠ 16 → Q3 i = R i := fun i h1 h2 => (hq i h1 h2).trans (hkR i h1 h2)
                clear hq
                refine lv_aload_n hx hb dL_isSo_692 rfl (lv_at hl 9 rfl) ?_
                refine lv_iconst (v := 0) hx hb dL_isSo_693 (by decide) ?_
                refine q_ildN hx hb hK hP 83 6 (ar_83) 0 dL_isSo_694 rfl (by omega) (by decide) ?_
                refine q_top (y := (R 83 0)) (congrFun (hkR 83 (by decide) (by decide)) _) ?_
                refine lv_icmp_ne (tgt := 855) hx hb dL_isSo_695 (by decide) (fun c_695 => ?_) (fun c_695 => ?_)
                · exact absurd rfl c_695
                · refine lv_aload_n hx hb dL_isSo_698 rfl (lv_at hl 8 rfl) ?_
                  refine lv_iconst (v := 1) hx hb dL_isSo_699 (by decide) ?_
                  refine q_callI (va_runV (As := [.int (1 : Int32)]) (rest := []) ⟨hx, hb, hml, hown, hts⟩ (mX1_count l D cI cS ad hI Q3 F (1 : Int32)) (cwV 1 hts gL_isSo_X1_count rfl rfl rfl (by decide +kernel) ⟨Nat.le_of_ble_eq_true rfl, Nat.le_of_ble_eq_true rfl⟩) (PW_preV (i := 0) (by decide) CC_0 rfl rfl hK hP) rfl rfl hl.1 rfl (lv_room (Nat.le_of_ble_eq_true rfl)) dL_isSo_700 ⟨Nat.zero_le _, Nat.zero_le _⟩) hS (fun H locs hP hS => ?_)
                  refine q_top (y := (nI kw)) (lk_n1 hN) ?_
                  have hq : ∀ i, i ≠ 15 → i ≠ 16 → (xX1_count Q3 F (1 : Int32)).2 i = Q3 i := fun i h1 h2 => count_kp h1 h2
                  generalize (xX1_count Q3 F (1 : Int32)).2 = Q4 at hP hq
                  have hN : NOW Q4 F R kw mi := NOW_rows hN (fun j h1 h2 => hq j (by omega) (by omega)) rfl (fun _ _ _ => rfl)
                  have hkR : ∀ i, i ≠ 15 → i ≠ 16 → Q4 i = R i := fun i h1 h2 => (hq i h1 h2).trans (hkR i h1 h2)
                  clear hq
                  refine lv_aload_n hx hb dL_isSo_703 rfl (lv_at hl 9 rfl) ?_
                  refine lv_iconst (v := 1) hx hb dL_isSo_704 (by decide) ?_
                  refine q_ildN hx hb hK hP 83 6 (ar_83) 1 dL_isSo_705 rfl (by omega) (by decide) ?_
                  refine q_top (y := (R 83 1)) (congrFun (hkR 83 (by decide) (by decide)) _) ?_
                  refine q_top (y := (nI kw)) hW ?_
                  refine lv_icmp_ne (tgt := 855) hx hb dL_isSo_706 (by decide) (fun c_706 => ?_) (fun c_706 => ?_)
                  · exact absurd rfl c_706
                  · refine lv_aload_n hx hb dL_isSo_709 rfl (lv_at hl 8 rfl) ?_
                    refine lv_iconst (v := 2) hx hb dL_isSo_710 (by decide) ?_
                    refine q_callI (va_runV (As := [.int (2 : Int32)]) (rest := []) ⟨hx, hb, hml, hown, hts⟩ (mX1_count l D cI cS ad hI Q4 F (2 : Int32)) (cwV 1 hts gL_isSo_X1_count rfl rfl rfl (by decide +kernel) ⟨Nat.le_of_ble_eq_true rfl, Nat.le_of_ble_eq_true rfl⟩) (PW_preV (i := 0) (by decide) CC_0 rfl rfl hK hP) rfl rfl hl.1 rfl (lv_room (Nat.le_of_ble_eq_true rfl)) dL_isSo_711 ⟨Nat.zero_le _, Nat.zero_le _⟩) hS (fun H locs hP hS => ?_)
                    refine q_top (y := (sAb R kw)) (lk_n2 hN) ?_
                    have hq : ∀ i, i ≠ 15 → i ≠ 16 → (xX1_count Q4 F (2 : Int32)).2 i = Q4 i := fun i h1 h2 => count_kp h1 h2
                    generalize (xX1_count Q4 F (2 : Int32)).2 = Q5 at hP hq
                    have hN : NOW Q5 F R kw mi := NOW_rows hN (fun j h1 h2 => hq j (by omega) (by omega)) rfl (fun _ _ _ => rfl)
                    have hkR : ∀ i, i ≠ 15 → i ≠ 16 → Q5 i = R i := fun i h1 h2 => (hq i h1 h2).trans (hkR i h1 h2)
                    clear hq
                    refine lv_iload hx hb dL_isSo_714 (lv_at hl 3 rfl) ?_
                    refine lv_icmp_ne (tgt := 855) hx hb dL_isSo_716 (by decide) (fun c_716 => ?_) (fun c_716 => ?_)
                    · exact absurd rfl c_716
                    · refine lv_aload_n hx hb dL_isSo_719 rfl (lv_at hl 8 rfl) ?_
                      refine lv_iconst (v := 4) hx hb dL_isSo_720 (by decide) ?_
                      refine q_callI (va_runV (As := [.int (4 : Int32)]) (rest := []) ⟨hx, hb, hml, hown, hts⟩ (mX1_count l D cI cS ad hI Q5 F (4 : Int32)) (cwV 1 hts gL_isSo_X1_count rfl rfl rfl (by decide +kernel) ⟨Nat.le_of_ble_eq_true rfl, Nat.le_of_ble_eq_true rfl⟩) (PW_preV (i := 0) (by decide) CC_0 rfl rfl hK hP) rfl rfl hl.1 rfl (lv_room (Nat.le_of_ble_eq_true rfl)) dL_isSo_721 ⟨Nat.zero_le _, Nat.zero_le _⟩) hS (fun H locs hP hS => ?_)
                      refine q_top (y := (xL_error (R 83) (R 84) (R 86) (R 88) kw)) (lk_n4 hN) ?_
                      have hq : ∀ i, i ≠ 15 → i ≠ 16 → (xX1_count Q5 F (4 : Int32)).2 i = Q5 i := fun i h1 h2 => count_kp h1 h2
                      generalize (xX1_count Q5 F (4 : Int32)).2 = Q6 at hP hq
                      have hN : NOW Q6 F R kw mi := NOW_rows hN (fun j h1 h2 => hq j (by omega) (by omega)) rfl (fun _ _ _ => rfl)
                      have hkR : ∀ i, i ≠ 15 → i ≠ 16 → Q6 i = R i := fun i h1 h2 => (hq i h1 h2).trans (hkR i h1 h2)
                      clear hq
                      refine lv_aload_n hx hb dL_isSo_724 rfl (lv_at hl 9 rfl) ?_
                      refine lv_aload_n hx hb dL_isSo_725 rfl (lv_at hl 10 rfl) ?_
                      refine lv_aload hx hb dL_isSo_726 (lv_at hl 12 rfl) ?_
                      refine lv_aload hx hb dL_isSo_728 (lv_at hl 14 rfl) ?_
                      refine q_callS (va_runS (As := [.ref (ad 83), .ref (ad 84), .ref (ad 86), .ref (ad 88)]) (rest := [.int (xL_error (R 83) (R 84) (R 86) (R 88) kw)]) ⟨hx, hb, hml, hown, hts⟩ (mL_error l D cI cS ad hI Q6 F kw hkw ((congrFun (hkR 83 (by decide) (by decide)) 1).trans hW)) (va_cwS 4 hts gL_isSo_L_error rfl rfl rfl (by decide +kernel) ⟨Nat.le_of_ble_eq_true rfl, Nat.le_of_ble_eq_true rfl⟩) (PW_preS hK hP) rfl rfl hl.1 rfl (lv_room (Nat.le_of_ble_eq_true rfl)) dL_isSo_730 ⟨Nat.zero_le _, Nat.zero_le _⟩) ?_
                      refine q_top (y := (xL_error (R 83) (R 84) (R 86) (R 88) kw)) (by rw [hkR 83 (by decide) (by decide), hkR 84 (by decide) (by decide), hkR 86 (by decide) (by decide), hkR 88 (by decide) (by decide)]) ?_
                      refine lv_icmp_ne (tgt := 855) hx hb dL_isSo_733 (by decide) (fun c_733 => ?_) (fun c_733 => ?_)
                      · exact absurd rfl c_733
                      · refine lv_aload_n hx hb dL_isSo_736 rfl (lv_at hl 8 rfl) ?_
                        refine lv_iconst (v := 5) hx hb dL_isSo_737 (by decide) ?_
                        refine q_callI (va_runV (As := [.int (5 : Int32)]) (rest := []) ⟨hx, hb, hml, hown, hts⟩ (mX1_count l D cI cS ad hI Q6 F (5 : Int32)) (cwV 1 hts gL_isSo_X1_count rfl rfl rfl (by decide +kernel) ⟨Nat.le_of_ble_eq_true rfl, Nat.le_of_ble_eq_true rfl⟩) (PW_preV (i := 0) (by decide) CC_0 rfl rfl hK hP) rfl rfl hl.1 rfl (lv_room (Nat.le_of_ble_eq_true rfl)) dL_isSo_738 ⟨Nat.zero_le _, Nat.zero_le _⟩) hS (fun H locs hP hS => ?_)
                        refine q_top (y := (sRd R kw 24)) (lk_n5 hN) ?_
                        have hq : ∀ i, i ≠ 15 → i ≠ 16 → (xX1_count Q6 F (5 : Int32)).2 i = Q6 i := fun i h1 h2 => count_kp h1 h2
                        generalize (xX1_count Q6 F (5 : Int32)).2 = Q7 at hP hq
                        have hN : NOW Q7 F R kw mi := NOW_rows hN (fun j h1 h2 => hq j (by omega) (by omega)) rfl (fun _ _ _ => rfl)
                        have hkR : ∀ i, i ≠ 15 → i ≠ 16 → Q7 i = R i := fun i h1 h2 => (hq i h1 h2).trans (hkR i h1 h2)
                        clear hq
                        refine lv_iload hx hb dL_isSo_741 (lv_at hl 7 rfl) ?_
                        refine lv_icmp_ne (tgt := 855) hx hb dL_isSo_743 (by decide) (fun c_743 => ?_) (fun c_743 => ?_)
                        · exact absurd rfl c_743
                        · refine lv_aload_n hx hb dL_isSo_746 rfl (lv_at hl 8 rfl) ?_
                          refine lv_bipush (v := 6) hx hb dL_isSo_747 (by decide) ?_
                          refine q_callI (va_runV (As := [.int (6 : Int32)]) (rest := []) ⟨hx, hb, hml, hown, hts⟩ (mX1_count l D cI cS ad hI Q7 F (6 : Int32)) (cwV 1 hts gL_isSo_X1_count rfl rfl rfl (by decide +kernel) ⟨Nat.le_of_ble_eq_true rfl, Nat.le_of_ble_eq_true rfl⟩) (PW_preV (i := 0) (by decide) CC_0 rfl rfl hK hP) rfl rfl hl.1 rfl (lv_room (Nat.le_of_ble_eq_true rfl)) dL_isSo_749 ⟨Nat.zero_le _, Nat.zero_le _⟩) hS (fun H locs hP hS => ?_)
                          refine q_top (y := (sTa R 24)) (lk_n6 hN) ?_
                          have hq : ∀ i, i ≠ 15 → i ≠ 16 → (xX1_count Q7 F (6 : Int32)).2 i = Q7 i := fun i h1 h2 => count_kp h1 h2
                          generalize (xX1_count Q7 F (6 : Int32)).2 = Q8 at hP hq
                          have hN : NOW Q8 F R kw mi := NOW_rows hN (fun j h1 h2 => hq j (by omega) (by omega)) rfl (fun _ _ _ => rfl)
                          have hkR : ∀ i, i ≠ 15 → i ≠ 16 → Q8 i = R i := fun i h1 h2 => (hq i h1 h2).trans (hkR i h1 h2)
                          clear hq
                          refine lv_iload hx hb dL_isSo_752 (lv_at hl 6 rfl) ?_
                          refine lv_icmp_ne (tgt := 855) hx hb dL_isSo_754 (by decide) (fun c_754 => ?_) (fun c_754 => ?_)
                          · exact absurd rfl c_754
                          · refine lv_aload_n hx hb dL_isSo_757 rfl (lv_at hl 8 rfl) ?_
                            refine lv_bipush (v := 7) hx hb dL_isSo_758 (by decide) ?_
                            refine q_callI (va_runV (As := [.int (7 : Int32)]) (rest := []) ⟨hx, hb, hml, hown, hts⟩ (mX1_count l D cI cS ad hI Q8 F (7 : Int32)) (cwV 1 hts gL_isSo_X1_count rfl rfl rfl (by decide +kernel) ⟨Nat.le_of_ble_eq_true rfl, Nat.le_of_ble_eq_true rfl⟩) (PW_preV (i := 0) (by decide) CC_0 rfl rfl hK hP) rfl rfl hl.1 rfl (lv_room (Nat.le_of_ble_eq_true rfl)) dL_isSo_760 ⟨Nat.zero_le _, Nat.zero_le _⟩) hS (fun H locs hP hS => ?_)
                            refine q_top (y := (sWr R kw)) (lk_n7 hN) ?_
                            have hq : ∀ i, i ≠ 15 → i ≠ 16 → (xX1_count Q8 F (7 : Int32)).2 i = Q8 i := fun i h1 h2 => count_kp h1 h2
                            generalize (xX1_count Q8 F (7 : Int32)).2 = Q9 at hP hq
                            have hN : NOW Q9 F R kw mi := NOW_rows hN (fun j h1 h2 => hq j (by omega) (by omega)) rfl (fun _ _ _ => rfl)
                            have hkR : ∀ i, i ≠ 15 → i ≠ 16 → Q9 i = R i := fun i h1 h2 => (hq i h1 h2).trans (hkR i h1 h2)
                            clear hq
                            refine lv_iload hx hb dL_isSo_763 (lv_at hl 2 rfl) ?_
                            refine lv_icmp_ne (tgt := 855) hx hb dL_isSo_765 (by decide) (fun c_765 => ?_) (fun c_765 => ?_)
                            · exact absurd rfl c_765
                            · refine lv_aload_n hx hb dL_isSo_768 rfl (lv_at hl 8 rfl) ?_
                              refine lv_bipush (v := 8) hx hb dL_isSo_769 (by decide) ?_
                              refine q_callI (va_runV (As := [.int (8 : Int32)]) (rest := []) ⟨hx, hb, hml, hown, hts⟩ (mX1_count l D cI cS ad hI Q9 F (8 : Int32)) (cwV 1 hts gL_isSo_X1_count rfl rfl rfl (by decide +kernel) ⟨Nat.le_of_ble_eq_true rfl, Nat.le_of_ble_eq_true rfl⟩) (PW_preV (i := 0) (by decide) CC_0 rfl rfl hK hP) rfl rfl hl.1 rfl (lv_room (Nat.le_of_ble_eq_true rfl)) dL_isSo_771 ⟨Nat.zero_le _, Nat.zero_le _⟩) hS (fun H locs hP hS => ?_)
                              refine q_top (y := (R 83 2)) (lk_n8 hN) ?_
                              have hq : ∀ i, i ≠ 15 → i ≠ 16 → (xX1_count Q9 F (8 : Int32)).2 i = Q9 i := fun i h1 h2 => count_kp h1 h2
                              generalize (xX1_count Q9 F (8 : Int32)).2 = Q10 at hP hq
                              have hN : NOW Q10 F R kw mi := NOW_rows hN (fun j h1 h2 => hq j (by omega) (by omega)) rfl (fun _ _ _ => rfl)
                              have hkR : ∀ i, i ≠ 15 → i ≠ 16 → Q10 i = R i := fun i h1 h2 => (hq i h1 h2).trans (hkR i h1 h2)
                              clear hq
                              refine lv_aload_n hx hb dL_isSo_774 rfl (lv_at hl 9 rfl) ?_
                              refine lv_iconst (v := 2) hx hb dL_isSo_775 (by decide) ?_
                              refine q_ildN hx hb hK hP 83 6 (ar_83) 2 dL_isSo_776 rfl (by omega) (by decide) ?_
                              refine q_top (y := (R 83 2)) (congrFun (hkR 83 (by decide) (by decide)) _) ?_
                              refine lv_icmp_ne (tgt := 855) hx hb dL_isSo_777 (by decide) (fun c_777 => ?_) (fun c_777 => ?_)
                              · exact absurd rfl c_777
                              · refine lv_aload_n hx hb dL_isSo_780 rfl (lv_at hl 8 rfl) ?_
                                refine lv_bipush (v := 9) hx hb dL_isSo_781 (by decide) ?_
                                refine q_callI (va_runV (As := [.int (9 : Int32)]) (rest := []) ⟨hx, hb, hml, hown, hts⟩ (mX1_count l D cI cS ad hI Q10 F (9 : Int32)) (cwV 1 hts gL_isSo_X1_count rfl rfl rfl (by decide +kernel) ⟨Nat.le_of_ble_eq_true rfl, Nat.le_of_ble_eq_true rfl⟩) (PW_preV (i := 0) (by decide) CC_0 rfl rfl hK hP) rfl rfl hl.1 rfl (lv_room (Nat.le_of_ble_eq_true rfl)) dL_isSo_783 ⟨Nat.zero_le _, Nat.zero_le _⟩) hS (fun H locs hP hS => ?_)
                                refine q_top (y := (R 83 3)) (lk_n9 hN) ?_
                                have hq : ∀ i, i ≠ 15 → i ≠ 16 → (xX1_count Q10 F (9 : Int32)).2 i = Q10 i := fun i h1 h2 => count_kp h1 h2
                                generalize (xX1_count Q10 F (9 : Int32)).2 = Q11 at hP hq
                                have hN : NOW Q11 F R kw mi := NOW_rows hN (fun j h1 h2 => hq j (by omega) (by omega)) rfl (fun _ _ _ => rfl)
                                have hkR : ∀ i, i ≠ 15 → i ≠ 16 → Q11 i = R i := fun i h1 h2 => (hq i h1 h2).trans (hkR i h1 h2)
                                clear hq
                                refine lv_aload_n hx hb dL_isSo_786 rfl (lv_at hl 9 rfl) ?_
                                refine lv_iconst (v := 3) hx hb dL_isSo_787 (by decide) ?_
                                refine q_ildN hx hb hK hP 83 6 (ar_83) 3 dL_isSo_788 rfl (by omega) (by decide) ?_
                                refine q_top (y := (R 83 3)) (congrFun (hkR 83 (by decide) (by decide)) _) ?_
                                refine lv_icmp_ne (tgt := 855) hx hb dL_isSo_789 (by decide) (fun c_789 => ?_) (fun c_789 => ?_)
                                · exact absurd rfl c_789
                                · refine lv_aload_n hx hb dL_isSo_792 rfl (lv_at hl 8 rfl) ?_
                                  refine lv_bipush (v := 10) hx hb dL_isSo_793 (by decide) ?_
                                  refine q_callI (va_runV (As := [.int (10 : Int32)]) (rest := []) ⟨hx, hb, hml, hown, hts⟩ (mX1_count l D cI cS ad hI Q11 F (10 : Int32)) (cwV 1 hts gL_isSo_X1_count rfl rfl rfl (by decide +kernel) ⟨Nat.le_of_ble_eq_true rfl, Nat.le_of_ble_eq_true rfl⟩) (PW_preV (i := 0) (by decide) CC_0 rfl rfl hK hP) rfl rfl hl.1 rfl (lv_room (Nat.le_of_ble_eq_true rfl)) dL_isSo_795 ⟨Nat.zero_le _, Nat.zero_le _⟩) hS (fun H locs hP hS => ?_)
                                  refine q_top (y := (R 83 4)) (lk_n10 hN) ?_
                                  have hq : ∀ i, i ≠ 15 → i ≠ 16 → (xX1_count Q11 F (10 : Int32)).2 i = Q11 i := fun i h1 h2 => count_kp h1 h2
                                  generalize (xX1_count Q11 F (10 : Int32)).2 = Q12 at hP hq
                                  have hN : NOW Q12 F R kw mi := NOW_rows hN (fun j h1 h2 => hq j (by omega) (by omega)) rfl (fun _ _ _ => rfl)
                                  have hkR : ∀ i, i ≠ 15 → i ≠ 16 → Q12 i = R i := fun i h1 h2 => (hq i h1 h2).trans (hkR i h1 h2)
                                  clear hq
                                  refine lv_aload_n hx hb dL_isSo_798 rfl (lv_at hl 9 rfl) ?_
                                  refine lv_iconst (v := 4) hx hb dL_isSo_799 (by decide) ?_
                                  refine q_ildN hx hb hK hP 83 6 (ar_83) 4 dL_isSo_800 rfl (by omega) (by decide) ?_
                                  refine q_top (y := (R 83 4)) (congrFun (hkR 83 (by decide) (by decide)) _) ?_
                                  refine lv_icmp_ne (tgt := 855) hx hb dL_isSo_801 (by decide) (fun c_801 => ?_) (fun c_801 => ?_)
                                  · exact absurd rfl c_801
                                  · refine lv_aload_n hx hb dL_isSo_804 rfl (lv_at hl 8 rfl) ?_
                                    refine lv_bipush (v := 11) hx hb dL_isSo_805 (by decide) ?_
                                    refine q_callI (va_runV (As := [.int (11 : Int32)]) (rest := []) ⟨hx, hb, hml, hown, hts⟩ (mX1_count l D cI cS ad hI Q12 F (11 : Int32)) (cwV 1 hts gL_isSo_X1_count rfl rfl rfl (by decide +kernel) ⟨Nat.le_of_ble_eq_true rfl, Nat.le_of_ble_eq_true rfl⟩) (PW_preV (i := 0) (by decide) CC_0 rfl rfl hK hP) rfl rfl hl.1 rfl (lv_room (Nat.le_of_ble_eq_true rfl)) dL_isSo_807 ⟨Nat.zero_le _, Nat.zero_le _⟩) hS (fun H locs hP hS => ?_)
                                    refine q_top (y := (R 83 5)) (lk_n11 hN) ?_
                                    have hq : ∀ i, i ≠ 15 → i ≠ 16 → (xX1_count Q12 F (11 : Int32)).2 i = Q12 i := fun i h1 h2 => count_kp h1 h2
                                    generalize (xX1_count Q12 F (11 : Int32)).2 = Q13 at hP hq
                                    have hN : NOW Q13 F R kw mi := NOW_rows hN (fun j h1 h2 => hq j (by omega) (by omega)) rfl (fun _ _ _ => rfl)
                                    have hkR : ∀ i, i ≠ 15 → i ≠ 16 → Q13 i = R i := fun i h1 h2 => (hq i h1 h2).trans (hkR i h1 h2)
                                    clear hq
                                    refine lv_aload_n hx hb dL_isSo_810 rfl (lv_at hl 9 rfl) ?_
                                    refine lv_iconst (v := 5) hx hb dL_isSo_811 (by decide) ?_
                                    refine q_ildN hx hb hK hP 83 6 (ar_83) 5 dL_isSo_812 rfl (by omega) (by decide) ?_
                                    refine q_top (y := (R 83 5)) (congrFun (hkR 83 (by decide) (by decide)) _) ?_
                                    refine lv_icmp_ne (tgt := 855) hx hb dL_isSo_813 (by decide) (fun c_813 => ?_) (fun c_813 => ?_)
                                    · exact absurd rfl c_813
                                    · refine lv_aload_n hx hb dL_isSo_816 rfl (lv_at hl 8 rfl) ?_
                                      refine lv_aload_n hx hb dL_isSo_817 rfl (lv_at hl 9 rfl) ?_
                                      refine lv_iconst (v := 1) hx hb dL_isSo_818 (by decide) ?_
                                      refine q_ildN hx hb hK hP 83 6 (ar_83) 1 dL_isSo_819 rfl (by omega) (by decide) ?_
                                      refine q_top (y := (R 83 1)) (congrFun (hkR 83 (by decide) (by decide)) _) ?_
                                      refine q_top (y := (nI kw)) hW ?_
                                      refine lv_iconst (v := 0) hx hb dL_isSo_820 (by decide) ?_
                                      refine q_callS (va_runV (As := [.int (nI kw), .int (0 : Int32)]) (rest := []) ⟨hx, hb, hml, hown, hts⟩ (mX1_walker l D cI cS ad hI Q13 F (nI kw) (0 : Int32)) (cwV 2 hts gL_isSo_X1_walker rfl rfl rfl (by decide +kernel) ⟨Nat.le_of_ble_eq_true rfl, Nat.le_of_ble_eq_true rfl⟩) (PW_preV (i := 0) (by decide) CC_0 rfl rfl hK hP) rfl rfl hl.1 rfl (lv_room (Nat.le_of_ble_eq_true rfl)) dL_isSo_821 ⟨Nat.zero_le _, Nat.zero_le _⟩) ?_
                                      refine q_top (y := (-100001 : Int32)) (lk_wno hN) ?_
                                      refine lv_ldc (v := -100001) hx hb hown lk32 dL_isSo_824 ?_
                                      refine lv_icmp_ne (tgt := 855) hx hb dL_isSo_826 (by decide) (fun c_826 => ?_) (fun c_826 => ?_)
                                      · exact absurd (by decide) c_826
                                      · refine lv_aload_n hx hb dL_isSo_829 rfl (lv_at hl 8 rfl) ?_
                                        refine lv_aload_n hx hb dL_isSo_830 rfl (lv_at hl 9 rfl) ?_
                                        refine lv_iconst (v := 1) hx hb dL_isSo_831 (by decide) ?_
                                        refine q_ildN hx hb hK hP 83 6 (ar_83) 1 dL_isSo_832 rfl (by omega) (by decide) ?_
                                        refine q_top (y := (R 83 1)) (congrFun (hkR 83 (by decide) (by decide)) _) ?_
                                        refine q_top (y := (nI kw)) hW ?_
                                        refine q_callI (va_runV (As := [.int (nI kw)]) (rest := []) ⟨hx, hb, hml, hown, hts⟩ (mX1_estimate l D cI cS ad hI Q13 F (nI kw)) (cwV 1 hts gL_isSo_X1_estimate rfl rfl rfl (by decide +kernel) ⟨Nat.le_of_ble_eq_true rfl, Nat.le_of_ble_eq_true rfl⟩) (PW_preV (i := 0) (by decide) CC_0 rfl rfl hK hP) rfl rfl hl.1 rfl (lv_room (Nat.le_of_ble_eq_true rfl)) dL_isSo_833 ⟨Nat.zero_le _, Nat.zero_le _⟩) hS (fun H locs hP hS => ?_)
                                        refine q_top (y := (-100001 : Int32)) (lk_eno hN) ?_
                                        have hq : ∀ i, i ≠ 15 → i ≠ 16 → (xX1_estimate Q13 F (nI kw)).2 i = Q13 i := fun i h1 h2 => estimate_kp h1 h2
                                        generalize (xX1_estimate Q13 F (nI kw)).2 = Q14 at hP hq
                                        have hN : NOW Q14 F R kw mi := NOW_rows hN (fun j h1 h2 => hq j (by omega) (by omega)) rfl (fun _ _ _ => rfl)
                                        have hkR : ∀ i, i ≠ 15 → i ≠ 16 → Q14 i = R i := fun i h1 h2 => (hq i h1 h2).trans (hkR i h1 h2)
                                        clear hq
                                        refine lv_ldc (v := -100001) hx hb hown lk32 dL_isSo_836 ?_
                                        refine lv_icmp_ne (tgt := 855) hx hb dL_isSo_838 (by decide) (fun c_838 => ?_) (fun c_838 => ?_)
                                        · exact absurd c_826 c_838
                                        · refine lv_aload_n hx hb dL_isSo_841 rfl (lv_at hl 8 rfl) ?_
                                          refine lv_iconst (v := -1) hx hb dL_isSo_842 (by decide) ?_
                                          refine q_callS (va_runV (As := [.int (-1 : Int32)]) (rest := []) ⟨hx, hb, hml, hown, hts⟩ (mX1_certainty l D cI cS ad hI Q14 F (-1 : Int32)) (cwV 1 hts gL_isSo_X1_certainty rfl rfl rfl (by decide +kernel) ⟨Nat.le_of_ble_eq_true rfl, Nat.le_of_ble_eq_true rfl⟩) (PW_preV (i := 0) (by decide) CC_0 rfl rfl hK hP) rfl rfl hl.1 rfl (lv_room (Nat.le_of_ble_eq_true rfl)) dL_isSo_843 ⟨Nat.zero_le _, Nat.zero_le _⟩) ?_
                                          refine q_top (y := (-100001 : Int32)) lk_cno ?_
                                          refine lv_ldc (v := -100001) hx hb hown lk32 dL_isSo_846 ?_
                                          refine lv_icmp_ne (tgt := 855) hx hb dL_isSo_848 (by decide) (fun c_848 => ?_) (fun c_848 => ?_)
                                          · exact absurd c_838 c_848
                                          · refine lv_iconst (v := 1) hx hb dL_isSo_851 (by decide) ?_
                                            refine lv_goto (tgt := 856) hx hb dL_isSo_852 (by decide) ?_
                                            exact W.zret (v := (1 : Int32)) hx hb hr rfl (fun t ht hW => ⟨rfl, ⟨Q14, hkR, by rw [ht]; exact hP⟩, hS.F ht⟩) hS.2.2 dL_isSo_856
        · exact absurd (nI_le (a := kw) (b := kw) (by omega) (by omega)) c_287
      · intro n2 ih2 H locs ls hz
        obtain ⟨k2, Q2, hkn2, hN, hkR, hP, hS, hl⟩ := hz
        refine lv_iload hx hb dL_isSo_282 (lv_at hl 0 rfl) ?_
        refine lv_aload_n hx hb dL_isSo_284 rfl (lv_at hl 9 rfl) ?_
        refine lv_iconst (v := 1) hx hb dL_isSo_285 (by decide) ?_
        refine q_ildN hx hb hK hP 83 6 (ar_83) 1 dL_isSo_286 rfl (by omega) (by decide) ?_
        refine q_top (y := (R 83 1)) (congrFun (hkR 83 (by decide) (by decide)) _) ?_
        refine q_top (y := (nI kw)) hW ?_
        refine lv_icmp_ge (tgt := 660) hx hb dL_isSo_287 (by decide) (fun c_287 => ?_) (fun c_287 => ?_)
        · exact absurd c_287 (nI_ge (a := k2) (b := kw) (by omega) (by omega))
        · refine lv_iload hx hb dL_isSo_290 (lv_at hl 1 rfl) ?_
          refine lv_if_eq (tgt := 660) hx hb dL_isSo_292 (by decide) (fun c_292 => ?_) (fun c_292 => ?_)
          · exact absurd c_292 (by decide)
          · refine lv_aload hx hb dL_isSo_295 (lv_at hl 14 rfl) ?_
            refine lv_iconst (v := 5) hx hb dL_isSo_297 (by decide) ?_
            refine lv_iload hx hb dL_isSo_298 (lv_at hl 0 rfl) ?_
            refine lv_imul hx hb dL_isSo_300 ?_
            refine q_top (y := (nI (5 * k2))) (pk_mul 5 k2) ?_
            refine lv_iconst (v := 1) hx hb dL_isSo_301 (by decide) ?_
            refine lv_iadd hx hb dL_isSo_302 ?_
            refine q_top (y := (nI ((5 * k2) + 1))) (nI_add (5 * k2) 1) ?_
            refine q_ildN hx hb hK hP 88 40 (ar_88) ((5 * k2) + 1) dL_isSo_303 rfl (by omega) (by decide) ?_
            refine q_top (y := (R 88 ((5 * k2) + 1))) (congrFun (hkR 88 (by decide) (by decide)) _) ?_
            refine lv_if_lt (tgt := 311) hx hb dL_isSo_304 (by decide) (fun c_304 => ?_) (fun c_304 => ?_)
            · refine lv_iconst (v := 0) hx hb dL_isSo_311 (by decide) ?_
              refine lv_istore (lv' := [(16, .int (0 : Int32)), (15, .int (nI k2)), (14, .int (1 : Int32)), (13, .int (sWr R k2)), (12, .int (sAb R k2)), (11, .int (sHe R k2)), (10, .int (sZe R 24)), (9, .int (sTa R 24)), (8, .int (sRd R kw 24)), (0, .ref (ad 0)), (1, .ref (ad 83)), (2, .ref (ad 84)), (3, .ref (ad 85)), (4, .ref (ad 86)), (5, .ref (ad 87)), (6, .ref (ad 88)), (7, .ref (ad 89))]) hx hb dL_isSo_312 hl (by decide) rfl (fun ls hl => ?_)
              refine lv_iload hx hb dL_isSo_314 (lv_at hl 4 rfl) ?_
              refine lv_iload hx hb dL_isSo_316 (lv_at hl 0 rfl) ?_
              refine lv_if_eq (tgt := 325) hx hb dL_isSo_318 (by decide) (fun c_318 => ?_) (fun c_318 => ?_)
              · refine lv_iconst (v := 0) hx hb dL_isSo_325 (by decide) ?_
                refine lv_iadd hx hb dL_isSo_326 ?_
                refine q_top (y := (sAb R (k2 + 1))) (sAb_off c_304) ?_
                refine lv_istore (lv' := [(12, .int (sAb R (k2 + 1))), (16, .int (0 : Int32)), (15, .int (nI k2)), (14, .int (1 : Int32)), (13, .int (sWr R k2)), (11, .int (sHe R k2)), (10, .int (sZe R 24)), (9, .int (sTa R 24)), (8, .int (sRd R kw 24)), (0, .ref (ad 0)), (1, .ref (ad 83)), (2, .ref (ad 84)), (3, .ref (ad 85)), (4, .ref (ad 86)), (5, .ref (ad 87)), (6, .ref (ad 88)), (7, .ref (ad 89))]) hx hb dL_isSo_327 hl (by decide) rfl (fun ls hl => ?_)
                refine lv_iload hx hb dL_isSo_329 (lv_at hl 4 rfl) ?_
                refine lv_aload hx hb dL_isSo_331 (lv_at hl 15 rfl) ?_
                refine lv_iconst (v := 5) hx hb dL_isSo_333 (by decide) ?_
                refine lv_iload hx hb dL_isSo_334 (lv_at hl 2 rfl) ?_
                refine lv_imul hx hb dL_isSo_336 ?_
                refine q_top (y := (nI (5 * k2))) (pk_mul 5 k2) ?_
                refine lv_iconst (v := 1) hx hb dL_isSo_337 (by decide) ?_
                refine lv_iadd hx hb dL_isSo_338 ?_
                refine q_top (y := (nI ((5 * k2) + 1))) (nI_add (5 * k2) 1) ?_
                refine q_ildN hx hb hK hP 88 40 (ar_88) ((5 * k2) + 1) dL_isSo_339 rfl (by omega) (by decide) ?_
                refine q_top (y := (R 88 ((5 * k2) + 1))) (congrFun (hkR 88 (by decide) (by decide)) _) ?_
                refine lv_aload hx hb dL_isSo_340 (lv_at hl 15 rfl) ?_
                refine lv_iconst (v := 5) hx hb dL_isSo_342 (by decide) ?_
                refine lv_iload hx hb dL_isSo_343 (lv_at hl 2 rfl) ?_
                refine lv_imul hx hb dL_isSo_345 ?_
                refine q_top (y := (nI (5 * k2))) (pk_mul 5 k2) ?_
                refine lv_iconst (v := 3) hx hb dL_isSo_346 (by decide) ?_
                refine lv_iadd hx hb dL_isSo_347 ?_
                refine q_top (y := (nI ((5 * k2) + 3))) (nI_add (5 * k2) 3) ?_
                refine q_ildN hx hb hK hP 88 40 (ar_88) ((5 * k2) + 3) dL_isSo_348 rfl (by omega) (by decide) ?_
                refine q_top (y := (R 88 ((5 * k2) + 3))) (congrFun (hkR 88 (by decide) (by decide)) _) ?_
                refine lv_icmp_eq (tgt := 356) hx hb dL_isSo_349 (by decide) (fun c_349 => ?_) (fun c_349 => ?_)
                · refine lv_iconst (v := 0) hx hb dL_isSo_356 (by decide) ?_
                  refine lv_iadd hx hb dL_isSo_357 ?_
                  refine q_top (y := (sWr R (k2 + 1))) (sWr_eq c_349) ?_
                  refine lv_istore (lv' := [(13, .int (sWr R (k2 + 1))), (12, .int (sAb R (k2 + 1))), (16, .int (0 : Int32)), (15, .int (nI k2)), (14, .int (1 : Int32)), (11, .int (sHe R k2)), (10, .int (sZe R 24)), (9, .int (sTa R 24)), (8, .int (sRd R kw 24)), (0, .ref (ad 0)), (1, .ref (ad 83)), (2, .ref (ad 84)), (3, .ref (ad 85)), (4, .ref (ad 86)), (5, .ref (ad 87)), (6, .ref (ad 88)), (7, .ref (ad 89))]) hx hb dL_isSo_358 hl (by decide) rfl (fun ls hl => ?_)
                  refine lv_iload hx hb dL_isSo_360 (lv_at hl 5 rfl) ?_
                  refine lv_iload hx hb dL_isSo_362 (lv_at hl 2 rfl) ?_
                  refine lv_if_eq (tgt := 377) hx hb dL_isSo_364 (by decide) (fun c_364 => ?_) (fun c_364 => ?_)
                  · refine lv_iconst (v := 0) hx hb dL_isSo_377 (by decide) ?_
                    refine lv_iadd hx hb dL_isSo_378 ?_
                    refine q_top (y := (sHe R (k2 + 1))) (sHe_off c_304) ?_
                    refine lv_istore (lv' := [(11, .int (sHe R (k2 + 1))), (13, .int (sWr R (k2 + 1))), (12, .int (sAb R (k2 + 1))), (16, .int (0 : Int32)), (15, .int (nI k2)), (14, .int (1 : Int32)), (10, .int (sZe R 24)), (9, .int (sTa R 24)), (8, .int (sRd R kw 24)), (0, .ref (ad 0)), (1, .ref (ad 83)), (2, .ref (ad 84)), (3, .ref (ad 85)), (4, .ref (ad 86)), (5, .ref (ad 87)), (6, .ref (ad 88)), (7, .ref (ad 89))]) hx hb dL_isSo_379 hl (by decide) rfl (fun ls hl => ?_)
                    refine lv_aload_n hx hb dL_isSo_381 rfl (lv_at hl 9 rfl) ?_
                    refine lv_iload hx hb dL_isSo_382 (lv_at hl 4 rfl) ?_
                    refine lv_iconst (v := 0) hx hb dL_isSo_384 (by decide) ?_
                    refine q_callS (va_runV (As := [.int (nI k2), .int (0 : Int32)]) (rest := []) ⟨hx, hb, hml, hown, hts⟩ (mX1_walker l D cI cS ad hI Q2 F (nI k2) (0 : Int32)) (cwV 2 hts gL_isSo_X1_walker rfl rfl rfl (by decide +kernel) ⟨Nat.le_of_ble_eq_true rfl, Nat.le_of_ble_eq_true rfl⟩) (PW_preV (i := 0) (by decide) CC_0 rfl rfl hK hP) rfl rfl hl.1 rfl (lv_room (Nat.le_of_ble_eq_true rfl)) dL_isSo_385 ⟨Nat.zero_le _, Nat.zero_le _⟩) ?_
                    refine q_top (y := (R 88 (5 * k2))) (lk_w0 hN (by omega)) ?_
                    refine lv_aload hx hb dL_isSo_388 (lv_at hl 15 rfl) ?_
                    refine lv_iconst (v := 5) hx hb dL_isSo_390 (by decide) ?_
                    refine lv_iload hx hb dL_isSo_391 (lv_at hl 4 rfl) ?_
                    refine lv_imul hx hb dL_isSo_393 ?_
                    refine q_top (y := (nI (5 * k2))) (pk_mul 5 k2) ?_
                    refine q_ildN hx hb hK hP 88 40 (ar_88) (5 * k2) dL_isSo_394 rfl (by omega) (by decide) ?_
                    refine q_top (y := (R 88 (5 * k2))) (congrFun (hkR 88 (by decide) (by decide)) _) ?_
                    refine lv_icmp_ne (tgt := 580) hx hb dL_isSo_395 (by decide) (fun c_395 => ?_) (fun c_395 => ?_)
                    · exact absurd rfl c_395
                    · refine lv_aload_n hx hb dL_isSo_398 rfl (lv_at hl 9 rfl) ?_
                      refine lv_iload hx hb dL_isSo_399 (lv_at hl 4 rfl) ?_
                      refine lv_iconst (v := 1) hx hb dL_isSo_401 (by decide) ?_
                      refine q_callS (va_runV (As := [.int (nI k2), .int (1 : Int32)]) (rest := []) ⟨hx, hb, hml, hown, hts⟩ (mX1_walker l D cI cS ad hI Q2 F (nI k2) (1 : Int32)) (cwV 2 hts gL_isSo_X1_walker rfl rfl rfl (by decide +kernel) ⟨Nat.le_of_ble_eq_true rfl, Nat.le_of_ble_eq_true rfl⟩) (PW_preV (i := 0) (by decide) CC_0 rfl rfl hK hP) rfl rfl hl.1 rfl (lv_room (Nat.le_of_ble_eq_true rfl)) dL_isSo_402 ⟨Nat.zero_le _, Nat.zero_le _⟩) ?_
                      refine q_top (y := (-100009 : Int32)) (lk_w1off hN (by omega) c_304) ?_
                      refine lv_iload hx hb dL_isSo_405 (lv_at hl 3 rfl) ?_
                      refine lv_if_eq (tgt := 422) hx hb dL_isSo_407 (by decide) (fun c_407 => ?_) (fun c_407 => ?_)
                      · refine lv_ldc (v := -100009) hx hb hown lk94 dL_isSo_422 ?_
                        refine lv_icmp_ne (tgt := 580) hx hb dL_isSo_424 (by decide) (fun c_424 => ?_) (fun c_424 => ?_)
                        · exact absurd (by decide) c_424
                        · refine lv_aload_n hx hb dL_isSo_427 rfl (lv_at hl 9 rfl) ?_
                          refine lv_iload hx hb dL_isSo_428 (lv_at hl 4 rfl) ?_
                          refine lv_iconst (v := 2) hx hb dL_isSo_430 (by decide) ?_
                          refine q_callS (va_runV (As := [.int (nI k2), .int (2 : Int32)]) (rest := []) ⟨hx, hb, hml, hown, hts⟩ (mX1_walker l D cI cS ad hI Q2 F (nI k2) (2 : Int32)) (cwV 2 hts gL_isSo_X1_walker rfl rfl rfl (by decide +kernel) ⟨Nat.le_of_ble_eq_true rfl, Nat.le_of_ble_eq_true rfl⟩) (PW_preV (i := 0) (by decide) CC_0 rfl rfl hK hP) rfl rfl hl.1 rfl (lv_room (Nat.le_of_ble_eq_true rfl)) dL_isSo_431 ⟨Nat.zero_le _, Nat.zero_le _⟩) ?_
                          refine q_top (y := (-100009 : Int32)) (lk_w2off hN (by omega) c_304) ?_
                          refine lv_iload hx hb dL_isSo_434 (lv_at hl 3 rfl) ?_
                          refine lv_if_eq (tgt := 451) hx hb dL_isSo_436 (by decide) (fun c_436 => ?_) (fun c_436 => ?_)
                          · refine lv_ldc (v := -100009) hx hb hown lk94 dL_isSo_451 ?_
                            refine lv_icmp_ne (tgt := 580) hx hb dL_isSo_453 (by decide) (fun c_453 => ?_) (fun c_453 => ?_)
                            · exact absurd c_424 c_453
                            · refine lv_aload_n hx hb dL_isSo_456 rfl (lv_at hl 9 rfl) ?_
                              refine lv_iload hx hb dL_isSo_457 (lv_at hl 4 rfl) ?_
                              refine lv_iconst (v := 3) hx hb dL_isSo_459 (by decide) ?_
                              refine q_callS (va_runV (As := [.int (nI k2), .int (3 : Int32)]) (rest := []) ⟨hx, hb, hml, hown, hts⟩ (mX1_walker l D cI cS ad hI Q2 F (nI k2) (3 : Int32)) (cwV 2 hts gL_isSo_X1_walker rfl rfl rfl (by decide +kernel) ⟨Nat.le_of_ble_eq_true rfl, Nat.le_of_ble_eq_true rfl⟩) (PW_preV (i := 0) (by decide) CC_0 rfl rfl hK hP) rfl rfl hl.1 rfl (lv_room (Nat.le_of_ble_eq_true rfl)) dL_isSo_460 ⟨Nat.zero_le _, Nat.zero_le _⟩) ?_
                              refine q_top (y := (-100009 : Int32)) (lk_w3off hN (by omega) c_304) ?_
                              refine lv_iload hx hb dL_isSo_463 (lv_at hl 3 rfl) ?_
                              refine lv_if_eq (tgt := 480) hx hb dL_isSo_465 (by decide) (fun c_465 => ?_) (fun c_465 => ?_)
                              · refine lv_ldc (v := -100009) hx hb hown lk94 dL_isSo_480 ?_
                                refine lv_icmp_ne (tgt := 580) hx hb dL_isSo_482 (by decide) (fun c_482 => ?_) (fun c_482 => ?_)
                                · exact absurd c_453 c_482
                                · refine lv_aload_n hx hb dL_isSo_485 rfl (lv_at hl 9 rfl) ?_
                                  refine lv_iload hx hb dL_isSo_486 (lv_at hl 4 rfl) ?_
                                  refine lv_iconst (v := 4) hx hb dL_isSo_488 (by decide) ?_
                                  refine q_callS (va_runV (As := [.int (nI k2), .int (4 : Int32)]) (rest := []) ⟨hx, hb, hml, hown, hts⟩ (mX1_walker l D cI cS ad hI Q2 F (nI k2) (4 : Int32)) (cwV 2 hts gL_isSo_X1_walker rfl rfl rfl (by decide +kernel) ⟨Nat.le_of_ble_eq_true rfl, Nat.le_of_ble_eq_true rfl⟩) (PW_preV (i := 0) (by decide) CC_0 rfl rfl hK hP) rfl rfl hl.1 rfl (lv_room (Nat.le_of_ble_eq_true rfl)) dL_isSo_489 ⟨Nat.zero_le _, Nat.zero_le _⟩) ?_
                                  refine q_top (y := (R 88 ((5 * k2) + 4))) (lk_w4 hN (by omega)) ?_
                                  refine lv_aload hx hb dL_isSo_492 (lv_at hl 15 rfl) ?_
                                  refine lv_iconst (v := 5) hx hb dL_isSo_494 (by decide) ?_
                                  refine lv_iload hx hb dL_isSo_495 (lv_at hl 4 rfl) ?_
                                  refine lv_imul hx hb dL_isSo_497 ?_
                                  refine q_top (y := (nI (5 * k2))) (pk_mul 5 k2) ?_
                                  refine lv_iconst (v := 4) hx hb dL_isSo_498 (by decide) ?_
                                  refine lv_iadd hx hb dL_isSo_499 ?_
                                  refine q_top (y := (nI ((5 * k2) + 4))) (nI_add (5 * k2) 4) ?_
                                  refine q_ildN hx hb hK hP 88 40 (ar_88) ((5 * k2) + 4) dL_isSo_500 rfl (by omega) (by decide) ?_
                                  refine q_top (y := (R 88 ((5 * k2) + 4))) (congrFun (hkR 88 (by decide) (by decide)) _) ?_
                                  refine lv_icmp_ne (tgt := 580) hx hb dL_isSo_501 (by decide) (fun c_501 => ?_) (fun c_501 => ?_)
                                  · exact absurd rfl c_501
                                  · refine lv_aload_n hx hb dL_isSo_504 rfl (lv_at hl 9 rfl) ?_
                                    refine lv_iload hx hb dL_isSo_505 (lv_at hl 4 rfl) ?_
                                    refine lv_iconst (v := 5) hx hb dL_isSo_507 (by decide) ?_
                                    refine q_callS (va_runV (As := [.int (nI k2), .int (5 : Int32)]) (rest := []) ⟨hx, hb, hml, hown, hts⟩ (mX1_walker l D cI cS ad hI Q2 F (nI k2) (5 : Int32)) (cwV 2 hts gL_isSo_X1_walker rfl rfl rfl (by decide +kernel) ⟨Nat.le_of_ble_eq_true rfl, Nat.le_of_ble_eq_true rfl⟩) (PW_preV (i := 0) (by decide) CC_0 rfl rfl hK hP) rfl rfl hl.1 rfl (lv_room (Nat.le_of_ble_eq_true rfl)) dL_isSo_508 ⟨Nat.zero_le _, Nat.zero_le _⟩) ?_
                                    refine q_top (y := (un (R 89 (5 * k2)))) (lk_w5 hN (by omega)) ?_
                                    refine lv_aload hx hb dL_isSo_511 (lv_at hl 16 rfl) ?_
                                    refine lv_iconst (v := 5) hx hb dL_isSo_513 (by decide) ?_
                                    refine lv_iload hx hb dL_isSo_514 (lv_at hl 4 rfl) ?_
                                    refine lv_imul hx hb dL_isSo_516 ?_
                                    refine q_top (y := (nI (5 * k2))) (pk_mul 5 k2) ?_
                                    refine q_ildN hx hb hK hP 89 40 (ar_89) (5 * k2) dL_isSo_517 rfl (by omega) (by decide) ?_
                                    refine q_top (y := (R 89 (5 * k2))) (congrFun (hkR 89 (by decide) (by decide)) _) ?_
                                    refine lv_if_ge (tgt := 526) hx hb dL_isSo_518 (by decide) (fun c_518 => ?_) (fun c_518 => ?_)
                                    · refine lv_aload hx hb dL_isSo_526 (lv_at hl 16 rfl) ?_
                                      refine lv_iconst (v := 5) hx hb dL_isSo_528 (by decide) ?_
                                      refine lv_iload hx hb dL_isSo_529 (lv_at hl 4 rfl) ?_
                                      refine lv_imul hx hb dL_isSo_531 ?_
                                      refine q_top (y := (nI (5 * k2))) (pk_mul 5 k2) ?_
                                      refine q_ildN hx hb hK hP 89 40 (ar_89) (5 * k2) dL_isSo_532 rfl (by omega) (by decide) ?_
                                      refine q_top (y := (R 89 (5 * k2))) (congrFun (hkR 89 (by decide) (by decide)) _) ?_
                                      refine lv_icmp_ne (tgt := 580) hx hb dL_isSo_533 (by decide) (fun c_533 => ?_) (fun c_533 => ?_)
                                      · exact absurd (un_ge c_518) c_533
                                      · refine lv_aload_n hx hb dL_isSo_536 rfl (lv_at hl 9 rfl) ?_
                                        refine lv_iload hx hb dL_isSo_537 (lv_at hl 4 rfl) ?_
                                        refine lv_bipush (v := 6) hx hb dL_isSo_539 (by decide) ?_
                                        refine q_callS (va_runV (As := [.int (nI k2), .int (6 : Int32)]) (rest := []) ⟨hx, hb, hml, hown, hts⟩ (mX1_walker l D cI cS ad hI Q2 F (nI k2) (6 : Int32)) (cwV 2 hts gL_isSo_X1_walker rfl rfl rfl (by decide +kernel) ⟨Nat.le_of_ble_eq_true rfl, Nat.le_of_ble_eq_true rfl⟩) (PW_preV (i := 0) (by decide) CC_0 rfl rfl hK hP) rfl rfl hl.1 rfl (lv_room (Nat.le_of_ble_eq_true rfl)) dL_isSo_541 ⟨Nat.zero_le _, Nat.zero_le _⟩) ?_
                                        refine q_top (y := (R 89 ((5 * k2) + 1))) (lk_w6 hN (by omega)) ?_
                                        refine lv_aload hx hb dL_isSo_544 (lv_at hl 16 rfl) ?_
                                        refine lv_iconst (v := 5) hx hb dL_isSo_546 (by decide) ?_
                                        refine lv_iload hx hb dL_isSo_547 (lv_at hl 4 rfl) ?_
                                        refine lv_imul hx hb dL_isSo_549 ?_
                                        refine q_top (y := (nI (5 * k2))) (pk_mul 5 k2) ?_
                                        refine lv_iconst (v := 1) hx hb dL_isSo_550 (by decide) ?_
                                        refine lv_iadd hx hb dL_isSo_551 ?_
                                        refine q_top (y := (nI ((5 * k2) + 1))) (nI_add (5 * k2) 1) ?_
                                        refine q_ildN hx hb hK hP 89 40 (ar_89) ((5 * k2) + 1) dL_isSo_552 rfl (by omega) (by decide) ?_
                                        refine q_top (y := (R 89 ((5 * k2) + 1))) (congrFun (hkR 89 (by decide) (by decide)) _) ?_
                                        refine lv_icmp_ne (tgt := 580) hx hb dL_isSo_553 (by decide) (fun c_553 => ?_) (fun c_553 => ?_)
                                        · exact absurd rfl c_553
                                        · refine lv_aload_n hx hb dL_isSo_556 rfl (lv_at hl 9 rfl) ?_
                                          refine lv_iload hx hb dL_isSo_557 (lv_at hl 4 rfl) ?_
                                          refine lv_bipush (v := 7) hx hb dL_isSo_559 (by decide) ?_
                                          refine q_callS (va_runV (As := [.int (nI k2), .int (7 : Int32)]) (rest := []) ⟨hx, hb, hml, hown, hts⟩ (mX1_walker l D cI cS ad hI Q2 F (nI k2) (7 : Int32)) (cwV 2 hts gL_isSo_X1_walker rfl rfl rfl (by decide +kernel) ⟨Nat.le_of_ble_eq_true rfl, Nat.le_of_ble_eq_true rfl⟩) (PW_preV (i := 0) (by decide) CC_0 rfl rfl hK hP) rfl rfl hl.1 rfl (lv_room (Nat.le_of_ble_eq_true rfl)) dL_isSo_561 ⟨Nat.zero_le _, Nat.zero_le _⟩) ?_
                                          refine q_top (y := (R 89 ((5 * k2) + 2))) (lk_w7 hN (by omega)) ?_
                                          refine lv_aload hx hb dL_isSo_564 (lv_at hl 16 rfl) ?_
                                          refine lv_iconst (v := 5) hx hb dL_isSo_566 (by decide) ?_
                                          refine lv_iload hx hb dL_isSo_567 (lv_at hl 4 rfl) ?_
                                          refine lv_imul hx hb dL_isSo_569 ?_
                                          refine q_top (y := (nI (5 * k2))) (pk_mul 5 k2) ?_
                                          refine lv_iconst (v := 2) hx hb dL_isSo_570 (by decide) ?_
                                          refine lv_iadd hx hb dL_isSo_571 ?_
                                          refine q_top (y := (nI ((5 * k2) + 2))) (nI_add (5 * k2) 2) ?_
                                          refine q_ildN hx hb hK hP 89 40 (ar_89) ((5 * k2) + 2) dL_isSo_572 rfl (by omega) (by decide) ?_
                                          refine q_top (y := (R 89 ((5 * k2) + 2))) (congrFun (hkR 89 (by decide) (by decide)) _) ?_
                                          refine lv_icmp_ne (tgt := 580) hx hb dL_isSo_573 (by decide) (fun c_573 => ?_) (fun c_573 => ?_)
                                          · exact absurd rfl c_573
                                          · refine lv_iconst (v := 1) hx hb dL_isSo_576 (by decide) ?_
                                            refine lv_goto (tgt := 581) hx hb dL_isSo_577 (by decide) ?_
                                            refine lv_istore (lv' := [(14, .int (1 : Int32)), (11, .int (sHe R (k2 + 1))), (13, .int (sWr R (k2 + 1))), (12, .int (sAb R (k2 + 1))), (16, .int (0 : Int32)), (15, .int (nI k2)), (10, .int (sZe R 24)), (9, .int (sTa R 24)), (8, .int (sRd R kw 24)), (0, .ref (ad 0)), (1, .ref (ad 83)), (2, .ref (ad 84)), (3, .ref (ad 85)), (4, .ref (ad 86)), (5, .ref (ad 87)), (6, .ref (ad 88)), (7, .ref (ad 89))]) hx hb dL_isSo_581 hl (by decide) rfl (fun ls hl => ?_)
                                            refine lv_iload hx hb dL_isSo_583 (lv_at hl 0 rfl) ?_
                                            refine lv_if_eq (tgt := 651) hx hb dL_isSo_585 (by decide) (fun c_585 => ?_) (fun c_585 => ?_)
                                            · exact absurd c_585 c_292
                                            · refine lv_aload_n hx hb dL_isSo_588 rfl (lv_at hl 9 rfl) ?_
                                              refine lv_iload hx hb dL_isSo_589 (lv_at hl 5 rfl) ?_
                                              refine q_callI (va_runV (As := [.int (nI k2)]) (rest := []) ⟨hx, hb, hml, hown, hts⟩ (mX1_estimate l D cI cS ad hI Q2 F (nI k2)) (cwV 1 hts gL_isSo_X1_estimate rfl rfl rfl (by decide +kernel) ⟨Nat.le_of_ble_eq_true rfl, Nat.le_of_ble_eq_true rfl⟩) (PW_preV (i := 0) (by decide) CC_0 rfl rfl hK hP) rfl rfl hl.1 rfl (lv_room (Nat.le_of_ble_eq_true rfl)) dL_isSo_591 ⟨Nat.zero_le _, Nat.zero_le _⟩) hS (fun H locs hP hS => ?_)
                                              refine q_top (y := (-100002 : Int32)) (lk_eoff hN (by omega) c_304) ?_
                                              have hq : ∀ i, i ≠ 15 → i ≠ 16 → (xX1_estimate Q2 F (nI k2)).2 i = Q2 i := fun i h1 h2 => estimate_kp h1 h2
                                              generalize (xX1_estimate Q2 F (nI k2)).2 = Q15 at hP hq
                                              have hN : NOW Q15 F R kw mi := NOW_rows hN (fun j h1 h2 => hq j (by omega) (by omega)) rfl (fun _ _ _ => rfl)
                                              have hkR : ∀ i, i ≠ 15 → i ≠ 16 → Q15 i = R i := fun i h1 h2 => (hq i h1 h2).trans (hkR i h1 h2)
                                              clear hq
                                              refine lv_iload hx hb dL_isSo_594 (lv_at hl 4 rfl) ?_
                                              refine lv_if_eq (tgt := 613) hx hb dL_isSo_596 (by decide) (fun c_596 => ?_) (fun c_596 => ?_)
                                              · refine lv_ldc (v := -100002) hx hb hown lk33 dL_isSo_613 ?_
                                                refine lv_icmp_ne (tgt := 651) hx hb dL_isSo_615 (by decide) (fun c_615 => ?_) (fun c_615 => ?_)
                                                · exact absurd (by decide) c_615
                                                · refine lv_aload_n hx hb dL_isSo_618 rfl (lv_at hl 9 rfl) ?_
                                                  refine lv_iload hx hb dL_isSo_619 (lv_at hl 5 rfl) ?_
                                                  refine q_callS (va_runV (As := [.int (nI k2)]) (rest := []) ⟨hx, hb, hml, hown, hts⟩ (mX1_certainty l D cI cS ad hI Q15 F (nI k2)) (cwV 1 hts gL_isSo_X1_certainty rfl rfl rfl (by decide +kernel) ⟨Nat.le_of_ble_eq_true rfl, Nat.le_of_ble_eq_true rfl⟩) (PW_preV (i := 0) (by decide) CC_0 rfl rfl hK hP) rfl rfl hl.1 rfl (lv_room (Nat.le_of_ble_eq_true rfl)) dL_isSo_621 ⟨Nat.zero_le _, Nat.zero_le _⟩) ?_
                                                  refine q_top (y := (-100002 : Int32)) (lk_coff hN (by omega) c_304) ?_
                                                  refine lv_iload hx hb dL_isSo_624 (lv_at hl 4 rfl) ?_
                                                  refine lv_if_eq (tgt := 642) hx hb dL_isSo_626 (by decide) (fun c_626 => ?_) (fun c_626 => ?_)
                                                  · refine lv_ldc (v := -100002) hx hb hown lk33 dL_isSo_642 ?_
                                                    refine lv_icmp_ne (tgt := 651) hx hb dL_isSo_644 (by decide) (fun c_644 => ?_) (fun c_644 => ?_)
                                                    · exact absurd c_615 c_644
                                                    · refine lv_iconst (v := 1) hx hb dL_isSo_647 (by decide) ?_
                                                      refine lv_goto (tgt := 652) hx hb dL_isSo_648 (by decide) ?_
                                                      refine lv_istore (lv' := [(14, .int (1 : Int32)), (11, .int (sHe R (k2 + 1))), (13, .int (sWr R (k2 + 1))), (12, .int (sAb R (k2 + 1))), (16, .int (0 : Int32)), (15, .int (nI k2)), (10, .int (sZe R 24)), (9, .int (sTa R 24)), (8, .int (sRd R kw 24)), (0, .ref (ad 0)), (1, .ref (ad 83)), (2, .ref (ad 84)), (3, .ref (ad 85)), (4, .ref (ad 86)), (5, .ref (ad 87)), (6, .ref (ad 88)), (7, .ref (ad 89))]) hx hb dL_isSo_652 hl (by decide) rfl (fun ls hl => ?_)
                                                      refine lv_iinc (v := (nI (k2 + 1))) (lv' := [(15, .int (nI (k2 + 1))), (14, .int (1 : Int32)), (11, .int (sHe R (k2 + 1))), (13, .int (sWr R (k2 + 1))), (12, .int (sAb R (k2 + 1))), (16, .int (0 : Int32)), (10, .int (sZe R 24)), (9, .int (sTa R 24)), (8, .int (sRd R kw 24)), (0, .ref (ad 0)), (1, .ref (ad 83)), (2, .ref (ad 84)), (3, .ref (ad 85)), (4, .ref (ad 86)), (5, .ref (ad 87)), (6, .ref (ad 88)), (7, .ref (ad 89))]) hx hb dL_isSo_654 hl (k := 5) rfl (nI_1 k2) (by decide) rfl (fun ls hl => ?_)
                                                      refine lv_goto (tgt := 282) hx hb dL_isSo_657 (by decide) ?_
                                                      exact ih2 _ _ _ ⟨(k2 + 1), Q15, by omega, hN, hkR, hP, hS, lv_sub hl [0, 1, 3, 4, 2, 6, 7, 8, 9, 10, 11, 12, 13, 14, 15, 16] rfl⟩
                                                  · exact absurd c_596 c_626
                                              · exact absurd c_465 c_596
                                    · refine lv_ldc (v := -100009) hx hb hown lk94 dL_isSo_521 ?_
                                      refine lv_goto (tgt := 533) hx hb dL_isSo_523 (by decide) ?_
                                      refine lv_icmp_ne (tgt := 580) hx hb dL_isSo_533 (by decide) (fun c_533 => ?_) (fun c_533 => ?_)
                                      · exact absurd (un_nge c_518) c_533
                                      · refine lv_aload_n hx hb dL_isSo_536 rfl (lv_at hl 9 rfl) ?_
                                        refine lv_iload hx hb dL_isSo_537 (lv_at hl 4 rfl) ?_
                                        refine lv_bipush (v := 6) hx hb dL_isSo_539 (by decide) ?_
                                        refine q_callS (va_runV (As := [.int (nI k2), .int (6 : Int32)]) (rest := []) ⟨hx, hb, hml, hown, hts⟩ (mX1_walker l D cI cS ad hI Q2 F (nI k2) (6 : Int32)) (cwV 2 hts gL_isSo_X1_walker rfl rfl rfl (by decide +kernel) ⟨Nat.le_of_ble_eq_true rfl, Nat.le_of_ble_eq_true rfl⟩) (PW_preV (i := 0) (by decide) CC_0 rfl rfl hK hP) rfl rfl hl.1 rfl (lv_room (Nat.le_of_ble_eq_true rfl)) dL_isSo_541 ⟨Nat.zero_le _, Nat.zero_le _⟩) ?_
                                        refine q_top (y := (R 89 ((5 * k2) + 1))) (lk_w6 hN (by omega)) ?_
                                        refine lv_aload hx hb dL_isSo_544 (lv_at hl 16 rfl) ?_
                                        refine lv_iconst (v := 5) hx hb dL_isSo_546 (by decide) ?_
                                        refine lv_iload hx hb dL_isSo_547 (lv_at hl 4 rfl) ?_
                                        refine lv_imul hx hb dL_isSo_549 ?_
                                        refine q_top (y := (nI (5 * k2))) (pk_mul 5 k2) ?_
                                        refine lv_iconst (v := 1) hx hb dL_isSo_550 (by decide) ?_
                                        refine lv_iadd hx hb dL_isSo_551 ?_
                                        refine q_top (y := (nI ((5 * k2) + 1))) (nI_add (5 * k2) 1) ?_
                                        refine q_ildN hx hb hK hP 89 40 (ar_89) ((5 * k2) + 1) dL_isSo_552 rfl (by omega) (by decide) ?_
                                        refine q_top (y := (R 89 ((5 * k2) + 1))) (congrFun (hkR 89 (by decide) (by decide)) _) ?_
                                        refine lv_icmp_ne (tgt := 580) hx hb dL_isSo_553 (by decide) (fun c_553 => ?_) (fun c_553 => ?_)
                                        · exact absurd rfl c_553
                                        · refine lv_aload_n hx hb dL_isSo_556 rfl (lv_at hl 9 rfl) ?_
                                          refine lv_iload hx hb dL_isSo_557 (lv_at hl 4 rfl) ?_
                                          refine lv_bipush (v := 7) hx hb dL_isSo_559 (by decide) ?_
                                          refine q_callS (va_runV (As := [.int (nI k2), .int (7 : Int32)]) (rest := []) ⟨hx, hb, hml, hown, hts⟩ (mX1_walker l D cI cS ad hI Q2 F (nI k2) (7 : Int32)) (cwV 2 hts gL_isSo_X1_walker rfl rfl rfl (by decide +kernel) ⟨Nat.le_of_ble_eq_true rfl, Nat.le_of_ble_eq_true rfl⟩) (PW_preV (i := 0) (by decide) CC_0 rfl rfl hK hP) rfl rfl hl.1 rfl (lv_room (Nat.le_of_ble_eq_true rfl)) dL_isSo_561 ⟨Nat.zero_le _, Nat.zero_le _⟩) ?_
                                          refine q_top (y := (R 89 ((5 * k2) + 2))) (lk_w7 hN (by omega)) ?_
                                          refine lv_aload hx hb dL_isSo_564 (lv_at hl 16 rfl) ?_
                                          refine lv_iconst (v := 5) hx hb dL_isSo_566 (by decide) ?_
                                          refine lv_iload hx hb dL_isSo_567 (lv_at hl 4 rfl) ?_
                                          refine lv_imul hx hb dL_isSo_569 ?_
                                          refine q_top (y := (nI (5 * k2))) (pk_mul 5 k2) ?_
                                          refine lv_iconst (v := 2) hx hb dL_isSo_570 (by decide) ?_
                                          refine lv_iadd hx hb dL_isSo_571 ?_
                                          refine q_top (y := (nI ((5 * k2) + 2))) (nI_add (5 * k2) 2) ?_
                                          refine q_ildN hx hb hK hP 89 40 (ar_89) ((5 * k2) + 2) dL_isSo_572 rfl (by omega) (by decide) ?_
                                          refine q_top (y := (R 89 ((5 * k2) + 2))) (congrFun (hkR 89 (by decide) (by decide)) _) ?_
                                          refine lv_icmp_ne (tgt := 580) hx hb dL_isSo_573 (by decide) (fun c_573 => ?_) (fun c_573 => ?_)
                                          · exact absurd rfl c_573
                                          · refine lv_iconst (v := 1) hx hb dL_isSo_576 (by decide) ?_
                                            refine lv_goto (tgt := 581) hx hb dL_isSo_577 (by decide) ?_
                                            refine lv_istore (lv' := [(14, .int (1 : Int32)), (11, .int (sHe R (k2 + 1))), (13, .int (sWr R (k2 + 1))), (12, .int (sAb R (k2 + 1))), (16, .int (0 : Int32)), (15, .int (nI k2)), (10, .int (sZe R 24)), (9, .int (sTa R 24)), (8, .int (sRd R kw 24)), (0, .ref (ad 0)), (1, .ref (ad 83)), (2, .ref (ad 84)), (3, .ref (ad 85)), (4, .ref (ad 86)), (5, .ref (ad 87)), (6, .ref (ad 88)), (7, .ref (ad 89))]) hx hb dL_isSo_581 hl (by decide) rfl (fun ls hl => ?_)
                                            refine lv_iload hx hb dL_isSo_583 (lv_at hl 0 rfl) ?_
                                            refine lv_if_eq (tgt := 651) hx hb dL_isSo_585 (by decide) (fun c_585 => ?_) (fun c_585 => ?_)
                                            · exact absurd c_585 c_292
                                            · refine lv_aload_n hx hb dL_isSo_588 rfl (lv_at hl 9 rfl) ?_
                                              refine lv_iload hx hb dL_isSo_589 (lv_at hl 5 rfl) ?_
                                              refine q_callI (va_runV (As := [.int (nI k2)]) (rest := []) ⟨hx, hb, hml, hown, hts⟩ (mX1_estimate l D cI cS ad hI Q2 F (nI k2)) (cwV 1 hts gL_isSo_X1_estimate rfl rfl rfl (by decide +kernel) ⟨Nat.le_of_ble_eq_true rfl, Nat.le_of_ble_eq_true rfl⟩) (PW_preV (i := 0) (by decide) CC_0 rfl rfl hK hP) rfl rfl hl.1 rfl (lv_room (Nat.le_of_ble_eq_true rfl)) dL_isSo_591 ⟨Nat.zero_le _, Nat.zero_le _⟩) hS (fun H locs hP hS => ?_)
                                              refine q_top (y := (-100002 : Int32)) (lk_eoff hN (by omega) c_304) ?_
                                              have hq : ∀ i, i ≠ 15 → i ≠ 16 → (xX1_estimate Q2 F (nI k2)).2 i = Q2 i := fun i h1 h2 => estimate_kp h1 h2
                                              generalize (xX1_estimate Q2 F (nI k2)).2 = Q16 at hP hq
                                              have hN : NOW Q16 F R kw mi := NOW_rows hN (fun j h1 h2 => hq j (by omega) (by omega)) rfl (fun _ _ _ => rfl)
                                              have hkR : ∀ i, i ≠ 15 → i ≠ 16 → Q16 i = R i := fun i h1 h2 => (hq i h1 h2).trans (hkR i h1 h2)
                                              clear hq
                                              refine lv_iload hx hb dL_isSo_594 (lv_at hl 4 rfl) ?_
                                              refine lv_if_eq (tgt := 613) hx hb dL_isSo_596 (by decide) (fun c_596 => ?_) (fun c_596 => ?_)
                                              · refine lv_ldc (v := -100002) hx hb hown lk33 dL_isSo_613 ?_
                                                refine lv_icmp_ne (tgt := 651) hx hb dL_isSo_615 (by decide) (fun c_615 => ?_) (fun c_615 => ?_)
                                                · exact absurd (by decide) c_615
                                                · refine lv_aload_n hx hb dL_isSo_618 rfl (lv_at hl 9 rfl) ?_
                                                  refine lv_iload hx hb dL_isSo_619 (lv_at hl 5 rfl) ?_
                                                  refine q_callS (va_runV (As := [.int (nI k2)]) (rest := []) ⟨hx, hb, hml, hown, hts⟩ (mX1_certainty l D cI cS ad hI Q16 F (nI k2)) (cwV 1 hts gL_isSo_X1_certainty rfl rfl rfl (by decide +kernel) ⟨Nat.le_of_ble_eq_true rfl, Nat.le_of_ble_eq_true rfl⟩) (PW_preV (i := 0) (by decide) CC_0 rfl rfl hK hP) rfl rfl hl.1 rfl (lv_room (Nat.le_of_ble_eq_true rfl)) dL_isSo_621 ⟨Nat.zero_le _, Nat.zero_le _⟩) ?_
                                                  refine q_top (y := (-100002 : Int32)) (lk_coff hN (by omega) c_304) ?_
                                                  refine lv_iload hx hb dL_isSo_624 (lv_at hl 4 rfl) ?_
                                                  refine lv_if_eq (tgt := 642) hx hb dL_isSo_626 (by decide) (fun c_626 => ?_) (fun c_626 => ?_)
                                                  · refine lv_ldc (v := -100002) hx hb hown lk33 dL_isSo_642 ?_
                                                    refine lv_icmp_ne (tgt := 651) hx hb dL_isSo_644 (by decide) (fun c_644 => ?_) (fun c_644 => ?_)
                                                    · exact absurd c_615 c_644
                                                    · refine lv_iconst (v := 1) hx hb dL_isSo_647 (by decide) ?_
                                                      refine lv_goto (tgt := 652) hx hb dL_isSo_648 (by decide) ?_
                                                      refine lv_istore (lv' := [(14, .int (1 : Int32)), (11, .int (sHe R (k2 + 1))), (13, .int (sWr R (k2 + 1))), (12, .int (sAb R (k2 + 1))), (16, .int (0 : Int32)), (15, .int (nI k2)), (10, .int (sZe R 24)), (9, .int (sTa R 24)), (8, .int (sRd R kw 24)), (0, .ref (ad 0)), (1, .ref (ad 83)), (2, .ref (ad 84)), (3, .ref (ad 85)), (4, .ref (ad 86)), (5, .ref (ad 87)), (6, .ref (ad 88)), (7, .ref (ad 89))]) hx hb dL_isSo_652 hl (by decide) rfl (fun ls hl => ?_)
                                                      refine lv_iinc (v := (nI (k2 + 1))) (lv' := [(15, .int (nI (k2 + 1))), (14, .int (1 : Int32)), (11, .int (sHe R (k2 + 1))), (13, .int (sWr R (k2 + 1))), (12, .int (sAb R (k2 + 1))), (16, .int (0 : Int32)), (10, .int (sZe R 24)), (9, .int (sTa R 24)), (8, .int (sRd R kw 24)), (0, .ref (ad 0)), (1, .ref (ad 83)), (2, .ref (ad 84)), (3, .ref (ad 85)), (4, .ref (ad 86)), (5, .ref (ad 87)), (6, .ref (ad 88)), (7, .ref (ad 89))]) hx hb dL_isSo_654 hl (k := 5) rfl (nI_1 k2) (by decide) rfl (fun ls hl => ?_)
                                                      refine lv_goto (tgt := 282) hx hb dL_isSo_657 (by decide) ?_
                                                      exact ih2 _ _ _ ⟨(k2 + 1), Q16, by omega, hN, hkR, hP, hS, lv_sub hl [0, 1, 3, 4, 2, 6, 7, 8, 9, 10, 11, 12, 13, 14, 15, 16] rfl⟩
                                                  · exact absurd c_596 c_626
                                              · exact absurd c_465 c_596
                              · exact absurd c_436 c_465
                          · exact absurd c_407 c_436
                      · exact absurd c_364 c_407
                  · exact absurd c_318 c_364
                · refine lv_iconst (v := 1) hx hb dL_isSo_352 (by decide) ?_
                  refine lv_goto (tgt := 357) hx hb dL_isSo_353 (by decide) ?_
                  refine lv_iadd hx hb dL_isSo_357 ?_
                  refine q_top (y := (sWr R (k2 + 1))) (sWr_ne c_349) ?_
                  refine lv_istore (lv' := [(13, .int (sWr R (k2 + 1))), (12, .int (sAb R (k2 + 1))), (16, .int (0 : Int32)), (15, .int (nI k2)), (14, .int (1 : Int32)), (11, .int (sHe R k2)), (10, .int (sZe R 24)), (9, .int (sTa R 24)), (8, .int (sRd R kw 24)), (0, .ref (ad 0)), (1, .ref (ad 83)), (2, .ref (ad 84)), (3, .ref (ad 85)), (4, .ref (ad 86)), (5, .ref (ad 87)), (6, .ref (ad 88)), (7, .ref (ad 89))]) hx hb dL_isSo_358 hl (by decide) rfl (fun ls hl => ?_)
                  refine lv_iload hx hb dL_isSo_360 (lv_at hl 5 rfl) ?_
                  refine lv_iload hx hb dL_isSo_362 (lv_at hl 2 rfl) ?_
                  refine lv_if_eq (tgt := 377) hx hb dL_isSo_364 (by decide) (fun c_364 => ?_) (fun c_364 => ?_)
                  · refine lv_iconst (v := 0) hx hb dL_isSo_377 (by decide) ?_
                    refine lv_iadd hx hb dL_isSo_378 ?_
                    refine q_top (y := (sHe R (k2 + 1))) (sHe_off c_304) ?_
                    refine lv_istore (lv' := [(11, .int (sHe R (k2 + 1))), (13, .int (sWr R (k2 + 1))), (12, .int (sAb R (k2 + 1))), (16, .int (0 : Int32)), (15, .int (nI k2)), (14, .int (1 : Int32)), (10, .int (sZe R 24)), (9, .int (sTa R 24)), (8, .int (sRd R kw 24)), (0, .ref (ad 0)), (1, .ref (ad 83)), (2, .ref (ad 84)), (3, .ref (ad 85)), (4, .ref (ad 86)), (5, .ref (ad 87)), (6, .ref (ad 88)), (7, .ref (ad 89))]) hx hb dL_isSo_379 hl (by decide) rfl (fun ls hl => ?_)
                    refine lv_aload_n hx hb dL_isSo_381 rfl (lv_at hl 9 rfl) ?_
                    refine lv_iload hx hb dL_isSo_382 (lv_at hl 4 rfl) ?_
                    refine lv_iconst (v := 0) hx hb dL_isSo_384 (by decide) ?_
                    refine q_callS (va_runV (As := [.int (nI k2), .int (0 : Int32)]) (rest := []) ⟨hx, hb, hml, hown, hts⟩ (mX1_walker l D cI cS ad hI Q2 F (nI k2) (0 : Int32)) (cwV 2 hts gL_isSo_X1_walker rfl rfl rfl (by decide +kernel) ⟨Nat.le_of_ble_eq_true rfl, Nat.le_of_ble_eq_true rfl⟩) (PW_preV (i := 0) (by decide) CC_0 rfl rfl hK hP) rfl rfl hl.1 rfl (lv_room (Nat.le_of_ble_eq_true rfl)) dL_isSo_385 ⟨Nat.zero_le _, Nat.zero_le _⟩) ?_
                    refine q_top (y := (R 88 (5 * k2))) (lk_w0 hN (by omega)) ?_
                    refine lv_aload hx hb dL_isSo_388 (lv_at hl 15 rfl) ?_
                    refine lv_iconst (v := 5) hx hb dL_isSo_390 (by decide) ?_
                    refine lv_iload hx hb dL_isSo_391 (lv_at hl 4 rfl) ?_
                    refine lv_imul hx hb dL_isSo_393 ?_
                    refine q_top (y := (nI (5 * k2))) (pk_mul 5 k2) ?_
                    refine q_ildN hx hb hK hP 88 40 (ar_88) (5 * k2) dL_isSo_394 rfl (by omega) (by decide) ?_
                    refine q_top (y := (R 88 (5 * k2))) (congrFun (hkR 88 (by decide) (by decide)) _) ?_
                    refine lv_icmp_ne (tgt := 580) hx hb dL_isSo_395 (by decide) (fun c_395 => ?_) (fun c_395 => ?_)
                    · exact absurd rfl c_395
                    · refine lv_aload_n hx hb dL_isSo_398 rfl (lv_at hl 9 rfl) ?_
                      refine lv_iload hx hb dL_isSo_399 (lv_at hl 4 rfl) ?_
                      refine lv_iconst (v := 1) hx hb dL_isSo_401 (by decide) ?_
                      refine q_callS (va_runV (As := [.int (nI k2), .int (1 : Int32)]) (rest := []) ⟨hx, hb, hml, hown, hts⟩ (mX1_walker l D cI cS ad hI Q2 F (nI k2) (1 : Int32)) (cwV 2 hts gL_isSo_X1_walker rfl rfl rfl (by decide +kernel) ⟨Nat.le_of_ble_eq_true rfl, Nat.le_of_ble_eq_true rfl⟩) (PW_preV (i := 0) (by decide) CC_0 rfl rfl hK hP) rfl rfl hl.1 rfl (lv_room (Nat.le_of_ble_eq_true rfl)) dL_isSo_402 ⟨Nat.zero_le _, Nat.zero_le _⟩) ?_
                      refine q_top (y := (-100009 : Int32)) (lk_w1off hN (by omega) c_304) ?_
                      refine lv_iload hx hb dL_isSo_405 (lv_at hl 3 rfl) ?_
                      refine lv_if_eq (tgt := 422) hx hb dL_isSo_407 (by decide) (fun c_407 => ?_) (fun c_407 => ?_)
                      · refine lv_ldc (v := -100009) hx hb hown lk94 dL_isSo_422 ?_
                        refine lv_icmp_ne (tgt := 580) hx hb dL_isSo_424 (by decide) (fun c_424 => ?_) (fun c_424 => ?_)
                        · exact absurd (by decide) c_424
                        · refine lv_aload_n hx hb dL_isSo_427 rfl (lv_at hl 9 rfl) ?_
                          refine lv_iload hx hb dL_isSo_428 (lv_at hl 4 rfl) ?_
                          refine lv_iconst (v := 2) hx hb dL_isSo_430 (by decide) ?_
                          refine q_callS (va_runV (As := [.int (nI k2), .int (2 : Int32)]) (rest := []) ⟨hx, hb, hml, hown, hts⟩ (mX1_walker l D cI cS ad hI Q2 F (nI k2) (2 : Int32)) (cwV 2 hts gL_isSo_X1_walker rfl rfl rfl (by decide +kernel) ⟨Nat.le_of_ble_eq_true rfl, Nat.le_of_ble_eq_true rfl⟩) (PW_preV (i := 0) (by decide) CC_0 rfl rfl hK hP) rfl rfl hl.1 rfl (lv_room (Nat.le_of_ble_eq_true rfl)) dL_isSo_431 ⟨Nat.zero_le _, Nat.zero_le _⟩) ?_
                          refine q_top (y := (-100009 : Int32)) (lk_w2off hN (by omega) c_304) ?_
                          refine lv_iload hx hb dL_isSo_434 (lv_at hl 3 rfl) ?_
                          refine lv_if_eq (tgt := 451) hx hb dL_isSo_436 (by decide) (fun c_436 => ?_) (fun c_436 => ?_)
                          · refine lv_ldc (v := -100009) hx hb hown lk94 dL_isSo_451 ?_
                            refine lv_icmp_ne (tgt := 580) hx hb dL_isSo_453 (by decide) (fun c_453 => ?_) (fun c_453 => ?_)
                            · exact absurd c_424 c_453
                            · refine lv_aload_n hx hb dL_isSo_456 rfl (lv_at hl 9 rfl) ?_
                              refine lv_iload hx hb dL_isSo_457 (lv_at hl 4 rfl) ?_
                              refine lv_iconst (v := 3) hx hb dL_isSo_459 (by decide) ?_
                              refine q_callS (va_runV (As := [.int (nI k2), .int (3 : Int32)]) (rest := []) ⟨hx, hb, hml, hown, hts⟩ (mX1_walker l D cI cS ad hI Q2 F (nI k2) (3 : Int32)) (cwV 2 hts gL_isSo_X1_walker rfl rfl rfl (by decide +kernel) ⟨Nat.le_of_ble_eq_true rfl, Nat.le_of_ble_eq_true rfl⟩) (PW_preV (i := 0) (by decide) CC_0 rfl rfl hK hP) rfl rfl hl.1 rfl (lv_room (Nat.le_of_ble_eq_true rfl)) dL_isSo_460 ⟨Nat.zero_le _, Nat.zero_le _⟩) ?_
                              refine q_top (y := (-100009 : Int32)) (lk_w3off hN (by omega) c_304) ?_
                              refine lv_iload hx hb dL_isSo_463 (lv_at hl 3 rfl) ?_
                              refine lv_if_eq (tgt := 480) hx hb dL_isSo_465 (by decide) (fun c_465 => ?_) (fun c_465 => ?_)
                              · refine lv_ldc (v := -100009) hx hb hown lk94 dL_isSo_480 ?_
                                refine lv_icmp_ne (tgt := 580) hx hb dL_isSo_482 (by decide) (fun c_482 => ?_) (fun c_482 => ?_)
                                · exact absurd c_453 c_482
                                · refine lv_aload_n hx hb dL_isSo_485 rfl (lv_at hl 9 rfl) ?_
                                  refine lv_iload hx hb dL_isSo_486 (lv_at hl 4 rfl) ?_
                                  refine lv_iconst (v := 4) hx hb dL_isSo_488 (by decide) ?_
                                  refine q_callS (va_runV (As := [.int (nI k2), .int (4 : Int32)]) (rest := []) ⟨hx, hb, hml, hown, hts⟩ (mX1_walker l D cI cS ad hI Q2 F (nI k2) (4 : Int32)) (cwV 2 hts gL_isSo_X1_walker rfl rfl rfl (by decide +kernel) ⟨Nat.le_of_ble_eq_true rfl, Nat.le_of_ble_eq_true rfl⟩) (PW_preV (i := 0) (by decide) CC_0 rfl rfl hK hP) rfl rfl hl.1 rfl (lv_room (Nat.le_of_ble_eq_true rfl)) dL_isSo_489 ⟨Nat.zero_le _, Nat.zero_le _⟩) ?_
                                  refine q_top (y := (R 88 ((5 * k2) + 4))) (lk_w4 hN (by omega)) ?_
                                  refine lv_aload hx hb dL_isSo_492 (lv_at hl 15 rfl) ?_
                                  refine lv_iconst (v := 5) hx hb dL_isSo_494 (by decide) ?_
                                  refine lv_iload hx hb dL_isSo_495 (lv_at hl 4 rfl) ?_
                                  refine lv_imul hx hb dL_isSo_497 ?_
                                  refine q_top (y := (nI (5 * k2))) (pk_mul 5 k2) ?_
                                  refine lv_iconst (v := 4) hx hb dL_isSo_498 (by decide) ?_
                                  refine lv_iadd hx hb dL_isSo_499 ?_
                                  refine q_top (y := (nI ((5 * k2) + 4))) (nI_add (5 * k2) 4) ?_
                                  refine q_ildN hx hb hK hP 88 40 (ar_88) ((5 * k2) + 4) dL_isSo_500 rfl (by omega) (by decide) ?_
                                  refine q_top (y := (R 88 ((5 * k2) + 4))) (congrFun (hkR 88 (by decide) (by decide)) _) ?_
                                  refine lv_icmp_ne (tgt := 580) hx hb dL_isSo_501 (by decide) (fun c_501 => ?_) (fun c_501 => ?_)
                                  · exact absurd rfl c_501
                                  · refine lv_aload_n hx hb dL_isSo_504 rfl (lv_at hl 9 rfl) ?_
                                    refine lv_iload hx hb dL_isSo_505 (lv_at hl 4 rfl) ?_
                                    refine lv_iconst (v := 5) hx hb dL_isSo_507 (by decide) ?_
                                    refine q_callS (va_runV (As := [.int (nI k2), .int (5 : Int32)]) (rest := []) ⟨hx, hb, hml, hown, hts⟩ (mX1_walker l D cI cS ad hI Q2 F (nI k2) (5 : Int32)) (cwV 2 hts gL_isSo_X1_walker rfl rfl rfl (by decide +kernel) ⟨Nat.le_of_ble_eq_true rfl, Nat.le_of_ble_eq_true rfl⟩) (PW_preV (i := 0) (by decide) CC_0 rfl rfl hK hP) rfl rfl hl.1 rfl (lv_room (Nat.le_of_ble_eq_true rfl)) dL_isSo_508 ⟨Nat.zero_le _, Nat.zero_le _⟩) ?_
                                    refine q_top (y := (un (R 89 (5 * k2)))) (lk_w5 hN (by omega)) ?_
                                    refine lv_aload hx hb dL_isSo_511 (lv_at hl 16 rfl) ?_
                                    refine lv_iconst (v := 5) hx hb dL_isSo_513 (by decide) ?_
                                    refine lv_iload hx hb dL_isSo_514 (lv_at hl 4 rfl) ?_
                                    refine lv_imul hx hb dL_isSo_516 ?_
                                    refine q_top (y := (nI (5 * k2))) (pk_mul 5 k2) ?_
                                    refine q_ildN hx hb hK hP 89 40 (ar_89) (5 * k2) dL_isSo_517 rfl (by omega) (by decide) ?_
                                    refine q_top (y := (R 89 (5 * k2))) (congrFun (hkR 89 (by decide) (by decide)) _) ?_
                                    refine lv_if_ge (tgt := 526) hx hb dL_isSo_518 (by decide) (fun c_518 => ?_) (fun c_518 => ?_)
                                    · refine lv_aload hx hb dL_isSo_526 (lv_at hl 16 rfl) ?_
                                      refine lv_iconst (v := 5) hx hb dL_isSo_528 (by decide) ?_
                                      refine lv_iload hx hb dL_isSo_529 (lv_at hl 4 rfl) ?_
                                      refine lv_imul hx hb dL_isSo_531 ?_
                                      refine q_top (y := (nI (5 * k2))) (pk_mul 5 k2) ?_
                                      refine q_ildN hx hb hK hP 89 40 (ar_89) (5 * k2) dL_isSo_532 rfl (by omega) (by decide) ?_
                                      refine q_top (y := (R 89 (5 * k2))) (congrFun (hkR 89 (by decide) (by decide)) _) ?_
                                      refine lv_icmp_ne (tgt := 580) hx hb dL_isSo_533 (by decide) (fun c_533 => ?_) (fun c_533 => ?_)
                                      · exact absurd (un_ge c_518) c_533
                                      · refine lv_aload_n hx hb dL_isSo_536 rfl (lv_at hl 9 rfl) ?_
                                        refine lv_iload hx hb dL_isSo_537 (lv_at hl 4 rfl) ?_
                                        refine lv_bipush (v := 6) hx hb dL_isSo_539 (by decide) ?_
                                        refine q_callS (va_runV (As := [.int (nI k2), .int (6 : Int32)]) (rest := []) ⟨hx, hb, hml, hown, hts⟩ (mX1_walker l D cI cS ad hI Q2 F (nI k2) (6 : Int32)) (cwV 2 hts gL_isSo_X1_walker rfl rfl rfl (by decide +kernel) ⟨Nat.le_of_ble_eq_true rfl, Nat.le_of_ble_eq_true rfl⟩) (PW_preV (i := 0) (by decide) CC_0 rfl rfl hK hP) rfl rfl hl.1 rfl (lv_room (Nat.le_of_ble_eq_true rfl)) dL_isSo_541 ⟨Nat.zero_le _, Nat.zero_le _⟩) ?_
                                        refine q_top (y := (R 89 ((5 * k2) + 1))) (lk_w6 hN (by omega)) ?_
                                        refine lv_aload hx hb dL_isSo_544 (lv_at hl 16 rfl) ?_
                                        refine lv_iconst (v := 5) hx hb dL_isSo_546 (by decide) ?_
                                        refine lv_iload hx hb dL_isSo_547 (lv_at hl 4 rfl) ?_
                                        refine lv_imul hx hb dL_isSo_549 ?_
                                        refine q_top (y := (nI (5 * k2))) (pk_mul 5 k2) ?_
                                        refine lv_iconst (v := 1) hx hb dL_isSo_550 (by decide) ?_
                                        refine lv_iadd hx hb dL_isSo_551 ?_
                                        refine q_top (y := (nI ((5 * k2) + 1))) (nI_add (5 * k2) 1) ?_
                                        refine q_ildN hx hb hK hP 89 40 (ar_89) ((5 * k2) + 1) dL_isSo_552 rfl (by omega) (by decide) ?_
                                        refine q_top (y := (R 89 ((5 * k2) + 1))) (congrFun (hkR 89 (by decide) (by decide)) _) ?_
                                        refine lv_icmp_ne (tgt := 580) hx hb dL_isSo_553 (by decide) (fun c_553 => ?_) (fun c_553 => ?_)
                                        · exact absurd rfl c_553
                                        · refine lv_aload_n hx hb dL_isSo_556 rfl (lv_at hl 9 rfl) ?_
                                          refine lv_iload hx hb dL_isSo_557 (lv_at hl 4 rfl) ?_
                                          refine lv_bipush (v := 7) hx hb dL_isSo_559 (by decide) ?_
                                          refine q_callS (va_runV (As := [.int (nI k2), .int (7 : Int32)]) (rest := []) ⟨hx, hb, hml, hown, hts⟩ (mX1_walker l D cI cS ad hI Q2 F (nI k2) (7 : Int32)) (cwV 2 hts gL_isSo_X1_walker rfl rfl rfl (by decide +kernel) ⟨Nat.le_of_ble_eq_true rfl, Nat.le_of_ble_eq_true rfl⟩) (PW_preV (i := 0) (by decide) CC_0 rfl rfl hK hP) rfl rfl hl.1 rfl (lv_room (Nat.le_of_ble_eq_true rfl)) dL_isSo_561 ⟨Nat.zero_le _, Nat.zero_le _⟩) ?_
                                          refine q_top (y := (R 89 ((5 * k2) + 2))) (lk_w7 hN (by omega)) ?_
                                          refine lv_aload hx hb dL_isSo_564 (lv_at hl 16 rfl) ?_
                                          refine lv_iconst (v := 5) hx hb dL_isSo_566 (by decide) ?_
                                          refine lv_iload hx hb dL_isSo_567 (lv_at hl 4 rfl) ?_
                                          refine lv_imul hx hb dL_isSo_569 ?_
                                          refine q_top (y := (nI (5 * k2))) (pk_mul 5 k2) ?_
                                          refine lv_iconst (v := 2) hx hb dL_isSo_570 (by decide) ?_
                                          refine lv_iadd hx hb dL_isSo_571 ?_
                                          refine q_top (y := (nI ((5 * k2) + 2))) (nI_add (5 * k2) 2) ?_
                                          refine q_ildN hx hb hK hP 89 40 (ar_89) ((5 * k2) + 2) dL_isSo_572 rfl (by omega) (by decide) ?_
                                          refine q_top (y := (R 89 ((5 * k2) + 2))) (congrFun (hkR 89 (by decide) (by decide)) _) ?_
                                          refine lv_icmp_ne (tgt := 580) hx hb dL_isSo_573 (by decide) (fun c_573 => ?_) (fun c_573 => ?_)
                                          · exact absurd rfl c_573
                                          · refine lv_iconst (v := 1) hx hb dL_isSo_576 (by decide) ?_
                                            refine lv_goto (tgt := 581) hx hb dL_isSo_577 (by decide) ?_
                                            refine lv_istore (lv' := [(14, .int (1 : Int32)), (11, .int (sHe R (k2 + 1))), (13, .int (sWr R (k2 + 1))), (12, .int (sAb R (k2 + 1))), (16, .int (0 : Int32)), (15, .int (nI k2)), (10, .int (sZe R 24)), (9, .int (sTa R 24)), (8, .int (sRd R kw 24)), (0, .ref (ad 0)), (1, .ref (ad 83)), (2, .ref (ad 84)), (3, .ref (ad 85)), (4, .ref (ad 86)), (5, .ref (ad 87)), (6, .ref (ad 88)), (7, .ref (ad 89))]) hx hb dL_isSo_581 hl (by decide) rfl (fun ls hl => ?_)
                                            refine lv_iload hx hb dL_isSo_583 (lv_at hl 0 rfl) ?_
                                            refine lv_if_eq (tgt := 651) hx hb dL_isSo_585 (by decide) (fun c_585 => ?_) (fun c_585 => ?_)
                                            · exact absurd c_585 c_292
                                            · refine lv_aload_n hx hb dL_isSo_588 rfl (lv_at hl 9 rfl) ?_
                                              refine lv_iload hx hb dL_isSo_589 (lv_at hl 5 rfl) ?_
                                              refine q_callI (va_runV (As := [.int (nI k2)]) (rest := []) ⟨hx, hb, hml, hown, hts⟩ (mX1_estimate l D cI cS ad hI Q2 F (nI k2)) (cwV 1 hts gL_isSo_X1_estimate rfl rfl rfl (by decide +kernel) ⟨Nat.le_of_ble_eq_true rfl, Nat.le_of_ble_eq_true rfl⟩) (PW_preV (i := 0) (by decide) CC_0 rfl rfl hK hP) rfl rfl hl.1 rfl (lv_room (Nat.le_of_ble_eq_true rfl)) dL_isSo_591 ⟨Nat.zero_le _, Nat.zero_le _⟩) hS (fun H locs hP hS => ?_)
                                              refine q_top (y := (-100002 : Int32)) (lk_eoff hN (by omega) c_304) ?_
                                              have hq : ∀ i, i ≠ 15 → i ≠ 16 → (xX1_estimate Q2 F (nI k2)).2 i = Q2 i := fun i h1 h2 => estimate_kp h1 h2
                                              generalize (xX1_estimate Q2 F (nI k2)).2 = Q17 at hP hq
                                              have hN : NOW Q17 F R kw mi := NOW_rows hN (fun j h1 h2 => hq j (by omega) (by omega)) rfl (fun _ _ _ => rfl)
                                              have hkR : ∀ i, i ≠ 15 → i ≠ 16 → Q17 i = R i := fun i h1 h2 => (hq i h1 h2).trans (hkR i h1 h2)
                                              clear hq
                                              refine lv_iload hx hb dL_isSo_594 (lv_at hl 4 rfl) ?_
                                              refine lv_if_eq (tgt := 613) hx hb dL_isSo_596 (by decide) (fun c_596 => ?_) (fun c_596 => ?_)
                                              · refine lv_ldc (v := -100002) hx hb hown lk33 dL_isSo_613 ?_
                                                refine lv_icmp_ne (tgt := 651) hx hb dL_isSo_615 (by decide) (fun c_615 => ?_) (fun c_615 => ?_)
                                                · exact absurd (by decide) c_615
                                                · refine lv_aload_n hx hb dL_isSo_618 rfl (lv_at hl 9 rfl) ?_
                                                  refine lv_iload hx hb dL_isSo_619 (lv_at hl 5 rfl) ?_
                                                  refine q_callS (va_runV (As := [.int (nI k2)]) (rest := []) ⟨hx, hb, hml, hown, hts⟩ (mX1_certainty l D cI cS ad hI Q17 F (nI k2)) (cwV 1 hts gL_isSo_X1_certainty rfl rfl rfl (by decide +kernel) ⟨Nat.le_of_ble_eq_true rfl, Nat.le_of_ble_eq_true rfl⟩) (PW_preV (i := 0) (by decide) CC_0 rfl rfl hK hP) rfl rfl hl.1 rfl (lv_room (Nat.le_of_ble_eq_true rfl)) dL_isSo_621 ⟨Nat.zero_le _, Nat.zero_le _⟩) ?_
                                                  refine q_top (y := (-100002 : Int32)) (lk_coff hN (by omega) c_304) ?_
                                                  refine lv_iload hx hb dL_isSo_624 (lv_at hl 4 rfl) ?_
                                                  refine lv_if_eq (tgt := 642) hx hb dL_isSo_626 (by decide) (fun c_626 => ?_) (fun c_626 => ?_)
                                                  · refine lv_ldc (v := -100002) hx hb hown lk33 dL_isSo_642 ?_
                                                    refine lv_icmp_ne (tgt := 651) hx hb dL_isSo_644 (by decide) (fun c_644 => ?_) (fun c_644 => ?_)
                                                    · exact absurd c_615 c_644
                                                    · refine lv_iconst (v := 1) hx hb dL_isSo_647 (by decide) ?_
                                                      refine lv_goto (tgt := 652) hx hb dL_isSo_648 (by decide) ?_
                                                      refine lv_istore (lv' := [(14, .int (1 : Int32)), (11, .int (sHe R (k2 + 1))), (13, .int (sWr R (k2 + 1))), (12, .int (sAb R (k2 + 1))), (16, .int (0 : Int32)), (15, .int (nI k2)), (10, .int (sZe R 24)), (9, .int (sTa R 24)), (8, .int (sRd R kw 24)), (0, .ref (ad 0)), (1, .ref (ad 83)), (2, .ref (ad 84)), (3, .ref (ad 85)), (4, .ref (ad 86)), (5, .ref (ad 87)), (6, .ref (ad 88)), (7, .ref (ad 89))]) hx hb dL_isSo_652 hl (by decide) rfl (fun ls hl => ?_)
                                                      refine lv_iinc (v := (nI (k2 + 1))) (lv' := [(15, .int (nI (k2 + 1))), (14, .int (1 : Int32)), (11, .int (sHe R (k2 + 1))), (13, .int (sWr R (k2 + 1))), (12, .int (sAb R (k2 + 1))), (16, .int (0 : Int32)), (10, .int (sZe R 24)), (9, .int (sTa R 24)), (8, .int (sRd R kw 24)), (0, .ref (ad 0)), (1, .ref (ad 83)), (2, .ref (ad 84)), (3, .ref (ad 85)), (4, .ref (ad 86)), (5, .ref (ad 87)), (6, .ref (ad 88)), (7, .ref (ad 89))]) hx hb dL_isSo_654 hl (k := 5) rfl (nI_1 k2) (by decide) rfl (fun ls hl => ?_)
                                                      refine lv_goto (tgt := 282) hx hb dL_isSo_657 (by decide) ?_
                                                      exact ih2 _ _ _ ⟨(k2 + 1), Q17, by omega, hN, hkR, hP, hS, lv_sub hl [0, 1, 3, 4, 2, 6, 7, 8, 9, 10, 11, 12, 13, 14, 15, 16] rfl⟩
                                                  · exact absurd c_596 c_626
                                              · exact absurd c_465 c_596
                                    · refine lv_ldc (v := -100009) hx hb hown lk94 dL_isSo_521 ?_
                                      refine lv_goto (tgt := 533) hx hb dL_isSo_523 (by decide) ?_
                                      refine lv_icmp_ne (tgt := 580) hx hb dL_isSo_533 (by decide) (fun c_533 => ?_) (fun c_533 => ?_)
                                      · exact absurd (un_nge c_518) c_533
                                      · refine lv_aload_n hx hb dL_isSo_536 rfl (lv_at hl 9 rfl) ?_
                                        refine lv_iload hx hb dL_isSo_537 (lv_at hl 4 rfl) ?_
                                        refine lv_bipush (v := 6) hx hb dL_isSo_539 (by decide) ?_
                                        refine q_callS (va_runV (As := [.int (nI k2), .int (6 : Int32)]) (rest := []) ⟨hx, hb, hml, hown, hts⟩ (mX1_walker l D cI cS ad hI Q2 F (nI k2) (6 : Int32)) (cwV 2 hts gL_isSo_X1_walker rfl rfl rfl (by decide +kernel) ⟨Nat.le_of_ble_eq_true rfl, Nat.le_of_ble_eq_true rfl⟩) (PW_preV (i := 0) (by decide) CC_0 rfl rfl hK hP) rfl rfl hl.1 rfl (lv_room (Nat.le_of_ble_eq_true rfl)) dL_isSo_541 ⟨Nat.zero_le _, Nat.zero_le _⟩) ?_
                                        refine q_top (y := (R 89 ((5 * k2) + 1))) (lk_w6 hN (by omega)) ?_
                                        refine lv_aload hx hb dL_isSo_544 (lv_at hl 16 rfl) ?_
                                        refine lv_iconst (v := 5) hx hb dL_isSo_546 (by decide) ?_
                                        refine lv_iload hx hb dL_isSo_547 (lv_at hl 4 rfl) ?_
                                        refine lv_imul hx hb dL_isSo_549 ?_
                                        refine q_top (y := (nI (5 * k2))) (pk_mul 5 k2) ?_
                                        refine lv_iconst (v := 1) hx hb dL_isSo_550 (by decide) ?_
                                        refine lv_iadd hx hb dL_isSo_551 ?_
                                        refine q_top (y := (nI ((5 * k2) + 1))) (nI_add (5 * k2) 1) ?_
                                        refine q_ildN hx hb hK hP 89 40 (ar_89) ((5 * k2) + 1) dL_isSo_552 rfl (by omega) (by decide) ?_
                                        refine q_top (y := (R 89 ((5 * k2) + 1))) (congrFun (hkR 89 (by decide) (by decide)) _) ?_
                                        refine lv_icmp_ne (tgt := 580) hx hb dL_isSo_553 (by decide) (fun c_553 => ?_) (fun c_553 => ?_)
                                        · exact absurd rfl c_553
                                        · refine lv_aload_n hx hb dL_isSo_556 rfl (lv_at hl 9 rfl) ?_
                                          refine lv_iload hx hb dL_isSo_557 (lv_at hl 4 rfl) ?_
                                          refine lv_bipush (v := 7) hx hb dL_isSo_559 (by decide) ?_
                                          refine q_callS (va_runV (As := [.int (nI k2), .int (7 : Int32)]) (rest := []) ⟨hx, hb, hml, hown, hts⟩ (mX1_walker l D cI cS ad hI Q2 F (nI k2) (7 : Int32)) (cwV 2 hts gL_isSo_X1_walker rfl rfl rfl (by decide +kernel) ⟨Nat.le_of_ble_eq_true rfl, Nat.le_of_ble_eq_true rfl⟩) (PW_preV (i := 0) (by decide) CC_0 rfl rfl hK hP) rfl rfl hl.1 rfl (lv_room (Nat.le_of_ble_eq_true rfl)) dL_isSo_561 ⟨Nat.zero_le _, Nat.zero_le _⟩) ?_
                                          refine q_top (y := (R 89 ((5 * k2) + 2))) (lk_w7 hN (by omega)) ?_
                                          refine lv_aload hx hb dL_isSo_564 (lv_at hl 16 rfl) ?_
                                          refine lv_iconst (v := 5) hx hb dL_isSo_566 (by decide) ?_
                                          refine lv_iload hx hb dL_isSo_567 (lv_at hl 4 rfl) ?_
                                          refine lv_imul hx hb dL_isSo_569 ?_
                                          refine q_top (y := (nI (5 * k2))) (pk_mul 5 k2) ?_
                                          refine lv_iconst (v := 2) hx hb dL_isSo_570 (by decide) ?_
                                          refine lv_iadd hx hb dL_isSo_571 ?_
                                          refine q_top (y := (nI ((5 * k2) + 2))) (nI_add (5 * k2) 2) ?_
                                          refine q_ildN hx hb hK hP 89 40 (ar_89) ((5 * k2) + 2) dL_isSo_572 rfl (by omega) (by decide) ?_
                                          refine q_top (y := (R 89 ((5 * k2) + 2))) (congrFun (hkR 89 (by decide) (by decide)) _) ?_
                                          refine lv_icmp_ne (tgt := 580) hx hb dL_isSo_573 (by decide) (fun c_573 => ?_) (fun c_573 => ?_)
                                          · exact absurd rfl c_573
                                          · refine lv_iconst (v := 1) hx hb dL_isSo_576 (by decide) ?_
                                            refine lv_goto (tgt := 581) hx hb dL_isSo_577 (by decide) ?_
                                            refine lv_istore (lv' := [(14, .int (1 : Int32)), (11, .int (sHe R (k2 + 1))), (13, .int (sWr R (k2 + 1))), (12, .int (sAb R (k2 + 1))), (16, .int (0 : Int32)), (15, .int (nI k2)), (10, .int (sZe R 24)), (9, .int (sTa R 24)), (8, .int (sRd R kw 24)), (0, .ref (ad 0)), (1, .ref (ad 83)), (2, .ref (ad 84)), (3, .ref (ad 85)), (4, .ref (ad 86)), (5, .ref (ad 87)), (6, .ref (ad 88)), (7, .ref (ad 89))]) hx hb dL_isSo_581 hl (by decide) rfl (fun ls hl => ?_)
                                            refine lv_iload hx hb dL_isSo_583 (lv_at hl 0 rfl) ?_
                                            refine lv_if_eq (tgt := 651) hx hb dL_isSo_585 (by decide) (fun c_585 => ?_) (fun c_585 => ?_)
                                            · exact absurd c_585 c_292
                                            · refine lv_aload_n hx hb dL_isSo_588 rfl (lv_at hl 9 rfl) ?_
                                              refine lv_iload hx hb dL_isSo_589 (lv_at hl 5 rfl) ?_
                                              refine q_callI (va_runV (As := [.int (nI k2)]) (rest := []) ⟨hx, hb, hml, hown, hts⟩ (mX1_estimate l D cI cS ad hI Q2 F (nI k2)) (cwV 1 hts gL_isSo_X1_estimate rfl rfl rfl (by decide +kernel) ⟨Nat.le_of_ble_eq_true rfl, Nat.le_of_ble_eq_true rfl⟩) (PW_preV (i := 0) (by decide) CC_0 rfl rfl hK hP) rfl rfl hl.1 rfl (lv_room (Nat.le_of_ble_eq_true rfl)) dL_isSo_591 ⟨Nat.zero_le _, Nat.zero_le _⟩) hS (fun H locs hP hS => ?_)
                                              refine q_top (y := (-100002 : Int32)) (lk_eoff hN (by omega) c_304) ?_
                                              have hq : ∀ i, i ≠ 15 → i ≠ 16 → (xX1_estimate Q2 F (nI k2)).2 i = Q2 i := fun i h1 h2 => estimate_kp h1 h2
                                              generalize (xX1_estimate Q2 F (nI k2)).2 = Q18 at hP hq
                                              have hN : NOW Q18 F R kw mi := NOW_rows hN (fun j h1 h2 => hq j (by omega) (by omega)) rfl (fun _ _ _ => rfl)
                                              have hkR : ∀ i, i ≠ 15 → i ≠ 16 → Q18 i = R i := fun i h1 h2 => (hq i h1 h2).trans (hkR i h1 h2)
                                              clear hq
                                              refine lv_iload hx hb dL_isSo_594 (lv_at hl 4 rfl) ?_
                                              refine lv_if_eq (tgt := 613) hx hb dL_isSo_596 (by decide) (fun c_596 => ?_) (fun c_596 => ?_)
                                              · refine lv_ldc (v := -100002) hx hb hown lk33 dL_isSo_613 ?_
                                                refine lv_icmp_ne (tgt := 651) hx hb dL_isSo_615 (by decide) (fun c_615 => ?_) (fun c_615 => ?_)
                                                · exact absurd (by decide) c_615
                                                · refine lv_aload_n hx hb dL_isSo_618 rfl (lv_at hl 9 rfl) ?_
                                                  refine lv_iload hx hb dL_isSo_619 (lv_at hl 5 rfl) ?_
                                                  refine q_callS (va_runV (As := [.int (nI k2)]) (rest := []) ⟨hx, hb, hml, hown, hts⟩ (mX1_certainty l D cI cS ad hI Q18 F (nI k2)) (cwV 1 hts gL_isSo_X1_certainty rfl rfl rfl (by decide +kernel) ⟨Nat.le_of_ble_eq_true rfl, Nat.le_of_ble_eq_true rfl⟩) (PW_preV (i := 0) (by decide) CC_0 rfl rfl hK hP) rfl rfl hl.1 rfl (lv_room (Nat.le_of_ble_eq_true rfl)) dL_isSo_621 ⟨Nat.zero_le _, Nat.zero_le _⟩) ?_
                                                  refine q_top (y := (-100002 : Int32)) (lk_coff hN (by omega) c_304) ?_
                                                  refine lv_iload hx hb dL_isSo_624 (lv_at hl 4 rfl) ?_
                                                  refine lv_if_eq (tgt := 642) hx hb dL_isSo_626 (by decide) (fun c_626 => ?_) (fun c_626 => ?_)
                                                  · refine lv_ldc (v := -100002) hx hb hown lk33 dL_isSo_642 ?_
                                                    refine lv_icmp_ne (tgt := 651) hx hb dL_isSo_644 (by decide) (fun c_644 => ?_) (fun c_644 => ?_)
                                                    · exact absurd c_615 c_644
                                                    · refine lv_iconst (v := 1) hx hb dL_isSo_647 (by decide) ?_
                                                      refine lv_goto (tgt := 652) hx hb dL_isSo_648 (by decide) ?_
                                                      refine lv_istore (lv' := [(14, .int (1 : Int32)), (11, .int (sHe R (k2 + 1))), (13, .int (sWr R (k2 + 1))), (12, .int (sAb R (k2 + 1))), (16, .int (0 : Int32)), (15, .int (nI k2)), (10, .int (sZe R 24)), (9, .int (sTa R 24)), (8, .int (sRd R kw 24)), (0, .ref (ad 0)), (1, .ref (ad 83)), (2, .ref (ad 84)), (3, .ref (ad 85)), (4, .ref (ad 86)), (5, .ref (ad 87)), (6, .ref (ad 88)), (7, .ref (ad 89))]) hx hb dL_isSo_652 hl (by decide) rfl (fun ls hl => ?_)
                                                      refine lv_iinc (v := (nI (k2 + 1))) (lv' := [(15, .int (nI (k2 + 1))), (14, .int (1 : Int32)), (11, .int (sHe R (k2 + 1))), (13, .int (sWr R (k2 + 1))), (12, .int (sAb R (k2 + 1))), (16, .int (0 : Int32)), (10, .int (sZe R 24)), (9, .int (sTa R 24)), (8, .int (sRd R kw 24)), (0, .ref (ad 0)), (1, .ref (ad 83)), (2, .ref (ad 84)), (3, .ref (ad 85)), (4, .ref (ad 86)), (5, .ref (ad 87)), (6, .ref (ad 88)), (7, .ref (ad 89))]) hx hb dL_isSo_654 hl (k := 5) rfl (nI_1 k2) (by decide) rfl (fun ls hl => ?_)
                                                      refine lv_goto (tgt := 282) hx hb dL_isSo_657 (by decide) ?_
                                                      exact ih2 _ _ _ ⟨(k2 + 1), Q18, by omega, hN, hkR, hP, hS, lv_sub hl [0, 1, 3, 4, 2, 6, 7, 8, 9, 10, 11, 12, 13, 14, 15, 16] rfl⟩
                                                  · exact absurd c_596 c_626
                                              · exact absurd c_465 c_596
                              · exact absurd c_436 c_465
                          · exact absurd c_407 c_436
                      · exact absurd c_364 c_407
                  · exact absurd c_318 c_364
              · exact absurd rfl c_318
            · refine lv_iconst (v := 1) hx hb dL_isSo_307 (by decide) ?_
              refine lv_goto (tgt := 312) hx hb dL_isSo_308 (by decide) ?_
              refine lv_istore (lv' := [(16, .int (1 : Int32)), (15, .int (nI k2)), (14, .int (1 : Int32)), (13, .int (sWr R k2)), (12, .int (sAb R k2)), (11, .int (sHe R k2)), (10, .int (sZe R 24)), (9, .int (sTa R 24)), (8, .int (sRd R kw 24)), (0, .ref (ad 0)), (1, .ref (ad 83)), (2, .ref (ad 84)), (3, .ref (ad 85)), (4, .ref (ad 86)), (5, .ref (ad 87)), (6, .ref (ad 88)), (7, .ref (ad 89))]) hx hb dL_isSo_312 hl (by decide) rfl (fun ls hl => ?_)
              refine lv_iload hx hb dL_isSo_314 (lv_at hl 4 rfl) ?_
              refine lv_iload hx hb dL_isSo_316 (lv_at hl 0 rfl) ?_
              refine lv_if_eq (tgt := 325) hx hb dL_isSo_318 (by decide) (fun c_318 => ?_) (fun c_318 => ?_)
              · exact absurd c_318 c_292
              · refine lv_iconst (v := 1) hx hb dL_isSo_321 (by decide) ?_
                refine lv_goto (tgt := 326) hx hb dL_isSo_322 (by decide) ?_
                refine lv_iadd hx hb dL_isSo_326 ?_
                refine q_top (y := (sAb R (k2 + 1))) (sAb_on c_304) ?_
                refine lv_istore (lv' := [(12, .int (sAb R (k2 + 1))), (16, .int (1 : Int32)), (15, .int (nI k2)), (14, .int (1 : Int32)), (13, .int (sWr R k2)), (11, .int (sHe R k2)), (10, .int (sZe R 24)), (9, .int (sTa R 24)), (8, .int (sRd R kw 24)), (0, .ref (ad 0)), (1, .ref (ad 83)), (2, .ref (ad 84)), (3, .ref (ad 85)), (4, .ref (ad 86)), (5, .ref (ad 87)), (6, .ref (ad 88)), (7, .ref (ad 89))]) hx hb dL_isSo_327 hl (by decide) rfl (fun ls hl => ?_)
                refine lv_iload hx hb dL_isSo_329 (lv_at hl 4 rfl) ?_
                refine lv_aload hx hb dL_isSo_331 (lv_at hl 15 rfl) ?_
                refine lv_iconst (v := 5) hx hb dL_isSo_333 (by decide) ?_
                refine lv_iload hx hb dL_isSo_334 (lv_at hl 2 rfl) ?_
                refine lv_imul hx hb dL_isSo_336 ?_
                refine q_top (y := (nI (5 * k2))) (pk_mul 5 k2) ?_
                refine lv_iconst (v := 1) hx hb dL_isSo_337 (by decide) ?_
                refine lv_iadd hx hb dL_isSo_338 ?_
                refine q_top (y := (nI ((5 * k2) + 1))) (nI_add (5 * k2) 1) ?_
                refine q_ildN hx hb hK hP 88 40 (ar_88) ((5 * k2) + 1) dL_isSo_339 rfl (by omega) (by decide) ?_
                refine q_top (y := (R 88 ((5 * k2) + 1))) (congrFun (hkR 88 (by decide) (by decide)) _) ?_
                refine lv_aload hx hb dL_isSo_340 (lv_at hl 15 rfl) ?_
                refine lv_iconst (v := 5) hx hb dL_isSo_342 (by decide) ?_
                refine lv_iload hx hb dL_isSo_343 (lv_at hl 2 rfl) ?_
                refine lv_imul hx hb dL_isSo_345 ?_
                refine q_top (y := (nI (5 * k2))) (pk_mul 5 k2) ?_
                refine lv_iconst (v := 3) hx hb dL_isSo_346 (by decide) ?_
                refine lv_iadd hx hb dL_isSo_347 ?_
                refine q_top (y := (nI ((5 * k2) + 3))) (nI_add (5 * k2) 3) ?_
                refine q_ildN hx hb hK hP 88 40 (ar_88) ((5 * k2) + 3) dL_isSo_348 rfl (by omega) (by decide) ?_
                refine q_top (y := (R 88 ((5 * k2) + 3))) (congrFun (hkR 88 (by decide) (by decide)) _) ?_
                refine lv_icmp_eq (tgt := 356) hx hb dL_isSo_349 (by decide) (fun c_349 => ?_) (fun c_349 => ?_)
                · refine lv_iconst (v := 0) hx hb dL_isSo_356 (by decide) ?_
                  refine lv_iadd hx hb dL_isSo_357 ?_
                  refine q_top (y := (sWr R (k2 + 1))) (sWr_eq c_349) ?_
                  refine lv_istore (lv' := [(13, .int (sWr R (k2 + 1))), (12, .int (sAb R (k2 + 1))), (16, .int (1 : Int32)), (15, .int (nI k2)), (14, .int (1 : Int32)), (11, .int (sHe R k2)), (10, .int (sZe R 24)), (9, .int (sTa R 24)), (8, .int (sRd R kw 24)), (0, .ref (ad 0)), (1, .ref (ad 83)), (2, .ref (ad 84)), (3, .ref (ad 85)), (4, .ref (ad 86)), (5, .ref (ad 87)), (6, .ref (ad 88)), (7, .ref (ad 89))]) hx hb dL_isSo_358 hl (by decide) rfl (fun ls hl => ?_)
                  refine lv_iload hx hb dL_isSo_360 (lv_at hl 5 rfl) ?_
                  refine lv_iload hx hb dL_isSo_362 (lv_at hl 2 rfl) ?_
                  refine lv_if_eq (tgt := 377) hx hb dL_isSo_364 (by decide) (fun c_364 => ?_) (fun c_364 => ?_)
                  · exact absurd c_364 c_318
                  · refine lv_aload hx hb dL_isSo_367 (lv_at hl 15 rfl) ?_
                    refine lv_iconst (v := 5) hx hb dL_isSo_369 (by decide) ?_
                    refine lv_iload hx hb dL_isSo_370 (lv_at hl 3 rfl) ?_
                    refine lv_imul hx hb dL_isSo_372 ?_
                    refine q_top (y := (nI (5 * k2))) (pk_mul 5 k2) ?_
                    refine q_ildN hx hb hK hP 88 40 (ar_88) (5 * k2) dL_isSo_373 rfl (by omega) (by decide) ?_
                    refine q_top (y := (R 88 (5 * k2))) (congrFun (hkR 88 (by decide) (by decide)) _) ?_
                    refine lv_goto (tgt := 378) hx hb dL_isSo_374 (by decide) ?_
                    refine lv_iadd hx hb dL_isSo_378 ?_
                    refine q_top (y := (sHe R (k2 + 1))) (sHe_on c_304) ?_
                    refine lv_istore (lv' := [(11, .int (sHe R (k2 + 1))), (13, .int (sWr R (k2 + 1))), (12, .int (sAb R (k2 + 1))), (16, .int (1 : Int32)), (15, .int (nI k2)), (14, .int (1 : Int32)), (10, .int (sZe R 24)), (9, .int (sTa R 24)), (8, .int (sRd R kw 24)), (0, .ref (ad 0)), (1, .ref (ad 83)), (2, .ref (ad 84)), (3, .ref (ad 85)), (4, .ref (ad 86)), (5, .ref (ad 87)), (6, .ref (ad 88)), (7, .ref (ad 89))]) hx hb dL_isSo_379 hl (by decide) rfl (fun ls hl => ?_)
                    refine lv_aload_n hx hb dL_isSo_381 rfl (lv_at hl 9 rfl) ?_
                    refine lv_iload hx hb dL_isSo_382 (lv_at hl 4 rfl) ?_
                    refine lv_iconst (v := 0) hx hb dL_isSo_384 (by decide) ?_
                    refine q_callS (va_runV (As := [.int (nI k2), .int (0 : Int32)]) (rest := []) ⟨hx, hb, hml, hown, hts⟩ (mX1_walker l D cI cS ad hI Q2 F (nI k2) (0 : Int32)) (cwV 2 hts gL_isSo_X1_walker rfl rfl rfl (by decide +kernel) ⟨Nat.le_of_ble_eq_true rfl, Nat.le_of_ble_eq_true rfl⟩) (PW_preV (i := 0) (by decide) CC_0 rfl rfl hK hP) rfl rfl hl.1 rfl (lv_room (Nat.le_of_ble_eq_true rfl)) dL_isSo_385 ⟨Nat.zero_le _, Nat.zero_le _⟩) ?_
                    refine q_top (y := (R 88 (5 * k2))) (lk_w0 hN (by omega)) ?_
                    refine lv_aload hx hb dL_isSo_388 (lv_at hl 15 rfl) ?_
                    refine lv_iconst (v := 5) hx hb dL_isSo_390 (by decide) ?_
                    refine lv_iload hx hb dL_isSo_391 (lv_at hl 4 rfl) ?_
                    refine lv_imul hx hb dL_isSo_393 ?_
                    refine q_top (y := (nI (5 * k2))) (pk_mul 5 k2) ?_
                    refine q_ildN hx hb hK hP 88 40 (ar_88) (5 * k2) dL_isSo_394 rfl (by omega) (by decide) ?_
                    refine q_top (y := (R 88 (5 * k2))) (congrFun (hkR 88 (by decide) (by decide)) _) ?_
                    refine lv_icmp_ne (tgt := 580) hx hb dL_isSo_395 (by decide) (fun c_395 => ?_) (fun c_395 => ?_)
                    · exact absurd rfl c_395
                    · refine lv_aload_n hx hb dL_isSo_398 rfl (lv_at hl 9 rfl) ?_
                      refine lv_iload hx hb dL_isSo_399 (lv_at hl 4 rfl) ?_
                      refine lv_iconst (v := 1) hx hb dL_isSo_401 (by decide) ?_
                      refine q_callS (va_runV (As := [.int (nI k2), .int (1 : Int32)]) (rest := []) ⟨hx, hb, hml, hown, hts⟩ (mX1_walker l D cI cS ad hI Q2 F (nI k2) (1 : Int32)) (cwV 2 hts gL_isSo_X1_walker rfl rfl rfl (by decide +kernel) ⟨Nat.le_of_ble_eq_true rfl, Nat.le_of_ble_eq_true rfl⟩) (PW_preV (i := 0) (by decide) CC_0 rfl rfl hK hP) rfl rfl hl.1 rfl (lv_room (Nat.le_of_ble_eq_true rfl)) dL_isSo_402 ⟨Nat.zero_le _, Nat.zero_le _⟩) ?_
                      refine q_top (y := (R 88 ((5 * k2) + 1))) (lk_w1on hN (by omega) c_304) ?_
                      refine lv_iload hx hb dL_isSo_405 (lv_at hl 3 rfl) ?_
                      refine lv_if_eq (tgt := 422) hx hb dL_isSo_407 (by decide) (fun c_407 => ?_) (fun c_407 => ?_)
                      · exact absurd c_407 c_364
                      · refine lv_aload hx hb dL_isSo_410 (lv_at hl 15 rfl) ?_
                        refine lv_iconst (v := 5) hx hb dL_isSo_412 (by decide) ?_
                        refine lv_iload hx hb dL_isSo_413 (lv_at hl 4 rfl) ?_
                        refine lv_imul hx hb dL_isSo_415 ?_
                        refine q_top (y := (nI (5 * k2))) (pk_mul 5 k2) ?_
                        refine lv_iconst (v := 1) hx hb dL_isSo_416 (by decide) ?_
                        refine lv_iadd hx hb dL_isSo_417 ?_
                        refine q_top (y := (nI ((5 * k2) + 1))) (nI_add (5 * k2) 1) ?_
                        refine q_ildN hx hb hK hP 88 40 (ar_88) ((5 * k2) + 1) dL_isSo_418 rfl (by omega) (by decide) ?_
                        refine q_top (y := (R 88 ((5 * k2) + 1))) (congrFun (hkR 88 (by decide) (by decide)) _) ?_
                        refine lv_goto (tgt := 424) hx hb dL_isSo_419 (by decide) ?_
                        refine lv_icmp_ne (tgt := 580) hx hb dL_isSo_424 (by decide) (fun c_424 => ?_) (fun c_424 => ?_)
                        · exact absurd rfl c_424
                        · refine lv_aload_n hx hb dL_isSo_427 rfl (lv_at hl 9 rfl) ?_
                          refine lv_iload hx hb dL_isSo_428 (lv_at hl 4 rfl) ?_
                          refine lv_iconst (v := 2) hx hb dL_isSo_430 (by decide) ?_
                          refine q_callS (va_runV (As := [.int (nI k2), .int (2 : Int32)]) (rest := []) ⟨hx, hb, hml, hown, hts⟩ (mX1_walker l D cI cS ad hI Q2 F (nI k2) (2 : Int32)) (cwV 2 hts gL_isSo_X1_walker rfl rfl rfl (by decide +kernel) ⟨Nat.le_of_ble_eq_true rfl, Nat.le_of_ble_eq_true rfl⟩) (PW_preV (i := 0) (by decide) CC_0 rfl rfl hK hP) rfl rfl hl.1 rfl (lv_room (Nat.le_of_ble_eq_true rfl)) dL_isSo_431 ⟨Nat.zero_le _, Nat.zero_le _⟩) ?_
                          refine q_top (y := (R 88 ((5 * k2) + 2))) (lk_w2on hN (by omega) c_304) ?_
                          refine lv_iload hx hb dL_isSo_434 (lv_at hl 3 rfl) ?_
                          refine lv_if_eq (tgt := 451) hx hb dL_isSo_436 (by decide) (fun c_436 => ?_) (fun c_436 => ?_)
                          · exact absurd c_436 c_407
                          · refine lv_aload hx hb dL_isSo_439 (lv_at hl 15 rfl) ?_
                            refine lv_iconst (v := 5) hx hb dL_isSo_441 (by decide) ?_
                            refine lv_iload hx hb dL_isSo_442 (lv_at hl 4 rfl) ?_
                            refine lv_imul hx hb dL_isSo_444 ?_
                            refine q_top (y := (nI (5 * k2))) (pk_mul 5 k2) ?_
                            refine lv_iconst (v := 2) hx hb dL_isSo_445 (by decide) ?_
                            refine lv_iadd hx hb dL_isSo_446 ?_
                            refine q_top (y := (nI ((5 * k2) + 2))) (nI_add (5 * k2) 2) ?_
                            refine q_ildN hx hb hK hP 88 40 (ar_88) ((5 * k2) + 2) dL_isSo_447 rfl (by omega) (by decide) ?_
                            refine q_top (y := (R 88 ((5 * k2) + 2))) (congrFun (hkR 88 (by decide) (by decide)) _) ?_
                            refine lv_goto (tgt := 453) hx hb dL_isSo_448 (by decide) ?_
                            refine lv_icmp_ne (tgt := 580) hx hb dL_isSo_453 (by decide) (fun c_453 => ?_) (fun c_453 => ?_)
                            · exact absurd rfl c_453
                            · refine lv_aload_n hx hb dL_isSo_456 rfl (lv_at hl 9 rfl) ?_
                              refine lv_iload hx hb dL_isSo_457 (lv_at hl 4 rfl) ?_
                              refine lv_iconst (v := 3) hx hb dL_isSo_459 (by decide) ?_
                              refine q_callS (va_runV (As := [.int (nI k2), .int (3 : Int32)]) (rest := []) ⟨hx, hb, hml, hown, hts⟩ (mX1_walker l D cI cS ad hI Q2 F (nI k2) (3 : Int32)) (cwV 2 hts gL_isSo_X1_walker rfl rfl rfl (by decide +kernel) ⟨Nat.le_of_ble_eq_true rfl, Nat.le_of_ble_eq_true rfl⟩) (PW_preV (i := 0) (by decide) CC_0 rfl rfl hK hP) rfl rfl hl.1 rfl (lv_room (Nat.le_of_ble_eq_true rfl)) dL_isSo_460 ⟨Nat.zero_le _, Nat.zero_le _⟩) ?_
                              refine q_top (y := (R 88 ((5 * k2) + 3))) (lk_w3on hN (by omega) c_304) ?_
                              refine lv_iload hx hb dL_isSo_463 (lv_at hl 3 rfl) ?_
                              refine lv_if_eq (tgt := 480) hx hb dL_isSo_465 (by decide) (fun c_465 => ?_) (fun c_465 => ?_)
                              · exact absurd c_465 c_436
                              · refine lv_aload hx hb dL_isSo_468 (lv_at hl 15 rfl) ?_
                                refine lv_iconst (v := 5) hx hb dL_isSo_470 (by decide) ?_
                                refine lv_iload hx hb dL_isSo_471 (lv_at hl 4 rfl) ?_
                                refine lv_imul hx hb dL_isSo_473 ?_
                                refine q_top (y := (nI (5 * k2))) (pk_mul 5 k2) ?_
                                refine lv_iconst (v := 3) hx hb dL_isSo_474 (by decide) ?_
                                refine lv_iadd hx hb dL_isSo_475 ?_
                                refine q_top (y := (nI ((5 * k2) + 3))) (nI_add (5 * k2) 3) ?_
                                refine q_ildN hx hb hK hP 88 40 (ar_88) ((5 * k2) + 3) dL_isSo_476 rfl (by omega) (by decide) ?_
                                refine q_top (y := (R 88 ((5 * k2) + 3))) (congrFun (hkR 88 (by decide) (by decide)) _) ?_
                                refine lv_goto (tgt := 482) hx hb dL_isSo_477 (by decide) ?_
                                refine lv_icmp_ne (tgt := 580) hx hb dL_isSo_482 (by decide) (fun c_482 => ?_) (fun c_482 => ?_)
                                · exact absurd rfl c_482
                                · refine lv_aload_n hx hb dL_isSo_485 rfl (lv_at hl 9 rfl) ?_
                                  refine lv_iload hx hb dL_isSo_486 (lv_at hl 4 rfl) ?_
                                  refine lv_iconst (v := 4) hx hb dL_isSo_488 (by decide) ?_
                                  refine q_callS (va_runV (As := [.int (nI k2), .int (4 : Int32)]) (rest := []) ⟨hx, hb, hml, hown, hts⟩ (mX1_walker l D cI cS ad hI Q2 F (nI k2) (4 : Int32)) (cwV 2 hts gL_isSo_X1_walker rfl rfl rfl (by decide +kernel) ⟨Nat.le_of_ble_eq_true rfl, Nat.le_of_ble_eq_true rfl⟩) (PW_preV (i := 0) (by decide) CC_0 rfl rfl hK hP) rfl rfl hl.1 rfl (lv_room (Nat.le_of_ble_eq_true rfl)) dL_isSo_489 ⟨Nat.zero_le _, Nat.zero_le _⟩) ?_
                                  refine q_top (y := (R 88 ((5 * k2) + 4))) (lk_w4 hN (by omega)) ?_
                                  refine lv_aload hx hb dL_isSo_492 (lv_at hl 15 rfl) ?_
                                  refine lv_iconst (v := 5) hx hb dL_isSo_494 (by decide) ?_
                                  refine lv_iload hx hb dL_isSo_495 (lv_at hl 4 rfl) ?_
                                  refine lv_imul hx hb dL_isSo_497 ?_
                                  refine q_top (y := (nI (5 * k2))) (pk_mul 5 k2) ?_
                                  refine lv_iconst (v := 4) hx hb dL_isSo_498 (by decide) ?_
                                  refine lv_iadd hx hb dL_isSo_499 ?_
                                  refine q_top (y := (nI ((5 * k2) + 4))) (nI_add (5 * k2) 4) ?_
                                  refine q_ildN hx hb hK hP 88 40 (ar_88) ((5 * k2) + 4) dL_isSo_500 rfl (by omega) (by decide) ?_
                                  refine q_top (y := (R 88 ((5 * k2) + 4))) (congrFun (hkR 88 (by decide) (by decide)) _) ?_
                                  refine lv_icmp_ne (tgt := 580) hx hb dL_isSo_501 (by decide) (fun c_501 => ?_) (fun c_501 => ?_)
                                  · exact absurd rfl c_501
                                  · refine lv_aload_n hx hb dL_isSo_504 rfl (lv_at hl 9 rfl) ?_
                                    refine lv_iload hx hb dL_isSo_505 (lv_at hl 4 rfl) ?_
                                    refine lv_iconst (v := 5) hx hb dL_isSo_507 (by decide) ?_
                                    refine q_callS (va_runV (As := [.int (nI k2), .int (5 : Int32)]) (rest := []) ⟨hx, hb, hml, hown, hts⟩ (mX1_walker l D cI cS ad hI Q2 F (nI k2) (5 : Int32)) (cwV 2 hts gL_isSo_X1_walker rfl rfl rfl (by decide +kernel) ⟨Nat.le_of_ble_eq_true rfl, Nat.le_of_ble_eq_true rfl⟩) (PW_preV (i := 0) (by decide) CC_0 rfl rfl hK hP) rfl rfl hl.1 rfl (lv_room (Nat.le_of_ble_eq_true rfl)) dL_isSo_508 ⟨Nat.zero_le _, Nat.zero_le _⟩) ?_
                                    refine q_top (y := (un (R 89 (5 * k2)))) (lk_w5 hN (by omega)) ?_
                                    refine lv_aload hx hb dL_isSo_511 (lv_at hl 16 rfl) ?_
                                    refine lv_iconst (v := 5) hx hb dL_isSo_513 (by decide) ?_
                                    refine lv_iload hx hb dL_isSo_514 (lv_at hl 4 rfl) ?_
                                    refine lv_imul hx hb dL_isSo_516 ?_
                                    refine q_top (y := (nI (5 * k2))) (pk_mul 5 k2) ?_
                                    refine q_ildN hx hb hK hP 89 40 (ar_89) (5 * k2) dL_isSo_517 rfl (by omega) (by decide) ?_
                                    refine q_top (y := (R 89 (5 * k2))) (congrFun (hkR 89 (by decide) (by decide)) _) ?_
                                    refine lv_if_ge (tgt := 526) hx hb dL_isSo_518 (by decide) (fun c_518 => ?_) (fun c_518 => ?_)
                                    · refine lv_aload hx hb dL_isSo_526 (lv_at hl 16 rfl) ?_
                                      refine lv_iconst (v := 5) hx hb dL_isSo_528 (by decide) ?_
                                      refine lv_iload hx hb dL_isSo_529 (lv_at hl 4 rfl) ?_
                                      refine lv_imul hx hb dL_isSo_531 ?_
                                      refine q_top (y := (nI (5 * k2))) (pk_mul 5 k2) ?_
                                      refine q_ildN hx hb hK hP 89 40 (ar_89) (5 * k2) dL_isSo_532 rfl (by omega) (by decide) ?_
                                      refine q_top (y := (R 89 (5 * k2))) (congrFun (hkR 89 (by decide) (by decide)) _) ?_
                                      refine lv_icmp_ne (tgt := 580) hx hb dL_isSo_533 (by decide) (fun c_533 => ?_) (fun c_533 => ?_)
                                      · exact absurd (un_ge c_518) c_533
                                      · refine lv_aload_n hx hb dL_isSo_536 rfl (lv_at hl 9 rfl) ?_
                                        refine lv_iload hx hb dL_isSo_537 (lv_at hl 4 rfl) ?_
                                        refine lv_bipush (v := 6) hx hb dL_isSo_539 (by decide) ?_
                                        refine q_callS (va_runV (As := [.int (nI k2), .int (6 : Int32)]) (rest := []) ⟨hx, hb, hml, hown, hts⟩ (mX1_walker l D cI cS ad hI Q2 F (nI k2) (6 : Int32)) (cwV 2 hts gL_isSo_X1_walker rfl rfl rfl (by decide +kernel) ⟨Nat.le_of_ble_eq_true rfl, Nat.le_of_ble_eq_true rfl⟩) (PW_preV (i := 0) (by decide) CC_0 rfl rfl hK hP) rfl rfl hl.1 rfl (lv_room (Nat.le_of_ble_eq_true rfl)) dL_isSo_541 ⟨Nat.zero_le _, Nat.zero_le _⟩) ?_
                                        refine q_top (y := (R 89 ((5 * k2) + 1))) (lk_w6 hN (by omega)) ?_
                                        refine lv_aload hx hb dL_isSo_544 (lv_at hl 16 rfl) ?_
                                        refine lv_iconst (v := 5) hx hb dL_isSo_546 (by decide) ?_
                                        refine lv_iload hx hb dL_isSo_547 (lv_at hl 4 rfl) ?_
                                        refine lv_imul hx hb dL_isSo_549 ?_
                                        refine q_top (y := (nI (5 * k2))) (pk_mul 5 k2) ?_
                                        refine lv_iconst (v := 1) hx hb dL_isSo_550 (by decide) ?_
                                        refine lv_iadd hx hb dL_isSo_551 ?_
                                        refine q_top (y := (nI ((5 * k2) + 1))) (nI_add (5 * k2) 1) ?_
                                        refine q_ildN hx hb hK hP 89 40 (ar_89) ((5 * k2) + 1) dL_isSo_552 rfl (by omega) (by decide) ?_
                                        refine q_top (y := (R 89 ((5 * k2) + 1))) (congrFun (hkR 89 (by decide) (by decide)) _) ?_
                                        refine lv_icmp_ne (tgt := 580) hx hb dL_isSo_553 (by decide) (fun c_553 => ?_) (fun c_553 => ?_)
                                        · exact absurd rfl c_553
                                        · refine lv_aload_n hx hb dL_isSo_556 rfl (lv_at hl 9 rfl) ?_
                                          refine lv_iload hx hb dL_isSo_557 (lv_at hl 4 rfl) ?_
                                          refine lv_bipush (v := 7) hx hb dL_isSo_559 (by decide) ?_
                                          refine q_callS (va_runV (As := [.int (nI k2), .int (7 : Int32)]) (rest := []) ⟨hx, hb, hml, hown, hts⟩ (mX1_walker l D cI cS ad hI Q2 F (nI k2) (7 : Int32)) (cwV 2 hts gL_isSo_X1_walker rfl rfl rfl (by decide +kernel) ⟨Nat.le_of_ble_eq_true rfl, Nat.le_of_ble_eq_true rfl⟩) (PW_preV (i := 0) (by decide) CC_0 rfl rfl hK hP) rfl rfl hl.1 rfl (lv_room (Nat.le_of_ble_eq_true rfl)) dL_isSo_561 ⟨Nat.zero_le _, Nat.zero_le _⟩) ?_
                                          refine q_top (y := (R 89 ((5 * k2) + 2))) (lk_w7 hN (by omega)) ?_
                                          refine lv_aload hx hb dL_isSo_564 (lv_at hl 16 rfl) ?_
                                          refine lv_iconst (v := 5) hx hb dL_isSo_566 (by decide) ?_
                                          refine lv_iload hx hb dL_isSo_567 (lv_at hl 4 rfl) ?_
                                          refine lv_imul hx hb dL_isSo_569 ?_
                                          refine q_top (y := (nI (5 * k2))) (pk_mul 5 k2) ?_
                                          refine lv_iconst (v := 2) hx hb dL_isSo_570 (by decide) ?_
                                          refine lv_iadd hx hb dL_isSo_571 ?_
                                          refine q_top (y := (nI ((5 * k2) + 2))) (nI_add (5 * k2) 2) ?_
                                          refine q_ildN hx hb hK hP 89 40 (ar_89) ((5 * k2) + 2) dL_isSo_572 rfl (by omega) (by decide) ?_
                                          refine q_top (y := (R 89 ((5 * k2) + 2))) (congrFun (hkR 89 (by decide) (by decide)) _) ?_
                                          refine lv_icmp_ne (tgt := 580) hx hb dL_isSo_573 (by decide) (fun c_573 => ?_) (fun c_573 => ?_)
                                          · exact absurd rfl c_573
                                          · refine lv_iconst (v := 1) hx hb dL_isSo_576 (by decide) ?_
                                            refine lv_goto (tgt := 581) hx hb dL_isSo_577 (by decide) ?_
                                            refine lv_istore (lv' := [(14, .int (1 : Int32)), (11, .int (sHe R (k2 + 1))), (13, .int (sWr R (k2 + 1))), (12, .int (sAb R (k2 + 1))), (16, .int (1 : Int32)), (15, .int (nI k2)), (10, .int (sZe R 24)), (9, .int (sTa R 24)), (8, .int (sRd R kw 24)), (0, .ref (ad 0)), (1, .ref (ad 83)), (2, .ref (ad 84)), (3, .ref (ad 85)), (4, .ref (ad 86)), (5, .ref (ad 87)), (6, .ref (ad 88)), (7, .ref (ad 89))]) hx hb dL_isSo_581 hl (by decide) rfl (fun ls hl => ?_)
                                            refine lv_iload hx hb dL_isSo_583 (lv_at hl 0 rfl) ?_
                                            refine lv_if_eq (tgt := 651) hx hb dL_isSo_585 (by decide) (fun c_585 => ?_) (fun c_585 => ?_)
                                            · exact absurd c_585 c_465
                                            · refine lv_aload_n hx hb dL_isSo_588 rfl (lv_at hl 9 rfl) ?_
                                              refine lv_iload hx hb dL_isSo_589 (lv_at hl 5 rfl) ?_
                                              refine q_callI (va_runV (As := [.int (nI k2)]) (rest := []) ⟨hx, hb, hml, hown, hts⟩ (mX1_estimate l D cI cS ad hI Q2 F (nI k2)) (cwV 1 hts gL_isSo_X1_estimate rfl rfl rfl (by decide +kernel) ⟨Nat.le_of_ble_eq_true rfl, Nat.le_of_ble_eq_true rfl⟩) (PW_preV (i := 0) (by decide) CC_0 rfl rfl hK hP) rfl rfl hl.1 rfl (lv_room (Nat.le_of_ble_eq_true rfl)) dL_isSo_591 ⟨Nat.zero_le _, Nat.zero_le _⟩) hS (fun H locs hP hS => ?_)
                                              refine q_top (y := (xL_estimate (R 83) (R 84) (R 86) (R 88) k2 kw)) (lk_eon hN (by omega) c_304) ?_
                                              have hq : ∀ i, i ≠ 15 → i ≠ 16 → (xX1_estimate Q2 F (nI k2)).2 i = Q2 i := fun i h1 h2 => estimate_kp h1 h2
                                              generalize (xX1_estimate Q2 F (nI k2)).2 = Q19 at hP hq
                                              have hN : NOW Q19 F R kw mi := NOW_rows hN (fun j h1 h2 => hq j (by omega) (by omega)) rfl (fun _ _ _ => rfl)
                                              have hkR : ∀ i, i ≠ 15 → i ≠ 16 → Q19 i = R i := fun i h1 h2 => (hq i h1 h2).trans (hkR i h1 h2)
                                              clear hq
                                              refine lv_iload hx hb dL_isSo_594 (lv_at hl 4 rfl) ?_
                                              refine lv_if_eq (tgt := 613) hx hb dL_isSo_596 (by decide) (fun c_596 => ?_) (fun c_596 => ?_)
                                              · exact absurd c_596 c_585
                                              · refine lv_aload_n hx hb dL_isSo_599 rfl (lv_at hl 10 rfl) ?_
                                                refine lv_aload_n hx hb dL_isSo_600 rfl (lv_at hl 11 rfl) ?_
                                                refine lv_aload hx hb dL_isSo_601 (lv_at hl 13 rfl) ?_
                                                refine lv_aload hx hb dL_isSo_603 (lv_at hl 15 rfl) ?_
                                                refine lv_iload hx hb dL_isSo_605 (lv_at hl 5 rfl) ?_
                                                refine q_callS (va_runS (As := [.ref (ad 83), .ref (ad 84), .ref (ad 86), .ref (ad 88), .int (nI k2)]) (rest := [.int (xL_estimate (R 83) (R 84) (R 86) (R 88) k2 kw)]) ⟨hx, hb, hml, hown, hts⟩ (mL_estimate l D cI cS ad hI Q19 F k2 kw (by omega) hkw ((congrFun (hkR 83 (by decide) (by decide)) 1).trans hW)) (va_cwS 5 hts gL_isSo_L_estimate rfl rfl rfl (by decide +kernel) ⟨Nat.le_of_ble_eq_true rfl, Nat.le_of_ble_eq_true rfl⟩) (PW_preS hK hP) rfl rfl hl.1 rfl (lv_room (Nat.le_of_ble_eq_true rfl)) dL_isSo_607 ⟨Nat.zero_le _, Nat.zero_le _⟩) ?_
                                                refine q_top (y := (xL_estimate (R 83) (R 84) (R 86) (R 88) k2 kw)) (by rw [hkR 83 (by decide) (by decide), hkR 84 (by decide) (by decide), hkR 86 (by decide) (by decide), hkR 88 (by decide) (by decide)]) ?_
                                                refine lv_goto (tgt := 615) hx hb dL_isSo_610 (by decide) ?_
                                                refine lv_icmp_ne (tgt := 651) hx hb dL_isSo_615 (by decide) (fun c_615 => ?_) (fun c_615 => ?_)
                                                · exact absurd rfl c_615
                                                · refine lv_aload_n hx hb dL_isSo_618 rfl (lv_at hl 9 rfl) ?_
                                                  refine lv_iload hx hb dL_isSo_619 (lv_at hl 5 rfl) ?_
                                                  refine q_callS (va_runV (As := [.int (nI k2)]) (rest := []) ⟨hx, hb, hml, hown, hts⟩ (mX1_certainty l D cI cS ad hI Q19 F (nI k2)) (cwV 1 hts gL_isSo_X1_certainty rfl rfl rfl (by decide +kernel) ⟨Nat.le_of_ble_eq_true rfl, Nat.le_of_ble_eq_true rfl⟩) (PW_preV (i := 0) (by decide) CC_0 rfl rfl hK hP) rfl rfl hl.1 rfl (lv_room (Nat.le_of_ble_eq_true rfl)) dL_isSo_621 ⟨Nat.zero_le _, Nat.zero_le _⟩) ?_
                                                  refine q_top (y := (xL_certainty (R 83) (R 87) (R 88) k2)) (lk_con hN (by omega) c_304) ?_
                                                  refine lv_iload hx hb dL_isSo_624 (lv_at hl 4 rfl) ?_
                                                  refine lv_if_eq (tgt := 642) hx hb dL_isSo_626 (by decide) (fun c_626 => ?_) (fun c_626 => ?_)
                                                  · exact absurd c_626 c_596
                                                  · refine lv_aload_n hx hb dL_isSo_629 rfl (lv_at hl 10 rfl) ?_
                                                    refine lv_aload hx hb dL_isSo_630 (lv_at hl 14 rfl) ?_
                                                    refine lv_aload hx hb dL_isSo_632 (lv_at hl 15 rfl) ?_
                                                    refine lv_iload hx hb dL_isSo_634 (lv_at hl 5 rfl) ?_
                                                    refine q_callS (va_runS (As := [.ref (ad 83), .ref (ad 87), .ref (ad 88), .int (nI k2)]) (rest := [.int (xL_certainty (R 83) (R 87) (R 88) k2)]) ⟨hx, hb, hml, hown, hts⟩ (mL_certainty l D cI cS ad hI Q19 F k2 (by omega)) (va_cwS 4 hts gL_isSo_L_certainty rfl rfl rfl (by decide +kernel) ⟨Nat.le_of_ble_eq_true rfl, Nat.le_of_ble_eq_true rfl⟩) (PW_preS hK hP) rfl rfl hl.1 rfl (lv_room (Nat.le_of_ble_eq_true rfl)) dL_isSo_636 ⟨Nat.zero_le _, Nat.zero_le _⟩) ?_
                                                    refine q_top (y := (xL_certainty (R 83) (R 87) (R 88) k2)) (by rw [hkR 83 (by decide) (by decide), hkR 87 (by decide) (by decide), hkR 88 (by decide) (by decide)]) ?_
                                                    refine lv_goto (tgt := 644) hx hb dL_isSo_639 (by decide) ?_
                                                    refine lv_icmp_ne (tgt := 651) hx hb dL_isSo_644 (by decide) (fun c_644 => ?_) (fun c_644 => ?_)
                                                    · exact absurd rfl c_644
                                                    · refine lv_iconst (v := 1) hx hb dL_isSo_647 (by decide) ?_
                                                      refine lv_goto (tgt := 652) hx hb dL_isSo_648 (by decide) ?_
                                                      refine lv_istore (lv' := [(14, .int (1 : Int32)), (11, .int (sHe R (k2 + 1))), (13, .int (sWr R (k2 + 1))), (12, .int (sAb R (k2 + 1))), (16, .int (1 : Int32)), (15, .int (nI k2)), (10, .int (sZe R 24)), (9, .int (sTa R 24)), (8, .int (sRd R kw 24)), (0, .ref (ad 0)), (1, .ref (ad 83)), (2, .ref (ad 84)), (3, .ref (ad 85)), (4, .ref (ad 86)), (5, .ref (ad 87)), (6, .ref (ad 88)), (7, .ref (ad 89))]) hx hb dL_isSo_652 hl (by decide) rfl (fun ls hl => ?_)
                                                      refine lv_iinc (v := (nI (k2 + 1))) (lv' := [(15, .int (nI (k2 + 1))), (14, .int (1 : Int32)), (11, .int (sHe R (k2 + 1))), (13, .int (sWr R (k2 + 1))), (12, .int (sAb R (k2 + 1))), (16, .int (1 : Int32)), (10, .int (sZe R 24)), (9, .int (sTa R 24)), (8, .int (sRd R kw 24)), (0, .ref (ad 0)), (1, .ref (ad 83)), (2, .ref (ad 84)), (3, .ref (ad 85)), (4, .ref (ad 86)), (5, .ref (ad 87)), (6, .ref (ad 88)), (7, .ref (ad 89))]) hx hb dL_isSo_654 hl (k := 5) rfl (nI_1 k2) (by decide) rfl (fun ls hl => ?_)
                                                      refine lv_goto (tgt := 282) hx hb dL_isSo_657 (by decide) ?_
                                                      exact ih2 _ _ _ ⟨(k2 + 1), Q19, by omega, hN, hkR, hP, hS, lv_sub hl [0, 1, 3, 4, 2, 6, 7, 8, 9, 10, 11, 12, 13, 14, 15, 16] rfl⟩
                                    · refine lv_ldc (v := -100009) hx hb hown lk94 dL_isSo_521 ?_
                                      refine lv_goto (tgt := 533) hx hb dL_isSo_523 (by decide) ?_
                                      refine lv_icmp_ne (tgt := 580) hx hb dL_isSo_533 (by decide) (fun c_533 => ?_) (fun c_533 => ?_)
                                      · exact absurd (un_nge c_518) c_533
                                      · refine lv_aload_n hx hb dL_isSo_536 rfl (lv_at hl 9 rfl) ?_
                                        refine lv_iload hx hb dL_isSo_537 (lv_at hl 4 rfl) ?_
                                        refine lv_bipush (v := 6) hx hb dL_isSo_539 (by decide) ?_
                                        refine q_callS (va_runV (As := [.int (nI k2), .int (6 : Int32)]) (rest := []) ⟨hx, hb, hml, hown, hts⟩ (mX1_walker l D cI cS ad hI Q2 F (nI k2) (6 : Int32)) (cwV 2 hts gL_isSo_X1_walker rfl rfl rfl (by decide +kernel) ⟨Nat.le_of_ble_eq_true rfl, Nat.le_of_ble_eq_true rfl⟩) (PW_preV (i := 0) (by decide) CC_0 rfl rfl hK hP) rfl rfl hl.1 rfl (lv_room (Nat.le_of_ble_eq_true rfl)) dL_isSo_541 ⟨Nat.zero_le _, Nat.zero_le _⟩) ?_
                                        refine q_top (y := (R 89 ((5 * k2) + 1))) (lk_w6 hN (by omega)) ?_
                                        refine lv_aload hx hb dL_isSo_544 (lv_at hl 16 rfl) ?_
                                        refine lv_iconst (v := 5) hx hb dL_isSo_546 (by decide) ?_
                                        refine lv_iload hx hb dL_isSo_547 (lv_at hl 4 rfl) ?_
                                        refine lv_imul hx hb dL_isSo_549 ?_
                                        refine q_top (y := (nI (5 * k2))) (pk_mul 5 k2) ?_
                                        refine lv_iconst (v := 1) hx hb dL_isSo_550 (by decide) ?_
                                        refine lv_iadd hx hb dL_isSo_551 ?_
                                        refine q_top (y := (nI ((5 * k2) + 1))) (nI_add (5 * k2) 1) ?_
                                        refine q_ildN hx hb hK hP 89 40 (ar_89) ((5 * k2) + 1) dL_isSo_552 rfl (by omega) (by decide) ?_
                                        refine q_top (y := (R 89 ((5 * k2) + 1))) (congrFun (hkR 89 (by decide) (by decide)) _) ?_
                                        refine lv_icmp_ne (tgt := 580) hx hb dL_isSo_553 (by decide) (fun c_553 => ?_) (fun c_553 => ?_)
                                        · exact absurd rfl c_553
                                        · refine lv_aload_n hx hb dL_isSo_556 rfl (lv_at hl 9 rfl) ?_
                                          refine lv_iload hx hb dL_isSo_557 (lv_at hl 4 rfl) ?_
                                          refine lv_bipush (v := 7) hx hb dL_isSo_559 (by decide) ?_
                                          refine q_callS (va_runV (As := [.int (nI k2), .int (7 : Int32)]) (rest := []) ⟨hx, hb, hml, hown, hts⟩ (mX1_walker l D cI cS ad hI Q2 F (nI k2) (7 : Int32)) (cwV 2 hts gL_isSo_X1_walker rfl rfl rfl (by decide +kernel) ⟨Nat.le_of_ble_eq_true rfl, Nat.le_of_ble_eq_true rfl⟩) (PW_preV (i := 0) (by decide) CC_0 rfl rfl hK hP) rfl rfl hl.1 rfl (lv_room (Nat.le_of_ble_eq_true rfl)) dL_isSo_561 ⟨Nat.zero_le _, Nat.zero_le _⟩) ?_
                                          refine q_top (y := (R 89 ((5 * k2) + 2))) (lk_w7 hN (by omega)) ?_
                                          refine lv_aload hx hb dL_isSo_564 (lv_at hl 16 rfl) ?_
                                          refine lv_iconst (v := 5) hx hb dL_isSo_566 (by decide) ?_
                                          refine lv_iload hx hb dL_isSo_567 (lv_at hl 4 rfl) ?_
                                          refine lv_imul hx hb dL_isSo_569 ?_
                                          refine q_top (y := (nI (5 * k2))) (pk_mul 5 k2) ?_
                                          refine lv_iconst (v := 2) hx hb dL_isSo_570 (by decide) ?_
                                          refine lv_iadd hx hb dL_isSo_571 ?_
                                          refine q_top (y := (nI ((5 * k2) + 2))) (nI_add (5 * k2) 2) ?_
                                          refine q_ildN hx hb hK hP 89 40 (ar_89) ((5 * k2) + 2) dL_isSo_572 rfl (by omega) (by decide) ?_
                                          refine q_top (y := (R 89 ((5 * k2) + 2))) (congrFun (hkR 89 (by decide) (by decide)) _) ?_
                                          refine lv_icmp_ne (tgt := 580) hx hb dL_isSo_573 (by decide) (fun c_573 => ?_) (fun c_573 => ?_)
                                          · exact absurd rfl c_573
                                          · refine lv_iconst (v := 1) hx hb dL_isSo_576 (by decide) ?_
                                            refine lv_goto (tgt := 581) hx hb dL_isSo_577 (by decide) ?_
                                            refine lv_istore (lv' := [(14, .int (1 : Int32)), (11, .int (sHe R (k2 + 1))), (13, .int (sWr R (k2 + 1))), (12, .int (sAb R (k2 + 1))), (16, .int (1 : Int32)), (15, .int (nI k2)), (10, .int (sZe R 24)), (9, .int (sTa R 24)), (8, .int (sRd R kw 24)), (0, .ref (ad 0)), (1, .ref (ad 83)), (2, .ref (ad 84)), (3, .ref (ad 85)), (4, .ref (ad 86)), (5, .ref (ad 87)), (6, .ref (ad 88)), (7, .ref (ad 89))]) hx hb dL_isSo_581 hl (by decide) rfl (fun ls hl => ?_)
                                            refine lv_iload hx hb dL_isSo_583 (lv_at hl 0 rfl) ?_
                                            refine lv_if_eq (tgt := 651) hx hb dL_isSo_585 (by decide) (fun c_585 => ?_) (fun c_585 => ?_)
                                            · exact absurd c_585 c_465
                                            · refine lv_aload_n hx hb dL_isSo_588 rfl (lv_at hl 9 rfl) ?_
                                              refine lv_iload hx hb dL_isSo_589 (lv_at hl 5 rfl) ?_
                                              refine q_callI (va_runV (As := [.int (nI k2)]) (rest := []) ⟨hx, hb, hml, hown, hts⟩ (mX1_estimate l D cI cS ad hI Q2 F (nI k2)) (cwV 1 hts gL_isSo_X1_estimate rfl rfl rfl (by decide +kernel) ⟨Nat.le_of_ble_eq_true rfl, Nat.le_of_ble_eq_true rfl⟩) (PW_preV (i := 0) (by decide) CC_0 rfl rfl hK hP) rfl rfl hl.1 rfl (lv_room (Nat.le_of_ble_eq_true rfl)) dL_isSo_591 ⟨Nat.zero_le _, Nat.zero_le _⟩) hS (fun H locs hP hS => ?_)
                                              refine q_top (y := (xL_estimate (R 83) (R 84) (R 86) (R 88) k2 kw)) (lk_eon hN (by omega) c_304) ?_
                                              have hq : ∀ i, i ≠ 15 → i ≠ 16 → (xX1_estimate Q2 F (nI k2)).2 i = Q2 i := fun i h1 h2 => estimate_kp h1 h2
                                              generalize (xX1_estimate Q2 F (nI k2)).2 = Q20 at hP hq
                                              have hN : NOW Q20 F R kw mi := NOW_rows hN (fun j h1 h2 => hq j (by omega) (by omega)) rfl (fun _ _ _ => rfl)
                                              have hkR : ∀ i, i ≠ 15 → i ≠ 16 → Q20 i = R i := fun i h1 h2 => (hq i h1 h2).trans (hkR i h1 h2)
                                              clear hq
                                              refine lv_iload hx hb dL_isSo_594 (lv_at hl 4 rfl) ?_
                                              refine lv_if_eq (tgt := 613) hx hb dL_isSo_596 (by decide) (fun c_596 => ?_) (fun c_596 => ?_)
                                              · exact absurd c_596 c_585
                                              · refine lv_aload_n hx hb dL_isSo_599 rfl (lv_at hl 10 rfl) ?_
                                                refine lv_aload_n hx hb dL_isSo_600 rfl (lv_at hl 11 rfl) ?_
                                                refine lv_aload hx hb dL_isSo_601 (lv_at hl 13 rfl) ?_
                                                refine lv_aload hx hb dL_isSo_603 (lv_at hl 15 rfl) ?_
                                                refine lv_iload hx hb dL_isSo_605 (lv_at hl 5 rfl) ?_
                                                refine q_callS (va_runS (As := [.ref (ad 83), .ref (ad 84), .ref (ad 86), .ref (ad 88), .int (nI k2)]) (rest := [.int (xL_estimate (R 83) (R 84) (R 86) (R 88) k2 kw)]) ⟨hx, hb, hml, hown, hts⟩ (mL_estimate l D cI cS ad hI Q20 F k2 kw (by omega) hkw ((congrFun (hkR 83 (by decide) (by decide)) 1).trans hW)) (va_cwS 5 hts gL_isSo_L_estimate rfl rfl rfl (by decide +kernel) ⟨Nat.le_of_ble_eq_true rfl, Nat.le_of_ble_eq_true rfl⟩) (PW_preS hK hP) rfl rfl hl.1 rfl (lv_room (Nat.le_of_ble_eq_true rfl)) dL_isSo_607 ⟨Nat.zero_le _, Nat.zero_le _⟩) ?_
                                                refine q_top (y := (xL_estimate (R 83) (R 84) (R 86) (R 88) k2 kw)) (by rw [hkR 83 (by decide) (by decide), hkR 84 (by decide) (by decide), hkR 86 (by decide) (by decide), hkR 88 (by decide) (by decide)]) ?_
                                                refine lv_goto (tgt := 615) hx hb dL_isSo_610 (by decide) ?_
                                                refine lv_icmp_ne (tgt := 651) hx hb dL_isSo_615 (by decide) (fun c_615 => ?_) (fun c_615 => ?_)
                                                · exact absurd rfl c_615
                                                · refine lv_aload_n hx hb dL_isSo_618 rfl (lv_at hl 9 rfl) ?_
                                                  refine lv_iload hx hb dL_isSo_619 (lv_at hl 5 rfl) ?_
                                                  refine q_callS (va_runV (As := [.int (nI k2)]) (rest := []) ⟨hx, hb, hml, hown, hts⟩ (mX1_certainty l D cI cS ad hI Q20 F (nI k2)) (cwV 1 hts gL_isSo_X1_certainty rfl rfl rfl (by decide +kernel) ⟨Nat.le_of_ble_eq_true rfl, Nat.le_of_ble_eq_true rfl⟩) (PW_preV (i := 0) (by decide) CC_0 rfl rfl hK hP) rfl rfl hl.1 rfl (lv_room (Nat.le_of_ble_eq_true rfl)) dL_isSo_621 ⟨Nat.zero_le _, Nat.zero_le _⟩) ?_
                                                  refine q_top (y := (xL_certainty (R 83) (R 87) (R 88) k2)) (lk_con hN (by omega) c_304) ?_
                                                  refine lv_iload hx hb dL_isSo_624 (lv_at hl 4 rfl) ?_
                                                  refine lv_if_eq (tgt := 642) hx hb dL_isSo_626 (by decide) (fun c_626 => ?_) (fun c_626 => ?_)
                                                  · exact absurd c_626 c_596
                                                  · refine lv_aload_n hx hb dL_isSo_629 rfl (lv_at hl 10 rfl) ?_
                                                    refine lv_aload hx hb dL_isSo_630 (lv_at hl 14 rfl) ?_
                                                    refine lv_aload hx hb dL_isSo_632 (lv_at hl 15 rfl) ?_
                                                    refine lv_iload hx hb dL_isSo_634 (lv_at hl 5 rfl) ?_
                                                    refine q_callS (va_runS (As := [.ref (ad 83), .ref (ad 87), .ref (ad 88), .int (nI k2)]) (rest := [.int (xL_certainty (R 83) (R 87) (R 88) k2)]) ⟨hx, hb, hml, hown, hts⟩ (mL_certainty l D cI cS ad hI Q20 F k2 (by omega)) (va_cwS 4 hts gL_isSo_L_certainty rfl rfl rfl (by decide +kernel) ⟨Nat.le_of_ble_eq_true rfl, Nat.le_of_ble_eq_true rfl⟩) (PW_preS hK hP) rfl rfl hl.1 rfl (lv_room (Nat.le_of_ble_eq_true rfl)) dL_isSo_636 ⟨Nat.zero_le _, Nat.zero_le _⟩) ?_
                                                    refine q_top (y := (xL_certainty (R 83) (R 87) (R 88) k2)) (by rw [hkR 83 (by decide) (by decide), hkR 87 (by decide) (by decide), hkR 88 (by decide) (by decide)]) ?_
                                                    refine lv_goto (tgt := 644) hx hb dL_isSo_639 (by decide) ?_
                                                    refine lv_icmp_ne (tgt := 651) hx hb dL_isSo_644 (by decide) (fun c_644 => ?_) (fun c_644 => ?_)
                                                    · exact absurd rfl c_644
                                                    · refine lv_iconst (v := 1) hx hb dL_isSo_647 (by decide) ?_
                                                      refine lv_goto (tgt := 652) hx hb dL_isSo_648 (by decide) ?_
                                                      refine lv_istore (lv' := [(14, .int (1 : Int32)), (11, .int (sHe R (k2 + 1))), (13, .int (sWr R (k2 + 1))), (12, .int (sAb R (k2 + 1))), (16, .int (1 : Int32)), (15, .int (nI k2)), (10, .int (sZe R 24)), (9, .int (sTa R 24)), (8, .int (sRd R kw 24)), (0, .ref (ad 0)), (1, .ref (ad 83)), (2, .ref (ad 84)), (3, .ref (ad 85)), (4, .ref (ad 86)), (5, .ref (ad 87)), (6, .ref (ad 88)), (7, .ref (ad 89))]) hx hb dL_isSo_652 hl (by decide) rfl (fun ls hl => ?_)
                                                      refine lv_iinc (v := (nI (k2 + 1))) (lv' := [(15, .int (nI (k2 + 1))), (14, .int (1 : Int32)), (11, .int (sHe R (k2 + 1))), (13, .int (sWr R (k2 + 1))), (12, .int (sAb R (k2 + 1))), (16, .int (1 : Int32)), (10, .int (sZe R 24)), (9, .int (sTa R 24)), (8, .int (sRd R kw 24)), (0, .ref (ad 0)), (1, .ref (ad 83)), (2, .ref (ad 84)), (3, .ref (ad 85)), (4, .ref (ad 86)), (5, .ref (ad 87)), (6, .ref (ad 88)), (7, .ref (ad 89))]) hx hb dL_isSo_654 hl (k := 5) rfl (nI_1 k2) (by decide) rfl (fun ls hl => ?_)
                                                      refine lv_goto (tgt := 282) hx hb dL_isSo_657 (by decide) ?_
                                                      exact ih2 _ _ _ ⟨(k2 + 1), Q20, by omega, hN, hkR, hP, hS, lv_sub hl [0, 1, 3, 4, 2, 6, 7, 8, 9, 10, 11, 12, 13, 14, 15, 16] rfl⟩
                · refine lv_iconst (v := 1) hx hb dL_isSo_352 (by decide) ?_
                  refine lv_goto (tgt := 357) hx hb dL_isSo_353 (by decide) ?_
                  refine lv_iadd hx hb dL_isSo_357 ?_
                  refine q_top (y := (sWr R (k2 + 1))) (sWr_ne c_349) ?_
                  refine lv_istore (lv' := [(13, .int (sWr R (k2 + 1))), (12, .int (sAb R (k2 + 1))), (16, .int (1 : Int32)), (15, .int (nI k2)), (14, .int (1 : Int32)), (11, .int (sHe R k2)), (10, .int (sZe R 24)), (9, .int (sTa R 24)), (8, .int (sRd R kw 24)), (0, .ref (ad 0)), (1, .ref (ad 83)), (2, .ref (ad 84)), (3, .ref (ad 85)), (4, .ref (ad 86)), (5, .ref (ad 87)), (6, .ref (ad 88)), (7, .ref (ad 89))]) hx hb dL_isSo_358 hl (by decide) rfl (fun ls hl => ?_)
                  refine lv_iload hx hb dL_isSo_360 (lv_at hl 5 rfl) ?_
                  refine lv_iload hx hb dL_isSo_362 (lv_at hl 2 rfl) ?_
                  refine lv_if_eq (tgt := 377) hx hb dL_isSo_364 (by decide) (fun c_364 => ?_) (fun c_364 => ?_)
                  · exact absurd c_364 c_318
                  · refine lv_aload hx hb dL_isSo_367 (lv_at hl 15 rfl) ?_
                    refine lv_iconst (v := 5) hx hb dL_isSo_369 (by decide) ?_
                    refine lv_iload hx hb dL_isSo_370 (lv_at hl 3 rfl) ?_
                    refine lv_imul hx hb dL_isSo_372 ?_
                    refine q_top (y := (nI (5 * k2))) (pk_mul 5 k2) ?_
                    refine q_ildN hx hb hK hP 88 40 (ar_88) (5 * k2) dL_isSo_373 rfl (by omega) (by decide) ?_
                    refine q_top (y := (R 88 (5 * k2))) (congrFun (hkR 88 (by decide) (by decide)) _) ?_
                    refine lv_goto (tgt := 378) hx hb dL_isSo_374 (by decide) ?_
                    refine lv_iadd hx hb dL_isSo_378 ?_
                    refine q_top (y := (sHe R (k2 + 1))) (sHe_on c_304) ?_
                    refine lv_istore (lv' := [(11, .int (sHe R (k2 + 1))), (13, .int (sWr R (k2 + 1))), (12, .int (sAb R (k2 + 1))), (16, .int (1 : Int32)), (15, .int (nI k2)), (14, .int (1 : Int32)), (10, .int (sZe R 24)), (9, .int (sTa R 24)), (8, .int (sRd R kw 24)), (0, .ref (ad 0)), (1, .ref (ad 83)), (2, .ref (ad 84)), (3, .ref (ad 85)), (4, .ref (ad 86)), (5, .ref (ad 87)), (6, .ref (ad 88)), (7, .ref (ad 89))]) hx hb dL_isSo_379 hl (by decide) rfl (fun ls hl => ?_)
                    refine lv_aload_n hx hb dL_isSo_381 rfl (lv_at hl 9 rfl) ?_
                    refine lv_iload hx hb dL_isSo_382 (lv_at hl 4 rfl) ?_
                    refine lv_iconst (v := 0) hx hb dL_isSo_384 (by decide) ?_
                    refine q_callS (va_runV (As := [.int (nI k2), .int (0 : Int32)]) (rest := []) ⟨hx, hb, hml, hown, hts⟩ (mX1_walker l D cI cS ad hI Q2 F (nI k2) (0 : Int32)) (cwV 2 hts gL_isSo_X1_walker rfl rfl rfl (by decide +kernel) ⟨Nat.le_of_ble_eq_true rfl, Nat.le_of_ble_eq_true rfl⟩) (PW_preV (i := 0) (by decide) CC_0 rfl rfl hK hP) rfl rfl hl.1 rfl (lv_room (Nat.le_of_ble_eq_true rfl)) dL_isSo_385 ⟨Nat.zero_le _, Nat.zero_le _⟩) ?_
                    refine q_top (y := (R 88 (5 * k2))) (lk_w0 hN (by omega)) ?_
                    refine lv_aload hx hb dL_isSo_388 (lv_at hl 15 rfl) ?_
                    refine lv_iconst (v := 5) hx hb dL_isSo_390 (by decide) ?_
                    refine lv_iload hx hb dL_isSo_391 (lv_at hl 4 rfl) ?_
                    refine lv_imul hx hb dL_isSo_393 ?_
                    refine q_top (y := (nI (5 * k2))) (pk_mul 5 k2) ?_
                    refine q_ildN hx hb hK hP 88 40 (ar_88) (5 * k2) dL_isSo_394 rfl (by omega) (by decide) ?_
                    refine q_top (y := (R 88 (5 * k2))) (congrFun (hkR 88 (by decide) (by decide)) _) ?_
                    refine lv_icmp_ne (tgt := 580) hx hb dL_isSo_395 (by decide) (fun c_395 => ?_) (fun c_395 => ?_)
                    · exact absurd rfl c_395
                    · refine lv_aload_n hx hb dL_isSo_398 rfl (lv_at hl 9 rfl) ?_
                      refine lv_iload hx hb dL_isSo_399 (lv_at hl 4 rfl) ?_
                      refine lv_iconst (v := 1) hx hb dL_isSo_401 (by decide) ?_
                      refine q_callS (va_runV (As := [.int (nI k2), .int (1 : Int32)]) (rest := []) ⟨hx, hb, hml, hown, hts⟩ (mX1_walker l D cI cS ad hI Q2 F (nI k2) (1 : Int32)) (cwV 2 hts gL_isSo_X1_walker rfl rfl rfl (by decide +kernel) ⟨Nat.le_of_ble_eq_true rfl, Nat.le_of_ble_eq_true rfl⟩) (PW_preV (i := 0) (by decide) CC_0 rfl rfl hK hP) rfl rfl hl.1 rfl (lv_room (Nat.le_of_ble_eq_true rfl)) dL_isSo_402 ⟨Nat.zero_le _, Nat.zero_le _⟩) ?_
                      refine q_top (y := (R 88 ((5 * k2) + 1))) (lk_w1on hN (by omega) c_304) ?_
                      refine lv_iload hx hb dL_isSo_405 (lv_at hl 3 rfl) ?_
                      refine lv_if_eq (tgt := 422) hx hb dL_isSo_407 (by decide) (fun c_407 => ?_) (fun c_407 => ?_)
                      · exact absurd c_407 c_364
                      · refine lv_aload hx hb dL_isSo_410 (lv_at hl 15 rfl) ?_
                        refine lv_iconst (v := 5) hx hb dL_isSo_412 (by decide) ?_
                        refine lv_iload hx hb dL_isSo_413 (lv_at hl 4 rfl) ?_
                        refine lv_imul hx hb dL_isSo_415 ?_
                        refine q_top (y := (nI (5 * k2))) (pk_mul 5 k2) ?_
                        refine lv_iconst (v := 1) hx hb dL_isSo_416 (by decide) ?_
                        refine lv_iadd hx hb dL_isSo_417 ?_
                        refine q_top (y := (nI ((5 * k2) + 1))) (nI_add (5 * k2) 1) ?_
                        refine q_ildN hx hb hK hP 88 40 (ar_88) ((5 * k2) + 1) dL_isSo_418 rfl (by omega) (by decide) ?_
                        refine q_top (y := (R 88 ((5 * k2) + 1))) (congrFun (hkR 88 (by decide) (by decide)) _) ?_
                        refine lv_goto (tgt := 424) hx hb dL_isSo_419 (by decide) ?_
                        refine lv_icmp_ne (tgt := 580) hx hb dL_isSo_424 (by decide) (fun c_424 => ?_) (fun c_424 => ?_)
                        · exact absurd rfl c_424
                        · refine lv_aload_n hx hb dL_isSo_427 rfl (lv_at hl 9 rfl) ?_
                          refine lv_iload hx hb dL_isSo_428 (lv_at hl 4 rfl) ?_
                          refine lv_iconst (v := 2) hx hb dL_isSo_430 (by decide) ?_
                          refine q_callS (va_runV (As := [.int (nI k2), .int (2 : Int32)]) (rest := []) ⟨hx, hb, hml, hown, hts⟩ (mX1_walker l D cI cS ad hI Q2 F (nI k2) (2 : Int32)) (cwV 2 hts gL_isSo_X1_walker rfl rfl rfl (by decide +kernel) ⟨Nat.le_of_ble_eq_true rfl, Nat.le_of_ble_eq_true rfl⟩) (PW_preV (i := 0) (by decide) CC_0 rfl rfl hK hP) rfl rfl hl.1 rfl (lv_room (Nat.le_of_ble_eq_true rfl)) dL_isSo_431 ⟨Nat.zero_le _, Nat.zero_le _⟩) ?_
                          refine q_top (y := (R 88 ((5 * k2) + 2))) (lk_w2on hN (by omega) c_304) ?_
                          refine lv_iload hx hb dL_isSo_434 (lv_at hl 3 rfl) ?_
                          refine lv_if_eq (tgt := 451) hx hb dL_isSo_436 (by decide) (fun c_436 => ?_) (fun c_436 => ?_)
                          · exact absurd c_436 c_407
                          · refine lv_aload hx hb dL_isSo_439 (lv_at hl 15 rfl) ?_
                            refine lv_iconst (v := 5) hx hb dL_isSo_441 (by decide) ?_
                            refine lv_iload hx hb dL_isSo_442 (lv_at hl 4 rfl) ?_
                            refine lv_imul hx hb dL_isSo_444 ?_
                            refine q_top (y := (nI (5 * k2))) (pk_mul 5 k2) ?_
                            refine lv_iconst (v := 2) hx hb dL_isSo_445 (by decide) ?_
                            refine lv_iadd hx hb dL_isSo_446 ?_
                            refine q_top (y := (nI ((5 * k2) + 2))) (nI_add (5 * k2) 2) ?_
                            refine q_ildN hx hb hK hP 88 40 (ar_88) ((5 * k2) + 2) dL_isSo_447 rfl (by omega) (by decide) ?_
                            refine q_top (y := (R 88 ((5 * k2) + 2))) (congrFun (hkR 88 (by decide) (by decide)) _) ?_
                            refine lv_goto (tgt := 453) hx hb dL_isSo_448 (by decide) ?_
                            refine lv_icmp_ne (tgt := 580) hx hb dL_isSo_453 (by decide) (fun c_453 => ?_) (fun c_453 => ?_)
                            · exact absurd rfl c_453
                            · refine lv_aload_n hx hb dL_isSo_456 rfl (lv_at hl 9 rfl) ?_
                              refine lv_iload hx hb dL_isSo_457 (lv_at hl 4 rfl) ?_
                              refine lv_iconst (v := 3) hx hb dL_isSo_459 (by decide) ?_
                              refine q_callS (va_runV (As := [.int (nI k2), .int (3 : Int32)]) (rest := []) ⟨hx, hb, hml, hown, hts⟩ (mX1_walker l D cI cS ad hI Q2 F (nI k2) (3 : Int32)) (cwV 2 hts gL_isSo_X1_walker rfl rfl rfl (by decide +kernel) ⟨Nat.le_of_ble_eq_true rfl, Nat.le_of_ble_eq_true rfl⟩) (PW_preV (i := 0) (by decide) CC_0 rfl rfl hK hP) rfl rfl hl.1 rfl (lv_room (Nat.le_of_ble_eq_true rfl)) dL_isSo_460 ⟨Nat.zero_le _, Nat.zero_le _⟩) ?_
                              refine q_top (y := (R 88 ((5 * k2) + 3))) (lk_w3on hN (by omega) c_304) ?_
                              refine lv_iload hx hb dL_isSo_463 (lv_at hl 3 rfl) ?_
                              refine lv_if_eq (tgt := 480) hx hb dL_isSo_465 (by decide) (fun c_465 => ?_) (fun c_465 => ?_)
                              · exact absurd c_465 c_436
                              · refine lv_aload hx hb dL_isSo_468 (lv_at hl 15 rfl) ?_
                                refine lv_iconst (v := 5) hx hb dL_isSo_470 (by decide) ?_
                                refine lv_iload hx hb dL_isSo_471 (lv_at hl 4 rfl) ?_
                                refine lv_imul hx hb dL_isSo_473 ?_
                                refine q_top (y := (nI (5 * k2))) (pk_mul 5 k2) ?_
                                refine lv_iconst (v := 3) hx hb dL_isSo_474 (by decide) ?_
                                refine lv_iadd hx hb dL_isSo_475 ?_
                                refine q_top (y := (nI ((5 * k2) + 3))) (nI_add (5 * k2) 3) ?_
                                refine q_ildN hx hb hK hP 88 40 (ar_88) ((5 * k2) + 3) dL_isSo_476 rfl (by omega) (by decide) ?_
                                refine q_top (y := (R 88 ((5 * k2) + 3))) (congrFun (hkR 88 (by decide) (by decide)) _) ?_
                                refine lv_goto (tgt := 482) hx hb dL_isSo_477 (by decide) ?_
                                refine lv_icmp_ne (tgt := 580) hx hb dL_isSo_482 (by decide) (fun c_482 => ?_) (fun c_482 => ?_)
                                · exact absurd rfl c_482
                                · refine lv_aload_n hx hb dL_isSo_485 rfl (lv_at hl 9 rfl) ?_
                                  refine lv_iload hx hb dL_isSo_486 (lv_at hl 4 rfl) ?_
                                  refine lv_iconst (v := 4) hx hb dL_isSo_488 (by decide) ?_
                                  refine q_callS (va_runV (As := [.int (nI k2), .int (4 : Int32)]) (rest := []) ⟨hx, hb, hml, hown, hts⟩ (mX1_walker l D cI cS ad hI Q2 F (nI k2) (4 : Int32)) (cwV 2 hts gL_isSo_X1_walker rfl rfl rfl (by decide +kernel) ⟨Nat.le_of_ble_eq_true rfl, Nat.le_of_ble_eq_true rfl⟩) (PW_preV (i := 0) (by decide) CC_0 rfl rfl hK hP) rfl rfl hl.1 rfl (lv_room (Nat.le_of_ble_eq_true rfl)) dL_isSo_489 ⟨Nat.zero_le _, Nat.zero_le _⟩) ?_
                                  refine q_top (y := (R 88 ((5 * k2) + 4))) (lk_w4 hN (by omega)) ?_
                                  refine lv_aload hx hb dL_isSo_492 (lv_at hl 15 rfl) ?_
                                  refine lv_iconst (v := 5) hx hb dL_isSo_494 (by decide) ?_
                                  refine lv_iload hx hb dL_isSo_495 (lv_at hl 4 rfl) ?_
                                  refine lv_imul hx hb dL_isSo_497 ?_
                                  refine q_top (y := (nI (5 * k2))) (pk_mul 5 k2) ?_
                                  refine lv_iconst (v := 4) hx hb dL_isSo_498 (by decide) ?_
                                  refine lv_iadd hx hb dL_isSo_499 ?_
                                  refine q_top (y := (nI ((5 * k2) + 4))) (nI_add (5 * k2) 4) ?_
                                  refine q_ildN hx hb hK hP 88 40 (ar_88) ((5 * k2) + 4) dL_isSo_500 rfl (by omega) (by decide) ?_
                                  refine q_top (y := (R 88 ((5 * k2) + 4))) (congrFun (hkR 88 (by decide) (by decide)) _) ?_
                                  refine lv_icmp_ne (tgt := 580) hx hb dL_isSo_501 (by decide) (fun c_501 => ?_) (fun c_501 => ?_)
                                  · exact absurd rfl c_501
                                  · refine lv_aload_n hx hb dL_isSo_504 rfl (lv_at hl 9 rfl) ?_
                                    refine lv_iload hx hb dL_isSo_505 (lv_at hl 4 rfl) ?_
                                    refine lv_iconst (v := 5) hx hb dL_isSo_507 (by decide) ?_
                                    refine q_callS (va_runV (As := [.int (nI k2), .int (5 : Int32)]) (rest := []) ⟨hx, hb, hml, hown, hts⟩ (mX1_walker l D cI cS ad hI Q2 F (nI k2) (5 : Int32)) (cwV 2 hts gL_isSo_X1_walker rfl rfl rfl (by decide +kernel) ⟨Nat.le_of_ble_eq_true rfl, Nat.le_of_ble_eq_true rfl⟩) (PW_preV (i := 0) (by decide) CC_0 rfl rfl hK hP) rfl rfl hl.1 rfl (lv_room (Nat.le_of_ble_eq_true rfl)) dL_isSo_508 ⟨Nat.zero_le _, Nat.zero_le _⟩) ?_
                                    refine q_top (y := (un (R 89 (5 * k2)))) (lk_w5 hN (by omega)) ?_
                                    refine lv_aload hx hb dL_isSo_511 (lv_at hl 16 rfl) ?_
                                    refine lv_iconst (v := 5) hx hb dL_isSo_513 (by decide) ?_
                                    refine lv_iload hx hb dL_isSo_514 (lv_at hl 4 rfl) ?_
                                    refine lv_imul hx hb dL_isSo_516 ?_
                                    refine q_top (y := (nI (5 * k2))) (pk_mul 5 k2) ?_
                                    refine q_ildN hx hb hK hP 89 40 (ar_89) (5 * k2) dL_isSo_517 rfl (by omega) (by decide) ?_
                                    refine q_top (y := (R 89 (5 * k2))) (congrFun (hkR 89 (by decide) (by decide)) _) ?_
                                    refine lv_if_ge (tgt := 526) hx hb dL_isSo_518 (by decide) (fun c_518 => ?_) (fun c_518 => ?_)
                                    · refine lv_aload hx hb dL_isSo_526 (lv_at hl 16 rfl) ?_
                                      refine lv_iconst (v := 5) hx hb dL_isSo_528 (by decide) ?_
                                      refine lv_iload hx hb dL_isSo_529 (lv_at hl 4 rfl) ?_
                                      refine lv_imul hx hb dL_isSo_531 ?_
                                      refine q_top (y := (nI (5 * k2))) (pk_mul 5 k2) ?_
                                      refine q_ildN hx hb hK hP 89 40 (ar_89) (5 * k2) dL_isSo_532 rfl (by omega) (by decide) ?_
                                      refine q_top (y := (R 89 (5 * k2))) (congrFun (hkR 89 (by decide) (by decide)) _) ?_
                                      refine lv_icmp_ne (tgt := 580) hx hb dL_isSo_533 (by decide) (fun c_533 => ?_) (fun c_533 => ?_)
                                      · exact absurd (un_ge c_518) c_533
                                      · refine lv_aload_n hx hb dL_isSo_536 rfl (lv_at hl 9 rfl) ?_
                                        refine lv_iload hx hb dL_isSo_537 (lv_at hl 4 rfl) ?_
                                        refine lv_bipush (v := 6) hx hb dL_isSo_539 (by decide) ?_
                                        refine q_callS (va_runV (As := [.int (nI k2), .int (6 : Int32)]) (rest := []) ⟨hx, hb, hml, hown, hts⟩ (mX1_walker l D cI cS ad hI Q2 F (nI k2) (6 : Int32)) (cwV 2 hts gL_isSo_X1_walker rfl rfl rfl (by decide +kernel) ⟨Nat.le_of_ble_eq_true rfl, Nat.le_of_ble_eq_true rfl⟩) (PW_preV (i := 0) (by decide) CC_0 rfl rfl hK hP) rfl rfl hl.1 rfl (lv_room (Nat.le_of_ble_eq_true rfl)) dL_isSo_541 ⟨Nat.zero_le _, Nat.zero_le _⟩) ?_
                                        refine q_top (y := (R 89 ((5 * k2) + 1))) (lk_w6 hN (by omega)) ?_
                                        refine lv_aload hx hb dL_isSo_544 (lv_at hl 16 rfl) ?_
                                        refine lv_iconst (v := 5) hx hb dL_isSo_546 (by decide) ?_
                                        refine lv_iload hx hb dL_isSo_547 (lv_at hl 4 rfl) ?_
                                        refine lv_imul hx hb dL_isSo_549 ?_
                                        refine q_top (y := (nI (5 * k2))) (pk_mul 5 k2) ?_
                                        refine lv_iconst (v := 1) hx hb dL_isSo_550 (by decide) ?_
                                        refine lv_iadd hx hb dL_isSo_551 ?_
                                        refine q_top (y := (nI ((5 * k2) + 1))) (nI_add (5 * k2) 1) ?_
                                        refine q_ildN hx hb hK hP 89 40 (ar_89) ((5 * k2) + 1) dL_isSo_552 rfl (by omega) (by decide) ?_
                                        refine q_top (y := (R 89 ((5 * k2) + 1))) (congrFun (hkR 89 (by decide) (by decide)) _) ?_
                                        refine lv_icmp_ne (tgt := 580) hx hb dL_isSo_553 (by decide) (fun c_553 => ?_) (fun c_553 => ?_)
                                        · exact absurd rfl c_553
                                        · refine lv_aload_n hx hb dL_isSo_556 rfl (lv_at hl 9 rfl) ?_
                                          refine lv_iload hx hb dL_isSo_557 (lv_at hl 4 rfl) ?_
                                          refine lv_bipush (v := 7) hx hb dL_isSo_559 (by decide) ?_
                                          refine q_callS (va_runV (As := [.int (nI k2), .int (7 : Int32)]) (rest := []) ⟨hx, hb, hml, hown, hts⟩ (mX1_walker l D cI cS ad hI Q2 F (nI k2) (7 : Int32)) (cwV 2 hts gL_isSo_X1_walker rfl rfl rfl (by decide +kernel) ⟨Nat.le_of_ble_eq_true rfl, Nat.le_of_ble_eq_true rfl⟩) (PW_preV (i := 0) (by decide) CC_0 rfl rfl hK hP) rfl rfl hl.1 rfl (lv_room (Nat.le_of_ble_eq_true rfl)) dL_isSo_561 ⟨Nat.zero_le _, Nat.zero_le _⟩) ?_
                                          refine q_top (y := (R 89 ((5 * k2) + 2))) (lk_w7 hN (by omega)) ?_
                                          refine lv_aload hx hb dL_isSo_564 (lv_at hl 16 rfl) ?_
                                          refine lv_iconst (v := 5) hx hb dL_isSo_566 (by decide) ?_
                                          refine lv_iload hx hb dL_isSo_567 (lv_at hl 4 rfl) ?_
                                          refine lv_imul hx hb dL_isSo_569 ?_
                                          refine q_top (y := (nI (5 * k2))) (pk_mul 5 k2) ?_
                                          refine lv_iconst (v := 2) hx hb dL_isSo_570 (by decide) ?_
                                          refine lv_iadd hx hb dL_isSo_571 ?_
                                          refine q_top (y := (nI ((5 * k2) + 2))) (nI_add (5 * k2) 2) ?_
                                          refine q_ildN hx hb hK hP 89 40 (ar_89) ((5 * k2) + 2) dL_isSo_572 rfl (by omega) (by decide) ?_
                                          refine q_top (y := (R 89 ((5 * k2) + 2))) (congrFun (hkR 89 (by decide) (by decide)) _) ?_
                                          refine lv_icmp_ne (tgt := 580) hx hb dL_isSo_573 (by decide) (fun c_573 => ?_) (fun c_573 => ?_)
                                          · exact absurd rfl c_573
                                          · refine lv_iconst (v := 1) hx hb dL_isSo_576 (by decide) ?_
                                            refine lv_goto (tgt := 581) hx hb dL_isSo_577 (by decide) ?_
                                            refine lv_istore (lv' := [(14, .int (1 : Int32)), (11, .int (sHe R (k2 + 1))), (13, .int (sWr R (k2 + 1))), (12, .int (sAb R (k2 + 1))), (16, .int (1 : Int32)), (15, .int (nI k2)), (10, .int (sZe R 24)), (9, .int (sTa R 24)), (8, .int (sRd R kw 24)), (0, .ref (ad 0)), (1, .ref (ad 83)), (2, .ref (ad 84)), (3, .ref (ad 85)), (4, .ref (ad 86)), (5, .ref (ad 87)), (6, .ref (ad 88)), (7, .ref (ad 89))]) hx hb dL_isSo_581 hl (by decide) rfl (fun ls hl => ?_)
                                            refine lv_iload hx hb dL_isSo_583 (lv_at hl 0 rfl) ?_
                                            refine lv_if_eq (tgt := 651) hx hb dL_isSo_585 (by decide) (fun c_585 => ?_) (fun c_585 => ?_)
                                            · exact absurd c_585 c_465
                                            · refine lv_aload_n hx hb dL_isSo_588 rfl (lv_at hl 9 rfl) ?_
                                              refine lv_iload hx hb dL_isSo_589 (lv_at hl 5 rfl) ?_
                                              refine q_callI (va_runV (As := [.int (nI k2)]) (rest := []) ⟨hx, hb, hml, hown, hts⟩ (mX1_estimate l D cI cS ad hI Q2 F (nI k2)) (cwV 1 hts gL_isSo_X1_estimate rfl rfl rfl (by decide +kernel) ⟨Nat.le_of_ble_eq_true rfl, Nat.le_of_ble_eq_true rfl⟩) (PW_preV (i := 0) (by decide) CC_0 rfl rfl hK hP) rfl rfl hl.1 rfl (lv_room (Nat.le_of_ble_eq_true rfl)) dL_isSo_591 ⟨Nat.zero_le _, Nat.zero_le _⟩) hS (fun H locs hP hS => ?_)
                                              refine q_top (y := (xL_estimate (R 83) (R 84) (R 86) (R 88) k2 kw)) (lk_eon hN (by omega) c_304) ?_
                                              have hq : ∀ i, i ≠ 15 → i ≠ 16 → (xX1_estimate Q2 F (nI k2)).2 i = Q2 i := fun i h1 h2 => estimate_kp h1 h2
                                              generalize (xX1_estimate Q2 F (nI k2)).2 = Q21 at hP hq
                                              have hN : NOW Q21 F R kw mi := NOW_rows hN (fun j h1 h2 => hq j (by omega) (by omega)) rfl (fun _ _ _ => rfl)
                                              have hkR : ∀ i, i ≠ 15 → i ≠ 16 → Q21 i = R i := fun i h1 h2 => (hq i h1 h2).trans (hkR i h1 h2)
                                              clear hq
                                              refine lv_iload hx hb dL_isSo_594 (lv_at hl 4 rfl) ?_
                                              refine lv_if_eq (tgt := 613) hx hb dL_isSo_596 (by decide) (fun c_596 => ?_) (fun c_596 => ?_)
                                              · exact absurd c_596 c_585
                                              · refine lv_aload_n hx hb dL_isSo_599 rfl (lv_at hl 10 rfl) ?_
                                                refine lv_aload_n hx hb dL_isSo_600 rfl (lv_at hl 11 rfl) ?_
                                                refine lv_aload hx hb dL_isSo_601 (lv_at hl 13 rfl) ?_
                                                refine lv_aload hx hb dL_isSo_603 (lv_at hl 15 rfl) ?_
                                                refine lv_iload hx hb dL_isSo_605 (lv_at hl 5 rfl) ?_
                                                refine q_callS (va_runS (As := [.ref (ad 83), .ref (ad 84), .ref (ad 86), .ref (ad 88), .int (nI k2)]) (rest := [.int (xL_estimate (R 83) (R 84) (R 86) (R 88) k2 kw)]) ⟨hx, hb, hml, hown, hts⟩ (mL_estimate l D cI cS ad hI Q21 F k2 kw (by omega) hkw ((congrFun (hkR 83 (by decide) (by decide)) 1).trans hW)) (va_cwS 5 hts gL_isSo_L_estimate rfl rfl rfl (by decide +kernel) ⟨Nat.le_of_ble_eq_true rfl, Nat.le_of_ble_eq_true rfl⟩) (PW_preS hK hP) rfl rfl hl.1 rfl (lv_room (Nat.le_of_ble_eq_true rfl)) dL_isSo_607 ⟨Nat.zero_le _, Nat.zero_le _⟩) ?_
                                                refine q_top (y := (xL_estimate (R 83) (R 84) (R 86) (R 88) k2 kw)) (by rw [hkR 83 (by decide) (by decide), hkR 84 (by decide) (by decide), hkR 86 (by decide) (by decide), hkR 88 (by decide) (by decide)]) ?_
                                                refine lv_goto (tgt := 615) hx hb dL_isSo_610 (by decide) ?_
                                                refine lv_icmp_ne (tgt := 651) hx hb dL_isSo_615 (by decide) (fun c_615 => ?_) (fun c_615 => ?_)
                                                · exact absurd rfl c_615
                                                · refine lv_aload_n hx hb dL_isSo_618 rfl (lv_at hl 9 rfl) ?_
                                                  refine lv_iload hx hb dL_isSo_619 (lv_at hl 5 rfl) ?_
                                                  refine q_callS (va_runV (As := [.int (nI k2)]) (rest := []) ⟨hx, hb, hml, hown, hts⟩ (mX1_certainty l D cI cS ad hI Q21 F (nI k2)) (cwV 1 hts gL_isSo_X1_certainty rfl rfl rfl (by decide +kernel) ⟨Nat.le_of_ble_eq_true rfl, Nat.le_of_ble_eq_true rfl⟩) (PW_preV (i := 0) (by decide) CC_0 rfl rfl hK hP) rfl rfl hl.1 rfl (lv_room (Nat.le_of_ble_eq_true rfl)) dL_isSo_621 ⟨Nat.zero_le _, Nat.zero_le _⟩) ?_
                                                  refine q_top (y := (xL_certainty (R 83) (R 87) (R 88) k2)) (lk_con hN (by omega) c_304) ?_
                                                  refine lv_iload hx hb dL_isSo_624 (lv_at hl 4 rfl) ?_
                                                  refine lv_if_eq (tgt := 642) hx hb dL_isSo_626 (by decide) (fun c_626 => ?_) (fun c_626 => ?_)
                                                  · exact absurd c_626 c_596
                                                  · refine lv_aload_n hx hb dL_isSo_629 rfl (lv_at hl 10 rfl) ?_
                                                    refine lv_aload hx hb dL_isSo_630 (lv_at hl 14 rfl) ?_
                                                    refine lv_aload hx hb dL_isSo_632 (lv_at hl 15 rfl) ?_
                                                    refine lv_iload hx hb dL_isSo_634 (lv_at hl 5 rfl) ?_
                                                    refine q_callS (va_runS (As := [.ref (ad 83), .ref (ad 87), .ref (ad 88), .int (nI k2)]) (rest := [.int (xL_certainty (R 83) (R 87) (R 88) k2)]) ⟨hx, hb, hml, hown, hts⟩ (mL_certainty l D cI cS ad hI Q21 F k2 (by omega)) (va_cwS 4 hts gL_isSo_L_certainty rfl rfl rfl (by decide +kernel) ⟨Nat.le_of_ble_eq_true rfl, Nat.le_of_ble_eq_true rfl⟩) (PW_preS hK hP) rfl rfl hl.1 rfl (lv_room (Nat.le_of_ble_eq_true rfl)) dL_isSo_636 ⟨Nat.zero_le _, Nat.zero_le _⟩) ?_
                                                    refine q_top (y := (xL_certainty (R 83) (R 87) (R 88) k2)) (by rw [hkR 83 (by decide) (by decide), hkR 87 (by decide) (by decide), hkR 88 (by decide) (by decide)]) ?_
                                                    refine lv_goto (tgt := 644) hx hb dL_isSo_639 (by decide) ?_
                                                    refine lv_icmp_ne (tgt := 651) hx hb dL_isSo_644 (by decide) (fun c_644 => ?_) (fun c_644 => ?_)
                                                    · exact absurd rfl c_644
                                                    · refine lv_iconst (v := 1) hx hb dL_isSo_647 (by decide) ?_
                                                      refine lv_goto (tgt := 652) hx hb dL_isSo_648 (by decide) ?_
                                                      refine lv_istore (lv' := [(14, .int (1 : Int32)), (11, .int (sHe R (k2 + 1))), (13, .int (sWr R (k2 + 1))), (12, .int (sAb R (k2 + 1))), (16, .int (1 : Int32)), (15, .int (nI k2)), (10, .int (sZe R 24)), (9, .int (sTa R 24)), (8, .int (sRd R kw 24)), (0, .ref (ad 0)), (1, .ref (ad 83)), (2, .ref (ad 84)), (3, .ref (ad 85)), (4, .ref (ad 86)), (5, .ref (ad 87)), (6, .ref (ad 88)), (7, .ref (ad 89))]) hx hb dL_isSo_652 hl (by decide) rfl (fun ls hl => ?_)
                                                      refine lv_iinc (v := (nI (k2 + 1))) (lv' := [(15, .int (nI (k2 + 1))), (14, .int (1 : Int32)), (11, .int (sHe R (k2 + 1))), (13, .int (sWr R (k2 + 1))), (12, .int (sAb R (k2 + 1))), (16, .int (1 : Int32)), (10, .int (sZe R 24)), (9, .int (sTa R 24)), (8, .int (sRd R kw 24)), (0, .ref (ad 0)), (1, .ref (ad 83)), (2, .ref (ad 84)), (3, .ref (ad 85)), (4, .ref (ad 86)), (5, .ref (ad 87)), (6, .ref (ad 88)), (7, .ref (ad 89))]) hx hb dL_isSo_654 hl (k := 5) rfl (nI_1 k2) (by decide) rfl (fun ls hl => ?_)
                                                      refine lv_goto (tgt := 282) hx hb dL_isSo_657 (by decide) ?_
                                                      exact ih2 _ _ _ ⟨(k2 + 1), Q21, by omega, hN, hkR, hP, hS, lv_sub hl [0, 1, 3, 4, 2, 6, 7, 8, 9, 10, 11, 12, 13, 14, 15, 16] rfl⟩
                                    · refine lv_ldc (v := -100009) hx hb hown lk94 dL_isSo_521 ?_
                                      refine lv_goto (tgt := 533) hx hb dL_isSo_523 (by decide) ?_
                                      refine lv_icmp_ne (tgt := 580) hx hb dL_isSo_533 (by decide) (fun c_533 => ?_) (fun c_533 => ?_)
                                      · exact absurd (un_nge c_518) c_533
                                      · refine lv_aload_n hx hb dL_isSo_536 rfl (lv_at hl 9 rfl) ?_
                                        refine lv_iload hx hb dL_isSo_537 (lv_at hl 4 rfl) ?_
                                        refine lv_bipush (v := 6) hx hb dL_isSo_539 (by decide) ?_
                                        refine q_callS (va_runV (As := [.int (nI k2), .int (6 : Int32)]) (rest := []) ⟨hx, hb, hml, hown, hts⟩ (mX1_walker l D cI cS ad hI Q2 F (nI k2) (6 : Int32)) (cwV 2 hts gL_isSo_X1_walker rfl rfl rfl (by decide +kernel) ⟨Nat.le_of_ble_eq_true rfl, Nat.le_of_ble_eq_true rfl⟩) (PW_preV (i := 0) (by decide) CC_0 rfl rfl hK hP) rfl rfl hl.1 rfl (lv_room (Nat.le_of_ble_eq_true rfl)) dL_isSo_541 ⟨Nat.zero_le _, Nat.zero_le _⟩) ?_
                                        refine q_top (y := (R 89 ((5 * k2) + 1))) (lk_w6 hN (by omega)) ?_
                                        refine lv_aload hx hb dL_isSo_544 (lv_at hl 16 rfl) ?_
                                        refine lv_iconst (v := 5) hx hb dL_isSo_546 (by decide) ?_
                                        refine lv_iload hx hb dL_isSo_547 (lv_at hl 4 rfl) ?_
                                        refine lv_imul hx hb dL_isSo_549 ?_
                                        refine q_top (y := (nI (5 * k2))) (pk_mul 5 k2) ?_
                                        refine lv_iconst (v := 1) hx hb dL_isSo_550 (by decide) ?_
                                        refine lv_iadd hx hb dL_isSo_551 ?_
                                        refine q_top (y := (nI ((5 * k2) + 1))) (nI_add (5 * k2) 1) ?_
                                        refine q_ildN hx hb hK hP 89 40 (ar_89) ((5 * k2) + 1) dL_isSo_552 rfl (by omega) (by decide) ?_
                                        refine q_top (y := (R 89 ((5 * k2) + 1))) (congrFun (hkR 89 (by decide) (by decide)) _) ?_
                                        refine lv_icmp_ne (tgt := 580) hx hb dL_isSo_553 (by decide) (fun c_553 => ?_) (fun c_553 => ?_)
                                        · exact absurd rfl c_553
                                        · refine lv_aload_n hx hb dL_isSo_556 rfl (lv_at hl 9 rfl) ?_
                                          refine lv_iload hx hb dL_isSo_557 (lv_at hl 4 rfl) ?_
                                          refine lv_bipush (v := 7) hx hb dL_isSo_559 (by decide) ?_
                                          refine q_callS (va_runV (As := [.int (nI k2), .int (7 : Int32)]) (rest := []) ⟨hx, hb, hml, hown, hts⟩ (mX1_walker l D cI cS ad hI Q2 F (nI k2) (7 : Int32)) (cwV 2 hts gL_isSo_X1_walker rfl rfl rfl (by decide +kernel) ⟨Nat.le_of_ble_eq_true rfl, Nat.le_of_ble_eq_true rfl⟩) (PW_preV (i := 0) (by decide) CC_0 rfl rfl hK hP) rfl rfl hl.1 rfl (lv_room (Nat.le_of_ble_eq_true rfl)) dL_isSo_561 ⟨Nat.zero_le _, Nat.zero_le _⟩) ?_
                                          refine q_top (y := (R 89 ((5 * k2) + 2))) (lk_w7 hN (by omega)) ?_
                                          refine lv_aload hx hb dL_isSo_564 (lv_at hl 16 rfl) ?_
                                          refine lv_iconst (v := 5) hx hb dL_isSo_566 (by decide) ?_
                                          refine lv_iload hx hb dL_isSo_567 (lv_at hl 4 rfl) ?_
                                          refine lv_imul hx hb dL_isSo_569 ?_
                                          refine q_top (y := (nI (5 * k2))) (pk_mul 5 k2) ?_
                                          refine lv_iconst (v := 2) hx hb dL_isSo_570 (by decide) ?_
                                          refine lv_iadd hx hb dL_isSo_571 ?_
                                          refine q_top (y := (nI ((5 * k2) + 2))) (nI_add (5 * k2) 2) ?_
                                          refine q_ildN hx hb hK hP 89 40 (ar_89) ((5 * k2) + 2) dL_isSo_572 rfl (by omega) (by decide) ?_
                                          refine q_top (y := (R 89 ((5 * k2) + 2))) (congrFun (hkR 89 (by decide) (by decide)) _) ?_
                                          refine lv_icmp_ne (tgt := 580) hx hb dL_isSo_573 (by decide) (fun c_573 => ?_) (fun c_573 => ?_)
                                          · exact absurd rfl c_573
                                          · refine lv_iconst (v := 1) hx hb dL_isSo_576 (by decide) ?_
                                            refine lv_goto (tgt := 581) hx hb dL_isSo_577 (by decide) ?_
                                            refine lv_istore (lv' := [(14, .int (1 : Int32)), (11, .int (sHe R (k2 + 1))), (13, .int (sWr R (k2 + 1))), (12, .int (sAb R (k2 + 1))), (16, .int (1 : Int32)), (15, .int (nI k2)), (10, .int (sZe R 24)), (9, .int (sTa R 24)), (8, .int (sRd R kw 24)), (0, .ref (ad 0)), (1, .ref (ad 83)), (2, .ref (ad 84)), (3, .ref (ad 85)), (4, .ref (ad 86)), (5, .ref (ad 87)), (6, .ref (ad 88)), (7, .ref (ad 89))]) hx hb dL_isSo_581 hl (by decide) rfl (fun ls hl => ?_)
                                            refine lv_iload hx hb dL_isSo_583 (lv_at hl 0 rfl) ?_
                                            refine lv_if_eq (tgt := 651) hx hb dL_isSo_585 (by decide) (fun c_585 => ?_) (fun c_585 => ?_)
                                            · exact absurd c_585 c_465
                                            · refine lv_aload_n hx hb dL_isSo_588 rfl (lv_at hl 9 rfl) ?_
                                              refine lv_iload hx hb dL_isSo_589 (lv_at hl 5 rfl) ?_
                                              refine q_callI (va_runV (As := [.int (nI k2)]) (rest := []) ⟨hx, hb, hml, hown, hts⟩ (mX1_estimate l D cI cS ad hI Q2 F (nI k2)) (cwV 1 hts gL_isSo_X1_estimate rfl rfl rfl (by decide +kernel) ⟨Nat.le_of_ble_eq_true rfl, Nat.le_of_ble_eq_true rfl⟩) (PW_preV (i := 0) (by decide) CC_0 rfl rfl hK hP) rfl rfl hl.1 rfl (lv_room (Nat.le_of_ble_eq_true rfl)) dL_isSo_591 ⟨Nat.zero_le _, Nat.zero_le _⟩) hS (fun H locs hP hS => ?_)
                                              refine q_top (y := (xL_estimate (R 83) (R 84) (R 86) (R 88) k2 kw)) (lk_eon hN (by omega) c_304) ?_
                                              have hq : ∀ i, i ≠ 15 → i ≠ 16 → (xX1_estimate Q2 F (nI k2)).2 i = Q2 i := fun i h1 h2 => estimate_kp h1 h2
                                              generalize (xX1_estimate Q2 F (nI k2)).2 = Q22 at hP hq
                                              have hN : NOW Q22 F R kw mi := NOW_rows hN (fun j h1 h2 => hq j (by omega) (by omega)) rfl (fun _ _ _ => rfl)
                                              have hkR : ∀ i, i ≠ 15 → i ≠ 16 → Q22 i = R i := fun i h1 h2 => (hq i h1 h2).trans (hkR i h1 h2)
                                              clear hq
                                              refine lv_iload hx hb dL_isSo_594 (lv_at hl 4 rfl) ?_
                                              refine lv_if_eq (tgt := 613) hx hb dL_isSo_596 (by decide) (fun c_596 => ?_) (fun c_596 => ?_)
                                              · exact absurd c_596 c_585
                                              · refine lv_aload_n hx hb dL_isSo_599 rfl (lv_at hl 10 rfl) ?_
                                                refine lv_aload_n hx hb dL_isSo_600 rfl (lv_at hl 11 rfl) ?_
                                                refine lv_aload hx hb dL_isSo_601 (lv_at hl 13 rfl) ?_
                                                refine lv_aload hx hb dL_isSo_603 (lv_at hl 15 rfl) ?_
                                                refine lv_iload hx hb dL_isSo_605 (lv_at hl 5 rfl) ?_
                                                refine q_callS (va_runS (As := [.ref (ad 83), .ref (ad 84), .ref (ad 86), .ref (ad 88), .int (nI k2)]) (rest := [.int (xL_estimate (R 83) (R 84) (R 86) (R 88) k2 kw)]) ⟨hx, hb, hml, hown, hts⟩ (mL_estimate l D cI cS ad hI Q22 F k2 kw (by omega) hkw ((congrFun (hkR 83 (by decide) (by decide)) 1).trans hW)) (va_cwS 5 hts gL_isSo_L_estimate rfl rfl rfl (by decide +kernel) ⟨Nat.le_of_ble_eq_true rfl, Nat.le_of_ble_eq_true rfl⟩) (PW_preS hK hP) rfl rfl hl.1 rfl (lv_room (Nat.le_of_ble_eq_true rfl)) dL_isSo_607 ⟨Nat.zero_le _, Nat.zero_le _⟩) ?_
                                                refine q_top (y := (xL_estimate (R 83) (R 84) (R 86) (R 88) k2 kw)) (by rw [hkR 83 (by decide) (by decide), hkR 84 (by decide) (by decide), hkR 86 (by decide) (by decide), hkR 88 (by decide) (by decide)]) ?_
                                                refine lv_goto (tgt := 615) hx hb dL_isSo_610 (by decide) ?_
                                                refine lv_icmp_ne (tgt := 651) hx hb dL_isSo_615 (by decide) (fun c_615 => ?_) (fun c_615 => ?_)
                                                · exact absurd rfl c_615
                                                · refine lv_aload_n hx hb dL_isSo_618 rfl (lv_at hl 9 rfl) ?_
                                                  refine lv_iload hx hb dL_isSo_619 (lv_at hl 5 rfl) ?_
                                                  refine q_callS (va_runV (As := [.int (nI k2)]) (rest := []) ⟨hx, hb, hml, hown, hts⟩ (mX1_certainty l D cI cS ad hI Q22 F (nI k2)) (cwV 1 hts gL_isSo_X1_certainty rfl rfl rfl (by decide +kernel) ⟨Nat.le_of_ble_eq_true rfl, Nat.le_of_ble_eq_true rfl⟩) (PW_preV (i := 0) (by decide) CC_0 rfl rfl hK hP) rfl rfl hl.1 rfl (lv_room (Nat.le_of_ble_eq_true rfl)) dL_isSo_621 ⟨Nat.zero_le _, Nat.zero_le _⟩) ?_
                                                  refine q_top (y := (xL_certainty (R 83) (R 87) (R 88) k2)) (lk_con hN (by omega) c_304) ?_
                                                  refine lv_iload hx hb dL_isSo_624 (lv_at hl 4 rfl) ?_
                                                  refine lv_if_eq (tgt := 642) hx hb dL_isSo_626 (by decide) (fun c_626 => ?_) (fun c_626 => ?_)
                                                  · exact absurd c_626 c_596
                                                  · refine lv_aload_n hx hb dL_isSo_629 rfl (lv_at hl 10 rfl) ?_
                                                    refine lv_aload hx hb dL_isSo_630 (lv_at hl 14 rfl) ?_
                                                    refine lv_aload hx hb dL_isSo_632 (lv_at hl 15 rfl) ?_
                                                    refine lv_iload hx hb dL_isSo_634 (lv_at hl 5 rfl) ?_
                                                    refine q_callS (va_runS (As := [.ref (ad 83), .ref (ad 87), .ref (ad 88), .int (nI k2)]) (rest := [.int (xL_certainty (R 83) (R 87) (R 88) k2)]) ⟨hx, hb, hml, hown, hts⟩ (mL_certainty l D cI cS ad hI Q22 F k2 (by omega)) (va_cwS 4 hts gL_isSo_L_certainty rfl rfl rfl (by decide +kernel) ⟨Nat.le_of_ble_eq_true rfl, Nat.le_of_ble_eq_true rfl⟩) (PW_preS hK hP) rfl rfl hl.1 rfl (lv_room (Nat.le_of_ble_eq_true rfl)) dL_isSo_636 ⟨Nat.zero_le _, Nat.zero_le _⟩) ?_
                                                    refine q_top (y := (xL_certainty (R 83) (R 87) (R 88) k2)) (by rw [hkR 83 (by decide) (by decide), hkR 87 (by decide) (by decide), hkR 88 (by decide) (by decide)]) ?_
                                                    refine lv_goto (tgt := 644) hx hb dL_isSo_639 (by decide) ?_
                                                    refine lv_icmp_ne (tgt := 651) hx hb dL_isSo_644 (by decide) (fun c_644 => ?_) (fun c_644 => ?_)
                                                    · exact absurd rfl c_644
                                                    · refine lv_iconst (v := 1) hx hb dL_isSo_647 (by decide) ?_
                                                      refine lv_goto (tgt := 652) hx hb dL_isSo_648 (by decide) ?_
                                                      refine lv_istore (lv' := [(14, .int (1 : Int32)), (11, .int (sHe R (k2 + 1))), (13, .int (sWr R (k2 + 1))), (12, .int (sAb R (k2 + 1))), (16, .int (1 : Int32)), (15, .int (nI k2)), (10, .int (sZe R 24)), (9, .int (sTa R 24)), (8, .int (sRd R kw 24)), (0, .ref (ad 0)), (1, .ref (ad 83)), (2, .ref (ad 84)), (3, .ref (ad 85)), (4, .ref (ad 86)), (5, .ref (ad 87)), (6, .ref (ad 88)), (7, .ref (ad 89))]) hx hb dL_isSo_652 hl (by decide) rfl (fun ls hl => ?_)
                                                      refine lv_iinc (v := (nI (k2 + 1))) (lv' := [(15, .int (nI (k2 + 1))), (14, .int (1 : Int32)), (11, .int (sHe R (k2 + 1))), (13, .int (sWr R (k2 + 1))), (12, .int (sAb R (k2 + 1))), (16, .int (1 : Int32)), (10, .int (sZe R 24)), (9, .int (sTa R 24)), (8, .int (sRd R kw 24)), (0, .ref (ad 0)), (1, .ref (ad 83)), (2, .ref (ad 84)), (3, .ref (ad 85)), (4, .ref (ad 86)), (5, .ref (ad 87)), (6, .ref (ad 88)), (7, .ref (ad 89))]) hx hb dL_isSo_654 hl (k := 5) rfl (nI_1 k2) (by decide) rfl (fun ls hl => ?_)
                                                      refine lv_goto (tgt := 282) hx hb dL_isSo_657 (by decide) ?_
                                                      exact ih2 _ _ _ ⟨(k2 + 1), Q22, by omega, hN, hkR, hP, hS, lv_sub hl [0, 1, 3, 4, 2, 6, 7, 8, 9, 10, 11, 12, 13, 14, 15, 16] rfl⟩
    · exact absurd (nI_le (a := 24) (b := 24) (by omega) (by omega)) c_28
  · intro n ih H locs ls hz
    obtain ⟨k, Q1, hkn, hN, hkR, hP, hS, hl⟩ := hz
    refine lv_iload hx hb dL_isSo_24 (lv_at hl 0 rfl) ?_
    refine lv_bipush (v := 24) hx hb dL_isSo_26 (by decide) ?_
    refine lv_icmp_ge (tgt := 279) hx hb dL_isSo_28 (by decide) (fun c_28 => ?_) (fun c_28 => ?_)
    · exact absurd c_28 (nI_ge (a := k) (b := 24) (by omega) (by omega))
    · refine lv_iload hx hb dL_isSo_31 (lv_at hl 1 rfl) ?_
      refine lv_if_eq (tgt := 279) hx hb dL_isSo_33 (by decide) (fun c_33 => ?_) (fun c_33 => ?_)
      · exact absurd c_33 (by decide)
      · refine lv_aload_n hx hb dL_isSo_36 rfl (lv_at hl 9 rfl) ?_
        refine lv_aload hx hb dL_isSo_37 (lv_at hl 14 rfl) ?_
        refine lv_iload hx hb dL_isSo_39 (lv_at hl 0 rfl) ?_
        refine lv_iconst (v := 0) hx hb dL_isSo_41 (by decide) ?_
        refine lv_iconst (v := -1) hx hb dL_isSo_42 (by decide) ?_
        refine q_callS (va_runS (As := [.ref (ad 83), .ref (ad 88), .int (nI k), .int (nI 0), .int (-1 : Int32)]) (rest := []) ⟨hx, hb, hml, hown, hts⟩ (mL_gets l D cI cS ad hI Q1 F (nI k) 0 (-1 : Int32) kw (by omega) hkw ((congrFun (hkR 83 (by decide) (by decide)) 1).trans hW)) (va_cwS 5 hts gL_isSo_L_gets rfl rfl rfl (by decide +kernel) ⟨Nat.le_of_ble_eq_true rfl, Nat.le_of_ble_eq_true rfl⟩) (PW_preS hK hP) rfl rfl hl.1 rfl (lv_room (Nat.le_of_ble_eq_true rfl)) dL_isSo_43 ⟨Nat.zero_le _, Nat.zero_le _⟩) ?_
        refine q_top (y := (xL_gets (R 83) (R 88) (nI k) 0 (-1 : Int32) kw)) (by rw [hkR 83 (by decide) (by decide), hkR 88 (by decide) (by decide)]) ?_
        refine lv_aload_n hx hb dL_isSo_46 rfl (lv_at hl 10 rfl) ?_
        refine lv_iload hx hb dL_isSo_47 (lv_at hl 0 rfl) ?_
        refine q_ildN hx hb hK hP 84 24 (ar_84) k dL_isSo_49 rfl (by omega) (by decide) ?_
        refine q_top (y := (R 84 k)) (congrFun (hkR 84 (by decide) (by decide)) _) ?_
        refine lv_iadd hx hb dL_isSo_50 ?_
        refine lv_istore (lv' := [(16, .int ((xL_gets (R 83) (R 88) (nI k) 0 (-1 : Int32) kw) + (R 84 k))), (15, .int (nI k)), (14, .int (1 : Int32)), (13, .int (0 : Int32)), (12, .int (0 : Int32)), (11, .int (0 : Int32)), (10, .int (sZe R k)), (9, .int (sTa R k)), (8, .int (sRd R kw k)), (0, .ref (ad 0)), (1, .ref (ad 83)), (2, .ref (ad 84)), (3, .ref (ad 85)), (4, .ref (ad 86)), (5, .ref (ad 87)), (6, .ref (ad 88)), (7, .ref (ad 89))]) hx hb dL_isSo_51 hl (by decide) rfl (fun ls hl => ?_)
        refine lv_aload_n hx hb dL_isSo_53 rfl (lv_at hl 10 rfl) ?_
        refine lv_aload hx hb dL_isSo_54 (lv_at hl 15 rfl) ?_
        refine lv_iload hx hb dL_isSo_56 (lv_at hl 1 rfl) ?_
        refine lv_iconst (v := 1) hx hb dL_isSo_58 (by decide) ?_
        refine q_callS (va_runS (As := [.ref (ad 83), .ref (ad 88), .int (nI k), .int (nI 1)]) (rest := []) ⟨hx, hb, hml, hown, hts⟩ (mL_who l D cI cS ad hI Q1 F (nI k) 1 kw (by omega) hkw ((congrFun (hkR 83 (by decide) (by decide)) 1).trans hW)) (va_cwS 4 hts gL_isSo_L_who rfl rfl rfl (by decide +kernel) ⟨Nat.le_of_ble_eq_true rfl, Nat.le_of_ble_eq_true rfl⟩) (PW_preS hK hP) rfl rfl hl.1 rfl (lv_room (Nat.le_of_ble_eq_true rfl)) dL_isSo_59 ⟨Nat.zero_le _, Nat.zero_le _⟩) ?_
        refine q_top (y := (xL_who (R 83) (R 88) (nI k) 1 kw)) (by rw [hkR 83 (by decide) (by decide), hkR 88 (by decide) (by decide)]) ?_
        refine lv_istore (lv' := [(17, .int (xL_who (R 83) (R 88) (nI k) 1 kw)), (16, .int ((xL_gets (R 83) (R 88) (nI k) 0 (-1 : Int32) kw) + (R 84 k))), (15, .int (nI k)), (14, .int (1 : Int32)), (13, .int (0 : Int32)), (12, .int (0 : Int32)), (11, .int (0 : Int32)), (10, .int (sZe R k)), (9, .int (sTa R k)), (8, .int (sRd R kw k)), (0, .ref (ad 0)), (1, .ref (ad 83)), (2, .ref (ad 84)), (3, .ref (ad 85)), (4, .ref (ad 86)), (5, .ref (ad 87)), (6, .ref (ad 88)), (7, .ref (ad 89))]) hx hb dL_isSo_62 hl (by decide) rfl (fun ls hl => ?_)
        refine lv_aload_n hx hb dL_isSo_64 rfl (lv_at hl 11 rfl) ?_
        refine lv_aload hx hb dL_isSo_65 (lv_at hl 16 rfl) ?_
        refine lv_iload hx hb dL_isSo_67 (lv_at hl 2 rfl) ?_
        refine lv_iconst (v := 3) hx hb dL_isSo_69 (by decide) ?_
        refine q_callS (va_runS (As := [.ref (ad 83), .ref (ad 88), .int (nI k), .int (nI 3)]) (rest := []) ⟨hx, hb, hml, hown, hts⟩ (mL_who l D cI cS ad hI Q1 F (nI k) 3 kw (by omega) hkw ((congrFun (hkR 83 (by decide) (by decide)) 1).trans hW)) (va_cwS 4 hts gL_isSo_L_who rfl rfl rfl (by decide +kernel) ⟨Nat.le_of_ble_eq_true rfl, Nat.le_of_ble_eq_true rfl⟩) (PW_preS hK hP) rfl rfl hl.1 rfl (lv_room (Nat.le_of_ble_eq_true rfl)) dL_isSo_70 ⟨Nat.zero_le _, Nat.zero_le _⟩) ?_
        refine q_top (y := (xL_who (R 83) (R 88) (nI k) 3 kw)) (by rw [hkR 83 (by decide) (by decide), hkR 88 (by decide) (by decide)]) ?_
        refine lv_istore (lv' := [(18, .int (xL_who (R 83) (R 88) (nI k) 3 kw)), (17, .int (xL_who (R 83) (R 88) (nI k) 1 kw)), (16, .int ((xL_gets (R 83) (R 88) (nI k) 0 (-1 : Int32) kw) + (R 84 k))), (15, .int (nI k)), (14, .int (1 : Int32)), (13, .int (0 : Int32)), (12, .int (0 : Int32)), (11, .int (0 : Int32)), (10, .int (sZe R k)), (9, .int (sTa R k)), (8, .int (sRd R kw k)), (0, .ref (ad 0)), (1, .ref (ad 83)), (2, .ref (ad 84)), (3, .ref (ad 85)), (4, .ref (ad 86)), (5, .ref (ad 87)), (6, .ref (ad 88)), (7, .ref (ad 89))]) hx hb dL_isSo_73 hl (by decide) rfl (fun ls hl => ?_)
        refine lv_iload hx hb dL_isSo_75 (lv_at hl 10 rfl) ?_
        refine lv_iload hx hb dL_isSo_77 (lv_at hl 2 rfl) ?_
        refine lv_iadd hx hb dL_isSo_79 ?_
        refine q_top (y := (sRd R kw (k + 1))) (sRd_s _ _ _).symm ?_
        refine lv_istore (lv' := [(8, .int (sRd R kw (k + 1))), (18, .int (xL_who (R 83) (R 88) (nI k) 3 kw)), (17, .int (xL_who (R 83) (R 88) (nI k) 1 kw)), (16, .int ((xL_gets (R 83) (R 88) (nI k) 0 (-1 : Int32) kw) + (R 84 k))), (15, .int (nI k)), (14, .int (1 : Int32)), (13, .int (0 : Int32)), (12, .int (0 : Int32)), (11, .int (0 : Int32)), (10, .int (sZe R k)), (9, .int (sTa R k)), (0, .ref (ad 0)), (1, .ref (ad 83)), (2, .ref (ad 84)), (3, .ref (ad 85)), (4, .ref (ad 86)), (5, .ref (ad 87)), (6, .ref (ad 88)), (7, .ref (ad 89))]) hx hb dL_isSo_80 hl (by decide) rfl (fun ls hl => ?_)
        refine lv_iload hx hb dL_isSo_82 (lv_at hl 10 rfl) ?_
        refine lv_aload hx hb dL_isSo_84 (lv_at hl 15 rfl) ?_
        refine lv_iload hx hb dL_isSo_86 (lv_at hl 4 rfl) ?_
        refine q_ildN hx hb hK hP 86 24 (ar_86) k dL_isSo_88 rfl (by omega) (by decide) ?_
        refine q_top (y := (R 86 k)) (congrFun (hkR 86 (by decide) (by decide)) _) ?_
        refine lv_iadd hx hb dL_isSo_89 ?_
        refine q_top (y := (sTa R (k + 1))) (sTa_s _ _).symm ?_
        refine lv_istore (lv' := [(9, .int (sTa R (k + 1))), (8, .int (sRd R kw (k + 1))), (18, .int (xL_who (R 83) (R 88) (nI k) 3 kw)), (17, .int (xL_who (R 83) (R 88) (nI k) 1 kw)), (16, .int ((xL_gets (R 83) (R 88) (nI k) 0 (-1 : Int32) kw) + (R 84 k))), (15, .int (nI k)), (14, .int (1 : Int32)), (13, .int (0 : Int32)), (12, .int (0 : Int32)), (11, .int (0 : Int32)), (10, .int (sZe R k)), (0, .ref (ad 0)), (1, .ref (ad 83)), (2, .ref (ad 84)), (3, .ref (ad 85)), (4, .ref (ad 86)), (5, .ref (ad 87)), (6, .ref (ad 88)), (7, .ref (ad 89))]) hx hb dL_isSo_90 hl (by decide) rfl (fun ls hl => ?_)
        refine lv_iload hx hb dL_isSo_92 (lv_at hl 10 rfl) ?_
        refine lv_aload_n hx hb dL_isSo_94 rfl (lv_at hl 13 rfl) ?_
        refine lv_iload hx hb dL_isSo_95 (lv_at hl 5 rfl) ?_
        refine q_ildN hx hb hK hP 84 24 (ar_84) k dL_isSo_97 rfl (by omega) (by decide) ?_
        refine q_top (y := (R 84 k)) (congrFun (hkR 84 (by decide) (by decide)) _) ?_
        refine lv_iadd hx hb dL_isSo_98 ?_
        refine q_top (y := (sZe R (k + 1))) (sZe_s _ _).symm ?_
        refine lv_istore (lv' := [(10, .int (sZe R (k + 1))), (9, .int (sTa R (k + 1))), (8, .int (sRd R kw (k + 1))), (18, .int (xL_who (R 83) (R 88) (nI k) 3 kw)), (17, .int (xL_who (R 83) (R 88) (nI k) 1 kw)), (16, .int ((xL_gets (R 83) (R 88) (nI k) 0 (-1 : Int32) kw) + (R 84 k))), (15, .int (nI k)), (14, .int (1 : Int32)), (13, .int (0 : Int32)), (12, .int (0 : Int32)), (11, .int (0 : Int32)), (0, .ref (ad 0)), (1, .ref (ad 83)), (2, .ref (ad 84)), (3, .ref (ad 85)), (4, .ref (ad 86)), (5, .ref (ad 87)), (6, .ref (ad 88)), (7, .ref (ad 89))]) hx hb dL_isSo_99 hl (by decide) rfl (fun ls hl => ?_)
        refine lv_aload_n hx hb dL_isSo_101 rfl (lv_at hl 11 rfl) ?_
        refine lv_iload hx hb dL_isSo_102 (lv_at hl 6 rfl) ?_
        refine lv_iconst (v := 0) hx hb dL_isSo_104 (by decide) ?_
        refine q_callI (va_runV (As := [.int (nI k), .int (0 : Int32)]) (rest := []) ⟨hx, hb, hml, hown, hts⟩ (mX1_cell l D cI cS ad hI Q1 F (nI k) (0 : Int32)) (cwV 2 hts gL_isSo_X1_cell rfl rfl rfl (by decide +kernel) ⟨Nat.le_of_ble_eq_true rfl, Nat.le_of_ble_eq_true rfl⟩) (PW_preV (i := 0) (by decide) CC_0 rfl rfl hK hP) rfl rfl hl.1 rfl (lv_room (Nat.le_of_ble_eq_true rfl)) dL_isSo_105 ⟨Nat.zero_le _, Nat.zero_le _⟩) hS (fun H locs hP hS => ?_)
        refine q_top (y := ((xL_gets (R 83) (R 88) (nI k) 0 (-1 : Int32) kw) + (R 84 k))) (lk_c0 hN (by omega)) ?_
        have hq : ∀ i, i ≠ 15 → i ≠ 16 → (xX1_cell Q1 F (nI k) (0 : Int32)).2 i = Q1 i := fun i h1 h2 => cell_kp h1 h2
        generalize (xX1_cell Q1 F (nI k) (0 : Int32)).2 = Q23 at hP hq
        have hN : NOW Q23 F R kw mi := NOW_rows hN (fun j h1 h2 => hq j (by omega) (by omega)) rfl (fun _ _ _ => rfl)
        have hkR : ∀ i, i ≠ 15 → i ≠ 16 → Q23 i = R i := fun i h1 h2 => (hq i h1 h2).trans (hkR i h1 h2)
        clear hq
        refine lv_iload hx hb dL_isSo_108 (lv_at hl 5 rfl) ?_
        refine lv_icmp_ne (tgt := 270) hx hb dL_isSo_110 (by decide) (fun c_110 => ?_) (fun c_110 => ?_)
        · exact absurd rfl c_110
        · refine lv_aload_n hx hb dL_isSo_113 rfl (lv_at hl 11 rfl) ?_
          refine lv_iload hx hb dL_isSo_114 (lv_at hl 6 rfl) ?_
          refine lv_iconst (v := 1) hx hb dL_isSo_116 (by decide) ?_
          refine q_callI (va_runV (As := [.int (nI k), .int (1 : Int32)]) (rest := []) ⟨hx, hb, hml, hown, hts⟩ (mX1_cell l D cI cS ad hI Q23 F (nI k) (1 : Int32)) (cwV 2 hts gL_isSo_X1_cell rfl rfl rfl (by decide +kernel) ⟨Nat.le_of_ble_eq_true rfl, Nat.le_of_ble_eq_true rfl⟩) (PW_preV (i := 0) (by decide) CC_0 rfl rfl hK hP) rfl rfl hl.1 rfl (lv_room (Nat.le_of_ble_eq_true rfl)) dL_isSo_117 ⟨Nat.zero_le _, Nat.zero_le _⟩) hS (fun H locs hP hS => ?_)
          refine q_top (y := (R 84 k)) (lk_c1 hN (by omega)) ?_
          have hq : ∀ i, i ≠ 15 → i ≠ 16 → (xX1_cell Q23 F (nI k) (1 : Int32)).2 i = Q23 i := fun i h1 h2 => cell_kp h1 h2
          generalize (xX1_cell Q23 F (nI k) (1 : Int32)).2 = Q24 at hP hq
          have hN : NOW Q24 F R kw mi := NOW_rows hN (fun j h1 h2 => hq j (by omega) (by omega)) rfl (fun _ _ _ => rfl)
          have hkR : ∀ i, i ≠ 15 → i ≠ 16 → Q24 i = R i := fun i h1 h2 => (hq i h1 h2).trans (hkR i h1 h2)
          clear hq
          refine lv_aload_n hx hb dL_isSo_120 rfl (lv_at hl 13 rfl) ?_
          refine lv_iload hx hb dL_isSo_121 (lv_at hl 6 rfl) ?_
          refine q_ildN hx hb hK hP 84 24 (ar_84) k dL_isSo_123 rfl (by omega) (by decide) ?_
          refine q_top (y := (R 84 k)) (congrFun (hkR 84 (by decide) (by decide)) _) ?_
          refine lv_icmp_ne (tgt := 270) hx hb dL_isSo_124 (by decide) (fun c_124 => ?_) (fun c_124 => ?_)
          · exact absurd rfl c_124
          · refine lv_aload_n hx hb dL_isSo_127 rfl (lv_at hl 11 rfl) ?_
            refine lv_iload hx hb dL_isSo_128 (lv_at hl 6 rfl) ?_
            refine lv_iconst (v := 2) hx hb dL_isSo_130 (by decide) ?_
            refine q_callI (va_runV (As := [.int (nI k), .int (2 : Int32)]) (rest := []) ⟨hx, hb, hml, hown, hts⟩ (mX1_cell l D cI cS ad hI Q24 F (nI k) (2 : Int32)) (cwV 2 hts gL_isSo_X1_cell rfl rfl rfl (by decide +kernel) ⟨Nat.le_of_ble_eq_true rfl, Nat.le_of_ble_eq_true rfl⟩) (PW_preV (i := 0) (by decide) CC_0 rfl rfl hK hP) rfl rfl hl.1 rfl (lv_room (Nat.le_of_ble_eq_true rfl)) dL_isSo_131 ⟨Nat.zero_le _, Nat.zero_le _⟩) hS (fun H locs hP hS => ?_)
            refine q_top (y := (R 85 k)) (lk_c2 hN (by omega)) ?_
            have hq : ∀ i, i ≠ 15 → i ≠ 16 → (xX1_cell Q24 F (nI k) (2 : Int32)).2 i = Q24 i := fun i h1 h2 => cell_kp h1 h2
            generalize (xX1_cell Q24 F (nI k) (2 : Int32)).2 = Q25 at hP hq
            have hN : NOW Q25 F R kw mi := NOW_rows hN (fun j h1 h2 => hq j (by omega) (by omega)) rfl (fun _ _ _ => rfl)
            have hkR : ∀ i, i ≠ 15 → i ≠ 16 → Q25 i = R i := fun i h1 h2 => (hq i h1 h2).trans (hkR i h1 h2)
            clear hq
            refine lv_aload_n hx hb dL_isSo_134 rfl (lv_at hl 14 rfl) ?_
            refine lv_iload hx hb dL_isSo_135 (lv_at hl 6 rfl) ?_
            refine q_ildN hx hb hK hP 85 24 (ar_85) k dL_isSo_137 rfl (by omega) (by decide) ?_
            refine q_top (y := (R 85 k)) (congrFun (hkR 85 (by decide) (by decide)) _) ?_
            refine lv_icmp_ne (tgt := 270) hx hb dL_isSo_138 (by decide) (fun c_138 => ?_) (fun c_138 => ?_)
            · exact absurd rfl c_138
            · refine lv_aload_n hx hb dL_isSo_141 rfl (lv_at hl 11 rfl) ?_
              refine lv_iload hx hb dL_isSo_142 (lv_at hl 6 rfl) ?_
              refine lv_iconst (v := 3) hx hb dL_isSo_144 (by decide) ?_
              refine q_callI (va_runV (As := [.int (nI k), .int (3 : Int32)]) (rest := []) ⟨hx, hb, hml, hown, hts⟩ (mX1_cell l D cI cS ad hI Q25 F (nI k) (3 : Int32)) (cwV 2 hts gL_isSo_X1_cell rfl rfl rfl (by decide +kernel) ⟨Nat.le_of_ble_eq_true rfl, Nat.le_of_ble_eq_true rfl⟩) (PW_preV (i := 0) (by decide) CC_0 rfl rfl hK hP) rfl rfl hl.1 rfl (lv_room (Nat.le_of_ble_eq_true rfl)) dL_isSo_145 ⟨Nat.zero_le _, Nat.zero_le _⟩) hS (fun H locs hP hS => ?_)
              refine q_top (y := (R 86 k)) (lk_c3 hN (by omega)) ?_
              have hq : ∀ i, i ≠ 15 → i ≠ 16 → (xX1_cell Q25 F (nI k) (3 : Int32)).2 i = Q25 i := fun i h1 h2 => cell_kp h1 h2
              generalize (xX1_cell Q25 F (nI k) (3 : Int32)).2 = Q26 at hP hq
              have hN : NOW Q26 F R kw mi := NOW_rows hN (fun j h1 h2 => hq j (by omega) (by omega)) rfl (fun _ _ _ => rfl)
              have hkR : ∀ i, i ≠ 15 → i ≠ 16 → Q26 i = R i := fun i h1 h2 => (hq i h1 h2).trans (hkR i h1 h2)
              clear hq
              refine lv_aload hx hb dL_isSo_148 (lv_at hl 15 rfl) ?_
              refine lv_iload hx hb dL_isSo_150 (lv_at hl 6 rfl) ?_
              refine q_ildN hx hb hK hP 86 24 (ar_86) k dL_isSo_152 rfl (by omega) (by decide) ?_
              refine q_top (y := (R 86 k)) (congrFun (hkR 86 (by decide) (by decide)) _) ?_
              refine lv_icmp_ne (tgt := 270) hx hb dL_isSo_153 (by decide) (fun c_153 => ?_) (fun c_153 => ?_)
              · exact absurd rfl c_153
              · refine lv_aload_n hx hb dL_isSo_156 rfl (lv_at hl 11 rfl) ?_
                refine lv_iload hx hb dL_isSo_157 (lv_at hl 6 rfl) ?_
                refine lv_iconst (v := 4) hx hb dL_isSo_159 (by decide) ?_
                refine q_callI (va_runV (As := [.int (nI k), .int (4 : Int32)]) (rest := []) ⟨hx, hb, hml, hown, hts⟩ (mX1_cell l D cI cS ad hI Q26 F (nI k) (4 : Int32)) (cwV 2 hts gL_isSo_X1_cell rfl rfl rfl (by decide +kernel) ⟨Nat.le_of_ble_eq_true rfl, Nat.le_of_ble_eq_true rfl⟩) (PW_preV (i := 0) (by decide) CC_0 rfl rfl hK hP) rfl rfl hl.1 rfl (lv_room (Nat.le_of_ble_eq_true rfl)) dL_isSo_160 ⟨Nat.zero_le _, Nat.zero_le _⟩) hS (fun H locs hP hS => ?_)
                refine q_top (y := (R 87 k)) (lk_c4 hN (by omega)) ?_
                have hq : ∀ i, i ≠ 15 → i ≠ 16 → (xX1_cell Q26 F (nI k) (4 : Int32)).2 i = Q26 i := fun i h1 h2 => cell_kp h1 h2
                generalize (xX1_cell Q26 F (nI k) (4 : Int32)).2 = Q27 at hP hq
                have hN : NOW Q27 F R kw mi := NOW_rows hN (fun j h1 h2 => hq j (by omega) (by omega)) rfl (fun _ _ _ => rfl)
                have hkR : ∀ i, i ≠ 15 → i ≠ 16 → Q27 i = R i := fun i h1 h2 => (hq i h1 h2).trans (hkR i h1 h2)
                clear hq
                refine lv_aload hx hb dL_isSo_163 (lv_at hl 16 rfl) ?_
                refine lv_iload hx hb dL_isSo_165 (lv_at hl 6 rfl) ?_
                refine q_ildN hx hb hK hP 87 24 (ar_87) k dL_isSo_167 rfl (by omega) (by decide) ?_
                refine q_top (y := (R 87 k)) (congrFun (hkR 87 (by decide) (by decide)) _) ?_
                refine lv_icmp_ne (tgt := 270) hx hb dL_isSo_168 (by decide) (fun c_168 => ?_) (fun c_168 => ?_)
                · exact absurd rfl c_168
                · refine lv_aload_n hx hb dL_isSo_171 rfl (lv_at hl 11 rfl) ?_
                  refine lv_iload hx hb dL_isSo_172 (lv_at hl 6 rfl) ?_
                  refine lv_iconst (v := 5) hx hb dL_isSo_174 (by decide) ?_
                  refine q_callI (va_runV (As := [.int (nI k), .int (5 : Int32)]) (rest := []) ⟨hx, hb, hml, hown, hts⟩ (mX1_cell l D cI cS ad hI Q27 F (nI k) (5 : Int32)) (cwV 2 hts gL_isSo_X1_cell rfl rfl rfl (by decide +kernel) ⟨Nat.le_of_ble_eq_true rfl, Nat.le_of_ble_eq_true rfl⟩) (PW_preV (i := 0) (by decide) CC_0 rfl rfl hK hP) rfl rfl hl.1 rfl (lv_room (Nat.le_of_ble_eq_true rfl)) dL_isSo_175 ⟨Nat.zero_le _, Nat.zero_le _⟩) hS (fun H locs hP hS => ?_)
                  refine q_top (y := ((xL_gets (R 83) (R 88) (nI k) 2 (-1 : Int32) kw) + (R 86 k))) (lk_c5 hN (by omega)) ?_
                  have hq : ∀ i, i ≠ 15 → i ≠ 16 → (xX1_cell Q27 F (nI k) (5 : Int32)).2 i = Q27 i := fun i h1 h2 => cell_kp h1 h2
                  generalize (xX1_cell Q27 F (nI k) (5 : Int32)).2 = Q28 at hP hq
                  have hN : NOW Q28 F R kw mi := NOW_rows hN (fun j h1 h2 => hq j (by omega) (by omega)) rfl (fun _ _ _ => rfl)
                  have hkR : ∀ i, i ≠ 15 → i ≠ 16 → Q28 i = R i := fun i h1 h2 => (hq i h1 h2).trans (hkR i h1 h2)
                  clear hq
                  refine lv_aload_n hx hb dL_isSo_178 rfl (lv_at hl 12 rfl) ?_
                  refine lv_aload hx hb dL_isSo_179 (lv_at hl 17 rfl) ?_
                  refine lv_iload hx hb dL_isSo_181 (lv_at hl 6 rfl) ?_
                  refine lv_iconst (v := 2) hx hb dL_isSo_183 (by decide) ?_
                  refine lv_iconst (v := -1) hx hb dL_isSo_184 (by decide) ?_
                  refine q_callS (va_runS (As := [.ref (ad 83), .ref (ad 88), .int (nI k), .int (nI 2), .int (-1 : Int32)]) (rest := [.int ((xL_gets (R 83) (R 88) (nI k) 2 (-1 : Int32) kw) + (R 86 k))]) ⟨hx, hb, hml, hown, hts⟩ (mL_gets l D cI cS ad hI Q28 F (nI k) 2 (-1 : Int32) kw (by omega) hkw ((congrFun (hkR 83 (by decide) (by decide)) 1).trans hW)) (va_cwS 5 hts gL_isSo_L_gets rfl rfl rfl (by decide +kernel) ⟨Nat.le_of_ble_eq_true rfl, Nat.le_of_ble_eq_true rfl⟩) (PW_preS hK hP) rfl rfl hl.1 rfl (lv_room (Nat.le_of_ble_eq_true rfl)) dL_isSo_185 ⟨Nat.zero_le _, Nat.zero_le _⟩) ?_
                  refine q_top (y := (xL_gets (R 83) (R 88) (nI k) 2 (-1 : Int32) kw)) (by rw [hkR 83 (by decide) (by decide), hkR 88 (by decide) (by decide)]) ?_
                  refine lv_aload hx hb dL_isSo_188 (lv_at hl 15 rfl) ?_
                  refine lv_iload hx hb dL_isSo_190 (lv_at hl 6 rfl) ?_
                  refine q_ildN hx hb hK hP 86 24 (ar_86) k dL_isSo_192 rfl (by omega) (by decide) ?_
                  refine q_top (y := (R 86 k)) (congrFun (hkR 86 (by decide) (by decide)) _) ?_
                  refine lv_iadd hx hb dL_isSo_193 ?_
                  refine lv_icmp_ne (tgt := 270) hx hb dL_isSo_194 (by decide) (fun c_194 => ?_) (fun c_194 => ?_)
                  · exact absurd rfl c_194
                  · refine lv_aload_n hx hb dL_isSo_197 rfl (lv_at hl 11 rfl) ?_
                    refine lv_iload hx hb dL_isSo_198 (lv_at hl 6 rfl) ?_
                    refine lv_bipush (v := 6) hx hb dL_isSo_200 (by decide) ?_
                    refine q_callI (va_runV (As := [.int (nI k), .int (6 : Int32)]) (rest := []) ⟨hx, hb, hml, hown, hts⟩ (mX1_cell l D cI cS ad hI Q28 F (nI k) (6 : Int32)) (cwV 2 hts gL_isSo_X1_cell rfl rfl rfl (by decide +kernel) ⟨Nat.le_of_ble_eq_true rfl, Nat.le_of_ble_eq_true rfl⟩) (PW_preV (i := 0) (by decide) CC_0 rfl rfl hK hP) rfl rfl hl.1 rfl (lv_room (Nat.le_of_ble_eq_true rfl)) dL_isSo_202 ⟨Nat.zero_le _, Nat.zero_le _⟩) hS (fun H locs hP hS => ?_)
                    refine q_top (y := (un (xL_who (R 83) (R 88) (nI k) 1 kw))) (lk_c6 hN (by omega)) ?_
                    have hq : ∀ i, i ≠ 15 → i ≠ 16 → (xX1_cell Q28 F (nI k) (6 : Int32)).2 i = Q28 i := fun i h1 h2 => cell_kp h1 h2
                    generalize (xX1_cell Q28 F (nI k) (6 : Int32)).2 = Q29 at hP hq
                    have hN : NOW Q29 F R kw mi := NOW_rows hN (fun j h1 h2 => hq j (by omega) (by omega)) rfl (fun _ _ _ => rfl)
                    have hkR : ∀ i, i ≠ 15 → i ≠ 16 → Q29 i = R i := fun i h1 h2 => (hq i h1 h2).trans (hkR i h1 h2)
                    clear hq
                    refine lv_iload hx hb dL_isSo_205 (lv_at hl 4 rfl) ?_
                    refine lv_if_ge (tgt := 215) hx hb dL_isSo_207 (by decide) (fun c_207 => ?_) (fun c_207 => ?_)
                    · refine lv_iload hx hb dL_isSo_215 (lv_at hl 4 rfl) ?_
                      refine lv_icmp_ne (tgt := 270) hx hb dL_isSo_217 (by decide) (fun c_217 => ?_) (fun c_217 => ?_)
                      · exact absurd (un_ge c_207) c_217
                      · refine lv_aload_n hx hb dL_isSo_220 rfl (lv_at hl 11 rfl) ?_
                        refine lv_iload hx hb dL_isSo_221 (lv_at hl 6 rfl) ?_
                        refine lv_bipush (v := 7) hx hb dL_isSo_223 (by decide) ?_
                        refine q_callI (va_runV (As := [.int (nI k), .int (7 : Int32)]) (rest := []) ⟨hx, hb, hml, hown, hts⟩ (mX1_cell l D cI cS ad hI Q29 F (nI k) (7 : Int32)) (cwV 2 hts gL_isSo_X1_cell rfl rfl rfl (by decide +kernel) ⟨Nat.le_of_ble_eq_true rfl, Nat.le_of_ble_eq_true rfl⟩) (PW_preV (i := 0) (by decide) CC_0 rfl rfl hK hP) rfl rfl hl.1 rfl (lv_room (Nat.le_of_ble_eq_true rfl)) dL_isSo_225 ⟨Nat.zero_le _, Nat.zero_le _⟩) hS (fun H locs hP hS => ?_)
                        refine q_top (y := (un (xL_who (R 83) (R 88) (nI k) 3 kw))) (lk_c7 hN (by omega)) ?_
                        have hq : ∀ i, i ≠ 15 → i ≠ 16 → (xX1_cell Q29 F (nI k) (7 : Int32)).2 i = Q29 i := fun i h1 h2 => cell_kp h1 h2
                        generalize (xX1_cell Q29 F (nI k) (7 : Int32)).2 = Q30 at hP hq
                        have hN : NOW Q30 F R kw mi := NOW_rows hN (fun j h1 h2 => hq j (by omega) (by omega)) rfl (fun _ _ _ => rfl)
                        have hkR : ∀ i, i ≠ 15 → i ≠ 16 → Q30 i = R i := fun i h1 h2 => (hq i h1 h2).trans (hkR i h1 h2)
                        clear hq
                        refine lv_iload hx hb dL_isSo_228 (lv_at hl 3 rfl) ?_
                        refine lv_if_ge (tgt := 238) hx hb dL_isSo_230 (by decide) (fun c_230 => ?_) (fun c_230 => ?_)
                        · refine lv_iload hx hb dL_isSo_238 (lv_at hl 3 rfl) ?_
                          refine lv_icmp_ne (tgt := 270) hx hb dL_isSo_240 (by decide) (fun c_240 => ?_) (fun c_240 => ?_)
                          · exact absurd (un_ge c_230) c_240
                          · refine lv_iload hx hb dL_isSo_243 (lv_at hl 4 rfl) ?_
                            refine lv_if_ge (tgt := 252) hx hb dL_isSo_245 (by decide) (fun c_245 => ?_) (fun c_245 => ?_)
                            · refine lv_iconst (v := 0) hx hb dL_isSo_252 (by decide) ?_
                              refine lv_iload hx hb dL_isSo_253 (lv_at hl 3 rfl) ?_
                              refine lv_if_ge (tgt := 262) hx hb dL_isSo_255 (by decide) (fun c_255 => ?_) (fun c_255 => ?_)
                              · refine lv_iconst (v := 0) hx hb dL_isSo_262 (by decide) ?_
                                refine lv_icmp_ne (tgt := 270) hx hb dL_isSo_263 (by decide) (fun c_263 => ?_) (fun c_263 => ?_)
                                · exact absurd rfl c_263
                                · refine lv_iconst (v := 1) hx hb dL_isSo_266 (by decide) ?_
                                  refine lv_goto (tgt := 271) hx hb dL_isSo_267 (by decide) ?_
                                  refine lv_istore (lv' := [(14, .int (1 : Int32)), (10, .int (sZe R (k + 1))), (9, .int (sTa R (k + 1))), (8, .int (sRd R kw (k + 1))), (18, .int (xL_who (R 83) (R 88) (nI k) 3 kw)), (17, .int (xL_who (R 83) (R 88) (nI k) 1 kw)), (16, .int ((xL_gets (R 83) (R 88) (nI k) 0 (-1 : Int32) kw) + (R 84 k))), (15, .int (nI k)), (13, .int (0 : Int32)), (12, .int (0 : Int32)), (11, .int (0 : Int32)), (0, .ref (ad 0)), (1, .ref (ad 83)), (2, .ref (ad 84)), (3, .ref (ad 85)), (4, .ref (ad 86)), (5, .ref (ad 87)), (6, .ref (ad 88)), (7, .ref (ad 89))]) hx hb dL_isSo_271 hl (by decide) rfl (fun ls hl => ?_)
                                  refine lv_iinc (v := (nI (k + 1))) (lv' := [(15, .int (nI (k + 1))), (14, .int (1 : Int32)), (10, .int (sZe R (k + 1))), (9, .int (sTa R (k + 1))), (8, .int (sRd R kw (k + 1))), (18, .int (xL_who (R 83) (R 88) (nI k) 3 kw)), (17, .int (xL_who (R 83) (R 88) (nI k) 1 kw)), (16, .int ((xL_gets (R 83) (R 88) (nI k) 0 (-1 : Int32) kw) + (R 84 k))), (13, .int (0 : Int32)), (12, .int (0 : Int32)), (11, .int (0 : Int32)), (0, .ref (ad 0)), (1, .ref (ad 83)), (2, .ref (ad 84)), (3, .ref (ad 85)), (4, .ref (ad 86)), (5, .ref (ad 87)), (6, .ref (ad 88)), (7, .ref (ad 89))]) hx hb dL_isSo_273 hl (k := 7) rfl (nI_1 k) (by decide) rfl (fun ls hl => ?_)
                                  refine lv_goto (tgt := 24) hx hb dL_isSo_276 (by decide) ?_
                                  exact ih _ _ _ ⟨(k + 1), Q30, by omega, hN, hkR, hP, hS, lv_sub hl [0, 1, 8, 9, 10, 2, 3, 4, 11, 12, 13, 14, 15, 16, 17, 18] rfl⟩
                              · exact absurd c_230 c_255
                            · exact absurd c_207 c_245
                        · exact absurd ((who_both hN (by omega)).mp c_207) c_230
                    · refine lv_ldc (v := -100009) hx hb hown lk94 dL_isSo_210 ?_
                      refine lv_goto (tgt := 217) hx hb dL_isSo_212 (by decide) ?_
                      refine lv_icmp_ne (tgt := 270) hx hb dL_isSo_217 (by decide) (fun c_217 => ?_) (fun c_217 => ?_)
                      · exact absurd (un_nge c_207) c_217
                      · refine lv_aload_n hx hb dL_isSo_220 rfl (lv_at hl 11 rfl) ?_
                        refine lv_iload hx hb dL_isSo_221 (lv_at hl 6 rfl) ?_
                        refine lv_bipush (v := 7) hx hb dL_isSo_223 (by decide) ?_
                        refine q_callI (va_runV (As := [.int (nI k), .int (7 : Int32)]) (rest := []) ⟨hx, hb, hml, hown, hts⟩ (mX1_cell l D cI cS ad hI Q29 F (nI k) (7 : Int32)) (cwV 2 hts gL_isSo_X1_cell rfl rfl rfl (by decide +kernel) ⟨Nat.le_of_ble_eq_true rfl, Nat.le_of_ble_eq_true rfl⟩) (PW_preV (i := 0) (by decide) CC_0 rfl rfl hK hP) rfl rfl hl.1 rfl (lv_room (Nat.le_of_ble_eq_true rfl)) dL_isSo_225 ⟨Nat.zero_le _, Nat.zero_le _⟩) hS (fun H locs hP hS => ?_)
                        refine q_top (y := (un (xL_who (R 83) (R 88) (nI k) 3 kw))) (lk_c7 hN (by omega)) ?_
                        have hq : ∀ i, i ≠ 15 → i ≠ 16 → (xX1_cell Q29 F (nI k) (7 : Int32)).2 i = Q29 i := fun i h1 h2 => cell_kp h1 h2
                        generalize (xX1_cell Q29 F (nI k) (7 : Int32)).2 = Q31 at hP hq
                        have hN : NOW Q31 F R kw mi := NOW_rows hN (fun j h1 h2 => hq j (by omega) (by omega)) rfl (fun _ _ _ => rfl)
                        have hkR : ∀ i, i ≠ 15 → i ≠ 16 → Q31 i = R i := fun i h1 h2 => (hq i h1 h2).trans (hkR i h1 h2)
                        clear hq
                        refine lv_iload hx hb dL_isSo_228 (lv_at hl 3 rfl) ?_
                        refine lv_if_ge (tgt := 238) hx hb dL_isSo_230 (by decide) (fun c_230 => ?_) (fun c_230 => ?_)
                        · exact absurd ((who_both hN (by omega)).mpr c_230) c_207
                        · refine lv_ldc (v := -100009) hx hb hown lk94 dL_isSo_233 ?_
                          refine lv_goto (tgt := 240) hx hb dL_isSo_235 (by decide) ?_
                          refine lv_icmp_ne (tgt := 270) hx hb dL_isSo_240 (by decide) (fun c_240 => ?_) (fun c_240 => ?_)
                          · exact absurd (un_nge c_230) c_240
                          · refine lv_iload hx hb dL_isSo_243 (lv_at hl 4 rfl) ?_
                            refine lv_if_ge (tgt := 252) hx hb dL_isSo_245 (by decide) (fun c_245 => ?_) (fun c_245 => ?_)
                            · exact absurd c_245 c_207
                            · refine lv_iconst (v := 1) hx hb dL_isSo_248 (by decide) ?_
                              refine lv_goto (tgt := 253) hx hb dL_isSo_249 (by decide) ?_
                              refine lv_iload hx hb dL_isSo_253 (lv_at hl 3 rfl) ?_
                              refine lv_if_ge (tgt := 262) hx hb dL_isSo_255 (by decide) (fun c_255 => ?_) (fun c_255 => ?_)
                              · exact absurd c_255 c_230
                              · refine lv_iconst (v := 1) hx hb dL_isSo_258 (by decide) ?_
                                refine lv_goto (tgt := 263) hx hb dL_isSo_259 (by decide) ?_
                                refine lv_icmp_ne (tgt := 270) hx hb dL_isSo_263 (by decide) (fun c_263 => ?_) (fun c_263 => ?_)
                                · exact absurd (by decide) c_263
                                · refine lv_iconst (v := 1) hx hb dL_isSo_266 (by decide) ?_
                                  refine lv_goto (tgt := 271) hx hb dL_isSo_267 (by decide) ?_
                                  refine lv_istore (lv' := [(14, .int (1 : Int32)), (10, .int (sZe R (k + 1))), (9, .int (sTa R (k + 1))), (8, .int (sRd R kw (k + 1))), (18, .int (xL_who (R 83) (R 88) (nI k) 3 kw)), (17, .int (xL_who (R 83) (R 88) (nI k) 1 kw)), (16, .int ((xL_gets (R 83) (R 88) (nI k) 0 (-1 : Int32) kw) + (R 84 k))), (15, .int (nI k)), (13, .int (0 : Int32)), (12, .int (0 : Int32)), (11, .int (0 : Int32)), (0, .ref (ad 0)), (1, .ref (ad 83)), (2, .ref (ad 84)), (3, .ref (ad 85)), (4, .ref (ad 86)), (5, .ref (ad 87)), (6, .ref (ad 88)), (7, .ref (ad 89))]) hx hb dL_isSo_271 hl (by decide) rfl (fun ls hl => ?_)
                                  refine lv_iinc (v := (nI (k + 1))) (lv' := [(15, .int (nI (k + 1))), (14, .int (1 : Int32)), (10, .int (sZe R (k + 1))), (9, .int (sTa R (k + 1))), (8, .int (sRd R kw (k + 1))), (18, .int (xL_who (R 83) (R 88) (nI k) 3 kw)), (17, .int (xL_who (R 83) (R 88) (nI k) 1 kw)), (16, .int ((xL_gets (R 83) (R 88) (nI k) 0 (-1 : Int32) kw) + (R 84 k))), (13, .int (0 : Int32)), (12, .int (0 : Int32)), (11, .int (0 : Int32)), (0, .ref (ad 0)), (1, .ref (ad 83)), (2, .ref (ad 84)), (3, .ref (ad 85)), (4, .ref (ad 86)), (5, .ref (ad 87)), (6, .ref (ad 88)), (7, .ref (ad 89))]) hx hb dL_isSo_273 hl (k := 7) rfl (nI_1 k) (by decide) rfl (fun ls hl => ?_)
                                  refine lv_goto (tgt := 24) hx hb dL_isSo_276 (by decide) ?_
                                  exact ih _ _ _ ⟨(k + 1), Q31, by omega, hN, hkR, hP, hS, lv_sub hl [0, 1, 8, 9, 10, 2, 3, 4, 11, 12, 13, 14, 15, 16, 17, 18] rfl⟩
