def xL_two (R F : Nat → Nat → Int32) (w6 : Nat) (p7 : Int32) (kw : Nat) (o : Nat) (q : Nat) : Int32 × (Nat → Nat → Int32) × (Nat → Nat → Int32) :=
  (if (nI (w6 % kw)) = (nI ((w6 / 8) % kw)) then (if p7 = (0 : Int32) then (if ((xX1_accuse R F (nI (w6 % kw)) (nI ((w6 / 8) % kw)) o q).1) = (-100001 : Int32) then ((1 : Int32), ((xX1_accuse R F (nI (w6 % kw)) (nI ((w6 / 8) % kw)) o q).2.1), ((xX1_accuse R F (nI (w6 % kw)) (nI ((w6 / 8) % kw)) o q).2.2)) else ((0 : Int32), ((xX1_accuse R F (nI (w6 % kw)) (nI ((w6 / 8) % kw)) o q).2.1), ((xX1_accuse R F (nI (w6 % kw)) (nI ((w6 / 8) % kw)) o q).2.2))) else (if ((xX1_swap R F (nI (w6 % kw)) (nI ((w6 / 8) % kw)) o q).1) = (-100001 : Int32) then ((1 : Int32), ((xX1_swap R F (nI (w6 % kw)) (nI ((w6 / 8) % kw)) o q).2.1), ((xX1_swap R F (nI (w6 % kw)) (nI ((w6 / 8) % kw)) o q).2.2)) else ((0 : Int32), ((xX1_swap R F (nI (w6 % kw)) (nI ((w6 / 8) % kw)) o q).2.1), ((xX1_swap R F (nI (w6 % kw)) (nI ((w6 / 8) % kw)) o q).2.2)))) else (if (R 88 ((5 * (w6 % kw)) + 1)) < (0 : Int32) then (if p7 = (0 : Int32) then (if ((xX1_accuse R F (nI (w6 % kw)) (nI ((w6 / 8) % kw)) o q).1) = (-100002 : Int32) then ((1 : Int32), ((xX1_accuse R F (nI (w6 % kw)) (nI ((w6 / 8) % kw)) o q).2.1), ((xX1_accuse R F (nI (w6 % kw)) (nI ((w6 / 8) % kw)) o q).2.2)) else ((0 : Int32), ((xX1_accuse R F (nI (w6 % kw)) (nI ((w6 / 8) % kw)) o q).2.1), ((xX1_accuse R F (nI (w6 % kw)) (nI ((w6 / 8) % kw)) o q).2.2))) else (if ((xX1_swap R F (nI (w6 % kw)) (nI ((w6 / 8) % kw)) o q).1) = (-100002 : Int32) then ((1 : Int32), ((xX1_swap R F (nI (w6 % kw)) (nI ((w6 / 8) % kw)) o q).2.1), ((xX1_swap R F (nI (w6 % kw)) (nI ((w6 / 8) % kw)) o q).2.2)) else ((0 : Int32), ((xX1_swap R F (nI (w6 % kw)) (nI ((w6 / 8) % kw)) o q).2.1), ((xX1_swap R F (nI (w6 % kw)) (nI ((w6 / 8) % kw)) o q).2.2)))) else (if (0 : Int32) ≤ (R 88 ((5 * ((w6 / 8) % kw)) + 1)) then (if p7 = (0 : Int32) then (if ((xX1_accuse (sR (sR (sR (sR R 88 ((5 * (w6 % kw)) + 3) (R 88 ((5 * ((w6 / 8) % kw)) + 3))) 88 ((5 * ((w6 / 8) % kw)) + 3) (R 88 ((5 * (w6 % kw)) + 3))) 88 ((5 * (w6 % kw)) + 4) ((R 88 ((5 * (w6 % kw)) + 4)) + (1 : Int32))) 88 ((5 * ((w6 / 8) % kw)) + 4) ((R 88 ((5 * ((w6 / 8) % kw)) + 4)) + (1 : Int32))) F (nI (w6 % kw)) (nI ((w6 / 8) % kw)) o q).1) = (xL_error (((xX1_accuse (sR (sR (sR (sR R 88 ((5 * (w6 % kw)) + 3) (R 88 ((5 * ((w6 / 8) % kw)) + 3))) 88 ((5 * ((w6 / 8) % kw)) + 3) (R 88 ((5 * (w6 % kw)) + 3))) 88 ((5 * (w6 % kw)) + 4) ((R 88 ((5 * (w6 % kw)) + 4)) + (1 : Int32))) 88 ((5 * ((w6 / 8) % kw)) + 4) ((R 88 ((5 * ((w6 / 8) % kw)) + 4)) + (1 : Int32))) F (nI (w6 % kw)) (nI ((w6 / 8) % kw)) o q).2.1) 83) (((xX1_accuse (sR (sR (sR (sR R 88 ((5 * (w6 % kw)) + 3) (R 88 ((5 * ((w6 / 8) % kw)) + 3))) 88 ((5 * ((w6 / 8) % kw)) + 3) (R 88 ((5 * (w6 % kw)) + 3))) 88 ((5 * (w6 % kw)) + 4) ((R 88 ((5 * (w6 % kw)) + 4)) + (1 : Int32))) 88 ((5 * ((w6 / 8) % kw)) + 4) ((R 88 ((5 * ((w6 / 8) % kw)) + 4)) + (1 : Int32))) F (nI (w6 % kw)) (nI ((w6 / 8) % kw)) o q).2.1) 84) (((xX1_accuse (sR (sR (sR (sR R 88 ((5 * (w6 % kw)) + 3) (R 88 ((5 * ((w6 / 8) % kw)) + 3))) 88 ((5 * ((w6 / 8) % kw)) + 3) (R 88 ((5 * (w6 % kw)) + 3))) 88 ((5 * (w6 % kw)) + 4) ((R 88 ((5 * (w6 % kw)) + 4)) + (1 : Int32))) 88 ((5 * ((w6 / 8) % kw)) + 4) ((R 88 ((5 * ((w6 / 8) % kw)) + 4)) + (1 : Int32))) F (nI (w6 % kw)) (nI ((w6 / 8) % kw)) o q).2.1) 86) (((xX1_accuse (sR (sR (sR (sR R 88 ((5 * (w6 % kw)) + 3) (R 88 ((5 * ((w6 / 8) % kw)) + 3))) 88 ((5 * ((w6 / 8) % kw)) + 3) (R 88 ((5 * (w6 % kw)) + 3))) 88 ((5 * (w6 % kw)) + 4) ((R 88 ((5 * (w6 % kw)) + 4)) + (1 : Int32))) 88 ((5 * ((w6 / 8) % kw)) + 4) ((R 88 ((5 * ((w6 / 8) % kw)) + 4)) + (1 : Int32))) F (nI (w6 % kw)) (nI ((w6 / 8) % kw)) o q).2.1) 88) kw) then ((1 : Int32), ((xX1_accuse (sR (sR (sR (sR R 88 ((5 * (w6 % kw)) + 3) (R 88 ((5 * ((w6 / 8) % kw)) + 3))) 88 ((5 * ((w6 / 8) % kw)) + 3) (R 88 ((5 * (w6 % kw)) + 3))) 88 ((5 * (w6 % kw)) + 4) ((R 88 ((5 * (w6 % kw)) + 4)) + (1 : Int32))) 88 ((5 * ((w6 / 8) % kw)) + 4) ((R 88 ((5 * ((w6 / 8) % kw)) + 4)) + (1 : Int32))) F (nI (w6 % kw)) (nI ((w6 / 8) % kw)) o q).2.1), ((xX1_accuse (sR (sR (sR (sR R 88 ((5 * (w6 % kw)) + 3) (R 88 ((5 * ((w6 / 8) % kw)) + 3))) 88 ((5 * ((w6 / 8) % kw)) + 3) (R 88 ((5 * (w6 % kw)) + 3))) 88 ((5 * (w6 % kw)) + 4) ((R 88 ((5 * (w6 % kw)) + 4)) + (1 : Int32))) 88 ((5 * ((w6 / 8) % kw)) + 4) ((R 88 ((5 * ((w6 / 8) % kw)) + 4)) + (1 : Int32))) F (nI (w6 % kw)) (nI ((w6 / 8) % kw)) o q).2.2)) else ((0 : Int32), ((xX1_accuse (sR (sR (sR (sR R 88 ((5 * (w6 % kw)) + 3) (R 88 ((5 * ((w6 / 8) % kw)) + 3))) 88 ((5 * ((w6 / 8) % kw)) + 3) (R 88 ((5 * (w6 % kw)) + 3))) 88 ((5 * (w6 % kw)) + 4) ((R 88 ((5 * (w6 % kw)) + 4)) + (1 : Int32))) 88 ((5 * ((w6 / 8) % kw)) + 4) ((R 88 ((5 * ((w6 / 8) % kw)) + 4)) + (1 : Int32))) F (nI (w6 % kw)) (nI ((w6 / 8) % kw)) o q).2.1), ((xX1_accuse (sR (sR (sR (sR R 88 ((5 * (w6 % kw)) + 3) (R 88 ((5 * ((w6 / 8) % kw)) + 3))) 88 ((5 * ((w6 / 8) % kw)) + 3) (R 88 ((5 * (w6 % kw)) + 3))) 88 ((5 * (w6 % kw)) + 4) ((R 88 ((5 * (w6 % kw)) + 4)) + (1 : Int32))) 88 ((5 * ((w6 / 8) % kw)) + 4) ((R 88 ((5 * ((w6 / 8) % kw)) + 4)) + (1 : Int32))) F (nI (w6 % kw)) (nI ((w6 / 8) % kw)) o q).2.2))) else (if ((xX1_swap (sR (sR (sR (sR R 88 ((5 * (w6 % kw)) + 1) (R 88 ((5 * ((w6 / 8) % kw)) + 1))) 88 ((5 * ((w6 / 8) % kw)) + 1) (R 88 ((5 * (w6 % kw)) + 1))) 88 ((5 * (w6 % kw)) + 4) ((R 88 ((5 * (w6 % kw)) + 4)) + (0 : Int32))) 88 ((5 * ((w6 / 8) % kw)) + 4) ((R 88 ((5 * ((w6 / 8) % kw)) + 4)) + (0 : Int32))) F (nI (w6 % kw)) (nI ((w6 / 8) % kw)) o q).1) = (xL_error (((xX1_swap (sR (sR (sR (sR R 88 ((5 * (w6 % kw)) + 1) (R 88 ((5 * ((w6 / 8) % kw)) + 1))) 88 ((5 * ((w6 / 8) % kw)) + 1) (R 88 ((5 * (w6 % kw)) + 1))) 88 ((5 * (w6 % kw)) + 4) ((R 88 ((5 * (w6 % kw)) + 4)) + (0 : Int32))) 88 ((5 * ((w6 / 8) % kw)) + 4) ((R 88 ((5 * ((w6 / 8) % kw)) + 4)) + (0 : Int32))) F (nI (w6 % kw)) (nI ((w6 / 8) % kw)) o q).2.1) 83) (((xX1_swap (sR (sR (sR (sR R 88 ((5 * (w6 % kw)) + 1) (R 88 ((5 * ((w6 / 8) % kw)) + 1))) 88 ((5 * ((w6 / 8) % kw)) + 1) (R 88 ((5 * (w6 % kw)) + 1))) 88 ((5 * (w6 % kw)) + 4) ((R 88 ((5 * (w6 % kw)) + 4)) + (0 : Int32))) 88 ((5 * ((w6 / 8) % kw)) + 4) ((R 88 ((5 * ((w6 / 8) % kw)) + 4)) + (0 : Int32))) F (nI (w6 % kw)) (nI ((w6 / 8) % kw)) o q).2.1) 84) (((xX1_swap (sR (sR (sR (sR R 88 ((5 * (w6 % kw)) + 1) (R 88 ((5 * ((w6 / 8) % kw)) + 1))) 88 ((5 * ((w6 / 8) % kw)) + 1) (R 88 ((5 * (w6 % kw)) + 1))) 88 ((5 * (w6 % kw)) + 4) ((R 88 ((5 * (w6 % kw)) + 4)) + (0 : Int32))) 88 ((5 * ((w6 / 8) % kw)) + 4) ((R 88 ((5 * ((w6 / 8) % kw)) + 4)) + (0 : Int32))) F (nI (w6 % kw)) (nI ((w6 / 8) % kw)) o q).2.1) 86) (((xX1_swap (sR (sR (sR (sR R 88 ((5 * (w6 % kw)) + 1) (R 88 ((5 * ((w6 / 8) % kw)) + 1))) 88 ((5 * ((w6 / 8) % kw)) + 1) (R 88 ((5 * (w6 % kw)) + 1))) 88 ((5 * (w6 % kw)) + 4) ((R 88 ((5 * (w6 % kw)) + 4)) + (0 : Int32))) 88 ((5 * ((w6 / 8) % kw)) + 4) ((R 88 ((5 * ((w6 / 8) % kw)) + 4)) + (0 : Int32))) F (nI (w6 % kw)) (nI ((w6 / 8) % kw)) o q).2.1) 88) kw) then ((1 : Int32), ((xX1_swap (sR (sR (sR (sR R 88 ((5 * (w6 % kw)) + 1) (R 88 ((5 * ((w6 / 8) % kw)) + 1))) 88 ((5 * ((w6 / 8) % kw)) + 1) (R 88 ((5 * (w6 % kw)) + 1))) 88 ((5 * (w6 % kw)) + 4) ((R 88 ((5 * (w6 % kw)) + 4)) + (0 : Int32))) 88 ((5 * ((w6 / 8) % kw)) + 4) ((R 88 ((5 * ((w6 / 8) % kw)) + 4)) + (0 : Int32))) F (nI (w6 % kw)) (nI ((w6 / 8) % kw)) o q).2.1), ((xX1_swap (sR (sR (sR (sR R 88 ((5 * (w6 % kw)) + 1) (R 88 ((5 * ((w6 / 8) % kw)) + 1))) 88 ((5 * ((w6 / 8) % kw)) + 1) (R 88 ((5 * (w6 % kw)) + 1))) 88 ((5 * (w6 % kw)) + 4) ((R 88 ((5 * (w6 % kw)) + 4)) + (0 : Int32))) 88 ((5 * ((w6 / 8) % kw)) + 4) ((R 88 ((5 * ((w6 / 8) % kw)) + 4)) + (0 : Int32))) F (nI (w6 % kw)) (nI ((w6 / 8) % kw)) o q).2.2)) else ((0 : Int32), ((xX1_swap (sR (sR (sR (sR R 88 ((5 * (w6 % kw)) + 1) (R 88 ((5 * ((w6 / 8) % kw)) + 1))) 88 ((5 * ((w6 / 8) % kw)) + 1) (R 88 ((5 * (w6 % kw)) + 1))) 88 ((5 * (w6 % kw)) + 4) ((R 88 ((5 * (w6 % kw)) + 4)) + (0 : Int32))) 88 ((5 * ((w6 / 8) % kw)) + 4) ((R 88 ((5 * ((w6 / 8) % kw)) + 4)) + (0 : Int32))) F (nI (w6 % kw)) (nI ((w6 / 8) % kw)) o q).2.1), ((xX1_swap (sR (sR (sR (sR R 88 ((5 * (w6 % kw)) + 1) (R 88 ((5 * ((w6 / 8) % kw)) + 1))) 88 ((5 * ((w6 / 8) % kw)) + 1) (R 88 ((5 * (w6 % kw)) + 1))) 88 ((5 * (w6 % kw)) + 4) ((R 88 ((5 * (w6 % kw)) + 4)) + (0 : Int32))) 88 ((5 * ((w6 / 8) % kw)) + 4) ((R 88 ((5 * ((w6 / 8) % kw)) + 4)) + (0 : Int32))) F (nI (w6 % kw)) (nI ((w6 / 8) % kw)) o q).2.2)))) else (if p7 = (0 : Int32) then (if ((xX1_accuse R F (nI (w6 % kw)) (nI ((w6 / 8) % kw)) o q).1) = (-100002 : Int32) then ((1 : Int32), ((xX1_accuse R F (nI (w6 % kw)) (nI ((w6 / 8) % kw)) o q).2.1), ((xX1_accuse R F (nI (w6 % kw)) (nI ((w6 / 8) % kw)) o q).2.2)) else ((0 : Int32), ((xX1_accuse R F (nI (w6 % kw)) (nI ((w6 / 8) % kw)) o q).2.1), ((xX1_accuse R F (nI (w6 % kw)) (nI ((w6 / 8) % kw)) o q).2.2))) else (if ((xX1_swap R F (nI (w6 % kw)) (nI ((w6 / 8) % kw)) o q).1) = (-100002 : Int32) then ((1 : Int32), ((xX1_swap R F (nI (w6 % kw)) (nI ((w6 / 8) % kw)) o q).2.1), ((xX1_swap R F (nI (w6 % kw)) (nI ((w6 / 8) % kw)) o q).2.2)) else ((0 : Int32), ((xX1_swap R F (nI (w6 % kw)) (nI ((w6 / 8) % kw)) o q).2.1), ((xX1_swap R F (nI (w6 % kw)) (nI ((w6 / 8) % kw)) o q).2.2)))))))
set_option maxHeartbeats 4000000 in
set_option maxRecDepth 100000 in
theorem mL_two (l : Launch) (D : va_G) (cI cS : ClassId) (ad : Nat → Nat) (hI : Inj ad) (R F : Nat → Nat → Int32) (w6 : Nat) (p7 : Int32) (kw : Nat) (o : Nat) (q : Nat) (hv : w6 < 10000000) (hkp : 0 < kw) (hkw : kw ≤ 8) (hW : R 83 1 = nI kw) (ho : o < 5) (hq : q ≤ 5) (hF0 : F 0 0 = nI o) (hF1 : F 0 1 = nI q) : Met l yL_two wsL_two ({ frames := 6, cells := 0, slots := 0, locals := 137 }) (PW D cI cS ad R F [.ref (ad 0), .ref (ad 83), .ref (ad 84), .ref (ad 86), .ref (ad 88), .int (nI w6), .int p7]) (QI D cI cS ad ((xL_two R F w6 p7 kw o q).1) ((xL_two R F w6 p7 kw o q).2.1) ((xL_two R F w6 p7 kw o q).2.2)) 0 0 (AA ad) := by
  refine Met.ofW (cc := cL_two) (maxL := 11) (ret := (some .boolean)) (by decide) rfl ?_
  intro p e s m args below meth c s₁ B hml hv
  obtain ⟨rfl, hP, hK⟩ := hv
  have hx := B.exec
  have hb := B.bytes
  have hr := B.returns
  have hts := atoms_spec (ws := wsL_two) B.pre
  have hown : s.vm.findClass RL = some m.cls := findClass_of_methodNamed B.named
  have hlocks := B.notSynchronized
  have hS : va_S (AA ad) s.heap s.heap [] := va_S.rf
  have hl := lv_entry ([.ref (ad 0), .ref (ad 83), .ref (ad 84), .ref (ad 86), .ref (ad 88), .int (nI w6), .int p7]) (n := 11) (Nat.le_of_ble_eq_true rfl)
  rw [lg_entry_eq]
  generalize (lg_sl ([.ref (ad 0), .ref (ad 83), .ref (ad 84), .ref (ad 86), .ref (ad 88), .int (nI w6), .int p7]) ++ List.replicate (11 - (lg_sl ([.ref (ad 0), .ref (ad 83), .ref (ad 84), .ref (ad 86), .ref (ad 88), .int (nI w6), .int p7])).length) Slot.unset).toArray = ls at hl ⊢
  have hl : lv_has ls 11 [(0, .ref (ad 0)), (1, .ref (ad 83)), (2, .ref (ad 84)), (3, .ref (ad 86)), (4, .ref (ad 88)), (5, .int (nI w6)), (6, .int p7)] := hl
  have lk32 := hts (.constant RL 32 (-100001)) (by decide +kernel)
  have lk33 := hts (.constant RL 33 (-100002)) (by decide +kernel)
  refine lv_iload hx hb dL_two_0 (lv_at hl 5 rfl) ?_
  refine lv_aload_n hx hb dL_two_2 rfl (lv_at hl 1 rfl) ?_
  refine lv_iconst (v := 1) hx hb dL_two_3 (by decide) ?_
  refine q_ildN hx hb hK hP 83 6 (ar_83) 1 dL_two_4 rfl (by omega) (by decide) ?_
  refine q_top (y := (nI kw)) hW ?_
  refine lv_irem hx hb dL_two_5 (nI_ne0 hkp (by omega)) ?_
  refine q_top (y := (nI (w6 % kw))) (pk_rem (a := w6) (d := kw) (by omega) (by omega) (by omega)) ?_
  refine lv_istore (lv' := [(7, .int (nI (w6 % kw))), (0, .ref (ad 0)), (1, .ref (ad 83)), (2, .ref (ad 84)), (3, .ref (ad 86)), (4, .ref (ad 88)), (5, .int (nI w6)), (6, .int p7)]) hx hb dL_two_6 hl (by decide) rfl (fun ls hl => ?_)
  refine lv_iload hx hb dL_two_8 (lv_at hl 6 rfl) ?_
  refine lv_bipush (v := 8) hx hb dL_two_10 (by decide) ?_
  refine lv_idiv hx hb dL_two_12 (by decide) ?_
  refine q_top (y := (nI (w6 / 8))) (pk_div (a := w6) (d := 8) (by omega) (by omega) (by omega)) ?_
  refine lv_aload_n hx hb dL_two_13 rfl (lv_at hl 2 rfl) ?_
  refine lv_iconst (v := 1) hx hb dL_two_14 (by decide) ?_
  refine q_ildN hx hb hK hP 83 6 (ar_83) 1 dL_two_15 rfl (by omega) (by decide) ?_
  refine q_top (y := (nI kw)) hW ?_
  refine lv_irem hx hb dL_two_16 (nI_ne0 hkp (by omega)) ?_
  refine q_top (y := (nI ((w6 / 8) % kw))) (pk_rem (a := (w6 / 8)) (d := kw) (by omega) (by omega) (by omega)) ?_
  refine lv_istore (lv' := [(8, .int (nI ((w6 / 8) % kw))), (7, .int (nI (w6 % kw))), (0, .ref (ad 0)), (1, .ref (ad 83)), (2, .ref (ad 84)), (3, .ref (ad 86)), (4, .ref (ad 88)), (5, .int (nI w6)), (6, .int p7)]) hx hb dL_two_17 hl (by decide) rfl (fun ls hl => ?_)
  have hi7 : w6 % kw < kw := Nat.mod_lt _ hkp
  have hi8 : w6 / 8 % kw < kw := Nat.mod_lt _ hkp
  refine lv_iload hx hb dL_two_19 (lv_at hl 1 rfl) ?_
  refine lv_iload hx hb dL_two_21 (lv_at hl 0 rfl) ?_
  refine lv_icmp_ne (tgt := 61) hx hb dL_two_23 (by decide) (fun c_23 => ?_) (fun c_23 => ?_)
  · have n_23 : ¬ ((w6 % kw)) = (((w6 / 8) % kw)) := fun q => c_23 ((nI_eq (a := (w6 % kw)) (b := ((w6 / 8) % kw)) (by omega) (by omega)).mpr q)
    refine lv_aload hx hb dL_two_61 (lv_at hl 6 rfl) ?_
    refine lv_iconst (v := 5) hx hb dL_two_63 (by decide) ?_
    refine lv_iload hx hb dL_two_64 (lv_at hl 1 rfl) ?_
    refine lv_imul hx hb dL_two_66 ?_
    refine q_top (y := (nI (5 * (w6 % kw)))) (pk_mul 5 (w6 % kw)) ?_
    refine lv_iconst (v := 1) hx hb dL_two_67 (by decide) ?_
    refine lv_iadd hx hb dL_two_68 ?_
    refine q_top (y := (nI ((5 * (w6 % kw)) + 1))) (nI_add (5 * (w6 % kw)) 1) ?_
    refine q_ildN hx hb hK hP 88 40 (ar_88) ((5 * (w6 % kw)) + 1) dL_two_69 rfl (by omega) (by decide) ?_
    refine lv_if_lt (tgt := 85) hx hb dL_two_70 (by decide) (fun c_70 => ?_) (fun c_70 => ?_)
    · refine lv_iload hx hb dL_two_85 (lv_at hl 8 rfl) ?_
      refine lv_if_eq (tgt := 101) hx hb dL_two_87 (by decide) (fun c_87 => ?_) (fun c_87 => ?_)
      · refine lv_aload_n hx hb dL_two_101 rfl (lv_at hl 2 rfl) ?_
        refine lv_iload hx hb dL_two_102 (lv_at hl 1 rfl) ?_
        refine lv_iload hx hb dL_two_104 (lv_at hl 0 rfl) ?_
        refine q_callI (va_runV (As := [.int (nI (w6 % kw)), .int (nI ((w6 / 8) % kw))]) (rest := []) ⟨hx, hb, hml, hown, hts⟩ (mX1_accuse l D cI cS ad hI R F (nI (w6 % kw)) (nI ((w6 / 8) % kw)) o q ho hq hF0 hF1) (cwV 2 hts gL_two_X1_accuse rfl rfl rfl (by decide +kernel) ⟨Nat.le_of_ble_eq_true rfl, Nat.le_of_ble_eq_true rfl⟩) (PW_preV (i := 0) (by decide) CC_0 rfl rfl hK hP) rfl rfl hl.1 rfl (lv_room (Nat.le_of_ble_eq_true rfl)) dL_two_106 ⟨Nat.zero_le _, Nat.zero_le _⟩) hS (fun H locs hP hS => ?_)
        refine lv_ldc (v := -100002) hx hb hown lk33 dL_two_109 ?_
        refine lv_icmp_ne (tgt := 118) hx hb dL_two_111 (by decide) (fun c_111 => ?_) (fun c_111 => ?_)
        · refine lv_iconst (v := 0) hx hb dL_two_118 (by decide) ?_
          have hX : (xL_two R F w6 p7 kw o q) = ((0 : Int32), ((xX1_accuse R F (nI (w6 % kw)) (nI ((w6 / 8) % kw)) o q).2.1), ((xX1_accuse R F (nI (w6 % kw)) (nI ((w6 / 8) % kw)) o q).2.2)) := by unfold xL_two; rw [if_neg c_23, if_pos c_70, if_pos c_87, if_neg c_111]
          exact W.zret (v := (0 : Int32)) hx hb hr rfl (fun t ht hW => ⟨by rw [hX], by rw [hX, ht]; with_reducible exact hP, hS.F ht⟩) hS.2.2 dL_two_119
        · refine lv_iconst (v := 1) hx hb dL_two_114 (by decide) ?_
          refine lv_goto (tgt := 119) hx hb dL_two_115 (by decide) ?_
          have hX : (xL_two R F w6 p7 kw o q) = ((1 : Int32), ((xX1_accuse R F (nI (w6 % kw)) (nI ((w6 / 8) % kw)) o q).2.1), ((xX1_accuse R F (nI (w6 % kw)) (nI ((w6 / 8) % kw)) o q).2.2)) := by unfold xL_two; rw [if_neg c_23, if_pos c_70, if_pos c_87, if_pos c_111]
          exact W.zret (v := (1 : Int32)) hx hb hr rfl (fun t ht hW => ⟨by rw [hX], by rw [hX, ht]; with_reducible exact hP, hS.F ht⟩) hS.2.2 dL_two_119
      · refine lv_aload_n hx hb dL_two_90 rfl (lv_at hl 2 rfl) ?_
        refine lv_iload hx hb dL_two_91 (lv_at hl 1 rfl) ?_
        refine lv_iload hx hb dL_two_93 (lv_at hl 0 rfl) ?_
        refine q_callI (va_runV (As := [.int (nI (w6 % kw)), .int (nI ((w6 / 8) % kw))]) (rest := []) ⟨hx, hb, hml, hown, hts⟩ (mX1_swap l D cI cS ad hI R F (nI (w6 % kw)) (nI ((w6 / 8) % kw)) o q ho hq hF0 hF1) (cwV 2 hts gL_two_X1_swap rfl rfl rfl (by decide +kernel) ⟨Nat.le_of_ble_eq_true rfl, Nat.le_of_ble_eq_true rfl⟩) (PW_preV (i := 0) (by decide) CC_0 rfl rfl hK hP) rfl rfl hl.1 rfl (lv_room (Nat.le_of_ble_eq_true rfl)) dL_two_95 ⟨Nat.zero_le _, Nat.zero_le _⟩) hS (fun H locs hP hS => ?_)
        refine lv_goto (tgt := 109) hx hb dL_two_98 (by decide) ?_
        refine lv_ldc (v := -100002) hx hb hown lk33 dL_two_109 ?_
        refine lv_icmp_ne (tgt := 118) hx hb dL_two_111 (by decide) (fun c_111 => ?_) (fun c_111 => ?_)
        · refine lv_iconst (v := 0) hx hb dL_two_118 (by decide) ?_
          have hX : (xL_two R F w6 p7 kw o q) = ((0 : Int32), ((xX1_swap R F (nI (w6 % kw)) (nI ((w6 / 8) % kw)) o q).2.1), ((xX1_swap R F (nI (w6 % kw)) (nI ((w6 / 8) % kw)) o q).2.2)) := by unfold xL_two; rw [if_neg c_23, if_pos c_70, if_neg c_87, if_neg c_111]
          exact W.zret (v := (0 : Int32)) hx hb hr rfl (fun t ht hW => ⟨by rw [hX], by rw [hX, ht]; with_reducible exact hP, hS.F ht⟩) hS.2.2 dL_two_119
        · refine lv_iconst (v := 1) hx hb dL_two_114 (by decide) ?_
          refine lv_goto (tgt := 119) hx hb dL_two_115 (by decide) ?_
          have hX : (xL_two R F w6 p7 kw o q) = ((1 : Int32), ((xX1_swap R F (nI (w6 % kw)) (nI ((w6 / 8) % kw)) o q).2.1), ((xX1_swap R F (nI (w6 % kw)) (nI ((w6 / 8) % kw)) o q).2.2)) := by unfold xL_two; rw [if_neg c_23, if_pos c_70, if_neg c_87, if_pos c_111]
          exact W.zret (v := (1 : Int32)) hx hb hr rfl (fun t ht hW => ⟨by rw [hX], by rw [hX, ht]; with_reducible exact hP, hS.F ht⟩) hS.2.2 dL_two_119
    · refine lv_aload hx hb dL_two_73 (lv_at hl 6 rfl) ?_
      refine lv_iconst (v := 5) hx hb dL_two_75 (by decide) ?_
      refine lv_iload hx hb dL_two_76 (lv_at hl 0 rfl) ?_
      refine lv_imul hx hb dL_two_78 ?_
      refine q_top (y := (nI (5 * ((w6 / 8) % kw)))) (pk_mul 5 ((w6 / 8) % kw)) ?_
      refine lv_iconst (v := 1) hx hb dL_two_79 (by decide) ?_
      refine lv_iadd hx hb dL_two_80 ?_
      refine q_top (y := (nI ((5 * ((w6 / 8) % kw)) + 1))) (nI_add (5 * ((w6 / 8) % kw)) 1) ?_
      refine q_ildN hx hb hK hP 88 40 (ar_88) ((5 * ((w6 / 8) % kw)) + 1) dL_two_81 rfl (by omega) (by decide) ?_
      refine lv_if_ge (tgt := 120) hx hb dL_two_82 (by decide) (fun c_82 => ?_) (fun c_82 => ?_)
      · refine lv_iload hx hb dL_two_120 (lv_at hl 8 rfl) ?_
        refine lv_if_eq (tgt := 129) hx hb dL_two_122 (by decide) (fun c_122 => ?_) (fun c_122 => ?_)
        · refine lv_iconst (v := 3) hx hb dL_two_129 (by decide) ?_
          refine lv_istore (lv' := [(9, .int (3 : Int32)), (8, .int (nI ((w6 / 8) % kw))), (7, .int (nI (w6 % kw))), (0, .ref (ad 0)), (1, .ref (ad 83)), (2, .ref (ad 84)), (3, .ref (ad 86)), (4, .ref (ad 88)), (5, .int (nI w6)), (6, .int p7)]) hx hb dL_two_130 hl (by decide) rfl (fun ls hl => ?_)
          refine lv_aload hx hb dL_two_132 (lv_at hl 7 rfl) ?_
          refine lv_iconst (v := 5) hx hb dL_two_134 (by decide) ?_
          refine lv_iload hx hb dL_two_135 (lv_at hl 2 rfl) ?_
          refine lv_imul hx hb dL_two_137 ?_
          refine q_top (y := (nI (5 * (w6 % kw)))) (pk_mul 5 (w6 % kw)) ?_
          refine lv_iload hx hb dL_two_138 (lv_at hl 0 rfl) ?_
          refine lv_iadd hx hb dL_two_140 ?_
          refine q_top (y := (nI ((5 * (w6 % kw)) + 3))) (nI_add (5 * (w6 % kw)) 3) ?_
          refine q_ildN hx hb hK hP 88 40 (ar_88) ((5 * (w6 % kw)) + 3) dL_two_141 rfl (by omega) (by decide) ?_
          refine lv_istore (lv' := [(10, .int (R 88 ((5 * (w6 % kw)) + 3))), (9, .int (3 : Int32)), (8, .int (nI ((w6 / 8) % kw))), (7, .int (nI (w6 % kw))), (0, .ref (ad 0)), (1, .ref (ad 83)), (2, .ref (ad 84)), (3, .ref (ad 86)), (4, .ref (ad 88)), (5, .int (nI w6)), (6, .int p7)]) hx hb dL_two_142 hl (by decide) rfl (fun ls hl => ?_)
          refine lv_aload hx hb dL_two_144 (lv_at hl 8 rfl) ?_
          refine lv_iconst (v := 5) hx hb dL_two_146 (by decide) ?_
          refine lv_iload hx hb dL_two_147 (lv_at hl 3 rfl) ?_
          refine lv_imul hx hb dL_two_149 ?_
          refine q_top (y := (nI (5 * (w6 % kw)))) (pk_mul 5 (w6 % kw)) ?_
          refine lv_iload hx hb dL_two_150 (lv_at hl 1 rfl) ?_
          refine lv_iadd hx hb dL_two_152 ?_
          refine q_top (y := (nI ((5 * (w6 % kw)) + 3))) (nI_add (5 * (w6 % kw)) 3) ?_
          refine lv_aload hx hb dL_two_153 (lv_at hl 8 rfl) ?_
          refine lv_iconst (v := 5) hx hb dL_two_155 (by decide) ?_
          refine lv_iload hx hb dL_two_156 (lv_at hl 2 rfl) ?_
          refine lv_imul hx hb dL_two_158 ?_
          refine q_top (y := (nI (5 * ((w6 / 8) % kw)))) (pk_mul 5 ((w6 / 8) % kw)) ?_
          refine lv_iload hx hb dL_two_159 (lv_at hl 1 rfl) ?_
          refine lv_iadd hx hb dL_two_161 ?_
          refine q_top (y := (nI ((5 * ((w6 / 8) % kw)) + 3))) (nI_add (5 * ((w6 / 8) % kw)) 3) ?_
          refine q_ildN hx hb hK hP 88 40 (ar_88) ((5 * ((w6 / 8) % kw)) + 3) dL_two_162 rfl (by omega) (by decide) ?_
          refine q_istN hx hb hK hI hP hS 88 40 (ar_88) ((5 * (w6 % kw)) + 3) dL_two_163 rfl (by omega) (by decide) (fun H locs hP hS => ?_)
          have hP : WP D cI cS ad (sR R 88 ((5 * (w6 % kw)) + 3) (R 88 ((5 * ((w6 / 8) % kw)) + 3))) F H := hP
          refine lv_aload hx hb dL_two_164 (lv_at hl 8 rfl) ?_
          refine lv_iconst (v := 5) hx hb dL_two_166 (by decide) ?_
          refine lv_iload hx hb dL_two_167 (lv_at hl 2 rfl) ?_
          refine lv_imul hx hb dL_two_169 ?_
          refine q_top (y := (nI (5 * ((w6 / 8) % kw)))) (pk_mul 5 ((w6 / 8) % kw)) ?_
          refine lv_iload hx hb dL_two_170 (lv_at hl 1 rfl) ?_
          refine lv_iadd hx hb dL_two_172 ?_
          refine q_top (y := (nI ((5 * ((w6 / 8) % kw)) + 3))) (nI_add (5 * ((w6 / 8) % kw)) 3) ?_
          refine lv_iload hx hb dL_two_173 (lv_at hl 0 rfl) ?_
          refine q_istN hx hb hK hI hP hS 88 40 (ar_88) ((5 * ((w6 / 8) % kw)) + 3) dL_two_175 rfl (by omega) (by decide) (fun H locs hP hS => ?_)
          have hP : WP D cI cS ad (sR (sR R 88 ((5 * (w6 % kw)) + 3) (R 88 ((5 * ((w6 / 8) % kw)) + 3))) 88 ((5 * ((w6 / 8) % kw)) + 3) (R 88 ((5 * (w6 % kw)) + 3))) F H := hP
          refine lv_aload hx hb dL_two_176 (lv_at hl 8 rfl) ?_
          refine lv_iconst (v := 5) hx hb dL_two_178 (by decide) ?_
          refine lv_iload hx hb dL_two_179 (lv_at hl 3 rfl) ?_
          refine lv_imul hx hb dL_two_181 ?_
          refine q_top (y := (nI (5 * (w6 % kw)))) (pk_mul 5 (w6 % kw)) ?_
          refine lv_iconst (v := 4) hx hb dL_two_182 (by decide) ?_
          refine lv_iadd hx hb dL_two_183 ?_
          refine q_top (y := (nI ((5 * (w6 % kw)) + 4))) (nI_add (5 * (w6 % kw)) 4) ?_
          refine lv_dup2_11 hx hb dL_two_184 rfl rfl ?_
          refine q_ildN hx hb hK hP 88 40 (ar_88) ((5 * (w6 % kw)) + 4) dL_two_185 rfl (by omega) (by decide) ?_
          refine q_top (y := (R 88 ((5 * (w6 % kw)) + 4))) ((sR_same_ne (by omega)).trans (sR_same_ne (by omega))) ?_
          refine lv_iload hx hb dL_two_186 (lv_at hl 10 rfl) ?_
          refine lv_if_eq (tgt := 195) hx hb dL_two_188 (by decide) (fun c_188 => ?_) (fun c_188 => ?_)
          · refine lv_iconst (v := 1) hx hb dL_two_195 (by decide) ?_
            refine lv_iadd hx hb dL_two_196 ?_
            refine q_istN hx hb hK hI hP hS 88 40 (ar_88) ((5 * (w6 % kw)) + 4) dL_two_197 rfl (by omega) (by decide) (fun H locs hP hS => ?_)
            have hP : WP D cI cS ad (sR (sR (sR R 88 ((5 * (w6 % kw)) + 3) (R 88 ((5 * ((w6 / 8) % kw)) + 3))) 88 ((5 * ((w6 / 8) % kw)) + 3) (R 88 ((5 * (w6 % kw)) + 3))) 88 ((5 * (w6 % kw)) + 4) ((R 88 ((5 * (w6 % kw)) + 4)) + (1 : Int32))) F H := hP
            refine lv_aload hx hb dL_two_198 (lv_at hl 8 rfl) ?_
            refine lv_iconst (v := 5) hx hb dL_two_200 (by decide) ?_
            refine lv_iload hx hb dL_two_201 (lv_at hl 2 rfl) ?_
            refine lv_imul hx hb dL_two_203 ?_
            refine q_top (y := (nI (5 * ((w6 / 8) % kw)))) (pk_mul 5 ((w6 / 8) % kw)) ?_
            refine lv_iconst (v := 4) hx hb dL_two_204 (by decide) ?_
            refine lv_iadd hx hb dL_two_205 ?_
            refine q_top (y := (nI ((5 * ((w6 / 8) % kw)) + 4))) (nI_add (5 * ((w6 / 8) % kw)) 4) ?_
            refine lv_dup2_11 hx hb dL_two_206 rfl rfl ?_
            refine q_ildN hx hb hK hP 88 40 (ar_88) ((5 * ((w6 / 8) % kw)) + 4) dL_two_207 rfl (by omega) (by decide) ?_
            refine q_top (y := (R 88 ((5 * ((w6 / 8) % kw)) + 4))) ((sR_same_ne (by omega)).trans ((sR_same_ne (by omega)).trans (sR_same_ne (by omega)))) ?_
            refine lv_iload hx hb dL_two_208 (lv_at hl 10 rfl) ?_
            refine lv_if_eq (tgt := 217) hx hb dL_two_210 (by decide) (fun c_210 => ?_) (fun c_210 => ?_)
            · refine lv_iconst (v := 1) hx hb dL_two_217 (by decide) ?_
              refine lv_iadd hx hb dL_two_218 ?_
              refine q_istN hx hb hK hI hP hS 88 40 (ar_88) ((5 * ((w6 / 8) % kw)) + 4) dL_two_219 rfl (by omega) (by decide) (fun H locs hP hS => ?_)
              have hP : WP D cI cS ad (sR (sR (sR (sR R 88 ((5 * (w6 % kw)) + 3) (R 88 ((5 * ((w6 / 8) % kw)) + 3))) 88 ((5 * ((w6 / 8) % kw)) + 3) (R 88 ((5 * (w6 % kw)) + 3))) 88 ((5 * (w6 % kw)) + 4) ((R 88 ((5 * (w6 % kw)) + 4)) + (1 : Int32))) 88 ((5 * ((w6 / 8) % kw)) + 4) ((R 88 ((5 * ((w6 / 8) % kw)) + 4)) + (1 : Int32))) F H := hP
              refine lv_iload hx hb dL_two_220 (lv_at hl 10 rfl) ?_
              refine lv_if_eq (tgt := 236) hx hb dL_two_222 (by decide) (fun c_222 => ?_) (fun c_222 => ?_)
              · refine lv_aload_n hx hb dL_two_236 rfl (lv_at hl 4 rfl) ?_
                refine lv_iload hx hb dL_two_237 (lv_at hl 3 rfl) ?_
                refine lv_iload hx hb dL_two_239 (lv_at hl 2 rfl) ?_
                refine q_callI (va_runV (As := [.int (nI (w6 % kw)), .int (nI ((w6 / 8) % kw))]) (rest := []) ⟨hx, hb, hml, hown, hts⟩ (mX1_accuse l D cI cS ad hI (sR (sR (sR (sR R 88 ((5 * (w6 % kw)) + 3) (R 88 ((5 * ((w6 / 8) % kw)) + 3))) 88 ((5 * ((w6 / 8) % kw)) + 3) (R 88 ((5 * (w6 % kw)) + 3))) 88 ((5 * (w6 % kw)) + 4) ((R 88 ((5 * (w6 % kw)) + 4)) + (1 : Int32))) 88 ((5 * ((w6 / 8) % kw)) + 4) ((R 88 ((5 * ((w6 / 8) % kw)) + 4)) + (1 : Int32))) F (nI (w6 % kw)) (nI ((w6 / 8) % kw)) o q ho hq hF0 hF1) (cwV 2 hts gL_two_X1_accuse rfl rfl rfl (by decide +kernel) ⟨Nat.le_of_ble_eq_true rfl, Nat.le_of_ble_eq_true rfl⟩) (PW_preV (i := 0) (by decide) CC_0 rfl rfl hK hP) rfl rfl hl.1 rfl (lv_room (Nat.le_of_ble_eq_true rfl)) dL_two_241 ⟨Nat.zero_le _, Nat.zero_le _⟩) hS (fun H locs hP hS => ?_)
                refine lv_aload_n hx hb dL_two_244 rfl (lv_at hl 5 rfl) ?_
                refine lv_aload_n hx hb dL_two_245 rfl (lv_at hl 6 rfl) ?_
                refine lv_aload_n hx hb dL_two_246 rfl (lv_at hl 7 rfl) ?_
                refine lv_aload hx hb dL_two_247 (lv_at hl 8 rfl) ?_
                refine q_callS (va_runS (As := [.ref (ad 83), .ref (ad 84), .ref (ad 86), .ref (ad 88)]) (rest := [.int ((xX1_accuse (sR (sR (sR (sR R 88 ((5 * (w6 % kw)) + 3) (R 88 ((5 * ((w6 / 8) % kw)) + 3))) 88 ((5 * ((w6 / 8) % kw)) + 3) (R 88 ((5 * (w6 % kw)) + 3))) 88 ((5 * (w6 % kw)) + 4) ((R 88 ((5 * (w6 % kw)) + 4)) + (1 : Int32))) 88 ((5 * ((w6 / 8) % kw)) + 4) ((R 88 ((5 * ((w6 / 8) % kw)) + 4)) + (1 : Int32))) F (nI (w6 % kw)) (nI ((w6 / 8) % kw)) o q).1)]) ⟨hx, hb, hml, hown, hts⟩ (mL_error l D cI cS ad hI ((xX1_accuse (sR (sR (sR (sR R 88 ((5 * (w6 % kw)) + 3) (R 88 ((5 * ((w6 / 8) % kw)) + 3))) 88 ((5 * ((w6 / 8) % kw)) + 3) (R 88 ((5 * (w6 % kw)) + 3))) 88 ((5 * (w6 % kw)) + 4) ((R 88 ((5 * (w6 % kw)) + 4)) + (1 : Int32))) 88 ((5 * ((w6 / 8) % kw)) + 4) ((R 88 ((5 * ((w6 / 8) % kw)) + 4)) + (1 : Int32))) F (nI (w6 % kw)) (nI ((w6 / 8) % kw)) o q).2.1) ((xX1_accuse (sR (sR (sR (sR R 88 ((5 * (w6 % kw)) + 3) (R 88 ((5 * ((w6 / 8) % kw)) + 3))) 88 ((5 * ((w6 / 8) % kw)) + 3) (R 88 ((5 * (w6 % kw)) + 3))) 88 ((5 * (w6 % kw)) + 4) ((R 88 ((5 * (w6 % kw)) + 4)) + (1 : Int32))) 88 ((5 * ((w6 / 8) % kw)) + 4) ((R 88 ((5 * ((w6 / 8) % kw)) + 4)) + (1 : Int32))) F (nI (w6 % kw)) (nI ((w6 / 8) % kw)) o q).2.2) kw hkw ((congrFun (accuse_hi (by assumption) (by assumption) (by assumption) (by assumption) (by decide)) 1).trans ((congrFun (sR_ne (by decide) _ _) 1).trans ((congrFun (sR_ne (by decide) _ _) 1).trans ((congrFun (sR_ne (by decide) _ _) 1).trans ((congrFun (sR_ne (by decide) _ _) 1).trans hW)))))) (va_cwS 4 hts gL_two_L_error rfl rfl rfl (by decide +kernel) ⟨Nat.le_of_ble_eq_true rfl, Nat.le_of_ble_eq_true rfl⟩) (PW_preS hK hP) rfl rfl hl.1 rfl (lv_room (Nat.le_of_ble_eq_true rfl)) dL_two_249 ⟨Nat.zero_le _, Nat.zero_le _⟩) ?_
                refine lv_icmp_ne (tgt := 259) hx hb dL_two_252 (by decide) (fun c_252 => ?_) (fun c_252 => ?_)
                · refine lv_iconst (v := 0) hx hb dL_two_259 (by decide) ?_
                  have hX : (xL_two R F w6 p7 kw o q) = ((0 : Int32), ((xX1_accuse (sR (sR (sR (sR R 88 ((5 * (w6 % kw)) + 3) (R 88 ((5 * ((w6 / 8) % kw)) + 3))) 88 ((5 * ((w6 / 8) % kw)) + 3) (R 88 ((5 * (w6 % kw)) + 3))) 88 ((5 * (w6 % kw)) + 4) ((R 88 ((5 * (w6 % kw)) + 4)) + (1 : Int32))) 88 ((5 * ((w6 / 8) % kw)) + 4) ((R 88 ((5 * ((w6 / 8) % kw)) + 4)) + (1 : Int32))) F (nI (w6 % kw)) (nI ((w6 / 8) % kw)) o q).2.1), ((xX1_accuse (sR (sR (sR (sR R 88 ((5 * (w6 % kw)) + 3) (R 88 ((5 * ((w6 / 8) % kw)) + 3))) 88 ((5 * ((w6 / 8) % kw)) + 3) (R 88 ((5 * (w6 % kw)) + 3))) 88 ((5 * (w6 % kw)) + 4) ((R 88 ((5 * (w6 % kw)) + 4)) + (1 : Int32))) 88 ((5 * ((w6 / 8) % kw)) + 4) ((R 88 ((5 * ((w6 / 8) % kw)) + 4)) + (1 : Int32))) F (nI (w6 % kw)) (nI ((w6 / 8) % kw)) o q).2.2)) := by unfold xL_two; rw [if_neg c_23, if_neg c_70, if_pos c_82, if_pos c_122, if_neg c_252]
                  exact W.zret (v := (0 : Int32)) hx hb hr rfl (fun t ht hW => ⟨by rw [hX], by rw [hX, ht]; with_reducible exact hP, hS.F ht⟩) hS.2.2 dL_two_260
                · refine lv_iconst (v := 1) hx hb dL_two_255 (by decide) ?_
                  refine lv_goto (tgt := 260) hx hb dL_two_256 (by decide) ?_
                  have hX : (xL_two R F w6 p7 kw o q) = ((1 : Int32), ((xX1_accuse (sR (sR (sR (sR R 88 ((5 * (w6 % kw)) + 3) (R 88 ((5 * ((w6 / 8) % kw)) + 3))) 88 ((5 * ((w6 / 8) % kw)) + 3) (R 88 ((5 * (w6 % kw)) + 3))) 88 ((5 * (w6 % kw)) + 4) ((R 88 ((5 * (w6 % kw)) + 4)) + (1 : Int32))) 88 ((5 * ((w6 / 8) % kw)) + 4) ((R 88 ((5 * ((w6 / 8) % kw)) + 4)) + (1 : Int32))) F (nI (w6 % kw)) (nI ((w6 / 8) % kw)) o q).2.1), ((xX1_accuse (sR (sR (sR (sR R 88 ((5 * (w6 % kw)) + 3) (R 88 ((5 * ((w6 / 8) % kw)) + 3))) 88 ((5 * ((w6 / 8) % kw)) + 3) (R 88 ((5 * (w6 % kw)) + 3))) 88 ((5 * (w6 % kw)) + 4) ((R 88 ((5 * (w6 % kw)) + 4)) + (1 : Int32))) 88 ((5 * ((w6 / 8) % kw)) + 4) ((R 88 ((5 * ((w6 / 8) % kw)) + 4)) + (1 : Int32))) F (nI (w6 % kw)) (nI ((w6 / 8) % kw)) o q).2.2)) := by unfold xL_two; rw [if_neg c_23, if_neg c_70, if_pos c_82, if_pos c_122, if_pos c_252]
                  exact W.zret (v := (1 : Int32)) hx hb hr rfl (fun t ht hW => ⟨by rw [hX], by rw [hX, ht]; with_reducible exact hP, hS.F ht⟩) hS.2.2 dL_two_260
              · exact absurd c_210 c_222
            · exact absurd c_188 c_210
          · exact absurd c_122 c_188
        · refine lv_iconst (v := 1) hx hb dL_two_125 (by decide) ?_
          refine lv_goto (tgt := 130) hx hb dL_two_126 (by decide) ?_
          refine lv_istore (lv' := [(9, .int (1 : Int32)), (8, .int (nI ((w6 / 8) % kw))), (7, .int (nI (w6 % kw))), (0, .ref (ad 0)), (1, .ref (ad 83)), (2, .ref (ad 84)), (3, .ref (ad 86)), (4, .ref (ad 88)), (5, .int (nI w6)), (6, .int p7)]) hx hb dL_two_130 hl (by decide) rfl (fun ls hl => ?_)
          refine lv_aload hx hb dL_two_132 (lv_at hl 7 rfl) ?_
          refine lv_iconst (v := 5) hx hb dL_two_134 (by decide) ?_
          refine lv_iload hx hb dL_two_135 (lv_at hl 2 rfl) ?_
          refine lv_imul hx hb dL_two_137 ?_
          refine q_top (y := (nI (5 * (w6 % kw)))) (pk_mul 5 (w6 % kw)) ?_
          refine lv_iload hx hb dL_two_138 (lv_at hl 0 rfl) ?_
          refine lv_iadd hx hb dL_two_140 ?_
          refine q_top (y := (nI ((5 * (w6 % kw)) + 1))) (nI_add (5 * (w6 % kw)) 1) ?_
          refine q_ildN hx hb hK hP 88 40 (ar_88) ((5 * (w6 % kw)) + 1) dL_two_141 rfl (by omega) (by decide) ?_
          refine lv_istore (lv' := [(10, .int (R 88 ((5 * (w6 % kw)) + 1))), (9, .int (1 : Int32)), (8, .int (nI ((w6 / 8) % kw))), (7, .int (nI (w6 % kw))), (0, .ref (ad 0)), (1, .ref (ad 83)), (2, .ref (ad 84)), (3, .ref (ad 86)), (4, .ref (ad 88)), (5, .int (nI w6)), (6, .int p7)]) hx hb dL_two_142 hl (by decide) rfl (fun ls hl => ?_)
          refine lv_aload hx hb dL_two_144 (lv_at hl 8 rfl) ?_
          refine lv_iconst (v := 5) hx hb dL_two_146 (by decide) ?_
          refine lv_iload hx hb dL_two_147 (lv_at hl 3 rfl) ?_
          refine lv_imul hx hb dL_two_149 ?_
          refine q_top (y := (nI (5 * (w6 % kw)))) (pk_mul 5 (w6 % kw)) ?_
          refine lv_iload hx hb dL_two_150 (lv_at hl 1 rfl) ?_
          refine lv_iadd hx hb dL_two_152 ?_
          refine q_top (y := (nI ((5 * (w6 % kw)) + 1))) (nI_add (5 * (w6 % kw)) 1) ?_
          refine lv_aload hx hb dL_two_153 (lv_at hl 8 rfl) ?_
          refine lv_iconst (v := 5) hx hb dL_two_155 (by decide) ?_
          refine lv_iload hx hb dL_two_156 (lv_at hl 2 rfl) ?_
          refine lv_imul hx hb dL_two_158 ?_
          refine q_top (y := (nI (5 * ((w6 / 8) % kw)))) (pk_mul 5 ((w6 / 8) % kw)) ?_
          refine lv_iload hx hb dL_two_159 (lv_at hl 1 rfl) ?_
          refine lv_iadd hx hb dL_two_161 ?_
          refine q_top (y := (nI ((5 * ((w6 / 8) % kw)) + 1))) (nI_add (5 * ((w6 / 8) % kw)) 1) ?_
          refine q_ildN hx hb hK hP 88 40 (ar_88) ((5 * ((w6 / 8) % kw)) + 1) dL_two_162 rfl (by omega) (by decide) ?_
          refine q_istN hx hb hK hI hP hS 88 40 (ar_88) ((5 * (w6 % kw)) + 1) dL_two_163 rfl (by omega) (by decide) (fun H locs hP hS => ?_)
          have hP : WP D cI cS ad (sR R 88 ((5 * (w6 % kw)) + 1) (R 88 ((5 * ((w6 / 8) % kw)) + 1))) F H := hP
          refine lv_aload hx hb dL_two_164 (lv_at hl 8 rfl) ?_
          refine lv_iconst (v := 5) hx hb dL_two_166 (by decide) ?_
          refine lv_iload hx hb dL_two_167 (lv_at hl 2 rfl) ?_
          refine lv_imul hx hb dL_two_169 ?_
          refine q_top (y := (nI (5 * ((w6 / 8) % kw)))) (pk_mul 5 ((w6 / 8) % kw)) ?_
          refine lv_iload hx hb dL_two_170 (lv_at hl 1 rfl) ?_
          refine lv_iadd hx hb dL_two_172 ?_
          refine q_top (y := (nI ((5 * ((w6 / 8) % kw)) + 1))) (nI_add (5 * ((w6 / 8) % kw)) 1) ?_
          refine lv_iload hx hb dL_two_173 (lv_at hl 0 rfl) ?_
          refine q_istN hx hb hK hI hP hS 88 40 (ar_88) ((5 * ((w6 / 8) % kw)) + 1) dL_two_175 rfl (by omega) (by decide) (fun H locs hP hS => ?_)
          have hP : WP D cI cS ad (sR (sR R 88 ((5 * (w6 % kw)) + 1) (R 88 ((5 * ((w6 / 8) % kw)) + 1))) 88 ((5 * ((w6 / 8) % kw)) + 1) (R 88 ((5 * (w6 % kw)) + 1))) F H := hP
          refine lv_aload hx hb dL_two_176 (lv_at hl 8 rfl) ?_
          refine lv_iconst (v := 5) hx hb dL_two_178 (by decide) ?_
          refine lv_iload hx hb dL_two_179 (lv_at hl 3 rfl) ?_
          refine lv_imul hx hb dL_two_181 ?_
          refine q_top (y := (nI (5 * (w6 % kw)))) (pk_mul 5 (w6 % kw)) ?_
          refine lv_iconst (v := 4) hx hb dL_two_182 (by decide) ?_
          refine lv_iadd hx hb dL_two_183 ?_
          refine q_top (y := (nI ((5 * (w6 % kw)) + 4))) (nI_add (5 * (w6 % kw)) 4) ?_
          refine lv_dup2_11 hx hb dL_two_184 rfl rfl ?_
          refine q_ildN hx hb hK hP 88 40 (ar_88) ((5 * (w6 % kw)) + 4) dL_two_185 rfl (by omega) (by decide) ?_
          refine q_top (y := (R 88 ((5 * (w6 % kw)) + 4))) ((sR_same_ne (by omega)).trans (sR_same_ne (by omega))) ?_
          refine lv_iload hx hb dL_two_186 (lv_at hl 10 rfl) ?_
          refine lv_if_eq (tgt := 195) hx hb dL_two_188 (by decide) (fun c_188 => ?_) (fun c_188 => ?_)
          · exact absurd c_188 c_122
          · refine lv_iconst (v := 0) hx hb dL_two_191 (by decide) ?_
            refine lv_goto (tgt := 196) hx hb dL_two_192 (by decide) ?_
            refine lv_iadd hx hb dL_two_196 ?_
            refine q_istN hx hb hK hI hP hS 88 40 (ar_88) ((5 * (w6 % kw)) + 4) dL_two_197 rfl (by omega) (by decide) (fun H locs hP hS => ?_)
            have hP : WP D cI cS ad (sR (sR (sR R 88 ((5 * (w6 % kw)) + 1) (R 88 ((5 * ((w6 / 8) % kw)) + 1))) 88 ((5 * ((w6 / 8) % kw)) + 1) (R 88 ((5 * (w6 % kw)) + 1))) 88 ((5 * (w6 % kw)) + 4) ((R 88 ((5 * (w6 % kw)) + 4)) + (0 : Int32))) F H := hP
            refine lv_aload hx hb dL_two_198 (lv_at hl 8 rfl) ?_
            refine lv_iconst (v := 5) hx hb dL_two_200 (by decide) ?_
            refine lv_iload hx hb dL_two_201 (lv_at hl 2 rfl) ?_
            refine lv_imul hx hb dL_two_203 ?_
            refine q_top (y := (nI (5 * ((w6 / 8) % kw)))) (pk_mul 5 ((w6 / 8) % kw)) ?_
            refine lv_iconst (v := 4) hx hb dL_two_204 (by decide) ?_
            refine lv_iadd hx hb dL_two_205 ?_
            refine q_top (y := (nI ((5 * ((w6 / 8) % kw)) + 4))) (nI_add (5 * ((w6 / 8) % kw)) 4) ?_
            refine lv_dup2_11 hx hb dL_two_206 rfl rfl ?_
            refine q_ildN hx hb hK hP 88 40 (ar_88) ((5 * ((w6 / 8) % kw)) + 4) dL_two_207 rfl (by omega) (by decide) ?_
            refine q_top (y := (R 88 ((5 * ((w6 / 8) % kw)) + 4))) ((sR_same_ne (by omega)).trans ((sR_same_ne (by omega)).trans (sR_same_ne (by omega)))) ?_
            refine lv_iload hx hb dL_two_208 (lv_at hl 10 rfl) ?_
            refine lv_if_eq (tgt := 217) hx hb dL_two_210 (by decide) (fun c_210 => ?_) (fun c_210 => ?_)
            · exact absurd c_210 c_188
            · refine lv_iconst (v := 0) hx hb dL_two_213 (by decide) ?_
              refine lv_goto (tgt := 218) hx hb dL_two_214 (by decide) ?_
              refine lv_iadd hx hb dL_two_218 ?_
              refine q_istN hx hb hK hI hP hS 88 40 (ar_88) ((5 * ((w6 / 8) % kw)) + 4) dL_two_219 rfl (by omega) (by decide) (fun H locs hP hS => ?_)
              have hP : WP D cI cS ad (sR (sR (sR (sR R 88 ((5 * (w6 % kw)) + 1) (R 88 ((5 * ((w6 / 8) % kw)) + 1))) 88 ((5 * ((w6 / 8) % kw)) + 1) (R 88 ((5 * (w6 % kw)) + 1))) 88 ((5 * (w6 % kw)) + 4) ((R 88 ((5 * (w6 % kw)) + 4)) + (0 : Int32))) 88 ((5 * ((w6 / 8) % kw)) + 4) ((R 88 ((5 * ((w6 / 8) % kw)) + 4)) + (0 : Int32))) F H := hP
              refine lv_iload hx hb dL_two_220 (lv_at hl 10 rfl) ?_
              refine lv_if_eq (tgt := 236) hx hb dL_two_222 (by decide) (fun c_222 => ?_) (fun c_222 => ?_)
              · exact absurd c_222 c_210
              · refine lv_aload_n hx hb dL_two_225 rfl (lv_at hl 4 rfl) ?_
                refine lv_iload hx hb dL_two_226 (lv_at hl 3 rfl) ?_
                refine lv_iload hx hb dL_two_228 (lv_at hl 2 rfl) ?_
                refine q_callI (va_runV (As := [.int (nI (w6 % kw)), .int (nI ((w6 / 8) % kw))]) (rest := []) ⟨hx, hb, hml, hown, hts⟩ (mX1_swap l D cI cS ad hI (sR (sR (sR (sR R 88 ((5 * (w6 % kw)) + 1) (R 88 ((5 * ((w6 / 8) % kw)) + 1))) 88 ((5 * ((w6 / 8) % kw)) + 1) (R 88 ((5 * (w6 % kw)) + 1))) 88 ((5 * (w6 % kw)) + 4) ((R 88 ((5 * (w6 % kw)) + 4)) + (0 : Int32))) 88 ((5 * ((w6 / 8) % kw)) + 4) ((R 88 ((5 * ((w6 / 8) % kw)) + 4)) + (0 : Int32))) F (nI (w6 % kw)) (nI ((w6 / 8) % kw)) o q ho hq hF0 hF1) (cwV 2 hts gL_two_X1_swap rfl rfl rfl (by decide +kernel) ⟨Nat.le_of_ble_eq_true rfl, Nat.le_of_ble_eq_true rfl⟩) (PW_preV (i := 0) (by decide) CC_0 rfl rfl hK hP) rfl rfl hl.1 rfl (lv_room (Nat.le_of_ble_eq_true rfl)) dL_two_230 ⟨Nat.zero_le _, Nat.zero_le _⟩) hS (fun H locs hP hS => ?_)
                refine lv_goto (tgt := 244) hx hb dL_two_233 (by decide) ?_
                refine lv_aload_n hx hb dL_two_244 rfl (lv_at hl 5 rfl) ?_
                refine lv_aload_n hx hb dL_two_245 rfl (lv_at hl 6 rfl) ?_
                refine lv_aload_n hx hb dL_two_246 rfl (lv_at hl 7 rfl) ?_
                refine lv_aload hx hb dL_two_247 (lv_at hl 8 rfl) ?_
                refine q_callS (va_runS (As := [.ref (ad 83), .ref (ad 84), .ref (ad 86), .ref (ad 88)]) (rest := [.int ((xX1_swap (sR (sR (sR (sR R 88 ((5 * (w6 % kw)) + 1) (R 88 ((5 * ((w6 / 8) % kw)) + 1))) 88 ((5 * ((w6 / 8) % kw)) + 1) (R 88 ((5 * (w6 % kw)) + 1))) 88 ((5 * (w6 % kw)) + 4) ((R 88 ((5 * (w6 % kw)) + 4)) + (0 : Int32))) 88 ((5 * ((w6 / 8) % kw)) + 4) ((R 88 ((5 * ((w6 / 8) % kw)) + 4)) + (0 : Int32))) F (nI (w6 % kw)) (nI ((w6 / 8) % kw)) o q).1)]) ⟨hx, hb, hml, hown, hts⟩ (mL_error l D cI cS ad hI ((xX1_swap (sR (sR (sR (sR R 88 ((5 * (w6 % kw)) + 1) (R 88 ((5 * ((w6 / 8) % kw)) + 1))) 88 ((5 * ((w6 / 8) % kw)) + 1) (R 88 ((5 * (w6 % kw)) + 1))) 88 ((5 * (w6 % kw)) + 4) ((R 88 ((5 * (w6 % kw)) + 4)) + (0 : Int32))) 88 ((5 * ((w6 / 8) % kw)) + 4) ((R 88 ((5 * ((w6 / 8) % kw)) + 4)) + (0 : Int32))) F (nI (w6 % kw)) (nI ((w6 / 8) % kw)) o q).2.1) ((xX1_swap (sR (sR (sR (sR R 88 ((5 * (w6 % kw)) + 1) (R 88 ((5 * ((w6 / 8) % kw)) + 1))) 88 ((5 * ((w6 / 8) % kw)) + 1) (R 88 ((5 * (w6 % kw)) + 1))) 88 ((5 * (w6 % kw)) + 4) ((R 88 ((5 * (w6 % kw)) + 4)) + (0 : Int32))) 88 ((5 * ((w6 / 8) % kw)) + 4) ((R 88 ((5 * ((w6 / 8) % kw)) + 4)) + (0 : Int32))) F (nI (w6 % kw)) (nI ((w6 / 8) % kw)) o q).2.2) kw hkw ((congrFun (swap_hi (by assumption) (by assumption) (by assumption) (by assumption) (by decide)) 1).trans ((congrFun (sR_ne (by decide) _ _) 1).trans ((congrFun (sR_ne (by decide) _ _) 1).trans ((congrFun (sR_ne (by decide) _ _) 1).trans ((congrFun (sR_ne (by decide) _ _) 1).trans hW)))))) (va_cwS 4 hts gL_two_L_error rfl rfl rfl (by decide +kernel) ⟨Nat.le_of_ble_eq_true rfl, Nat.le_of_ble_eq_true rfl⟩) (PW_preS hK hP) rfl rfl hl.1 rfl (lv_room (Nat.le_of_ble_eq_true rfl)) dL_two_249 ⟨Nat.zero_le _, Nat.zero_le _⟩) ?_
                refine lv_icmp_ne (tgt := 259) hx hb dL_two_252 (by decide) (fun c_252 => ?_) (fun c_252 => ?_)
                · refine lv_iconst (v := 0) hx hb dL_two_259 (by decide) ?_
                  have hX : (xL_two R F w6 p7 kw o q) = ((0 : Int32), ((xX1_swap (sR (sR (sR (sR R 88 ((5 * (w6 % kw)) + 1) (R 88 ((5 * ((w6 / 8) % kw)) + 1))) 88 ((5 * ((w6 / 8) % kw)) + 1) (R 88 ((5 * (w6 % kw)) + 1))) 88 ((5 * (w6 % kw)) + 4) ((R 88 ((5 * (w6 % kw)) + 4)) + (0 : Int32))) 88 ((5 * ((w6 / 8) % kw)) + 4) ((R 88 ((5 * ((w6 / 8) % kw)) + 4)) + (0 : Int32))) F (nI (w6 % kw)) (nI ((w6 / 8) % kw)) o q).2.1), ((xX1_swap (sR (sR (sR (sR R 88 ((5 * (w6 % kw)) + 1) (R 88 ((5 * ((w6 / 8) % kw)) + 1))) 88 ((5 * ((w6 / 8) % kw)) + 1) (R 88 ((5 * (w6 % kw)) + 1))) 88 ((5 * (w6 % kw)) + 4) ((R 88 ((5 * (w6 % kw)) + 4)) + (0 : Int32))) 88 ((5 * ((w6 / 8) % kw)) + 4) ((R 88 ((5 * ((w6 / 8) % kw)) + 4)) + (0 : Int32))) F (nI (w6 % kw)) (nI ((w6 / 8) % kw)) o q).2.2)) := by unfold xL_two; rw [if_neg c_23, if_neg c_70, if_pos c_82, if_neg c_122, if_neg c_252]
                  exact W.zret (v := (0 : Int32)) hx hb hr rfl (fun t ht hW => ⟨by rw [hX], by rw [hX, ht]; with_reducible exact hP, hS.F ht⟩) hS.2.2 dL_two_260
                · refine lv_iconst (v := 1) hx hb dL_two_255 (by decide) ?_
                  refine lv_goto (tgt := 260) hx hb dL_two_256 (by decide) ?_
                  have hX : (xL_two R F w6 p7 kw o q) = ((1 : Int32), ((xX1_swap (sR (sR (sR (sR R 88 ((5 * (w6 % kw)) + 1) (R 88 ((5 * ((w6 / 8) % kw)) + 1))) 88 ((5 * ((w6 / 8) % kw)) + 1) (R 88 ((5 * (w6 % kw)) + 1))) 88 ((5 * (w6 % kw)) + 4) ((R 88 ((5 * (w6 % kw)) + 4)) + (0 : Int32))) 88 ((5 * ((w6 / 8) % kw)) + 4) ((R 88 ((5 * ((w6 / 8) % kw)) + 4)) + (0 : Int32))) F (nI (w6 % kw)) (nI ((w6 / 8) % kw)) o q).2.1), ((xX1_swap (sR (sR (sR (sR R 88 ((5 * (w6 % kw)) + 1) (R 88 ((5 * ((w6 / 8) % kw)) + 1))) 88 ((5 * ((w6 / 8) % kw)) + 1) (R 88 ((5 * (w6 % kw)) + 1))) 88 ((5 * (w6 % kw)) + 4) ((R 88 ((5 * (w6 % kw)) + 4)) + (0 : Int32))) 88 ((5 * ((w6 / 8) % kw)) + 4) ((R 88 ((5 * ((w6 / 8) % kw)) + 4)) + (0 : Int32))) F (nI (w6 % kw)) (nI ((w6 / 8) % kw)) o q).2.2)) := by unfold xL_two; rw [if_neg c_23, if_neg c_70, if_pos c_82, if_neg c_122, if_pos c_252]
                  exact W.zret (v := (1 : Int32)) hx hb hr rfl (fun t ht hW => ⟨by rw [hX], by rw [hX, ht]; with_reducible exact hP, hS.F ht⟩) hS.2.2 dL_two_260
      · refine lv_iload hx hb dL_two_85 (lv_at hl 8 rfl) ?_
        refine lv_if_eq (tgt := 101) hx hb dL_two_87 (by decide) (fun c_87 => ?_) (fun c_87 => ?_)
        · refine lv_aload_n hx hb dL_two_101 rfl (lv_at hl 2 rfl) ?_
          refine lv_iload hx hb dL_two_102 (lv_at hl 1 rfl) ?_
          refine lv_iload hx hb dL_two_104 (lv_at hl 0 rfl) ?_
          refine q_callI (va_runV (As := [.int (nI (w6 % kw)), .int (nI ((w6 / 8) % kw))]) (rest := []) ⟨hx, hb, hml, hown, hts⟩ (mX1_accuse l D cI cS ad hI R F (nI (w6 % kw)) (nI ((w6 / 8) % kw)) o q ho hq hF0 hF1) (cwV 2 hts gL_two_X1_accuse rfl rfl rfl (by decide +kernel) ⟨Nat.le_of_ble_eq_true rfl, Nat.le_of_ble_eq_true rfl⟩) (PW_preV (i := 0) (by decide) CC_0 rfl rfl hK hP) rfl rfl hl.1 rfl (lv_room (Nat.le_of_ble_eq_true rfl)) dL_two_106 ⟨Nat.zero_le _, Nat.zero_le _⟩) hS (fun H locs hP hS => ?_)
          refine lv_ldc (v := -100002) hx hb hown lk33 dL_two_109 ?_
          refine lv_icmp_ne (tgt := 118) hx hb dL_two_111 (by decide) (fun c_111 => ?_) (fun c_111 => ?_)
          · refine lv_iconst (v := 0) hx hb dL_two_118 (by decide) ?_
            have hX : (xL_two R F w6 p7 kw o q) = ((0 : Int32), ((xX1_accuse R F (nI (w6 % kw)) (nI ((w6 / 8) % kw)) o q).2.1), ((xX1_accuse R F (nI (w6 % kw)) (nI ((w6 / 8) % kw)) o q).2.2)) := by unfold xL_two; rw [if_neg c_23, if_neg c_70, if_neg c_82, if_pos c_87, if_neg c_111]
            exact W.zret (v := (0 : Int32)) hx hb hr rfl (fun t ht hW => ⟨by rw [hX], by rw [hX, ht]; with_reducible exact hP, hS.F ht⟩) hS.2.2 dL_two_119
          · refine lv_iconst (v := 1) hx hb dL_two_114 (by decide) ?_
            refine lv_goto (tgt := 119) hx hb dL_two_115 (by decide) ?_
            have hX : (xL_two R F w6 p7 kw o q) = ((1 : Int32), ((xX1_accuse R F (nI (w6 % kw)) (nI ((w6 / 8) % kw)) o q).2.1), ((xX1_accuse R F (nI (w6 % kw)) (nI ((w6 / 8) % kw)) o q).2.2)) := by unfold xL_two; rw [if_neg c_23, if_neg c_70, if_neg c_82, if_pos c_87, if_pos c_111]
            exact W.zret (v := (1 : Int32)) hx hb hr rfl (fun t ht hW => ⟨by rw [hX], by rw [hX, ht]; with_reducible exact hP, hS.F ht⟩) hS.2.2 dL_two_119
        · refine lv_aload_n hx hb dL_two_90 rfl (lv_at hl 2 rfl) ?_
          refine lv_iload hx hb dL_two_91 (lv_at hl 1 rfl) ?_
          refine lv_iload hx hb dL_two_93 (lv_at hl 0 rfl) ?_
          refine q_callI (va_runV (As := [.int (nI (w6 % kw)), .int (nI ((w6 / 8) % kw))]) (rest := []) ⟨hx, hb, hml, hown, hts⟩ (mX1_swap l D cI cS ad hI R F (nI (w6 % kw)) (nI ((w6 / 8) % kw)) o q ho hq hF0 hF1) (cwV 2 hts gL_two_X1_swap rfl rfl rfl (by decide +kernel) ⟨Nat.le_of_ble_eq_true rfl, Nat.le_of_ble_eq_true rfl⟩) (PW_preV (i := 0) (by decide) CC_0 rfl rfl hK hP) rfl rfl hl.1 rfl (lv_room (Nat.le_of_ble_eq_true rfl)) dL_two_95 ⟨Nat.zero_le _, Nat.zero_le _⟩) hS (fun H locs hP hS => ?_)
          refine lv_goto (tgt := 109) hx hb dL_two_98 (by decide) ?_
          refine lv_ldc (v := -100002) hx hb hown lk33 dL_two_109 ?_
          refine lv_icmp_ne (tgt := 118) hx hb dL_two_111 (by decide) (fun c_111 => ?_) (fun c_111 => ?_)
          · refine lv_iconst (v := 0) hx hb dL_two_118 (by decide) ?_
            have hX : (xL_two R F w6 p7 kw o q) = ((0 : Int32), ((xX1_swap R F (nI (w6 % kw)) (nI ((w6 / 8) % kw)) o q).2.1), ((xX1_swap R F (nI (w6 % kw)) (nI ((w6 / 8) % kw)) o q).2.2)) := by unfold xL_two; rw [if_neg c_23, if_neg c_70, if_neg c_82, if_neg c_87, if_neg c_111]
            exact W.zret (v := (0 : Int32)) hx hb hr rfl (fun t ht hW => ⟨by rw [hX], by rw [hX, ht]; with_reducible exact hP, hS.F ht⟩) hS.2.2 dL_two_119
          · refine lv_iconst (v := 1) hx hb dL_two_114 (by decide) ?_
            refine lv_goto (tgt := 119) hx hb dL_two_115 (by decide) ?_
            have hX : (xL_two R F w6 p7 kw o q) = ((1 : Int32), ((xX1_swap R F (nI (w6 % kw)) (nI ((w6 / 8) % kw)) o q).2.1), ((xX1_swap R F (nI (w6 % kw)) (nI ((w6 / 8) % kw)) o q).2.2)) := by unfold xL_two; rw [if_neg c_23, if_neg c_70, if_neg c_82, if_neg c_87, if_pos c_111]
            exact W.zret (v := (1 : Int32)) hx hb hr rfl (fun t ht hW => ⟨by rw [hX], by rw [hX, ht]; with_reducible exact hP, hS.F ht⟩) hS.2.2 dL_two_119
  · have n_23 : ((w6 % kw)) = (((w6 / 8) % kw)) := (nI_eq (a := (w6 % kw)) (b := ((w6 / 8) % kw)) (by omega) (by omega)).mp c_23
    refine lv_iload hx hb dL_two_26 (lv_at hl 8 rfl) ?_
    refine lv_if_eq (tgt := 42) hx hb dL_two_28 (by decide) (fun c_28 => ?_) (fun c_28 => ?_)
    · refine lv_aload_n hx hb dL_two_42 rfl (lv_at hl 2 rfl) ?_
      refine lv_iload hx hb dL_two_43 (lv_at hl 1 rfl) ?_
      refine lv_iload hx hb dL_two_45 (lv_at hl 0 rfl) ?_
      refine q_callI (va_runV (As := [.int (nI (w6 % kw)), .int (nI ((w6 / 8) % kw))]) (rest := []) ⟨hx, hb, hml, hown, hts⟩ (mX1_accuse l D cI cS ad hI R F (nI (w6 % kw)) (nI ((w6 / 8) % kw)) o q ho hq hF0 hF1) (cwV 2 hts gL_two_X1_accuse rfl rfl rfl (by decide +kernel) ⟨Nat.le_of_ble_eq_true rfl, Nat.le_of_ble_eq_true rfl⟩) (PW_preV (i := 0) (by decide) CC_0 rfl rfl hK hP) rfl rfl hl.1 rfl (lv_room (Nat.le_of_ble_eq_true rfl)) dL_two_47 ⟨Nat.zero_le _, Nat.zero_le _⟩) hS (fun H locs hP hS => ?_)
      refine lv_ldc (v := -100001) hx hb hown lk32 dL_two_50 ?_
      refine lv_icmp_ne (tgt := 59) hx hb dL_two_52 (by decide) (fun c_52 => ?_) (fun c_52 => ?_)
      · refine lv_iconst (v := 0) hx hb dL_two_59 (by decide) ?_
        have hX : (xL_two R F w6 p7 kw o q) = ((0 : Int32), ((xX1_accuse R F (nI (w6 % kw)) (nI ((w6 / 8) % kw)) o q).2.1), ((xX1_accuse R F (nI (w6 % kw)) (nI ((w6 / 8) % kw)) o q).2.2)) := by unfold xL_two; rw [if_pos c_23, if_pos c_28, if_neg c_52]
        exact W.zret (v := (0 : Int32)) hx hb hr rfl (fun t ht hW => ⟨by rw [hX], by rw [hX, ht]; with_reducible exact hP, hS.F ht⟩) hS.2.2 dL_two_60
      · refine lv_iconst (v := 1) hx hb dL_two_55 (by decide) ?_
        refine lv_goto (tgt := 60) hx hb dL_two_56 (by decide) ?_
        have hX : (xL_two R F w6 p7 kw o q) = ((1 : Int32), ((xX1_accuse R F (nI (w6 % kw)) (nI ((w6 / 8) % kw)) o q).2.1), ((xX1_accuse R F (nI (w6 % kw)) (nI ((w6 / 8) % kw)) o q).2.2)) := by unfold xL_two; rw [if_pos c_23, if_pos c_28, if_pos c_52]
        exact W.zret (v := (1 : Int32)) hx hb hr rfl (fun t ht hW => ⟨by rw [hX], by rw [hX, ht]; with_reducible exact hP, hS.F ht⟩) hS.2.2 dL_two_60
    · refine lv_aload_n hx hb dL_two_31 rfl (lv_at hl 2 rfl) ?_
      refine lv_iload hx hb dL_two_32 (lv_at hl 1 rfl) ?_
      refine lv_iload hx hb dL_two_34 (lv_at hl 0 rfl) ?_
      refine q_callI (va_runV (As := [.int (nI (w6 % kw)), .int (nI ((w6 / 8) % kw))]) (rest := []) ⟨hx, hb, hml, hown, hts⟩ (mX1_swap l D cI cS ad hI R F (nI (w6 % kw)) (nI ((w6 / 8) % kw)) o q ho hq hF0 hF1) (cwV 2 hts gL_two_X1_swap rfl rfl rfl (by decide +kernel) ⟨Nat.le_of_ble_eq_true rfl, Nat.le_of_ble_eq_true rfl⟩) (PW_preV (i := 0) (by decide) CC_0 rfl rfl hK hP) rfl rfl hl.1 rfl (lv_room (Nat.le_of_ble_eq_true rfl)) dL_two_36 ⟨Nat.zero_le _, Nat.zero_le _⟩) hS (fun H locs hP hS => ?_)
      refine lv_goto (tgt := 50) hx hb dL_two_39 (by decide) ?_
      refine lv_ldc (v := -100001) hx hb hown lk32 dL_two_50 ?_
      refine lv_icmp_ne (tgt := 59) hx hb dL_two_52 (by decide) (fun c_52 => ?_) (fun c_52 => ?_)
      · refine lv_iconst (v := 0) hx hb dL_two_59 (by decide) ?_
        have hX : (xL_two R F w6 p7 kw o q) = ((0 : Int32), ((xX1_swap R F (nI (w6 % kw)) (nI ((w6 / 8) % kw)) o q).2.1), ((xX1_swap R F (nI (w6 % kw)) (nI ((w6 / 8) % kw)) o q).2.2)) := by unfold xL_two; rw [if_pos c_23, if_neg c_28, if_neg c_52]
        exact W.zret (v := (0 : Int32)) hx hb hr rfl (fun t ht hW => ⟨by rw [hX], by rw [hX, ht]; with_reducible exact hP, hS.F ht⟩) hS.2.2 dL_two_60
      · refine lv_iconst (v := 1) hx hb dL_two_55 (by decide) ?_
        refine lv_goto (tgt := 60) hx hb dL_two_56 (by decide) ?_
        have hX : (xL_two R F w6 p7 kw o q) = ((1 : Int32), ((xX1_swap R F (nI (w6 % kw)) (nI ((w6 / 8) % kw)) o q).2.1), ((xX1_swap R F (nI (w6 % kw)) (nI ((w6 / 8) % kw)) o q).2.2)) := by unfold xL_two; rw [if_pos c_23, if_neg c_28, if_pos c_52]
        exact W.zret (v := (1 : Int32)) hx hb hr rfl (fun t ht hW => ⟨by rw [hX], by rw [hX, ht]; with_reducible exact hP, hS.F ht⟩) hS.2.2 dL_two_60

