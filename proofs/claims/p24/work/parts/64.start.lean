/-! THE LAW FROM ITS ENTRY -/
theorem INV_0 : INV R00 F00 := by
  have hN : ∀ k, R00 7 k = -100009 ∧ R00 9 k = -100009 ∧ R00 10 k = 0 ∧ R00 11 k = -100009 ∧ R00 13 k = -100009 := fun k => ⟨rfl, rfl, rfl, rfl, rfl⟩
  have e83 : R00 83 = upd (fun _ => 0) 2 10 := rfl
  have hs : ∀ x, x ≠ 2 → R00 83 x = 0 := fun x hx => by rw [e83, upd_ne hx]
  have h2 : R00 83 2 = 10 := by rw [e83, upd_same]
  have hz : ∀ x : Int32, oz (-100009) * x = 0 := fun x => by
    show (0 : Int32) * x = 0
    grind
  refine ⟨0, 0, 0, 0, ⟨by decide, by decide, rfl, rfl⟩, ⟨by decide, by decide, rfl, hs 1 (by decide), rfl, hs 0 (by decide), h2⟩, fun c hc => ⟨rfl, rfl, rfl, rfl, (show -3 ≤ (0 : Int32).toInt ∧ (0 : Int32).toInt ≤ 3 by decide), ⟨0, Nat.le_refl _, rfl⟩, (show -(3 * ((0 : Nat) : Int)) ≤ (0 : Int32).toInt ∧ (0 : Int32).toInt ≤ 3 * ((0 : Nat) : Int) by decide)⟩, fun k hk => by omega, fun k hk => by omega, fun k _ _ => hN k, ⟨fun i j _ _ h => absurd (hN i).1 h, fun i j _ _ h => absurd (hN i).2.1 h, fun i _ h => absurd (hN i).1 h, fun i _ h => absurd (hN i).2.1 h⟩, ?_⟩
  unfold tots
  rw [hs 3 (by decide), hs 4 (by decide), hs 5 (by decide)]
  refine ⟨(sT_zero 8 0 (fun j _ _ => ?_)).symm, (sT_zero 8 0 (fun j _ _ => ?_)).symm, (sT_zero 8 0 (fun j _ _ => ?_)).symm⟩
  · show oz (R00 11 j) - oz (R00 13 j) = 0
    rw [(hN j).2.2.2.1, (hN j).2.2.2.2]
    rfl
  · show oz (R00 11 j) * R00 12 j = 0
    rw [(hN j).2.2.2.1, hz]
  · show oz (R00 13 j) * R00 12 j = 0
    rw [(hN j).2.2.2.2, hz]
theorem CC_adc {cI cS : ClassId} {ad ad' : Nat → Nat} {R F : Nat → Nat → Int32} {i : Nat} (hi : i < 83) (h14 : i ≠ 14) (ha : ∀ j, j < 83 → ad' j = ad j) : CC cI cS ad' R F i = CC cI cS ad R F i := by
  unfold CC
  by_cases h1 : isA i = true
  · rw [if_pos h1, if_pos h1]
  · rw [if_neg h1, if_neg h1]
    by_cases h2 : St i = true
    · rw [if_pos h2, if_pos h2]
      have hb : i + 12 < 83 := by
        simp only [St, Bool.or_eq_true, beq_iff_eq] at h2
        omega
      unfold fsS
      rw [ha (i + 1) (by omega), ha (i + 2) (by omega), ha (i + 3) (by omega), ha (i + 4) (by omega), ha (i + 5) (by omega), ha (i + 6) (by omega), ha (i + 7) (by omega), ha (i + 8) (by omega), ha (i + 9) (by omega), ha (i + 10) (by omega), ha (i + 11) (by omega), ha (i + 12) (by omega)]
    · rw [if_neg h2, if_neg h2]
      by_cases h3 : i = 0
      · rw [if_pos h3, if_pos h3]
        unfold fsF
        rw [ha 1 (by omega), ha 14 (by omega), ha 15 (by omega), ha 16 (by omega), ha 17 (by omega)]
      · exfalso
        have hs : ∀ i, i < 83 → isA i = true ∨ St i = true ∨ i = 0 ∨ i = 14 := by decide
        rcases hs i (by omega) with h | h | h | h
        · exact h1 h
        · exact h2 h
        · exact h3 h
        · exact h14 h
/-- the rows before the price is set -/
def R0z : Nat → Nat → Int32 := fun i => if i = 83 then (fun _ => 0) else R00 i
def lwL (cI : ClassId) (q : Nat → Nat) : va_W := [(q 0, .inl (cI, 6, .inl (fun _ => 0))), (q 1, .inl (cI, 24, .inl (fun _ => 0))), (q 2, .inl (cI, 24, .inl (fun _ => 0))), (q 3, .inl (cI, 24, .inl (fun _ => 0))), (q 4, .inl (cI, 24, .inl (fun _ => 0))), (q 5, .inl (cI, 40, .inl (fun _ => 0))), (q 6, .inl (cI, 40, .inl (fun _ => 0)))]
def adL (ad1 : Nat → Nat) (q : Nat → Nat) : Nat → Nat := fun i => if i < 83 then ad1 i else q (i - 83)
theorem wl_at2 {cI cS : ClassId} {ad1 q : Nat → Nat} (k : Nat) (hk : k < 90) : (gwl 83 ad1 (CC cI cS ad1 R00 F00) ++ lwL cI q)[k]? = some (adL ad1 q k, if k = 14 then CC cI cS ad1 R00 F00 14 else CC cI cS (adL ad1 q) R0z F00 k) := by
  have ha : ∀ j, j < 83 → adL ad1 q j = ad1 j := fun j hj => by unfold adL; rw [if_pos hj]
  by_cases h : k < 83
  · rw [List.getElem?_append_left (by rw [gwl_len]; exact h), gwl_at h, ha k h]
    by_cases h14 : k = 14
    · rw [if_pos h14, h14]
    · rw [if_neg h14, ← CC_adc (R := R00) h h14 ha]
      have e : R0z k = R00 k := by
        unfold R0z
        rw [if_neg (by omega)]
      rw [CC_cong e rfl]
  · rw [List.getElem?_append_right (by rw [gwl_len]; omega), gwl_len, if_neg (by omega)]
    rcases (by omega : k = 83 ∨ k = 84 ∨ k = 85 ∨ k = 86 ∨ k = 87 ∨ k = 88 ∨ k = 89) with rfl | rfl | rfl | rfl | rfl | rfl | rfl <;> rfl
theorem wl_start {D : va_G} {cI cS : ClassId} {ad1 q : Nat → Nat} {H : Heap} (h : va_P D vwCl (gwl 83 ad1 (CC cI cS ad1 R00 F00) ++ lwL cI q) H) : WP D cI cS (adL ad1 q) R0z F00 H := by
  refine va_P_congr h (fun k q' hk => ?_)
  obtain ⟨h1, rfl⟩ := wl_lt hk
  refine ⟨_, wl_at2 k h1, ?_⟩
  by_cases h14 : k = 14
  · subst h14
    intro hx
    rw [if_pos rfl, CC_14] at hx
    rw [CC_14]
    show H[adL ad1 q 14]? = some (vp_cell cS (5, .inr (.inr (.inr (.inr (fun k => some (adL ad1 q (18 + 13 * k))))))))
    rw [cell_q_congr (g := fun k => some (ad1 (18 + 13 * k))) (fun i hi => by unfold adL; rw [if_pos (by omega)])]
    exact hx
  · rw [if_neg h14]
    exact id
set_option maxHeartbeats 4000000 in
set_option maxRecDepth 100000 in
theorem whole_start {p : Program} {e : Env} {s : State} {m : MethodId} {below : List Frame} {meth : Method} {c : Code} (l : Launch) (hflags : l.flags = flags0) {b L : Nat} {xs : Nat → Int32} (hL : L ≤ 260) (C0 : lw_At p s m meth c b L xs) : W p l e room_1 s m #[Value.ref b] below meth c s.heap [] 0 0 (lw_Z below #[Value.ref b] s) (entryFrame m ([Value.ref b] : List Value).toArray 12) := by
  obtain ⟨hx, hb, hr, hml, hown, htt, hX, hbl, hlocks, hgv⟩ := id C0
  have hts : ∀ w ∈ wsL_law, w.before #[Value.ref b] s = true := fun w h => htt w (wsL_law_in w h)
  have hown : s.vm.findClass RL = some m.cls := hown
  have hbA : ¬ (fun q : Nat => s.heap.size ≤ q) b := Nat.not_le.mpr hbl
  have hA : ∀ q : Nat, s.heap.size ≤ q → (fun q : Nat => s.heap.size ≤ q) q := fun _ h => h
  obtain ⟨c0, iS0, hKn0⟩ := u_known (C := RX0) (T := TX0) (N := 15) (n := 15) htt inX0 (htt (.instantiable RX0 15) (by decide +kernel))
  obtain ⟨c1, iS1, hKn1⟩ := u_known (C := RX1) (T := TX1) (N := 7) (n := 7) htt inX1 (htt (.instantiable RX1 7) (by decide +kernel))
  obtain ⟨D, hKc⟩ : ∃ D : va_G, ∀ (k : Nat) (q : vw_C), vwCl[k]? = some q → u_Kn s q.1 q.2.1 q.2.2 (D.1 k) (D.2 k) := by
    refine ⟨(fun k => if k = 0 then c0 else c1, fun k => if k = 0 then iS0 else iS1), ?_⟩
    intro k q hq
    match k, hq with
    | 0, hq => cases hq; exact hKn0
    | 1, hq => cases hq; exact hKn1
    | k + 2, hq => simp at hq
  obtain ⟨cI, kI, compI, i1, i2, i3⟩ := Cond.arrayClass_spec (htt (.arrayClass .int) (by decide +kernel))
  have hAO0 : (Cond.arrayOver (.object RX0)).before #[Value.ref b] s = true := htt (.arrayOver (.object RX0)) (by decide +kernel)
  obtain ⟨comp, cS, kS, g1, g2, g3, g4, g5⟩ := Cond.arrayOver_spec hAO0
  have hAO : va_AO RX0 s := va_AO.of hAO0
  have hK : KK D cI cS s := by
    refine ⟨⟨hKc, fun k q hq => ?_⟩, va_Nw.of rfl (htt (.methodLinkNest RX0 59 yX1_fillRow RX1) (by decide +kernel)), va_Nw.of rfl (htt (.methodLinkNest RX0 63 yX1_copyRow RX1) (by decide +kernel))⟩
    match k, hq with
    | 0, hq => cases hq; exact ⟨fun n z => ⟨fun k h => (by cases h), kI, i2, compI, i3⟩, i1⟩
    | 1, hq => cases hq; exact ⟨fun n z => ⟨fun k h => (by cases h), kS, g3, comp, g4⟩, kS, comp, g3, g4, g1, g5⟩
    | k + 2, hq => simp at hq
  have hS : va_S (fun q : Nat => s.heap.size ≤ q) s.heap s.heap [] := va_S.rf
  have hP : va_P D vwCl [] s.heap := fun k q h => by simp at h
  have hD : va_D (fun q : Nat => s.heap.size ≤ q) [] := ⟨fun i j p q h => by simp at h, fun k q h => by simp at h⟩
  have hl := lv_entry ([.ref b]) (n := 12) (Nat.le_of_ble_eq_true rfl)
  rw [lg_entry_eq]
  generalize (lg_sl ([.ref b]) ++ List.replicate (12 - (lg_sl ([.ref b])).length) Slot.unset).toArray = ls at hl ⊢
  have hl : lv_has ls 12 [(0, .ref b)] := hl
  refine va_new (ci := 1) (fs := [.null, .null, .int 0, .int 0, .null, .null, .null]) (C := RX1) (T := TX1) (N := 7) hx hb htt inX1 tyX1 tyX1_ok hown (hts (.classLink RL 24 RX1) (by decide +kernel)) (hts (.instantiable RX1 7) (by decide +kernel)) (hts (.initialized RX1) (by decide +kernel)) hK.1 hP hD hS hA rfl (by decide) (Nat.le_of_ble_eq_true rfl) (Nat.le_of_ble_eq_true rfl) dL_law_0 (fun q1 H hP hD hS => ?_)
  have hP : va_P D vwCl ([] ++ [(q1, ff0)]) H := hP
  have hD : va_D (fun q : Nat => s.heap.size ≤ q) ([] ++ [(q1, ff0)]) := hD
  refine W.widen (k := 1) (n := 7) (Nat.le_refl _) (Nat.le_refl _) ?_
  refine lv_dup hx hb dL_law_3 rfl ?_
  have hS0 := hS
  refine va_callv (va_runI (As := []) (rest := [.ref q1]) ⟨hx, hb, hml, hown, hts⟩ (mX1_init l D cI cS q1 H.size) (cwI 0 hts gL_law_X1_init rfl rfl rfl (hts (.initialized RX1) (by decide +kernel)) (hts (.methodLink RL 105 yX1_init) (by decide +kernel)) (hts (.instanceMethod yX1_init) (by decide +kernel)) rfl (by decide +kernel) ⟨Nat.le_of_ble_eq_true rfl, Nat.le_of_ble_eq_true rfl⟩) ⟨fun a U g mk q => ⟨q.1, q.2.1, q.2.2.1, KK.calling q.2.2.2.1, va_AO.moved (u := U) (U := U.calling g mk a) (Vm.Alike.refl U.vm) q.2.2.2.2.1, q.2.2.2.2.2⟩, fun U hU hW => ⟨rfl, by rw [hU], by rw [hU]; exact last_P hP, hK.warm hW, va_AO.moved hW.alike hAO, last_D⟩⟩ rfl rfl hl.1 rfl (lv_room (Nat.le_of_ble_eq_true rfl)) dL_law_4 ⟨(Nat.le_of_ble_eq_true rfl), (Nat.le_of_ble_eq_true rfl)⟩) hS (fun q _ h => fr_last hD hS hA q h) (fr_last hD hS hA) (fun ad1 t H1 locs ht hvm hw hB hz1 hk1 hS => ?_)
  obtain ⟨hB0, hB1, hB2⟩ := hB
  rw [ht] at hB1
  obtain ⟨hP, hD⟩ := jn_last hP hD hk1 (fr_last hD hS0 hA) hB1 hB2
  rw [List.nil_append] at hP hD
  generalize H1 = H at hP hS ⊢
  refine W.widen (k := 83) (n := 1118) (Nat.le_refl _) (Nat.le_refl _) ?_
  refine lv_astore_n (lv' := [(1, .ref q1), (0, .ref b)]) hx hb dL_law_7 rfl hl (by decide) rfl (fun ls hl => ?_)
  refine lv_bipush (v := 6) hx hb dL_law_8 (by decide) ?_
  refine va_newa (atype := .int) (a0 := (6, .inl (fun _ => 0))) (N' := 6) hx hb (hts (.arrayClass .int) (by decide +kernel)) rfl hK.1 hP hD hS hA (fun cA => rfl) (by decide) (by decide) (by decide) (Nat.le_of_ble_eq_true rfl) (Nat.le_of_ble_eq_true rfl) dL_law_10 (fun z0 cA H hK1 hP hD hS => ?_)
  rw [ka_int hK.1 hK1] at hP hD
  have hP : va_P D vwCl (gwl 83 ad1 (CC cI cS ad1 R00 F00) ++ [(z0, .inl (cI, 6, .inl (fun _ => 0)))]) H := hP
  have hD : va_D (fun q : Nat => s.heap.size ≤ q) (gwl 83 ad1 (CC cI cS ad1 R00 F00) ++ [(z0, .inl (cI, 6, .inl (fun _ => 0)))]) := hD
  refine W.widen (k := 84) (n := 1124) (Nat.le_refl _) (Nat.le_refl _) ?_
  refine lv_astore_n (lv' := [(2, .ref z0), (1, .ref q1), (0, .ref b)]) hx hb dL_law_12 rfl hl (by decide) rfl (fun ls hl => ?_)
  refine lv_bipush (v := 24) hx hb dL_law_13 (by decide) ?_
  refine va_newa (atype := .int) (a0 := (24, .inl (fun _ => 0))) (N' := 24) hx hb (hts (.arrayClass .int) (by decide +kernel)) rfl hK.1 hP hD hS hA (fun cA => rfl) (by decide) (by decide) (by decide) (Nat.le_of_ble_eq_true rfl) (Nat.le_of_ble_eq_true rfl) dL_law_15 (fun z1 cA H hK1 hP hD hS => ?_)
  rw [ka_int hK.1 hK1] at hP hD
  rw [List.append_assoc] at hP hD
  have hP : va_P D vwCl (gwl 83 ad1 (CC cI cS ad1 R00 F00) ++ [(z0, .inl (cI, 6, .inl (fun _ => 0))), (z1, .inl (cI, 24, .inl (fun _ => 0)))]) H := hP
  have hD : va_D (fun q : Nat => s.heap.size ≤ q) (gwl 83 ad1 (CC cI cS ad1 R00 F00) ++ [(z0, .inl (cI, 6, .inl (fun _ => 0))), (z1, .inl (cI, 24, .inl (fun _ => 0)))]) := hD
  refine W.widen (k := 85) (n := 1148) (Nat.le_refl _) (Nat.le_refl _) ?_
  refine lv_astore_n (lv' := [(3, .ref z1), (2, .ref z0), (1, .ref q1), (0, .ref b)]) hx hb dL_law_17 rfl hl (by decide) rfl (fun ls hl => ?_)
  refine lv_bipush (v := 24) hx hb dL_law_18 (by decide) ?_
  refine va_newa (atype := .int) (a0 := (24, .inl (fun _ => 0))) (N' := 24) hx hb (hts (.arrayClass .int) (by decide +kernel)) rfl hK.1 hP hD hS hA (fun cA => rfl) (by decide) (by decide) (by decide) (Nat.le_of_ble_eq_true rfl) (Nat.le_of_ble_eq_true rfl) dL_law_20 (fun z2 cA H hK1 hP hD hS => ?_)
  rw [ka_int hK.1 hK1] at hP hD
  rw [List.append_assoc] at hP hD
  have hP : va_P D vwCl (gwl 83 ad1 (CC cI cS ad1 R00 F00) ++ [(z0, .inl (cI, 6, .inl (fun _ => 0))), (z1, .inl (cI, 24, .inl (fun _ => 0))), (z2, .inl (cI, 24, .inl (fun _ => 0)))]) H := hP
  have hD : va_D (fun q : Nat => s.heap.size ≤ q) (gwl 83 ad1 (CC cI cS ad1 R00 F00) ++ [(z0, .inl (cI, 6, .inl (fun _ => 0))), (z1, .inl (cI, 24, .inl (fun _ => 0))), (z2, .inl (cI, 24, .inl (fun _ => 0)))]) := hD
  refine W.widen (k := 86) (n := 1172) (Nat.le_refl _) (Nat.le_refl _) ?_
  refine lv_astore (lv' := [(4, .ref z2), (3, .ref z1), (2, .ref z0), (1, .ref q1), (0, .ref b)]) hx hb dL_law_22 hl (by decide) rfl (fun ls hl => ?_)
  refine lv_bipush (v := 24) hx hb dL_law_24 (by decide) ?_
  refine va_newa (atype := .int) (a0 := (24, .inl (fun _ => 0))) (N' := 24) hx hb (hts (.arrayClass .int) (by decide +kernel)) rfl hK.1 hP hD hS hA (fun cA => rfl) (by decide) (by decide) (by decide) (Nat.le_of_ble_eq_true rfl) (Nat.le_of_ble_eq_true rfl) dL_law_26 (fun z3 cA H hK1 hP hD hS => ?_)
  rw [ka_int hK.1 hK1] at hP hD
  rw [List.append_assoc] at hP hD
  have hP : va_P D vwCl (gwl 83 ad1 (CC cI cS ad1 R00 F00) ++ [(z0, .inl (cI, 6, .inl (fun _ => 0))), (z1, .inl (cI, 24, .inl (fun _ => 0))), (z2, .inl (cI, 24, .inl (fun _ => 0))), (z3, .inl (cI, 24, .inl (fun _ => 0)))]) H := hP
  have hD : va_D (fun q : Nat => s.heap.size ≤ q) (gwl 83 ad1 (CC cI cS ad1 R00 F00) ++ [(z0, .inl (cI, 6, .inl (fun _ => 0))), (z1, .inl (cI, 24, .inl (fun _ => 0))), (z2, .inl (cI, 24, .inl (fun _ => 0))), (z3, .inl (cI, 24, .inl (fun _ => 0)))]) := hD
  refine W.widen (k := 87) (n := 1196) (Nat.le_refl _) (Nat.le_refl _) ?_
  refine lv_astore (lv' := [(5, .ref z3), (4, .ref z2), (3, .ref z1), (2, .ref z0), (1, .ref q1), (0, .ref b)]) hx hb dL_law_28 hl (by decide) rfl (fun ls hl => ?_)
  refine lv_bipush (v := 24) hx hb dL_law_30 (by decide) ?_
  refine va_newa (atype := .int) (a0 := (24, .inl (fun _ => 0))) (N' := 24) hx hb (hts (.arrayClass .int) (by decide +kernel)) rfl hK.1 hP hD hS hA (fun cA => rfl) (by decide) (by decide) (by decide) (Nat.le_of_ble_eq_true rfl) (Nat.le_of_ble_eq_true rfl) dL_law_32 (fun z4 cA H hK1 hP hD hS => ?_)
  rw [ka_int hK.1 hK1] at hP hD
  rw [List.append_assoc] at hP hD
  have hP : va_P D vwCl (gwl 83 ad1 (CC cI cS ad1 R00 F00) ++ [(z0, .inl (cI, 6, .inl (fun _ => 0))), (z1, .inl (cI, 24, .inl (fun _ => 0))), (z2, .inl (cI, 24, .inl (fun _ => 0))), (z3, .inl (cI, 24, .inl (fun _ => 0))), (z4, .inl (cI, 24, .inl (fun _ => 0)))]) H := hP
  have hD : va_D (fun q : Nat => s.heap.size ≤ q) (gwl 83 ad1 (CC cI cS ad1 R00 F00) ++ [(z0, .inl (cI, 6, .inl (fun _ => 0))), (z1, .inl (cI, 24, .inl (fun _ => 0))), (z2, .inl (cI, 24, .inl (fun _ => 0))), (z3, .inl (cI, 24, .inl (fun _ => 0))), (z4, .inl (cI, 24, .inl (fun _ => 0)))]) := hD
  refine W.widen (k := 88) (n := 1220) (Nat.le_refl _) (Nat.le_refl _) ?_
  refine lv_astore (lv' := [(6, .ref z4), (5, .ref z3), (4, .ref z2), (3, .ref z1), (2, .ref z0), (1, .ref q1), (0, .ref b)]) hx hb dL_law_34 hl (by decide) rfl (fun ls hl => ?_)
  refine lv_bipush (v := 40) hx hb dL_law_36 (by decide) ?_
  refine va_newa (atype := .int) (a0 := (40, .inl (fun _ => 0))) (N' := 40) hx hb (hts (.arrayClass .int) (by decide +kernel)) rfl hK.1 hP hD hS hA (fun cA => rfl) (by decide) (by decide) (by decide) (Nat.le_of_ble_eq_true rfl) (Nat.le_of_ble_eq_true rfl) dL_law_38 (fun z5 cA H hK1 hP hD hS => ?_)
  rw [ka_int hK.1 hK1] at hP hD
  rw [List.append_assoc] at hP hD
  have hP : va_P D vwCl (gwl 83 ad1 (CC cI cS ad1 R00 F00) ++ [(z0, .inl (cI, 6, .inl (fun _ => 0))), (z1, .inl (cI, 24, .inl (fun _ => 0))), (z2, .inl (cI, 24, .inl (fun _ => 0))), (z3, .inl (cI, 24, .inl (fun _ => 0))), (z4, .inl (cI, 24, .inl (fun _ => 0))), (z5, .inl (cI, 40, .inl (fun _ => 0)))]) H := hP
  have hD : va_D (fun q : Nat => s.heap.size ≤ q) (gwl 83 ad1 (CC cI cS ad1 R00 F00) ++ [(z0, .inl (cI, 6, .inl (fun _ => 0))), (z1, .inl (cI, 24, .inl (fun _ => 0))), (z2, .inl (cI, 24, .inl (fun _ => 0))), (z3, .inl (cI, 24, .inl (fun _ => 0))), (z4, .inl (cI, 24, .inl (fun _ => 0))), (z5, .inl (cI, 40, .inl (fun _ => 0)))]) := hD
  refine W.widen (k := 89) (n := 1260) (Nat.le_refl _) (Nat.le_refl _) ?_
  refine lv_astore (lv' := [(7, .ref z5), (6, .ref z4), (5, .ref z3), (4, .ref z2), (3, .ref z1), (2, .ref z0), (1, .ref q1), (0, .ref b)]) hx hb dL_law_40 hl (by decide) rfl (fun ls hl => ?_)
  refine lv_bipush (v := 40) hx hb dL_law_42 (by decide) ?_
  refine va_newa (atype := .int) (a0 := (40, .inl (fun _ => 0))) (N' := 40) hx hb (hts (.arrayClass .int) (by decide +kernel)) rfl hK.1 hP hD hS hA (fun cA => rfl) (by decide) (by decide) (by decide) (Nat.le_of_ble_eq_true rfl) (Nat.le_of_ble_eq_true rfl) dL_law_44 (fun z6 cA H hK1 hP hD hS => ?_)
  rw [ka_int hK.1 hK1] at hP hD
  rw [List.append_assoc] at hP hD
  have hP : va_P D vwCl (gwl 83 ad1 (CC cI cS ad1 R00 F00) ++ [(z0, .inl (cI, 6, .inl (fun _ => 0))), (z1, .inl (cI, 24, .inl (fun _ => 0))), (z2, .inl (cI, 24, .inl (fun _ => 0))), (z3, .inl (cI, 24, .inl (fun _ => 0))), (z4, .inl (cI, 24, .inl (fun _ => 0))), (z5, .inl (cI, 40, .inl (fun _ => 0))), (z6, .inl (cI, 40, .inl (fun _ => 0)))]) H := hP
  have hD : va_D (fun q : Nat => s.heap.size ≤ q) (gwl 83 ad1 (CC cI cS ad1 R00 F00) ++ [(z0, .inl (cI, 6, .inl (fun _ => 0))), (z1, .inl (cI, 24, .inl (fun _ => 0))), (z2, .inl (cI, 24, .inl (fun _ => 0))), (z3, .inl (cI, 24, .inl (fun _ => 0))), (z4, .inl (cI, 24, .inl (fun _ => 0))), (z5, .inl (cI, 40, .inl (fun _ => 0))), (z6, .inl (cI, 40, .inl (fun _ => 0)))]) := hD
  refine W.widen (k := 90) (n := 1300) (Nat.le_refl _) (Nat.le_refl _) ?_
  refine lv_astore (lv' := [(8, .ref z6), (7, .ref z5), (6, .ref z4), (5, .ref z3), (4, .ref z2), (3, .ref z1), (2, .ref z0), (1, .ref q1), (0, .ref b)]) hx hb dL_law_46 hl (by decide) rfl (fun ls hl => ?_)
  obtain ⟨qq, hqq⟩ : ∃ qq : Nat → Nat, qq = fun j => [z0, z1, z2, z3, z4, z5, z6].getD j 0 := ⟨_, rfl⟩
  have hW0 : WP D cI cS (adL ad1 qq) R0z F00 H := wl_start (by rw [hqq]; exact hP)
  have hD0 : va_D (fun q : Nat => s.heap.size ≤ q) (gwl 83 ad1 (CC cI cS ad1 R00 F00) ++ lwL cI qq) := by rw [hqq]; exact hD
  have hI : Inj (adL ad1 qq) := fun i j hi hj e => hD0.1 i j _ _ (wl_at2 i hi) (wl_at2 j hj) e
  have hAA : ∀ q : Nat, AA (adL ad1 qq) q → s.heap.size ≤ q := fun q hq => by
    obtain ⟨i, hi, rfl⟩ := hq
    exact hD0.2 i _ (wl_at2 i hi)
  have e0 : q1 = adL ad1 qq 0 := by
    unfold adL
    rw [if_pos (by decide)]
    exact hB0.symm
  have e83 : z0 = adL ad1 qq 83 := by rw [hqq]; rfl
  have e84 : z1 = adL ad1 qq 84 := by rw [hqq]; rfl
  have e85 : z2 = adL ad1 qq 85 := by rw [hqq]; rfl
  have e86 : z3 = adL ad1 qq 86 := by rw [hqq]; rfl
  have e87 : z4 = adL ad1 qq 87 := by rw [hqq]; rfl
  have e88 : z5 = adL ad1 qq 88 := by rw [hqq]; rfl
  have e89 : z6 = adL ad1 qq 89 := by rw [hqq]; rfl
  rw [e0, e83, e84, e85, e86, e87, e88, e89] at hl
  clear e0 e83 e84 e85 e86 e87 e88 e89 hP hD hD0 hqq
  have hP := hW0
  clear hW0
  generalize adL ad1 qq = ad at hP hI hAA hl
  have hl : lv_has ls 12 [(8, .ref (ad 89)), (7, .ref (ad 88)), (6, .ref (ad 87)), (5, .ref (ad 86)), (4, .ref (ad 85)), (3, .ref (ad 84)), (2, .ref (ad 83)), (1, .ref (ad 0)), (0, .ref b)] := hl
  refine lv_aload_n hx hb dL_law_48 rfl (lv_at hl 6 rfl) ?_
  refine lv_iconst (v := 2) hx hb dL_law_49 (by decide) ?_
  refine lv_bipush (v := 10) hx hb dL_law_50 (by decide) ?_
  refine va_iast hx hb hK.1 hP (⟨(wl_D hI).1, fun k q h => hAA _ ((wl_D hI).2 k q h)⟩ : va_D (fun q : Nat => s.heap.size ≤ q) _) hS 83 0 ((wl_at (by decide)).trans (by rw [CC_A ar_83])) rfl (vp_in_nI (n := 2) (by decide) (by decide)) dL_law_52 (fun H locs hP hD2 hS => ?_)
  clear hD2
  rw [wl_set (by decide), CC_upA ar_83] at hP
  have eR : va_up R0z 83 (upd (R0z 83) (nI 2).toNatClampNeg 10) = R00 := by
    funext i
    by_cases hi : i = 83
    · subst hi
      rw [up_same]
      rfl
    · rw [up_ne _ _ hi]
      unfold R0z
      rw [if_neg hi]
  have hP : WP D cI cS ad R00 F00 H := by
    rw [← eR]
    exact hP
  refine lv_aload_n hx hb dL_law_53 rfl (lv_at hl 7 rfl) ?_
  refine lv_aload_n hx hb dL_law_54 rfl (lv_at hl 6 rfl) ?_
  refine lv_aload_n hx hb dL_law_55 rfl (lv_at hl 5 rfl) ?_
  refine lv_aload hx hb dL_law_56 (lv_at hl 4 rfl) ?_
  refine lv_aload hx hb dL_law_58 (lv_at hl 3 rfl) ?_
  refine lv_aload hx hb dL_law_60 (lv_at hl 2 rfl) ?_
  refine lv_aload hx hb dL_law_62 (lv_at hl 1 rfl) ?_
  refine lv_aload hx hb dL_law_64 (lv_at hl 0 rfl) ?_
  refine law_isSo hL C0 hI hAA hK dL_law_66 hl.1 INV_0 hP hS (fun R F H locs hinv hP hS => ?_)
  refine lv_istore (lv' := [(9, .int 1), (8, .ref (ad 89)), (7, .ref (ad 88)), (6, .ref (ad 87)), (5, .ref (ad 86)), (4, .ref (ad 85)), (3, .ref (ad 84)), (2, .ref (ad 83)), (1, .ref (ad 0)), (0, .ref b)]) hx hb dL_law_69 hl (by decide) rfl (fun ls hl => ?_)
  refine lv_iconst (v := 0) hx hb dL_law_71 (by decide) ?_
  refine lv_istore (lv' := [(10, .int 0), (9, .int 1), (8, .ref (ad 89)), (7, .ref (ad 88)), (6, .ref (ad 87)), (5, .ref (ad 86)), (4, .ref (ad 85)), (3, .ref (ad 84)), (2, .ref (ad 83)), (1, .ref (ad 0)), (0, .ref b)]) hx hb dL_law_72 hl (by decide) rfl (fun ls hl => ?_)
  exact law_l1 hL C0 hI hAA hK 8 0 (by decide) R F H locs ls hinv hP hS hl
