/-! THE LAW FROM ITS ENTRY -/
theorem INV_0 : INV 0 R00 F00 := by
  have hN : ∀ k, R00 7 k = -100009 ∧ R00 9 k = -100009 ∧ R00 10 k = 0 ∧ R00 11 k = -100009 ∧ R00 13 k = -100009 := fun k => ⟨rfl, rfl, rfl, rfl, rfl⟩
  have hC : ∀ c, R00 2 c = 0 ∧ R00 3 c = 0 ∧ R00 4 c = 0 ∧ R00 5 c = 0 := fun c => ⟨rfl, rfl, rfl, rfl⟩
  have e84 : R00 84 = upd (fun _ => 0) 2 10 := rfl
  have hs : ∀ x, x ≠ 2 → R00 84 x = 0 := fun x hx => by rw [e84, upd_ne hx]
  have h2 : R00 84 2 = 10 := by rw [e84, upd_same]
  refine ⟨0, 0, 0, 0, ⟨by decide, by decide, rfl, rfl, rfl, fun j hj => by omega⟩, ⟨by decide, by decide, rfl, hs 1 (by decide), rfl, hs 0 (by decide), h2⟩, fun c hc => ?_, fun k hk => by omega, fun k hk => by omega, fun k _ _ => hN k, ⟨fun i j _ _ h => absurd (hN i).1 h, fun i j _ _ h => absurd (hN i).2.1 h, fun i _ h => absurd (hN i).1 h, fun i _ h => absurd (hN i).2.1 h⟩, ?_⟩
  · obtain ⟨c1, c2, c3, c4⟩ := hC c
    unfold cel1
    rw [hs _ (by omega), hs _ (by omega), hs _ (by omega), hs _ (by omega), c1, c2, c3, c4]
    exact ⟨rfl, rfl, rfl, rfl, by decide, 0, Nat.le_refl _, rfl, by decide, by decide⟩
  · unfold tots
    rw [hs 3 (by decide), hs 4 (by decide), hs 5 (by decide)]
    have hz : ∀ x : Int32, oz (-100009) * x = 0 := fun x => by
      show (0 : Int32) * x = 0
      grind
    refine ⟨(sT_zero 8 0 (fun j _ _ => ?_)).symm, (sT_zero 8 0 (fun j _ _ => ?_)).symm, (sT_zero 8 0 (fun j _ _ => ?_)).symm⟩
    · show oz (R00 11 j) - oz (R00 13 j) = 0
      rw [(hN j).2.2.2.1, (hN j).2.2.2.2]
      rfl
    · show oz (R00 11 j) * R00 12 j = 0
      rw [(hN j).2.2.2.1, hz]
    · show oz (R00 13 j) * R00 12 j = 0
      rw [(hN j).2.2.2.2, hz]
theorem CC_adc {cI cS : ClassId} {ad ad' : Nat → Nat} {R F : Nat → Nat → Int32} {i : Nat} (hi : i < 83) (h14 : i ≠ 14) (ha : ∀ j, j < 83 → ad' j = ad j) : CC cI cS ad' R F i = CC cI cS ad R F i := by
  unfold CC
  by_cases h1 : isA i = true
  · rw [if_pos h1, if_pos h1]
  · rw [if_neg h1, if_neg h1]
    by_cases h2 : St i = true
    · rw [if_pos h2, if_pos h2]
      have hb : i + 12 < 83 := by
        simp only [St, Bool.or_eq_true, beq_iff_eq] at h2
        omega
      unfold fsS
      rw [ha (i + 1) (by omega), ha (i + 2) (by omega), ha (i + 3) (by omega), ha (i + 4) (by omega), ha (i + 5) (by omega), ha (i + 6) (by omega), ha (i + 7) (by omega), ha (i + 8) (by omega), ha (i + 9) (by omega), ha (i + 10) (by omega), ha (i + 11) (by omega), ha (i + 12) (by omega)]
    · rw [if_neg h2, if_neg h2]
      by_cases h3 : i = 0
      · rw [if_pos h3, if_pos h3]
        unfold fsF
        rw [ha 1 (by omega), ha 14 (by omega), ha 15 (by omega), ha 16 (by omega), ha 17 (by omega)]
      · exfalso
        have hs : ∀ i, i < 83 → isA i = true ∨ St i = true ∨ i = 0 ∨ i = 14 := by decide
        rcases hs i (by omega) with h | h | h | h
        · exact h1 h
        · exact h2 h
        · exact h3 h
        · exact h14 h
/-- the class's world and the model's, as one -/
theorem wl_at2 {cI cS : ClassId} {ad1 : Nat → Nat} {q2 : Nat} {u : Nat → Nat} (k : Nat) (hk : k < 87) : (gwl 83 ad1 (CC cI cS ad1 R00 F00) ++ moL cI q2 u)[k]? = some (adN 83 ad1 q2 u k, if k = 14 then CC cI cS ad1 R00 F00 14 else CC cI cS (adN 83 ad1 q2 u) R00 F00 k) := by
  have ha : ∀ j, j < 83 → adN 83 ad1 q2 u j = ad1 j := fun j hj => by unfold adN; rw [if_pos hj]
  by_cases h : k < 83
  · rw [List.getElem?_append_left (by rw [gwl_len]; exact h), gwl_at h, ha k h]
    by_cases h14 : k = 14
    · rw [if_pos h14, h14]
    · rw [if_neg h14, CC_adc h h14 ha]
  · rw [List.getElem?_append_right (by rw [gwl_len]; omega), gwl_len, if_neg (by omega)]
    rcases (by omega : k = 83 ∨ k = 84 ∨ k = 85 ∨ k = 86) with rfl | rfl | rfl | rfl <;> rfl
theorem wl_start {D : va_G} {cI cS : ClassId} {ad1 : Nat → Nat} {q2 : Nat} {u : Nat → Nat} {H : Heap} (h : va_P D vwCl (gwl 83 ad1 (CC cI cS ad1 R00 F00) ++ moL cI q2 u) H) : WP D cI cS (adN 83 ad1 q2 u) R00 F00 H := by
  refine va_P_congr h (fun k q' hk => ?_)
  obtain ⟨h1, rfl⟩ := wl_lt hk
  refine ⟨_, wl_at2 k h1, ?_⟩
  by_cases h14 : k = 14
  · subst h14
    intro hx
    rw [if_pos rfl, CC_14] at hx
    rw [CC_14]
    show H[adN 83 ad1 q2 u 14]? = some (vp_cell cS (5, .inr (.inr (.inr (.inr (fun k => some (adN 83 ad1 q2 u (18 + 13 * k))))))))
    rw [cell_q_congr (g := fun k => some (ad1 (18 + 13 * k))) (fun i hi => by unfold adN; rw [if_pos (by omega)])]
    exact hx
  · rw [if_neg h14]
    exact id
set_option maxHeartbeats 4000000 in
set_option maxRecDepth 100000 in
theorem whole_start {p : Program} {e : Env} {s : State} {m : MethodId} {below : List Frame} {meth : Method} {c : Code} (l : Launch) (hflags : l.flags = flags0) {b L : Nat} {xs : Nat → Int32} (hL : L ≤ 2048) (C0 : lw_At p s m meth c b L xs) : W p l e room_1 s m #[Value.ref b] below meth c s.heap [] 0 0 (lw_Z below #[Value.ref b] s) (entryFrame m ([Value.ref b] : List Value).toArray 4) := by
  obtain ⟨hx, hb, hr, hml, hown, htt, hX, hbl, hlocks, hgv⟩ := id C0
  have hts : ∀ w ∈ wsL_law, w.before #[Value.ref b] s = true := fun w h => htt w (wsL_law_in w h)
  have hown : s.vm.findClass RL = some m.cls := hown
  have hA : ∀ q : Nat, s.heap.size ≤ q → (fun q : Nat => s.heap.size ≤ q) q := fun _ h => h
  obtain ⟨c0, iS0, hKn0⟩ := u_known (C := RX0) (T := TX0) (N := 15) (n := 15) htt inX0 (htt (.instantiable RX0 15) (by decide +kernel))
  obtain ⟨c1, iS1, hKn1⟩ := u_known (C := RX1) (T := TX1) (N := 7) (n := 7) htt inX1 (htt (.instantiable RX1 7) (by decide +kernel))
  obtain ⟨c2, iS2, hKn2⟩ := u_known (C := RX2) (T := TX2) (N := 5) (n := 5) htt inX2 (htt (.instantiable RX2 5) (by decide +kernel))
  obtain ⟨D, hKc⟩ : ∃ D : va_G, ∀ (k : Nat) (q : vw_C), vwCl[k]? = some q → u_Kn s q.1 q.2.1 q.2.2 (D.1 k) (D.2 k) := by
    refine ⟨(fun k => if k = 0 then c0 else if k = 1 then c1 else c2, fun k => if k = 0 then iS0 else if k = 1 then iS1 else iS2), ?_⟩
    intro k q hq
    match k, hq with
    | 0, hq => cases hq; exact hKn0
    | 1, hq => cases hq; exact hKn1
    | 2, hq => cases hq; exact hKn2
    | k + 3, hq => simp at hq
  obtain ⟨cI, kI, compI, i1, i2, i3⟩ := Cond.arrayClass_spec (htt (.arrayClass .int) (by decide +kernel))
  have hAO0 : (Cond.arrayOver (.object RX0)).before #[Value.ref b] s = true := htt (.arrayOver (.object RX0)) (by decide +kernel)
  obtain ⟨comp, cS, kS, g1, g2, g3, g4, g5⟩ := Cond.arrayOver_spec hAO0
  have hAO : va_AO RX0 s := va_AO.of hAO0
  have hK : KK D cI cS s := by
    refine ⟨⟨hKc, fun k q hq => ?_⟩, va_Nw.of rfl (htt (.methodLinkNest RX0 59 yX1_fillRow RX1) (by decide +kernel)), va_Nw.of rfl (htt (.methodLinkNest RX0 63 yX1_copyRow RX1) (by decide +kernel))⟩
    match k, hq with
    | 0, hq => cases hq; exact ⟨fun n z => ⟨fun k h => (by cases h), kI, i2, compI, i3⟩, i1⟩
    | 1, hq => cases hq; exact ⟨fun n z => ⟨fun k h => (by cases h), kS, g3, comp, g4⟩, kS, comp, g3, g4, g1, g5⟩
    | k + 2, hq => simp at hq
  have hS : va_S (fun q : Nat => s.heap.size ≤ q) s.heap s.heap [] := va_S.rf
  have hP : va_P D vwCl [] s.heap := fun k q h => by simp at h
  have hD : va_D (fun q : Nat => s.heap.size ≤ q) [] := ⟨fun i j p q h => by simp at h, fun k q h => by simp at h⟩
  have hl := lv_entry ([.ref b]) (n := 4) (Nat.le_of_ble_eq_true rfl)
  rw [lg_entry_eq]
  generalize (lg_sl ([.ref b]) ++ List.replicate (4 - (lg_sl ([.ref b])).length) Slot.unset).toArray = ls at hl ⊢
  have hl : lv_has ls 4 [(0, .ref b)] := hl
  refine va_new (ci := 1) (fs := [.null, .null, .int 0, .int 0, .null, .null, .null]) (C := RX1) (T := TX1) (N := 7) hx hb htt inX1 tyX1 tyX1_ok hown (hts (.classLink RL 7 RX1) (by decide +kernel)) (hts (.instantiable RX1 7) (by decide +kernel)) (hts (.initialized RX1) (by decide +kernel)) hK.1 hP hD hS hA rfl (by decide) (Nat.le_of_ble_eq_true rfl) (Nat.le_of_ble_eq_true rfl) dL_law_0 (fun q1 H hP hD hS => ?_)
  have hP : va_P D vwCl ([] ++ [(q1, ff0)]) H := hP
  have hD : va_D (fun q : Nat => s.heap.size ≤ q) ([] ++ [(q1, ff0)]) := hD
  refine W.widen (k := 1) (n := 7) (Nat.le_refl _) (Nat.le_refl _) ?_
  refine lv_dup hx hb dL_law_3 rfl ?_
  have hS0 := hS
  refine va_callv (va_runI (As := []) (rest := [.ref q1]) ⟨hx, hb, hml, hown, hts⟩ (mX1_init l D cI cS q1 H.size) (cwI 0 hts gL_law_X1_init rfl rfl rfl (hts (.initialized RX1) (by decide +kernel)) (hts (.methodLink RL 9 yX1_init) (by decide +kernel)) (hts (.instanceMethod yX1_init) (by decide +kernel)) rfl (by decide +kernel) ⟨Nat.le_of_ble_eq_true rfl, Nat.le_of_ble_eq_true rfl⟩) ⟨fun a U g mk q => ⟨q.1, q.2.1, q.2.2.1, KK.calling q.2.2.2.1, va_AO.moved (u := U) (U := U.calling g mk a) (Vm.Alike.refl U.vm) q.2.2.2.2.1, q.2.2.2.2.2⟩, fun U hU hW => ⟨rfl, by rw [hU], by rw [hU]; exact last_P hP, hK.warm hW, va_AO.moved hW.alike hAO, last_D⟩⟩ rfl rfl hl.1 rfl (lv_room (Nat.le_of_ble_eq_true rfl)) dL_law_4 ⟨(Nat.le_of_ble_eq_true rfl), (Nat.le_of_ble_eq_true rfl)⟩) hS (fun q _ h => fr_last hD hS hA q h) (fr_last hD hS hA) (fun ad1 t H1 locs ht hvm hw hB hz1 hk1 hS => ?_)
  obtain ⟨hB0, hB1, hB2⟩ := hB
  rw [ht] at hB1
  obtain ⟨hP, hD⟩ := jn_last hP hD hk1 (fr_last hD hS0 hA) hB1 hB2
  rw [List.nil_append] at hP hD
  generalize H1 = H at hP hS ⊢
  refine W.widen (k := 83) (n := 1118) (Nat.le_refl _) (Nat.le_refl _) ?_
  refine lv_astore_n (lv' := [(1, .ref q1), (0, .ref b)]) hx hb dL_law_7 rfl hl (by decide) rfl (fun ls hl => ?_)
  refine va_new (ci := 2) (fs := [.null, .null, .int 0, .int 0, .null]) (C := RX2) (T := TX2) (N := 5) hx hb htt inX2 tyX2 tyX2_ok hown (hts (.classLink RL 10 RX2) (by decide +kernel)) (hts (.instantiable RX2 5) (by decide +kernel)) (hts (.initialized RX2) (by decide +kernel)) hK.1 hP hD hS hA rfl (by decide) (Nat.le_of_ble_eq_true rfl) (Nat.le_of_ble_eq_true rfl) dL_law_8 (fun q2 H hP hD hS => ?_)
  have hP : va_P D vwCl (gwl 83 ad1 (CC cI cS ad1 R00 F00) ++ [(q2, mo0)]) H := hP
  have hD : va_D (fun q : Nat => s.heap.size ≤ q) (gwl 83 ad1 (CC cI cS ad1 R00 F00) ++ [(q2, mo0)]) := hD
  refine W.widen (k := 84) (n := 1123) (Nat.le_refl _) (Nat.le_refl _) ?_
  refine lv_dup hx hb dL_law_11 rfl ?_
  have hS0 := hS
  refine va_callv (va_runI (As := []) (rest := [.ref q2]) ⟨hx, hb, hml, hown, hts⟩ (mX2_init l D cI cS q2 H.size) (cwI 0 hts gL_law_X2_init rfl rfl rfl (hts (.initialized RX2) (by decide +kernel)) (hts (.methodLink RL 12 yX2_init) (by decide +kernel)) (hts (.instanceMethod yX2_init) (by decide +kernel)) rfl (by decide +kernel) ⟨Nat.le_of_ble_eq_true rfl, Nat.le_of_ble_eq_true rfl⟩) ⟨fun a U g mk q => ⟨q.1, q.2.1, q.2.2.1, KK.calling q.2.2.2.1, q.2.2.2.2⟩, fun U hU hW => ⟨rfl, by rw [hU], by rw [hU]; exact last_P hP, hK.warm hW, last_D⟩⟩ rfl rfl hl.1 rfl (lv_room (Nat.le_of_ble_eq_true rfl)) dL_law_12 ⟨(Nat.le_of_ble_eq_true rfl), (Nat.le_of_ble_eq_true rfl)⟩) hS (fun q _ h => fr_last hD hS hA q h) (fr_last hD hS hA) (fun u t H1 locs ht hvm hw hB hz1 hk1 hS => ?_)
  obtain ⟨hB1, hB2⟩ := hB
  rw [ht] at hB1
  obtain ⟨hP, hD⟩ := jn_last hP hD hk1 (fr_last hD hS0 hA) hB1 hB2
  generalize H1 = H at hP hS ⊢
  refine W.widen (k := 87) (n := 2223) (Nat.le_refl _) (Nat.le_refl _) ?_
  refine lv_astore_n (lv' := [(2, .ref q2), (1, .ref q1), (0, .ref b)]) hx hb dL_law_15 rfl hl (by decide) rfl (fun ls hl => ?_)
  refine lv_iconst (v := 0) hx hb dL_law_16 (by decide) ?_
  refine lv_istore_n (lv' := [(3, .int 0), (2, .ref q2), (1, .ref q1), (0, .ref b)]) hx hb dL_law_17 rfl hl (by decide) rfl (fun ls hl => ?_)
  have e0 : adN 83 ad1 q2 u 0 = q1 := by
    unfold adN
    rw [if_pos (by decide)]
    exact hB0
  have e83 : adN 83 ad1 q2 u 83 = q2 := rfl
  refine law_loop (ad := adN 83 ad1 q2 u) hL C0 (fun i j hi hj e => hD.1 i j _ _ (wl_at2 i hi) (wl_at2 j hj) e) (fun q hq => by
    obtain ⟨i, hi, rfl⟩ := hq
    exact hD.2 i _ (wl_at2 i hi)) hK (L + 1) 0 (Nat.zero_le _) (by omega) R00 F00 H _ ls INV_0 (wl_start hP) hS ?_
  rw [e0, e83]
  exact lv_sub hl [0, 3, 2, 1] rfl
