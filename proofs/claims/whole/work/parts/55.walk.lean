/-! PURE: walk and leave -/
theorem isWalker_nI {R F : Nat → Nat → Int32} {kw t : Nat} (h : F 1 2 = nI kw) (h8 : kw ≤ 8) (ht : t < kw) : ¬ xX1_isWalker R F (nI t) = 0 := by
  unfold xX1_isWalker
  rw [h, if_neg (nI_pos (by omega)), if_neg (fun q => by
    have := (nI_leI (by omega) (by omega)).mp q
    omega), if_neg (fun q => by
    have := (nI_leI (a := 8) (by omega) (by omega)).mp q
    omega)]
  decide
section
variable {n : Nat} {R F : Nat → Nat → Int32} {s : Nat → Int32} {o q kw mi : Nat}
theorem taken_spec (h : NOW n R F s kw mi) {k : Nat} (hk : k < 8) (hp : ¬ R 7 k = -100009) : ∃ t, t < kw ∧ R 9 t = R 7 k ∧ xX2_on s (R 7 k) 3 kw = nI t ∧ xX1_whoIsOn R F 9 (R 7 k) = nI t := by
  obtain ⟨t, ht, e⟩ := h.2.2.2.2.2.1.2.2.1 k hk hp
  have htk : t < kw := by
    rcases Nat.lt_or_ge t kw with h1 | h1
    · exact h1
    · exact absurd (e.symm.trans (h.2.2.2.2.1 t h1 ht).2.1) hp
  have hw : xX1_whoIsOn R F 9 (R 7 k) = nI t := who_some e 8 0 (by omega) (by omega) (fun j _ hj ej => by
    have := h.2.2.2.2.2.1.2.1 j t (by omega) ht (by rw [ej]; exact hp) (ej.trans e.symm)
    omega)
  exact ⟨t, htk, e, by rw [← whoBK h hp]; exact hw, hw⟩
/-- whom the model takes -/
theorem taken_in (h : NOW n R F s kw mi) {R1 F1 : Nat → Nat → Int32} (e84 : R1 84 = s) {p : Int32} (hw : ¬ xX2_isWalker (R1 84) p = 0) (ha : ¬ xX2_isAboard (R1 84) p.toNatClampNeg = 0) : vp_in (xX2_on ((xX2_acts R1 F1 q).1 84) (xX2_ofWalker ((xX2_acts R1 F1 q).1 84) p.toNatClampNeg 1) 3 kw) 8 := by
  rw [acts_ne (by decide), e84]
  rw [e84] at hw ha
  obtain ⟨e, hk⟩ := isW_of h hw
  have h8 := h.1.1
  have hp : ¬ R 7 p.toNatClampNeg = -100009 := fun q => ha ((isAb0 h hk).mpr q)
  obtain ⟨t, ht, -, e2, -⟩ := taken_spec h (by omega) hp
  have e1 : xX2_ofWalker s p.toNatClampNeg 1 = R 7 p.toNatClampNeg := (h.2.2.1 _ hk).2.2.1
  rw [e1, e2]
  exact vp_in_nI (by omega) (by decide)
theorem act_walk (hh : HI n R F o q) (hr : NOW n R F (R 84) kw mi) (p1 p2 : Int32) : ACT n R F (xX1_walk R F p1 p2 o q) (fun R1 F1 => xX2_walk R1 F1 p1 p2 kw q) := by
  obtain ⟨hC, hG, hG8⟩ := remF hh
  obtain ⟨n1, n2, n3, n4, n5, n6, n7⟩ := hr.1
  unfold xX1_walk
  rw [isW hr, isC]
  by_cases hw : xX2_isWalker (R 84) p1 = 0
  · rw [if_pos hw]
    exact ACT_mk (by show xX2_walk _ _ p1 p2 kw q = _; unfold xX2_walk; rw [if_pos hw]) rfl rfl rfl (INV_mk hh hr)
  rw [if_neg hw]
  by_cases hc : xX2_isCell p2 = 0
  · rw [if_pos hc]
    exact ACT_mk (by show xX2_walk _ _ p1 p2 kw q = _; unfold xX2_walk; rw [if_neg hw, if_pos hc]) rfl rfl rfl (INV_mk hh hr)
  rw [if_neg hc, isAb hr hw]
  by_cases ha : xX2_isAboard (R 84) p1.toNatClampNeg = 0
  · rw [if_pos ha]
    exact ACT_mk (by show xX2_walk _ _ p1 p2 kw q = _; unfold xX2_walk; rw [if_neg hw, if_neg hc, if_pos ha]) rfl rfl rfl (INV_mk hh hr)
  rw [if_neg ha]
  obtain ⟨ec, hlt⟩ := cell_of hc
  have hnn := cell_nn hc
  have hwho := whoAT hr hnn
  by_cases hf : ¬ xX1_whoIsOn R F 7 p2 = -100009
  · rw [if_neg hf]
    exact ACT_mk (by show xX2_walk _ _ p1 p2 kw q = _; unfold xX2_walk; rw [if_neg hw, if_neg hc, if_neg ha, if_neg (by rw [← hwho]; exact hf)]) rfl rfl rfl (INV_mk hh hr)
  have hf := Classical.not_not.mp hf
  rw [if_pos hf]
  have hf2 : xX2_on (R 84) p2 1 kw = -100009 := hwho.symm.trans hf
  obtain ⟨ek, hk⟩ := isW_of hr hw
  have hp : ¬ R 7 p1.toNatClampNeg = -100009 := fun q => ha ((isAb0 hr hk).mpr q)
  have hrC : NOW n (xX1_remember R F o q).1 (xX1_remember R F o q).2 (R 84) kw mi := NOW_rows hr (fun j h1 h2 => hC j (by omega)) hG
  obtain ⟨t, ht, et, eon, ewho⟩ := taken_spec hrC (k := p1.toNatClampNeg) (by omega) (by rw [hC 7 (by decide)]; exact hp)
  rw [hC 7 (by decide)] at et eon ewho
  rw [hC 9 (by decide)] at et
  rw [hC 7 (by decide), ewho, if_neg (isWalker_nI (by rw [hG]; exact n3) n1 ht), nI_clamp (show t < 2 ^ 31 by omega)]
  have ew1 : xX2_ofWalker (R 84) p1.toNatClampNeg 1 = R 7 p1.toNatClampNeg := (hr.2.2.1 _ hk).2.2.1
  generalize hR1 : sR (sR ((xX1_remember R F o q).1) 7 p1.toNatClampNeg p2) 9 t p2 = R1
  have r0 : ∀ y, y ≠ 7 → y ≠ 9 → R1 y = (xX1_remember R F o q).1 y := fun y h1 h2 => by rw [← hR1, sR_ne h2, sR_ne h1]
  have r7 : R1 7 p1.toNatClampNeg = p2 ∧ ∀ k, k ≠ p1.toNatClampNeg → R1 7 k = R 7 k := by
    rw [← hR1, sR_ne (by decide)]
    exact ⟨sR_same, fun k hk => by rw [sR_same_ne hk, hC 7 (by decide)]⟩
  have r9 : R1 9 t = p2 ∧ ∀ k, k ≠ t → R1 9 k = R 9 k := by
    rw [← hR1]
    exact ⟨sR_same, fun k hk => by rw [sR_same_ne hk, sR_ne (by decide), hC 9 (by decide)]⟩
  clear hR1
  have e84 : R1 84 = R 84 := by rw [r0 84 (by decide) (by decide), hC 84 (by decide)]
  have hA : (xX2_acts R1 (xX1_remember R F o q).2 q).1 84 = R 84 := by rw [acts_ne (by decide), e84]
  refine ACT_mk (by show xX2_walk _ _ p1 p2 kw q = _; unfold xX2_walk; rw [e84, if_neg hw, if_neg hc, if_neg ha, if_pos hf2, hA, ew1, eon, nI_clamp (show t < 2 ^ 31 by omega)]) e84 hG8 rfl ?_
  unfold xX2_puts
  refine INV_act hh hr (Nat.le_refl _) (fun i h1 h2 => r0 i (by omega) (by omega)) e84 (by rw [r0 85 (by decide) (by decide), hC 85 (by decide)]) (fun y hy => rfl) (fun i hi => by rw [sR_ne hi, sR_ne hi]) rfl ?_ (kw' := kw) (mi' := mi)
  generalize hs : sR (sR (xX2_acts R1 (xX1_remember R F o q).2 q).1 84 (102 + 10 * p1.toNatClampNeg + 1) p2) 84 (102 + 10 * t + 3) p2 84 = s'
  have sx : ∀ x, x ≠ 102 + 10 * p1.toNatClampNeg + 1 → x ≠ 102 + 10 * t + 3 → s' x = R 84 x := fun x h1 h2 => by rw [← hs, sR_same_ne h2, sR_same_ne h1, hA]
  have s1 : s' (102 + 10 * p1.toNatClampNeg + 1) = p2 := by rw [← hs, sR_same_ne (by omega), sR_same]
  have s3 : s' (102 + 10 * t + 3) = p2 := by rw [← hs, sR_same]
  clear hs
  have hro : ∀ y, y ≠ 7 → y ≠ 9 → y < 19 → R1 y = R y := fun y h1 h2 h3 => by rw [r0 y h1 h2, hC y (by omega)]
  refine NOW_walk hr (fun j h1 h2 => hro j (by omega) (by omega) (by omega)) (rNum_s hr.1 hG (sx 0 (by omega) (by omega)) (sx 1 (by omega) (by omega)) (sx 2 (by omega) (by omega))) (fun x h1 h2 => sx x (by omega) (by omega)) (fun k hk => ?_) (fun k hk => ?_) (fun k h1 h2 => ?_) ?_ ?_
  · obtain ⟨b0, bw, b1, b2, b3, b4, b5, b6, b7⟩ := hr.2.2.1 k hk
    have q1 : s' (102 + 10 * k + 1) = R1 7 k ∧ (R1 7 k = -100009 ↔ R 7 k = -100009) ∧ (¬ R1 7 k = -100009 → ∃ c, c < 24 ∧ R1 7 k = nI c) := by
      by_cases hkk : k = p1.toNatClampNeg
      · rw [hkk, s1, r7.1]
        exact ⟨rfl, ⟨fun q => absurd q hnn, fun q => absurd q hp⟩, fun _ => ⟨_, hlt, ec⟩⟩
      · rw [sx _ (by omega) (by omega), r7.2 k hkk]
        exact ⟨b1, Iff.rfl, b5⟩
    have q3 : s' (102 + 10 * k + 3) = R1 9 k ∧ (R1 9 k = -100009 ↔ R 9 k = -100009) ∧ (¬ R1 9 k = -100009 → ∃ c, c < 24 ∧ R1 9 k = nI c) := by
      by_cases hkk : k = t
      · rw [hkk, s3, r9.1]
        exact ⟨rfl, ⟨fun q => absurd q hnn, fun q => absurd (et.symm.trans q) hp⟩, fun _ => ⟨_, hlt, ec⟩⟩
      · rw [sx _ (by omega) (by omega), r9.2 k hkk]
        exact ⟨b3, Iff.rfl, b6⟩
    refine ⟨by rw [sx _ (by omega) (by omega), hro 6 (by decide) (by decide) (by decide)]; exact b0, by rw [hro 6 (by decide) (by decide) (by decide)]; exact bw, q1.1, ?_, q3.1, ?_, q1.2.2, q3.2.2, by rw [hro 8 (by decide) (by decide) (by decide)]; exact b7⟩
    · rw [sx _ (by omega) (by omega), hro 8 (by decide) (by decide) (by decide), b2]
      by_cases hx : R 7 k = -100009
      · rw [if_pos hx, if_pos (q1.2.1.mpr hx)]
      · rw [if_neg hx, if_neg (fun q => hx (q1.2.1.mp q))]
    · rw [q1.2.1, q3.2.1]
      exact b4
  · rw [hro 10 (by decide) (by decide) (by decide), hro 11 (by decide) (by decide) (by decide), hro 12 (by decide) (by decide) (by decide), hro 13 (by decide) (by decide) (by decide)]
    exact bil1_s (Nat.le_refl _) (hr.2.2.2.1 k hk) rfl rfl rfl rfl (fun j h1 h2 => sx _ (by omega) (by omega))
  · rw [hro 10 (by decide) (by decide) (by decide), hro 11 (by decide) (by decide) (by decide), hro 13 (by decide) (by decide) (by decide)]
    unfold wOut
    rw [r7.2 k (by omega), r9.2 k (by omega)]
    exact hr.2.2.2.2.1 k h1 h2
  · exact prm_walk hr.2.2.2.2.2.1 (by omega) (by omega) hp et hnn (fun i hi => who_free 8 0 (by decide) hf i (by omega) (by omega)) r7.1 r7.2 r9.1 r9.2
  · rw [hro 11 (by decide) (by decide) (by decide), hro 12 (by decide) (by decide) (by decide), hro 13 (by decide) (by decide) (by decide)]
    unfold tots
    rw [sx 3 (by omega) (by omega), sx 4 (by omega) (by omega), sx 5 (by omega) (by omega)]
    exact hr.2.2.2.2.2.2
theorem act_leave (hh : HI n R F o q) (hr : NOW n R F (R 84) kw mi) (p1 : Int32) : ACT n R F (xX1_leave R F p1 o q) (fun R1 F1 => xX2_leave R1 F1 p1 kw q) := by
  obtain ⟨hC, hG, hG8⟩ := remF hh
  obtain ⟨n1, n2, n3, n4, n5, n6, n7⟩ := hr.1
  unfold xX1_leave
  rw [isW hr]
  by_cases hw : xX2_isWalker (R 84) p1 = 0
  · rw [if_pos hw]
    exact ACT_mk (by show xX2_leave _ _ p1 kw q = _; unfold xX2_leave; rw [if_pos hw]) rfl rfl rfl (INV_mk hh hr)
  rw [if_neg hw, isAb hr hw]
  by_cases ha : xX2_isAboard (R 84) p1.toNatClampNeg = 0
  · rw [if_pos ha]
    exact ACT_mk (by show xX2_leave _ _ p1 kw q = _; unfold xX2_leave; rw [if_neg hw, if_pos ha]) rfl rfl rfl (INV_mk hh hr)
  rw [if_neg ha]
  obtain ⟨ek, hk⟩ := isW_of hr hw
  have hp : ¬ R 7 p1.toNatClampNeg = -100009 := fun q => ha ((isAb0 hr hk).mpr q)
  have hrC : NOW n (xX1_remember R F o q).1 (xX1_remember R F o q).2 (R 84) kw mi := NOW_rows hr (fun j h1 h2 => hC j (by omega)) hG
  obtain ⟨t, ht, et, eon, ewho⟩ := taken_spec hrC (k := p1.toNatClampNeg) (by omega) (by rw [hC 7 (by decide)]; exact hp)
  rw [hC 7 (by decide)] at et eon ewho
  rw [hC 9 (by decide)] at et
  rw [hC 7 (by decide), hC 9 (by decide), ewho, if_neg (isWalker_nI (by rw [hG]; exact n3) n1 ht), nI_clamp (show t < 2 ^ 31 by omega)]
  have ew1 : xX2_ofWalker (R 84) p1.toNatClampNeg 1 = R 7 p1.toNatClampNeg := (hr.2.2.1 _ hk).2.2.1
  have ew3 : xX2_ofWalker (R 84) p1.toNatClampNeg 3 = R 9 p1.toNatClampNeg := (hr.2.2.1 _ hk).2.2.2.2.1
  have hbk : ¬ R 9 p1.toNatClampNeg = -100009 := fun q => hp ((hr.2.2.1 _ hk).2.2.2.2.2.1.mpr q)
  have htk : R 7 p1.toNatClampNeg = R 9 p1.toNatClampNeg ↔ nI t = nI p1.toNatClampNeg := by
    rw [nI_eq (by omega) (by omega)]
    refine ⟨fun e => hr.2.2.2.2.2.1.2.1 t _ (by omega) (by omega) (by rw [et]; exact hp) (et.trans e), fun e => by rw [← et, e]⟩
  generalize hR1 : sR (sR (sR ((xX1_remember R F o q).1) 9 t (R 9 p1.toNatClampNeg)) 7 p1.toNatClampNeg (-100009)) 9 p1.toNatClampNeg (-100009) = R1
  have r0 : ∀ y, y ≠ 7 → y ≠ 9 → R1 y = (xX1_remember R F o q).1 y := fun y h1 h2 => by rw [← hR1, sR_ne h2, sR_ne h1, sR_ne h2]
  have r7 : R1 7 p1.toNatClampNeg = -100009 ∧ ∀ k, k ≠ p1.toNatClampNeg → R1 7 k = R 7 k := by
    rw [← hR1, sR_ne (by decide)]
    exact ⟨sR_same, fun k hk => by rw [sR_same_ne hk, sR_ne (by decide), hC 7 (by decide)]⟩
  have r9 : R1 9 p1.toNatClampNeg = -100009 ∧ (t ≠ p1.toNatClampNeg → R1 9 t = R 9 p1.toNatClampNeg) ∧ ∀ k, k ≠ t → k ≠ p1.toNatClampNeg → R1 9 k = R 9 k := by
    rw [← hR1]
    exact ⟨sR_same, fun h => by rw [sR_same_ne h, sR_ne (by decide), sR_same], fun k h1 h2 => by rw [sR_same_ne h2, sR_ne (by decide), sR_same_ne h1, hC 9 (by decide)]⟩
  clear hR1
  have e84 : R1 84 = R 84 := by rw [r0 84 (by decide) (by decide), hC 84 (by decide)]
  have hA : (xX2_acts R1 (xX1_remember R F o q).2 q).1 84 = R 84 := by rw [acts_ne (by decide), e84]
  have hi : INV n (xX2_puts (xX2_puts (xX2_puts (xX2_puts ((xX2_acts R1 (xX1_remember R F o q).2 q).1) ((xX2_acts R1 (xX1_remember R F o q).2 q).2) t 3 (R 9 p1.toNatClampNeg)) ((xX2_acts R1 (xX1_remember R F o q).2 q).2) (p1).toNatClampNeg 1 (-100009 : Int32)) ((xX2_acts R1 (xX1_remember R F o q).2 q).2) (p1).toNatClampNeg 3 (-100009 : Int32)) ((xX2_acts R1 (xX1_remember R F o q).2 q).2) (p1).toNatClampNeg 2 (-100009 : Int32)) ((xX2_acts R1 (xX1_remember R F o q).2 q).2) := by
    unfold xX2_puts
    refine INV_act hh hr (Nat.le_refl _) (fun i h1 h2 => r0 i (by omega) (by omega)) e84 (by rw [r0 85 (by decide) (by decide), hC 85 (by decide)]) (fun y hy => rfl) (fun i hi => by rw [sR_ne hi, sR_ne hi, sR_ne hi, sR_ne hi]) rfl ?_ (kw' := kw) (mi' := mi)
    generalize hs : sR (sR (sR (sR (xX2_acts R1 (xX1_remember R F o q).2 q).1 84 (102 + 10 * t + 3) (R 9 p1.toNatClampNeg)) 84 (102 + 10 * p1.toNatClampNeg + 1) (-100009)) 84 (102 + 10 * p1.toNatClampNeg + 3) (-100009)) 84 (102 + 10 * p1.toNatClampNeg + 2) (-100009) 84 = s'
    have sx : ∀ x, x ≠ 102 + 10 * p1.toNatClampNeg + 1 → x ≠ 102 + 10 * p1.toNatClampNeg + 2 → x ≠ 102 + 10 * p1.toNatClampNeg + 3 → x ≠ 102 + 10 * t + 3 → s' x = R 84 x := fun x h1 h2 h3 h4 => by rw [← hs, sR_same_ne h2, sR_same_ne h3, sR_same_ne h1, sR_same_ne h4, hA]
    have s1 : s' (102 + 10 * p1.toNatClampNeg + 1) = -100009 := by rw [← hs, sR_same_ne (by omega), sR_same_ne (by omega), sR_same]
    have s2 : s' (102 + 10 * p1.toNatClampNeg + 2) = -100009 := by rw [← hs, sR_same]
    have s3 : s' (102 + 10 * p1.toNatClampNeg + 3) = -100009 := by rw [← hs, sR_same_ne (by omega), sR_same]
    have s4 : t ≠ p1.toNatClampNeg → s' (102 + 10 * t + 3) = R 9 p1.toNatClampNeg := fun h => by rw [← hs, sR_same_ne (by omega), sR_same_ne (by omega), sR_same_ne (by omega), sR_same]
    clear hs
    have hro : ∀ y, y ≠ 7 → y ≠ 9 → y < 19 → R1 y = R y := fun y h1 h2 h3 => by rw [r0 y h1 h2, hC y (by omega)]
    refine NOW_walk hr (fun j h1 h2 => hro j (by omega) (by omega) (by omega)) (rNum_s hr.1 hG (sx 0 (by omega) (by omega) (by omega) (by omega)) (sx 1 (by omega) (by omega) (by omega) (by omega)) (sx 2 (by omega) (by omega) (by omega) (by omega))) (fun x h1 h2 => sx x (by omega) (by omega) (by omega) (by omega)) (fun k hk => ?_) (fun k hk => ?_) (fun k h1 h2 => ?_) ?_ ?_
    · obtain ⟨b0, bw, b1, b2, b3, b4, b5, b6, b7⟩ := hr.2.2.1 k hk
      by_cases hkk : k = p1.toNatClampNeg
      · subst hkk
        refine ⟨by rw [sx _ (by omega) (by omega) (by omega) (by omega), hro 6 (by decide) (by decide) (by decide)]; exact b0, by rw [hro 6 (by decide) (by decide) (by decide)]; exact bw, by rw [s1, r7.1], by rw [s2, if_pos r7.1], by rw [s3, r9.1], by rw [r7.1, r9.1], fun q => absurd r7.1 q, fun q => absurd r9.1 q, by rw [hro 8 (by decide) (by decide) (by decide)]; exact b7⟩
      · have q3 : s' (102 + 10 * k + 3) = R1 9 k ∧ (R1 9 k = -100009 ↔ R 9 k = -100009) ∧ (¬ R1 9 k = -100009 → ∃ c, c < 24 ∧ R1 9 k = nI c) := by
          by_cases hkt : k = t
          · subst hkt
            rw [s4 hkk, r9.2.1 hkk]
            exact ⟨rfl, ⟨fun q => absurd q hbk, fun q => absurd (et.symm.trans q) hp⟩, (hr.2.2.1 _ (by assumption)).2.2.2.2.2.2.2.1⟩
          · rw [sx _ (by omega) (by omega) (by omega) (by omega), r9.2.2 k hkt hkk]
            exact ⟨b3, Iff.rfl, b6⟩
        refine ⟨by rw [sx _ (by omega) (by omega) (by omega) (by omega), hro 6 (by decide) (by decide) (by decide)]; exact b0, by rw [hro 6 (by decide) (by decide) (by decide)]; exact bw, by rw [sx _ (by omega) (by omega) (by omega) (by omega), r7.2 k hkk]; exact b1, ?_, q3.1, ?_, by rw [r7.2 k hkk]; exact b5, q3.2.2, by rw [hro 8 (by decide) (by decide) (by decide)]; exact b7⟩
        · rw [sx _ (by omega) (by omega) (by omega) (by omega), hro 8 (by decide) (by decide) (by decide), r7.2 k hkk]
          exact b2
        · rw [q3.2.1, r7.2 k hkk]
          exact b4
    · rw [hro 10 (by decide) (by decide) (by decide), hro 11 (by decide) (by decide) (by decide), hro 12 (by decide) (by decide) (by decide), hro 13 (by decide) (by decide) (by decide)]
      exact bil1_s (Nat.le_refl _) (hr.2.2.2.1 k hk) rfl rfl rfl rfl (fun j h1 h2 => sx _ (by omega) (by omega) (by omega) (by omega))
    · rw [hro 10 (by decide) (by decide) (by decide), hro 11 (by decide) (by decide) (by decide), hro 13 (by decide) (by decide) (by decide)]
      unfold wOut
      rw [r7.2 k (by omega), r9.2.2 k (by omega) (by omega)]
      exact hr.2.2.2.2.1 k h1 h2
    · exact prm_leave hr.2.2.2.2.2.1 (by omega) (by omega) hp et r7.1 r7.2 r9.1 r9.2.1 r9.2.2
    · rw [hro 11 (by decide) (by decide) (by decide), hro 12 (by decide) (by decide) (by decide), hro 13 (by decide) (by decide) (by decide)]
      unfold tots
      rw [sx 3 (by omega) (by omega) (by omega) (by omega), sx 4 (by omega) (by omega) (by omega) (by omega), sx 5 (by omega) (by omega) (by omega) (by omega)]
      exact hr.2.2.2.2.2.2
  by_cases hx : R 7 p1.toNatClampNeg = R 9 p1.toNatClampNeg
  · rw [if_pos hx]
    exact ACT_mk (by show xX2_leave _ _ p1 kw q = _; unfold xX2_leave; rw [e84, if_neg hw, if_neg ha, hA, ew1, ew3, eon, nI_clamp (show t < 2 ^ 31 by omega), if_pos (htk.mp hx)]) e84 hG8 rfl hi
  · rw [if_neg hx]
    exact ACT_mk (by show xX2_leave _ _ p1 kw q = _; unfold xX2_leave; rw [e84, if_neg hw, if_neg ha, hA, ew1, ew3, eon, nI_clamp (show t < 2 ^ 31 by omega), if_neg (fun q => hx (htk.mpr q))]) e84 hG8 rfl hi
end
