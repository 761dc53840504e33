/-! PURE: how much a bill can be -/
def near57 (b : Nat) (k : Nat) : Int := if xX2_isNear (nI k) (nI b) = 0 then 0 else 57
theorem near57_sum : ∀ b, b < 24 → iS (near57 b) 24 0 ≤ 285 := by decide +kernel
section
variable {n : Nat} {R F : Nat → Nat → Int32} {s : Nat → Int32} {kw mi : Nat}
theorem est_bd (h : NOW n R F s kw mi) {j : Nat} (hj : j < kw) (ha : ¬ R 7 j = -100009) {b : Nat} (hb : b < 24) (eb : R 9 j = nI b) (hz : ∀ c, c < 24 → ¬ xX2_isNear (nI c) (nI b) = 0 → (R 2 c).toInt - (R 4 c).toInt ≤ 57) : (xX2_estimateOf s j kw).toInt ≤ 1485 := by
  have hg := now_gR h
  have hpw : pw 150 (R 6) (R 7) := gR_pp hg (now_w h)
  have hpb : pw 1500 (R 8) (R 9) := gR_pw hg (now_bw h)
  have hzt := now_zt h
  have h8 := h.1.1
  have hs3 : s (102 + 10 * j + 3) = nI b := ((h.2.2.1 j hj).2.2.2.2.1).trans eb
  have hbwj : 0 ≤ (R 8 j).toInt ∧ (R 8 j).toInt ≤ 1500 := by
    have := (h.2.2.1 j hj).2.2.2.2.2.2.2.2
    omega
  have e : xX2_estimateOf s j kw = (if 0 ≤ 0 + sT (fun k => if (!(xX2_isNear (nI k) (nI b) == 0)) = true then (dd (R 2) (R 6) (R 7) (R 4) (R 8) (R 9) k + SH (R 8 j) b k) else 0) 24 0 then 0 + sT (fun k => if (!(xX2_isNear (nI k) (nI b) == 0)) = true then (dd (R 2) (R 6) (R 7) (R 4) (R 8) (R 9) k + SH (R 8 j) b k) else 0) 24 0 else 0) := by
    unfold xX2_estimateOf
    exact estO_loop (f := fun x => dd (R 2) (R 6) (R 7) (R 4) (R 8) (R 9) x + SH (R 8 j) b x) hs3 24 0 0 (fun i _ hi => by
      rw [reading_eq hg (by omega), booked_but hg (by omega) hj, eb, shc_cell hb]
      show GR (R 2) (R 6) (R 7) i - GR (R 4) (R 8) (R 9) i + SH (R 8 j) b i = GR (R 2) (R 6) (R 7) i - xX2_of s i 2 - _
      unfold xX2_of
      rw [(hg.2.1 i (by omega)).2]
      show GR (R 2) (R 6) (R 7) i - (R 4 i + sT (fun k => shc (R 8 k) (R 9 k) i) 8 0) + SH (R 8 j) b i = _
      grind)
  have hterm : ∀ k, k < 24 → -42000 ≤ (dd (R 2) (R 6) (R 7) (R 4) (R 8) (R 9) k + SH (R 8 j) b k).toInt ∧ (dd (R 2) (R 6) (R 7) (R 4) (R 8) (R 9) k + SH (R 8 j) b k).toInt ≤ 42000 ∧ (dd (R 2) (R 6) (R 7) (R 4) (R 8) (R 9) k + SH (R 8 j) b k).toInt ≤ (R 2 k).toInt - (R 4 k).toInt + (XX (R 6) (R 7) k).toInt := by
    intro k hk
    have d1 := dd_bd hzt hpw hpb hk
    have d2 := dd_ti hzt hpw hpb hk
    have d3 := SH_bd (w := R 8 j) (c := k) hb hbwj.1 (by omega)
    have d4 : (XX (R 8) (R 9) k).toInt = iS (fun i => (shc (R 8 i) (R 9 i) k).toInt) 8 0 := (ti_sT (g := fun i => shc (R 8 i) (R 9 i) k) (B := 1500) 8 0 (fun i _ hi => by
      have := shc_bd hpb (by decide) (by decide) (k := i) (c := k) (by omega)
      show -1500 ≤ (shc (R 8 i) (R 9 i) k).toInt ∧ (shc (R 8 i) (R 9 i) k).toInt ≤ 1500
      omega) (by decide) (by decide)).1
    have d5 := (iS_ge (g := fun i => (shc (R 8 i) (R 9 i) k).toInt) 8 0 j (fun i _ hi => (shc_bd hpb (by decide) (by decide) (k := i) (c := k) (by omega)).1) (by omega) (by omega)).1
    have d6 : (shc (R 8 j) (R 9 j) k).toInt = (SH (R 8 j) b k).toInt := by rw [eb, shc_cell hb]
    have d7 : (SH (R 8 j) b k).toInt ≤ (XX (R 8) (R 9) k).toInt := by
      rw [d4, ← d6]
      exact d5
    have d8 : (dd (R 2) (R 6) (R 7) (R 4) (R 8) (R 9) k + SH (R 8 j) b k).toInt = (dd (R 2) (R 6) (R 7) (R 4) (R 8) (R 9) k).toInt + (SH (R 8 j) b k).toInt := ti_add (by omega) (by omega)
    rw [d8]
    omega
  have hsum := ti_sT (g := fun k => if (!(xX2_isNear (nI k) (nI b) == 0)) = true then (dd (R 2) (R 6) (R 7) (R 4) (R 8) (R 9) k + SH (R 8 j) b k) else 0) (B := 42000) 24 0 (fun k _ hk => by
    show -42000 ≤ (if (!(xX2_isNear (nI k) (nI b) == 0)) = true then (dd (R 2) (R 6) (R 7) (R 4) (R 8) (R 9) k + SH (R 8 j) b k) else 0).toInt ∧ (if (!(xX2_isNear (nI k) (nI b) == 0)) = true then (dd (R 2) (R 6) (R 7) (R 4) (R 8) (R 9) k + SH (R 8 j) b k) else 0).toInt ≤ 42000
    have := hterm k (by omega)
    split
    · omega
    · rw [i_0]; omega) (by decide) (by decide)
  have hle := iS_le (g := fun k => (if (!(xX2_isNear (nI k) (nI b) == 0)) = true then (dd (R 2) (R 6) (R 7) (R 4) (R 8) (R 9) k + SH (R 8 j) b k) else (0 : Int32)).toInt) (g' := fun k => near57 b k + (XX (R 6) (R 7) k).toInt) 24 0 (fun k _ hk => by
    show (if (!(xX2_isNear (nI k) (nI b) == 0)) = true then (dd (R 2) (R 6) (R 7) (R 4) (R 8) (R 9) k + SH (R 8 j) b k) else (0 : Int32)).toInt ≤ near57 b k + (XX (R 6) (R 7) k).toInt
    have h1 := hterm k (by omega)
    have h2 := XX_bd hpw (by decide) (by decide) k
    unfold near57
    by_cases h0 : xX2_isNear (nI k) (nI b) = 0
    · have q1 : ¬ (!(xX2_isNear (nI k) (nI b) == 0)) = true := by simp [h0]
      rw [if_neg q1, if_pos h0, i_0]
      omega
    · have q1 : (!(xX2_isNear (nI k) (nI b) == 0)) = true := by simp [h0]
      rw [if_pos q1, if_neg h0]
      have := hz k (by omega) h0
      omega)
  rw [iS_add] at hle
  have hnear := near57_sum b hb
  have hXt := XX_total hpw (by decide) (by decide)
  rw [e, zero_add32]
  split
  · rw [hsum.1]
    omega
  · rw [i_0]; omega
/-- where the certainty is more than nothing, all near tares are of late -/
theorem cert_z (h : NOW n R F s kw mi) (hn : n ≤ 512) {w : Nat} (hw : w < kw) (ha : ¬ R 7 w = -100009) {b : Nat} (hb : b < 24) (eb : R 9 w = nI b) : 0 ≤ (xX2_certaintyIn s w 0).toInt ∧ (xX2_certaintyIn s w 0).toInt ≤ 100 ∧ (0 < (xX2_certaintyIn s w 0).toInt → ∀ c, c < 24 → ¬ xX2_isNear (nI c) (nI b) = 0 → (R 2 c).toInt - (R 4 c).toInt ≤ 57) := by
  obtain ⟨w0, -, w1, w2, w3, w4, w5, w6, -⟩ := h.2.2.1 _ hw
  obtain ⟨b4, ⟨ac, hac, eac⟩, -⟩ := h.2.2.2.1 _ hw
  obtain ⟨me, hme, eme⟩ := ear_nat h hb
  have hmi := h.1.2.1
  have i5 : (5 : Int32).toInt = 5 := rfl
  have i10 : (10 : Int32).toInt = 10 := rfl
  have i100 : (100 : Int32).toInt = 100 := rfl
  have t1 : (nI mi + 0).toInt = (mi : Int) := by rw [show nI mi + 0 = nI mi by grind, nI_toInt (by omega)]
  have t2 : (nI mi + 0 - nI me).toInt = (mi : Int) - me := by rw [ti_sub (by rw [t1, nI_toInt (by omega)]; omega) (by rw [t1, nI_toInt (by omega)]; omega), t1, nI_toInt (by omega)]
  have t3 : (5 * (nI mi + 0 - nI me)).toInt = 5 * ((mi : Int) - me) := by rw [ti_mul (by rw [t2, i5]; omega) (by rw [t2, i5]; omega), t2, i5]
  have t4 : (10 * nI ac).toInt = 10 * (ac : Int) := by rw [ti_mul (by rw [nI_toInt (by omega), i10]; omega) (by rw [nI_toInt (by omega), i10]; omega), nI_toInt (by omega), i10]
  have t5 : (100 - 5 * (nI mi + 0 - nI me)).toInt = 100 - 5 * ((mi : Int) - me) := by rw [ti_sub (by rw [t3, i100]; omega) (by rw [t3, i100]; omega), t3, i100]
  have t6 : (100 - 5 * (nI mi + 0 - nI me) - 10 * nI ac).toInt = 100 - 5 * ((mi : Int) - me) - 10 * (ac : Int) := by rw [ti_sub (by rw [t5, t4]; omega) (by rw [t5, t4]; omega), t5, t4]
  unfold xX2_certaintyIn xX2_ofWalker
  rw [w3, b4, eb, eme, eac, h.1.2.2.2.2.2.1]
  by_cases h0 : 0 ≤ 100 - 5 * (nI mi + 0 - nI me) - 10 * nI ac
  · rw [if_pos h0, t6]
    rw [Int32.le_iff_toInt_le, i_0, t6] at h0
    refine ⟨h0, by omega, fun hp c hc hne => ?_⟩
    have hear := (earO_loop (s := s) (b := b) 24 0 2000).2.1 c (by omega) (by omega) hne
    have hear2 : (xX2_earliest s (nI b)).toInt ≤ (xX2_of s c 3).toInt := hear
    obtain ⟨c0, c1, c2, c3, c4, m, m1, m2, m3, m4⟩ := h.2.1 c hc
    have c3' : xX2_of s c 3 = nI m := c3.trans m2
    rw [eme, c3', nI_toInt (by omega), nI_toInt (by omega)] at hear2
    omega
  · rw [if_neg h0, i_0]
    refine ⟨by omega, by omega, fun hp => by omega⟩
/-- the kilograms before what is billed already counts -/
theorem kilo_bd (h : NOW n R F s kw mi) (hn : n ≤ 512) {w : Nat} (hw : w < kw) (ha : ¬ R 7 w = -100009) : 0 ≤ (xX2_estimateOf s w kw * xX2_certaintyIn s w 0 / 100).toInt ∧ (xX2_estimateOf s w kw * xX2_certaintyIn s w 0 / 100).toInt ≤ 1485 := by
  obtain ⟨w0, -, w1, w2, w3, w4, w5, w6, -⟩ := h.2.2.1 _ hw
  obtain ⟨b, hb, eb⟩ := w6 (fun q => ha (w4.mpr q))
  obtain ⟨c1, c2, c3⟩ := cert_z h hn hw ha hb eb
  have he0 : 0 ≤ (xX2_estimateOf s w kw).toInt := by
    rw [estimateOf_eq (now_gR h) hw ha hb eb, max0]
    split
    · next hx =>
      have := Int32.le_iff_toInt_le.mp hx
      rw [i_0] at this
      exact this
    · decide
  by_cases h0 : (xX2_certaintyIn s w 0).toInt = 0
  · have e0 : xX2_certaintyIn s w 0 = 0 := Int32.toInt_inj.mp (by rw [h0, i_0])
    rw [e0, show xX2_estimateOf s w kw * 0 / 100 = 0 by rw [show xX2_estimateOf s w kw * 0 = 0 by grind]; decide]
    decide
  · have he1 := est_bd h hw ha hb eb (c3 (by omega))
    have hm0 : 0 ≤ (xX2_estimateOf s w kw).toInt * (xX2_certaintyIn s w 0).toInt := Int.mul_nonneg he0 c1
    have hm1 : (xX2_estimateOf s w kw).toInt * (xX2_certaintyIn s w 0).toInt ≤ (xX2_estimateOf s w kw).toInt * 100 := Int.mul_le_mul_of_nonneg_left c2 he0
    have hmul : (xX2_estimateOf s w kw * xX2_certaintyIn s w 0).toInt = (xX2_estimateOf s w kw).toInt * (xX2_certaintyIn s w 0).toInt := ti_mul (by omega) (by omega)
    have i100 : (100 : Int32).toInt = 100 := rfl
    rw [ti_div (by rw [hmul]; exact hm0) (by decide), hmul, i100]
    omega
/-- what is not billed yet -/
theorem unb_bd (h : NOW n R F s kw mi) : -1000000 ≤ (xX2_sumOf s 1 kw - xX2_sumOf s 0 kw - s 3).toInt ∧ (xX2_sumOf s 1 kw - xX2_sumOf s 0 kw - s 3).toInt ≤ 1000000 := by
  have hg := now_gR h
  have hpw : pw 150 (R 6) (R 7) := gR_pp hg (now_w h)
  have hzt := now_zt h
  have e1 : xX2_sumOf s 1 kw = sT (GR (R 2) (R 6) (R 7)) 24 0 := (sumRd h).1.symm.trans (sumRd h).2
  have e0 : xX2_sumOf s 0 kw = sT (R 4) 24 0 := (sumTa h).symm.trans (sum1 4)
  have hr := ti_sT (g := GR (R 2) (R 6) (R 7)) (B := 7200) 24 0 (fun c _ hc => by
    have a1 := GR_ti (B := 6000) (z := R 2) (fun c hc => by have := hzt c hc; omega) (by decide) hpw (by decide) (by decide) (c := c) (by omega)
    have a2 := XX_bd hpw (by decide) (by decide) c
    have a3 := hzt c (by omega)
    rw [a1]
    omega) (by decide) (by decide)
  have ht := ti_sT (g := R 4) (B := 12000) 24 0 (fun c _ hc => by
    have a3 := hzt c (by omega)
    omega) (by decide) (by decide)
  have hk := ti_sT (g := fun k => oz (R 11 k) - oz (R 13 k)) (B := 1500) 8 0 (fun k _ hk => by
    have hz0 : ∀ x : Int32, x = -100009 ∨ 0 ≤ x.toInt ∧ x.toInt ≤ 1500 → 0 ≤ (oz x).toInt ∧ (oz x).toInt ≤ 1500 := fun x hx => by
      unfold oz xX1_orZero
      by_cases hn : x = -100009
      · rw [if_pos hn]; decide
      · rw [if_neg hn]
        rcases hx with hx | hx
        · exact absurd hx hn
        · exact hx
    show -1500 ≤ (oz (R 11 k) - oz (R 13 k)).toInt ∧ (oz (R 11 k) - oz (R 13 k)).toInt ≤ 1500
    by_cases hkk : k < kw
    · obtain ⟨-, -, -, -, -, -, -, gb, gc, -⟩ := h.2.2.2.1 k hkk
      have b1 := hz0 _ gb
      have b2 := hz0 _ gc
      rw [ti_sub (by omega) (by omega)]
      omega
    · obtain ⟨-, -, -, o4, o5⟩ := h.2.2.2.2.1 k (by omega) (by omega)
      have b1 := hz0 _ (Or.inl o4)
      have b2 := hz0 _ (Or.inl o5)
      rw [ti_sub (by omega) (by omega)]
      omega) (by decide) (by decide)
  rw [e1, e0, h.2.2.2.2.2.2.1]
  have x1 : (sT (GR (R 2) (R 6) (R 7)) 24 0 - sT (R 4) 24 0).toInt = (sT (GR (R 2) (R 6) (R 7)) 24 0).toInt - (sT (R 4) 24 0).toInt := ti_sub (by rw [hr.1, ht.1]; omega) (by rw [hr.1, ht.1]; omega)
  rw [ti_sub (by rw [x1, hr.1, ht.1, hk.1]; omega) (by rw [x1, hr.1, ht.1, hk.1]; omega), x1, hr.1, ht.1, hk.1]
  omega
end
