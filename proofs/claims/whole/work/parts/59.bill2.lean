/-! PURE: bill -/
def bS (A B : Nat → Nat → Int32) (k : Nat) (v w : Int32) : Nat → Nat → Int32 :=
  (sR (sR (xX2_puts (xX2_puts (xX2_puts (xX2_puts A B k 5 v) B k 6 (v * ((xX2_puts A B k 5 v) 84 2))) B k 8 ((xX2_puts (xX2_puts A B k 5 v) B k 6 (v * ((xX2_puts A B k 5 v) 84 2))) 84 2)) B k 2 w) 84 3 (((xX2_puts (xX2_puts (xX2_puts (xX2_puts A B k 5 v) B k 6 (v * ((xX2_puts A B k 5 v) 84 2))) B k 8 ((xX2_puts (xX2_puts A B k 5 v) B k 6 (v * ((xX2_puts A B k 5 v) 84 2))) 84 2)) B k 2 w) 84 3) + v)) 84 4 (((sR (xX2_puts (xX2_puts (xX2_puts (xX2_puts A B k 5 v) B k 6 (v * ((xX2_puts A B k 5 v) 84 2))) B k 8 ((xX2_puts (xX2_puts A B k 5 v) B k 6 (v * ((xX2_puts A B k 5 v) 84 2))) 84 2)) B k 2 w) 84 3 (((xX2_puts (xX2_puts (xX2_puts (xX2_puts A B k 5 v) B k 6 (v * ((xX2_puts A B k 5 v) 84 2))) B k 8 ((xX2_puts (xX2_puts A B k 5 v) B k 6 (v * ((xX2_puts A B k 5 v) 84 2))) 84 2)) B k 2 w) 84 3) + v)) 84 4) + (v * ((sR (xX2_puts (xX2_puts (xX2_puts (xX2_puts A B k 5 v) B k 6 (v * ((xX2_puts A B k 5 v) 84 2))) B k 8 ((xX2_puts (xX2_puts A B k 5 v) B k 6 (v * ((xX2_puts A B k 5 v) 84 2))) 84 2)) B k 2 w) 84 3 (((xX2_puts (xX2_puts (xX2_puts (xX2_puts A B k 5 v) B k 6 (v * ((xX2_puts A B k 5 v) 84 2))) B k 8 ((xX2_puts (xX2_puts A B k 5 v) B k 6 (v * ((xX2_puts A B k 5 v) 84 2))) 84 2)) B k 2 w) 84 3) + v)) 84 2))))
def bW (A B : Nat → Nat → Int32) (k : Nat) (v : Int32) : Int32 := (xX2_ofWalker ((xX2_puts (xX2_puts (xX2_puts A B k 5 v) B k 6 (v * ((xX2_puts A B k 5 v) 84 2))) B k 8 ((xX2_puts (xX2_puts A B k 5 v) B k 6 (v * ((xX2_puts A B k 5 v) 84 2))) 84 2)) 84) k 2)
theorem bW_eq {A B : Nat → Nat → Int32} {k : Nat} {v : Int32} : bW A B k v = A 84 (102 + 10 * k + 2) := by
  unfold bW xX2_ofWalker xX2_puts
  rw [sR_same_ne (by omega), sR_same_ne (by omega), sR_same_ne (by omega)]
theorem bS_row {A B : Nat → Nat → Int32} {k y : Nat} {v w : Int32} (hy : y ≠ 84) : bS A B k v w y = A y := by
  unfold bS xX2_puts
  rw [sR_ne hy, sR_ne hy, sR_ne hy, sR_ne hy, sR_ne hy, sR_ne hy]
theorem bS_x {A B : Nat → Nat → Int32} {k x : Nat} {v w : Int32} (h3 : x ≠ 3) (h4 : x ≠ 4) (h5 : x ≠ 102 + 10 * k + 5) (h6 : x ≠ 102 + 10 * k + 6) (h8 : x ≠ 102 + 10 * k + 8) (h2 : x ≠ 102 + 10 * k + 2) : bS A B k v w 84 x = A 84 x := by
  unfold bS xX2_puts
  rw [sR_same_ne h4, sR_same_ne h3, sR_same_ne h2, sR_same_ne h8, sR_same_ne h6, sR_same_ne h5]
theorem bS_5 {A B : Nat → Nat → Int32} {k : Nat} {v w : Int32} : bS A B k v w 84 (102 + 10 * k + 5) = v := by
  unfold bS xX2_puts
  rw [sR_same_ne (by omega), sR_same_ne (by omega), sR_same_ne (by omega), sR_same_ne (by omega), sR_same_ne (by omega), sR_same]
theorem bS_6 {A B : Nat → Nat → Int32} {k : Nat} {v w : Int32} : bS A B k v w 84 (102 + 10 * k + 6) = v * A 84 2 := by
  unfold bS xX2_puts
  rw [sR_same_ne (by omega), sR_same_ne (by omega), sR_same_ne (by omega), sR_same_ne (by omega), sR_same, sR_same_ne (by omega)]
theorem bS_8 {A B : Nat → Nat → Int32} {k : Nat} {v w : Int32} : bS A B k v w 84 (102 + 10 * k + 8) = A 84 2 := by
  unfold bS xX2_puts
  rw [sR_same_ne (by omega), sR_same_ne (by omega), sR_same_ne (by omega), sR_same, sR_same_ne (by omega), sR_same_ne (by omega)]
theorem bS_2 {A B : Nat → Nat → Int32} {k : Nat} {v w : Int32} : bS A B k v w 84 (102 + 10 * k + 2) = w := by
  unfold bS xX2_puts
  rw [sR_same_ne (by omega), sR_same_ne (by omega), sR_same]
theorem bS_3 {A B : Nat → Nat → Int32} {k : Nat} {v w : Int32} : bS A B k v w 84 3 = A 84 3 + v := by
  unfold bS xX2_puts
  rw [sR_same_ne (by omega), sR_same, sR_same_ne (by omega), sR_same_ne (by omega), sR_same_ne (by omega), sR_same_ne (by omega)]
theorem bS_4 {A B : Nat → Nat → Int32} {k : Nat} {v w : Int32} : bS A B k v w 84 4 = A 84 4 + v * A 84 2 := by
  have e2 : ∀ (P : Nat → Nat → Int32) (y : Int32), sR P 84 3 y 84 2 = P 84 2 := fun P y => sR_same_ne (by decide)
  unfold bS xX2_puts
  rw [sR_same, sR_same_ne (show (4 : Nat) ≠ 3 by decide), e2]
  rw [sR_same_ne (show 4 ≠ 102 + 10 * k + 2 by omega), sR_same_ne (show 4 ≠ 102 + 10 * k + 8 by omega), sR_same_ne (show 4 ≠ 102 + 10 * k + 6 by omega), sR_same_ne (show 4 ≠ 102 + 10 * k + 5 by omega),
    sR_same_ne (show 2 ≠ 102 + 10 * k + 2 by omega), sR_same_ne (show 2 ≠ 102 + 10 * k + 8 by omega), sR_same_ne (show 2 ≠ 102 + 10 * k + 6 by omega), sR_same_ne (show 2 ≠ 102 + 10 * k + 5 by omega)]
/-- the model's bill -/
theorem bill2 {R F : Nat → Nat → Int32} {p1 : Int32} {kw q : Nat} {s : Nat → Int32} (hA : (xX2_acts R F q).1 84 = s) (e84 : R 84 = s) (h1 : ¬ xX2_isWalker s p1 = 0) (h2 : ¬ xX2_isAboard s p1.toNatClampNeg = 0) (h3 : xX2_ofWalker s p1.toNatClampNeg 5 = -100009) {K V v : Int32} (hK : xX2_estimateOf s p1.toNatClampNeg kw * xX2_certaintyIn s p1.toNatClampNeg 0 / 100 = K)
    (hV : (s 3 + K) - (xX2_sumOf s 1 kw - xX2_sumOf s 0 kw) = V) (hv : v = if V ≤ 0 then (if 0 ≤ K - 0 then K - 0 else 0) else (if 0 ≤ K - V then K - V else 0)) :
    xX2_bill R F p1 kw q = (v, bS (xX2_acts R F q).1 (xX2_acts R F q).2 p1.toNatClampNeg v (if 20 ≤ v then v else s (102 + 10 * p1.toNatClampNeg + 2)), (xX2_acts R F q).2) := by
  have hbw : ∀ v, bW (xX2_acts R F q).1 (xX2_acts R F q).2 p1.toNatClampNeg v = s (102 + 10 * p1.toNatClampNeg + 2) := fun v => by rw [bW_eq, hA]
  unfold xX2_bill
  rw [e84, if_neg h1, if_neg h2, if_pos h3, hA, hK, hV]
  generalize (xX2_acts R F q).1 = A at *
  generalize (xX2_acts R F q).2 = B at *
  by_cases c1 : V ≤ 0
  · rw [if_pos c1] at hv ⊢
    by_cases c2 : 0 ≤ K - 0
    · rw [if_pos c2] at hv ⊢
      subst hv
      by_cases c3 : 20 ≤ K - 0
      · rw [if_pos c3, if_pos c3]
        rfl
      · rw [if_neg c3, if_neg c3, ← hbw (K - 0)]
        rfl
    · rw [if_neg c2] at hv ⊢
      subst hv
      rw [if_neg (show ¬ (20 : Int32) ≤ 0 by decide), if_neg (show ¬ (20 : Int32) ≤ 0 by decide), ← hbw 0]
      rfl
  · rw [if_neg c1] at hv ⊢
    by_cases c2 : 0 ≤ K - V
    · rw [if_pos c2] at hv ⊢
      subst hv
      by_cases c3 : 20 ≤ K - V
      · rw [if_pos c3, if_pos c3]
        rfl
      · rw [if_neg c3, if_neg c3, ← hbw (K - V)]
        rfl
    · rw [if_neg c2] at hv ⊢
      subst hv
      rw [if_neg (show ¬ (20 : Int32) ≤ 0 by decide), if_neg (show ¬ (20 : Int32) ≤ 0 by decide), ← hbw 0]
      rfl
section
variable {n : Nat} {R F : Nat → Nat → Int32} {s : Nat → Int32} {o q kw mi : Nat}
theorem bill_v {K u V : Int32} (hK : 0 ≤ K.toInt ∧ K.toInt ≤ 1485) (hu : -1000000 ≤ u.toInt ∧ u.toInt ≤ 1000000) (hV : V = K - u) : (if 0 < (if u < K then u else K) then (if u < K then u else K) else 0) = (if V ≤ 0 then (if 0 ≤ K - 0 then K - 0 else 0) else (if 0 ≤ K - V then K - V else 0)) ∧
    0 ≤ (if 0 < (if u < K then u else K) then (if u < K then u else K) else 0).toInt ∧ (if 0 < (if u < K then u else K) then (if u < K then u else K) else 0).toInt ≤ 1485 := by
  have e0 : K - 0 = K := by grind
  have eV : K - V = u := by rw [hV]; grind
  have iV : V.toInt = K.toInt - u.toInt := by rw [hV, ti_sub (by omega) (by omega)]
  rw [e0, eV, max0]
  by_cases c : u < K
  · have c' := Int32.lt_iff_toInt_lt.mp c
    have hn : ¬ V ≤ 0 := fun q => by
      have := Int32.le_iff_toInt_le.mp q
      rw [i_0] at this
      omega
    rw [if_pos c, if_neg hn]
    refine ⟨rfl, ?_⟩
    split
    · next h =>
      have := Int32.le_iff_toInt_le.mp h
      rw [i_0] at this
      omega
    · rw [i_0]; omega
  · have c' := i_nlt c
    have h1 : V ≤ 0 := Int32.le_iff_toInt_le.mpr (by rw [i_0]; omega)
    have h2 : 0 ≤ K := Int32.le_iff_toInt_le.mpr (by rw [i_0]; omega)
    rw [if_neg c, if_pos h1, if_pos h2]
    exact ⟨rfl, hK⟩
/-- the class's kilograms -/
theorem kilo1 (h : NOW n R F s kw mi) {p : Int32} (hw : ¬ xX2_isWalker s p = 0) (ha : ¬ xX2_isAboard s p.toNatClampNeg = 0) {K u : Int32} (hK : xX2_estimateOf s p.toNatClampNeg kw * xX2_certaintyIn s p.toNatClampNeg 0 / 100 = K) (hu : xX2_sumOf s 1 kw - xX2_sumOf s 0 kw - s 3 = u) :
    (xX1_kilogramsToBill R F p).1 = (if 0 < (if u < K then u else K) then (if u < K then u else K) else 0) ∧ kp3 (xX1_kilogramsToBill R F p).2 R := by
  obtain ⟨e1, k1⟩ := est_eq h hw ha
  unfold xX1_kilogramsToBill
  generalize xX1_estimateFor R F p = E at *
  obtain ⟨E1, E2⟩ := E
  dsimp only at e1 k1 ⊢
  have hN : NOW n E2 F s kw mi := NOW_rows h (fun j h1 h2 => k1 j (by omega) (by omega) (by omega)) rfl
  rw [e1, cert_eq hN hw ha, hK, (sumRd hN).1, sumRd2]
  have hNW : NOW n (xX1_weighAll E2 F) F s kw mi := NOW_rows hN (fun j h1 h2 => weighAll_ne (by omega)) rfl
  rw [sumTa hNW, kgB, ← hNW.2.2.2.2.2.2.1, hu]
  exact ⟨rfl, fun i h1 h2 h3 => by rw [weighAll_ne h1]; exact k1 i h1 h2 h3⟩
theorem act_bill (hn : n ≤ 512) (hh : HI n R F o q) (hr : NOW n R F (R 84) kw mi) (p1 : Int32) : ACT n R F (xX1_bill R F p1 o q) (fun R1 F1 => xX2_bill R1 F1 p1 kw q) := by
  obtain ⟨hC, hG, hG8⟩ := remF hh
  obtain ⟨n1, n2, n3, n4, n5, n6, n7⟩ := hr.1
  unfold xX1_bill
  rw [isW hr]
  by_cases hw : xX2_isWalker (R 84) p1 = 0
  · rw [if_pos hw]
    exact ACT_mk (by show xX2_bill _ _ p1 kw q = _; unfold xX2_bill; rw [if_pos hw]) rfl rfl rfl (INV_mk hh hr)
  rw [if_neg hw, isAb hr hw]
  by_cases ha : xX2_isAboard (R 84) p1.toNatClampNeg = 0
  · rw [if_pos ha]
    exact ACT_mk (by show xX2_bill _ _ p1 kw q = _; unfold xX2_bill; rw [if_neg hw, if_pos ha]) rfl rfl rfl (INV_mk hh hr)
  rw [if_neg ha]
  obtain ⟨ek, hk⟩ := isW_of hr hw
  obtain ⟨g4, gm, g5, g6, g7, g8, g9, gb, gc, gd⟩ := hr.2.2.2.1 _ hk
  have w5 : xX2_ofWalker (R 84) p1.toNatClampNeg 5 = R 11 p1.toNatClampNeg := g5
  by_cases hb : ¬ R 11 p1.toNatClampNeg = -100009
  · rw [if_neg hb]
    exact ACT_mk (by show xX2_bill _ _ p1 kw q = _; unfold xX2_bill; rw [if_neg hw, if_neg ha, if_neg (by rw [w5]; exact hb)]) rfl rfl rfl (INV_mk hh hr)
  have hb := Classical.not_not.mp hb
  rw [if_pos hb]
  have hp : ¬ R 7 p1.toNatClampNeg = -100009 := fun q => ha ((isAb0 hr hk).mpr q)
  have hbb : R 13 p1.toNatClampNeg = -100009 := Classical.not_not.mp (fun q => gd q hb)
  have hrC : NOW n (xX1_remember R F o q).1 (xX1_remember R F o q).2 (R 84) kw mi := NOW_rows hr (fun j h1 h2 => hC j (by omega)) hG
  have hKb := kilo_bd hr hn hk hp
  have hub := unb_bd hr
  generalize hK : xX2_estimateOf (R 84) p1.toNatClampNeg kw * xX2_certaintyIn (R 84) p1.toNatClampNeg 0 / 100 = K at hKb
  generalize hu : xX2_sumOf (R 84) 1 kw - xX2_sumOf (R 84) 0 kw - R 84 3 = u at hub
  obtain ⟨ev, hkp⟩ := kilo1 hrC hw ha hK hu
  have hVK : (R 84 3 + K) - (xX2_sumOf (R 84) 1 kw - xX2_sumOf (R 84) 0 kw) = K - u := by
    rw [← hu]
    grind
  obtain ⟨vv, v0, v1⟩ := bill_v hKb hub rfl
  rw [← ev] at vv v0 v1
  generalize (xX1_kilogramsToBill (xX1_remember R F o q).1 (xX1_remember R F o q).2 p1).1 = v at vv v0 v1 ⊢
  generalize (xX1_kilogramsToBill (xX1_remember R F o q).1 (xX1_remember R F o q).2 p1).2 = W at hkp ⊢
  clear ev
  have hvn : ¬ v = -100009 := fun e => by
    rw [e] at v0
    exact absurd v0 (by decide)
  have hX : ∃ R1 : Nat → Nat → Int32, (if v < 20 then (v, (sR (sR W 11 ((p1).toNatClampNeg) v) 12 ((p1).toNatClampNeg) (((xX1_remember R F o q).2) 1 1)), ((xX1_remember R F o q).2)) else (v, (sR (sR (sR W 11 ((p1).toNatClampNeg) v) 12 ((p1).toNatClampNeg) (((xX1_remember R F o q).2) 1 1)) 8 ((p1).toNatClampNeg) v), ((xX1_remember R F o q).2))) = (v, R1, (xX1_remember R F o q).2) ∧
      (∀ y, y ≠ 8 → y ≠ 11 → y ≠ 12 → y ≠ 15 → y ≠ 16 → y ≠ 17 → R1 y = (xX1_remember R F o q).1 y) ∧ R1 11 p1.toNatClampNeg = v ∧ (∀ k, k ≠ p1.toNatClampNeg → R1 11 k = R 11 k) ∧ R1 12 p1.toNatClampNeg = F 1 1 ∧ (∀ k, k ≠ p1.toNatClampNeg → R1 12 k = R 12 k) ∧ R1 8 p1.toNatClampNeg = (if 20 ≤ v then v else R 8 p1.toNatClampNeg) ∧ (∀ k, k ≠ p1.toNatClampNeg → R1 8 k = R 8 k) := by
    have wr : ∀ y, y < 15 → W y = R y := fun y hy => by rw [hkp y (by omega) (by omega) (by omega), hC y (by omega)]
    by_cases c : v < 20
    · have c' : ¬ 20 ≤ v := fun q => by
        have h1 := Int32.lt_iff_toInt_lt.mp c
        have h2 := Int32.le_iff_toInt_le.mp q
        omega
      rw [if_pos c, if_neg c']
      refine ⟨_, rfl, fun y h1 h2 h3 h4 h5 h6 => by rw [sR_ne h3, sR_ne h2, hkp y h4 h5 h6], by rw [sR_ne (by decide), sR_same], fun k hk => by rw [sR_ne (by decide), sR_same_ne hk, wr 11 (by decide)], by rw [sR_same, hG], fun k hk => by rw [sR_same_ne hk, sR_ne (by decide), wr 12 (by decide)], by rw [sR_ne (by decide), sR_ne (by decide), wr 8 (by decide)], fun k hk => by rw [sR_ne (by decide), sR_ne (by decide), wr 8 (by decide)]⟩
    · have c' : 20 ≤ v := by
        have h1 := i_nlt c
        exact Int32.le_iff_toInt_le.mpr h1
      rw [if_neg c, if_pos c']
      refine ⟨_, rfl, fun y h1 h2 h3 h4 h5 h6 => by rw [sR_ne h1, sR_ne h3, sR_ne h2, hkp y h4 h5 h6], by rw [sR_ne (by decide), sR_ne (by decide), sR_same], fun k hk => by rw [sR_ne (by decide), sR_ne (by decide), sR_same_ne hk, wr 11 (by decide)], by rw [sR_ne (by decide), sR_same, hG], fun k hk => by rw [sR_ne (by decide), sR_same_ne hk, sR_ne (by decide), wr 12 (by decide)], by rw [sR_same], fun k hk => by rw [sR_same_ne hk, sR_ne (by decide), sR_ne (by decide), wr 8 (by decide)]⟩
  obtain ⟨R1, eX, r0, r11, r11n, r12, r12n, r8, r8n⟩ := hX
  rw [eX]
  have e84 : R1 84 = R 84 := by rw [r0 84 (by decide) (by decide) (by decide) (by decide) (by decide) (by decide), hC 84 (by decide)]
  have hA : (xX2_acts R1 (xX1_remember R F o q).2 q).1 84 = R 84 := by rw [acts_ne (by decide), e84]
  have hf := bill2 (R := R1) (F := (xX1_remember R F o q).2) (q := q) hA e84 hw ha (w5.trans hb) hK hVK vv
  refine ACT_mk hf e84 hG8 rfl ?_
  refine INV_act hh hr (Nat.le_refl _) (fun i h1 h2 => r0 i (by omega) (by omega) (by omega) (by omega) (by omega) (by omega)) e84 (by rw [r0 85 (by decide) (by decide) (by decide) (by decide) (by decide) (by decide), hC 85 (by decide)]) (fun y hy => rfl) (fun i hi => bS_row hi) rfl ?_ (kw' := kw) (mi' := mi)
  have s5 := bS_5 (A := (xX2_acts R1 (xX1_remember R F o q).2 q).1) (B := (xX2_acts R1 (xX1_remember R F o q).2 q).2) (k := p1.toNatClampNeg) (v := v) (w := if 20 ≤ v then v else R 84 (102 + 10 * p1.toNatClampNeg + 2))
  have s6 := bS_6 (A := (xX2_acts R1 (xX1_remember R F o q).2 q).1) (B := (xX2_acts R1 (xX1_remember R F o q).2 q).2) (k := p1.toNatClampNeg) (v := v) (w := if 20 ≤ v then v else R 84 (102 + 10 * p1.toNatClampNeg + 2))
  have s8 := bS_8 (A := (xX2_acts R1 (xX1_remember R F o q).2 q).1) (B := (xX2_acts R1 (xX1_remember R F o q).2 q).2) (k := p1.toNatClampNeg) (v := v) (w := if 20 ≤ v then v else R 84 (102 + 10 * p1.toNatClampNeg + 2))
  have s2 := bS_2 (A := (xX2_acts R1 (xX1_remember R F o q).2 q).1) (B := (xX2_acts R1 (xX1_remember R F o q).2 q).2) (k := p1.toNatClampNeg) (v := v) (w := if 20 ≤ v then v else R 84 (102 + 10 * p1.toNatClampNeg + 2))
  have s3 := bS_3 (A := (xX2_acts R1 (xX1_remember R F o q).2 q).1) (B := (xX2_acts R1 (xX1_remember R F o q).2 q).2) (k := p1.toNatClampNeg) (v := v) (w := if 20 ≤ v then v else R 84 (102 + 10 * p1.toNatClampNeg + 2))
  have s4 := bS_4 (A := (xX2_acts R1 (xX1_remember R F o q).2 q).1) (B := (xX2_acts R1 (xX1_remember R F o q).2 q).2) (k := p1.toNatClampNeg) (v := v) (w := if 20 ≤ v then v else R 84 (102 + 10 * p1.toNatClampNeg + 2))
  have sx : ∀ x, x ≠ 3 → x ≠ 4 → x ≠ 102 + 10 * p1.toNatClampNeg + 5 → x ≠ 102 + 10 * p1.toNatClampNeg + 6 → x ≠ 102 + 10 * p1.toNatClampNeg + 8 → x ≠ 102 + 10 * p1.toNatClampNeg + 2 → bS (xX2_acts R1 (xX1_remember R F o q).2 q).1 (xX2_acts R1 (xX1_remember R F o q).2 q).2 p1.toNatClampNeg v (if 20 ≤ v then v else R 84 (102 + 10 * p1.toNatClampNeg + 2)) 84 x = R 84 x := fun x h1 h2 h3 h4 h5 h6 => by rw [bS_x h1 h2 h3 h4 h5 h6, hA]
  rw [hA] at s6 s8 s3 s4
  generalize bS (xX2_acts R1 (xX1_remember R F o q).2 q).1 (xX2_acts R1 (xX1_remember R F o q).2 q).2 p1.toNatClampNeg v (if 20 ≤ v then v else R 84 (102 + 10 * p1.toNatClampNeg + 2)) 84 = s' at *
  have sy : ∀ x, x < 3 ∨ x = 5 ∨ 6 ≤ x ∧ x < 102 → s' x = R 84 x := fun x hx => sx x (by omega) (by omega) (by omega) (by omega) (by omega) (by omega)
  have sk : ∀ k j, k ≠ p1.toNatClampNeg → j < 10 → s' (102 + 10 * k + j) = R 84 (102 + 10 * k + j) := fun k j h1 h2 => sx _ (by omega) (by omega) (by omega) (by omega) (by omega) (by omega)
  have sj : ∀ j, j = 0 ∨ j = 1 ∨ j = 3 ∨ j = 4 ∨ j = 7 ∨ j = 9 → s' (102 + 10 * p1.toNatClampNeg + j) = R 84 (102 + 10 * p1.toNatClampNeg + j) := fun j h2 => sx _ (by omega) (by omega) (by omega) (by omega) (by omega) (by omega)
  have hro : ∀ y, y ≠ 8 → y ≠ 11 → y ≠ 12 → y < 15 → R1 y = R y := fun y h1 h2 h3 h4 => by rw [r0 y h1 h2 h3 (by omega) (by omega) (by omega), hC y (by omega)]
  have hz0 : ∀ x : Int32, oz (-100009) * x = 0 := fun x => by
    show (0 : Int32) * x = 0
    grind
  refine NOW_walk hr (fun j h1 h2 => hro j (by omega) (by omega) (by omega) (by omega)) (rNum_s hr.1 hG (sy 0 (by omega)) (sy 1 (by omega)) (sy 2 (by omega))) (fun x h1 h2 => sy x (by omega)) (fun k hk => ?_) (fun k hk => ?_) (fun k h1 h2 => ?_) ?_ ?_
  · rw [hro 6 (by decide) (by decide) (by decide) (by decide), hro 7 (by decide) (by decide) (by decide) (by decide), hro 9 (by decide) (by decide) (by decide) (by decide)]
    by_cases hkk : k = p1.toNatClampNeg
    · subst hkk
      obtain ⟨b0, bw, b1, b2, b3, b4, b5, b6, b7⟩ := hr.2.2.1 _ hk
      refine ⟨by rw [sj 0 (by decide)]; exact b0, bw, by rw [sj 1 (by decide)]; exact b1, ?_, by rw [sj 3 (by decide)]; exact b3, b4, b5, b6, ?_⟩
      · rw [s2, if_neg hp, r8, b2, if_neg hp]
      · rw [r8]
        by_cases c : 20 ≤ v
        · rw [if_pos c]
          have := Int32.le_iff_toInt_le.mp c
          have i20 : (20 : Int32).toInt = 20 := rfl
          omega
        · rw [if_neg c]
          exact b7
    · exact wlk1_s (hr.2.2.1 k hk) rfl rfl (r8n k hkk) rfl (fun j hj => sk k j hkk (by omega))
  · rw [hro 10 (by decide) (by decide) (by decide) (by decide), hro 13 (by decide) (by decide) (by decide) (by decide)]
    by_cases hkk : k = p1.toNatClampNeg
    · subst hkk
      refine ⟨by rw [sj 4 (by decide)]; exact g4, gm, by rw [s5, r11], by rw [s6, r11, r12, oz_nn hvn, n7], by rw [sj 7 (by decide), g7, hbb, hz0, hz0], fun _ => by rw [s8, r12, n7], by rw [sj 9 (by decide)]; exact g9, by rw [r11]; exact Or.inr ⟨v0, by omega⟩, gc, fun q => absurd hbb q⟩
    · exact bil1_s (Nat.le_refl _) (hr.2.2.2.1 k hk) rfl (r11n k hkk) (r12n k hkk) rfl (fun j h1 h2 => sk k j hkk h2)
  · rw [hro 7 (by decide) (by decide) (by decide) (by decide), hro 9 (by decide) (by decide) (by decide) (by decide), hro 10 (by decide) (by decide) (by decide) (by decide), hro 13 (by decide) (by decide) (by decide) (by decide)]
    unfold wOut
    rw [r11n k (by omega)]
    exact hr.2.2.2.2.1 k h1 h2
  · rw [hro 7 (by decide) (by decide) (by decide) (by decide), hro 9 (by decide) (by decide) (by decide) (by decide)]
    exact hr.2.2.2.2.2.1
  · rw [hro 13 (by decide) (by decide) (by decide) (by decide)]
    obtain ⟨t1, t2, t3⟩ := hr.2.2.2.2.2.2
    unfold tots
    rw [s3, s4, sy 5 (by omega), t1, t2, t3]
    have z1 : oz (-100009) = 0 := rfl
    refine ⟨?_, ?_, ?_⟩
    · rw [sT_upd (g := fun k => oz (R 11 k) - oz (R 13 k)) (g' := fun k => oz (R1 11 k) - oz (R 13 k)) (w := p1.toNatClampNeg) 8 0 (by omega) (by omega) (fun j hj => by show oz (R1 11 j) - oz (R 13 j) = _; rw [r11n j hj]), r11, hb, oz_nn hvn, z1]
      grind
    · rw [sT_upd (g := fun k => oz (R 11 k) * R 12 k) (g' := fun k => oz (R1 11 k) * R1 12 k) (w := p1.toNatClampNeg) 8 0 (by omega) (by omega) (fun j hj => by show oz (R1 11 j) * R1 12 j = _; rw [r11n j hj, r12n j hj]), r11, r12, hb, oz_nn hvn, z1, n7]
      grind
    · refine sT_congr 8 0 (fun j _ hj => ?_)
      show oz (R 13 j) * R 12 j = oz (R 13 j) * R1 12 j
      by_cases hjk : j = p1.toNatClampNeg
      · rw [hjk, hbb, hz0, hz0]
      · rw [r12n j hjk]
end
