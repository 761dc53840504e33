/-! PURE: cells, walkers, estimates, certainty, until, the best cell -/
theorem in07_not {p : Int32} (h : xX2_in p 0 7 = 0) : ¬ p = 0 ∧ ¬ p = 1 ∧ ¬ p = 2 ∧ ¬ p = 3 ∧ ¬ p = 4 ∧ ¬ p = 5 ∧ ¬ p = 6 ∧ ¬ p = 7 := by
  refine ⟨?_, ?_, ?_, ?_, ?_, ?_, ?_, ?_⟩ <;> intro e <;> rw [e] at h <;> exact absurd h (by decide)
section
variable {n : Nat} {R F : Nat → Nat → Int32} {s : Nat → Int32} {kw mi : Nat}
theorem op_cell (h : NOW n R F s kw mi) (p r : Int32) : (xX1_cell R F p r).1 = xX2_cell s p r kw ∧ kp3 (xX1_cell R F p r).2 R := by
  unfold xX1_cell xX2_cell
  rw [isC]
  by_cases hc : xX2_isCell p = 0
  · rw [if_pos hc, if_pos hc]
    exact ⟨rfl, fun i _ _ _ => rfl⟩
  · obtain ⟨e, hlt⟩ := cell_of hc
    have hnn := cell_nn hc
    rw [if_neg hc, if_neg hc, ← e]
    generalize hb : p.toNatClampNeg = b at e hlt ⊢
    obtain ⟨c0, c1, c2, c3, -⟩ := h.2.1 b hlt
    by_cases hin : xX2_in r 0 7 = 0
    · obtain ⟨n0, n1, n2, n3, n4, n5, n6, n7⟩ := in07_not hin
      rw [if_pos hin, if_neg n0, if_neg n1, if_neg n2, if_neg n3, if_neg n4, if_neg n5, if_neg n6, if_neg n7]
      exact ⟨rfl, fun i _ _ _ => rfl⟩
    · rw [if_neg hin]
      by_cases d0 : r = 0
      · rw [if_pos d0, if_pos d0]
        dsimp only
        exact ⟨by rw [weighAll_at hlt, reading_eq (now_gR h) hlt], fun i h15 _ _ => weighAll_ne h15⟩
      rw [if_neg d0, if_neg d0]
      by_cases d1 : r = 1
      · rw [if_pos d1, if_pos d1]
        exact ⟨c0.symm, fun i _ _ _ => rfl⟩
      rw [if_neg d1, if_neg d1]
      by_cases d2 : r = 2
      · rw [if_pos d2, if_pos d2]
        exact ⟨c1.symm, fun i _ _ _ => rfl⟩
      rw [if_neg d2, if_neg d2]
      by_cases d3 : r = 3
      · rw [if_pos d3, if_pos d3]
        exact ⟨c2.symm, fun i _ _ _ => rfl⟩
      rw [if_neg d3, if_neg d3]
      by_cases d4 : r = 4
      · rw [if_pos d4, if_pos d4]
        exact ⟨c3.symm, fun i _ _ _ => rfl⟩
      rw [if_neg d4, if_neg d4]
      by_cases d5 : r = 5
      · rw [if_pos d5, if_pos d5]
        dsimp only
        exact ⟨by rw [expectAll_at (by decide) hlt, expected_eq (now_gR h) hlt], fun i _ h16 _ => expectAll_ne h16⟩
      rw [if_neg d5, if_neg d5]
      by_cases d6 : r = 6
      · rw [if_pos d6, if_pos d6]
        exact ⟨whoAT h hnn, fun i _ _ _ => rfl⟩
      rw [if_neg d6, if_neg d6]
      by_cases d7 : r = 7
      · rw [if_pos d7, if_pos d7]
        exact ⟨whoBK h hnn, fun i _ _ _ => rfl⟩
      rcases in07 hin with q | q | q | q | q | q | q | q <;> contradiction
theorem op_walker (h : NOW n R F s kw mi) (p r : Int32) : xX1_walker R F p r = xX2_walker s p r := by
  unfold xX1_walker xX2_walker
  rw [isW h]
  by_cases hc : xX2_isWalker s p = 0
  · rw [if_pos hc, if_pos hc]
  · obtain ⟨e, hlt⟩ := isW_of h hc
    have hab := isAb h hc
    rw [if_neg hc, if_neg hc, hab]
    have h8 := h.1.1
    have hbi := billA h (k := p.toNatClampNeg) (by omega)
    have hba := backA h (k := p.toNatClampNeg) (by omega)
    rw [← e] at hbi hba
    rw [hbi, hba]
    generalize p.toNatClampNeg = b at e hlt hab ⊢
    obtain ⟨w0, -, w1, w2, w3, w4, -⟩ := h.2.2.1 b hlt
    obtain ⟨b4, -, b5, b6, b7, -⟩ := h.2.2.2.1 b hlt
    by_cases hin : xX2_in r 0 7 = 0
    · obtain ⟨n0, n1, n2, n3, n4, n5, n6, n7⟩ := in07_not hin
      rw [if_pos hin, if_neg n0, if_neg n1, if_neg n2, if_neg n3, if_neg n4, if_neg n5, if_neg n6, if_neg n7]
    · rw [if_neg hin]
      unfold xX2_ofWalker
      rcases in07 hin with q | q | q | q | q | q | q | q
      · subst q
        rw [if_pos rfl]
        exact w0.symm
      · subst q
        rw [if_neg (by decide), if_pos rfl]
        exact w1.symm
      · subst q
        rw [if_neg (by decide), if_neg (by decide), if_pos rfl]
        refine Eq.trans ?_ w2.symm
        by_cases hx : R 7 b = -100009
        · rw [if_pos ((isAb0 h hlt).mpr hx), if_pos hx]
        · rw [if_neg (fun q => hx ((isAb0 h hlt).mp q)), if_neg hx]
      · subst q
        rw [if_neg (by decide), if_neg (by decide), if_neg (by decide), if_pos rfl]
        exact w3.symm
      · subst q
        rw [if_neg (by decide), if_neg (by decide), if_neg (by decide), if_neg (by decide), if_pos rfl]
        exact b4.symm
      · subst q
        rw [if_neg (by decide), if_neg (by decide), if_neg (by decide), if_neg (by decide), if_neg (by decide), if_pos rfl]
        exact b5.symm
      · subst q
        rw [if_neg (by decide), if_neg (by decide), if_neg (by decide), if_neg (by decide), if_neg (by decide), if_neg (by decide), if_pos rfl]
        exact b6.symm
      · subst q
        rw [if_neg (by decide), if_neg (by decide), if_neg (by decide), if_neg (by decide), if_neg (by decide), if_neg (by decide), if_neg (by decide), if_pos rfl]
        exact b7.symm
/-- estimates of who is aboard -/
theorem est_eq (h : NOW n R F s kw mi) {p : Int32} (hw : ¬ xX2_isWalker s p = 0) (ha : ¬ xX2_isAboard s p.toNatClampNeg = 0) : (xX1_estimateFor R F p).1 = xX2_estimateOf s p.toNatClampNeg kw ∧ kp3 (xX1_estimateFor R F p).2 R := by
  obtain ⟨e, hlt⟩ := isW_of h hw
  obtain ⟨w0, -, w1, w2, w3, w4, w5, w6, -⟩ := h.2.2.1 _ hlt
  have hp : ¬ R 7 p.toNatClampNeg = -100009 := fun q => ha ((isAb0 h hlt).mpr q)
  obtain ⟨b, hb, eb⟩ := w6 (fun q => hp (w4.mpr q))
  rw [estimateFor_eq (by rw [isAb h hw]; exact ha) eb hb, estimateOf_eq (now_gR h) hlt hp hb eb]
  dsimp only
  exact ⟨rfl, fun i h15 h16 _ => by rw [expectAll_ne h16, weighAll_ne h15]⟩
theorem op_estimate (h : NOW n R F s kw mi) (p : Int32) : (xX1_estimate R F p).1 = xX2_estimate s p kw ∧ kp3 (xX1_estimate R F p).2 R := by
  unfold xX1_estimate xX2_estimate
  rw [isW h]
  by_cases hw : xX2_isWalker s p = 0
  · rw [if_pos hw, if_pos hw]
    exact ⟨rfl, fun i _ _ _ => rfl⟩
  · rw [if_neg hw, if_neg hw, isAb h hw]
    by_cases ha : xX2_isAboard s p.toNatClampNeg = 0
    · rw [if_pos ha, if_pos ha]
      exact ⟨rfl, fun i _ _ _ => rfl⟩
    · rw [if_neg ha, if_neg ha]
      exact est_eq h hw ha
theorem ear_eq (h : NOW n R F s kw mi) {b : Nat} (hb : b < 24) : xX1_earliestTare R F (nI b) = xX2_earliest s (nI b) := earliest_eq hb h.1.2.1 h.1.2.2.2.2.1 (now_ear h)
theorem ear_nat (h : NOW n R F s kw mi) {b : Nat} (hb : b < 24) : ∃ m, m ≤ mi ∧ xX2_earliest s (nI b) = nI m := by
  rw [← ear_eq h hb]
  unfold xX1_earliestTare
  obtain ⟨-, -, a3⟩ := earF_loop (R := R) (F := F) (b := b) 5 0 (F 1 0)
  rcases a3 with a3 | ⟨y, hy, a3⟩
  · exact ⟨mi, Nat.le_refl _, a3.trans h.1.2.2.2.2.1⟩
  · rw [nb_five b hb] at hy
    obtain ⟨-, -, -, -, -, m, b1, b2, -⟩ := h.2.1 y (near_lt hb hy)
    exact ⟨m, b1, a3.trans b2⟩
theorem cert_eq (h : NOW n R F s kw mi) {p : Int32} (hw : ¬ xX2_isWalker s p = 0) (ha : ¬ xX2_isAboard s p.toNatClampNeg = 0) : xX1_certaintyFor R F p = xX2_certaintyIn s p.toNatClampNeg 0 := by
  obtain ⟨e, hlt⟩ := isW_of h hw
  obtain ⟨w0, -, w1, w2, w3, w4, w5, w6, -⟩ := h.2.2.1 _ hlt
  obtain ⟨b4, -⟩ := h.2.2.2.1 _ hlt
  have hp : ¬ R 7 p.toNatClampNeg = -100009 := fun q => ha ((isAb0 h hlt).mpr q)
  obtain ⟨b, hb, eb⟩ := w6 (fun q => hp (w4.mpr q))
  unfold xX1_certaintyFor xX2_certaintyIn xX2_ofWalker
  rw [if_neg (by rw [isAb h hw]; exact ha), w3, b4, eb, ear_eq h hb, h.1.2.2.2.2.1, h.1.2.2.2.2.2.1, max0]
  have ev : (100 : Int32) - (5 * (nI mi - xX2_earliest s (nI b)) + 10 * R 10 p.toNatClampNeg) = 100 - 5 * (nI mi + 0 - xX2_earliest s (nI b)) - 10 * R 10 p.toNatClampNeg := by grind
  rw [ev]
theorem op_certainty (h : NOW n R F s kw mi) (p : Int32) : xX1_certainty R F p = xX2_certainty s p := by
  unfold xX1_certainty xX2_certainty
  rw [isW h]
  by_cases hw : xX2_isWalker s p = 0
  · rw [if_pos hw, if_pos hw]
  · rw [if_neg hw, if_neg hw, isAb h hw]
    by_cases ha : xX2_isAboard s p.toNatClampNeg = 0
    · rw [if_pos ha, if_pos ha]
    · rw [if_neg ha, if_neg ha]
      exact cert_eq h hw ha
/-- the certainty after k more minutes, as a number -/
theorem cert_num (h : NOW n R F s kw mi) (hn : n ≤ 512) {w : Nat} (hw : w < kw) (ha : ¬ xX2_isAboard s w = 0) : ∃ V : Int, V ≤ 100 ∧ -20000 ≤ V ∧ ∀ k : Nat, k ≤ 20 → (xX2_certaintyIn s w (nI k)).toInt = if 0 ≤ V - 5 * (k : Int) then V - 5 * (k : Int) else 0 := by
  obtain ⟨w0, -, w1, w2, w3, w4, w5, w6, -⟩ := h.2.2.1 _ hw
  obtain ⟨b4, ⟨ac, hac, eac⟩, -⟩ := h.2.2.2.1 _ hw
  have hp : ¬ R 7 w = -100009 := fun q => ha ((isAb0 h hw).mpr q)
  obtain ⟨b, hb, eb⟩ := w6 (fun q => hp (w4.mpr q))
  obtain ⟨me, hme, eme⟩ := ear_nat h hb
  have hmi := h.1.2.1
  refine ⟨100 - 5 * ((mi : Int) - me) - 10 * (ac : Int), by omega, by omega, fun k hk => ?_⟩
  unfold xX2_certaintyIn xX2_ofWalker
  rw [w3, b4, eb, eme, eac, h.1.2.2.2.2.2.1]
  have i5 : (5 : Int32).toInt = 5 := rfl
  have i10 : (10 : Int32).toInt = 10 := rfl
  have i100 : (100 : Int32).toInt = 100 := rfl
  have t1 : (nI mi + nI k).toInt = (mi : Int) + k := by rw [nI_add, nI_toInt (by omega)]; omega
  have t2 : (nI mi + nI k - nI me).toInt = (mi : Int) + k - me := by rw [ti_sub (by rw [t1, nI_toInt (by omega)]; omega) (by rw [t1, nI_toInt (by omega)]; omega), t1, nI_toInt (by omega)]
  have t3 : (5 * (nI mi + nI k - nI me)).toInt = 5 * ((mi : Int) + k - me) := by rw [ti_mul (by rw [t2, i5]; omega) (by rw [t2, i5]; omega), t2, i5]
  have t4 : (10 * nI ac).toInt = 10 * (ac : Int) := by rw [ti_mul (by rw [nI_toInt (by omega), i10]; omega) (by rw [nI_toInt (by omega), i10]; omega), nI_toInt (by omega), i10]
  have t5 : (100 - 5 * (nI mi + nI k - nI me)).toInt = 100 - 5 * ((mi : Int) + k - me) := by rw [ti_sub (by rw [t3, i100]; omega) (by rw [t3, i100]; omega), t3, i100]
  have t6 : (100 - 5 * (nI mi + nI k - nI me) - 10 * nI ac).toInt = 100 - 5 * ((mi : Int) - me) - 10 * (ac : Int) - 5 * (k : Int) := by rw [ti_sub (by rw [t5, t4]; omega) (by rw [t5, t4]; omega), t5, t4]; omega
  by_cases h0 : 0 ≤ 100 - 5 * (nI mi + nI k - nI me) - 10 * nI ac
  · rw [if_pos h0, t6]
    rw [Int32.le_iff_toInt_le, i_0, t6] at h0
    rw [if_pos h0]
  · rw [if_neg h0, i_0]
    rw [Int32.le_iff_toInt_le, i_0, t6] at h0
    rw [if_neg h0]
theorem unt_loop {p r : Int32} {T : Nat} (hT : T ≤ 20) (hlt : ∀ k : Nat, k < T → ¬ xX2_certaintyIn s p.toNatClampNeg (nI k) < r) (hat : xX2_certaintyIn s p.toNatClampNeg (nI T) < r) : ∀ (m k : Nat), k + m = 20 → k ≤ T → hX2_until_34 s p r m k = nI T := by
  intro m
  induction m with
  | zero => intro k h1 h2; have : k = T := by omega
            subst this; rfl
  | succ m ih =>
    intro k h1 h2
    rw [hX2_until_34_s]
    by_cases hk : k = T
    · subst hk
      rw [if_pos hat]
    · rw [if_neg (hlt k (by omega))]
      exact ih (k + 1) (by omega) (by omega)
theorem i_1 : (1 : Int32).toInt = 1 := rfl
theorem i_100 : (100 : Int32).toInt = 100 := rfl
theorem i_5 : (5 : Int32).toInt = 5 := rfl
theorem op_until (h : NOW n R F s kw mi) (hn : n ≤ 512) (p r : Int32) : xX1_until R F p r = xX2_until s p r ∧ (¬ xX2_isWalker s p = 0 → ¬ xX2_in r 1 100 = 0 → ¬ xX2_isAboard s p.toNatClampNeg = 0 → xX2_certaintyIn s p.toNatClampNeg (nI 20) < r) := by
  have key : ¬ xX2_isWalker s p = 0 → ¬ xX2_in r 1 100 = 0 → ¬ xX2_isAboard s p.toNatClampNeg = 0 → xX2_certaintyIn s p.toNatClampNeg (nI 20) < r := by
    intro hw hr ha
    obtain ⟨e, hlt⟩ := isW_of h hw
    obtain ⟨V, hV, -, hc⟩ := cert_num h hn hlt ha
    obtain ⟨r1, r2⟩ := in_i hr
    rw [i_1] at r1
    rw [Int32.lt_iff_toInt_lt, hc 20 (Nat.le_refl _)]
    split <;> omega
  refine ⟨?_, key⟩
  unfold xX1_until xX2_until
  rw [isW h, isIn]
  by_cases hw : xX2_isWalker s p = 0
  · rw [if_pos hw, if_pos hw]
  rw [if_neg hw, if_neg hw]
  by_cases hr : xX2_in r 1 100 = 0
  · rw [if_pos hr, if_pos hr]
  rw [if_neg hr, if_neg hr, isAb h hw]
  by_cases ha : xX2_isAboard s p.toNatClampNeg = 0
  · rw [if_pos ha, if_pos ha]
  rw [if_neg ha, if_neg ha, cert_eq h hw ha]
  obtain ⟨e, hlt⟩ := isW_of h hw
  obtain ⟨V, hV, hV2, hc⟩ := cert_num h hn hlt ha
  obtain ⟨r1, r2⟩ := in_i hr
  rw [i_1] at r1
  rw [i_100] at r2
  have c0 := hc 0 (by decide)
  rw [nI_0] at c0
  generalize hc0 : xX2_certaintyIn s p.toNatClampNeg 0 = c at c0 ⊢
  have td : (c - r).toInt = c.toInt - r.toInt := ti_sub (by rw [c0]; split <;> omega) (by rw [c0]; split <;> omega)
  by_cases hlt0 : 0 ≤ c - r
  · rw [if_pos hlt0]
    rw [Int32.le_iff_toInt_le, i_0, td] at hlt0
    have hVc : c.toInt = V := by
      rw [c0] at hlt0 ⊢
      split at hlt0 <;> split <;> omega
    have hT : ∃ T : Nat, (T : Int) = (V - r.toInt) / 5 + 1 := ⟨((V - r.toInt) / 5 + 1).toNat, by omega⟩
    obtain ⟨T, hT⟩ := hT
    rw [unt_loop (T := T) (by omega) (fun k hk => by
      rw [Int32.lt_iff_toInt_lt, hc k (by omega)]
      split <;> omega) (by
      rw [Int32.lt_iff_toInt_lt, hc T (by omega)]
      split <;> omega) 20 0 (by omega) (Nat.zero_le _)]
    refine Int32.toInt_inj.mp ?_
    have tq : ((c - r) / 5).toInt = (c.toInt - r.toInt) / 5 := by rw [ti_div (by rw [td]; omega) (by rw [i_5]; decide), td, i_5]
    rw [ti_add (by rw [tq, i_1]; omega) (by rw [tq, i_1]; omega), tq, i_1, nI_toInt (by omega)]
    omega
  · rw [if_neg hlt0]
    rw [Int32.le_iff_toInt_le, i_0, td] at hlt0
    rw [unt_loop (T := 0) (by omega) (fun k hk => by omega) (by
      rw [nI_0, hc0, Int32.lt_iff_toInt_lt]
      omega) 20 0 (by omega) (Nat.zero_le _), nI_0]
/-- the best cell -/
theorem best_loop (h : NOW n R F s kw mi) : ∀ (m k : Nat) (x y y' : Int32), k + m = 24 → (x = -100009 ∧ y' = -1) ∨ (¬ x = -100009 ∧ y = y') → hX1_bestCell_8 R F m k x y = hX2_bestCell_7 s kw m k x y' := by
  intro m
  induction m with
  | zero => intro k x y y' _ _; rfl
  | succ m ih =>
    intro k x y y' hk hxy
    have hk24 : k < 24 := by omega
    rw [hX1_bestCell_8_s, hX2_bestCell_7_s, whoAT h (nI_nn (by omega)), ear_eq h hk24]
    obtain ⟨me, hme, eme⟩ := ear_nat h hk24
    have hmi := h.1.2.1
    have hnk : ¬ nI k = -100009 := nI_nn (by omega)
    have h10 : ¬ (1 : Int32) = 0 := by decide
    by_cases hon : xX2_on s (nI k) 1 kw = -100009
    · rw [if_pos hon, if_pos hon]
      rcases hxy with ⟨hx, hy⟩ | ⟨hx, hy⟩
      · rw [if_pos hx, if_neg (fun q => by
          rw [hy, eme, Int32.le_iff_toInt_le, nI_toInt (by omega)] at q
          have : (-1 : Int32).toInt = -1 := rfl
          omega), if_neg h10, if_neg h10]
        exact ih _ _ _ _ (by omega) (Or.inr ⟨hnk, rfl⟩)
      · subst hy
        rw [if_neg hx]
        by_cases hle : xX2_earliest s (nI k) ≤ y
        · rw [if_pos hle, if_pos hle, if_pos rfl, if_pos rfl]
          exact ih _ _ _ _ (by omega) (Or.inr ⟨hx, rfl⟩)
        · rw [if_neg hle, if_neg hle, if_neg h10, if_neg h10]
          exact ih _ _ _ _ (by omega) (Or.inr ⟨hnk, rfl⟩)
    · rw [if_neg hon, if_neg hon, if_pos rfl, if_pos rfl]
      exact ih _ _ _ _ (by omega) hxy
theorem op_bestCell (h : NOW n R F s kw mi) : xX1_bestCell R F = xX2_bestCell s kw := best_loop h 24 0 _ _ _ (by omega) (Or.inl ⟨rfl, rfl⟩)
end
