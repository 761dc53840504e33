/-! PURE: swap and accuse -/
theorem prm_sym {p b : Nat → Int32} (h : prm p b) : prm b p := ⟨h.2.1, h.1, h.2.2.2, h.2.2.1⟩
def tau (i j x : Nat) : Nat := if x = i then j else if x = j then i else x
theorem tau_inj {i j x y : Nat} (h : tau i j x = tau i j y) : x = y := by
  unfold tau at h
  repeat' split at h
  all_goals omega
theorem tau_tau {i j x : Nat} : tau i j (tau i j x) = x := by
  unfold tau
  repeat' split
  all_goals omega
theorem tau_lt {i j x : Nat} (hi : i < 8) (hj : j < 8) (hx : x < 8) : tau i j x < 8 := by
  unfold tau
  repeat' split
  all_goals omega
theorem prm_swap {p b p' : Nat → Int32} {i j : Nat} (h : prm p b) (hi : i < 8) (hj : j < 8) (hp : ∀ x, p' x = p (tau i j x)) : prm p' b := by
  obtain ⟨h1, h2, h3, h4⟩ := h
  refine ⟨fun x y hx hy hn e => ?_, h2, fun x hx hn => ?_, fun x hx hn => ?_⟩
  · rw [hp] at hn
    rw [hp, hp] at e
    exact tau_inj (h1 _ _ (tau_lt hi hj hx) (tau_lt hi hj hy) hn e)
  · rw [hp] at hn ⊢
    exact h3 _ (tau_lt hi hj hx) hn
  · obtain ⟨y, hy, e⟩ := h4 x hx hn
    exact ⟨tau i j y, tau_lt hi hj hy, by rw [hp, tau_tau]; exact e⟩
theorem exch_at {R F : Nat → Nat → Int32} {i : Nat} {p1 p2 : Int32} (hne : p1.toNatClampNeg ≠ p2.toNatClampNeg) (x : Nat) : xX1_exchange R F i p1 p2 i x = R i (tau p1.toNatClampNeg p2.toNatClampNeg x) := by
  unfold xX1_exchange tau
  by_cases h2 : x = p2.toNatClampNeg
  · rw [h2, sR_same, if_neg (Ne.symm hne), if_pos rfl]
  · rw [sR_same_ne h2, if_neg h2]
    by_cases h1 : x = p1.toNatClampNeg
    · rw [h1, sR_same, if_pos rfl]
    · rw [sR_same_ne h1, if_neg h1]
theorem exc1_ne {R F : Nat → Nat → Int32} {i y : Nat} {p1 p2 : Int32} (hy : y ≠ i) : xX1_exchange R F i p1 p2 y = R y := by
  unfold xX1_exchange
  rw [sR_ne hy, sR_ne hy]
theorem exc2_at {R F : Nat → Nat → Int32} {i j a : Nat} (hne : i ≠ j) (ha : a < 10) (x : Nat) : xX2_exchanges R F i j a 84 (102 + 10 * x + a) = R 84 (102 + 10 * (tau i j x) + a) := by
  unfold xX2_exchanges xX2_puts xX2_ofWalker tau
  by_cases h2 : x = j
  · rw [h2, sR_same, if_neg (Ne.symm hne), if_pos rfl]
  · rw [sR_same_ne (by omega), if_neg h2]
    by_cases h1 : x = i
    · rw [h1, sR_same, if_pos rfl]
    · rw [sR_same_ne (by omega), if_neg h1]
theorem exc2_ne {R F : Nat → Nat → Int32} {i j a x : Nat} (h1 : x ≠ 102 + 10 * i + a) (h2 : x ≠ 102 + 10 * j + a) : xX2_exchanges R F i j a 84 x = R 84 x := by
  unfold xX2_exchanges xX2_puts
  rw [sR_same_ne h2, sR_same_ne h1]
theorem exc2_row {R F : Nat → Nat → Int32} {i j a y : Nat} (h : y ≠ 84) : xX2_exchanges R F i j a y = R y := by
  unfold xX2_exchanges xX2_puts
  rw [sR_ne h, sR_ne h]
section
variable {n : Nat} {R F : Nat → Nat → Int32} {o q kw mi : Nat}
/-- why two may not be exchanged, and when they may -/
theorem two_of (h : NOW n R F (R 84) kw mi) (p1 p2 : Int32) : (xX1_isPair R F p1 p2 = 0 ∧ xX2_whyNotTwo (R 84) p1 p2 = -100001) ∨ (¬ xX1_isPair R F p1 p2 = 0 ∧ xX1_isAboard R F p1 = 0 ∧ xX2_whyNotTwo (R 84) p1 p2 = -100002) ∨ (¬ xX1_isPair R F p1 p2 = 0 ∧ ¬ xX1_isAboard R F p1 = 0 ∧ xX1_isAboard R F p2 = 0 ∧ xX2_whyNotTwo (R 84) p1 p2 = -100002) ∨
    (¬ xX1_isPair R F p1 p2 = 0 ∧ ¬ xX1_isAboard R F p1 = 0 ∧ ¬ xX1_isAboard R F p2 = 0 ∧ xX2_whyNotTwo (R 84) p1 p2 = 0 ∧ p1.toNatClampNeg < kw ∧ p2.toNatClampNeg < kw ∧ p1.toNatClampNeg ≠ p2.toNatClampNeg ∧ ¬ R 7 p1.toNatClampNeg = -100009 ∧ ¬ R 7 p2.toNatClampNeg = -100009) := by
  unfold xX1_isPair xX2_whyNotTwo
  rw [isW h, isW h]
  by_cases h1 : xX2_isWalker (R 84) p1 = 0
  · rw [if_pos h1, if_pos h1]
    exact Or.inl ⟨rfl, rfl⟩
  rw [if_neg h1, if_neg h1]
  by_cases h2 : xX2_isWalker (R 84) p2 = 0
  · rw [if_pos h2, if_pos h2]
    exact Or.inl ⟨rfl, rfl⟩
  rw [if_neg h2, if_neg h2]
  by_cases h3 : p1 = p2
  · rw [if_pos h3, if_pos h3]
    exact Or.inl ⟨rfl, rfl⟩
  rw [if_neg h3, if_neg h3, isAb h h1, isAb h h2]
  by_cases h4 : xX2_isAboard (R 84) p1.toNatClampNeg = 0
  · rw [if_pos h4]
    exact Or.inr (Or.inl ⟨by decide, h4, rfl⟩)
  rw [if_neg h4]
  by_cases h5 : xX2_isAboard (R 84) p2.toNatClampNeg = 0
  · rw [if_pos h5]
    exact Or.inr (Or.inr (Or.inl ⟨by decide, h4, h5, rfl⟩))
  rw [if_neg h5]
  obtain ⟨e1, k1⟩ := isW_of h h1
  obtain ⟨e2, k2⟩ := isW_of h h2
  exact Or.inr (Or.inr (Or.inr ⟨by decide, h4, h5, rfl, k1, k2, fun e => h3 (by rw [e1, e2, e]), fun e => h4 ((isAb0 h k1).mpr e), fun e => h5 ((isAb0 h k2).mpr e)⟩))
theorem act_swap (hh : HI n R F o q) (hr : NOW n R F (R 84) kw mi) (p1 p2 : Int32) : ACT n R F (xX1_swap R F p1 p2 o q) (fun R1 F1 => xX2_swap R1 F1 p1 p2 kw q) := by
  obtain ⟨hC, hG, hG8⟩ := remF hh
  obtain ⟨n1, n2, n3, n4, n5, n6, n7⟩ := hr.1
  unfold xX1_swap
  rcases two_of hr p1 p2 with ⟨c1, c2⟩ | ⟨c1, c2, c3⟩ | ⟨c1, c2, c3, c4⟩ | ⟨c1, c2, c3, c4, k1, k2, hne, hp1, hp2⟩
  · rw [if_pos c1]
    exact ACT_mk (by show xX2_swap _ _ p1 p2 kw q = _; unfold xX2_swap; rw [c2, if_neg (by decide)]) rfl rfl rfl (INV_mk hh hr)
  · rw [if_neg c1, if_pos c2]
    exact ACT_mk (by show xX2_swap _ _ p1 p2 kw q = _; unfold xX2_swap; rw [c3, if_neg (by decide)]) rfl rfl rfl (INV_mk hh hr)
  · rw [if_neg c1, if_neg c2, if_pos c3]
    exact ACT_mk (by show xX2_swap _ _ p1 p2 kw q = _; unfold xX2_swap; rw [c4, if_neg (by decide)]) rfl rfl rfl (INV_mk hh hr)
  rw [if_neg c1, if_neg c2, if_neg c3]
  have hX7 := exch_at (R := (xX1_remember R F o q).1) (F := (xX1_remember R F o q).2) (i := 7) hne
  rw [hC 7 (by decide)] at hX7
  have hXn : ∀ y, y ≠ 7 → xX1_exchange (xX1_remember R F o q).1 (xX1_remember R F o q).2 7 p1 p2 y = (xX1_remember R F o q).1 y := fun y hy => exc1_ne hy
  generalize xX1_exchange (xX1_remember R F o q).1 (xX1_remember R F o q).2 7 p1 p2 = X at hX7 hXn
  have hv : (xX1_errorWith X (xX1_remember R F o q).2 9).1 = ERR (X 2) (X 6) (X 7) (X 4) (X 8) (X 9) := by rw [errorWith_eq (by decide) (by decide)]
  have hRn : ∀ y, y ≠ 15 → y ≠ 16 → (xX1_errorWith X (xX1_remember R F o q).2 9).2 y = X y := fun y h1 h2 => errorWith_ne (by decide) (by decide) h1 h2
  generalize (xX1_errorWith X (xX1_remember R F o q).2 9).2 = R1 at hRn ⊢
  rw [hv]
  have e84 : R1 84 = R 84 := by rw [hRn 84 (by decide) (by decide), hXn 84 (by decide), hC 84 (by decide)]
  have hA : (xX2_acts R1 (xX1_remember R F o q).2 q).1 84 = R 84 := by rw [acts_ne (by decide), e84]
  have hro : ∀ y, y ≠ 7 → y < 15 → R1 y = R y := fun y h1 h3 => by rw [hRn y (by omega) (by omega), hXn y h1, hC y (by omega)]
  have r7 : ∀ x, R1 7 x = R 7 (tau p1.toNatClampNeg p2.toNatClampNeg x) := fun x => by rw [hRn 7 (by decide) (by decide), hX7]
  have sA : ∀ x, xX2_exchanges (xX2_acts R1 (xX1_remember R F o q).2 q).1 (xX2_acts R1 (xX1_remember R F o q).2 q).2 p1.toNatClampNeg p2.toNatClampNeg 1 84 (102 + 10 * x + 1) = R 84 (102 + 10 * (tau p1.toNatClampNeg p2.toNatClampNeg x) + 1) := fun x => by rw [exc2_at hne (by decide), hA]
  have sx : ∀ x, x ≠ 102 + 10 * p1.toNatClampNeg + 1 → x ≠ 102 + 10 * p2.toNatClampNeg + 1 → xX2_exchanges (xX2_acts R1 (xX1_remember R F o q).2 q).1 (xX2_acts R1 (xX1_remember R F o q).2 q).2 p1.toNatClampNeg p2.toNatClampNeg 1 84 x = R 84 x := fun x h1 h2 => by rw [exc2_ne h1 h2, hA]
  have hN : NOW n R1 (xX1_remember R F o q).2 (xX2_exchanges (xX2_acts R1 (xX1_remember R F o q).2 q).1 (xX2_acts R1 (xX1_remember R F o q).2 q).2 p1.toNatClampNeg p2.toNatClampNeg 1 84) kw mi := by
    generalize xX2_exchanges (xX2_acts R1 (xX1_remember R F o q).2 q).1 (xX2_acts R1 (xX1_remember R F o q).2 q).2 p1.toNatClampNeg p2.toNatClampNeg 1 84 = s' at sA sx
    refine NOW_walk hr (fun j h1 h2 => hro j (by omega) (by omega)) (rNum_s hr.1 hG (sx 0 (by omega) (by omega)) (sx 1 (by omega) (by omega)) (sx 2 (by omega) (by omega))) (fun x h1 h2 => sx x (by omega) (by omega)) (fun k hk => ?_) (fun k hk => ?_) (fun k h1 h2 => ?_) ?_ ?_
    · obtain ⟨b0, bw, b1, b2, b3, b4, b5, b6, b7⟩ := hr.2.2.1 k hk
      have htk : tau p1.toNatClampNeg p2.toNatClampNeg k < kw := by
        unfold tau
        split
        · exact k2
        · split
          · exact k1
          · exact hk
      obtain ⟨-, -, d1, -, -, -, d5, -, -⟩ := hr.2.2.1 _ htk
      have q1 : R1 7 k = -100009 ↔ R 7 k = -100009 := by
        rw [r7]
        unfold tau
        by_cases x1 : k = p1.toNatClampNeg
        · rw [if_pos x1, x1]
          exact ⟨fun q => absurd q hp2, fun q => absurd q hp1⟩
        · rw [if_neg x1]
          by_cases x2 : k = p2.toNatClampNeg
          · rw [if_pos x2, x2]
            exact ⟨fun q => absurd q hp1, fun q => absurd q hp2⟩
          · rw [if_neg x2]
      refine ⟨by rw [sx _ (by omega) (by omega), hro 6 (by decide) (by decide)]; exact b0, by rw [hro 6 (by decide) (by decide)]; exact bw, by rw [sA, r7]; exact d1, ?_, by rw [sx _ (by omega) (by omega), hro 9 (by decide) (by decide)]; exact b3, ?_, by rw [r7]; exact d5, by rw [hro 9 (by decide) (by decide)]; exact b6, by rw [hro 8 (by decide) (by decide)]; exact b7⟩
      · rw [sx _ (by omega) (by omega), hro 8 (by decide) (by decide), b2]
        by_cases hx : R 7 k = -100009
        · rw [if_pos hx, if_pos (q1.mpr hx)]
        · rw [if_neg hx, if_neg (fun q => hx (q1.mp q))]
      · rw [q1, hro 9 (by decide) (by decide)]
        exact b4
    · rw [hro 10 (by decide) (by decide), hro 11 (by decide) (by decide), hro 12 (by decide) (by decide), hro 13 (by decide) (by decide)]
      exact bil1_s (Nat.le_refl _) (hr.2.2.2.1 k hk) rfl rfl rfl rfl (fun j h1 h2 => sx _ (by omega) (by omega))
    · rw [hro 10 (by decide) (by decide), hro 11 (by decide) (by decide), hro 13 (by decide) (by decide), hro 9 (by decide) (by decide)]
      unfold wOut
      rw [r7 k, show tau p1.toNatClampNeg p2.toNatClampNeg k = k by unfold tau; rw [if_neg (by omega), if_neg (by omega)]]
      exact hr.2.2.2.2.1 k h1 h2
    · rw [hro 9 (by decide) (by decide)]
      exact prm_swap hr.2.2.2.2.2.1 (by omega) (by omega) r7
    · rw [hro 11 (by decide) (by decide), hro 12 (by decide) (by decide), hro 13 (by decide) (by decide)]
      unfold tots
      rw [sx 3 (by omega) (by omega), sx 4 (by omega) (by omega), sx 5 (by omega) (by omega)]
      exact hr.2.2.2.2.2.2
  refine ACT_mk (by show xX2_swap _ _ p1 p2 kw q = _; unfold xX2_swap; rw [e84, if_pos c4]) e84 hG8 ?_ (INV_act hh hr (Nat.le_refl _) (fun i h1 h2 => by rw [hRn i (by omega) (by omega), hXn i (by omega)]) e84 (by rw [hRn 85 (by decide) (by decide), hXn 85 (by decide), hC 85 (by decide)]) (fun y hy => rfl) (fun i hi => exc2_row hi) rfl hN)
  rw [error_eq (now_gR hN), hRn 2 (by decide) (by decide), hRn 4 (by decide) (by decide), hRn 6 (by decide) (by decide), hRn 7 (by decide) (by decide), hRn 8 (by decide) (by decide), hRn 9 (by decide) (by decide)]
theorem act_accuse (hh : HI n R F o q) (hr : NOW n R F (R 84) kw mi) (p1 p2 : Int32) : ACT (n + 1) R F (xX1_accuse R F p1 p2 o q) (fun R1 F1 => xX2_accuse R1 F1 p1 p2 kw q) := by
  obtain ⟨hC, hG, hG8⟩ := remF hh
  obtain ⟨n1, n2, n3, n4, n5, n6, n7⟩ := hr.1
  have hI1 : INV (n + 1) R F := INV_mono (by omega) (INV_mk hh hr)
  unfold xX1_accuse
  rcases two_of hr p1 p2 with ⟨c1, c2⟩ | ⟨c1, c2, c3⟩ | ⟨c1, c2, c3, c4⟩ | ⟨c1, c2, c3, c4, k1, k2, hne, hp1, hp2⟩
  · rw [if_pos c1]
    exact ACT_mk (by show xX2_accuse _ _ p1 p2 kw q = _; unfold xX2_accuse; rw [c2, if_neg (by decide)]) rfl rfl rfl hI1
  · rw [if_neg c1, if_pos c2]
    exact ACT_mk (by show xX2_accuse _ _ p1 p2 kw q = _; unfold xX2_accuse; rw [c3, if_neg (by decide)]) rfl rfl rfl hI1
  · rw [if_neg c1, if_neg c2, if_pos c3]
    exact ACT_mk (by show xX2_accuse _ _ p1 p2 kw q = _; unfold xX2_accuse; rw [c4, if_neg (by decide)]) rfl rfl rfl hI1
  rw [if_neg c1, if_neg c2, if_neg c3]
  have hE9 := exch_at (R := (xX1_remember R F o q).1) (F := (xX1_remember R F o q).2) (i := 9) hne
  rw [hC 9 (by decide)] at hE9
  have hEn : ∀ y, y ≠ 9 → xX1_exchange (xX1_remember R F o q).1 (xX1_remember R F o q).2 9 p1 p2 y = (xX1_remember R F o q).1 y := fun y hy => exc1_ne hy
  generalize xX1_exchange (xX1_remember R F o q).1 (xX1_remember R F o q).2 9 p1 p2 = E at hE9 hEn ⊢
  generalize hX : sR (sR E 10 ((p1).toNatClampNeg) ((E 10 (p1).toNatClampNeg) + (1 : Int32))) 10 ((p2).toNatClampNeg) (((sR E 10 ((p1).toNatClampNeg) ((E 10 (p1).toNatClampNeg) + (1 : Int32))) 10 (p2).toNatClampNeg) + (1 : Int32)) = X
  have hXn : ∀ y, y ≠ 9 → y ≠ 10 → X y = (xX1_remember R F o q).1 y := fun y h1 h2 => by rw [← hX, sR_ne h2, sR_ne h2, hEn y h1]
  have hX9 : ∀ x, X 9 x = R 9 (tau p1.toNatClampNeg p2.toNatClampNeg x) := fun x => by rw [← hX, sR_ne (by decide), sR_ne (by decide), hE9]
  have hXa : ∀ k, k = p1.toNatClampNeg ∨ k = p2.toNatClampNeg → X 10 k = R 10 k + 1 := fun k hk => by
    rcases hk with rfl | rfl
    · rw [← hX, sR_same_ne hne, sR_same, hEn 10 (by decide), hC 10 (by decide)]
    · rw [← hX, sR_same, sR_same_ne (Ne.symm hne), hEn 10 (by decide), hC 10 (by decide)]
  have hXb : ∀ k, k ≠ p1.toNatClampNeg → k ≠ p2.toNatClampNeg → X 10 k = R 10 k := fun k h1 h2 => by rw [← hX, sR_same_ne h2, sR_same_ne h1, hEn 10 (by decide), hC 10 (by decide)]
  clear hX
  have hv : (xX1_errorWith X (xX1_remember R F o q).2 9).1 = ERR (X 2) (X 6) (X 7) (X 4) (X 8) (X 9) := by rw [errorWith_eq (by decide) (by decide)]
  have hRn : ∀ y, y ≠ 15 → y ≠ 16 → (xX1_errorWith X (xX1_remember R F o q).2 9).2 y = X y := fun y h1 h2 => errorWith_ne (by decide) (by decide) h1 h2
  generalize (xX1_errorWith X (xX1_remember R F o q).2 9).2 = R1 at hRn ⊢
  rw [hv]
  have e84 : R1 84 = R 84 := by rw [hRn 84 (by decide) (by decide), hXn 84 (by decide) (by decide), hC 84 (by decide)]
  have hA : (xX2_acts R1 (xX1_remember R F o q).2 q).1 84 = R 84 := by rw [acts_ne (by decide), e84]
  have hro : ∀ y, y ≠ 9 → y ≠ 10 → y < 15 → R1 y = R y := fun y h1 h2 h3 => by rw [hRn y (by omega) (by omega), hXn y h1 h2, hC y (by omega)]
  have r9 : ∀ x, R1 9 x = R 9 (tau p1.toNatClampNeg p2.toNatClampNeg x) := fun x => by rw [hRn 9 (by decide) (by decide), hX9]
  have ra : ∀ k, k = p1.toNatClampNeg ∨ k = p2.toNatClampNeg → R1 10 k = R 10 k + 1 := fun k hk => by rw [hRn 10 (by decide) (by decide), hXa k hk]
  have rb : ∀ k, k ≠ p1.toNatClampNeg → k ≠ p2.toNatClampNeg → R1 10 k = R 10 k := fun k h1 h2 => by rw [hRn 10 (by decide) (by decide), hXb k h1 h2]
  have hfn : ∃ S : Nat → Nat → Int32, xX2_accuse R1 (xX1_remember R F o q).2 p1 p2 kw q = (xX2_error (S 84) kw, S, (xX2_acts R1 (xX1_remember R F o q).2 q).2) ∧ (∀ y, y ≠ 84 → S y = (xX2_acts R1 (xX1_remember R F o q).2 q).1 y) ∧ (∀ x, S 84 (102 + 10 * x + 3) = R 84 (102 + 10 * (tau p1.toNatClampNeg p2.toNatClampNeg x) + 3)) ∧ (∀ k, k = p1.toNatClampNeg ∨ k = p2.toNatClampNeg → S 84 (102 + 10 * k + 4) = R 84 (102 + 10 * k + 4) + 1) ∧
      (∀ x, x ≠ 102 + 10 * p1.toNatClampNeg + 3 → x ≠ 102 + 10 * p2.toNatClampNeg + 3 → x ≠ 102 + 10 * p1.toNatClampNeg + 4 → x ≠ 102 + 10 * p2.toNatClampNeg + 4 → S 84 x = R 84 x) := by
    refine ⟨_, by unfold xX2_accuse; rw [e84, if_pos c4], fun y hy => by rw [sR_ne hy, sR_ne hy, exc2_row hy], fun x => ?_, fun k hk => ?_, fun x h1 h2 h3 h4 => ?_⟩
    · rw [sR_same_ne (by omega), sR_same_ne (by omega), exc2_at hne (by decide), hA]
    · rcases hk with rfl | rfl
      · rw [sR_same_ne (by omega), sR_same, exc2_ne (by omega) (by omega), hA]
      · rw [sR_same, sR_same_ne (by omega), exc2_ne (by omega) (by omega), hA]
    · rw [sR_same_ne h4, sR_same_ne h3, exc2_ne h1 h2, hA]
  obtain ⟨S, f1, f2, sA, sB, sx⟩ := hfn
  have hN : NOW (n + 1) R1 (xX1_remember R F o q).2 (S 84) kw mi := by
    refine NOW_walk hr (fun j h1 h2 => hro j (by omega) (by omega) (by omega)) (rNum_s hr.1 hG (sx 0 (by omega) (by omega) (by omega) (by omega)) (sx 1 (by omega) (by omega) (by omega) (by omega)) (sx 2 (by omega) (by omega) (by omega) (by omega))) (fun x h1 h2 => sx x (by omega) (by omega) (by omega) (by omega)) (fun k hk => ?_) (fun k hk => ?_) (fun k h1 h2 => ?_) ?_ ?_
    · obtain ⟨b0, bw, b1, b2, b3, b4, b5, b6, b7⟩ := hr.2.2.1 k hk
      have htk : tau p1.toNatClampNeg p2.toNatClampNeg k < kw := by
        unfold tau
        split
        · exact k2
        · split
          · exact k1
          · exact hk
      obtain ⟨-, -, -, -, d3, -, -, d6, -⟩ := hr.2.2.1 _ htk
      have q1 : R1 9 k = -100009 ↔ R 9 k = -100009 := by
        have hb1 : ¬ R 9 p1.toNatClampNeg = -100009 := fun q => hp1 ((hr.2.2.1 _ k1).2.2.2.2.2.1.mpr q)
        have hb2 : ¬ R 9 p2.toNatClampNeg = -100009 := fun q => hp2 ((hr.2.2.1 _ k2).2.2.2.2.2.1.mpr q)
        rw [r9]
        unfold tau
        by_cases x1 : k = p1.toNatClampNeg
        · rw [if_pos x1, x1]
          exact ⟨fun q => absurd q hb2, fun q => absurd q hb1⟩
        · rw [if_neg x1]
          by_cases x2 : k = p2.toNatClampNeg
          · rw [if_pos x2, x2]
            exact ⟨fun q => absurd q hb1, fun q => absurd q hb2⟩
          · rw [if_neg x2]
      refine ⟨by rw [sx _ (by omega) (by omega) (by omega) (by omega), hro 6 (by decide) (by decide) (by decide)]; exact b0, by rw [hro 6 (by decide) (by decide) (by decide)]; exact bw, by rw [sx _ (by omega) (by omega) (by omega) (by omega), hro 7 (by decide) (by decide) (by decide)]; exact b1, ?_, by rw [sA, r9]; exact d3, ?_, by rw [hro 7 (by decide) (by decide) (by decide)]; exact b5, by rw [r9]; exact d6, by rw [hro 8 (by decide) (by decide) (by decide)]; exact b7⟩
      · rw [sx _ (by omega) (by omega) (by omega) (by omega), hro 8 (by decide) (by decide) (by decide), hro 7 (by decide) (by decide) (by decide)]
        exact b2
      · rw [q1, hro 7 (by decide) (by decide) (by decide)]
        exact b4
    · rw [hro 11 (by decide) (by decide) (by decide), hro 12 (by decide) (by decide) (by decide), hro 13 (by decide) (by decide) (by decide)]
      by_cases hkk : k = p1.toNatClampNeg ∨ k = p2.toNatClampNeg
      · obtain ⟨a1, ⟨m, a2, a3⟩, a4, a5, a6, a7, a8, a9⟩ := hr.2.2.2.1 k hk
        refine ⟨by rw [sB k hkk, ra k hkk, a1], ⟨m + 1, by omega, by rw [ra k hkk, a3, nI_1]⟩, by rw [sx _ (by omega) (by omega) (by omega) (by omega)]; exact a4, by rw [sx _ (by omega) (by omega) (by omega) (by omega)]; exact a5, by rw [sx _ (by omega) (by omega) (by omega) (by omega)]; exact a6, by rw [sx _ (by omega) (by omega) (by omega) (by omega)]; exact a7, by rw [sx _ (by omega) (by omega) (by omega) (by omega)]; exact a8, a9⟩
      · exact bil1_s (by omega) (hr.2.2.2.1 k hk) (rb k (fun q => hkk (Or.inl q)) (fun q => hkk (Or.inr q))) rfl rfl rfl (fun j h1 h2 => sx _ (by omega) (by omega) (by omega) (by omega))
    · rw [hro 7 (by decide) (by decide) (by decide), hro 11 (by decide) (by decide) (by decide), hro 13 (by decide) (by decide) (by decide)]
      unfold wOut
      rw [rb k (by omega) (by omega), r9 k, show tau p1.toNatClampNeg p2.toNatClampNeg k = k by unfold tau; rw [if_neg (by omega), if_neg (by omega)]]
      exact hr.2.2.2.2.1 k h1 h2
    · rw [hro 7 (by decide) (by decide) (by decide)]
      exact prm_sym (prm_swap (prm_sym hr.2.2.2.2.2.1) (by omega) (by omega) r9)
    · rw [hro 11 (by decide) (by decide) (by decide), hro 12 (by decide) (by decide) (by decide), hro 13 (by decide) (by decide) (by decide)]
      unfold tots
      rw [sx 3 (by omega) (by omega) (by omega) (by omega), sx 4 (by omega) (by omega) (by omega) (by omega), sx 5 (by omega) (by omega) (by omega) (by omega)]
      exact hr.2.2.2.2.2.2
  refine ACT_mk f1 e84 hG8 ?_ (INV_act hh hr (Nat.le_succ _) (fun i h1 h2 => by rw [hRn i (by omega) (by omega), hXn i (by omega) (by omega)]) e84 (by rw [hRn 85 (by decide) (by decide), hXn 85 (by decide) (by decide), hC 85 (by decide)]) (fun y hy => rfl) f2 rfl hN)
  rw [error_eq (now_gR hN), hRn 2 (by decide) (by decide), hRn 4 (by decide) (by decide), hRn 6 (by decide) (by decide), hRn 7 (by decide) (by decide), hRn 8 (by decide) (by decide), hRn 9 (by decide) (by decide)]
end
