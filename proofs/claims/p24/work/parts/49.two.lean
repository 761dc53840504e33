/-! PURE: swap and accuse -/
theorem prm_sym {p b : Nat → Int32} (h : prm p b) : prm b p := ⟨h.2.1, h.1, h.2.2.2, h.2.2.1⟩
def tau (i j x : Nat) : Nat := if x = i then j else if x = j then i else x
theorem tau_inj {i j x y : Nat} (h : tau i j x = tau i j y) : x = y := by
  unfold tau at h
  repeat' split at h
  all_goals omega
theorem tau_tau {i j x : Nat} : tau i j (tau i j x) = x := by
  unfold tau
  repeat' split
  all_goals omega
theorem tau_lt {i j x : Nat} (hi : i < 8) (hj : j < 8) (hx : x < 8) : tau i j x < 8 := by
  unfold tau
  repeat' split
  all_goals omega
theorem prm_swap {p b p' : Nat → Int32} {i j : Nat} (h : prm p b) (hi : i < 8) (hj : j < 8) (hp : ∀ x, p' x = p (tau i j x)) : prm p' b := by
  obtain ⟨h1, h2, h3, h4⟩ := h
  refine ⟨fun x y hx hy hn e => ?_, h2, fun x hx hn => ?_, fun x hx hn => ?_⟩
  · rw [hp] at hn
    rw [hp, hp] at e
    exact tau_inj (h1 _ _ (tau_lt hi hj hx) (tau_lt hi hj hy) hn e)
  · rw [hp] at hn ⊢
    exact h3 _ (tau_lt hi hj hx) hn
  · obtain ⟨y, hy, e⟩ := h4 x hx hn
    exact ⟨tau i j y, tau_lt hi hj hy, by rw [hp, tau_tau]; exact e⟩
theorem exch_at {R F : Nat → Nat → Int32} {i : Nat} {p1 p2 : Int32} (hne : p1.toNatClampNeg ≠ p2.toNatClampNeg) (x : Nat) : xX1_exchange R F i p1 p2 i x = R i (tau p1.toNatClampNeg p2.toNatClampNeg x) := by
  unfold xX1_exchange tau
  by_cases h2 : x = p2.toNatClampNeg
  · rw [h2, sR_same, if_neg (Ne.symm hne), if_pos rfl]
  · rw [sR_same_ne h2, if_neg h2]
    by_cases h1 : x = p1.toNatClampNeg
    · rw [h1, sR_same, if_pos rfl]
    · rw [sR_same_ne h1, if_neg h1]
theorem exc1_ne {R F : Nat → Nat → Int32} {i y : Nat} {p1 p2 : Int32} (hy : y ≠ i) : xX1_exchange R F i p1 p2 y = R y := by
  unfold xX1_exchange
  rw [sR_ne hy, sR_ne hy]
section
variable {R F L L' : Nat → Nat → Int32} {o q kw mi : Nat}
theorem pair_i (h : NOW R F L kw mi) {i j : Nat} (hi : i < kw) (hj : j < kw) : xX1_isPair R F (nI i) (nI j) = 0 ↔ i = j := by
  obtain ⟨n1, n2, n3, n4, n5, n6, n7⟩ := h.1
  unfold xX1_isPair
  rw [if_neg (isWalker_nI n3 n1 hi), if_neg (isWalker_nI n3 n1 hj)]
  by_cases e : i = j
  · rw [if_pos (by rw [e])]
    exact ⟨fun _ => e, fun _ => rfl⟩
  · rw [if_neg (fun q => e ((nI_eq (by omega) (by omega)).mp q))]
    exact ⟨fun q => absurd q (by decide), fun q => absurd q e⟩
theorem act_swap_same (hh : HI F o q) (hr : NOW R F L kw mi) {i j : Nat} (hi : i < kw) (hj : j < kw) (e : i = j) : POST (xX1_swap R F (nI i) (nI j) o q) (-100001) R L kw mi := by
  unfold xX1_swap
  rw [if_pos ((pair_i hr hi hj).mpr e)]
  exact POST_no hh hr
theorem act_accuse_same (hh : HI F o q) (hr : NOW R F L kw mi) {i j : Nat} (hi : i < kw) (hj : j < kw) (e : i = j) : POST (xX1_accuse R F (nI i) (nI j) o q) (-100001) R L kw mi := by
  unfold xX1_accuse
  rw [if_pos ((pair_i hr hi hj).mpr e)]
  exact POST_no hh hr
theorem act_swap_no (hh : HI F o q) (hr : NOW R F L kw mi) {i j : Nat} (hi : i < kw) (hj : j < kw) (e : i ≠ j) (hx : R 7 i = -100009 ∨ R 7 j = -100009) : POST (xX1_swap R F (nI i) (nI j) o q) (-100002) R L kw mi := by
  unfold xX1_swap
  rw [if_neg (fun q => e ((pair_i hr hi hj).mp q))]
  by_cases h1 : R 7 i = -100009
  · rw [if_pos ((isAb_i hr hi).mpr h1)]
    exact POST_no hh hr
  · rw [if_neg (fun q => h1 ((isAb_i hr hi).mp q)), if_pos ((isAb_i hr hj).mpr (hx.resolve_left h1))]
    exact POST_no hh hr
theorem act_accuse_no (hh : HI F o q) (hr : NOW R F L kw mi) {i j : Nat} (hi : i < kw) (hj : j < kw) (e : i ≠ j) (hx : R 7 i = -100009 ∨ R 7 j = -100009) : POST (xX1_accuse R F (nI i) (nI j) o q) (-100002) R L kw mi := by
  unfold xX1_accuse
  rw [if_neg (fun q => e ((pair_i hr hi hj).mp q))]
  by_cases h1 : R 7 i = -100009
  · rw [if_pos ((isAb_i hr hi).mpr h1)]
    exact POST_no hh hr
  · rw [if_neg (fun q => h1 ((isAb_i hr hi).mp q)), if_pos ((isAb_i hr hj).mpr (hx.resolve_left h1))]
    exact POST_no hh hr
theorem tau_id {i j x : Nat} (h1 : x ≠ i) (h2 : x ≠ j) : tau i j x = x := by
  unfold tau
  rw [if_neg h1, if_neg h2]
theorem act_swap (hh : HI F o q) (hr : NOW R F L kw mi) {i j : Nat} (hi : i < kw) (hj : j < kw) (e : i ≠ j) (hpi : ¬ R 7 i = -100009) (hpj : ¬ R 7 j = -100009)
    (l0 : ∀ y, 83 ≤ y → y ≠ 88 → L' y = L y) (a1 : ∀ x, L' 88 (5 * x + 1) = L 88 (5 * (tau i j x) + 1)) (ax : ∀ x, x ≠ 5 * i + 1 → x ≠ 5 * j + 1 → L' 88 x = L 88 x) : POST (xX1_swap R F (nI i) (nI j) o q) (xL_error (L' 83) (L' 84) (L' 86) (L' 88) kw) R L' kw mi := by
  obtain ⟨hC, hG, o', q', hh'⟩ := remF (R := R) hh
  obtain ⟨n1, n2, n3, n4, n5, n6, n7⟩ := hr.1
  have ci : (nI i).toNatClampNeg = i := nI_clamp (by omega)
  have cj : (nI j).toNatClampNeg = j := nI_clamp (by omega)
  unfold xX1_swap
  rw [if_neg (fun q => e ((pair_i hr hi hj).mp q)), if_neg (fun q => hpi ((isAb_i hr hi).mp q)), if_neg (fun q => hpj ((isAb_i hr hj).mp q))]
  have hX7 := exch_at (R := (xX1_remember R F o q).1) (F := (xX1_remember R F o q).2) (i := 7) (p1 := nI i) (p2 := nI j) (by rw [ci, cj]; exact e)
  rw [hC 7 (by decide), ci, cj] at hX7
  have hXn : ∀ y, y ≠ 7 → xX1_exchange (xX1_remember R F o q).1 (xX1_remember R F o q).2 7 (nI i) (nI j) y = (xX1_remember R F o q).1 y := fun y hy => exc1_ne hy
  generalize xX1_exchange (xX1_remember R F o q).1 (xX1_remember R F o q).2 7 (nI i) (nI j) = X at hX7 hXn
  have hv : (xX1_errorWith X (xX1_remember R F o q).2 9).1 = ERR (X 2) (X 6) (X 7) (X 4) (X 8) (X 9) := by rw [errorWith_eq (by decide) (by decide)]
  have hRn : ∀ y, y ≠ 15 → y ≠ 16 → (xX1_errorWith X (xX1_remember R F o q).2 9).2 y = X y := fun y h1 h2 => errorWith_ne (by decide) (by decide) h1 h2
  generalize (xX1_errorWith X (xX1_remember R F o q).2 9).2 = R1 at hRn ⊢
  rw [hv]
  have hro : ∀ y, y ≠ 7 → y < 15 → R1 y = R y := fun y h1 h3 => by rw [hRn y (by omega) (by omega), hXn y h1, hC y (by omega)]
  have r7 : ∀ x, R1 7 x = R 7 (tau i j x) := fun x => by rw [hRn 7 (by decide) (by decide), hX7]
  have hN : NOW R1 (xX1_remember R F o q).2 L' kw mi := by
    refine NOW_walk hr (fun x h1 h2 => hro x (by omega) (by omega)) (fun x h1 h2 => l0 x (by omega) (by omega)) (rNum_s hr.1 hG (by rw [l0 83 (by decide) (by decide)]) (by rw [l0 83 (by decide) (by decide)]) (by rw [l0 83 (by decide) (by decide)])) (fun k hk => ?_) (fun k hk => ?_) (fun k h1 h2 => ?_) ?_ ?_
    · obtain ⟨b0, bw, b1, b2, b3, b4, b5, b6⟩ := hr.2.2.1 k hk
      have htk : tau i j k < kw := by
        unfold tau
        split
        · exact hj
        · split
          · exact hi
          · exact hk
      obtain ⟨-, -, d1, -, -, -, d5, -⟩ := hr.2.2.1 _ htk
      have q1 : R1 7 k = -100009 ↔ R 7 k = -100009 := by
        rw [r7]
        unfold tau
        by_cases x1 : k = i
        · rw [if_pos x1, x1]
          exact ⟨fun q => absurd q hpj, fun q => absurd q hpi⟩
        · rw [if_neg x1]
          by_cases x2 : k = j
          · rw [if_pos x2, x2]
            exact ⟨fun q => absurd q hpi, fun q => absurd q hpj⟩
          · rw [if_neg x2]
      refine ⟨by rw [ax _ (by omega) (by omega), hro 6 (by decide) (by decide)]; exact b0, by rw [hro 6 (by decide) (by decide)]; exact bw, by rw [a1, r7]; exact d1, ?_, by rw [ax _ (by omega) (by omega), hro 9 (by decide) (by decide)]; exact b3, ?_, by rw [r7]; exact d5, by rw [hro 9 (by decide) (by decide)]; exact b6⟩
      · rw [ax _ (by omega) (by omega), hro 8 (by decide) (by decide), b2]
        by_cases hx : R 7 k = -100009
        · rw [if_pos hx, if_pos (q1.mpr hx)]
        · rw [if_neg hx, if_neg (fun q => hx (q1.mp q))]
      · rw [q1, hro 9 (by decide) (by decide)]
        exact b4
    · rw [hro 10 (by decide) (by decide), hro 11 (by decide) (by decide), hro 12 (by decide) (by decide), hro 13 (by decide) (by decide)]
      exact bil1_s (hr.2.2.2.1 k hk) rfl rfl rfl rfl (ax _ (by omega) (by omega)) (fun x hx => by rw [l0 89 (by decide) (by decide)])
    · rw [hro 10 (by decide) (by decide), hro 11 (by decide) (by decide), hro 13 (by decide) (by decide), hro 9 (by decide) (by decide)]
      unfold wOut
      rw [r7 k, tau_id (by omega) (by omega)]
      exact hr.2.2.2.2.1 k h1 h2
    · rw [hro 9 (by decide) (by decide)]
      exact prm_swap hr.2.2.2.2.2.1 (by omega) (by omega) r7
    · rw [hro 11 (by decide) (by decide), hro 12 (by decide) (by decide), hro 13 (by decide) (by decide)]
      unfold tots
      rw [l0 83 (by decide) (by decide)]
      exact hr.2.2.2.2.2.2
  refine POST_mk ?_ hh' hN (fun y hy => by rw [hRn y (by omega) (by omega), hXn y (by omega), hC y (by omega)])
  rw [errL hN, hRn 2 (by decide) (by decide), hRn 4 (by decide) (by decide), hRn 6 (by decide) (by decide), hRn 7 (by decide) (by decide), hRn 8 (by decide) (by decide), hRn 9 (by decide) (by decide)]
theorem act_accuse (hh : HI F o q) (hr : NOW R F L kw mi) {i j : Nat} (hi : i < kw) (hj : j < kw) (e : i ≠ j) (hpi : ¬ R 7 i = -100009) (hpj : ¬ R 7 j = -100009)
    (l0 : ∀ y, 83 ≤ y → y ≠ 88 → L' y = L y) (a3 : ∀ x, L' 88 (5 * x + 3) = L 88 (5 * (tau i j x) + 3)) (a4 : ∀ k, k = i ∨ k = j → L' 88 (5 * k + 4) = L 88 (5 * k + 4) + 1) (ax : ∀ x, x ≠ 5 * i + 3 → x ≠ 5 * j + 3 → x ≠ 5 * i + 4 → x ≠ 5 * j + 4 → L' 88 x = L 88 x) : POST (xX1_accuse R F (nI i) (nI j) o q) (xL_error (L' 83) (L' 84) (L' 86) (L' 88) kw) R L' kw mi := by
  obtain ⟨hC, hG, o', q', hh'⟩ := remF (R := R) hh
  obtain ⟨n1, n2, n3, n4, n5, n6, n7⟩ := hr.1
  have ci : (nI i).toNatClampNeg = i := nI_clamp (by omega)
  have cj : (nI j).toNatClampNeg = j := nI_clamp (by omega)
  unfold xX1_accuse
  rw [if_neg (fun q => e ((pair_i hr hi hj).mp q)), if_neg (fun q => hpi ((isAb_i hr hi).mp q)), if_neg (fun q => hpj ((isAb_i hr hj).mp q))]
  have hE9 := exch_at (R := (xX1_remember R F o q).1) (F := (xX1_remember R F o q).2) (i := 9) (p1 := nI i) (p2 := nI j) (by rw [ci, cj]; exact e)
  rw [hC 9 (by decide), ci, cj] at hE9
  have hEn : ∀ y, y ≠ 9 → xX1_exchange (xX1_remember R F o q).1 (xX1_remember R F o q).2 9 (nI i) (nI j) y = (xX1_remember R F o q).1 y := fun y hy => exc1_ne hy
  generalize xX1_exchange (xX1_remember R F o q).1 (xX1_remember R F o q).2 9 (nI i) (nI j) = E at hE9 hEn ⊢
  rw [ci, cj]
  generalize hX : sR (sR E 10 i ((E 10 i) + (1 : Int32))) 10 j (((sR E 10 i ((E 10 i) + (1 : Int32))) 10 j) + (1 : Int32)) = X
  have hXn : ∀ y, y ≠ 9 → y ≠ 10 → X y = (xX1_remember R F o q).1 y := fun y h1 h2 => by rw [← hX, sR_ne h2, sR_ne h2, hEn y h1]
  have hX9 : ∀ x, X 9 x = R 9 (tau i j x) := fun x => by rw [← hX, sR_ne (by decide), sR_ne (by decide), hE9]
  have hXa : ∀ k, k = i ∨ k = j → X 10 k = R 10 k + 1 := fun k hk => by
    rcases hk with rfl | rfl
    · rw [← hX, sR_same_ne e, sR_same, hEn 10 (by decide), hC 10 (by decide)]
    · rw [← hX, sR_same, sR_same_ne (Ne.symm e), hEn 10 (by decide), hC 10 (by decide)]
  have hXb : ∀ k, k ≠ i → k ≠ j → X 10 k = R 10 k := fun k h1 h2 => by rw [← hX, sR_same_ne h2, sR_same_ne h1, hEn 10 (by decide), hC 10 (by decide)]
  clear hX
  have hv : (xX1_errorWith X (xX1_remember R F o q).2 9).1 = ERR (X 2) (X 6) (X 7) (X 4) (X 8) (X 9) := by rw [errorWith_eq (by decide) (by decide)]
  have hRn : ∀ y, y ≠ 15 → y ≠ 16 → (xX1_errorWith X (xX1_remember R F o q).2 9).2 y = X y := fun y h1 h2 => errorWith_ne (by decide) (by decide) h1 h2
  generalize (xX1_errorWith X (xX1_remember R F o q).2 9).2 = R1 at hRn ⊢
  rw [hv]
  have hro : ∀ y, y ≠ 9 → y ≠ 10 → y < 15 → R1 y = R y := fun y h1 h2 h3 => by rw [hRn y (by omega) (by omega), hXn y h1 h2, hC y (by omega)]
  have r9 : ∀ x, R1 9 x = R 9 (tau i j x) := fun x => by rw [hRn 9 (by decide) (by decide), hX9]
  have ra : ∀ k, k = i ∨ k = j → R1 10 k = R 10 k + 1 := fun k hk => by rw [hRn 10 (by decide) (by decide), hXa k hk]
  have rb : ∀ k, k ≠ i → k ≠ j → R1 10 k = R 10 k := fun k h1 h2 => by rw [hRn 10 (by decide) (by decide), hXb k h1 h2]
  have hbi : ¬ R 9 i = -100009 := fun q => hpi ((hr.2.2.1 i hi).2.2.2.2.2.1.mpr q)
  have hbj : ¬ R 9 j = -100009 := fun q => hpj ((hr.2.2.1 j hj).2.2.2.2.2.1.mpr q)
  have hN : NOW R1 (xX1_remember R F o q).2 L' kw mi := by
    refine NOW_walk hr (fun x h1 h2 => hro x (by omega) (by omega) (by omega)) (fun x h1 h2 => l0 x (by omega) (by omega)) (rNum_s hr.1 hG (by rw [l0 83 (by decide) (by decide)]) (by rw [l0 83 (by decide) (by decide)]) (by rw [l0 83 (by decide) (by decide)])) (fun k hk => ?_) (fun k hk => ?_) (fun k h1 h2 => ?_) ?_ ?_
    · obtain ⟨b0, bw, b1, b2, b3, b4, b5, b6⟩ := hr.2.2.1 k hk
      have htk : tau i j k < kw := by
        unfold tau
        split
        · exact hj
        · split
          · exact hi
          · exact hk
      obtain ⟨-, -, -, -, d3, -, -, d6⟩ := hr.2.2.1 _ htk
      have q1 : R1 9 k = -100009 ↔ R 9 k = -100009 := by
        rw [r9]
        unfold tau
        by_cases x1 : k = i
        · rw [if_pos x1, x1]
          exact ⟨fun q => absurd q hbj, fun q => absurd q hbi⟩
        · rw [if_neg x1]
          by_cases x2 : k = j
          · rw [if_pos x2, x2]
            exact ⟨fun q => absurd q hbi, fun q => absurd q hbj⟩
          · rw [if_neg x2]
      refine ⟨by rw [ax _ (by omega) (by omega) (by omega) (by omega), hro 6 (by decide) (by decide) (by decide)]; exact b0, by rw [hro 6 (by decide) (by decide) (by decide)]; exact bw, by rw [ax _ (by omega) (by omega) (by omega) (by omega), hro 7 (by decide) (by decide) (by decide)]; exact b1, ?_, by rw [a3, r9]; exact d3, ?_, by rw [hro 7 (by decide) (by decide) (by decide)]; exact b5, by rw [r9]; exact d6⟩
      · rw [ax _ (by omega) (by omega) (by omega) (by omega), hro 8 (by decide) (by decide) (by decide), hro 7 (by decide) (by decide) (by decide)]
        exact b2
      · rw [q1, hro 7 (by decide) (by decide) (by decide)]
        exact b4
    · rw [hro 11 (by decide) (by decide) (by decide), hro 12 (by decide) (by decide) (by decide), hro 13 (by decide) (by decide) (by decide)]
      obtain ⟨c4, c5⟩ := hr.2.2.2.1 k hk
      refine ⟨?_, by rw [l0 89 (by decide) (by decide)]; exact c5⟩
      by_cases hkk : k = i ∨ k = j
      · rw [a4 k hkk, ra k hkk, c4]
      · rw [ax _ (by omega) (by omega) (by omega) (by omega), rb k (fun e => hkk (Or.inl e)) (fun e => hkk (Or.inr e))]
        exact c4
    · rw [hro 11 (by decide) (by decide) (by decide), hro 13 (by decide) (by decide) (by decide), hro 7 (by decide) (by decide) (by decide)]
      unfold wOut
      rw [r9 k, tau_id (by omega) (by omega), rb k (by omega) (by omega)]
      exact hr.2.2.2.2.1 k h1 h2
    · rw [hro 7 (by decide) (by decide) (by decide)]
      exact prm_sym (prm_swap (prm_sym hr.2.2.2.2.2.1) (by omega) (by omega) r9)
    · rw [hro 11 (by decide) (by decide) (by decide), hro 12 (by decide) (by decide) (by decide), hro 13 (by decide) (by decide) (by decide)]
      unfold tots
      rw [l0 83 (by decide) (by decide)]
      exact hr.2.2.2.2.2.2
  refine POST_mk ?_ hh' hN (fun y hy => by rw [hRn y (by omega) (by omega), hXn y (by omega) (by omega), hC y (by omega)])
  rw [errL hN, hRn 2 (by decide) (by decide), hRn 4 (by decide) (by decide), hRn 6 (by decide) (by decide), hRn 7 (by decide) (by decide), hRn 8 (by decide) (by decide), hRn 9 (by decide) (by decide)]
end

