/-! PURE: walkers: board, walk, leave -/
theorem prm_add {p b p' b' : Nat → Int32} {k : Nat} {x : Int32} (h : prm p b) (hk : k < 8) (hpk : p k = -100009) (hbk : b k = -100009) (hx : ¬ x = -100009) (hf : ∀ i, i < 8 → ¬ p i = x) (p1 : p' k = x) (p2 : ∀ i, i ≠ k → p' i = p i) (b1 : b' k = x) (b2 : ∀ i, i ≠ k → b' i = b i) : prm p' b' := by
  obtain ⟨h1, h2, h3, h4⟩ := h
  have hfb : ∀ i, i < 8 → ¬ b i = x := fun i hi e => by
    obtain ⟨j, hj, e2⟩ := h4 i hi (by rw [e]; exact hx)
    exact hf j hj (e2.trans e)
  refine ⟨fun i j hi hj hn e => ?_, fun i j hi hj hn e => ?_, fun i hi hn => ?_, fun i hi hn => ?_⟩
  · by_cases c1 : i = k
    · by_cases c2 : j = k
      · rw [c1, c2]
      · rw [c1, p1, p2 j c2] at e
        exact absurd e.symm (hf j hj)
    · by_cases c2 : j = k
      · rw [c2, p1, p2 i c1] at e
        exact absurd e (hf i hi)
      · rw [p2 i c1] at hn
        rw [p2 i c1, p2 j c2] at e
        exact h1 i j hi hj hn e
  · by_cases c1 : i = k
    · by_cases c2 : j = k
      · rw [c1, c2]
      · rw [c1, b1, b2 j c2] at e
        exact absurd e.symm (hfb j hj)
    · by_cases c2 : j = k
      · rw [c2, b1, b2 i c1] at e
        exact absurd e (hfb i hi)
      · rw [b2 i c1] at hn
        rw [b2 i c1, b2 j c2] at e
        exact h2 i j hi hj hn e
  · by_cases c1 : i = k
    · exact ⟨k, hk, by rw [b1, c1, p1]⟩
    · rw [p2 i c1] at hn ⊢
      obtain ⟨j, hj, e⟩ := h3 i hi hn
      exact ⟨j, hj, by rw [b2 j (fun c2 => hn (by rw [← e, c2, hbk])), e]⟩
  · by_cases c1 : i = k
    · exact ⟨k, hk, by rw [p1, c1, b1]⟩
    · rw [b2 i c1] at hn ⊢
      obtain ⟨j, hj, e⟩ := h4 i hi hn
      exact ⟨j, hj, by rw [p2 j (fun c2 => hn (by rw [← e, c2, hpk])), e]⟩
/-- k goes from its cell to x; t's book place was k's cell, and becomes x too -/
theorem prm_walk {p b p' b' : Nat → Int32} {k t : Nat} {x : Int32} (h : prm p b) (hk : k < 8) (ht : t < 8) (hpk : ¬ p k = -100009) (hbt : b t = p k) (hx : ¬ x = -100009) (hf : ∀ i, i < 8 → ¬ p i = x) (p1 : p' k = x) (p2 : ∀ i, i ≠ k → p' i = p i) (b1 : b' t = x) (b2 : ∀ i, i ≠ t → b' i = b i) : prm p' b' := by
  obtain ⟨h1, h2, h3, h4⟩ := h
  have hfb : ∀ i, i < 8 → ¬ b i = x := fun i hi e => by
    obtain ⟨j, hj, e2⟩ := h4 i hi (by rw [e]; exact hx)
    exact hf j hj (e2.trans e)
  refine ⟨fun i j hi hj hn e => ?_, fun i j hi hj hn e => ?_, fun i hi hn => ?_, fun i hi hn => ?_⟩
  · by_cases c1 : i = k
    · by_cases c2 : j = k
      · rw [c1, c2]
      · rw [c1, p1, p2 j c2] at e
        exact absurd e.symm (hf j hj)
    · by_cases c2 : j = k
      · rw [c2, p1, p2 i c1] at e
        exact absurd e (hf i hi)
      · rw [p2 i c1] at hn
        rw [p2 i c1, p2 j c2] at e
        exact h1 i j hi hj hn e
  · by_cases c1 : i = t
    · by_cases c2 : j = t
      · rw [c1, c2]
      · rw [c1, b1, b2 j c2] at e
        exact absurd e.symm (hfb j hj)
    · by_cases c2 : j = t
      · rw [c2, b1, b2 i c1] at e
        exact absurd e (hfb i hi)
      · rw [b2 i c1] at hn
        rw [b2 i c1, b2 j c2] at e
        exact h2 i j hi hj hn e
  · by_cases c1 : i = k
    · exact ⟨t, ht, by rw [b1, c1, p1]⟩
    · rw [p2 i c1] at hn ⊢
      obtain ⟨j, hj, e⟩ := h3 i hi hn
      exact ⟨j, hj, by rw [b2 j (fun c2 => c1 (h1 i k hi hk hn (by rw [← e, c2, hbt]))), e]⟩
  · by_cases c1 : i = t
    · exact ⟨k, hk, by rw [p1, c1, b1]⟩
    · rw [b2 i c1] at hn ⊢
      obtain ⟨j, hj, e⟩ := h4 i hi hn
      exact ⟨j, hj, by rw [p2 j (fun c2 => c1 (h2 i t hi ht hn (by rw [← e, c2, hbt]))), e]⟩
/-- k goes ashore; t's book place was k's cell, and becomes k's book place -/
theorem prm_leave {p b p' b' : Nat → Int32} {k t : Nat} (h : prm p b) (hk : k < 8) (ht : t < 8) (hpk : ¬ p k = -100009) (hbt : b t = p k) (p1 : p' k = -100009) (p2 : ∀ i, i ≠ k → p' i = p i) (b1 : b' k = -100009) (b2 : t ≠ k → b' t = b k) (b3 : ∀ i, i ≠ t → i ≠ k → b' i = b i) : prm p' b' := by
  obtain ⟨h1, h2, h3, h4⟩ := h
  refine ⟨fun i j hi hj hn e => ?_, fun i j hi hj hn e => ?_, fun i hi hn => ?_, fun i hi hn => ?_⟩
  · by_cases c1 : i = k
    · rw [c1, p1] at hn
      exact absurd rfl hn
    · by_cases c2 : j = k
      · rw [c2, p1] at e
        exact absurd e hn
      · rw [p2 i c1] at hn
        rw [p2 i c1, p2 j c2] at e
        exact h1 i j hi hj hn e
  · by_cases c1 : i = k
    · rw [c1, b1] at hn
      exact absurd rfl hn
    · by_cases c2 : j = k
      · rw [c2, b1] at e
        exact absurd e hn
      · by_cases c3 : i = t
        · by_cases c4 : j = t
          · rw [c3, c4]
          · rw [c3] at hn e c1
            rw [b2 c1] at hn
            rw [b2 c1, b3 j c4 c2] at e
            exact absurd (h2 k j hk hj hn e).symm c2
        · by_cases c4 : j = t
          · rw [b3 i c3 c1] at hn
            rw [c4] at e c2
            rw [b2 c2, b3 i c3 c1] at e
            exact absurd (h2 i k hi hk hn e) c1
          · rw [b3 i c3 c1] at hn
            rw [b3 i c3 c1, b3 j c4 c2] at e
            exact h2 i j hi hj hn e
  · by_cases c1 : i = k
    · rw [c1, p1] at hn
      exact absurd rfl hn
    · rw [p2 i c1] at hn ⊢
      obtain ⟨j, hj, e⟩ := h3 i hi hn
      have cj : j ≠ t := fun c => c1 (h1 i k hi hk hn (by rw [← e, c, hbt]))
      by_cases c2 : j = k
      · subst c2
        exact ⟨t, ht, by rw [b2 (Ne.symm cj), e]⟩
      · exact ⟨j, hj, by rw [b3 j cj c2, e]⟩
  · by_cases c1 : i = k
    · rw [c1, b1] at hn
      exact absurd rfl hn
    · by_cases c3 : i = t
      · rw [c3] at hn c1 ⊢
        rw [b2 c1] at hn ⊢
        obtain ⟨j, hj, e⟩ := h4 k hk hn
        exact ⟨j, hj, by rw [p2 j (fun c => c1 (h2 t k ht hk (by rw [hbt]; exact hpk) (by rw [hbt, ← e, c]))), e]⟩
      · rw [b3 i c3 c1] at hn ⊢
        obtain ⟨j, hj, e⟩ := h4 i hi hn
        exact ⟨j, hj, by rw [p2 j (fun c => c3 (h2 i t hi ht hn (by rw [← e, c, hbt]))), e]⟩
theorem NOW_walk {R F L R' F' L' : Nat → Nat → Int32} {kw kw' mi : Nat} (h : NOW R F L kw mi) (hR : ∀ j, 2 ≤ j → j ≤ 5 → R' j = R j) (hL : ∀ j, 84 ≤ j → j ≤ 87 → L' j = L j) (hn : rNum (F' 1) (L' 83) kw' mi)
    (hw : ∀ k, k < kw' → wlk1 (R' 6) (R' 7) (R' 8) (R' 9) (L' 88) k) (hb : ∀ k, k < kw' → bil1 (R' 10) (R' 11) (R' 12) (R' 13) (L' 88) (L' 89) k) (ho : ∀ k, kw' ≤ k → k < 8 → wOut (R' 7) (R' 9) (R' 10) (R' 11) (R' 13) k) (hp : prm (R' 7) (R' 9)) (ht : tots (R' 11) (R' 12) (R' 13) (L' 83)) : NOW R' F' L' kw' mi := by
  unfold NOW
  rw [hR 2 (by decide) (by decide), hR 3 (by decide) (by decide), hR 4 (by decide) (by decide), hR 5 (by decide) (by decide), hL 84 (by decide) (by decide), hL 85 (by decide) (by decide), hL 86 (by decide) (by decide), hL 87 (by decide) (by decide)]
  exact ⟨hn, h.2.1, hw, hb, ho, hp, ht⟩
theorem wlk1_s {w p bw b a w' p' bw' b' a' : Nat → Int32} {k : Nat} (h : wlk1 w p bw b a k) (hw : w' k = w k) (hp : p' k = p k) (hbw : bw' k = bw k) (hb : b' k = b k) (ha : ∀ j, j < 4 → a' (5 * k + j) = a (5 * k + j)) : wlk1 w' p' bw' b' a' k := by
  unfold wlk1
  rw [hw, hp, hbw, hb, show a' (5 * k) = a (5 * k) from ha 0 (by decide), ha 1 (by decide), ha 2 (by decide), ha 3 (by decide)]
  exact h
theorem bil1_s {ac bk bp bb a b ac' bk' bp' bb' a' b' : Nat → Int32} {k : Nat} (h : bil1 ac bk bp bb a b k) (hac : ac' k = ac k) (hk : bk' k = bk k) (hp : bp' k = bp k) (hb : bb' k = bb k) (h4 : a' (5 * k + 4) = a (5 * k + 4)) (hs : ∀ j, j < 5 → b' (5 * k + j) = b (5 * k + j)) : bil1 ac' bk' bp' bb' a' b' k := by
  unfold bil1
  rw [hac, hk, hp, hb, h4, show b' (5 * k) = b (5 * k) from hs 0 (by decide), hs 1 (by decide), hs 2 (by decide), hs 3 (by decide), hs 4 (by decide)]
  exact h
section
variable {R F L L' : Nat → Nat → Int32} {o q kw mi : Nat}
theorem isAb_i (h : NOW R F L kw mi) {k : Nat} (hk : k < kw) : xX1_isAboard R F (nI k) = 0 ↔ R 7 k = -100009 := by
  obtain ⟨n1, n2, n3, n4, n5, n6, n7⟩ := h.1
  unfold xX1_isAboard
  rw [if_neg (isWalker_nI n3 n1 hk), nI_clamp (by omega)]
  by_cases hx : R 7 k = -100009
  · rw [if_pos hx]
    exact ⟨fun _ => hx, fun _ => rfl⟩
  · rw [if_neg hx]
    exact ⟨fun q => absurd q (by decide), fun q => absurd q hx⟩
theorem taken_spec (h : NOW R F L kw mi) {k : Nat} (hk : k < 8) (hp : ¬ R 7 k = -100009) : ∃ t, t < kw ∧ R 9 t = R 7 k ∧ xX1_whoIsOn R F 9 (R 7 k) = nI t := by
  obtain ⟨t, ht, e⟩ := h.2.2.2.2.2.1.2.2.1 k hk hp
  have htk : t < kw := by
    rcases Nat.lt_or_ge t kw with h1 | h1
    · exact h1
    · exact absurd (e.symm.trans (h.2.2.2.2.1 t h1 ht).2.1) hp
  have hw : xX1_whoIsOn R F 9 (R 7 k) = nI t := who_some e 8 0 (by omega) (by omega) (fun j _ hj ej => by
    have := h.2.2.2.2.2.1.2.1 j t (by omega) ht (by rw [ej]; exact hp) (ej.trans e.symm)
    omega)
  exact ⟨t, htk, e, hw⟩
/-- whom the law takes -/
theorem taken_law (h : NOW R F L kw mi) {k : Nat} (hk : k < kw) (hp : ¬ R 7 k = -100009) : ∃ t, t < kw ∧ R 9 t = R 7 k ∧ xX1_whoIsOn R F 9 (R 7 k) = nI t ∧ xL_who (L 83) (L 88) (L 88 (5 * k + 1)) 3 kw = nI t := by
  have h8 := h.1.1
  obtain ⟨t, ht, e, ew⟩ := taken_spec h (by omega : k < 8) hp
  obtain ⟨-, -, e1, -, -, -, hpc, -⟩ := h.2.2.1 k hk
  obtain ⟨c, hc, ec⟩ := hpc hp
  refine ⟨t, ht, e, ew, ?_⟩
  rw [e1, ec, lo_nI (by omega), whoB h hc, ← ec, ew, lo_nI (by omega)]
theorem weight_of {v : Int32} (h1 : 20 ≤ v.toInt) (h2 : v.toInt ≤ 150) : ¬ xX1_isWeight v = 0 := within_of (a := 20) (b := 150) h1 h2
theorem act_board_no (hh : HI F o q) (hr : NOW R F L kw mi) {c : Nat} (hc : c < 24) {v w : Int32} (hv : 20 ≤ v.toInt ∧ v.toInt ≤ 150) (hw : 20 ≤ w.toInt ∧ w.toInt ≤ 150) (hx : ¬ xX1_whoIsOn R F 7 (nI c) = -100009) : POST (xX1_board R F v w (nI c) o q) (-100002) R L kw mi := by
  unfold xX1_board
  rw [if_neg (weight_of hv.1 hv.2), if_neg (weight_of hw.1 hw.2), if_neg (isCell_nI hc), if_neg hx]
  exact POST_no hh hr
theorem act_board_full (hh : HI F o q) (hr : NOW R F L kw mi) {c : Nat} (hc : c < 24) {v w : Int32} (hv : 20 ≤ v.toInt ∧ v.toInt ≤ 150) (hw : 20 ≤ w.toInt ∧ w.toInt ≤ 150) (hx : xX1_whoIsOn R F 7 (nI c) = -100009) (h8 : kw = 8) : POST (xX1_board R F v w (nI c) o q) (-100003) R L kw mi := by
  unfold xX1_board
  rw [if_neg (weight_of hv.1 hv.2), if_neg (weight_of hw.1 hw.2), if_neg (isCell_nI hc), if_pos hx, hr.1.2.2.1, if_pos (by rw [h8]; decide)]
  exact POST_no hh hr
theorem act_board (hh : HI F o q) (hr : NOW R F L kw mi) {c : Nat} (hc : c < 24) {v w : Int32} (hv : 20 ≤ v.toInt ∧ v.toInt ≤ 150) (hw : 20 ≤ w.toInt ∧ w.toInt ≤ 150) (hx : xX1_whoIsOn R F 7 (nI c) = -100009) (h8 : kw < 8)
    (l0 : ∀ y, 84 ≤ y → y ≤ 87 → L' y = L y) (l1 : L' 83 1 = nI (kw + 1)) (l2 : ∀ x, x ≠ 1 → L' 83 x = L 83 x) (a0 : L' 88 (5 * kw) = v) (a1 : L' 88 (5 * kw + 1) = nI c) (a2 : L' 88 (5 * kw + 2) = w) (a3 : L' 88 (5 * kw + 3) = nI c) (a4 : L' 88 (5 * kw + 4) = 0) (ax : ∀ x, x < 5 * kw → L' 88 x = L 88 x)
    (b0 : L' 89 (5 * kw) = -1) (b1 : ∀ j, 1 ≤ j → j < 5 → L' 89 (5 * kw + j) = 0) (bx : ∀ x, x < 5 * kw → L' 89 x = L 89 x) : POST (xX1_board R F v w (nI c) o q) (nI kw) R L' (kw + 1) mi := by
  obtain ⟨hC, hG, o', q', hh'⟩ := remF (R := R) hh
  obtain ⟨n1, n2, n3, n4, n5, n6, n7⟩ := hr.1
  have hnn : ¬ nI c = -100009 := nI_nn (by omega)
  unfold xX1_board
  rw [if_neg (weight_of hv.1 hv.2), if_neg (weight_of hw.1 hw.2), if_neg (isCell_nI hc), if_pos hx, n3, if_neg (by
    rcases (by omega : kw = 0 ∨ kw = 1 ∨ kw = 2 ∨ kw = 3 ∨ kw = 4 ∨ kw = 5 ∨ kw = 6 ∨ kw = 7) with rfl | rfl | rfl | rfl | rfl | rfl | rfl | rfl <;> decide), nI_clamp (by omega)]
  generalize hR1 : sR (sR (sR (sR ((xX1_remember R F o q).1) 6 kw v) 7 kw (nI c)) 8 kw w) 9 kw (nI c) = R1
  have r84 : ∀ y, y < 6 ∨ 9 < y → R1 y = (xX1_remember R F o q).1 y := fun y hy => by rw [← hR1, sR_ne (by omega), sR_ne (by omega), sR_ne (by omega), sR_ne (by omega)]
  have r6 : R1 6 kw = v ∧ ∀ k, k ≠ kw → R1 6 k = R 6 k := by
    rw [← hR1, sR_ne (by decide), sR_ne (by decide), sR_ne (by decide)]
    exact ⟨sR_same, fun k hk => by rw [sR_same_ne hk, hC 6 (by decide)]⟩
  have r7 : R1 7 kw = nI c ∧ ∀ k, k ≠ kw → R1 7 k = R 7 k := by
    rw [← hR1, sR_ne (by decide), sR_ne (by decide)]
    exact ⟨sR_same, fun k hk => by rw [sR_same_ne hk, sR_ne (by decide), hC 7 (by decide)]⟩
  have r8 : R1 8 kw = w ∧ ∀ k, k ≠ kw → R1 8 k = R 8 k := by
    rw [← hR1, sR_ne (by decide)]
    exact ⟨sR_same, fun k hk => by rw [sR_same_ne hk, sR_ne (by decide), sR_ne (by decide), hC 8 (by decide)]⟩
  have r9 : R1 9 kw = nI c ∧ ∀ k, k ≠ kw → R1 9 k = R 9 k := by
    rw [← hR1]
    exact ⟨sR_same, fun k hk => by rw [sR_same_ne hk, sR_ne (by decide), sR_ne (by decide), sR_ne (by decide), hC 9 (by decide)]⟩
  clear hR1
  generalize hF1 : sR ((xX1_remember R F o q).2) 1 2 ((((xX1_remember R F o q).2) 1 2) + (1 : Int32)) = F1
  have f1 : F1 1 2 = nI (kw + 1) := by rw [← hF1, sR_same, hG, n3, nI_1]
  have f2 : F1 1 0 = F 1 0 ∧ F1 1 1 = F 1 1 := by rw [← hF1, sR_same_ne (by decide), sR_same_ne (by decide), hG]; exact ⟨rfl, rfl⟩
  have f3 : F1 0 = (xX1_remember R F o q).2 0 := by rw [← hF1, sR_ne (by decide)]
  clear hF1
  obtain ⟨g1, g2, g3, g4, g5⟩ := hr.2.2.2.2.1 kw (Nat.le_refl _) h8
  have rk : ∀ y, 10 ≤ y → y < 19 → R1 y = R y := fun y h1 h2 => by rw [r84 y (by omega), hC y (by omega)]
  refine POST_mk rfl (HI_F hh' f3) ?_ (fun y hy => by rw [r84 y (by omega), hC y (by omega)])
  refine NOW_walk hr (fun j h1 h2 => by rw [r84 j (by omega), hC j (by omega)]) l0 ⟨by omega, n2, f1, l1, f2.1.trans n5, (l2 0 (by decide)).trans n6, by rw [l2 2 (by decide), f2.2]; exact n7⟩ (fun k hk => ?_) (fun k hk => ?_) (fun k hk1 hk2 => ?_) ?_ ?_
  · by_cases hkk : k = kw
    · subst hkk
      exact ⟨by rw [a0, r6.1], by rw [r6.1]; exact hv, by rw [a1, r7.1, lo_nI (by omega)], by rw [a2, r7.1, if_neg hnn, r8.1], by rw [a3, r9.1, lo_nI (by omega)], by rw [r7.1, r9.1], fun _ => ⟨c, hc, r7.1⟩, fun _ => ⟨c, hc, r9.1⟩⟩
    · exact wlk1_s (hr.2.2.1 k (by omega)) (r6.2 k hkk) (r7.2 k hkk) (r8.2 k hkk) (r9.2 k hkk) (fun j hj => ax _ (by omega))
  · rw [rk 10 (by decide) (by decide), rk 11 (by decide) (by decide), rk 12 (by decide) (by decide), rk 13 (by decide) (by decide)]
    by_cases hkk : k = kw
    · subst hkk
      refine ⟨by rw [a4, g3], by rw [b0, g4]; rfl, ?_, ?_, fun q => absurd g4 q, ?_, Or.inl g4, fun q => absurd g5 q⟩
      · rw [b1 1 (by decide) (by decide), g4, oz_none]
        grind
      · rw [b1 2 (by decide) (by decide), g5, oz_none]
        grind
      · rw [b1 4 (by decide) (by decide)]
        exact ⟨fun q => absurd q (by decide), fun q => absurd g5 q⟩
    · exact bil1_s (hr.2.2.2.1 k (by omega)) rfl rfl rfl rfl (ax _ (by omega)) (fun j hj => bx _ (by omega))
  · rw [rk 10 (by decide) (by decide), rk 11 (by decide) (by decide), rk 13 (by decide) (by decide)]
    unfold wOut
    rw [r7.2 k (by omega), r9.2 k (by omega)]
    exact hr.2.2.2.2.1 k (by omega) hk2
  · exact prm_add hr.2.2.2.2.2.1 h8 g1 g2 hnn (fun i hi => who_free 8 0 (by decide) hx i (by omega) (by omega)) r7.1 r7.2 r9.1 r9.2
  · rw [rk 11 (by decide) (by decide), rk 12 (by decide) (by decide), rk 13 (by decide) (by decide)]
    unfold tots
    rw [l2 3 (by decide), l2 4 (by decide), l2 5 (by decide)]
    exact hr.2.2.2.2.2.2
theorem act_walk_no (hh : HI F o q) (hr : NOW R F L kw mi) {k c : Nat} (hk : k < kw) (hc : c < 24) (hx : R 7 k = -100009 ∨ ¬ xX1_whoIsOn R F 7 (nI c) = -100009) : POST (xX1_walk R F (nI k) (nI c) o q) (-100002) R L kw mi := by
  obtain ⟨n1, n2, n3, n4, n5, n6, n7⟩ := hr.1
  unfold xX1_walk
  rw [if_neg (isWalker_nI n3 n1 hk), if_neg (isCell_nI hc)]
  by_cases hp : R 7 k = -100009
  · rw [if_pos ((isAb_i hr hk).mpr hp)]
    exact POST_no hh hr
  · rw [if_neg (fun e => hp ((isAb_i hr hk).mp e)), if_neg (hx.resolve_left hp)]
    exact POST_no hh hr
theorem act_walk (hh : HI F o q) (hr : NOW R F L kw mi) {k c t : Nat} (hk : k < kw) (hc : c < 24) (hp : ¬ R 7 k = -100009) (hx : xX1_whoIsOn R F 7 (nI c) = -100009) (ht : t < kw) (et : R 9 t = R 7 k) (ewho : xX1_whoIsOn R F 9 (R 7 k) = nI t)
    (l0 : ∀ y, 83 ≤ y → y ≠ 88 → L' y = L y) (a1 : L' 88 (5 * k + 1) = nI c) (a3 : L' 88 (5 * t + 3) = nI c) (ax : ∀ x, x ≠ 5 * k + 1 → x ≠ 5 * t + 3 → L' 88 x = L 88 x) : POST (xX1_walk R F (nI k) (nI c) o q) (nI t) R L' kw mi := by
  obtain ⟨hC, hG, o', q', hh'⟩ := remF (R := R) hh
  obtain ⟨n1, n2, n3, n4, n5, n6, n7⟩ := hr.1
  have hnn : ¬ nI c = -100009 := nI_nn (by omega)
  have ewho' : xX1_whoIsOn (xX1_remember R F o q).1 (xX1_remember R F o q).2 9 (R 7 k) = nI t := by
    rw [← ewho]
    have hrC : NOW (xX1_remember R F o q).1 (xX1_remember R F o q).2 L kw mi := NOW_rows hr (fun j h1 h2 => hC j (by omega)) hG (fun _ _ _ => rfl)
    obtain ⟨t1, ht1, e1, w1⟩ := taken_spec hrC (k := k) (by omega) (by rw [hC 7 (by decide)]; exact hp)
    rw [hC 7 (by decide)] at e1 w1
    rw [hC 9 (by decide)] at e1
    rw [w1, ewho]
    exact congrArg nI (hr.2.2.2.2.2.1.2.1 t1 t (by omega) (by omega) (by rw [e1]; exact hp) (e1.trans et.symm))
  unfold xX1_walk
  rw [if_neg (isWalker_nI n3 n1 hk), if_neg (isCell_nI hc), if_neg (fun e => hp ((isAb_i hr hk).mp e)), if_pos hx, nI_clamp (show k < 2 ^ 31 by omega), hC 7 (by decide), ewho', if_neg (isWalker_nI (by rw [hG]; exact n3) n1 ht), nI_clamp (show t < 2 ^ 31 by omega)]
  generalize hR1 : sR (sR ((xX1_remember R F o q).1) 7 k (nI c)) 9 t (nI c) = R1
  have r0 : ∀ y, y ≠ 7 → y ≠ 9 → R1 y = (xX1_remember R F o q).1 y := fun y h1 h2 => by rw [← hR1, sR_ne h2, sR_ne h1]
  have r7 : R1 7 k = nI c ∧ ∀ j, j ≠ k → R1 7 j = R 7 j := by
    rw [← hR1, sR_ne (by decide)]
    exact ⟨sR_same, fun j hj => by rw [sR_same_ne hj, hC 7 (by decide)]⟩
  have r9 : R1 9 t = nI c ∧ ∀ j, j ≠ t → R1 9 j = R 9 j := by
    rw [← hR1]
    exact ⟨sR_same, fun j hj => by rw [sR_same_ne hj, sR_ne (by decide), hC 9 (by decide)]⟩
  clear hR1
  refine POST_mk rfl hh' ?_ (fun y hy => by rw [r0 y (by omega) (by omega), hC y (by omega)])
  have hro : ∀ y, y ≠ 7 → y ≠ 9 → y < 19 → R1 y = R y := fun y h1 h2 h3 => by rw [r0 y h1 h2, hC y (by omega)]
  refine NOW_walk hr (fun j h1 h2 => hro j (by omega) (by omega) (by omega)) (fun j h1 h2 => l0 j (by omega) (by omega)) (rNum_s hr.1 hG (by rw [l0 83 (by decide) (by decide)]) (by rw [l0 83 (by decide) (by decide)]) (by rw [l0 83 (by decide) (by decide)])) (fun j hj => ?_) (fun j hj => ?_) (fun j h1 h2 => ?_) ?_ ?_
  · obtain ⟨b0, bw, b1, b2, b3, b4, b5, b6⟩ := hr.2.2.1 j hj
    have q1 : L' 88 (5 * j + 1) = lo (R1 7 j) ∧ (R1 7 j = -100009 ↔ R 7 j = -100009) ∧ (¬ R1 7 j = -100009 → ∃ c, c < 24 ∧ R1 7 j = nI c) := by
      by_cases hjk : j = k
      · rw [hjk, a1, r7.1, lo_nI (by omega)]
        exact ⟨rfl, ⟨fun q => absurd q hnn, fun q => absurd q hp⟩, fun _ => ⟨_, hc, rfl⟩⟩
      · rw [ax _ (by omega) (by omega), r7.2 j hjk]
        exact ⟨b1, Iff.rfl, b5⟩
    have q3 : L' 88 (5 * j + 3) = lo (R1 9 j) ∧ (R1 9 j = -100009 ↔ R 9 j = -100009) ∧ (¬ R1 9 j = -100009 → ∃ c, c < 24 ∧ R1 9 j = nI c) := by
      by_cases hjt : j = t
      · rw [hjt, a3, r9.1, lo_nI (by omega)]
        exact ⟨rfl, ⟨fun q => absurd q hnn, fun q => absurd (et.symm.trans q) hp⟩, fun _ => ⟨_, hc, rfl⟩⟩
      · rw [ax _ (by omega) (by omega), r9.2 j hjt]
        exact ⟨b3, Iff.rfl, b6⟩
    refine ⟨by rw [ax _ (by omega) (by omega), hro 6 (by decide) (by decide) (by decide)]; exact b0, by rw [hro 6 (by decide) (by decide) (by decide)]; exact bw, q1.1, ?_, q3.1, ?_, q1.2.2, q3.2.2⟩
    · rw [ax _ (by omega) (by omega), hro 8 (by decide) (by decide) (by decide), b2]
      by_cases hx : R 7 j = -100009
      · rw [if_pos hx, if_pos (q1.2.1.mpr hx)]
      · rw [if_neg hx, if_neg (fun q => hx (q1.2.1.mp q))]
    · rw [q1.2.1, q3.2.1]
      exact b4
  · rw [hro 10 (by decide) (by decide) (by decide), hro 11 (by decide) (by decide) (by decide), hro 12 (by decide) (by decide) (by decide), hro 13 (by decide) (by decide) (by decide)]
    exact bil1_s (hr.2.2.2.1 j hj) rfl rfl rfl rfl (ax _ (by omega) (by omega)) (fun i hi => by rw [l0 89 (by decide) (by decide)])
  · rw [hro 10 (by decide) (by decide) (by decide), hro 11 (by decide) (by decide) (by decide), hro 13 (by decide) (by decide) (by decide)]
    unfold wOut
    rw [r7.2 j (by omega), r9.2 j (by omega)]
    exact hr.2.2.2.2.1 j h1 h2
  · exact prm_walk hr.2.2.2.2.2.1 (by omega) (by omega) hp et hnn (fun i hi => who_free 8 0 (by decide) hx i (by omega) (by omega)) r7.1 r7.2 r9.1 r9.2
  · rw [hro 11 (by decide) (by decide) (by decide), hro 12 (by decide) (by decide) (by decide), hro 13 (by decide) (by decide) (by decide)]
    unfold tots
    rw [l0 83 (by decide) (by decide)]
    exact hr.2.2.2.2.2.2
theorem act_leave_no (hh : HI F o q) (hr : NOW R F L kw mi) {k : Nat} (hk : k < kw) (hx : R 7 k = -100009) : POST (xX1_leave R F (nI k) o q) (-100002) R L kw mi := by
  obtain ⟨n1, n2, n3, n4, n5, n6, n7⟩ := hr.1
  unfold xX1_leave
  rw [if_neg (isWalker_nI n3 n1 hk), if_pos ((isAb_i hr hk).mpr hx)]
  exact POST_no hh hr
theorem act_leave (hh : HI F o q) (hr : NOW R F L kw mi) {k t : Nat} (hk : k < kw) (hp : ¬ R 7 k = -100009) (ht : t < kw) (et : R 9 t = R 7 k) (ewho : xX1_whoIsOn R F 9 (R 7 k) = nI t)
    (l0 : ∀ y, 83 ≤ y → y ≠ 88 → L' y = L y) (a1 : L' 88 (5 * k + 1) = -1) (a2 : L' 88 (5 * k + 2) = -1) (a3 : L' 88 (5 * k + 3) = -1) (a4 : t ≠ k → L' 88 (5 * t + 3) = L 88 (5 * k + 3)) (ax : ∀ x, x ≠ 5 * k + 1 → x ≠ 5 * k + 2 → x ≠ 5 * k + 3 → x ≠ 5 * t + 3 → L' 88 x = L 88 x) : POST (xX1_leave R F (nI k) o q) (if t = k then 1 else 0) R L' kw mi := by
  obtain ⟨hC, hG, o', q', hh'⟩ := remF (R := R) hh
  obtain ⟨n1, n2, n3, n4, n5, n6, n7⟩ := hr.1
  have ewho' : xX1_whoIsOn (xX1_remember R F o q).1 (xX1_remember R F o q).2 9 (R 7 k) = nI t := by
    rw [← ewho]
    have hrC : NOW (xX1_remember R F o q).1 (xX1_remember R F o q).2 L kw mi := NOW_rows hr (fun j h1 h2 => hC j (by omega)) hG (fun _ _ _ => rfl)
    obtain ⟨t1, ht1, e1, w1⟩ := taken_spec hrC (k := k) (by omega) (by rw [hC 7 (by decide)]; exact hp)
    rw [hC 7 (by decide)] at e1 w1
    rw [hC 9 (by decide)] at e1
    rw [w1, ewho]
    exact congrArg nI (hr.2.2.2.2.2.1.2.1 t1 t (by omega) (by omega) (by rw [e1]; exact hp) (e1.trans et.symm))
  unfold xX1_leave
  rw [if_neg (isWalker_nI n3 n1 hk), if_neg (fun e => hp ((isAb_i hr hk).mp e)), nI_clamp (show k < 2 ^ 31 by omega), hC 7 (by decide), hC 9 (by decide), ewho', if_neg (isWalker_nI (by rw [hG]; exact n3) n1 ht), nI_clamp (show t < 2 ^ 31 by omega)]
  have hbk : ¬ R 9 k = -100009 := fun q => hp ((hr.2.2.1 _ hk).2.2.2.2.2.1.mpr q)
  have htk : R 7 k = R 9 k ↔ t = k := by
    refine ⟨fun e => hr.2.2.2.2.2.1.2.1 t _ (by omega) (by omega) (by rw [et]; exact hp) (et.trans e), fun e => by rw [← et, e]⟩
  generalize hR1 : sR (sR (sR ((xX1_remember R F o q).1) 9 t (R 9 k)) 7 k (-100009)) 9 k (-100009) = R1
  have r0 : ∀ y, y ≠ 7 → y ≠ 9 → R1 y = (xX1_remember R F o q).1 y := fun y h1 h2 => by rw [← hR1, sR_ne h2, sR_ne h1, sR_ne h2]
  have r7 : R1 7 k = -100009 ∧ ∀ j, j ≠ k → R1 7 j = R 7 j := by
    rw [← hR1, sR_ne (by decide)]
    exact ⟨sR_same, fun j hj => by rw [sR_same_ne hj, sR_ne (by decide), hC 7 (by decide)]⟩
  have r9 : R1 9 k = -100009 ∧ (t ≠ k → R1 9 t = R 9 k) ∧ ∀ j, j ≠ t → j ≠ k → R1 9 j = R 9 j := by
    rw [← hR1]
    exact ⟨sR_same, fun h => by rw [sR_same_ne h, sR_ne (by decide), sR_same], fun j h1 h2 => by rw [sR_same_ne h2, sR_ne (by decide), sR_same_ne h1, hC 9 (by decide)]⟩
  clear hR1
  have hro : ∀ y, y ≠ 7 → y ≠ 9 → y < 19 → R1 y = R y := fun y h1 h2 h3 => by rw [r0 y h1 h2, hC y (by omega)]
  have hN : NOW R1 (xX1_remember R F o q).2 L' kw mi := by
    refine NOW_walk hr (fun j h1 h2 => hro j (by omega) (by omega) (by omega)) (fun j h1 h2 => l0 j (by omega) (by omega)) (rNum_s hr.1 hG (by rw [l0 83 (by decide) (by decide)]) (by rw [l0 83 (by decide) (by decide)]) (by rw [l0 83 (by decide) (by decide)])) (fun j hj => ?_) (fun j hj => ?_) (fun j h1 h2 => ?_) ?_ ?_
    · obtain ⟨b0, bw, b1, b2, b3, b4, b5, b6⟩ := hr.2.2.1 j hj
      by_cases hjk : j = k
      · subst hjk
        refine ⟨by rw [ax _ (by omega) (by omega) (by omega) (by omega), hro 6 (by decide) (by decide) (by decide)]; exact b0, by rw [hro 6 (by decide) (by decide) (by decide)]; exact bw, by rw [a1, r7.1]; rfl, by rw [a2, if_pos r7.1], by rw [a3, r9.1]; rfl, by rw [r7.1, r9.1], fun q => absurd r7.1 q, fun q => absurd r9.1 q⟩
      · have q3 : L' 88 (5 * j + 3) = lo (R1 9 j) ∧ (R1 9 j = -100009 ↔ R 9 j = -100009) ∧ (¬ R1 9 j = -100009 → ∃ c, c < 24 ∧ R1 9 j = nI c) := by
          by_cases hjt : j = t
          · subst hjt
            rw [a4 hjk, r9.2.1 hjk]
            exact ⟨(hr.2.2.1 _ hk).2.2.2.2.1, ⟨fun q => absurd q hbk, fun q => absurd (et.symm.trans q) hp⟩, (hr.2.2.1 _ hk).2.2.2.2.2.2.2⟩
          · rw [ax _ (by omega) (by omega) (by omega) (by omega), r9.2.2 j hjt hjk]
            exact ⟨b3, Iff.rfl, b6⟩
        refine ⟨by rw [ax _ (by omega) (by omega) (by omega) (by omega), hro 6 (by decide) (by decide) (by decide)]; exact b0, by rw [hro 6 (by decide) (by decide) (by decide)]; exact bw, by rw [ax _ (by omega) (by omega) (by omega) (by omega), r7.2 j hjk]; exact b1, ?_, q3.1, ?_, by rw [r7.2 j hjk]; exact b5, q3.2.2⟩
        · rw [ax _ (by omega) (by omega) (by omega) (by omega), hro 8 (by decide) (by decide) (by decide), r7.2 j hjk]
          exact b2
        · rw [q3.2.1, r7.2 j hjk]
          exact b4
    · rw [hro 10 (by decide) (by decide) (by decide), hro 11 (by decide) (by decide) (by decide), hro 12 (by decide) (by decide) (by decide), hro 13 (by decide) (by decide) (by decide)]
      exact bil1_s (hr.2.2.2.1 j hj) rfl rfl rfl rfl (ax _ (by omega) (by omega) (by omega) (by omega)) (fun i hi => by rw [l0 89 (by decide) (by decide)])
    · rw [hro 10 (by decide) (by decide) (by decide), hro 11 (by decide) (by decide) (by decide), hro 13 (by decide) (by decide) (by decide)]
      unfold wOut
      rw [r7.2 j (by omega), r9.2.2 j (by omega) (by omega)]
      exact hr.2.2.2.2.1 j h1 h2
    · exact prm_leave hr.2.2.2.2.2.1 (by omega) (by omega) hp et r7.1 r7.2 r9.1 r9.2.1 r9.2.2
    · rw [hro 11 (by decide) (by decide) (by decide), hro 12 (by decide) (by decide) (by decide), hro 13 (by decide) (by decide) (by decide)]
      unfold tots
      rw [l0 83 (by decide) (by decide)]
      exact hr.2.2.2.2.2.2
  by_cases hx : R 7 k = R 9 k
  · rw [if_pos hx, if_pos (htk.mp hx)]
    exact POST_mk rfl hh' hN (fun y hy => by rw [r0 y (by omega) (by omega), hC y (by omega)])
  · rw [if_neg hx, if_neg (fun q => hx (htk.mpr q))]
    exact POST_mk rfl hh' hN (fun y hy => by rw [r0 y (by omega) (by omega), hC y (by omega)])
end

