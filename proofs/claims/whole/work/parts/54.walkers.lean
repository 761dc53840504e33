/-! PURE: walkers: what changes a row of walkers, and board -/
theorem NOW_walk {n m : Nat} {R F R' F' : Nat → Nat → Int32} {s s' : Nat → Int32} {kw kw' mi : Nat} (h : NOW n R F s kw mi) (hR : ∀ j, 2 ≤ j → j ≤ 5 → R' j = R j) (hn : rNum (F' 1) s' kw' mi) (hs : ∀ x, 6 ≤ x → x < 102 → s' x = s x)
    (hw : ∀ k, k < kw' → wlk1 (R' 6) (R' 7) (R' 8) (R' 9) s' k) (hb : ∀ k, k < kw' → bil1 m (R' 10) (R' 11) (R' 12) (R' 13) s' k) (ho : ∀ k, kw' ≤ k → k < 8 → wOut (R' 7) (R' 9) (R' 10) (R' 11) (R' 13) k) (hp : prm (R' 7) (R' 9)) (ht : tots (R' 11) (R' 12) (R' 13) s') : NOW m R' F' s' kw' mi := by
  unfold NOW
  rw [hR 2 (by decide) (by decide), hR 3 (by decide) (by decide), hR 4 (by decide) (by decide), hR 5 (by decide) (by decide)]
  refine ⟨hn, fun c hc => cel1_s (h.2.1 c hc) rfl rfl rfl rfl (fun j hj => hs _ (by omega) (by omega)), hw, hb, ho, hp, ht⟩
theorem wlk1_s {w p bw b s w' p' bw' b' s' : Nat → Int32} {k : Nat} (h : wlk1 w p bw b s k) (hw : w' k = w k) (hp : p' k = p k) (hbw : bw' k = bw k) (hb : b' k = b k) (hs : ∀ j, j < 4 → s' (102 + 10 * k + j) = s (102 + 10 * k + j)) : wlk1 w' p' bw' b' s' k := by
  unfold wlk1
  rw [hw, hp, hbw, hb, hs 0 (by decide), hs 1 (by decide), hs 2 (by decide), hs 3 (by decide)]
  exact h
theorem bil1_s {n m : Nat} {a bk bp bb s a' bk' bp' bb' s' : Nat → Int32} {k : Nat} (hnm : n ≤ m) (h : bil1 n a bk bp bb s k) (ha : a' k = a k) (hk : bk' k = bk k) (hp : bp' k = bp k) (hb : bb' k = bb k) (hs : ∀ j, 4 ≤ j → j < 10 → s' (102 + 10 * k + j) = s (102 + 10 * k + j)) : bil1 m a' bk' bp' bb' s' k := by
  unfold bil1
  rw [ha, hk, hp, hb, hs 4 (by decide) (by decide), hs 5 (by decide) (by decide), hs 6 (by decide) (by decide), hs 7 (by decide) (by decide), hs 8 (by decide) (by decide), hs 9 (by decide) (by decide)]
  obtain ⟨a1, ⟨x, a2, a3⟩, a4⟩ := h
  exact ⟨a1, ⟨x, by omega, a3⟩, a4⟩
theorem who_free {R F : Nat → Nat → Int32} {i : Nat} {p : Int32} : ∀ (n k : Nat), k + n < 2 ^ 31 → hX1_whoIsOn_2 R F i p n k = -100009 → ∀ j, k ≤ j → j < k + n → ¬ R i j = p := by
  intro n
  induction n with
  | zero => intro k _ _ j h1 h2; omega
  | succ n ih =>
    intro k hk h j h1 h2
    rw [hX1_whoIsOn_2_s] at h
    by_cases he : R i k = p
    · rw [if_pos he] at h
      exact absurd h (nI_nn (by omega))
    · rw [if_neg he] at h
      by_cases hj : j = k
      · subst hj; exact he
      · exact ih (k + 1) (by omega) h j (by omega) (by omega)
theorem prm_add {p b p' b' : Nat → Int32} {k : Nat} {x : Int32} (h : prm p b) (hk : k < 8) (hpk : p k = -100009) (hbk : b k = -100009) (hx : ¬ x = -100009) (hf : ∀ i, i < 8 → ¬ p i = x) (p1 : p' k = x) (p2 : ∀ i, i ≠ k → p' i = p i) (b1 : b' k = x) (b2 : ∀ i, i ≠ k → b' i = b i) : prm p' b' := by
  obtain ⟨h1, h2, h3, h4⟩ := h
  have hfb : ∀ i, i < 8 → ¬ b i = x := fun i hi e => by
    obtain ⟨j, hj, e2⟩ := h4 i hi (by rw [e]; exact hx)
    exact hf j hj (e2.trans e)
  refine ⟨fun i j hi hj hn e => ?_, fun i j hi hj hn e => ?_, fun i hi hn => ?_, fun i hi hn => ?_⟩
  · by_cases c1 : i = k
    · by_cases c2 : j = k
      · rw [c1, c2]
      · rw [c1, p1, p2 j c2] at e
        exact absurd e.symm (hf j hj)
    · by_cases c2 : j = k
      · rw [c2, p1, p2 i c1] at e
        exact absurd e (hf i hi)
      · rw [p2 i c1] at hn
        rw [p2 i c1, p2 j c2] at e
        exact h1 i j hi hj hn e
  · by_cases c1 : i = k
    · by_cases c2 : j = k
      · rw [c1, c2]
      · rw [c1, b1, b2 j c2] at e
        exact absurd e.symm (hfb j hj)
    · by_cases c2 : j = k
      · rw [c2, b1, b2 i c1] at e
        exact absurd e (hfb i hi)
      · rw [b2 i c1] at hn
        rw [b2 i c1, b2 j c2] at e
        exact h2 i j hi hj hn e
  · by_cases c1 : i = k
    · exact ⟨k, hk, by rw [b1, c1, p1]⟩
    · rw [p2 i c1] at hn ⊢
      obtain ⟨j, hj, e⟩ := h3 i hi hn
      exact ⟨j, hj, by rw [b2 j (fun c2 => hn (by rw [← e, c2, hbk])), e]⟩
  · by_cases c1 : i = k
    · exact ⟨k, hk, by rw [p1, c1, b1]⟩
    · rw [b2 i c1] at hn ⊢
      obtain ⟨j, hj, e⟩ := h4 i hi hn
      exact ⟨j, hj, by rw [p2 j (fun c2 => hn (by rw [← e, c2, hpk])), e]⟩
/-- k goes from its cell to x; t's book place was k's cell, and becomes x too -/
theorem prm_walk {p b p' b' : Nat → Int32} {k t : Nat} {x : Int32} (h : prm p b) (hk : k < 8) (ht : t < 8) (hpk : ¬ p k = -100009) (hbt : b t = p k) (hx : ¬ x = -100009) (hf : ∀ i, i < 8 → ¬ p i = x) (p1 : p' k = x) (p2 : ∀ i, i ≠ k → p' i = p i) (b1 : b' t = x) (b2 : ∀ i, i ≠ t → b' i = b i) : prm p' b' := by
  obtain ⟨h1, h2, h3, h4⟩ := h
  have hfb : ∀ i, i < 8 → ¬ b i = x := fun i hi e => by
    obtain ⟨j, hj, e2⟩ := h4 i hi (by rw [e]; exact hx)
    exact hf j hj (e2.trans e)
  refine ⟨fun i j hi hj hn e => ?_, fun i j hi hj hn e => ?_, fun i hi hn => ?_, fun i hi hn => ?_⟩
  · by_cases c1 : i = k
    · by_cases c2 : j = k
      · rw [c1, c2]
      · rw [c1, p1, p2 j c2] at e
        exact absurd e.symm (hf j hj)
    · by_cases c2 : j = k
      · rw [c2, p1, p2 i c1] at e
        exact absurd e (hf i hi)
      · rw [p2 i c1] at hn
        rw [p2 i c1, p2 j c2] at e
        exact h1 i j hi hj hn e
  · by_cases c1 : i = t
    · by_cases c2 : j = t
      · rw [c1, c2]
      · rw [c1, b1, b2 j c2] at e
        exact absurd e.symm (hfb j hj)
    · by_cases c2 : j = t
      · rw [c2, b1, b2 i c1] at e
        exact absurd e (hfb i hi)
      · rw [b2 i c1] at hn
        rw [b2 i c1, b2 j c2] at e
        exact h2 i j hi hj hn e
  · by_cases c1 : i = k
    · exact ⟨t, ht, by rw [b1, c1, p1]⟩
    · rw [p2 i c1] at hn ⊢
      obtain ⟨j, hj, e⟩ := h3 i hi hn
      exact ⟨j, hj, by rw [b2 j (fun c2 => c1 (h1 i k hi hk hn (by rw [← e, c2, hbt]))), e]⟩
  · by_cases c1 : i = t
    · exact ⟨k, hk, by rw [p1, c1, b1]⟩
    · rw [b2 i c1] at hn ⊢
      obtain ⟨j, hj, e⟩ := h4 i hi hn
      exact ⟨j, hj, by rw [p2 j (fun c2 => c1 (h2 i t hi ht hn (by rw [← e, c2, hbt]))), e]⟩
/-- k goes ashore; t's book place was k's cell, and becomes k's book place -/
theorem prm_leave {p b p' b' : Nat → Int32} {k t : Nat} (h : prm p b) (hk : k < 8) (ht : t < 8) (hpk : ¬ p k = -100009) (hbt : b t = p k) (p1 : p' k = -100009) (p2 : ∀ i, i ≠ k → p' i = p i) (b1 : b' k = -100009) (b2 : t ≠ k → b' t = b k) (b3 : ∀ i, i ≠ t → i ≠ k → b' i = b i) : prm p' b' := by
  obtain ⟨h1, h2, h3, h4⟩ := h
  refine ⟨fun i j hi hj hn e => ?_, fun i j hi hj hn e => ?_, fun i hi hn => ?_, fun i hi hn => ?_⟩
  · by_cases c1 : i = k
    · rw [c1, p1] at hn
      exact absurd rfl hn
    · by_cases c2 : j = k
      · rw [c2, p1] at e
        exact absurd e hn
      · rw [p2 i c1] at hn
        rw [p2 i c1, p2 j c2] at e
        exact h1 i j hi hj hn e
  · by_cases c1 : i = k
    · rw [c1, b1] at hn
      exact absurd rfl hn
    · by_cases c2 : j = k
      · rw [c2, b1] at e
        exact absurd e hn
      · by_cases c3 : i = t
        · by_cases c4 : j = t
          · rw [c3, c4]
          · rw [c3] at hn e c1
            rw [b2 c1] at hn
            rw [b2 c1, b3 j c4 c2] at e
            exact absurd (h2 k j hk hj hn e).symm c2
        · by_cases c4 : j = t
          · rw [b3 i c3 c1] at hn
            rw [c4] at e c2
            rw [b2 c2, b3 i c3 c1] at e
            exact absurd (h2 i k hi hk hn e) c1
          · rw [b3 i c3 c1] at hn
            rw [b3 i c3 c1, b3 j c4 c2] at e
            exact h2 i j hi hj hn e
  · by_cases c1 : i = k
    · rw [c1, p1] at hn
      exact absurd rfl hn
    · rw [p2 i c1] at hn ⊢
      obtain ⟨j, hj, e⟩ := h3 i hi hn
      have cj : j ≠ t := fun c => c1 (h1 i k hi hk hn (by rw [← e, c, hbt]))
      by_cases c2 : j = k
      · subst c2
        exact ⟨t, ht, by rw [b2 (Ne.symm cj), e]⟩
      · exact ⟨j, hj, by rw [b3 j cj c2, e]⟩
  · by_cases c1 : i = k
    · rw [c1, b1] at hn
      exact absurd rfl hn
    · by_cases c3 : i = t
      · rw [c3] at hn c1 ⊢
        rw [b2 c1] at hn ⊢
        obtain ⟨j, hj, e⟩ := h4 k hk hn
        exact ⟨j, hj, by rw [p2 j (fun c => c1 (h2 t k ht hk (by rw [hbt]; exact hpk) (by rw [hbt, ← e, c]))), e]⟩
      · rw [b3 i c3 c1] at hn ⊢
        obtain ⟨j, hj, e⟩ := h4 i hi hn
        exact ⟨j, hj, by rw [p2 j (fun c => c3 (h2 i t hi ht hn (by rw [← e, c, hbt]))), e]⟩
section
variable {n : Nat} {R F : Nat → Nat → Int32} {o q kw mi : Nat}
theorem board_loop {p1 p2 p3 : Int32} : ∀ (m k : Nat) (R1 : Nat → Nat → Int32), ∃ R', hX2_board_77 R F p1 p2 p3 kw q m k R1 = ((nI kw), (sR (sR (sR (sR (sR (sR R' 84 ((102 + (10 * kw)) + 0) p1) 84 ((102 + (10 * kw)) + 1) p3) 84 ((102 + (10 * kw)) + 2) p2) 84 ((102 + (10 * kw)) + 3) p3) 84 ((102 + (10 * kw)) + 5) (-100009 : Int32)) 84 1 (R' 84 1 + (1 : Int32))), ((xX2_acts R F q).2)) ∧ (∀ y, y ≠ 84 → R' y = R1 y) ∧ (∀ j, k ≤ j → j < k + m → R' 84 (102 + 10 * kw + j) = 0) ∧ (∀ x, x < 102 + 10 * kw + k ∨ 102 + 10 * kw + k + m ≤ x → R' 84 x = R1 84 x) := by
  intro m
  induction m with
  | zero =>
    intro k R1
    refine ⟨R1, ?_, fun y _ => rfl, fun j h1 h2 => by omega, fun x _ => rfl⟩
    rw [hX2_board_77_z, sR_same_ne (by omega), sR_same_ne (by omega), sR_same_ne (by omega), sR_same_ne (by omega), sR_same_ne (by omega)]
  | succ m ih =>
    intro k R1
    obtain ⟨R', e1, e2, e3, e4⟩ := ih (k + 1) (sR R1 84 ((102 + (10 * kw)) + k) 0)
    refine ⟨R', by rw [hX2_board_77_s, e1], fun y hy => by rw [e2 y hy, sR_ne hy], fun j h1 h2 => ?_, fun x hx => ?_⟩
    · by_cases hj : j = k
      · subst hj
        rw [e4 _ (by omega), sR_same]
      · exact e3 j (by omega) (by omega)
    · rw [e4 x (by omega), sR_same_ne (by omega)]
theorem act_board (hh : HI n R F o q) (hr : NOW n R F (R 84) kw mi) (p1 p2 p3 : Int32) : ACT n R F (xX1_board R F p1 p2 p3 o q) (fun R1 F1 => xX2_board R1 F1 p1 p2 p3 kw q) := by
  obtain ⟨hC, hG, hG8⟩ := remF hh
  obtain ⟨n1, n2, n3, n4, n5, n6, n7⟩ := hr.1
  unfold xX1_board
  rw [isC, show xX1_isWeight p1 = xX2_isWeight p1 from rfl, show xX1_isWeight p2 = xX2_isWeight p2 from rfl]
  by_cases hc : xX2_isWeight p1 = 0
  · rw [if_pos hc]
    exact ACT_mk (by show xX2_board _ _ p1 p2 p3 kw q = _; unfold xX2_board; rw [if_pos hc]) rfl rfl rfl (INV_mk hh hr)
  rw [if_neg hc]
  by_cases hd : xX2_isWeight p2 = 0
  · rw [if_pos hd]
    exact ACT_mk (by show xX2_board _ _ p1 p2 p3 kw q = _; unfold xX2_board; rw [if_neg hc, if_pos hd]) rfl rfl rfl (INV_mk hh hr)
  rw [if_neg hd]
  by_cases he : xX2_isCell p3 = 0
  · rw [if_pos he]
    exact ACT_mk (by show xX2_board _ _ p1 p2 p3 kw q = _; unfold xX2_board; rw [if_neg hc, if_neg hd, if_pos he]) rfl rfl rfl (INV_mk hh hr)
  rw [if_neg he]
  obtain ⟨e, hlt⟩ := cell_of he
  have hnn := cell_nn he
  have hwho := whoAT hr hnn
  by_cases hf : ¬ xX1_whoIsOn R F 7 p3 = -100009
  · rw [if_neg hf]
    exact ACT_mk (by show xX2_board _ _ p1 p2 p3 kw q = _; unfold xX2_board; rw [if_neg hc, if_neg hd, if_neg he, if_neg (by rw [← hwho]; exact hf)]) rfl rfl rfl (INV_mk hh hr)
  have hf := Classical.not_not.mp hf
  rw [if_pos hf]
  have hf2 : xX2_on (R 84) p3 1 kw = -100009 := hwho.symm.trans hf
  by_cases h8 : kw = 8
  · have hw8 : xX1_isWithin (F 1 2) 0 7 = 0 := by rw [n3, h8]; decide
    rw [if_pos hw8]
    exact ACT_mk (by show xX2_board _ _ p1 p2 p3 kw q = _; unfold xX2_board; rw [if_neg hc, if_neg hd, if_neg he, if_pos hf2, if_pos (by rw [n4, h8]; rfl)]) rfl rfl rfl (INV_mk hh hr)
  · have hk8 : kw < 8 := by omega
    have hw8 : ¬ xX1_isWithin (F 1 2) 0 7 = 0 := by
      rw [n3]
      rcases (by omega : kw = 0 ∨ kw = 1 ∨ kw = 2 ∨ kw = 3 ∨ kw = 4 ∨ kw = 5 ∨ kw = 6 ∨ kw = 7) with rfl | rfl | rfl | rfl | rfl | rfl | rfl | rfl <;> decide
    have hm8 : ¬ R 84 1 = 8 := fun q => h8 ((nI_eq (a := kw) (b := 8) (by omega) (by decide)).mp (n4.symm.trans q))
    rw [if_neg hw8, n3, nI_clamp (by omega)]
    generalize hR1 : sR (sR (sR (sR ((xX1_remember R F o q).1) 6 kw p1) 7 kw p3) 8 kw p2) 9 kw p3 = R1
    have r84 : ∀ y, y < 6 ∨ 9 < y → R1 y = (xX1_remember R F o q).1 y := fun y hy => by rw [← hR1, sR_ne (by omega), sR_ne (by omega), sR_ne (by omega), sR_ne (by omega)]
    have r6 : R1 6 kw = p1 ∧ ∀ k, k ≠ kw → R1 6 k = R 6 k := by
      rw [← hR1, sR_ne (by decide), sR_ne (by decide), sR_ne (by decide)]
      exact ⟨sR_same, fun k hk => by rw [sR_same_ne hk, hC 6 (by decide)]⟩
    have r7 : R1 7 kw = p3 ∧ ∀ k, k ≠ kw → R1 7 k = R 7 k := by
      rw [← hR1, sR_ne (by decide), sR_ne (by decide)]
      exact ⟨sR_same, fun k hk => by rw [sR_same_ne hk, sR_ne (by decide), hC 7 (by decide)]⟩
    have r8 : R1 8 kw = p2 ∧ ∀ k, k ≠ kw → R1 8 k = R 8 k := by
      rw [← hR1, sR_ne (by decide)]
      exact ⟨sR_same, fun k hk => by rw [sR_same_ne hk, sR_ne (by decide), sR_ne (by decide), hC 8 (by decide)]⟩
    have r9 : R1 9 kw = p3 ∧ ∀ k, k ≠ kw → R1 9 k = R 9 k := by
      rw [← hR1]
      exact ⟨sR_same, fun k hk => by rw [sR_same_ne hk, sR_ne (by decide), sR_ne (by decide), sR_ne (by decide), hC 9 (by decide)]⟩
    clear hR1
    have e84 : R1 84 = R 84 := by rw [r84 84 (by decide), hC 84 (by decide)]
    generalize hF1 : sR ((xX1_remember R F o q).2) 1 2 ((((xX1_remember R F o q).2) 1 2) + (1 : Int32)) = F1
    have f1 : F1 1 2 = nI (kw + 1) := by rw [← hF1, sR_same, hG, n3, nI_1]
    have f2 : F1 1 0 = F 1 0 ∧ F1 1 1 = F 1 1 := by rw [← hF1, sR_same_ne (by decide), sR_same_ne (by decide), hG]; exact ⟨rfl, rfl⟩
    have f3 : ∀ y, y ≠ 1 → F1 y = (xX1_remember R F o q).2 y := fun y hy => by rw [← hF1, sR_ne hy]
    clear hF1
    obtain ⟨R', e1, e2, e3, e4⟩ := board_loop (R := R1) (F := F1) (kw := kw) (q := q) (p1 := p1) (p2 := p2) (p3 := p3) 10 0 ((xX2_acts R1 F1 q).1)
    have hx0 : ∀ x, x < 102 + 10 * kw ∨ 102 + 10 * kw + 10 ≤ x → R' 84 x = R 84 x := fun x hx => by rw [e4 x (by omega), acts_ne (by decide), e84]
    refine ACT_mk (by show xX2_board _ _ p1 p2 p3 kw q = _; unfold xX2_board; rw [if_neg hc, if_neg hd, if_neg he, e84, if_pos hf2, if_neg hm8, e1]) e84 (by rw [f3 83 (by decide)]; exact hG8) rfl ?_
    refine INV_act hh hr (Nat.le_refl _) (fun i h1 h2 => r84 i (by omega)) e84 (by rw [r84 85 (by decide), hC 85 (by decide)]) f3 (fun i hi => by rw [sR_ne hi, sR_ne hi, sR_ne hi, sR_ne hi, sR_ne hi, sR_ne hi, e2 i hi]) rfl ?_ (kw' := kw + 1) (mi' := mi)
    generalize hs : sR (sR (sR (sR (sR (sR R' 84 ((102 + (10 * kw)) + 0) p1) 84 ((102 + (10 * kw)) + 1) p3) 84 ((102 + (10 * kw)) + 2) p2) 84 ((102 + (10 * kw)) + 3) p3) 84 ((102 + (10 * kw)) + 5) (-100009 : Int32)) 84 1 (R' 84 1 + (1 : Int32)) 84 = s
    have sx : ∀ x, x ≠ 1 → x < 102 + 10 * kw ∨ 102 + 10 * kw + 10 ≤ x → s x = R 84 x := fun x h1 hx => by rw [← hs, sR_same_ne h1, sR_same_ne (by omega), sR_same_ne (by omega), sR_same_ne (by omega), sR_same_ne (by omega), sR_same_ne (by omega), hx0 x hx]
    have s1 : s 1 = nI (kw + 1) := by rw [← hs, sR_same, hx0 1 (by omega), n4, nI_1]
    have a0 : s (102 + 10 * kw + 0) = p1 := by rw [← hs, sR_same_ne (by omega), sR_same_ne (by omega), sR_same_ne (by omega), sR_same_ne (by omega), sR_same_ne (by omega), sR_same]
    have a1 : s (102 + 10 * kw + 1) = p3 := by rw [← hs, sR_same_ne (by omega), sR_same_ne (by omega), sR_same_ne (by omega), sR_same_ne (by omega), sR_same]
    have a2 : s (102 + 10 * kw + 2) = p2 := by rw [← hs, sR_same_ne (by omega), sR_same_ne (by omega), sR_same_ne (by omega), sR_same]
    have a3 : s (102 + 10 * kw + 3) = p3 := by rw [← hs, sR_same_ne (by omega), sR_same_ne (by omega), sR_same]
    have a5 : s (102 + 10 * kw + 5) = -100009 := by rw [← hs, sR_same_ne (by omega), sR_same]
    have az : ∀ j, j = 4 ∨ 6 ≤ j ∧ j < 10 → s (102 + 10 * kw + j) = 0 := fun j hj => by rw [← hs, sR_same_ne (by omega), sR_same_ne (by omega), sR_same_ne (by omega), sR_same_ne (by omega), sR_same_ne (by omega), sR_same_ne (by omega), e3 j (by omega) (by omega)]
    clear hs
    have hro : ∀ y, 10 ≤ y → y ≤ 13 → R1 y = R y := fun y h1 h2 => by rw [r84 y (by omega), hC y (by omega)]
    obtain ⟨o1, o2, o3, o4, o5⟩ := hr.2.2.2.2.1 kw (Nat.le_refl kw) hk8
    refine NOW_walk hr (fun j h1 h2 => by rw [r84 j (by omega), hC j (by omega)]) ⟨by omega, n2, f1, s1, f2.1.trans n5, by rw [sx 0 (by decide) (by omega)]; exact n6, by rw [sx 2 (by decide) (by omega), f2.2]; exact n7⟩ (fun x h1 h2 => sx x (by omega) (by omega)) (fun k hk => ?_) (fun k hk => ?_) (fun k h1 h2 => ?_) ?_ ?_
    · by_cases hkk : k = kw
      · subst hkk
        unfold wlk1
        rw [a0, a1, a2, a3, r6.1, r7.1, r8.1, r9.1, if_neg hnn]
        have i1 := in_of hc
        have i2 := in_of hd
        have i20 : (20 : Int32).toInt = 20 := rfl
        have i150 : (150 : Int32).toInt = 150 := rfl
        exact ⟨rfl, by omega, rfl, rfl, rfl, Iff.rfl, fun _ => ⟨_, hlt, e⟩, fun _ => ⟨_, hlt, e⟩, by omega⟩
      · exact wlk1_s (hr.2.2.1 k (by omega)) (r6.2 k hkk) (r7.2 k hkk) (r8.2 k hkk) (r9.2 k hkk) (fun j hj => sx _ (by omega) (by omega))
    · rw [hro 10 (by decide) (by decide), hro 11 (by decide) (by decide), hro 12 (by decide) (by decide), hro 13 (by decide) (by decide)]
      by_cases hkk : k = kw
      · subst hkk
        unfold bil1
        rw [az 4 (by decide), a5, az 6 (by decide), az 7 (by decide), az 8 (by decide), az 9 (by decide), o3, o4, o5]
        have hz : ∀ x : Int32, oz (-100009) * x = 0 := fun x => by
          show (0 : Int32) * x = 0
          grind
        exact ⟨rfl, ⟨0, by omega, rfl⟩, rfl, (hz _).symm, (hz _).symm, fun q => absurd rfl q, ⟨fun q => absurd q (by decide), fun q => absurd rfl q⟩, Or.inl rfl, Or.inl rfl, fun q => absurd rfl q⟩
      · exact bil1_s (Nat.le_refl _) (hr.2.2.2.1 k (by omega)) rfl rfl rfl rfl (fun j h1 h2 => sx _ (by omega) (by omega))
    · rw [hro 10 (by decide) (by decide), hro 11 (by decide) (by decide), hro 13 (by decide) (by decide)]
      unfold wOut
      rw [r7.2 k (by omega), r9.2 k (by omega)]
      exact hr.2.2.2.2.1 k (by omega) h2
    · exact prm_add hr.2.2.2.2.2.1 hk8 o1 o2 hnn (fun i hi => who_free 8 0 (by decide) hf i (by omega) (by omega)) r7.1 r7.2 r9.1 r9.2
    · rw [hro 11 (by decide) (by decide), hro 12 (by decide) (by decide), hro 13 (by decide) (by decide)]
      unfold tots
      rw [sx 3 (by decide) (by omega), sx 4 (by decide) (by omega), sx 5 (by decide) (by omega)]
      exact hr.2.2.2.2.2.2
end
