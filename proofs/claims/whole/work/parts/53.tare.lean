/-! PURE: tare -/
theorem press_loop {s : Nat → Int32} {pc : Int32} {kw : Nat} : ∀ (m k : Nat) (x : Int32), hX2_isPressed_4 s pc kw m k x = 0 ↔ (x = 0 ∧ ∀ j, k ≤ j → j < k + m → xX2_isAboard s j = 0 ∨ xX2_share (xX2_ofWalker s j 0) (xX2_ofWalker s j 1) pc ≤ 0) := by
  intro m
  induction m with
  | zero => intro k x; exact ⟨fun h => ⟨h, fun j h1 h2 => by omega⟩, fun h => h.1⟩
  | succ m ih =>
    intro k x
    rw [hX2_isPressed_4_s]
    by_cases hx : x = 0
    · rw [if_pos hx]
      by_cases ha : xX2_isAboard s k = 0
      · rw [if_pos ha, ih]
        refine ⟨fun h => ⟨hx, fun j h1 h2 => ?_⟩, fun h => ⟨rfl, fun j h1 h2 => h.2 j (by omega) (by omega)⟩⟩
        by_cases hj : j = k
        · subst hj; exact Or.inl ha
        · exact h.2 j (by omega) (by omega)
      · rw [if_neg ha]
        by_cases hs : xX2_share (xX2_ofWalker s k 0) (xX2_ofWalker s k 1) pc ≤ 0
        · rw [if_pos hs, ih]
          refine ⟨fun h => ⟨hx, fun j h1 h2 => ?_⟩, fun h => ⟨rfl, fun j h1 h2 => h.2 j (by omega) (by omega)⟩⟩
          by_cases hj : j = k
          · subst hj; exact Or.inr hs
          · exact h.2 j (by omega) (by omega)
        · rw [if_neg hs, ih]
          refine ⟨fun h => absurd h.1 (by decide), fun h => ?_⟩
          rcases h.2 k (Nat.le_refl k) (by omega) with h1 | h1
          · exact absurd h1 ha
          · exact absurd h1 hs
    · rw [if_neg hx, ih]
      exact ⟨fun h => absurd h.1 (by decide), fun h => absurd h.1 hx⟩
theorem iS_ge {g : Nat → Int} : ∀ (m k j : Nat), (∀ i, k ≤ i → i < k + m → 0 ≤ g i) → k ≤ j → j < k + m → g j ≤ iS g m k ∧ 0 ≤ iS g m k := by
  intro m
  induction m with
  | zero => intro k j _ h1 h2; omega
  | succ m ih =>
    intro k j h h1 h2
    rw [iS_s]
    have hk := h k (Nat.le_refl k) (by omega)
    by_cases hm : m = 0
    · subst hm
      have e : j = k := by omega
      subst e
      show g j ≤ g j + 0 ∧ 0 ≤ g j + 0
      omega
    · by_cases hj : j = k
      · subst hj
        have := ih (j + 1) (j + 1) (fun i h3 h4 => h i (by omega) (by omega)) (Nat.le_refl _) (by omega)
        omega
      · have := ih (k + 1) j (fun i h3 h4 => h i (by omega) (by omega)) (by omega) (by omega)
        omega
section
variable {n : Nat} {R F : Nat → Nat → Int32} {s : Nat → Int32} {o q kw mi : Nat}
theorem press_term (h : NOW n R F s kw mi) {c j : Nat} (hc : c < 24) (hj : j < kw) : (xX2_isAboard s j = 0 ∨ xX2_share (xX2_ofWalker s j 0) (xX2_ofWalker s j 1) (nI c) ≤ 0) ↔ (shc (R 6 j) (R 7 j) c).toInt ≤ 0 := by
  obtain ⟨w0, -, w1, w2, w3, w4, w5, w6, -⟩ := h.2.2.1 _ hj
  by_cases hx : R 7 j = -100009
  · rw [hx, shc_none]
    exact ⟨fun _ => by decide, fun _ => Or.inl ((isAb0 h hj).mpr hx)⟩
  · obtain ⟨b, hb, eb⟩ := w5 hx
    unfold xX2_ofWalker
    rw [w0, w1, eb, shc_cell hb, SH_share hb hc]
    refine ⟨fun q => ?_, fun q => Or.inr (Int32.le_iff_toInt_le.mpr q)⟩
    rcases q with q | q
    · exact absurd ((isAb0 h hj).mp q) hx
    · exact Int32.le_iff_toInt_le.mp q
theorem press_iff (h : NOW n R F s kw mi) {c : Nat} (hc : c < 24) : xX2_isPressed s (nI c) kw = 0 ↔ (XX (R 6) (R 7) c).toInt = 0 := by
  have hpw : pw 150 (R 6) (R 7) := gR_pp (now_gR h) (now_w h)
  have hb : ∀ j, j < 8 → 0 ≤ (shc (R 6 j) (R 7 j) c).toInt ∧ (shc (R 6 j) (R 7 j) c).toInt ≤ 150 := fun j hj => shc_bd hpw (by decide) (by decide) hj
  have eX : (XX (R 6) (R 7) c).toInt = iS (fun k => (shc (R 6 k) (R 7 k) c).toInt) 8 0 := (ti_sT (g := fun k => shc (R 6 k) (R 7 k) c) (B := 150) 8 0 (fun j _ hj => by
    have := hb j (by omega)
    show -150 ≤ (shc (R 6 j) (R 7 j) c).toInt ∧ (shc (R 6 j) (R 7 j) c).toInt ≤ 150
    omega) (by decide) (by decide)).1
  unfold xX2_isPressed
  rw [press_loop, eX]
  refine ⟨fun hp => ?_, fun hp => ⟨rfl, fun j h1 h2 => ?_⟩⟩
  · have hz : sT (fun k => shc (R 6 k) (R 7 k) c) 8 0 = 0 := sT_zero 8 0 (fun j _ hj => by
      show shc (R 6 j) (R 7 j) c = 0
      by_cases hjk : j < kw
      · have h1 := (press_term h hc hjk).mp (hp.2 j (by omega) (by omega))
        have h2 := hb j (by omega)
        exact Int32.toInt_inj.mp (by rw [i_0]; omega)
      · rw [(h.2.2.2.2.1 j (by omega) (by omega)).1, shc_none])
    rw [← eX]
    unfold XX
    rw [hz]
    rfl
  · have h8 := h.1.1
    rw [press_term h hc (by omega)]
    have := (iS_ge (g := fun k => (shc (R 6 k) (R 7 k) c).toInt) 8 0 j (fun i _ hi => (hb i (by omega)).1) (by omega) (by omega)).1
    rw [hp] at this
    exact this
theorem act_tare (hh : HI n R F o q) (hr : NOW n R F (R 84) kw mi) (p1 : Int32) : ACT n R F (xX1_tare R F p1 o q) (fun R1 F1 => xX2_tare R1 F1 p1 kw q) := by
  unfold xX1_tare
  rw [isC]
  by_cases hc : xX2_isCell p1 = 0
  · rw [if_pos hc]
    exact ACT_mk (by show xX2_tare _ _ p1 kw q = _; unfold xX2_tare; rw [if_pos hc]) rfl rfl rfl (INV_mk hh hr)
  rw [if_neg hc]
  obtain ⟨e, hlt⟩ := cell_of hc
  have h15 : ∀ c, c < 24 → xX1_weighAll R F 15 c = GR (xX1_weighAll R F 2) (xX1_weighAll R F 6) (xX1_weighAll R F 7) c := fun c hcc => by
    rw [weighAll_at hcc, weighAll_ne (show (2 : Nat) ≠ 15 by decide), weighAll_ne (show (6 : Nat) ≠ 15 by decide), weighAll_ne (show (7 : Nat) ≠ 15 by decide)]
  have h84 : xX1_weighAll R F 84 = R 84 := weighAll_ne (by decide)
  have hh0 : HI n (xX1_weighAll R F) F o q := HI_congr hh (fun i h1 h2 => weighAll_ne (by omega)) (weighAll_ne (by decide)) rfl rfl (fun _ _ => rfl)
  have hr0 : NOW n (xX1_weighAll R F) F (xX1_weighAll R F 84) kw mi := by
    rw [h84]
    exact NOW_rows hr (fun j h1 h2 => weighAll_ne (by omega)) rfl
  generalize xX1_weighAll R F = R0 at *
  have hpw : pw 150 (R0 6) (R0 7) := gR_pp (now_gR hr0) (now_w hr0)
  have hX := XX_bd hpw (by decide) (by decide) p1.toNatClampNeg
  have hG0 : (R0 15 p1.toNatClampNeg).toInt = (R0 2 p1.toNatClampNeg).toInt + (XX (R0 6) (R0 7) p1.toNatClampNeg).toInt := by
    rw [h15 _ hlt, GR_ti (B := 6000) (fun c hcc => by
      have := now_zt hr0 c hcc
      omega) (by decide) hpw (by decide) (by decide) hlt]
  obtain ⟨hC, hG, hG8⟩ := remF hh0
  by_cases hd : R0 15 p1.toNatClampNeg ≤ R0 2 p1.toNatClampNeg
  · have hX0 : (XX (R0 6) (R0 7) p1.toNatClampNeg).toInt = 0 := by
      have := Int32.le_iff_toInt_le.mp hd
      omega
    have hpr : xX2_isPressed (R0 84) (nI p1.toNatClampNeg) kw = 0 := (press_iff hr0 hlt).mpr hX0
    rw [if_pos hd]
    have e84 : ∀ k v l x, sR (sR (xX1_remember R0 F o q).1 4 k v) 5 l x 84 = R0 84 := fun k v l x => by rw [sR_ne (by decide), sR_ne (by decide), hC 84 (by decide)]
    refine ACT_mk (by show xX2_tare _ _ p1 kw q = _; unfold xX2_tare; rw [if_neg hc, e84, if_pos hpr]) ((e84 _ _ _ _).trans h84) hG8 ?_ ?_
    · unfold xX2_of
      rw [sR_ne (by decide), sR_same, sR_same_ne (by omega), sR_same, acts_ne (by decide), e84, reading_eq (now_gR hr0) hlt, hC 15 (by decide), h15 _ hlt]
    · refine INV_act hh0 hr0 (Nat.le_refl _) (fun i h1 h2 => by rw [sR_ne (by omega), sR_ne (by omega)]) (e84 _ _ _ _) (by rw [sR_ne (by decide), sR_ne (by decide), hC 85 (by decide)]) (fun y hy => rfl) (fun i hi => by rw [sR_ne hi, sR_ne hi]) rfl ?_ (kw' := kw) (mi' := mi)
      have hA : (xX2_acts (sR (sR (xX1_remember R0 F o q).1 4 p1.toNatClampNeg ((xX1_remember R0 F o q).1 15 p1.toNatClampNeg)) 5 p1.toNatClampNeg ((xX1_remember R0 F o q).2 1 0)) (xX1_remember R0 F o q).2 q).1 84 = R0 84 := by rw [acts_ne (by decide), e84]
      generalize (xX2_acts (sR (sR (xX1_remember R0 F o q).1 4 p1.toNatClampNeg ((xX1_remember R0 F o q).1 15 p1.toNatClampNeg)) 5 p1.toNatClampNeg ((xX1_remember R0 F o q).2 1 0)) (xX1_remember R0 F o q).2 q).1 = A at hA ⊢
      generalize (xX1_remember R0 F o q).1 = C at *
      generalize (xX1_remember R0 F o q).2 = G at *
      rw [hA, hC 15 (by decide), hG, reading_eq (now_gR hr0) hlt, ← h15 _ hlt, sR_same_ne (show (0 : Nat) ≠ 6 + 4 * p1.toNatClampNeg + 2 by omega), hA, hr0.1.2.2.2.2.1, hr0.1.2.2.2.2.2.1]
      have hs : ∀ x, x ≠ 6 + 4 * p1.toNatClampNeg + 2 → x ≠ 6 + 4 * p1.toNatClampNeg + 3 → sR (sR A 84 (6 + 4 * p1.toNatClampNeg + 2) (R0 15 p1.toNatClampNeg)) 84 (6 + 4 * p1.toNatClampNeg + 3) (nI mi) 84 x = R0 84 x := fun x h1 h2 => by rw [sR_same_ne h2, sR_same_ne h1, hA]
      refine NOW_cells hr0 (fun j h1 h2 => by rw [sR_ne (by omega), sR_ne (by omega), hC j (by omega)]) (rNum_s hr0.1 hG (hs 0 (by omega) (by omega)) (hs 1 (by omega) (by omega)) (hs 2 (by omega) (by omega))) (fun c hcc => ?_) (fun x hx => hs x (by omega) (by omega))
      rw [sR_ne (show (2 : Nat) ≠ 5 by decide), sR_ne (show (2 : Nat) ≠ 4 by decide), sR_ne (show (3 : Nat) ≠ 5 by decide), sR_ne (show (3 : Nat) ≠ 4 by decide), sR_ne (show (4 : Nat) ≠ 5 by decide), hC 2 (by decide), hC 3 (by decide)]
      by_cases hx : c = p1.toNatClampNeg
      · obtain ⟨a1, a2, a3, a4, a5, m, a6, a7, a8, a9⟩ := hr0.2.1 c hcc
        subst hx
        refine ⟨(hs _ (by omega) (by omega)).trans a1, (hs _ (by omega) (by omega)).trans a2, by rw [sR_same_ne (by omega), sR_same, sR_same], by rw [sR_same, sR_same], a5, mi, Nat.le_refl _, by rw [sR_same], a8, ?_⟩
        rw [sR_same]
        omega
      · exact cel1_s (hr0.2.1 c hcc) rfl rfl (by rw [sR_same_ne hx, hC 4 (by decide)]) (by rw [sR_same_ne hx, sR_ne (by decide), hC 5 (by decide)]) (fun j hj => hs _ (by omega) (by omega))
  · have hpr : ¬ xX2_isPressed (R0 84) (nI p1.toNatClampNeg) kw = 0 := fun q => hd (Int32.le_iff_toInt_le.mpr (by
      have := (press_iff hr0 hlt).mp q
      omega))
    rw [if_neg hd]
    exact ACT_mk (by show xX2_tare _ _ p1 kw q = _; unfold xX2_tare; rw [if_neg hc, if_neg hpr]) h84 rfl rfl (INV_mk hh0 hr0)
end
