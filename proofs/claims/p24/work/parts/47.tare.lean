/-! PURE: tare -/
theorem iS_ge {g : Nat → Int} : ∀ (m k j : Nat), (∀ i, k ≤ i → i < k + m → 0 ≤ g i) → k ≤ j → j < k + m → g j ≤ iS g m k ∧ 0 ≤ iS g m k := by
  intro m
  induction m with
  | zero => intro k j _ h1 h2; omega
  | succ m ih =>
    intro k j h h1 h2
    rw [iS_s]
    have hk := h k (Nat.le_refl k) (by omega)
    by_cases hm : m = 0
    · subst hm
      have e : j = k := by omega
      subst e
      show g j ≤ g j + 0 ∧ 0 ≤ g j + 0
      omega
    · by_cases hj : j = k
      · subst hj
        have := ih (j + 1) (j + 1) (fun i h3 h4 => h i (by omega) (by omega)) (Nat.le_refl _) (by omega)
        omega
      · have := ih (k + 1) j (fun i h3 h4 => h i (by omega) (by omega)) (by omega) (by omega)
        omega
section
variable {R F L L' : Nat → Nat → Int32} {o q kw mi : Nat}
theorem XX_iS (h : NOW R F L kw mi) {c : Nat} : (XX (R 6) (R 7) c).toInt = iS (fun k => (shc (R 6 k) (R 7 k) c).toInt) 8 0 := by
  have hpw := now_pp h
  exact (ti_sT (g := fun k => shc (R 6 k) (R 7 k) c) (B := 150) 8 0 (fun j _ hj => by
    have := shc_bd hpw (by decide) (by decide) (c := c) (by omega : j < 8)
    show -150 ≤ (shc (R 6 j) (R 7 j) c).toInt ∧ (shc (R 6 j) (R 7 j) c).toInt ≤ 150
    omega) (by decide) (by decide)).1
/-- nothing presses on a cell where no place is near -/
theorem shc_zero (h : NOW R F L kw mi) {c k : Nat} (hc : c < 24) (hk : k < kw) : (L 88 (5 * k + 1) < 0 ∨ xL_share 8 (L 88 (5 * k + 1)) (nI c) = 0) ↔ (shc (R 6 k) (R 7 k) c).toInt = 0 := by
  obtain ⟨-, ⟨w1, w2⟩, e1, -, -, -, hp, -⟩ := h.2.2.1 k hk
  rw [ab_iff h hk]
  by_cases hx : R 7 k = -100009
  · rw [hx, shc_none]
    exact ⟨fun _ => rfl, fun _ => Or.inl rfl⟩
  · obtain ⟨b, hb, eb⟩ := hp hx
    rw [e1, eb, lo_nI (by omega), shc_cell hb, SH_share hb hc]
    have i8 : (8 : Int32).toInt = 8 := rfl
    have hd : (R 6 k / 8).toInt = (R 6 k).toInt / 8 := by rw [ti_div (by omega) (by rw [i8]; decide), i8]
    have hl := nb_len4 b hb
    by_cases hcb : c = b
    · subst hcb
      rw [SH_self hb, SH_self hb]
      have key : ∀ n : Nat, n ≤ 4 → ¬ (8 : Int32) - nI n * (8 / 8) = 0 := by decide
      have hm : (nI (nb4 c).length * (R 6 k / 8)).toInt = (nb4 c).length * ((R 6 k).toInt / 8) := by
        have hx : (nI (nb4 c).length).toInt = (nb4 c).length := nI_toInt (by omega)
        have hy : 0 ≤ ((nb4 c).length : Int) * ((R 6 k).toInt / 8) := Int.mul_nonneg (by omega) (by omega)
        have hz : ((nb4 c).length : Int) * ((R 6 k).toInt / 8) ≤ 4 * ((R 6 k).toInt / 8) := Int.mul_le_mul_of_nonneg_right (by omega) (by omega)
        rw [ti_mul (by rw [hx, hd]; omega) (by rw [hx, hd]; omega), hx, hd]
      have hy : 0 ≤ ((nb4 c).length : Int) * ((R 6 k).toInt / 8) := Int.mul_nonneg (by omega) (by omega)
      have hz : ((nb4 c).length : Int) * ((R 6 k).toInt / 8) ≤ 4 * ((R 6 k).toInt / 8) := Int.mul_le_mul_of_nonneg_right (by omega) (by omega)
      refine ⟨fun q => ?_, fun q => ?_⟩
      · rcases q with q | q
        · exact absurd q (nI_nn (by omega))
        · exact absurd q (key _ hl)
      · exfalso
        rw [ti_sub (by rw [hm]; omega) (by rw [hm]; omega), hm] at q
        omega
    · by_cases hn : c ∈ nb4 b
      · rw [SH_near hb hn, SH_near hb hn, hd]
        refine ⟨fun q => ?_, fun q => by exfalso; omega⟩
        rcases q with q | q
        · exact absurd q (nI_nn (by omega))
        · exact absurd q (by decide)
      · have hf : ¬ c ∈ b :: nb4 b := fun q => (List.mem_cons.mp q).elim hcb hn
        rw [SH_far hb hf, SH_far hb hf]
        exact ⟨fun _ => rfl, fun _ => Or.inr rfl⟩
theorem XX_zero (h : NOW R F L kw mi) {c : Nat} (hc : c < 24) : (∀ k, k < kw → (L 88 (5 * k + 1) < 0 ∨ xL_share 8 (L 88 (5 * k + 1)) (nI c) = 0)) ↔ (XX (R 6) (R 7) c).toInt = 0 := by
  have h8 := h.1.1
  have hpw := now_pp h
  have hb : ∀ j, j < 8 → 0 ≤ (shc (R 6 j) (R 7 j) c).toInt := fun j hj => (shc_bd hpw (by decide) (by decide) (c := c) hj).1
  refine ⟨fun hp => ?_, fun hp k hk => ?_⟩
  · have hz : sT (fun k => shc (R 6 k) (R 7 k) c) 8 0 = 0 := sT_zero 8 0 (fun j _ hj => by
      show shc (R 6 j) (R 7 j) c = 0
      by_cases hjk : j < kw
      · exact Int32.toInt_inj.mp ((shc_zero h hc hjk).mp (hp j hjk))
      · rw [(h.2.2.2.2.1 j (by omega) (by omega)).1, shc_none])
    unfold XX
    rw [hz]
    rfl
  · rw [shc_zero h hc hk]
    have h1 := (iS_ge (g := fun k => (shc (R 6 k) (R 7 k) c).toInt) 8 0 k (fun i _ hi => hb i (by omega)) (by omega) (by omega)).1
    have h2 := hb k (by omega)
    rw [← XX_iS h, hp] at h1
    omega
theorem tare_le (h : NOW R F L kw mi) {c : Nat} (hc : c < 24) : xX1_weighAll R F 15 c ≤ xX1_weighAll R F 2 c ↔ (XX (R 6) (R 7) c).toInt = 0 := by
  have hpw := now_pp h
  have hX := XX_bd hpw (by decide) (by decide) c
  have hz : ∀ c, c < 24 → -6000 ≤ (R 2 c).toInt ∧ (R 2 c).toInt ≤ 6000 := fun c hcc => by
    have := (h.2.1 c hcc).2.2.2.2.2.2
    have := h.1.2.1
    omega
  rw [weighAll_at hc, weighAll_ne (by decide), Int32.le_iff_toInt_le, GR_ti hz (by decide) hpw (by decide) (by decide) hc]
  omega
theorem act_tare_no (hh : HI F o q) (hr : NOW R F L kw mi) {c : Nat} (hc : c < 24) (hx : ¬ (XX (R 6) (R 7) c).toInt = 0) : POST (xX1_tare R F (nI c) o q) (-100002) R L kw mi := by
  unfold xX1_tare
  rw [if_neg (isCell_nI hc), nI_clamp (by omega), if_neg (fun q => hx ((tare_le hr hc).mp q))]
  exact POST_mk rfl hh (NOW_rows hr (fun j h1 h2 => weighAll_ne (by omega)) rfl (fun _ _ _ => rfl)) (fun y hy => weighAll_ne (by omega))
theorem act_tare (hh : HI F o q) (hr : NOW R F L kw mi) {c : Nat} (hc : c < 24) (hx : (XX (R 6) (R 7) c).toInt = 0) (l0 : ∀ y, 83 ≤ y → y ≠ 86 → y ≠ 87 → L' y = L y) (l1 : L' 86 c = L 84 c) (l2 : ∀ x, x ≠ c → L' 86 x = L 86 x) (l3 : L' 87 c = nI mi) (l4 : ∀ x, x ≠ c → L' 87 x = L 87 x) : POST (xX1_tare R F (nI c) o q) (L 84 c) R L' kw mi := by
  obtain ⟨hC, hG, o', q', hh'⟩ := remF (R := xX1_weighAll R F) hh
  obtain ⟨n1, n2, n3, n4, n5, n6, n7⟩ := hr.1
  have h15 : xX1_weighAll R F 15 c = R 2 c := by
    rw [weighAll_at hc, GR_XX, Int32.toInt_inj.mp (hx.trans i_0.symm)]
    grind
  have hz : L 84 c = R 2 c := (hr.2.1 c hc).1
  unfold xX1_tare
  rw [if_neg (isCell_nI hc), nI_clamp (by omega), if_pos ((tare_le hr hc).mpr hx)]
  have hW : ∀ y, y ≠ 15 → xX1_weighAll R F y = R y := fun y hy => weighAll_ne hy
  generalize xX1_weighAll R F = R0 at *
  refine POST_mk ?_ hh' ?_ (fun y hy => by rw [sR_ne (by omega), sR_ne (by omega), hC y (by omega), hW y (by omega)])
  · rw [sR_ne (by decide), sR_same, hC 15 (by decide), h15, hz]
  · rw [hC 15 (by decide), h15, hG, n5]
    generalize (xX1_remember R0 F o q).1 = C at *
    generalize (xX1_remember R0 F o q).2 = G at *
    refine NOW_cells hr (fun j h1 h2 => by rw [sR_ne (by omega), sR_ne (by omega), hC j (by omega), hW j (by omega)]) (rNum_s hr.1 hG (by rw [l0 83 (by decide) (by decide) (by decide)]) (by rw [l0 83 (by decide) (by decide) (by decide)]) (by rw [l0 83 (by decide) (by decide) (by decide)])) (fun x hxx => ?_) (l0 88 (by decide) (by decide) (by decide)) (l0 89 (by decide) (by decide) (by decide)) (fun x _ => by rw [l0 83 (by decide) (by decide) (by decide)])
    rw [sR_ne (show (2 : Nat) ≠ 5 by decide), sR_ne (show (2 : Nat) ≠ 4 by decide), sR_ne (show (3 : Nat) ≠ 5 by decide), sR_ne (show (3 : Nat) ≠ 4 by decide), sR_ne (show (4 : Nat) ≠ 5 by decide), hC 2 (by decide), hC 3 (by decide), hW 2 (by decide), hW 3 (by decide), l0 84 (by decide) (by decide) (by decide), l0 85 (by decide) (by decide) (by decide)]
    by_cases hxc : x = c
    · obtain ⟨a1, a2, a3, a4, a5, a6, a7⟩ := hr.2.1 x hxx
      subst hxc
      exact ⟨a1, a2, by rw [l1, sR_same, a1], by rw [l3, sR_same], a5, ⟨mi, Nat.le_refl _, by rw [sR_same]⟩, a7⟩
    · exact cel1_s (hr.2.1 x hxx) rfl rfl (by rw [sR_same_ne hxc, hC 4 (by decide), hW 4 (by decide)]) (by rw [sR_same_ne hxc, sR_ne (by decide), hC 5 (by decide), hW 5 (by decide)]) rfl rfl (l2 x hxc) (l4 x hxc)
end

