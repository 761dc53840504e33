/-! PURE: bill and complain -/
theorem minmax (K u : Int32) : (if 0 < (if u < K then u else K) then (if u < K then u else K) else 0) = (if 0 ≤ (if K ≤ u then K else u) then (if K ≤ u then K else u) else 0) := by
  have e : (if u < K then u else K) = (if K ≤ u then K else u) := by
    by_cases h : u < K
    · rw [if_pos h, if_neg (fun q => by
        have h1 := Int32.lt_iff_toInt_lt.mp h
        have h2 := Int32.le_iff_toInt_le.mp q
        omega)]
    · rw [if_neg h, if_pos (Int32.le_iff_toInt_le.mpr (i_nlt h))]
  rw [e, max0]
theorem max0_pos (x : Int32) : 0 ≤ (if 0 ≤ x then x else (0 : Int32)).toInt := by
  by_cases h : 0 ≤ x
  · rw [if_pos h]
    have := Int32.le_iff_toInt_le.mp h
    rw [i_0] at this
    exact this
  · rw [if_neg h, i_0]
    exact Int.le_refl _
section
variable {R F L L' : Nat → Nat → Int32} {o q kw mi : Nat}
/-- sums -/
theorem sum1_loop {i : Nat} : ∀ (m k : Nat) (x : Int32), hX1_sumOf_4 R F i m k x = x + sT (R i) m k := by
  intro m
  induction m with
  | zero => intro k x; show x = x + 0; grind
  | succ m ih => intro k x; rw [hX1_sumOf_4_s, ih, sT_s]; grind
theorem sum1 (i : Nat) : xX1_sumOf R F i = sT (R i) 24 0 := by
  unfold xX1_sumOf
  rw [sum1_loop, zero_add32]
theorem kgB_loop : ∀ (m k : Nat) (x : Int32), hX1_kilogramsBilled_4 R F m k x = x + sT (fun k => oz (R 11 k) - oz (R 13 k)) m k := by
  intro m
  induction m with
  | zero => intro k x; show x = x + 0; grind
  | succ m ih =>
    intro k x
    rw [hX1_kilogramsBilled_4_s, ih, sT_s]
    unfold oz
    grind
theorem kgB : xX1_kilogramsBilled R F = sT (fun k => oz (R 11 k) - oz (R 13 k)) 8 0 := by
  unfold xX1_kilogramsBilled
  rw [kgB_loop, zero_add32]
theorem sumRd1 : (xX1_sumOfReadings R F).1 = sT (GR (R 2) (R 6) (R 7)) 24 0 := by
  unfold xX1_sumOfReadings
  dsimp only
  rw [sum1]
  exact sT_congr 24 0 (fun j _ hj => weighAll_at (by omega))
theorem sumRd2 : (xX1_sumOfReadings R F).2 = xX1_weighAll R F := by
  unfold xX1_sumOfReadings
  dsimp only
/-- what is over all tares, less what is billed -/
def left (R L : Nat → Nat → Int32) : Int32 := sT (fun c => XX (R 6) (R 7) c + R 2 c - R 4 c) 24 0 - L 83 3
theorem kilo1 (h : NOW R F L kw mi) {k : Nat} (hk : k < kw) (hp : ¬ R 7 k = -100009) {K : Int32} (hK : xL_estimate (L 83) (L 84) (L 86) (L 88) k kw * xL_certainty (L 83) (L 87) (L 88) k / 100 = K) :
    (xX1_kilogramsToBill R F (nI k)).1 = (if 0 ≤ (if K ≤ left R L then K else left R L) then (if K ≤ left R L then K else left R L) else 0) ∧ (∀ y, y ≠ 15 → y ≠ 16 → (xX1_kilogramsToBill R F (nI k)).2 y = R y) := by
  have ha : ¬ xX1_isAboard R F (nI k) = 0 := fun e => hp ((isAb_i h hk).mp e)
  obtain ⟨e1, e2⟩ := est_eq h hk ha hp
  unfold xX1_kilogramsToBill
  rw [e1, e2]
  have hW : ∀ y, y ≠ 15 → y ≠ 16 → xX1_expectAll (xX1_weighAll R F) F 9 y = R y := fun y h1 h2 => by rw [expectAll_ne h2, weighAll_ne h1]
  generalize xX1_expectAll (xX1_weighAll R F) F 9 = E at hW ⊢
  have hN : NOW E F L kw mi := NOW_rows h (fun j h1 h2 => hW j (by omega) (by omega)) rfl (fun _ _ _ => rfl)
  have haE : ¬ xX1_isAboard E F (nI k) = 0 := fun e => hp (by rw [← hW 7 (by decide) (by decide)]; exact (isAb_i hN hk).mp e)
  rw [cert_eq hN hk haE (by rw [hW 7 (by decide) (by decide)]; exact hp), hK, sumRd1, sumRd2, sum1, kgB, weighAll_ne (show (4 : Nat) ≠ 15 by decide), weighAll_ne (show (11 : Nat) ≠ 15 by decide), weighAll_ne (show (13 : Nat) ≠ 15 by decide), hW 2 (by decide) (by decide), hW 6 (by decide) (by decide), hW 7 (by decide) (by decide), hW 4 (by decide) (by decide), hW 11 (by decide) (by decide), hW 13 (by decide) (by decide), ← h.2.2.2.2.2.2.1]
  have el : sT (GR (R 2) (R 6) (R 7)) 24 0 - sT (R 4) 24 0 - L 83 3 = left R L := by
    unfold left
    rw [← sT_sub, sT_congr (g' := fun c => XX (R 6) (R 7) c + R 2 c - R 4 c) 24 0 (fun c _ _ => by
      show GR (R 2) (R 6) (R 7) c - R 4 c = _
      rw [GR_XX]
      grind)]
  rw [el]
  exact ⟨minmax K (left R L), fun y h1 h2 => by rw [weighAll_ne h1]; exact hW y h1 h2⟩
theorem act_bill_no (hh : HI F o q) (hr : NOW R F L kw mi) {k : Nat} (hk : k < kw) (hx : R 7 k = -100009 ∨ ¬ R 11 k = -100009) : POST (xX1_bill R F (nI k) o q) (-100002) R L kw mi := by
  obtain ⟨n1, n2, n3, n4, n5, n6, n7⟩ := hr.1
  unfold xX1_bill
  rw [if_neg (isWalker_nI n3 n1 hk), nI_clamp (by omega)]
  by_cases hp : R 7 k = -100009
  · rw [if_pos ((isAb_i hr hk).mpr hp)]
    exact POST_no hh hr
  · rw [if_neg (fun e => hp ((isAb_i hr hk).mp e)), if_neg (hx.resolve_left hp)]
    exact POST_no hh hr
theorem act_bill (hh : HI F o q) (hr : NOW R F L kw mi) {k : Nat} (hk : k < kw) (hp : ¬ R 7 k = -100009) (hb : R 11 k = -100009) {K v : Int32} (hK : xL_estimate (L 83) (L 84) (L 86) (L 88) k kw * xL_certainty (L 83) (L 87) (L 88) k / 100 = K) (hv : v = (if 0 ≤ (if K ≤ left R L then K else left R L) then (if K ≤ left R L then K else left R L) else 0))
    (l0 : ∀ y, 84 ≤ y → y ≠ 88 → y ≠ 89 → L' y = L y) (g3 : L' 83 3 = L 83 3 + v) (g4 : L' 83 4 = L 83 4 + v * L 83 2) (gx : ∀ x, x ≠ 3 → x ≠ 4 → L' 83 x = L 83 x) (a2 : L' 88 (5 * k + 2) = (if v ≤ 19 then L 88 (5 * k + 2) else v)) (ax : ∀ x, x ≠ 5 * k + 2 → L' 88 x = L 88 x)
    (b0 : L' 89 (5 * k) = v) (b1 : L' 89 (5 * k + 1) = v * L 83 2) (b3 : L' 89 (5 * k + 3) = L 83 2) (bx : ∀ x, x ≠ 5 * k → x ≠ 5 * k + 1 → x ≠ 5 * k + 3 → L' 89 x = L 89 x) : POST (xX1_bill R F (nI k) o q) v R L' kw mi := by
  obtain ⟨hC, hG, o', q', hh'⟩ := remF (R := R) hh
  obtain ⟨n1, n2, n3, n4, n5, n6, n7⟩ := hr.1
  have v0 : 0 ≤ v.toInt := by rw [hv]; exact max0_pos _
  have hvn : ¬ v = -100009 := fun e => by
    rw [e] at v0
    exact absurd v0 (by decide)
  obtain ⟨w0, ww, w1, w2, w3, w4, w5, w6⟩ := hr.2.2.1 k hk
  obtain ⟨c4, c5, c6, c7, c8, c9, ca, cb⟩ := hr.2.2.2.1 k hk
  have hbb : R 13 k = -100009 := Classical.not_not.mp (fun q => cb q hb)
  have hrC : NOW (xX1_remember R F o q).1 (xX1_remember R F o q).2 L kw mi := NOW_rows hr (fun j h1 h2 => hC j (by omega)) hG (fun _ _ _ => rfl)
  have hleft : left (xX1_remember R F o q).1 L = left R L := by
    unfold left
    rw [hC 2 (by decide), hC 4 (by decide), hC 6 (by decide), hC 7 (by decide)]
  obtain ⟨ev, hkp⟩ := kilo1 hrC hk (by rw [hC 7 (by decide)]; exact hp) hK
  rw [hleft, ← hv] at ev
  unfold xX1_bill
  rw [if_neg (isWalker_nI n3 n1 hk), if_neg (fun e => hp ((isAb_i hr hk).mp e)), nI_clamp (by omega), if_pos hb, ev]
  generalize (xX1_kilogramsToBill (xX1_remember R F o q).1 (xX1_remember R F o q).2 (nI k)).2 = W at hkp ⊢
  have hX : ∃ R1 : Nat → Nat → Int32, (if v < 20 then (v, (sR (sR W 11 k v) 12 k (((xX1_remember R F o q).2) 1 1)), ((xX1_remember R F o q).2)) else (v, (sR (sR (sR W 11 k v) 12 k (((xX1_remember R F o q).2) 1 1)) 8 k v), ((xX1_remember R F o q).2))) = (v, R1, (xX1_remember R F o q).2) ∧
      (∀ y, y ≠ 8 → y ≠ 11 → y ≠ 12 → y ≠ 15 → y ≠ 16 → R1 y = (xX1_remember R F o q).1 y) ∧ R1 11 k = v ∧ (∀ j, j ≠ k → R1 11 j = R 11 j) ∧ R1 12 k = F 1 1 ∧ (∀ j, j ≠ k → R1 12 j = R 12 j) ∧ R1 8 k = (if v ≤ 19 then R 8 k else v) ∧ (∀ j, j ≠ k → R1 8 j = R 8 j) := by
    have wr : ∀ y, y < 15 → W y = R y := fun y hy => by rw [hkp y (by omega) (by omega), hC y (by omega)]
    have i19 : (19 : Int32).toInt = 19 := rfl
    have i20 : (20 : Int32).toInt = 20 := rfl
    by_cases c : v < 20
    · have c' : v ≤ 19 := Int32.le_iff_toInt_le.mpr (by
        have h1 := Int32.lt_iff_toInt_lt.mp c
        omega)
      rw [if_pos c, if_pos c']
      exact ⟨_, rfl, fun y h1 h2 h3 h4 h5 => by rw [sR_ne h3, sR_ne h2, hkp y h4 h5], by rw [sR_ne (by decide), sR_same], fun j hj => by rw [sR_ne (by decide), sR_same_ne hj, wr 11 (by decide)], by rw [sR_same, hG], fun j hj => by rw [sR_same_ne hj, sR_ne (by decide), wr 12 (by decide)], by rw [sR_ne (by decide), sR_ne (by decide), wr 8 (by decide)], fun j hj => by rw [sR_ne (by decide), sR_ne (by decide), wr 8 (by decide)]⟩
    · have c' : ¬ v ≤ 19 := fun q => by
        have h1 := i_nlt c
        have h2 := Int32.le_iff_toInt_le.mp q
        omega
      rw [if_neg c, if_neg c']
      exact ⟨_, rfl, fun y h1 h2 h3 h4 h5 => by rw [sR_ne h1, sR_ne h3, sR_ne h2, hkp y h4 h5], by rw [sR_ne (by decide), sR_ne (by decide), sR_same], fun j hj => by rw [sR_ne (by decide), sR_ne (by decide), sR_same_ne hj, wr 11 (by decide)], by rw [sR_ne (by decide), sR_same, hG], fun j hj => by rw [sR_ne (by decide), sR_same_ne hj, sR_ne (by decide), wr 12 (by decide)], by rw [sR_same], fun j hj => by rw [sR_same_ne hj, sR_ne (by decide), sR_ne (by decide), wr 8 (by decide)]⟩
  obtain ⟨R1, eX, r0, r11, r11n, r12, r12n, r8, r8n⟩ := hX
  rw [eX]
  have hro : ∀ y, y ≠ 8 → y ≠ 11 → y ≠ 12 → y < 15 → R1 y = R y := fun y h1 h2 h3 h4 => by rw [r0 y h1 h2 h3 (by omega) (by omega), hC y (by omega)]
  have hz0 : ∀ x : Int32, oz (-100009) * x = 0 := fun x => by
    show (0 : Int32) * x = 0
    grind
  refine POST_mk rfl hh' ?_ (fun y hy => by rw [r0 y (by omega) (by omega) (by omega) (by omega) (by omega), hC y (by omega)])
  refine NOW_walk hr (fun j h1 h2 => hro j (by omega) (by omega) (by omega) (by omega)) (fun j h1 h2 => l0 j h1 (by omega) (by omega)) (rNum_s hr.1 hG (gx 0 (by decide) (by decide)) (gx 1 (by decide) (by decide)) (gx 2 (by decide) (by decide))) (fun j hj => ?_) (fun j hj => ?_) (fun j h1 h2 => ?_) ?_ ?_
  · rw [hro 6 (by decide) (by decide) (by decide) (by decide), hro 7 (by decide) (by decide) (by decide) (by decide), hro 9 (by decide) (by decide) (by decide) (by decide)]
    by_cases hjk : j = k
    · subst hjk
      refine ⟨by rw [ax _ (by omega)]; exact w0, ww, by rw [ax _ (by omega)]; exact w1, ?_, by rw [ax _ (by omega)]; exact w3, w4, w5, w6⟩
      rw [a2, if_neg hp, r8, w2, if_neg hp]
    · exact wlk1_s (hr.2.2.1 j hj) rfl rfl (r8n j hjk) rfl (fun x hx => ax _ (by omega))
  · rw [hro 10 (by decide) (by decide) (by decide) (by decide), hro 13 (by decide) (by decide) (by decide) (by decide)]
    by_cases hjk : j = k
    · subst hjk
      refine ⟨by rw [ax _ (by omega)]; exact c4, by rw [b0, r11, lo_nn hvn], by rw [b1, r11, r12, oz_nn hvn, n7], by rw [bx _ (by omega) (by omega) (by omega), c7, hbb, hz0, hz0], fun _ => by rw [b3, r12, n7], by rw [bx _ (by omega) (by omega) (by omega)]; exact c9, by rw [r11]; exact Or.inr v0, fun q => absurd hbb q⟩
    · exact bil1_s (hr.2.2.2.1 j hj) rfl (r11n j hjk) (r12n j hjk) rfl (ax _ (by omega)) (fun x hx => bx _ (by omega) (by omega) (by omega))
  · rw [hro 7 (by decide) (by decide) (by decide) (by decide), hro 9 (by decide) (by decide) (by decide) (by decide), hro 10 (by decide) (by decide) (by decide) (by decide), hro 13 (by decide) (by decide) (by decide) (by decide)]
    unfold wOut
    rw [r11n j (by omega)]
    exact hr.2.2.2.2.1 j h1 h2
  · rw [hro 7 (by decide) (by decide) (by decide) (by decide), hro 9 (by decide) (by decide) (by decide) (by decide)]
    exact hr.2.2.2.2.2.1
  · rw [hro 13 (by decide) (by decide) (by decide) (by decide)]
    obtain ⟨t1, t2, t3⟩ := hr.2.2.2.2.2.2
    unfold tots
    rw [g3, g4, gx 5 (by decide) (by decide), t1, t2, t3]
    refine ⟨?_, ?_, ?_⟩
    · rw [sT_upd (g := fun k => oz (R 11 k) - oz (R 13 k)) (g' := fun k => oz (R1 11 k) - oz (R 13 k)) (w := k) 8 0 (by omega) (by omega) (fun j hj => by show oz (R1 11 j) - oz (R 13 j) = _; rw [r11n j hj]), r11, hb, oz_nn hvn, oz_none]
      grind
    · rw [sT_upd (g := fun k => oz (R 11 k) * R 12 k) (g' := fun k => oz (R1 11 k) * R1 12 k) (w := k) 8 0 (by omega) (by omega) (fun j hj => by show oz (R1 11 j) * R1 12 j = _; rw [r11n j hj, r12n j hj]), r11, r12, hb, oz_nn hvn, oz_none, n7]
      grind
    · refine sT_congr 8 0 (fun j _ hj => ?_)
      show oz (R 13 j) * R 12 j = oz (R 13 j) * R1 12 j
      by_cases hjk : j = k
      · rw [hjk, hbb, hz0, hz0]
      · rw [r12n j hjk]
theorem act_complain_no (hh : HI F o q) (hr : NOW R F L kw mi) {k : Nat} (hk : k < kw) (hx : ¬ R 7 k = -100009 ∨ R 11 k = -100009 ∨ ¬ R 13 k = -100009) : POST (xX1_complain R F (nI k) o q) (-100002) R L kw mi := by
  obtain ⟨n1, n2, n3, n4, n5, n6, n7⟩ := hr.1
  unfold xX1_complain
  rw [if_neg (isWalker_nI n3 n1 hk), nI_clamp (by omega)]
  by_cases hp : ¬ R 7 k = -100009
  · rw [if_neg (fun e => hp ((isAb_i hr hk).mp e))]
    exact POST_no hh hr
  · have hp' := Classical.not_not.mp hp
    rw [if_pos ((isAb_i hr hk).mpr hp')]
    by_cases hb : R 11 k = -100009
    · rw [if_pos hb]
      exact POST_no hh hr
    · rw [if_neg hb, if_neg ((hx.resolve_left hp).resolve_left hb)]
      exact POST_no hh hr
theorem act_complain (hh : HI F o q) (hr : NOW R F L kw mi) {k : Nat} (hk : k < kw) (hp : R 7 k = -100009) (hb : ¬ R 11 k = -100009) (hbb : R 13 k = -100009) {v : Int32} (hv : v = (if L 89 (5 * k) ≤ L 88 (5 * k) then 0 else L 89 (5 * k) - L 88 (5 * k)))
    (l0 : ∀ y, 84 ≤ y → y ≠ 89 → L' y = L y) (g3 : L' 83 3 = L 83 3 - v) (g5 : L' 83 5 = L 83 5 + v * L 89 (5 * k + 3)) (gx : ∀ x, x ≠ 3 → x ≠ 5 → L' 83 x = L 83 x)
    (b2 : L' 89 (5 * k + 2) = v * L 89 (5 * k + 3)) (b4 : L' 89 (5 * k + 4) = 1) (bx : ∀ x, x ≠ 5 * k + 2 → x ≠ 5 * k + 4 → L' 89 x = L 89 x) : POST (xX1_complain R F (nI k) o q) (v * L 89 (5 * k + 3)) R L' kw mi := by
  obtain ⟨hC, hG, o', q', hh'⟩ := remF (R := R) hh
  obtain ⟨n1, n2, n3, n4, n5, n6, n7⟩ := hr.1
  obtain ⟨w0, ww, w1, w2, w3, w4, w5, w6⟩ := hr.2.2.1 k hk
  obtain ⟨c4, c5, c6, c7, c8, c9, ca, cb⟩ := hr.2.2.2.1 k hk
  have ca' := ca.resolve_left hb
  have td : (R 11 k - R 6 k).toInt = (R 11 k).toInt - (R 6 k).toInt := by
    have := ti_hi (R 11 k)
    exact ti_sub (by omega) (by omega)
  have ev : (if 0 < R 11 k - R 6 k then R 11 k - R 6 k else 0) = v := by
    rw [hv, c5, lo_nn hb, w0]
    by_cases c : R 11 k ≤ R 6 k
    · rw [if_pos c, if_neg (fun q => by
        have h1 := Int32.le_iff_toInt_le.mp c
        have h2 := Int32.lt_iff_toInt_lt.mp q
        rw [i_0, td] at h2
        omega)]
    · rw [if_neg c, if_pos (Int32.lt_iff_toInt_lt.mpr (by
        have h1 := i_nle c
        rw [i_0, td]
        omega))]
  have v0 : 0 ≤ v.toInt := by
    rw [← ev]
    by_cases c : 0 < R 11 k - R 6 k
    · rw [if_pos c]
      have := Int32.lt_iff_toInt_lt.mp c
      rw [i_0] at this
      omega
    · rw [if_neg c]
      decide
  have hvn : ¬ v = -100009 := fun e => by
    rw [e] at v0
    exact absurd v0 (by decide)
  unfold xX1_complain
  rw [if_neg (isWalker_nI n3 n1 hk), if_pos ((isAb_i hr hk).mpr hp), nI_clamp (by omega), if_neg hb, if_pos hbb, hC 11 (by decide), hC 6 (by decide), ev]
  generalize hR1 : sR (xX1_remember R F o q).1 13 k v = R1
  have r0 : ∀ y, y ≠ 13 → R1 y = (xX1_remember R F o q).1 y := fun y hy => by rw [← hR1, sR_ne hy]
  have r13 : R1 13 k = v ∧ ∀ j, j ≠ k → R1 13 j = R 13 j := by
    rw [← hR1]
    exact ⟨sR_same, fun j hj => by rw [sR_same_ne hj, hC 13 (by decide)]⟩
  clear hR1
  have hro : ∀ y, y ≠ 13 → y < 15 → R1 y = R y := fun y h1 h4 => by rw [r0 y h1, hC y (by omega)]
  have c8' := c8 hb
  have eb : xX1_backAmount R1 (xX1_remember R F o q).2 (nI k) = v * R 12 k := by
    unfold xX1_backAmount
    rw [if_neg (isWalker_nI (by rw [hG]; exact n3) n1 hk), nI_clamp (by omega), r13.1, hro 12 (by decide) (by decide)]
    show oz v * R 12 k = _
    rw [oz_nn hvn]
  refine POST_mk (by rw [eb, c8']) hh' ?_ (fun y hy => by rw [r0 y (by omega), hC y (by omega)])
  refine NOW_walk hr (fun j h1 h2 => hro j (by omega) (by omega)) (fun j h1 h2 => l0 j h1 (by omega)) (rNum_s hr.1 hG (gx 0 (by decide) (by decide)) (gx 1 (by decide) (by decide)) (gx 2 (by decide) (by decide))) (fun j hj => ?_) (fun j hj => ?_) (fun j h1 h2 => ?_) ?_ ?_
  · rw [hro 6 (by decide) (by decide), hro 7 (by decide) (by decide), hro 8 (by decide) (by decide), hro 9 (by decide) (by decide), l0 88 (by decide) (by decide)]
    exact hr.2.2.1 j hj
  · rw [hro 10 (by decide) (by decide), hro 11 (by decide) (by decide), hro 12 (by decide) (by decide), l0 88 (by decide) (by decide)]
    by_cases hjk : j = k
    · subst hjk
      exact ⟨c4, by rw [bx _ (by omega) (by omega)]; exact c5, by rw [bx _ (by omega) (by omega)]; exact c6, by rw [b2, r13.1, oz_nn hvn, c8'], fun _ => by rw [bx _ (by omega) (by omega)]; exact c8', ⟨fun _ => by rw [r13.1]; exact hvn, fun _ => b4⟩, ca, fun _ => hb⟩
    · exact bil1_s (hr.2.2.2.1 j hj) rfl rfl rfl (r13.2 j hjk) rfl (fun x hx => bx _ (by omega) (by omega))
  · rw [hro 7 (by decide) (by decide), hro 9 (by decide) (by decide), hro 10 (by decide) (by decide), hro 11 (by decide) (by decide)]
    unfold wOut
    rw [r13.2 j (by omega)]
    exact hr.2.2.2.2.1 j h1 h2
  · rw [hro 7 (by decide) (by decide), hro 9 (by decide) (by decide)]
    exact hr.2.2.2.2.2.1
  · rw [hro 11 (by decide) (by decide), hro 12 (by decide) (by decide)]
    obtain ⟨t1, t2, t3⟩ := hr.2.2.2.2.2.2
    unfold tots
    rw [g3, gx 4 (by decide) (by decide), g5, t1, t2, t3]
    refine ⟨?_, rfl, ?_⟩
    · rw [sT_upd (g := fun k => oz (R 11 k) - oz (R 13 k)) (g' := fun k => oz (R 11 k) - oz (R1 13 k)) (w := k) 8 0 (by omega) (by omega) (fun j hj => by show oz (R 11 j) - oz (R1 13 j) = _; rw [r13.2 j hj]), r13.1, hbb, oz_nn hvn, oz_none]
      grind
    · rw [sT_upd (g := fun k => oz (R 13 k) * R 12 k) (g' := fun k => oz (R1 13 k) * R 12 k) (w := k) 8 0 (by omega) (by omega) (fun j hj => by show oz (R1 13 j) * R 12 j = _; rw [r13.2 j hj]), r13.1, hbb, oz_nn hvn, oz_none, c8']
      grind
/-- where nobody has come, nobody is found -/
theorem act_nobody (hF : F 1 2 = 0) : xX1_walk R F 0 0 o q = (-100001, R, F) ∧ xX1_leave R F 0 o q = (-100001, R, F) ∧ xX1_bill R F 0 o q = (-100001, R, F) ∧ xX1_complain R F 0 o q = (-100001, R, F) ∧ xX1_swap R F 0 1 o q = (-100001, R, F) := by
  have hw : xX1_isWalker R F 0 = 0 := by
    unfold xX1_isWalker
    rw [hF, if_neg (by decide), if_pos (by decide)]
  refine ⟨?_, ?_, ?_, ?_, ?_⟩
  · unfold xX1_walk; rw [if_pos hw]
  · unfold xX1_leave; rw [if_pos hw]
  · unfold xX1_bill; rw [if_pos hw]
  · unfold xX1_complain; rw [if_pos hw]
  · unfold xX1_swap xX1_isPair; rw [if_pos hw, if_pos rfl]
/-- what stands above the class is as it was -/
theorem swap_hi {p1 p2 : Int32} (ho : o < 5) (hq : q ≤ 5) (h0 : F 0 0 = nI o) (h1 : F 0 1 = nI q) {y : Nat} (hy : 83 ≤ y) : (xX1_swap R F p1 p2 o q).2.1 y = R y := by
  obtain ⟨hC, -⟩ := remF (R := R) (F := F) ⟨ho, hq, h0, h1⟩
  unfold xX1_swap
  split
  · rfl
  · split
    · rfl
    · split
      · rfl
      · dsimp only
        rw [errorWith_ne (by decide) (by decide) (by omega) (by omega), exc1_ne (by omega), hC y (by omega)]
theorem accuse_hi {p1 p2 : Int32} (ho : o < 5) (hq : q ≤ 5) (h0 : F 0 0 = nI o) (h1 : F 0 1 = nI q) {y : Nat} (hy : 83 ≤ y) : (xX1_accuse R F p1 p2 o q).2.1 y = R y := by
  obtain ⟨hC, -⟩ := remF (R := R) (F := F) ⟨ho, hq, h0, h1⟩
  unfold xX1_accuse
  split
  · rfl
  · split
    · rfl
    · split
      · rfl
      · dsimp only
        rw [errorWith_ne (by decide) (by decide) (by omega) (by omega), sR_ne (by omega), sR_ne (by omega), exc1_ne (by omega), hC y (by omega)]
end

