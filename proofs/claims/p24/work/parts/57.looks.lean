/-! PURE: what isSo asks, and what is answered -/
def un (x : Int32) : Int32 := if x < 0 then -100009 else x
theorem un_ge {x : Int32} (h : 0 ≤ x) : un x = x := if_neg (fun q => by
  have h1 := Int32.le_iff_toInt_le.mp h
  have h2 := Int32.lt_iff_toInt_lt.mp q
  omega)
theorem un_nge {x : Int32} (h : ¬ 0 ≤ x) : un x = -100009 := if_pos (Int32.lt_iff_toInt_lt.mpr (i_nle h))
theorem un_lo {x : Int32} (h : ¬ x = -100009 → 0 ≤ x.toInt) : un (lo x) = x := by
  unfold un
  by_cases hx : x = -100009
  · rw [if_pos ((lo_neg h).mpr hx), hx]
  · rw [if_neg (fun q => hx ((lo_neg h).mp q)), lo_nn hx]
def sRd (L : Nat → Nat → Int32) (kw k : Nat) : Int32 := sT (fun c => xL_gets (L 83) (L 88) (nI c) 0 (-1) kw + L 84 c) k 0
def sTa (L : Nat → Nat → Int32) (k : Nat) : Int32 := sT (L 86) k 0
def sZe (L : Nat → Nat → Int32) (k : Nat) : Int32 := sT (L 84) k 0
def sAb (L : Nat → Nat → Int32) (k : Nat) : Int32 := sT (fun k => if L 88 ((5 * k) + 1) < 0 then 0 else 1) k 0
def sWr (L : Nat → Nat → Int32) (k : Nat) : Int32 := sT (fun k => if L 88 ((5 * k) + 1) = L 88 ((5 * k) + 3) then 0 else 1) k 0
def sHe (L : Nat → Nat → Int32) (k : Nat) : Int32 := sT (fun k => if L 88 ((5 * k) + 1) < 0 then 0 else L 88 (5 * k)) k 0
theorem sT_end (g : Nat → Int32) (k : Nat) : sT g (k + 1) 0 = sT g k 0 + g k := by
  rw [sT_add, Nat.zero_add, sT_s]
  show sT g k 0 + (g k + 0) = _
  grind
theorem sRd_s (L : Nat → Nat → Int32) (kw k : Nat) : sRd L kw (k + 1) = sRd L kw k + (xL_gets (L 83) (L 88) (nI k) 0 (-1) kw + L 84 k) := sT_end _ _
theorem sTa_s (L : Nat → Nat → Int32) (k : Nat) : sTa L (k + 1) = sTa L k + L 86 k := sT_end _ _
theorem sZe_s (L : Nat → Nat → Int32) (k : Nat) : sZe L (k + 1) = sZe L k + L 84 k := sT_end _ _
section
variable {L : Nat → Nat → Int32} {k : Nat}
theorem sAb_off (h : L 88 ((5 * k) + 1) < 0) : sAb L k + 0 = sAb L (k + 1) := by
  unfold sAb
  rw [sT_end]
  rw [if_pos h]
theorem sAb_on (h : ¬ L 88 ((5 * k) + 1) < 0) : sAb L k + 1 = sAb L (k + 1) := by
  unfold sAb
  rw [sT_end]
  rw [if_neg h]
theorem sWr_eq (h : L 88 ((5 * k) + 1) = L 88 ((5 * k) + 3)) : sWr L k + 0 = sWr L (k + 1) := by
  unfold sWr
  rw [sT_end]
  rw [if_pos h]
theorem sWr_ne (h : ¬ L 88 ((5 * k) + 1) = L 88 ((5 * k) + 3)) : sWr L k + 1 = sWr L (k + 1) := by
  unfold sWr
  rw [sT_end]
  rw [if_neg h]
theorem sHe_off (h : L 88 ((5 * k) + 1) < 0) : sHe L k + 0 = sHe L (k + 1) := by
  unfold sHe
  rw [sT_end]
  rw [if_pos h]
theorem sHe_on (h : ¬ L 88 ((5 * k) + 1) < 0) : sHe L k + L 88 (5 * k) = sHe L (k + 1) := by
  unfold sHe
  rw [sT_end]
  rw [if_neg h]
end
section
variable {R F L : Nat → Nat → Int32} {kw mi : Nat}
theorem lk_c0 (h : NOW R F L kw mi) {c : Nat} (hc : c < 24) : (xX1_cell R F (nI c) 0).1 = xL_gets (L 83) (L 88) (nI c) 0 (-1) kw + L 84 c := by
  unfold xX1_cell
  rw [if_neg (isCell_nI hc), if_pos rfl, nI_clamp (by omega)]
  dsimp only
  rw [weighAll_at hc, GR_XX, gets0 h hc, (h.2.1 c hc).1]
  grind
theorem lk_c1 (h : NOW R F L kw mi) {c : Nat} (hc : c < 24) : (xX1_cell R F (nI c) 1).1 = L 84 c := by
  unfold xX1_cell
  rw [if_neg (isCell_nI hc), if_neg (by decide), if_pos rfl, nI_clamp (by omega)]
  exact (h.2.1 c hc).1.symm
theorem lk_c2 (h : NOW R F L kw mi) {c : Nat} (hc : c < 24) : (xX1_cell R F (nI c) 2).1 = L 85 c := by
  unfold xX1_cell
  rw [if_neg (isCell_nI hc), if_neg (by decide), if_neg (by decide), if_pos rfl, nI_clamp (by omega)]
  exact (h.2.1 c hc).2.1.symm
theorem lk_c3 (h : NOW R F L kw mi) {c : Nat} (hc : c < 24) : (xX1_cell R F (nI c) 3).1 = L 86 c := by
  unfold xX1_cell
  rw [if_neg (isCell_nI hc), if_neg (by decide), if_neg (by decide), if_neg (by decide), if_pos rfl, nI_clamp (by omega)]
  exact (h.2.1 c hc).2.2.1.symm
theorem lk_c4 (h : NOW R F L kw mi) {c : Nat} (hc : c < 24) : (xX1_cell R F (nI c) 4).1 = L 87 c := by
  unfold xX1_cell
  rw [if_neg (isCell_nI hc), if_neg (by decide), if_neg (by decide), if_neg (by decide), if_neg (by decide), if_pos rfl, nI_clamp (by omega)]
  exact (h.2.1 c hc).2.2.2.1.symm
theorem lk_c5 (h : NOW R F L kw mi) {c : Nat} (hc : c < 24) : (xX1_cell R F (nI c) 5).1 = xL_gets (L 83) (L 88) (nI c) 2 (-1) kw + L 86 c := by
  unfold xX1_cell
  rw [if_neg (isCell_nI hc), if_neg (by decide), if_neg (by decide), if_neg (by decide), if_neg (by decide), if_neg (by decide), if_pos rfl, nI_clamp (by omega)]
  dsimp only
  rw [expectAll_at (by decide) hc, GR_XX, gets2 h hc, (h.2.1 c hc).2.2.1]
  grind
theorem who_pos {i : Nat} (p : Int32) : ¬ xX1_whoIsOn R F i p = -100009 → 0 ≤ (xX1_whoIsOn R F i p).toInt := fun q => by
  rcases who_cases (R := R) (F := F) (i := i) p with h | ⟨w, h1, h2, -⟩
  · exact absurd h q
  · rw [h2, nI_toInt (by omega)]
    omega
theorem lk_c6 (h : NOW R F L kw mi) {c : Nat} (hc : c < 24) : (xX1_cell R F (nI c) 6).1 = un (xL_who (L 83) (L 88) (nI c) 1 kw) := by
  unfold xX1_cell
  rw [if_neg (isCell_nI hc), if_neg (by decide), if_neg (by decide), if_neg (by decide), if_neg (by decide), if_neg (by decide), if_neg (by decide), if_pos rfl, whoA h hc, un_lo (who_pos _)]
theorem lk_c7 (h : NOW R F L kw mi) {c : Nat} (hc : c < 24) : (xX1_cell R F (nI c) 7).1 = un (xL_who (L 83) (L 88) (nI c) 3 kw) := by
  unfold xX1_cell
  rw [if_neg (isCell_nI hc), if_neg (by decide), if_neg (by decide), if_neg (by decide), if_neg (by decide), if_neg (by decide), if_neg (by decide), if_neg (by decide), if_pos rfl, whoB h hc, un_lo (who_pos _)]
theorem cell_kp {p w : Int32} {i : Nat} (h1 : i ≠ 15) (h2 : i ≠ 16) : (xX1_cell R F p w).2 i = R i := by
  unfold xX1_cell
  split
  · rfl
  · split
    · (dsimp only; exact weighAll_ne h1)
    · split
      · rfl
      · split
        · rfl
        · split
          · rfl
          · split
            · rfl
            · split
              · (dsimp only; exact expectAll_ne h2)
              · split
                · rfl
                · split
                  · rfl
                  · rfl
/-- a cell that somebody stands on stands in the book -/
theorem who_both (h : NOW R F L kw mi) {c : Nat} (hc : c < 24) : 0 ≤ xL_who (L 83) (L 88) (nI c) 1 kw ↔ 0 ≤ xL_who (L 83) (L 88) (nI c) 3 kw := by
  have nn : ∀ x : Int32, 0 ≤ x ↔ ¬ x < 0 := fun x => by
    rw [Int32.lt_iff_toInt_lt, Int32.le_iff_toInt_le]
    rw [i_0]
    omega
  obtain ⟨p1, p2, p3, p4⟩ := h.2.2.2.2.2.1
  rw [whoA h hc, whoB h hc, nn, nn, who_lo, who_lo]
  have hcn : ¬ nI c = -100009 := nI_nn (by omega)
  refine not_congr ⟨fun q => ?_, fun q => ?_⟩
  · rcases who_cases (R := R) (F := F) (i := 9) (nI c) with e | ⟨w, hw, -, e⟩
    · exact e
    · exfalso
      obtain ⟨j, hj, ej⟩ := p4 w hw (by rw [e]; exact hcn)
      exact who_free 8 0 (by decide) q j (Nat.zero_le _) (by omega) (ej.trans e)
  · rcases who_cases (R := R) (F := F) (i := 7) (nI c) with e | ⟨w, hw, -, e⟩
    · exact e
    · exfalso
      obtain ⟨j, hj, ej⟩ := p3 w hw (by rw [e]; exact hcn)
      exact who_free 8 0 (by decide) q j (Nat.zero_le _) (by omega) (ej.trans e)
/-! walkers -/
theorem wk_in (h : NOW R F L kw mi) {k : Nat} (hk : k < kw) : ¬ xX1_isWalker R F (nI k) = 0 := isWalker_nI h.1.2.2.1 h.1.1 hk
theorem lk_w0 (h : NOW R F L kw mi) {k : Nat} (hk : k < kw) : xX1_walker R F (nI k) 0 = L 88 (5 * k) := by
  have h8 := h.1.1
  unfold xX1_walker
  rw [if_neg (wk_in h hk), if_pos rfl, nI_clamp (by omega)]
  exact (h.2.2.1 k hk).1.symm
theorem lk_w1on (h : NOW R F L kw mi) {k : Nat} (hk : k < kw) (c : ¬ L 88 ((5 * k) + 1) < 0) : xX1_walker R F (nI k) 1 = L 88 ((5 * k) + 1) := by
  have h8 := h.1.1
  unfold xX1_walker
  rw [if_neg (wk_in h hk), if_neg (by decide), if_pos rfl, nI_clamp (by omega), (h.2.2.1 k hk).2.2.1, lo_nn (fun q => c ((ab_iff h hk).mpr q))]
theorem lk_w1off (h : NOW R F L kw mi) {k : Nat} (hk : k < kw) (c : L 88 ((5 * k) + 1) < 0) : xX1_walker R F (nI k) 1 = -100009 := by
  have h8 := h.1.1
  unfold xX1_walker
  rw [if_neg (wk_in h hk), if_neg (by decide), if_pos rfl, nI_clamp (by omega), (ab_iff h hk).mp c]
theorem lk_w2on (h : NOW R F L kw mi) {k : Nat} (hk : k < kw) (c : ¬ L 88 ((5 * k) + 1) < 0) : xX1_walker R F (nI k) 2 = L 88 ((5 * k) + 2) := by
  have h8 := h.1.1
  have hp : ¬ R 7 k = -100009 := fun q => c ((ab_iff h hk).mpr q)
  unfold xX1_walker
  rw [if_neg (wk_in h hk), if_neg (by decide), if_neg (by decide), if_pos rfl, if_neg (fun q => hp ((isAb_i h hk).mp q)), nI_clamp (by omega), (h.2.2.1 k hk).2.2.2.1, if_neg hp]
theorem lk_w2off (h : NOW R F L kw mi) {k : Nat} (hk : k < kw) (c : L 88 ((5 * k) + 1) < 0) : xX1_walker R F (nI k) 2 = -100009 := by
  unfold xX1_walker
  rw [if_neg (wk_in h hk), if_neg (by decide), if_neg (by decide), if_pos rfl, if_pos ((isAb_i h hk).mpr ((ab_iff h hk).mp c))]
theorem lk_w3on (h : NOW R F L kw mi) {k : Nat} (hk : k < kw) (c : ¬ L 88 ((5 * k) + 1) < 0) : xX1_walker R F (nI k) 3 = L 88 ((5 * k) + 3) := by
  have h8 := h.1.1
  obtain ⟨-, -, -, -, e3, hpb, -, -⟩ := h.2.2.1 k hk
  unfold xX1_walker
  rw [if_neg (wk_in h hk), if_neg (by decide), if_neg (by decide), if_neg (by decide), if_pos rfl, nI_clamp (by omega), e3, lo_nn (fun q => c ((ab_iff h hk).mpr (hpb.mpr q)))]
theorem lk_w3off (h : NOW R F L kw mi) {k : Nat} (hk : k < kw) (c : L 88 ((5 * k) + 1) < 0) : xX1_walker R F (nI k) 3 = -100009 := by
  have h8 := h.1.1
  obtain ⟨-, -, -, -, e3, hpb, -, -⟩ := h.2.2.1 k hk
  unfold xX1_walker
  rw [if_neg (wk_in h hk), if_neg (by decide), if_neg (by decide), if_neg (by decide), if_pos rfl, nI_clamp (by omega), hpb.mp ((ab_iff h hk).mp c)]
theorem lk_w4 (h : NOW R F L kw mi) {k : Nat} (hk : k < kw) : xX1_walker R F (nI k) 4 = L 88 ((5 * k) + 4) := by
  have h8 := h.1.1
  unfold xX1_walker
  rw [if_neg (wk_in h hk), if_neg (by decide), if_neg (by decide), if_neg (by decide), if_neg (by decide), if_pos rfl, nI_clamp (by omega)]
  exact (h.2.2.2.1 k hk).1.symm
theorem lk_w5 (h : NOW R F L kw mi) {k : Nat} (hk : k < kw) : xX1_walker R F (nI k) 5 = un (L 89 (5 * k)) := by
  have h8 := h.1.1
  obtain ⟨-, c5, -, -, -, -, ca, -⟩ := h.2.2.2.1 k hk
  unfold xX1_walker
  rw [if_neg (wk_in h hk), if_neg (by decide), if_neg (by decide), if_neg (by decide), if_neg (by decide), if_neg (by decide), if_pos rfl, nI_clamp (by omega), c5, un_lo (fun q => ca.resolve_left q)]
theorem billA (h : NOW R F L kw mi) {k : Nat} (hk : k < 8) : xX1_billAmount R F (nI k) = oz (R 11 k) * R 12 k := by
  unfold xX1_billAmount
  by_cases hw : xX1_isWalker R F (nI k) = 0
  · rw [if_pos hw]
    have hkw : kw ≤ k := Nat.le_of_not_lt (fun q => wk_in h q hw)
    rw [(h.2.2.2.2.1 k hkw hk).2.2.2.1, oz_none]
    grind
  · rw [if_neg hw, nI_clamp (by omega)]
    rfl
theorem backA (h : NOW R F L kw mi) {k : Nat} (hk : k < 8) : xX1_backAmount R F (nI k) = oz (R 13 k) * R 12 k := by
  unfold xX1_backAmount
  by_cases hw : xX1_isWalker R F (nI k) = 0
  · rw [if_pos hw]
    have hkw : kw ≤ k := Nat.le_of_not_lt (fun q => wk_in h q hw)
    rw [(h.2.2.2.2.1 k hkw hk).2.2.2.2, oz_none]
    grind
  · rw [if_neg hw, nI_clamp (by omega)]
    rfl
theorem lk_w6 (h : NOW R F L kw mi) {k : Nat} (hk : k < kw) : xX1_walker R F (nI k) 6 = L 89 ((5 * k) + 1) := by
  have h8 := h.1.1
  unfold xX1_walker
  rw [if_neg (wk_in h hk), if_neg (by decide), if_neg (by decide), if_neg (by decide), if_neg (by decide), if_neg (by decide), if_neg (by decide), if_pos rfl, billA h (by omega)]
  exact (h.2.2.2.1 k hk).2.2.1.symm
theorem lk_w7 (h : NOW R F L kw mi) {k : Nat} (hk : k < kw) : xX1_walker R F (nI k) 7 = L 89 ((5 * k) + 2) := by
  have h8 := h.1.1
  unfold xX1_walker
  rw [if_neg (wk_in h hk), if_neg (by decide), if_neg (by decide), if_neg (by decide), if_neg (by decide), if_neg (by decide), if_neg (by decide), if_neg (by decide), if_pos rfl, backA h (by omega)]
  exact (h.2.2.2.1 k hk).2.2.2.1.symm
theorem wk_out (h : NOW R F L kw mi) : xX1_isWalker R F (nI kw) = 0 := by
  obtain ⟨n1, n2, n3, -⟩ := h.1
  unfold xX1_isWalker
  rw [n3, if_neg (nI_pos (by omega)), if_pos (nI_le (Nat.le_refl _) (by omega))]
theorem lk_wno (h : NOW R F L kw mi) : xX1_walker R F (nI kw) 0 = -100001 := by
  unfold xX1_walker
  rw [if_pos (wk_out h)]
theorem lk_eno (h : NOW R F L kw mi) : (xX1_estimate R F (nI kw)).1 = -100001 := by
  unfold xX1_estimate
  rw [if_pos (wk_out h)]
theorem lk_cno : xX1_certainty R F (-1) = -100001 := by
  have hw : xX1_isWalker R F (-1) = 0 := by
    unfold xX1_isWalker
    rw [if_pos (by decide)]
  unfold xX1_certainty
  rw [if_pos hw]
theorem lk_eon (h : NOW R F L kw mi) {k : Nat} (hk : k < kw) (c : ¬ L 88 ((5 * k) + 1) < 0) : (xX1_estimate R F (nI k)).1 = xL_estimate (L 83) (L 84) (L 86) (L 88) k kw := by
  have hp : ¬ R 7 k = -100009 := fun q => c ((ab_iff h hk).mpr q)
  have ha : ¬ xX1_isAboard R F (nI k) = 0 := fun q => hp ((isAb_i h hk).mp q)
  unfold xX1_estimate
  rw [if_neg (wk_in h hk), if_neg ha]
  exact (est_eq h hk ha hp).1
theorem lk_eoff (h : NOW R F L kw mi) {k : Nat} (hk : k < kw) (c : L 88 ((5 * k) + 1) < 0) : (xX1_estimate R F (nI k)).1 = -100002 := by
  unfold xX1_estimate
  rw [if_neg (wk_in h hk), if_pos ((isAb_i h hk).mpr ((ab_iff h hk).mp c))]
theorem estF_kp {p : Int32} {i : Nat} (h1 : i ≠ 15) (h2 : i ≠ 16) : (xX1_estimateFor R F p).2 i = R i := by
  unfold xX1_estimateFor
  have key : ∀ (n k : Nat) (x : Int32), (hX1_estimateFor_48 R F p n k x).2 = xX1_expectAll (xX1_weighAll R F) F 9 := by
    intro n
    induction n with
    | zero => intro k x; rw [hX1_estimateFor_48_z]
    | succ n ih =>
      intro k x
      rw [hX1_estimateFor_48_s]
      split
      · exact ih _ _
      · exact ih _ _
  split
  · rfl
  · rw [key, expectAll_ne h2, weighAll_ne h1]
theorem estimate_kp {p : Int32} {i : Nat} (h1 : i ≠ 15) (h2 : i ≠ 16) : (xX1_estimate R F p).2 i = R i := by
  unfold xX1_estimate
  split
  · rfl
  · split
    · rfl
    · exact estF_kp h1 h2
theorem lk_con (h : NOW R F L kw mi) {k : Nat} (hk : k < kw) (c : ¬ L 88 ((5 * k) + 1) < 0) : xX1_certainty R F (nI k) = xL_certainty (L 83) (L 87) (L 88) k := by
  have hp : ¬ R 7 k = -100009 := fun q => c ((ab_iff h hk).mpr q)
  have ha : ¬ xX1_isAboard R F (nI k) = 0 := fun q => hp ((isAb_i h hk).mp q)
  unfold xX1_certainty
  rw [if_neg (wk_in h hk), if_neg ha, cert_eq h hk ha hp]
theorem lk_coff (h : NOW R F L kw mi) {k : Nat} (hk : k < kw) (c : L 88 ((5 * k) + 1) < 0) : xX1_certainty R F (nI k) = -100002 := by
  unfold xX1_certainty
  rw [if_neg (wk_in h hk), if_pos ((isAb_i h hk).mpr ((ab_iff h hk).mp c))]
/-! counting -/
theorem isAb_8 (h : NOW R F L kw mi) {k : Nat} (hk : k < 8) : xX1_isAboard R F (nI k) = 0 ↔ R 7 k = -100009 := by
  rcases Nat.lt_or_ge k kw with h1 | h1
  · exact isAb_i h h1
  · have hx := (h.2.2.2.2.1 k h1 hk).1
    refine ⟨fun _ => hx, fun _ => ?_⟩
    unfold xX1_isAboard
    split
    · rfl
    · rw [nI_clamp (by omega), if_pos hx]
/-- counting -/
theorem wAb_loop {g : Nat → Int32} : ∀ (m k : Nat) (x : Int32), (∀ j, k ≤ j → j < k + m → g j = if xX1_isAboard R F (nI j) = 0 then 0 else 1) → hX1_walkersAboard_4 R F m k x = x + sT g m k := by
  intro m
  induction m with
  | zero => intro k x _; show x = x + 0; grind
  | succ m ih =>
    intro k x h
    rw [hX1_walkersAboard_4_s, sT_s, h k (Nat.le_refl k) (by omega)]
    by_cases h0 : xX1_isAboard R F (nI k) = 0
    · rw [if_pos h0, if_pos h0, ih _ _ (fun j h1 h2 => h j (by omega) (by omega))]
      grind
    · rw [if_neg h0, if_neg h0, ih _ _ (fun j h1 h2 => h j (by omega) (by omega))]
      grind
theorem wMi_loop {g : Nat → Int32} : ∀ (m k : Nat) (x : Int32), (∀ j, k ≤ j → j < k + m → g j = if R 7 j = R 9 j then 0 else 1) → hX1_walkersMisplaced_4 R F m k x = x + sT g m k := by
  intro m
  induction m with
  | zero => intro k x _; show x = x + 0; grind
  | succ m ih =>
    intro k x h
    rw [hX1_walkersMisplaced_4_s, sT_s, h k (Nat.le_refl k) (by omega)]
    by_cases h0 : R 7 k = R 9 k
    · rw [if_pos h0, if_pos h0, ih _ _ (fun j h1 h2 => h j (by omega) (by omega))]
      grind
    · rw [if_neg h0, if_neg h0, ih _ _ (fun j h1 h2 => h j (by omega) (by omega))]
      grind
theorem sumBi_loop {g : Nat → Int32} : ∀ (m k : Nat) (x : Int32), (∀ j, k ≤ j → j < k + m → g j = xX1_billAmount R F (nI j)) → hX1_sumOfBillAmounts_4 R F m k x = x + sT g m k := by
  intro m
  induction m with
  | zero => intro k x _; show x = x + 0; grind
  | succ m ih =>
    intro k x h
    rw [hX1_sumOfBillAmounts_4_s, sT_s, h k (Nat.le_refl k) (by omega), ih _ _ (fun j h1 h2 => h j (by omega) (by omega))]
    grind
theorem sumBa_loop {g : Nat → Int32} : ∀ (m k : Nat) (x : Int32), (∀ j, k ≤ j → j < k + m → g j = xX1_backAmount R F (nI j)) → hX1_sumOfBackAmounts_4 R F m k x = x + sT g m k := by
  intro m
  induction m with
  | zero => intro k x _; show x = x + 0; grind
  | succ m ih =>
    intro k x h
    rw [hX1_sumOfBackAmounts_4_s, sT_s, h k (Nat.le_refl k) (by omega), ih _ _ (fun j h1 h2 => h j (by omega) (by omega))]
    grind
theorem lk_n0 (h : NOW R F L kw mi) : (xX1_count R F 0).1 = L 83 0 := by
  obtain ⟨n1, n2, n3, n4, n5, n6, n7⟩ := h.1
  unfold xX1_count
  rw [if_pos rfl]
  exact n5.trans n6.symm
theorem lk_n1 (h : NOW R F L kw mi) : (xX1_count R F 1).1 = nI kw := by
  obtain ⟨n1, n2, n3, n4, n5, n6, n7⟩ := h.1
  unfold xX1_count
  rw [if_neg (by decide), if_pos rfl]
  exact n3
theorem lk_n2 (h : NOW R F L kw mi) : (xX1_count R F 2).1 = sAb L kw := by
  unfold xX1_count
  rw [if_neg (by decide), if_neg (by decide), if_pos rfl]
  dsimp only
  unfold xX1_walkersAboard
  rw [wAb_loop (g := fun j => if R 7 j = -100009 then 0 else 1) 8 0 0 (fun j _ hj => by
      by_cases hx : R 7 j = -100009
      · rw [if_pos ((isAb_8 h (by omega)).mpr hx)]
        exact if_pos hx
      · rw [if_neg (fun q => hx ((isAb_8 h (by omega)).mp q))]
        exact if_neg hx),
    sT_kw h.1.1 (fun j h1 h2 => if_pos (h.2.2.2.2.1 j h1 h2).1), zero_add32]
  unfold sAb
  refine sT_congr kw 0 (fun j _ hj => ?_)
  have hjk : j < kw := by omega
  by_cases hx : R 7 j = -100009
  · rw [if_pos hx, if_pos ((ab_iff h hjk).mpr hx)]
  · rw [if_neg hx, if_neg (fun q => hx ((ab_iff h hjk).mp q))]
theorem lk_n4 (h : NOW R F L kw mi) : (xX1_count R F 4).1 = xL_error (L 83) (L 84) (L 86) (L 88) kw := by
  unfold xX1_count
  rw [if_neg (by decide), if_neg (by decide), if_neg (by decide), if_neg (by decide), if_pos rfl]
  dsimp only
  rw [errorWith_eq (by decide) (by decide), errL h]
theorem lk_n5 (h : NOW R F L kw mi) : (xX1_count R F 5).1 = sRd L kw 24 := by
  unfold xX1_count
  rw [if_neg (by decide), if_neg (by decide), if_neg (by decide), if_neg (by decide), if_neg (by decide), if_pos rfl]
  dsimp only
  rw [sumRd1]
  unfold sRd
  refine sT_congr 24 0 (fun j _ hj => ?_)
  have hj24 : j < 24 := by omega
  rw [GR_XX, gets0 h hj24, (h.2.1 j hj24).1]
  grind
theorem lk_n6 (h : NOW R F L kw mi) : (xX1_count R F 6).1 = sTa L 24 := by
  unfold xX1_count
  rw [if_neg (by decide), if_neg (by decide), if_neg (by decide), if_neg (by decide), if_neg (by decide), if_neg (by decide), if_pos rfl]
  dsimp only
  rw [sum1]
  exact sT_congr 24 0 (fun j _ hj => (h.2.1 j (by omega)).2.2.1.symm)
theorem lk_n7 (h : NOW R F L kw mi) : (xX1_count R F 7).1 = sWr L kw := by
  unfold xX1_count
  rw [if_neg (by decide), if_neg (by decide), if_neg (by decide), if_neg (by decide), if_neg (by decide), if_neg (by decide), if_neg (by decide), if_pos rfl]
  dsimp only
  unfold xX1_walkersMisplaced
  rw [wMi_loop (g := fun j => if R 7 j = R 9 j then 0 else 1) 8 0 0 (fun j _ _ => rfl),
    sT_kw h.1.1 (fun j h1 h2 => if_pos (by rw [(h.2.2.2.2.1 j h1 h2).1, (h.2.2.2.2.1 j h1 h2).2.1])), zero_add32]
  unfold sWr
  refine sT_congr kw 0 (fun j _ hj => ?_)
  obtain ⟨-, -, e1, -, e3, hpb, hp, hb⟩ := h.2.2.1 j (by omega)
  have key : lo (R 7 j) = lo (R 9 j) ↔ R 7 j = R 9 j := by
    refine ⟨fun q => ?_, fun q => by rw [q]⟩
    by_cases hx : R 7 j = -100009
    · rw [hx, hpb.mp hx]
    · rw [lo_nn hx, lo_nn (fun q => hx (hpb.mpr q))] at q
      exact q
  rw [e1, e3]
  by_cases hx : R 7 j = R 9 j
  · rw [if_pos hx, if_pos (key.mpr hx)]
  · rw [if_neg hx, if_neg (fun q => hx (key.mp q))]
theorem lk_n8 (h : NOW R F L kw mi) : (xX1_count R F 8).1 = L 83 2 := by
  obtain ⟨n1, n2, n3, n4, n5, n6, n7⟩ := h.1
  unfold xX1_count
  rw [if_neg (by decide), if_neg (by decide), if_neg (by decide), if_neg (by decide), if_neg (by decide), if_neg (by decide), if_neg (by decide), if_neg (by decide), if_pos rfl]
  exact n7.symm
theorem lk_n9 (h : NOW R F L kw mi) : (xX1_count R F 9).1 = L 83 3 := by
  unfold xX1_count
  rw [if_neg (by decide), if_neg (by decide), if_neg (by decide), if_neg (by decide), if_neg (by decide), if_neg (by decide), if_neg (by decide), if_neg (by decide), if_neg (by decide), if_pos rfl]
  show xX1_kilogramsBilled R F = L 83 3
  rw [kgB]
  exact h.2.2.2.2.2.2.1.symm
theorem lk_n10 (h : NOW R F L kw mi) : (xX1_count R F 10).1 = L 83 4 := by
  unfold xX1_count
  rw [if_neg (by decide), if_neg (by decide), if_neg (by decide), if_neg (by decide), if_neg (by decide), if_neg (by decide), if_neg (by decide), if_neg (by decide), if_neg (by decide), if_neg (by decide), if_pos rfl]
  dsimp only
  unfold xX1_sumOfBillAmounts
  rw [sumBi_loop (g := fun k => oz (R 11 k) * R 12 k) 8 0 0 (fun j _ hj => (billA h (by omega)).symm), zero_add32]
  exact h.2.2.2.2.2.2.2.1.symm
theorem lk_n11 (h : NOW R F L kw mi) : (xX1_count R F 11).1 = L 83 5 := by
  unfold xX1_count
  rw [if_neg (by decide), if_neg (by decide), if_neg (by decide), if_neg (by decide), if_neg (by decide), if_neg (by decide), if_neg (by decide), if_neg (by decide), if_neg (by decide), if_neg (by decide), if_neg (by decide), if_pos rfl]
  dsimp only
  unfold xX1_sumOfBackAmounts
  rw [sumBa_loop (g := fun k => oz (R 13 k) * R 12 k) 8 0 0 (fun j _ hj => (backA h (by omega)).symm), zero_add32]
  exact h.2.2.2.2.2.2.2.2.symm
theorem count_kp {p : Int32} {i : Nat} (h1 : i ≠ 15) (h2 : i ≠ 16) : (xX1_count R F p).2 i = R i := by
  unfold xX1_count
  split
  · rfl
  · split
    · rfl
    · split
      · rfl
      · split
        · rfl
        · split
          · (dsimp only; exact errorWith_ne (by decide) (by decide) h1 h2)
          · split
            · (dsimp only; rw [sumRd2]; exact weighAll_ne h1)
            · split
              · rfl
              · split
                · rfl
                · split
                  · rfl
                  · split
                    · rfl
                    · split
                      · rfl
                      · split
                        · rfl
                        · rfl
/-- all readings are the weight of who is aboard and all zeros -/
theorem readings_eq (h : NOW R F L kw mi) : sRd L kw 24 = sHe L kw + sZe L 24 := by
  unfold sRd sHe sZe
  rw [sT_plus (f := fun c => xL_gets (L 83) (L 88) (nI c) 0 (-1) kw) (g := L 84)]
  have e : sT (fun c => xL_gets (L 83) (L 88) (nI c) 0 (-1) kw) 24 0 = sT (fun k => if L 88 (5 * k + 1) < 0 then 0 else L 88 (5 * k)) kw 0 := by
    rw [sT_congr (g' := fun c => XX (R 6) (R 7) c) 24 0 (fun j _ hj => gets0 h (by omega))]
    unfold XX
    rw [sT_swap 24 0]
    rw [sT_congr (g' := fun k => if R 7 k = -100009 then 0 else R 6 k) 8 0 (fun k _ hk => by
      show sT (fun c => shc (R 6 k) (R 7 k) c) 24 0 = if R 7 k = -100009 then 0 else R 6 k
      by_cases hx : R 7 k = -100009
      · rw [if_pos hx]
        exact sT_zero 24 0 (fun c _ _ => by
          show shc (R 6 k) (R 7 k) c = 0
          rw [hx, shc_none])
      · rw [if_neg hx]
        have hkk : k < kw := Nat.lt_of_not_le (fun q => hx (h.2.2.2.2.1 k q (by omega)).1)
        obtain ⟨b, hb, eb⟩ := (h.2.2.1 k hkk).2.2.2.2.2.2.1 hx
        rw [sT_congr (g' := fun c => SH (R 6 k) b c) 24 0 (fun c _ _ => by
          show shc (R 6 k) (R 7 k) c = SH (R 6 k) b c
          rw [eb, shc_cell hb])]
        exact SH_total hb)]
    rw [sT_kw h.1.1 (fun j h1 h2 => if_pos (h.2.2.2.2.1 j h1 h2).1)]
    refine sT_congr kw 0 (fun j _ hj => ?_)
    have hjk : j < kw := by omega
    by_cases hx : R 7 j = -100009
    · rw [if_pos hx, if_pos ((ab_iff h hjk).mpr hx)]
    · rw [if_neg hx, if_neg (fun q => hx ((ab_iff h hjk).mp q)), (h.2.2.1 j hjk).1]
  rw [e]
end
def QE (D : va_G) (cI cS : ClassId) (ad : Nat → Nat) (R F : Nat → Nat → Int32) : Array Value → State → Outcome → State → Prop := fun _ st o t => o = .returned (some (.int 1)) ∧ (∃ Q : Nat → Nat → Int32, (∀ i, i ≠ 15 → i ≠ 16 → Q i = R i) ∧ WP D cI cS ad Q F t.heap) ∧ va_F (AA ad) st t

