/-! PURE: what both answer when they are asked -/
def NOW (n : Nat) (R F : Nat → Nat → Int32) (s : Nat → Int32) (kw mi : Nat) : Prop := REL n (R 2) (R 3) (R 4) (R 5) (R 6) (R 7) (R 8) (R 9) (R 10) (R 11) (R 12) (R 13) (F 1) s kw mi
/-- all rows but the scratch rows as they were -/
def kp3 (R' R : Nat → Nat → Int32) : Prop := ∀ i, i ≠ 15 → i ≠ 16 → i ≠ 17 → R' i = R i
section
variable {n : Nat} {R F : Nat → Nat → Int32} {s : Nat → Int32} {kw mi : Nat}
theorem now_gR (h : NOW n R F s kw mi) : gR kw (R 2) (R 4) (R 6) (R 7) (R 8) (R 9) s := by
  obtain ⟨h1, hc, hw, -, ho, -, -⟩ := h
  refine ⟨h1.1, fun c hcc => ⟨(hc c hcc).1, (hc c hcc).2.2.1⟩, fun k hk => ?_, fun k h1 h2 => ⟨(ho k h1 h2).1, (ho k h1 h2).2.1⟩⟩
  obtain ⟨a1, -, a3, a4, a5, a6, a7, a8, -⟩ := hw k hk
  exact ⟨a1, a3, a5, fun hp => by rw [a4, if_neg hp], a6, a7, a8⟩
theorem now_zt (h : NOW n R F s kw mi) : zt (R 2) (R 4) := by
  obtain ⟨h1, hc, -⟩ := h
  intro c hcc
  obtain ⟨-, -, -, -, -, m, b1, -, b3, b4⟩ := hc c hcc
  have := h1.2.1
  omega
theorem now_w (h : NOW n R F s kw mi) : ∀ k, k < kw → 0 ≤ (R 6 k).toInt ∧ (R 6 k).toInt ≤ 150 := fun k hk => by
  have := (h.2.2.1 k hk).2.1
  omega
theorem now_bw (h : NOW n R F s kw mi) : ∀ k, k < kw → ¬ R 7 k = -100009 → 0 ≤ (R 8 k).toInt ∧ (R 8 k).toInt ≤ 1500 := fun k hk _ => by
  have := (h.2.2.1 k hk).2.2.2.2.2.2.2.2
  omega
theorem now_ear (h : NOW n R F s kw mi) : ∀ c, c < 24 → s (6 + 4 * c + 3) = R 5 c ∧ (R 5 c).toInt ≤ mi := fun c hcc => by
  obtain ⟨-, -, -, a4, -, m, b1, b2, -⟩ := h.2.1 c hcc
  have := h.1.2.1
  refine ⟨a4, ?_⟩
  rw [b2, nI_toInt (by omega)]
  omega
theorem isW (h : NOW n R F s kw mi) (p : Int32) : xX1_isWalker R F p = xX2_isWalker s p := by
  obtain ⟨h8, -, e1, e2, -⟩ := h.1
  unfold xX1_isWalker xX2_isWalker
  rw [e1, e2]
  by_cases h0 : p < 0
  · rw [if_pos h0, if_pos h0]
  · rw [if_neg h0, if_neg h0]
    by_cases h1 : nI kw ≤ p
    · rw [if_pos h1, if_pos h1]
    · rw [if_neg h1, if_neg h1]
      have h2 := i_nle h1
      rw [nI_toInt (by omega)] at h2
      rw [if_neg (fun q => by
        have := Int32.le_iff_toInt_le.mp q
        rw [i_8] at this
        omega)]
theorem isW_of (h : NOW n R F s kw mi) {p : Int32} (hp : ¬ xX2_isWalker s p = 0) : p = nI p.toNatClampNeg ∧ p.toNatClampNeg < kw := wk_of hp h.1.2.2.2.1 h.1.1
theorem isAb (h : NOW n R F s kw mi) {p : Int32} (hp : ¬ xX2_isWalker s p = 0) : xX1_isAboard R F p = xX2_isAboard s p.toNatClampNeg := by
  obtain ⟨e, hk⟩ := isW_of h hp
  unfold xX1_isAboard xX2_isAboard xX2_ofWalker
  rw [isW h, if_neg hp, (h.2.2.1 _ hk).2.2.1]
theorem isC (p : Int32) : xX1_isCell p = xX2_isCell p := by
  unfold xX1_isCell xX2_isCell xX2_in
  by_cases h0 : p < 0
  · rw [if_pos h0, if_pos h0]
  · rw [if_neg h0, if_neg h0]
    by_cases h1 : 24 ≤ p
    · rw [if_pos h1, if_pos (by
        rw [Int32.lt_iff_toInt_lt, i_23]
        have := Int32.le_iff_toInt_le.mp h1
        rw [i_24] at this
        omega)]
    · rw [if_neg h1, if_neg (fun q => by
        rw [Int32.lt_iff_toInt_lt, i_23] at q
        have := i_nle h1
        rw [i_24] at this
        omega)]
theorem isIn (a b c : Int32) : xX1_isWithin a b c = xX2_in a b c := rfl
theorem isAb0 (h : NOW n R F s kw mi) {k : Nat} (hk : k < kw) : xX2_isAboard s k = 0 ↔ R 7 k = -100009 := aboard_iff (h.2.2.1 k hk).2.2.1
theorem whoAT (h : NOW n R F s kw mi) {p : Int32} (hp : ¬ p = -100009) : xX1_whoIsOn R F 7 p = xX2_on s p 1 kw :=
  who_on h.1.1 hp (fun k hk => (h.2.2.1 k hk).2.2.1) (fun k hk => isAb0 h hk) (fun k h1 h2 => (h.2.2.2.2.1 k h1 h2).1) h.2.2.2.2.2.1.1
theorem whoBK (h : NOW n R F s kw mi) {p : Int32} (hp : ¬ p = -100009) : xX1_whoIsOn R F 9 p = xX2_on s p 3 kw :=
  who_on h.1.1 hp (fun k hk => (h.2.2.1 k hk).2.2.2.2.1) (fun k hk => (isAb0 h hk).trans (h.2.2.1 k hk).2.2.2.2.2.1) (fun k h1 h2 => (h.2.2.2.2.1 k h1 h2).2.1) h.2.2.2.2.2.1.2.1
theorem cell_nn {p : Int32} (h : ¬ xX2_isCell p = 0) : ¬ p = -100009 := by
  obtain ⟨e, hk⟩ := cell_of h
  rw [e]
  exact nI_nn (by omega)
/-- sums -/
theorem sum1_loop {i : Nat} : ∀ (m k : Nat) (x : Int32), hX1_sumOf_4 R F i m k x = x + sT (R i) m k := by
  intro m
  induction m with
  | zero => intro k x; show x = x + 0; grind
  | succ m ih => intro k x; rw [hX1_sumOf_4_s, ih, sT_s]; grind
theorem sum1 (i : Nat) : xX1_sumOf R F i = sT (R i) 24 0 := by
  unfold xX1_sumOf
  rw [sum1_loop, zero_add32]
theorem sum2_loop {p : Int32} {g : Nat → Int32} : ∀ (m k : Nat) (x : Int32), (∀ j, k ≤ j → j < k + m → g j = if p = 0 then xX2_of s j 2 else xX2_reading s j kw) → hX2_sumOf_4 s p kw m k x = x + sT g m k := by
  intro m
  induction m with
  | zero => intro k x _; show x = x + 0; grind
  | succ m ih =>
    intro k x h
    rw [hX2_sumOf_4_s, sT_s, h k (Nat.le_refl k) (by omega)]
    by_cases h0 : p = 0
    · rw [if_pos h0, if_pos h0, ih _ _ (fun j h1 h2 => h j (by omega) (by omega))]
      grind
    · rw [if_neg h0, if_neg h0, ih _ _ (fun j h1 h2 => h j (by omega) (by omega))]
      grind
theorem sumRd (h : NOW n R F s kw mi) : (xX1_sumOfReadings R F).1 = xX2_sumOf s 1 kw ∧ (xX1_sumOfReadings R F).1 = sT (GR (R 2) (R 6) (R 7)) 24 0 := by
  have e : (xX1_sumOfReadings R F).1 = sT (GR (R 2) (R 6) (R 7)) 24 0 := by
    unfold xX1_sumOfReadings
    dsimp only
    rw [sum1]
    exact sT_congr 24 0 (fun j _ hj => weighAll_at (by omega))
  refine ⟨?_, e⟩
  rw [e]
  unfold xX2_sumOf
  rw [sum2_loop (g := GR (R 2) (R 6) (R 7)) 24 0 0 (fun j _ hj => by rw [if_neg (by decide), reading_eq (now_gR h) (by omega)]), zero_add32]
theorem sumRd2 : (xX1_sumOfReadings R F).2 = xX1_weighAll R F := by
  unfold xX1_sumOfReadings
  dsimp only
theorem sumTa (h : NOW n R F s kw mi) : xX1_sumOf R F 4 = xX2_sumOf s 0 kw := by
  rw [sum1]
  unfold xX2_sumOf
  rw [sum2_loop (g := R 4) 24 0 0 (fun j _ hj => by rw [if_pos rfl]; exact (((now_gR h).2.1 j (by omega)).2).symm), zero_add32]
theorem kgB_loop : ∀ (m k : Nat) (x : Int32), hX1_kilogramsBilled_4 R F m k x = x + sT (fun k => oz (R 11 k) - oz (R 13 k)) m k := by
  intro m
  induction m with
  | zero => intro k x; show x = x + 0; grind
  | succ m ih =>
    intro k x
    rw [hX1_kilogramsBilled_4_s, ih, sT_s]
    unfold oz
    grind
theorem kgB : xX1_kilogramsBilled R F = sT (fun k => oz (R 11 k) - oz (R 13 k)) 8 0 := by
  unfold xX1_kilogramsBilled
  rw [kgB_loop, zero_add32]
theorem billA (h : NOW n R F s kw mi) {k : Nat} (hk : k < 8) : xX1_billAmount R F (nI k) = oz (R 11 k) * R 12 k := by
  unfold xX1_billAmount
  by_cases hw : xX1_isWalker R F (nI k) = 0
  · rw [if_pos hw]
    have hkw : kw ≤ k := by
      rcases Nat.lt_or_ge k kw with h1 | h1
      · exfalso
        have h8 := h.1.1
        rw [isW h] at hw
        unfold xX2_isWalker at hw
        rw [if_neg (nI_pos (by omega)), h.1.2.2.2.1, if_neg (nI_ge h1 (by omega))] at hw
        exact absurd hw (by decide)
      · exact h1
    rw [(h.2.2.2.2.1 k hkw hk).2.2.2.1]
    show (0 : Int32) = xX1_orZero (-100009) * R 12 k
    rw [show xX1_orZero (-100009) = 0 from rfl]
    grind
  · rw [if_neg hw, nI_clamp (by omega)]
    rfl
theorem backA (h : NOW n R F s kw mi) {k : Nat} (hk : k < 8) : xX1_backAmount R F (nI k) = oz (R 13 k) * R 12 k := by
  unfold xX1_backAmount
  by_cases hw : xX1_isWalker R F (nI k) = 0
  · rw [if_pos hw]
    have hkw : kw ≤ k := by
      rcases Nat.lt_or_ge k kw with h1 | h1
      · exfalso
        have h8 := h.1.1
        rw [isW h] at hw
        unfold xX2_isWalker at hw
        rw [if_neg (nI_pos (by omega)), h.1.2.2.2.1, if_neg (nI_ge h1 (by omega))] at hw
        exact absurd hw (by decide)
      · exact h1
    rw [(h.2.2.2.2.1 k hkw hk).2.2.2.2]
    show (0 : Int32) = xX1_orZero (-100009) * R 12 k
    rw [show xX1_orZero (-100009) = 0 from rfl]
    grind
  · rw [if_neg hw, nI_clamp (by omega)]
    rfl
theorem sumBi_loop {g : Nat → Int32} : ∀ (m k : Nat) (x : Int32), (∀ j, k ≤ j → j < k + m → g j = xX1_billAmount R F (nI j)) → hX1_sumOfBillAmounts_4 R F m k x = x + sT g m k := by
  intro m
  induction m with
  | zero => intro k x _; show x = x + 0; grind
  | succ m ih =>
    intro k x h
    rw [hX1_sumOfBillAmounts_4_s, sT_s, h k (Nat.le_refl k) (by omega), ih _ _ (fun j h1 h2 => h j (by omega) (by omega))]
    grind
theorem sumBa_loop {g : Nat → Int32} : ∀ (m k : Nat) (x : Int32), (∀ j, k ≤ j → j < k + m → g j = xX1_backAmount R F (nI j)) → hX1_sumOfBackAmounts_4 R F m k x = x + sT g m k := by
  intro m
  induction m with
  | zero => intro k x _; show x = x + 0; grind
  | succ m ih =>
    intro k x h
    rw [hX1_sumOfBackAmounts_4_s, sT_s, h k (Nat.le_refl k) (by omega), ih _ _ (fun j h1 h2 => h j (by omega) (by omega))]
    grind
theorem sumBi (h : NOW n R F s kw mi) : xX1_sumOfBillAmounts R F = s 4 := by
  unfold xX1_sumOfBillAmounts
  rw [sumBi_loop (g := fun k => oz (R 11 k) * R 12 k) 8 0 0 (fun j _ hj => (billA h (by omega)).symm), zero_add32]
  exact h.2.2.2.2.2.2.2.1.symm
theorem sumBa (h : NOW n R F s kw mi) : xX1_sumOfBackAmounts R F = s 5 := by
  unfold xX1_sumOfBackAmounts
  rw [sumBa_loop (g := fun k => oz (R 13 k) * R 12 k) 8 0 0 (fun j _ hj => (backA h (by omega)).symm), zero_add32]
  exact h.2.2.2.2.2.2.2.2.symm
/-- counting -/
theorem wAb_loop {g : Nat → Int32} : ∀ (m k : Nat) (x : Int32), (∀ j, k ≤ j → j < k + m → g j = if xX1_isAboard R F (nI j) = 0 then 0 else 1) → hX1_walkersAboard_4 R F m k x = x + sT g m k := by
  intro m
  induction m with
  | zero => intro k x _; show x = x + 0; grind
  | succ m ih =>
    intro k x h
    rw [hX1_walkersAboard_4_s, sT_s, h k (Nat.le_refl k) (by omega)]
    by_cases h0 : xX1_isAboard R F (nI k) = 0
    · rw [if_pos h0, if_pos h0, ih _ _ (fun j h1 h2 => h j (by omega) (by omega))]
      grind
    · rw [if_neg h0, if_neg h0, ih _ _ (fun j h1 h2 => h j (by omega) (by omega))]
      grind
theorem wMi_loop {g : Nat → Int32} : ∀ (m k : Nat) (x : Int32), (∀ j, k ≤ j → j < k + m → g j = if R 7 j = R 9 j then 0 else 1) → hX1_walkersMisplaced_4 R F m k x = x + sT g m k := by
  intro m
  induction m with
  | zero => intro k x _; show x = x + 0; grind
  | succ m ih =>
    intro k x h
    rw [hX1_walkersMisplaced_4_s, sT_s, h k (Nat.le_refl k) (by omega)]
    by_cases h0 : R 7 k = R 9 k
    · rw [if_pos h0, if_pos h0, ih _ _ (fun j h1 h2 => h j (by omega) (by omega))]
      grind
    · rw [if_neg h0, if_neg h0, ih _ _ (fun j h1 h2 => h j (by omega) (by omega))]
      grind
theorem many_loop {p : Int32} {g : Nat → Int32} : ∀ (m k : Nat) (x : Int32), (∀ j, k ≤ j → j < k + m → g j = if xX2_isAboard s j = 0 then 0 else if p = 0 then 1 else if xX2_ofWalker s j 1 = xX2_ofWalker s j 3 then 0 else 1) → hX2_many_4 s p kw m k x = x + sT g m k := by
  intro m
  induction m with
  | zero => intro k x _; show x = x + 0; grind
  | succ m ih =>
    intro k x h
    rw [hX2_many_4_s, sT_s, h k (Nat.le_refl k) (by omega)]
    by_cases h0 : xX2_isAboard s k = 0
    · rw [if_pos h0, if_pos h0, ih _ _ (fun j h1 h2 => h j (by omega) (by omega))]
      grind
    · rw [if_neg h0, if_neg h0]
      by_cases h1 : p = 0
      · rw [if_pos h1, if_pos h1, ih _ _ (fun j h1 h2 => h j (by omega) (by omega))]
        grind
      · rw [if_neg h1, if_neg h1]
        by_cases h2 : xX2_ofWalker s k 1 = xX2_ofWalker s k 3
        · rw [if_pos h2, if_pos h2, ih _ _ (fun j h1 h2 => h j (by omega) (by omega))]
          grind
        · rw [if_neg h2, if_neg h2, ih _ _ (fun j h1 h2 => h j (by omega) (by omega))]
          grind
theorem isAb_nI (h : NOW n R F s kw mi) {k : Nat} (hk : k < 8) : xX1_isAboard R F (nI k) = 0 ↔ R 7 k = -100009 := by
  unfold xX1_isAboard
  by_cases hw : xX1_isWalker R F (nI k) = 0
  · rw [if_pos hw]
    have hkw : kw ≤ k := by
      rcases Nat.lt_or_ge k kw with h1 | h1
      · exfalso
        have h8 := h.1.1
        rw [isW h] at hw
        unfold xX2_isWalker at hw
        rw [if_neg (nI_pos (by omega)), h.1.2.2.2.1, if_neg (nI_ge h1 (by omega))] at hw
        exact absurd hw (by decide)
      · exact h1
    exact ⟨fun _ => (h.2.2.2.2.1 k hkw hk).1, fun _ => rfl⟩
  · rw [if_neg hw, nI_clamp (by omega)]
    by_cases hx : R 7 k = -100009
    · rw [if_pos hx]
      exact ⟨fun _ => hx, fun _ => rfl⟩
    · rw [if_neg hx]
      exact ⟨fun q => absurd q (by decide), fun q => absurd q hx⟩
theorem wAb (h : NOW n R F s kw mi) : xX1_walkersAboard R F = xX2_many s 0 kw := by
  unfold xX1_walkersAboard xX2_many
  rw [wAb_loop (g := fun j => if R 7 j = -100009 then 0 else 1) 8 0 0 (fun j _ hj => by
      by_cases hx : R 7 j = -100009
      · rw [if_pos ((isAb_nI h (by omega)).mpr hx)]
        exact if_pos hx
      · rw [if_neg (fun q => hx ((isAb_nI h (by omega)).mp q))]
        exact if_neg hx),
    many_loop (g := fun j => if R 7 j = -100009 then 0 else 1) kw 0 0 (fun j _ hj => by
      by_cases hx : R 7 j = -100009
      · rw [if_pos ((isAb0 h (by omega)).mpr hx)]
        exact if_pos hx
      · rw [if_neg (fun q => hx ((isAb0 h (by omega)).mp q)), if_pos rfl]
        exact if_neg hx),
    sT_kw h.1.1 (fun j h1 h2 => if_pos (h.2.2.2.2.1 j h1 h2).1)]
theorem wMi (h : NOW n R F s kw mi) : xX1_walkersMisplaced R F = xX2_many s 1 kw := by
  unfold xX1_walkersMisplaced xX2_many
  rw [wMi_loop (g := fun j => if R 7 j = R 9 j then 0 else 1) 8 0 0 (fun j _ _ => rfl),
    many_loop (g := fun j => if R 7 j = R 9 j then 0 else 1) kw 0 0 (fun j _ hj => by
      obtain ⟨-, -, a3, -, a5, a6, -⟩ := h.2.2.1 j (by omega)
      by_cases hx : R 7 j = -100009
      · rw [if_pos ((isAb0 h (by omega)).mpr hx)]
        exact if_pos (by rw [hx, a6.mp hx])
      · rw [if_neg (fun q => hx ((isAb0 h (by omega)).mp q)), if_neg (show ¬ (1 : Int32) = 0 by decide)]
        unfold xX2_ofWalker
        rw [a3, a5]),
    sT_kw h.1.1 (fun j h1 h2 => if_pos (by rw [(h.2.2.2.2.1 j h1 h2).1, (h.2.2.2.2.1 j h1 h2).2.1]))]
theorem errNow (h : NOW n R F s kw mi) : (xX1_errorWith R F 9).1 = xX2_error s kw := by
  rw [errorWith_eq (by decide) (by decide), error_eq (now_gR h)]
/-- count -/
theorem op_count (h : NOW n R F (R 84) kw mi) (h1 : F 0 1 = F 83 0) (p : Int32) : (xX1_count R F p).1 = xX2_count R F p kw ∧ kp3 (xX1_count R F p).2 R := by
  obtain ⟨-, -, e1, e2, e3, e4, e5⟩ := h.1
  have t3 : xX1_kilogramsBilled R F = R 84 3 := kgB.trans h.2.2.2.2.2.2.1.symm
  unfold xX1_count xX2_count
  by_cases c0 : p = 0
  · rw [if_pos c0, if_pos c0]
    exact ⟨e3.trans e4.symm, fun i _ _ _ => rfl⟩
  rw [if_neg c0, if_neg c0]
  by_cases c1 : p = 1
  · rw [if_pos c1, if_pos c1]
    exact ⟨e1.trans e2.symm, fun i _ _ _ => rfl⟩
  rw [if_neg c1, if_neg c1]
  by_cases c2 : p = 2
  · rw [if_pos c2, if_pos c2]
    exact ⟨wAb h, fun i _ _ _ => rfl⟩
  rw [if_neg c2, if_neg c2]
  by_cases c3 : p = 3
  · rw [if_pos c3, if_pos c3]
    exact ⟨h1, fun i _ _ _ => rfl⟩
  rw [if_neg c3, if_neg c3]
  by_cases c4 : p = 4
  · rw [if_pos c4, if_pos c4]
    dsimp only
    exact ⟨errNow h, fun i h15 h16 _ => errorWith_ne (by decide) (by decide) h15 h16⟩
  rw [if_neg c4, if_neg c4]
  by_cases c5 : p = 5
  · rw [if_pos c5, if_pos c5]
    dsimp only
    exact ⟨(sumRd h).1, fun i h15 _ _ => by rw [sumRd2]; exact weighAll_ne h15⟩
  rw [if_neg c5, if_neg c5]
  by_cases c6 : p = 6
  · rw [if_pos c6, if_pos c6]
    exact ⟨sumTa h, fun i _ _ _ => rfl⟩
  rw [if_neg c6, if_neg c6]
  by_cases c7 : p = 7
  · rw [if_pos c7, if_pos c7]
    exact ⟨wMi h, fun i _ _ _ => rfl⟩
  rw [if_neg c7, if_neg c7]
  by_cases c8 : p = 8
  · rw [if_pos c8, if_pos c8]
    exact ⟨e5.symm, fun i _ _ _ => rfl⟩
  rw [if_neg c8, if_neg c8]
  by_cases c9 : p = 9
  · rw [if_pos c9, if_pos c9]
    exact ⟨t3, fun i _ _ _ => rfl⟩
  rw [if_neg c9, if_neg c9]
  by_cases c10 : p = 10
  · rw [if_pos c10, if_pos c10]
    exact ⟨sumBi h, fun i _ _ _ => rfl⟩
  rw [if_neg c10, if_neg c10]
  by_cases c11 : p = 11
  · rw [if_pos c11, if_pos c11]
    exact ⟨sumBa h, fun i _ _ _ => rfl⟩
  rw [if_neg c11, if_neg c11]
  exact ⟨rfl, fun i _ _ _ => rfl⟩
end
