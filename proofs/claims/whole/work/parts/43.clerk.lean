/-! PURE: estimates, earliest tares, certainty, who is where -/
theorem zero_add32 (x : Int32) : 0 + x = x := by grind
theorem estF_loop {R F : Nat → Nat → Int32} {p1 : Int32} {b : Nat} (hb : (xX1_expectAll (xX1_weighAll R F) F 9) 9 p1.toNatClampNeg = nI b) : ∀ (n k : Nat) (x : Int32),
    hX1_estimateFor_48 R F p1 n k x = ((if 0 < x + lS (fun c => (xX1_expectAll (xX1_weighAll R F) F 9) 15 c - (xX1_expectAll (xX1_weighAll R F) F 9) 16 c) (nbs b n k) then x + lS (fun c => (xX1_expectAll (xX1_weighAll R F) F 9) 15 c - (xX1_expectAll (xX1_weighAll R F) F 9) 16 c) (nbs b n k) else 0), xX1_expectAll (xX1_weighAll R F) F 9) := by
  intro n
  induction n with
  | zero =>
    intro k x
    have e : x + lS (fun c => (xX1_expectAll (xX1_weighAll R F) F 9) 15 c - (xX1_expectAll (xX1_weighAll R F) F 9) 16 c) (nbs b 0 k) = x := by
      show x + 0 = x
      grind
    rw [e]
    rfl
  | succ n ih =>
    intro k x
    rw [hX1_estimateFor_48_s, nbs_s, hb]
    by_cases h : xX1_isCell (xX1_nearCell (nI b) (nI k)) = 0
    · rw [if_pos h, if_pos h, ih]
    · rw [if_neg h, if_neg h, ih]
      have e : ∀ (f : Nat → Int32) (y : Nat) (l : List Nat), x + f y + lS f l = x + lS f (y :: l) := fun f y l => by
        show x + f y + lS f l = x + (f y + lS f l)
        grind
      rw [← e]
theorem estimateFor_eq {R F : Nat → Nat → Int32} {p1 : Int32} {b : Nat} (ha : ¬ xX1_isAboard R F p1 = 0) (hb : R 9 p1.toNatClampNeg = nI b) (h24 : b < 24) :
    xX1_estimateFor R F p1 = ((if 0 < R 8 p1.toNatClampNeg + lS (fun c => GR (R 2) (R 6) (R 7) c - GR (R 4) (R 8) (R 9) c) (b :: nb4 b) then R 8 p1.toNatClampNeg + lS (fun c => GR (R 2) (R 6) (R 7) c - GR (R 4) (R 8) (R 9) c) (b :: nb4 b) else 0), xX1_expectAll (xX1_weighAll R F) F 9) := by
  have hb' : (xX1_expectAll (xX1_weighAll R F) F 9) 9 p1.toNatClampNeg = nI b := by rw [expectAll_ne (by decide), weighAll_ne (by decide)]; exact hb
  unfold xX1_estimateFor
  rw [if_neg ha, estF_loop hb', nb_five b h24, expectAll_ne (j := 8) (by decide), weighAll_ne (j := 8) (by decide)]
  have e : lS (fun c => (xX1_expectAll (xX1_weighAll R F) F 9) 15 c - (xX1_expectAll (xX1_weighAll R F) F 9) 16 c) (b :: nb4 b) = lS (fun c => GR (R 2) (R 6) (R 7) c - GR (R 4) (R 8) (R 9) c) (b :: nb4 b) := lS_congr _ (fun c hc => by
    have h24c : c < 24 := by
      rcases List.mem_cons.mp hc with rfl | h
      · exact h24
      · exact (nb_lt b h24 c h).1
    rw [expectAll_ne (by decide), weighAll_at h24c, expectAll_at (by decide) h24c, weighAll_ne (by decide), weighAll_ne (by decide), weighAll_ne (by decide)])
  rw [e]
theorem estO_loop {s : Nat → Int32} {w1 kw : Nat} {f : Nat → Int32} {b : Nat} (hb : s (102 + 10 * w1 + 3) = nI b) : ∀ (n k : Nat) (x : Int32), (∀ j, k ≤ j → j < k + n → f j = xX2_reading s j kw - xX2_of s j 2 - xX2_booked s (nI j) (nI w1) kw) →
    hX2_estimateOf_4 s w1 kw n k x = (if 0 ≤ x + sT (fun k => if (!(xX2_isNear (nI k) (nI b) == 0)) = true then f k else 0) n k then x + sT (fun k => if (!(xX2_isNear (nI k) (nI b) == 0)) = true then f k else 0) n k else 0) := by
  intro n
  induction n with
  | zero =>
    intro k x _
    have e : x + sT (fun k => if (!(xX2_isNear (nI k) (nI b) == 0)) = true then f k else 0) 0 k = x := by
      show x + 0 = x
      grind
    rw [e]
    rfl
  | succ n ih =>
    intro k x h
    have hb' : xX2_ofWalker s w1 3 = nI b := hb
    rw [hX2_estimateOf_4_s, hb', sT_s, ← h k (Nat.le_refl k) (by omega)]
    have e : ∀ y z : Int32, x + (y + z) = x + y + z := fun y z => by grind
    by_cases h0 : xX2_isNear (nI k) (nI b) = 0
    · have h1 : ¬ (!(xX2_isNear (nI k) (nI b) == 0)) = true := by simp [h0]
      rw [if_pos h0, ih _ _ (fun j h1 h2 => h j (by omega) (by omega)), if_neg h1, e]
    · have h1 : (!(xX2_isNear (nI k) (nI b) == 0)) = true := by simp [h0]
      rw [if_neg h0, ih _ _ (fun j h1 h2 => h j (by omega) (by omega)), if_pos h1, e]
theorem max0 (x : Int32) : (if 0 < x then x else 0) = (if 0 ≤ x then x else 0) := by
  by_cases h : 0 < x
  · rw [if_pos h, if_pos (Int32.le_of_lt h)]
  · rw [if_neg h]
    by_cases h2 : 0 ≤ x
    · rw [if_pos h2]
      rw [Int32.lt_iff_toInt_lt] at h
      rw [Int32.le_iff_toInt_le] at h2
      rw [i_0] at h h2
      exact (Int32.toInt_inj.mp (by rw [i_0]; omega))
    · rw [if_neg h2]
theorem estimateOf_eq {kw : Nat} {z t w p bw b s : Nat → Int32} (h : gR kw z t w p bw b s) {j : Nat} (hj : j < kw) (ha : ¬ p j = -100009) {c : Nat} (hc : c < 24) (hb : b j = nI c) :
    xX2_estimateOf s j kw = (if 0 < bw j + lS (fun c => GR z w p c - GR t bw b c) (c :: nb4 c) then bw j + lS (fun c => GR z w p c - GR t bw b c) (c :: nb4 c) else 0) := by
  have hs3 : s (102 + 10 * j + 3) = nI c := ((h.2.2.1 j hj).2.2.1).trans hb
  unfold xX2_estimateOf
  rw [estO_loop (f := fun x => GR z w p x - GR t bw b x + SH (bw j) c x) hs3 24 0 0 (fun i _ hi => by
    rw [reading_eq h (by omega), booked_but h (by omega) hj, hb, shc_cell hc]
    show GR z w p i - GR t bw b i + SH (bw j) c i = GR z w p i - xX2_of s i 2 - _
    unfold xX2_of
    rw [(h.2.1 i (by omega)).2]
    show GR z w p i - (t i + sT (fun k => shc (bw k) (b k) i) 8 0) + SH (bw j) c i = _
    grind), near_sum hc, zero_add32, max0]
  have e : (GR z w p c - GR t bw b c + SH (bw j) c c) + lS (fun x => GR z w p x - GR t bw b x + SH (bw j) c x) (nb4 c) = bw j + lS (fun c => GR z w p c - GR t bw b c) (c :: nb4 c) := by
    rw [lS_add (f := fun x => GR z w p x - GR t bw b x) (g := SH (bw j) c)]
    show _ = bw j + ((GR z w p c - GR t bw b c) + lS (fun c => GR z w p c - GR t bw b c) (nb4 c))
    have := SH_sum (w := bw j) hc
    grind
  rw [e]
/-- earliest tares -/
theorem earF_loop {R F : Nat → Nat → Int32} {b : Nat} : ∀ (n k : Nat) (x : Int32), (hX1_earliestTare_10 R F (nI b) n k x).toInt ≤ x.toInt ∧ (∀ y ∈ nbs b n k, (hX1_earliestTare_10 R F (nI b) n k x).toInt ≤ (R 5 y).toInt) ∧ (hX1_earliestTare_10 R F (nI b) n k x = x ∨ ∃ y ∈ nbs b n k, hX1_earliestTare_10 R F (nI b) n k x = R 5 y) := by
  intro n
  induction n with
  | zero => intro k x; exact ⟨Int.le_refl _, fun y hy => (by cases hy), Or.inl rfl⟩
  | succ n ih =>
    intro k x
    rw [hX1_earliestTare_10_s, nbs_s]
    by_cases h : xX1_isCell (xX1_nearCell (nI b) (nI k)) = 0
    · rw [if_pos h, if_pos h]
      exact ih (k + 1) x
    · rw [if_neg h, if_neg h]
      generalize (xX1_nearCell (nI b) (nI k)).toNatClampNeg = y
      by_cases hlt : R 5 y < x
      · rw [if_pos hlt]
        obtain ⟨a1, a2, a3⟩ := ih (k + 1) (R 5 y)
        have h1 := Int32.lt_iff_toInt_lt.mp hlt
        refine ⟨by omega, fun v hv => ?_, ?_⟩
        · rcases List.mem_cons.mp hv with rfl | hv
          · exact a1
          · exact a2 v hv
        · rcases a3 with a3 | ⟨v, hv, a3⟩
          · exact Or.inr ⟨y, List.mem_cons_self, a3⟩
          · exact Or.inr ⟨v, List.mem_cons_of_mem _ hv, a3⟩
      · rw [if_neg hlt]
        obtain ⟨a1, a2, a3⟩ := ih (k + 1) x
        have h1 := i_nlt hlt
        refine ⟨a1, fun v hv => ?_, ?_⟩
        · rcases List.mem_cons.mp hv with rfl | hv
          · omega
          · exact a2 v hv
        · rcases a3 with a3 | ⟨v, hv, a3⟩
          · exact Or.inl a3
          · exact Or.inr ⟨v, List.mem_cons_of_mem _ hv, a3⟩
theorem earO_loop {s : Nat → Int32} {b : Nat} : ∀ (n k : Nat) (x : Int32), (hX2_earliest_6 s (nI b) n k x).toInt ≤ x.toInt ∧ (∀ y, k ≤ y → y < k + n → ¬ xX2_isNear (nI y) (nI b) = 0 → (hX2_earliest_6 s (nI b) n k x).toInt ≤ (xX2_of s y 3).toInt) ∧ (hX2_earliest_6 s (nI b) n k x = x ∨ ∃ y, k ≤ y ∧ y < k + n ∧ ¬ xX2_isNear (nI y) (nI b) = 0 ∧ hX2_earliest_6 s (nI b) n k x = xX2_of s y 3) := by
  intro n
  induction n with
  | zero => intro k x; exact ⟨Int.le_refl _, fun y h1 h2 => (by omega), Or.inl rfl⟩
  | succ n ih =>
    intro k x
    rw [hX2_earliest_6_s]
    by_cases h : xX2_isNear (nI k) (nI b) = 0
    · rw [if_pos h]
      obtain ⟨a1, a2, a3⟩ := ih (k + 1) x
      refine ⟨a1, fun y h1 h2 h3 => ?_, ?_⟩
      · by_cases hy : y = k
        · subst hy
          exact absurd h h3
        · exact a2 y (by omega) (by omega) h3
      · rcases a3 with a3 | ⟨y, h1, h2, h3, a3⟩
        · exact Or.inl a3
        · exact Or.inr ⟨y, by omega, by omega, h3, a3⟩
    · rw [if_neg h]
      by_cases hle : x ≤ xX2_of s k 3
      · rw [if_pos hle]
        obtain ⟨a1, a2, a3⟩ := ih (k + 1) x
        have hl := Int32.le_iff_toInt_le.mp hle
        refine ⟨a1, fun y h1 h2 h3 => ?_, ?_⟩
        · by_cases hy : y = k
          · subst hy
            omega
          · exact a2 y (by omega) (by omega) h3
        · rcases a3 with a3 | ⟨y, h1, h2, h3, a3⟩
          · exact Or.inl a3
          · exact Or.inr ⟨y, by omega, by omega, h3, a3⟩
      · rw [if_neg hle]
        obtain ⟨a1, a2, a3⟩ := ih (k + 1) (xX2_of s k 3)
        have hl := i_nle hle
        refine ⟨by omega, fun y h1 h2 h3 => ?_, ?_⟩
        · by_cases hy : y = k
          · subst hy
            exact a1
          · exact a2 y (by omega) (by omega) h3
        · rcases a3 with a3 | ⟨y, h1, h2, h3, a3⟩
          · exact Or.inr ⟨k, by omega, by omega, h, a3⟩
          · exact Or.inr ⟨y, by omega, by omega, h3, a3⟩
theorem near_iff {b : Nat} (hb : b < 24) {y : Nat} (hy : y < 24) : ¬ xX2_isNear (nI y) (nI b) = 0 ↔ y ∈ b :: nb4 b := by
  have hp := List.isPerm_iff.mp (nb_perm b hb)
  rw [hp.mem_iff, List.mem_filter, List.mem_range]
  constructor
  · intro h
    exact ⟨hy, by simp [h]⟩
  · intro h h0
    simp [h0] at h
theorem near_lt {b : Nat} (hb : b < 24) {y : Nat} (hy : y ∈ b :: nb4 b) : y < 24 := by
  rcases List.mem_cons.mp hy with rfl | h
  · exact hb
  · exact (nb_lt b hb y h).1
theorem earliest_eq {R F : Nat → Nat → Int32} {s : Nat → Int32} {b mi : Nat} (hb : b < 24) (hmi : mi ≤ 2000) (hF : F 1 0 = nI mi) (hc : ∀ c, c < 24 → s (6 + 4 * c + 3) = R 5 c ∧ (R 5 c).toInt ≤ mi) : xX1_earliestTare R F (nI b) = xX2_earliest s (nI b) := by
  unfold xX1_earliestTare xX2_earliest
  obtain ⟨a1, a2, a3⟩ := earF_loop (R := R) (F := F) (b := b) 5 0 (F 1 0)
  obtain ⟨c1, c2, c3⟩ := earO_loop (s := s) (b := b) 24 0 2000
  generalize hX1_earliestTare_10 R F (nI b) 5 0 (F 1 0) = r1 at a1 a2 a3 ⊢
  generalize hX2_earliest_6 s (nI b) 24 0 2000 = r2 at c1 c2 c3 ⊢
  rw [nb_five b hb] at a2 a3
  have hof : ∀ c, c < 24 → xX2_of s c 3 = R 5 c := fun c h => (hc c h).1
  have b1 : r1.toInt ≤ r2.toInt := by
    rcases c3 with c3 | ⟨y, h1, h2, h3, c3⟩
    · have h5 := a2 b List.mem_cons_self
      have h6 := (hc b hb).2
      have h7 : (2000 : Int32).toInt = 2000 := by decide
      rw [c3, h7]
      omega
    · rw [c3, hof y (by omega)]
      exact a2 y ((near_iff hb (by omega)).mp h3)
  have b2 : r2.toInt ≤ r1.toInt := by
    have key : ∀ y ∈ b :: nb4 b, r2.toInt ≤ (R 5 y).toInt := fun y hy => by
      have hy24 := near_lt hb hy
      rw [← hof y hy24]
      exact c2 y (Nat.zero_le _) (by omega) ((near_iff hb hy24).mpr hy)
    rcases a3 with a3 | ⟨y, hy, a3⟩
    · have h5 := key b List.mem_cons_self
      have h6 := (hc b hb).2
      rw [a3, hF, nI_toInt (by omega)]
      omega
    · rw [a3]
      exact key y hy
  exact Int32.toInt_inj.mp (by omega)
/-- who is where -/
theorem who_none {R F : Nat → Nat → Int32} {i : Nat} {p : Int32} : ∀ (n k : Nat), (∀ j, k ≤ j → j < k + n → ¬ R i j = p) → hX1_whoIsOn_2 R F i p n k = -100009 := by
  intro n
  induction n with
  | zero => intro k _; rfl
  | succ n ih => intro k h; rw [hX1_whoIsOn_2_s, if_neg (h k (Nat.le_refl k) (by omega))]; exact ih (k + 1) (fun j h1 h2 => h j (by omega) (by omega))
theorem who_some {R F : Nat → Nat → Int32} {i : Nat} {p : Int32} {w : Nat} (hw : R i w = p) : ∀ (n k : Nat), k ≤ w → w < k + n → (∀ j, k ≤ j → j < w → ¬ R i j = p) → hX1_whoIsOn_2 R F i p n k = nI w := by
  intro n
  induction n with
  | zero => intro k h1 h2; omega
  | succ n ih =>
    intro k h1 h2 h
    rw [hX1_whoIsOn_2_s]
    by_cases hk : k = w
    · subst hk
      rw [if_pos hw]
    · rw [if_neg (h k (Nat.le_refl k) (by omega))]
      exact ih (k + 1) (by omega) (by omega) (fun j h3 h4 => h j (by omega) h4)
theorem on_none {s : Nat → Int32} {p : Int32} {what kw : Nat} : ∀ (n k : Nat) (x : Int32), (∀ j, k ≤ j → j < k + n → xX2_isAboard s j = 0 ∨ ¬ s (102 + 10 * j + what) = p) → hX2_on_6 s p what kw n k x = x := by
  intro n
  induction n with
  | zero => intro k x _; rfl
  | succ n ih =>
    intro k x h
    rw [hX2_on_6_s]
    by_cases ha : xX2_isAboard s k = 0
    · rw [if_pos ha]
      exact ih (k + 1) x (fun j h1 h2 => h j (by omega) (by omega))
    · rw [if_neg ha]
      have hn : ¬ xX2_ofWalker s k what = p := (h k (Nat.le_refl k) (by omega)).resolve_left ha
      rw [if_neg hn]
      exact ih (k + 1) x (fun j h1 h2 => h j (by omega) (by omega))
theorem on_some {s : Nat → Int32} {p : Int32} {what kw w : Nat} (ha : ¬ xX2_isAboard s w = 0) (hw : s (102 + 10 * w + what) = p) : ∀ (n k : Nat) (x : Int32), k ≤ w → w < k + n → (∀ j, w < j → j < k + n → xX2_isAboard s j = 0 ∨ ¬ s (102 + 10 * j + what) = p) → hX2_on_6 s p what kw n k x = nI w := by
  intro n
  induction n with
  | zero => intro k x h1 h2; omega
  | succ n ih =>
    intro k x h1 h2 h
    rw [hX2_on_6_s]
    by_cases hk : k = w
    · subst hk
      have e : xX2_ofWalker s k what = p := hw
      rw [if_neg ha, if_pos e]
      exact on_none n (k + 1) (nI k) (fun j h3 h4 => h j (by omega) (by omega))
    · by_cases hb : xX2_isAboard s k = 0
      · rw [if_pos hb]
        exact ih (k + 1) x (by omega) (by omega) (fun j h3 h4 => h j h3 (by omega))
      · rw [if_neg hb]
        split
        · exact ih (k + 1) _ (by omega) (by omega) (fun j h3 h4 => h j h3 (by omega))
        · exact ih (k + 1) x (by omega) (by omega) (fun j h3 h4 => h j h3 (by omega))
/-- one column of the model and one row of the class tell the same walker on a cell -/
theorem who_on {R F : Nat → Nat → Int32} {s : Nat → Int32} {i what kw : Nat} {p : Int32} (h8 : kw ≤ 8) (hp : ¬ p = -100009) (hcol : ∀ k, k < kw → s (102 + 10 * k + what) = R i k) (hab : ∀ k, k < kw → (xX2_isAboard s k = 0 ↔ R i k = -100009)) (hout : ∀ k, kw ≤ k → k < 8 → R i k = -100009) (hinj : ∀ a b, a < 8 → b < 8 → ¬ R i a = -100009 → R i a = R i b → a = b) : xX1_whoIsOn R F i p = xX2_on s p what kw := by
  unfold xX1_whoIsOn xX2_on
  by_cases hex : ∃ w, w < 8 ∧ R i w = p
  · obtain ⟨w, hw8, hw⟩ := hex
    have hne : ¬ R i w = -100009 := by rw [hw]; exact hp
    have hwk : w < kw := by
      rcases Nat.lt_or_ge w kw with h | h
      · exact h
      · exact absurd (hout w h hw8) hne
    rw [who_some (w := w) hw 8 0 (Nat.zero_le _) (by omega) (fun j _ h2 h3 => by
      have := hinj w j hw8 (by omega) hne (hw.trans h3.symm)
      omega)]
    rw [on_some (w := w) (fun h => hne ((hab w hwk).mp h)) ((hcol w hwk).trans hw) kw 0 _ (Nat.zero_le _) (by omega) (fun j h1 h2 => by
      right
      intro h3
      rw [hcol j (by omega)] at h3
      have := hinj w j hw8 (by omega) hne (hw.trans h3.symm)
      omega)]
  · rw [who_none 8 0 (fun j _ h2 h3 => hex ⟨j, by omega, h3⟩), on_none kw 0 _ (fun j _ h2 => by
      right
      intro h3
      rw [hcol j (by omega)] at h3
      exact hex ⟨j, by omega, h3⟩)]
