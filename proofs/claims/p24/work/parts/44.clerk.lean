/-! PURE: estimates, oldest tares, certainty, who is where -/
theorem estF_loop {R F : Nat → Nat → Int32} {p1 : Int32} {b : Nat} (hb : (xX1_expectAll (xX1_weighAll R F) F 9) 9 p1.toNatClampNeg = nI b) : ∀ (n k : Nat) (x : Int32),
    hX1_estimateFor_48 R F p1 n k x = ((if 0 < x + lS (fun c => (xX1_expectAll (xX1_weighAll R F) F 9) 15 c - (xX1_expectAll (xX1_weighAll R F) F 9) 16 c) (nbs b n k) then x + lS (fun c => (xX1_expectAll (xX1_weighAll R F) F 9) 15 c - (xX1_expectAll (xX1_weighAll R F) F 9) 16 c) (nbs b n k) else 0), xX1_expectAll (xX1_weighAll R F) F 9) := by
  intro n
  induction n with
  | zero =>
    intro k x
    have e : x + lS (fun c => (xX1_expectAll (xX1_weighAll R F) F 9) 15 c - (xX1_expectAll (xX1_weighAll R F) F 9) 16 c) (nbs b 0 k) = x := by
      show x + 0 = x
      grind
    rw [e]
    rfl
  | succ n ih =>
    intro k x
    rw [hX1_estimateFor_48_s, nbs_s, hb]
    by_cases h : xX1_isCell (xX1_nearCell (nI b) (nI k)) = 0
    · rw [if_pos h, if_pos h, ih]
    · rw [if_neg h, if_neg h, ih]
      have e : ∀ (f : Nat → Int32) (y : Nat) (l : List Nat), x + f y + lS f l = x + lS f (y :: l) := fun f y l => by
        show x + f y + lS f l = x + (f y + lS f l)
        grind
      rw [← e]
theorem estimateFor_eq {R F : Nat → Nat → Int32} {p1 : Int32} {b : Nat} (ha : ¬ xX1_isAboard R F p1 = 0) (hb : R 9 p1.toNatClampNeg = nI b) (h24 : b < 24) :
    xX1_estimateFor R F p1 = ((if 0 < R 8 p1.toNatClampNeg + lS (fun c => GR (R 2) (R 6) (R 7) c - GR (R 4) (R 8) (R 9) c) (b :: nb4 b) then R 8 p1.toNatClampNeg + lS (fun c => GR (R 2) (R 6) (R 7) c - GR (R 4) (R 8) (R 9) c) (b :: nb4 b) else 0), xX1_expectAll (xX1_weighAll R F) F 9) := by
  have hb' : (xX1_expectAll (xX1_weighAll R F) F 9) 9 p1.toNatClampNeg = nI b := by rw [expectAll_ne (by decide), weighAll_ne (by decide)]; exact hb
  unfold xX1_estimateFor
  rw [if_neg ha, estF_loop hb', nb_five b h24, expectAll_ne (j := 8) (by decide), weighAll_ne (j := 8) (by decide)]
  have e : lS (fun c => (xX1_expectAll (xX1_weighAll R F) F 9) 15 c - (xX1_expectAll (xX1_weighAll R F) F 9) 16 c) (b :: nb4 b) = lS (fun c => GR (R 2) (R 6) (R 7) c - GR (R 4) (R 8) (R 9) c) (b :: nb4 b) := lS_congr _ (fun c hc => by
    have h24c : c < 24 := by
      rcases List.mem_cons.mp hc with rfl | h
      · exact h24
      · exact (nb_lt b h24 c h).1
    rw [expectAll_ne (by decide), weighAll_at h24c, expectAll_at (by decide) h24c, weighAll_ne (by decide), weighAll_ne (by decide), weighAll_ne (by decide)])
  rw [e]
theorem max0 (x : Int32) : (if 0 < x then x else 0) = (if 0 ≤ x then x else 0) := by
  by_cases h : 0 < x
  · rw [if_pos h, if_pos (Int32.le_of_lt h)]
  · rw [if_neg h]
    by_cases h2 : 0 ≤ x
    · rw [if_pos h2]
      rw [Int32.lt_iff_toInt_lt] at h
      rw [Int32.le_iff_toInt_le] at h2
      rw [i_0] at h h2
      exact (Int32.toInt_inj.mp (by rw [i_0]; omega))
    · rw [if_neg h2]
/-- earliest tares -/
theorem earF_loop {R F : Nat → Nat → Int32} {b : Nat} : ∀ (n k : Nat) (x : Int32), (hX1_earliestTare_10 R F (nI b) n k x).toInt ≤ x.toInt ∧ (∀ y ∈ nbs b n k, (hX1_earliestTare_10 R F (nI b) n k x).toInt ≤ (R 5 y).toInt) ∧ (hX1_earliestTare_10 R F (nI b) n k x = x ∨ ∃ y ∈ nbs b n k, hX1_earliestTare_10 R F (nI b) n k x = R 5 y) := by
  intro n
  induction n with
  | zero => intro k x; exact ⟨Int.le_refl _, fun y hy => (by cases hy), Or.inl rfl⟩
  | succ n ih =>
    intro k x
    rw [hX1_earliestTare_10_s, nbs_s]
    by_cases h : xX1_isCell (xX1_nearCell (nI b) (nI k)) = 0
    · rw [if_pos h, if_pos h]
      exact ih (k + 1) x
    · rw [if_neg h, if_neg h]
      generalize (xX1_nearCell (nI b) (nI k)).toNatClampNeg = y
      by_cases hlt : R 5 y < x
      · rw [if_pos hlt]
        obtain ⟨a1, a2, a3⟩ := ih (k + 1) (R 5 y)
        have h1 := Int32.lt_iff_toInt_lt.mp hlt
        refine ⟨by omega, fun v hv => ?_, ?_⟩
        · rcases List.mem_cons.mp hv with rfl | hv
          · exact a1
          · exact a2 v hv
        · rcases a3 with a3 | ⟨v, hv, a3⟩
          · exact Or.inr ⟨y, List.mem_cons_self, a3⟩
          · exact Or.inr ⟨v, List.mem_cons_of_mem _ hv, a3⟩
      · rw [if_neg hlt]
        obtain ⟨a1, a2, a3⟩ := ih (k + 1) x
        have h1 := i_nlt hlt
        refine ⟨a1, fun v hv => ?_, ?_⟩
        · rcases List.mem_cons.mp hv with rfl | hv
          · omega
          · exact a2 v hv
        · rcases a3 with a3 | ⟨v, hv, a3⟩
          · exact Or.inl a3
          · exact Or.inr ⟨v, List.mem_cons_of_mem _ hv, a3⟩
theorem near_lt {b : Nat} (hb : b < 24) {y : Nat} (hy : y ∈ b :: nb4 b) : y < 24 := by
  rcases List.mem_cons.mp hy with rfl | h
  · exact hb
  · exact (nb_lt b hb y h).1
/-- who is where -/
theorem who_none {R F : Nat → Nat → Int32} {i : Nat} {p : Int32} : ∀ (n k : Nat), (∀ j, k ≤ j → j < k + n → ¬ R i j = p) → hX1_whoIsOn_2 R F i p n k = -100009 := by
  intro n
  induction n with
  | zero => intro k _; rfl
  | succ n ih => intro k h; rw [hX1_whoIsOn_2_s, if_neg (h k (Nat.le_refl k) (by omega))]; exact ih (k + 1) (fun j h1 h2 => h j (by omega) (by omega))
theorem who_some {R F : Nat → Nat → Int32} {i : Nat} {p : Int32} {w : Nat} (hw : R i w = p) : ∀ (n k : Nat), k ≤ w → w < k + n → (∀ j, k ≤ j → j < w → ¬ R i j = p) → hX1_whoIsOn_2 R F i p n k = nI w := by
  intro n
  induction n with
  | zero => intro k h1 h2; omega
  | succ n ih =>
    intro k h1 h2 h
    rw [hX1_whoIsOn_2_s]
    by_cases hk : k = w
    · subst hk
      rw [if_pos hw]
    · rw [if_neg (h k (Nat.le_refl k) (by omega))]
      exact ih (k + 1) (by omega) (by omega) (fun j h3 h4 => h j (by omega) h4)
theorem who_free {R F : Nat → Nat → Int32} {i : Nat} {p : Int32} : ∀ (n k : Nat), k + n < 2 ^ 31 → hX1_whoIsOn_2 R F i p n k = -100009 → ∀ j, k ≤ j → j < k + n → ¬ R i j = p := by
  intro n
  induction n with
  | zero => intro k _ _ j h1 h2; omega
  | succ n ih =>
    intro k hk h j h1 h2
    rw [hX1_whoIsOn_2_s] at h
    by_cases he : R i k = p
    · rw [if_pos he] at h
      exact absurd h (nI_nn (by omega))
    · rw [if_neg he] at h
      by_cases hj : j = k
      · subst hj; exact he
      · exact ih (k + 1) (by omega) h j (by omega) (by omega)
section
variable {R F L : Nat → Nat → Int32} {kw mi : Nat}
theorem max0' (x : Int32) : (if x ≤ 0 then 0 else x) = (if 0 < x then x else 0) := by
  by_cases h : x ≤ 0
  · rw [if_pos h, if_neg (fun q => by
      have h1 := Int32.le_iff_toInt_le.mp h
      have h2 := Int32.lt_iff_toInt_lt.mp q
      omega)]
  · rw [if_neg h, if_pos (Int32.lt_iff_toInt_lt.mpr (i_nle h))]
theorem estL_loop {g z t a : Nat → Int32} {f : Nat → Int32} {w5 kw b : Nat} (hb : a (5 * w5 + 3) = nI b) : ∀ (n k : Nat) (x : Int32), (∀ j, k ≤ j → j < k + n → f j = xL_gets g a (nI j) 0 (-1) kw + z j - t j - xL_gets g a (nI j) 2 (nI w5) kw) →
    hL_estimate_6 g z t a w5 kw n k x = (if 0 < x + sT (fun k => if nearB b k = true then f k else 0) n k then x + sT (fun k => if nearB b k = true then f k else 0) n k else 0) := by
  intro n
  induction n with
  | zero =>
    intro k x _
    have e : x + sT (fun k => if nearB b k = true then f k else 0) 0 k = x := by
      show x + 0 = x
      grind
    rw [e, ← max0']
    rfl
  | succ n ih =>
    intro k x h
    rw [hL_estimate_6_s, hb, sT_s, ← h k (Nat.le_refl k) (by omega)]
    have e : ∀ y z : Int32, x + (y + z) = x + y + z := fun y z => by grind
    by_cases h0 : xL_share 8 (nI b) (nI k) ≤ 0
    · rw [if_pos h0, if_neg (near_le.mp h0), ih _ _ (fun j h1 h2 => h j (by omega) (by omega)), e]
      have e0 : x + 0 = x := by grind
      rw [e0]
    · have hn : nearB b k = true := Classical.byContradiction (fun q => h0 (near_le.mpr q))
      rw [if_neg h0, if_pos hn, ih _ _ (fun j h1 h2 => h j (by omega) (by omega)), e]
/-- the class's estimate is the law's -/
theorem est_eq (h : NOW R F L kw mi) {i : Nat} (hi : i < kw) (ha : ¬ xX1_isAboard R F (nI i) = 0) (hp : ¬ R 7 i = -100009) : (xX1_estimateFor R F (nI i)).1 = xL_estimate (L 83) (L 84) (L 86) (L 88) i kw ∧ (xX1_estimateFor R F (nI i)).2 = xX1_expectAll (xX1_weighAll R F) F 9 := by
  have h8 := h.1.1
  obtain ⟨-, -, -, e2, e3, hpb, -, hb⟩ := h.2.2.1 i hi
  obtain ⟨c, hc, eb⟩ := hb (fun q => hp (hpb.mpr q))
  have eb' : R 9 (nI i).toNatClampNeg = nI c := by rw [nI_clamp (by omega)]; exact eb
  rw [estimateFor_eq ha eb' hc, nI_clamp (by omega)]
  dsimp only
  refine ⟨?_, rfl⟩
  have hs3 : L 88 (5 * i + 3) = nI c := by rw [e3, eb, lo_nI (by omega)]
  unfold xL_estimate
  rw [estL_loop (f := fun x => GR (R 2) (R 6) (R 7) x - GR (R 4) (R 8) (R 9) x + SH (R 8 i) c x) hs3 24 0 0 (fun j _ hj => by
    have hj24 : j < 24 := by omega
    obtain ⟨e1, -, e3, -⟩ := h.2.1 j hj24
    rw [gets0 h hj24, gets2b h hj24 hi, eb, shc_cell hc, e1, e3]
    show GR (R 2) (R 6) (R 7) j - GR (R 4) (R 8) (R 9) j + SH (R 8 i) c j = _
    rw [GR_XX, GR_XX]
    grind), near_sum hc, zero_add32]
  have e : (GR (R 2) (R 6) (R 7) c - GR (R 4) (R 8) (R 9) c + SH (R 8 i) c c) + lS (fun x => GR (R 2) (R 6) (R 7) x - GR (R 4) (R 8) (R 9) x + SH (R 8 i) c x) (nb4 c) = R 8 i + lS (fun c => GR (R 2) (R 6) (R 7) c - GR (R 4) (R 8) (R 9) c) (c :: nb4 c) := by
    rw [lS_add (f := fun x => GR (R 2) (R 6) (R 7) x - GR (R 4) (R 8) (R 9) x) (g := SH (R 8 i) c)]
    show _ = R 8 i + ((GR (R 2) (R 6) (R 7) c - GR (R 4) (R 8) (R 9) c) + lS (fun c => GR (R 2) (R 6) (R 7) c - GR (R 4) (R 8) (R 9) c) (nb4 c))
    have := SH_sum (w := R 8 i) hc
    grind
  rw [e]
/-- the oldest tare -/
theorem oldL_loop {u : Nat → Int32} {b : Nat} : ∀ (n k : Nat) (x : Int32), (hL_oldest_6 u (nI b) n k x).toInt ≤ x.toInt ∧ (∀ y, k ≤ y → y < k + n → nearB b y = true → (hL_oldest_6 u (nI b) n k x).toInt ≤ (u y).toInt) ∧ (hL_oldest_6 u (nI b) n k x = x ∨ ∃ y, k ≤ y ∧ y < k + n ∧ nearB b y = true ∧ hL_oldest_6 u (nI b) n k x = u y) := by
  intro n
  induction n with
  | zero => intro k x; exact ⟨Int.le_refl _, fun y h1 h2 => (by omega), Or.inl rfl⟩
  | succ n ih =>
    intro k x
    rw [hL_oldest_6_s]
    by_cases h : xL_share 8 (nI b) (nI k) ≤ 0
    · rw [if_pos h]
      have hk := near_le.mp h
      obtain ⟨a1, a2, a3⟩ := ih (k + 1) x
      refine ⟨a1, fun y h1 h2 h3 => ?_, ?_⟩
      · by_cases hy : y = k
        · subst hy
          exact absurd h3 hk
        · exact a2 y (by omega) (by omega) h3
      · rcases a3 with a3 | ⟨y, h1, h2, h3, a3⟩
        · exact Or.inl a3
        · exact Or.inr ⟨y, by omega, by omega, h3, a3⟩
    · rw [if_neg h]
      have hk : nearB b k = true := Classical.byContradiction (fun q => h (near_le.mpr q))
      by_cases hle : x ≤ u k
      · rw [if_pos hle]
        obtain ⟨a1, a2, a3⟩ := ih (k + 1) x
        have hl := Int32.le_iff_toInt_le.mp hle
        refine ⟨a1, fun y h1 h2 h3 => ?_, ?_⟩
        · by_cases hy : y = k
          · subst hy
            omega
          · exact a2 y (by omega) (by omega) h3
        · rcases a3 with a3 | ⟨y, h1, h2, h3, a3⟩
          · exact Or.inl a3
          · exact Or.inr ⟨y, by omega, by omega, h3, a3⟩
      · rw [if_neg hle]
        obtain ⟨a1, a2, a3⟩ := ih (k + 1) (u k)
        have hl := i_nle hle
        refine ⟨by omega, fun y h1 h2 h3 => ?_, ?_⟩
        · by_cases hy : y = k
          · subst hy
            exact a1
          · exact a2 y (by omega) (by omega) h3
        · rcases a3 with a3 | ⟨y, h1, h2, h3, a3⟩
          · exact Or.inr ⟨k, by omega, by omega, hk, a3⟩
          · exact Or.inr ⟨y, by omega, by omega, h3, a3⟩
theorem ear_eq (h : NOW R F L kw mi) {b : Nat} (hb : b < 24) : xX1_earliestTare R F (nI b) = xL_oldest (L 87) (nI b) := by
  have hmi := h.1.2.1
  have hF := h.1.2.2.2.2.1
  have hof : ∀ c, c < 24 → L 87 c = R 5 c ∧ (R 5 c).toInt ≤ mi := fun c hc => by
    obtain ⟨-, -, -, e4, -, ⟨m, b1, b2⟩, -⟩ := h.2.1 c hc
    refine ⟨e4, ?_⟩
    rw [b2, nI_toInt (by omega)]
    omega
  unfold xX1_earliestTare xL_oldest
  obtain ⟨a1, a2, a3⟩ := earF_loop (R := R) (F := F) (b := b) 5 0 (F 1 0)
  obtain ⟨c1, c2, c3⟩ := oldL_loop (u := L 87) (b := b) 24 0 9999
  generalize hX1_earliestTare_10 R F (nI b) 5 0 (F 1 0) = r1 at a1 a2 a3 ⊢
  generalize hL_oldest_6 (L 87) (nI b) 24 0 9999 = r2 at c1 c2 c3 ⊢
  rw [nb_five b hb] at a2 a3
  have b1 : r1.toInt ≤ r2.toInt := by
    rcases c3 with c3 | ⟨y, h1, h2, h3, c3⟩
    · have h5 := a2 b List.mem_cons_self
      have h6 := (hof b hb).2
      have h7 : (9999 : Int32).toInt = 9999 := by decide
      rw [c3, h7]
      omega
    · rw [c3, (hof y (by omega)).1]
      exact a2 y ((nb_near b hb y (by omega)).mpr h3)
  have b2 : r2.toInt ≤ r1.toInt := by
    have key : ∀ y ∈ b :: nb4 b, r2.toInt ≤ (R 5 y).toInt := fun y hy => by
      have hy24 := near_lt hb hy
      rw [← (hof y hy24).1]
      exact c2 y (Nat.zero_le _) (by omega) ((nb_near b hb y hy24).mp hy)
    rcases a3 with a3 | ⟨y, hy, a3⟩
    · have h5 := key b List.mem_cons_self
      have h6 := (hof b hb).2
      rw [a3, hF, nI_toInt (by omega)]
      omega
    · rw [a3]
      exact key y hy
  exact Int32.toInt_inj.mp (by omega)
theorem cert_eq (h : NOW R F L kw mi) {i : Nat} (hi : i < kw) (ha : ¬ xX1_isAboard R F (nI i) = 0) (hp : ¬ R 7 i = -100009) : xX1_certaintyFor R F (nI i) = xL_certainty (L 83) (L 87) (L 88) i := by
  have h8 := h.1.1
  obtain ⟨-, -, -, e2, e3, hpb, -, hb⟩ := h.2.2.1 i hi
  obtain ⟨b4, -⟩ := h.2.2.2.1 i hi
  obtain ⟨b, hb, eb⟩ := hb (fun q => hp (hpb.mpr q))
  unfold xX1_certaintyFor xL_certainty
  rw [if_neg ha, nI_clamp (by omega), e3, b4, eb, lo_nI (by omega), ear_eq h hb, h.1.2.2.2.2.1, h.1.2.2.2.2.2.1, max0']
  have ev : (100 : Int32) - (5 * (nI mi - xL_oldest (L 87) (nI b)) + 10 * R 10 i) = 100 - (nI mi - xL_oldest (L 87) (nI b)) * 5 - R 10 i * 10 := by grind
  rw [ev]
/-- who is where -/
theorem whoL_none {g a : Nat → Int32} {p : Int32} {w4 kw : Nat} : ∀ (n k : Nat) (x : Int32), (∀ j, k ≤ j → j < k + n → ¬ a (5 * j + w4) = p) → hL_who_6 g a p w4 kw n k x = x := by
  intro n
  induction n with
  | zero => intro k x _; rfl
  | succ n ih =>
    intro k x h
    rw [hL_who_6_s, if_neg (h k (Nat.le_refl k) (by omega))]
    exact ih (k + 1) x (fun j h1 h2 => h j (by omega) (by omega))
theorem whoL_some {g a : Nat → Int32} {p : Int32} {w4 kw w : Nat} (hw : a (5 * w + w4) = p) : ∀ (n k : Nat) (x : Int32), k ≤ w → w < k + n → (∀ j, w < j → j < k + n → ¬ a (5 * j + w4) = p) → hL_who_6 g a p w4 kw n k x = nI w := by
  intro n
  induction n with
  | zero => intro k x h1 h2; omega
  | succ n ih =>
    intro k x h1 h2 h
    rw [hL_who_6_s]
    by_cases hk : k = w
    · subst hk
      rw [if_pos hw]
      exact whoL_none n (k + 1) (nI k) (fun j h3 h4 => h j (by omega) (by omega))
    · split
      · exact ih (k + 1) _ (by omega) (by omega) (fun j h3 h4 => h j h3 (by omega))
      · exact ih (k + 1) x (by omega) (by omega) (fun j h3 h4 => h j h3 (by omega))
theorem who_gen {g a : Nat → Int32} {i w4 c : Nat} (h8 : kw ≤ 8) (hc : c < 24) (hcol : ∀ k, k < kw → a (5 * k + w4) = lo (R i k)) (hout : ∀ k, kw ≤ k → k < 8 → R i k = -100009) (hinj : ∀ a b, a < 8 → b < 8 → ¬ R i a = -100009 → R i a = R i b → a = b) : xL_who g a (nI c) w4 kw = lo (xX1_whoIsOn R F i (nI c)) := by
  have hlo : ∀ k, lo (R i k) = nI c ↔ R i k = nI c := fun k => by
    by_cases hx : R i k = -100009
    · rw [hx]
      exact ⟨fun q => absurd q.symm (m1_ne (by omega)), fun q => absurd q.symm (nI_nn (by omega))⟩
    · rw [lo_nn hx]
  unfold xX1_whoIsOn xL_who
  by_cases hex : ∃ w, w < 8 ∧ R i w = nI c
  · obtain ⟨w, hw8, hw⟩ := hex
    have hne : ¬ R i w = -100009 := by rw [hw]; exact nI_nn (by omega)
    have hwk : w < kw := by
      rcases Nat.lt_or_ge w kw with h | h
      · exact h
      · exact absurd (hout w h hw8) hne
    rw [who_some (w := w) hw 8 0 (Nat.zero_le _) (by omega) (fun j _ h2 h3 => by
      have := hinj w j hw8 (by omega) hne (hw.trans h3.symm)
      omega)]
    rw [whoL_some (w := w) (by rw [hcol w hwk]; exact (hlo w).mpr hw) kw 0 _ (Nat.zero_le _) (by omega) (fun j h1 h2 h3 => by
      rw [hcol j (by omega)] at h3
      have := hinj w j hw8 (by omega) hne (hw.trans ((hlo j).mp h3).symm)
      omega), lo_nI (by omega)]
  · rw [who_none 8 0 (fun j _ h2 h3 => hex ⟨j, by omega, h3⟩), whoL_none kw 0 _ (fun j _ h2 h3 => by
      rw [hcol j (by omega)] at h3
      exact hex ⟨j, by omega, (hlo j).mp h3⟩)]
    rfl
theorem whoA (h : NOW R F L kw mi) {c : Nat} (hc : c < 24) : xL_who (L 83) (L 88) (nI c) 1 kw = lo (xX1_whoIsOn R F 7 (nI c)) :=
  who_gen h.1.1 hc (fun k hk => (h.2.2.1 k hk).2.2.1) (fun k h1 h2 => (h.2.2.2.2.1 k h1 h2).1) h.2.2.2.2.2.1.1
theorem whoB (h : NOW R F L kw mi) {c : Nat} (hc : c < 24) : xL_who (L 83) (L 88) (nI c) 3 kw = lo (xX1_whoIsOn R F 9 (nI c)) :=
  who_gen h.1.1 hc (fun k hk => (h.2.2.1 k hk).2.2.2.2.1) (fun k h1 h2 => (h.2.2.2.2.1 k h1 h2).2.1) h.2.2.2.2.2.1.2.1
/-- who is found is one of the eight -/
theorem who_cases {i : Nat} (p : Int32) : xX1_whoIsOn R F i p = -100009 ∨ ∃ w, w < 8 ∧ xX1_whoIsOn R F i p = nI w ∧ R i w = p := by
  unfold xX1_whoIsOn
  have key : ∀ (n k : Nat), k + n = 8 → hX1_whoIsOn_2 R F i p n k = -100009 ∨ ∃ w, w < 8 ∧ hX1_whoIsOn_2 R F i p n k = nI w ∧ R i w = p := by
    intro n
    induction n with
    | zero => intro k _; exact Or.inl rfl
    | succ n ih =>
      intro k hk
      rw [hX1_whoIsOn_2_s]
      by_cases he : R i k = p
      · rw [if_pos he]
        exact Or.inr ⟨k, by omega, rfl, he⟩
      · rw [if_neg he]
        exact ih (k + 1) (by omega)
  exact key 8 0 rfl
theorem who_lo {i : Nat} (p : Int32) : lo (xX1_whoIsOn R F i p) < 0 ↔ xX1_whoIsOn R F i p = -100009 := by
  refine lo_neg (fun q => ?_)
  rcases who_cases (R := R) (F := F) (i := i) p with h | ⟨w, h1, h2, -⟩
  · exact absurd h q
  · rw [h2, nI_toInt (by omega)]
    omega
end

