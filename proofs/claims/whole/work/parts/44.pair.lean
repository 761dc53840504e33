/-! PURE: the class's best exchange, and mending -/
def swB (b : Nat → Int32) (i j : Nat) : Nat → Int32 := upd (upd b i (b j)) j (b i)
theorem swB_swB {b : Nat → Int32} {i j : Nat} : swB (swB b i j) i j = b := by
  funext x
  unfold swB
  by_cases h1 : x = j
  · subst h1
    rw [upd_same]
    by_cases h2 : i = x
    · subst h2
      rw [upd_same]
    · rw [upd_ne h2, upd_same]
  · rw [upd_ne h1]
    by_cases h2 : x = i
    · subst h2
      rw [upd_same, upd_same]
    · rw [upd_ne h2, upd_ne h1, upd_ne h2]
theorem exch1_eq {R F : Nat → Nat → Int32} {i a b : Nat} (ha : a < 8) (hb : b < 8) : xX1_exchange R F i (nI a) (nI b) = va_up R i (swB (R i) a b) := by
  unfold xX1_exchange swB
  rw [nI_clamp (by omega), nI_clamp (by omega)]
  exact sR_sR
def abC (R F : Nat → Nat → Int32) : Nat → Bool := fun w => !(xX1_isAboard R F (nI w) == 0)
theorem abC_t {R F : Nat → Nat → Int32} {w : Nat} : abC R F w = true ↔ ¬ xX1_isAboard R F (nI w) = 0 := by simp [abC]
theorem isAboard_cong {R R' F : Nat → Nat → Int32} (h7 : R' 7 = R 7) (p : Int32) : xX1_isAboard R' F p = xX1_isAboard R F p := by
  unfold xX1_isAboard
  rw [h7]
  rfl
/-- rows but 15, 16 (and i) as they were -/
def kp (i : Nat) (R' R : Nat → Nat → Int32) : Prop := ∀ j, j ≠ 15 → j ≠ 16 → j ≠ i → R' j = R j
def eC (R : Nat → Nat → Int32) (b : Nat → Int32) : Int32 := ERR (R 2) (R 6) (R 7) (R 4) (R 8) b
theorem be25 {R F R1 R0 : Nat → Nat → Int32} {k : Nat} {x2 x3 : Int32} {κ : Nat → Int32 → Int32 → (Nat → Nat → Int32) → Int32 × (Nat → Nat → Int32)} (hk : k < 8) : ∀ (n k2 : Nat) (x y : Int32) (R2 : Nat → Nat → Int32), k2 + n ≤ 8 → (∀ j, j ≠ 15 → j ≠ 16 → R2 j = R0 j) →
    ∃ R3 : Nat → Nat → Int32, (∀ j, j ≠ 15 → j ≠ 16 → R3 j = R0 j) ∧ hX1_bestExchange_25 R F 17 k x2 x3 R1 κ n k2 x y R2 = κ (k + 1) (bxI (eC R0) swB (abC R0 F) (R0 17) k n k2 (x, y)).1 (bxI (eC R0) swB (abC R0 F) (R0 17) k n k2 (x, y)).2 R3 := by
  intro n
  induction n with
  | zero => intro k2 x y R2 _ h; exact ⟨R2, h, rfl⟩
  | succ n ih =>
    intro k2 x y R2 hn h
    rw [hX1_bestExchange_25_s, bxI_s, isAboard_cong (h 7 (by decide) (by decide)), isAboard_cong (h 7 (by decide) (by decide))]
    by_cases h1 : xX1_isAboard R0 F (nI k) = 0
    · have e : bxS (eC R0) swB (abC R0 F) (R0 17) k k2 (x, y) = (x, y) := by
        unfold bxS
        exact if_neg (fun q => abC_t.mp q.1 h1)
      rw [if_pos h1, e]
      exact ih _ _ _ _ (by omega) h
    · by_cases h2 : xX1_isAboard R0 F (nI k2) = 0
      · have e : bxS (eC R0) swB (abC R0 F) (R0 17) k k2 (x, y) = (x, y) := by
          unfold bxS
          exact if_neg (fun q => abC_t.mp q.2 h2)
        rw [if_neg h1, if_pos h2, e]
        exact ih _ _ _ _ (by omega) h
      · have e : bxS (eC R0) swB (abC R0 F) (R0 17) k k2 (x, y) = (if y ≤ eC R0 (swB (R0 17) k k2) then (x, y) else (nI (10 * k + k2), eC R0 (swB (R0 17) k k2))) := by
          unfold bxS
          exact if_pos ⟨abC_t.mpr h1, abC_t.mpr h2⟩
        have h17 := h 17 (by decide) (by decide)
        have ee : (xX1_errorWith (xX1_exchange R2 F 17 (nI k) (nI k2)) F 17).1 = eC R0 (swB (R0 17) k k2) := by
          rw [errorWith_eq (by decide) (by decide), exch1_eq hk (by omega)]
          dsimp only
          unfold eC
          rw [up_ne (j := 2) _ _ (by decide), up_ne (j := 6) _ _ (by decide), up_ne (j := 7) _ _ (by decide), up_ne (j := 4) _ _ (by decide), up_ne (j := 8) _ _ (by decide), up_same, h 2 (by decide) (by decide), h 6 (by decide) (by decide), h 7 (by decide) (by decide), h 4 (by decide) (by decide), h 8 (by decide) (by decide), h17]
        have hb : ∀ j, j ≠ 15 → j ≠ 16 → xX1_exchange ((xX1_errorWith (xX1_exchange R2 F 17 (nI k) (nI k2)) F 17).2) F 17 (nI k) (nI k2) j = R0 j := by
          intro j hj hj'
          rw [exch1_eq hk (by omega)]
          by_cases hj17 : j = 17
          · subst hj17
            rw [up_same, errorWith_ne (by decide) (by decide) (by decide) (by decide), exch1_eq hk (by omega), up_same, swB_swB, h17]
          · rw [up_ne _ _ hj17, errorWith_ne (by decide) (by decide) hj hj', exch1_eq hk (by omega), up_ne _ _ hj17, h j hj hj']
        rw [if_neg h1, if_neg h2, e, ee]
        by_cases h3 : y ≤ eC R0 (swB (R0 17) k k2)
        · rw [if_pos h3, if_pos h3]
          exact ih _ _ _ _ (by omega) hb
        · rw [if_neg h3, if_neg h3]
          exact ih _ _ _ _ (by omega) hb
theorem be12 {R F R0 : Nat → Nat → Int32} : ∀ (n k : Nat) (x y : Int32) (R2 : Nat → Nat → Int32), k + n = 8 → (∀ j, j ≠ 15 → j ≠ 16 → R2 j = R0 j) →
    ∃ R3 : Nat → Nat → Int32, (∀ j, j ≠ 15 → j ≠ 16 → R3 j = R0 j) ∧ hX1_bestExchange_12 R F 17 n k x y R2 = ((bxO (eC R0) swB (abC R0 F) (R0 17) 8 n k (x, y)).1, R3) := by
  intro n
  induction n with
  | zero => intro k x y R2 _ h; exact ⟨R2, h, rfl⟩
  | succ n ih =>
    intro k x y R2 hn h
    rw [hX1_bestExchange_12_s, bxO_s]
    obtain ⟨R3, h3, e⟩ := be25 (R := R) (F := F) (R1 := R2) (x2 := x) (x3 := y) (κ := fun z0 z1 z2 z3 => hX1_bestExchange_12 R F 17 n z0 z1 z2 z3) (by omega : k < 8) (8 - (k + 1)) (k + 1) x y R2 (by omega) h
    rw [e]
    exact ih (k + 1) _ _ R3 (by omega) h3
theorem bestExchange_eq {R F : Nat → Nat → Int32} : ∃ R3 : Nat → Nat → Int32, (∀ j, j ≠ 15 → j ≠ 16 → R3 j = R j) ∧ xX1_bestExchange R F 17 = ((bx (eC R) swB (abC R F) 8 (R 17)).1, R3) := by
  unfold xX1_bestExchange bx
  obtain ⟨R3, h3, e⟩ := be12 (R := R) (F := F) (R0 := R) 8 0 (-100009) ((xX1_errorWith R F 17).1) ((xX1_errorWith R F 17).2) (by omega) (fun j hj hj' => errorWith_ne (by decide) (by decide) hj hj')
  refine ⟨R3, h3, e.trans ?_⟩
  rw [errorWith_eq (by decide) (by decide)]
  rfl
/-! bx of two kinds of books that make the same errors -/
section
variable {β γ : Type} {e : β → Int32} {sw : β → Nat → Nat → β} {a : Nat → Bool} {b : β} {e' : γ → Int32} {sw' : γ → Nat → Nat → γ} {a' : Nat → Bool} {c : γ} {kw : Nat}
theorem bxI_add (i : Nat) : ∀ (n m j : Nat) (st : Int32 × Int32), bxI e sw a b i (n + m) j st = bxI e sw a b i m (j + n) (bxI e sw a b i n j st) := by
  intro n
  induction n with
  | zero => intro m j st; rw [Nat.zero_add, Nat.add_zero]; rfl
  | succ n ih => intro m j st; rw [show n + 1 + m = (n + m) + 1 by omega, bxI_s, bxI_s, ih, show j + 1 + n = j + (n + 1) by omega]
theorem bxI_id (i : Nat) : ∀ (n j : Nat) (st : Int32 × Int32), (∀ x, j ≤ x → x < j + n → ¬ (a i = true ∧ a x = true)) → bxI e sw a b i n j st = st := by
  intro n
  induction n with
  | zero => intro j st _; rfl
  | succ n ih =>
    intro j st h
    have e1 : bxS e sw a b i j st = st := by
      unfold bxS
      exact if_neg (h j (Nat.le_refl j) (by omega))
    rw [bxI_s, e1]
    exact ih (j + 1) st (fun x h1 h2 => h x (by omega) (by omega))
theorem bxI_cong (i : Nat) : ∀ (n j : Nat) (st : Int32 × Int32), (∀ x, j ≤ x → x < j + n → (a i = a' i ∧ a x = a' x ∧ (a i = true → a x = true → e (sw b i x) = e' (sw' c i x)))) → bxI e sw a b i n j st = bxI e' sw' a' c i n j st := by
  intro n
  induction n with
  | zero => intro j st _; rfl
  | succ n ih =>
    intro j st h
    obtain ⟨h1, h2, h3⟩ := h j (Nat.le_refl j) (by omega)
    have e1 : bxS e sw a b i j st = bxS e' sw' a' c i j st := by
      unfold bxS
      rw [h1, h2]
      by_cases ha : a' i = true ∧ a' j = true
      · rw [if_pos ha, if_pos ha, h3 (h1.trans ha.1) (h2.trans ha.2)]
      · rw [if_neg ha, if_neg ha]
    rw [bxI_s, bxI_s, e1]
    exact ih (j + 1) _ (fun x h4 h5 => h x (by omega) (by omega))
theorem bxO_id (N : Nat) : ∀ (n i : Nat) (st : Int32 × Int32), (∀ x, i ≤ x → x < i + n → a x = false) → bxO e sw a b N n i st = st := by
  intro n
  induction n with
  | zero => intro i st _; rfl
  | succ n ih =>
    intro i st h
    rw [bxO_s, bxI_id i _ _ st (fun x _ _ q => by rw [h i (Nat.le_refl i) (by omega)] at q; exact absurd q.1 (by decide))]
    exact ih (i + 1) st (fun x h1 h2 => h x (by omega) (by omega))
theorem bxO_add (N : Nat) : ∀ (n m i : Nat) (st : Int32 × Int32), bxO e sw a b N (n + m) i st = bxO e sw a b N m (i + n) (bxO e sw a b N n i st) := by
  intro n
  induction n with
  | zero => intro m i st; rw [Nat.zero_add, Nat.add_zero]; rfl
  | succ n ih => intro m i st; rw [show n + 1 + m = (n + m) + 1 by omega, bxO_s, bxO_s, ih, show i + 1 + n = i + (n + 1) by omega]
theorem bxO_cong (h8 : kw ≤ 8) (ha : ∀ x, x < kw → a x = a' x) (hout : ∀ x, kw ≤ x → x < 8 → a x = false) (he : ∀ i j, i < j → j < kw → a i = true → a j = true → e (sw b i j) = e' (sw' c i j)) : ∀ (n i : Nat) (st : Int32 × Int32), i + n = kw → bxO e sw a b 8 n i st = bxO e' sw' a' c kw n i st := by
  intro n
  induction n with
  | zero => intro i st _; rfl
  | succ n ih =>
    intro i st h
    rw [bxO_s, bxO_s, show 8 - (i + 1) = (kw - (i + 1)) + (8 - kw) by omega, bxI_add i, bxI_id i (8 - kw) _ _ (fun x h1 h2 q => by rw [hout x (by omega) (by omega)] at q; exact absurd q.2 (by decide)), bxI_cong (e' := e') (sw' := sw') (a' := a') (c := c) i _ _ _ (fun x h1 h2 => ⟨ha i (by omega), ha x (by omega), he i x (by omega) (by omega)⟩)]
    exact ih (i + 1) _ (by omega)
theorem bx_cong (h8 : kw ≤ 8) (ha : ∀ x, x < kw → a x = a' x) (hout : ∀ x, kw ≤ x → x < 8 → a x = false) (h0 : e b = e' c) (he : ∀ i j, i < j → j < kw → a i = true → a j = true → e (sw b i j) = e' (sw' c i j)) : bx e sw a 8 b = bx e' sw' a' kw c := by
  unfold bx
  rw [show (8 : Nat) = kw + (8 - kw) by omega]
  rw [show (bxO e sw a b (kw + (8 - kw)) (kw + (8 - kw)) 0 (-100009, e b)) = bxO e sw a b 8 (kw + (8 - kw)) 0 (-100009, e b) by rw [show kw + (8 - kw) = 8 by omega]]
  rw [bxO_add, bxO_id 8 (8 - kw) _ _ (fun x h1 h2 => hout x (by omega) (by omega)), h0]
  exact bxO_cong h8 ha hout he kw 0 _ (by omega)
end
