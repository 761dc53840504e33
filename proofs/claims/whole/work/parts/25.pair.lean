/-! the best exchange, for any kind of book β with exchanges sw and errors e; a: who is aboard -/
section
variable {β : Type}
def bxS (e : β → Int32) (sw : β → Nat → Nat → β) (a : Nat → Bool) (b : β) (i j : Nat) (st : Int32 × Int32) : Int32 × Int32 :=
  if a i = true ∧ a j = true then (if st.2 ≤ e (sw b i j) then st else (nI (10 * i + j), e (sw b i j))) else st
def bxI (e : β → Int32) (sw : β → Nat → Nat → β) (a : Nat → Bool) (b : β) (i : Nat) : Nat → Nat → Int32 × Int32 → Int32 × Int32
  | 0, _, st => st
  | n + 1, j, st => bxI e sw a b i n (j + 1) (bxS e sw a b i j st)
def bxO (e : β → Int32) (sw : β → Nat → Nat → β) (a : Nat → Bool) (b : β) (N : Nat) : Nat → Nat → Int32 × Int32 → Int32 × Int32
  | 0, _, st => st
  | n + 1, i, st => bxO e sw a b N n (i + 1) (bxI e sw a b i (N - (i + 1)) (i + 1) st)
def bx (e : β → Int32) (sw : β → Nat → Nat → β) (a : Nat → Bool) (N : Nat) (b : β) : Int32 × Int32 := bxO e sw a b N N 0 (-100009, e b)
theorem bxI_s (e : β → Int32) (sw : β → Nat → Nat → β) (a : Nat → Bool) (b : β) (i n j : Nat) (st : Int32 × Int32) : bxI e sw a b i (n + 1) j st = bxI e sw a b i n (j + 1) (bxS e sw a b i j st) := rfl
theorem bxO_s (e : β → Int32) (sw : β → Nat → Nat → β) (a : Nat → Bool) (b : β) (N n i : Nat) (st : Int32 × Int32) : bxO e sw a b N (n + 1) i st = bxO e sw a b N n (i + 1) (bxI e sw a b i (N - (i + 1)) (i + 1) st) := rfl
/-- what bx answers: none and the error as it is, or a pair and the error that it makes, less than it was -/
def bxOk (e : β → Int32) (sw : β → Nat → Nat → β) (a : Nat → Bool) (N : Nat) (b : β) (st : Int32 × Int32) : Prop :=
  st = (-100009, e b) ∨ ∃ i j, i < j ∧ j < N ∧ a i = true ∧ a j = true ∧ st = (nI (10 * i + j), e (sw b i j)) ∧ ¬ e b ≤ e (sw b i j)
theorem bxS_ok {e : β → Int32} {sw : β → Nat → Nat → β} {a : Nat → Bool} {N : Nat} {b : β} {i j : Nat} {st : Int32 × Int32} (hij : i < j) (hj : j < N) (h : bxOk e sw a N b st) : bxOk e sw a N b (bxS e sw a b i j st) := by
  unfold bxS
  split
  · next ha =>
    split
    · exact h
    · next hle =>
      right
      refine ⟨i, j, hij, hj, ha.1, ha.2, rfl, ?_⟩
      rcases h with h | ⟨i1, j1, -, -, -, -, h, hl⟩
      · rw [h] at hle
        exact hle
      · rw [h] at hle
        intro hc
        have a1 := i_nle hle
        have a2 := i_nle hl
        have a3 := Int32.le_iff_toInt_le.mp hc
        dsimp only at a1
        omega
  · exact h
theorem bxI_ok {e : β → Int32} {sw : β → Nat → Nat → β} {a : Nat → Bool} {N : Nat} {b : β} {i : Nat} : ∀ (n j : Nat) (st : Int32 × Int32), i < j → j + n ≤ N → bxOk e sw a N b st → bxOk e sw a N b (bxI e sw a b i n j st) := by
  intro n
  induction n with
  | zero => intro j st _ _ h; exact h
  | succ n ih => intro j st h1 h2 h; rw [bxI_s]; exact ih (j + 1) _ (by omega) (by omega) (bxS_ok h1 (by omega) h)
theorem bxO_ok {e : β → Int32} {sw : β → Nat → Nat → β} {a : Nat → Bool} {N : Nat} {b : β} : ∀ (n i : Nat) (st : Int32 × Int32), i + n = N → bxOk e sw a N b st → bxOk e sw a N b (bxO e sw a b N n i st) := by
  intro n
  induction n with
  | zero => intro i st _ h; exact h
  | succ n ih => intro i st h1 h; rw [bxO_s]; exact ih (i + 1) _ (by omega) (bxI_ok _ _ _ (by omega) (by omega) h)
theorem bx_ok (e : β → Int32) (sw : β → Nat → Nat → β) (a : Nat → Bool) (N : Nat) (b : β) : bxOk e sw a N b (bx e sw a N b) := bxO_ok N 0 _ (by omega) (Or.inl rfl)
end
/-- exchanges of the model's rows -/
def exS (k : Nat) (s : Nat → Int32) (a b : Nat) : Nat → Int32 := upd (upd s (102 + 10 * a + k) (s (102 + 10 * b + k))) (102 + 10 * b + k) (s (102 + 10 * a + k))
theorem upd_same {f : Nat → Int32} {k : Nat} {x : Int32} : upd f k x k = x := pk_us
theorem upd_ne {f : Nat → Int32} {k j : Nat} {x : Int32} (h : j ≠ k) : upd f k x j = f j := pk_un h
theorem exS_exS {k : Nat} {s : Nat → Int32} {a b : Nat} : exS k (exS k s a b) a b = s := by
  funext j
  unfold exS
  by_cases h1 : j = 102 + 10 * b + k
  · subst h1
    rw [upd_same]
    by_cases h2 : a = b
    · subst h2
      rw [upd_same]
    · rw [upd_ne (by omega), upd_same]
  · rw [upd_ne h1]
    by_cases h2 : j = 102 + 10 * a + k
    · subst h2
      rw [upd_same, upd_same]
    · rw [upd_ne h2, upd_ne h1, upd_ne h2]
theorem sR_sR {R : Nat → Nat → Int32} {i k j : Nat} {v w : Int32} : sR (sR R i k v) i j w = va_up R i (upd (upd (R i) k v) j w) := by
  funext x
  unfold sR
  by_cases h : x = i
  · subst h
    rw [up_same, up_same, up_same]
  · rw [up_ne _ _ h, up_ne _ _ h, up_ne _ _ h]
theorem exch_eq {R F : Nat → Nat → Int32} {a b k : Nat} : xX2_exchanges R F a b k = va_up R 84 (exS k (R 84) a b) := by
  unfold xX2_exchanges xX2_puts xX2_ofWalker exS
  exact sR_sR
theorem exch_84 {R F : Nat → Nat → Int32} {a b k : Nat} : xX2_exchanges R F a b k 84 = exS k (R 84) a b := by
  rw [exch_eq, up_same]
theorem exch_ne {R F : Nat → Nat → Int32} {a b k i : Nat} (h : i ≠ 84) : xX2_exchanges R F a b k i = R i := by
  rw [exch_eq, up_ne _ _ h]
theorem up_self {α : Type} (f : Nat → α) (k : Nat) : va_up f k (f k) = f := by
  funext x
  by_cases h : x = k
  · subst h
    rw [up_same]
  · rw [up_ne _ _ h]
theorem up_up {α : Type} (f : Nat → α) (k : Nat) (v w : α) : va_up (va_up f k v) k w = va_up f k w := by
  funext x
  by_cases h : x = k
  · subst h
    rw [up_same, up_same]
  · rw [up_ne _ _ h, up_ne _ _ h, up_ne _ _ h]
theorem exch_exch {R F F' : Nat → Nat → Int32} {a b k : Nat} : xX2_exchanges (xX2_exchanges R F a b k) F' a b k = R := by
  rw [exch_eq, exch_84, exS_exS, exch_eq, up_up, up_self]
theorem sR_over {R : Nat → Nat → Int32} {i k : Nat} {v w : Int32} : sR (sR R i k v) i k w = sR R i k w := by
  rw [sR_sR]
  unfold sR
  congr 1
  funext x
  by_cases h : x = k
  · subst h
    rw [upd_same, upd_same]
  · rw [upd_ne h, upd_ne h, upd_ne h]
/-- the best exchange of the model -/
def abM (s : Nat → Int32) : Nat → Bool := fun w => !(xX2_isAboard s w == 0)
theorem abM_t {s : Nat → Int32} {w : Nat} : abM s w = true ↔ ¬ xX2_isAboard s w = 0 := by simp [abM]
def B2 (kw : Nat) (s : Nat → Int32) : Int32 × Int32 := bx (fun s => xX2_error s kw) (exS 3) (abM s) kw s
theorem bt27 {R F R1 F1 R2 G : Nat → Nat → Int32} {kw k : Nat} {x1 : Int32} {κ : Nat → Int32 → (Nat → Nat → Int32) → (Nat → Nat → Int32) → Int32 × (Nat → Nat → Int32) × (Nat → Nat → Int32)} : ∀ (n k2 : Nat) (x y : Int32),
    hX2_bestTwo_27 R F kw k x1 R1 F1 κ n k2 x R2 (sR G 83 1 y) = κ (k + 1) (bxI (fun s => xX2_error s kw) (exS 3) (abM (R2 84)) (R2 84) k n k2 (x, y)).1 R2 (sR G 83 1 (bxI (fun s => xX2_error s kw) (exS 3) (abM (R2 84)) (R2 84) k n k2 (x, y)).2) := by
  intro n
  induction n with
  | zero => intro k2 x y; rfl
  | succ n ih =>
    intro k2 x y
    rw [hX2_bestTwo_27_s, bxI_s]
    by_cases h1 : xX2_isAboard (R2 84) k = 0
    · rw [if_pos h1, ih]
      have e : bxS (fun s => xX2_error s kw) (exS 3) (abM (R2 84)) (R2 84) k k2 (x, y) = (x, y) := by
        unfold bxS
        exact if_neg (fun h => abM_t.mp h.1 h1)
      rw [e]
    · rw [if_neg h1]
      by_cases h2 : xX2_isAboard (R2 84) k2 = 0
      · rw [if_pos h2, ih]
        have e : bxS (fun s => xX2_error s kw) (exS 3) (abM (R2 84)) (R2 84) k k2 (x, y) = (x, y) := by
          unfold bxS
          exact if_neg (fun h => abM_t.mp h.2 h2)
        rw [e]
      · rw [if_neg h2, exch_84, exch_exch, sR_same]
        have e : bxS (fun s => xX2_error s kw) (exS 3) (abM (R2 84)) (R2 84) k k2 (x, y) = (if y ≤ xX2_error (exS 3 (R2 84) k k2) kw then (x, y) else (nI (10 * k + k2), xX2_error (exS 3 (R2 84) k k2) kw)) := by
          unfold bxS
          exact if_pos ⟨abM_t.mpr h1, abM_t.mpr h2⟩
        rw [e]
        by_cases h3 : y ≤ xX2_error (exS 3 (R2 84) k k2) kw
        · rw [if_pos h3, if_pos h3, if_pos h3, sR_over, ih]
        · rw [if_neg h3, if_neg h3, if_neg h3, sR_over, ih]
theorem bt13 {R F R1 G : Nat → Nat → Int32} {kw : Nat} : ∀ (n k : Nat) (x y : Int32),
    hX2_bestTwo_13 R F kw n k x R1 (sR G 83 1 y) = ((bxO (fun s => xX2_error s kw) (exS 3) (abM (R1 84)) (R1 84) kw n k (x, y)).1, R1, sR G 83 1 (bxO (fun s => xX2_error s kw) (exS 3) (abM (R1 84)) (R1 84) kw n k (x, y)).2) := by
  intro n
  induction n with
  | zero => intro k x y; rfl
  | succ n ih =>
    intro k x y
    rw [hX2_bestTwo_13_s, bt27, bxO_s, ih]
theorem bestTwo_eq {R F : Nat → Nat → Int32} {kw : Nat} : xX2_bestTwo R F kw = ((B2 kw (R 84)).1, R, sR F 83 1 (B2 kw (R 84)).2) := by
  unfold xX2_bestTwo B2 bx
  exact bt13 _ _ _ _
theorem B2_nat {x : Int32} {kw : Nat} {s : Nat → Int32} (h : x = (B2 kw s).1) (hn : ¬ x = -100009) (hk : kw ≤ 8) : x / 10 = nI (x.toNatClampNeg / 10) ∧ x - x / 10 * 10 = nI (x.toNatClampNeg % 10) ∧ x.toNatClampNeg / 10 < kw ∧ x.toNatClampNeg % 10 < kw := by
  rcases bx_ok (fun s => xX2_error s kw) (exS 3) (abM s) kw s with h1 | ⟨i, j, hij, hj, -, -, h1, -⟩
  · exact absurd (h.trans (congrArg Prod.fst h1)) hn
  · have e : x = nI (10 * i + j) := h.trans (congrArg Prod.fst h1)
    subst e
    rw [nI_clamp (by omega)]
    refine ⟨pk_div (d := 10) (by omega) (by decide) (by decide), pk_rem (d := 10) (by omega) (by decide) (by decide), by omega, by omega⟩
/-- within n rounds no exchange makes the error less any more -/
def mE (kw : Nat) : Nat → (Nat → Int32) → Prop
  | 0, s => (B2 kw s).1 = -100009
  | n + 1, s => (B2 kw s).1 = -100009 ∨ mE kw n (exS 3 s ((B2 kw s).1.toNatClampNeg / 10) ((B2 kw s).1.toNatClampNeg % 10))
theorem mE_next {kw n : Nat} {s : Nat → Int32} {x : Int32} (h : mE kw (n + 1) s) (hx : x = (B2 kw s).1) (hn : ¬ x = -100009) : mE kw n (exS 3 s (x.toNatClampNeg / 10) (x.toNatClampNeg % 10)) := by
  subst hx
  exact h.resolve_left hn
