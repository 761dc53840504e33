/-! PURE: what the class's rows of readings and expectations hold -/
theorem isCell_nI {b : Nat} (hb : b < 24) : ¬ xX1_isCell (nI b) = 0 := by
  have h : ∀ b, b < 24 → ¬ xX1_isCell (nI b) = 0 := by decide +kernel
  exact h b hb
theorem in_nat {x : Int32} {n : Nat} (h : vp_in x n) (hn : n < 2 ^ 31) : x = nI x.toNatClampNeg ∧ x.toNatClampNeg < n := by
  obtain ⟨j, h1, rfl⟩ := vp_in_of h hn
  rw [nI_clamp (by omega)]
  exact ⟨rfl, h1⟩
theorem isCell_nat {p : Int32} (h : ¬ xX1_isCell p = 0) : p = nI p.toNatClampNeg ∧ p.toNatClampNeg < 24 := in_nat (isCell_in h) (by decide)
/-- what a weight w on the cell b gives to the cell c -/
def SH (w : Int32) (b c : Nat) : Int32 := lS (fun x => if x = c then w / 8 else 0) (nb4 b) + (if c = b then w - nI (nb4 b).length * (w / 8) else 0)
theorem SH_share {w : Int32} {b c : Nat} (hb : b < 24) (hc : c < 24) : xL_share w (nI b) (nI c) = SH w b c := by
  rw [share_lin, (share_tab b hb c hc).2, (share_tab b hb c hc).1]
  unfold SH
  rw [lS_if _ (nb_nodup b hb)]
  by_cases h : c = b
  · have hn : ¬ c ∈ nb4 b := fun q => (nb_lt b hb c q).2 h
    simp only [if_pos h, if_neg hn]
    grind
  · simp only [if_neg h]
    by_cases hn : c ∈ nb4 b
    · simp only [if_pos hn]
      grind
    · simp only [if_neg hn]
      grind
theorem addS_row {R F : Nat → Nat → Int32} {i b : Nat} {w : Int32} : ∀ (n k : Nat) (x : Int32) (R1 : Nat → Nat → Int32) (c : Nat), b < 24 →
    hX1_addShares_19 R F i w (nI b) n k x R1 i c = R1 i c + (lS (fun y => if y = c then w / 8 else 0) (nbs b n k) + (if c = b then x - nI (nbs b n k).length * (w / 8) else 0)) := by
  intro n
  induction n with
  | zero =>
    intro k x R1 c hb
    show sR R1 i ((nI b).toNatClampNeg) (R1 i (nI b).toNatClampNeg + x) i c = R1 i c + (0 + (if c = b then x - nI 0 * (w / 8) else 0))
    rw [nI_clamp (by omega), nI_0]
    by_cases h : c = b
    · subst h
      rw [sR_same, if_pos rfl]
      grind
    · rw [sR_same_ne h, if_neg h]
      grind
  | succ n ih =>
    intro k x R1 c hb
    rw [hX1_addShares_19_s, nbs_s]
    by_cases h : xX1_isCell (xX1_nearCell (nI b) (nI k)) = 0
    · rw [if_pos h, if_pos h, ih _ _ _ _ hb]
    · rw [if_neg h, if_neg h, ih _ _ _ _ hb]
      show sR R1 i _ _ i c + _ = R1 i c + (((if (xX1_nearCell (nI b) (nI k)).toNatClampNeg = c then w / 8 else 0) + lS (fun y => if y = c then w / 8 else 0) (nbs b n (k + 1))) + (if c = b then x - nI ((nbs b n (k + 1)).length + 1) * (w / 8) else 0))
      rw [← nI_1]
      by_cases h2 : c = (xX1_nearCell (nI b) (nI k)).toNatClampNeg
      · rw [← h2, sR_same, if_pos rfl]
        by_cases h3 : c = b
        · rw [if_pos h3, if_pos h3]
          grind
        · rw [if_neg h3, if_neg h3]
          grind
      · rw [sR_same_ne h2, if_neg (Ne.symm h2)]
        by_cases h3 : c = b
        · rw [if_pos h3, if_pos h3]
          grind
        · rw [if_neg h3, if_neg h3]
          grind
theorem addS_ne {R F : Nat → Nat → Int32} {i j : Nat} {w p : Int32} (hj : j ≠ i) : ∀ (n k : Nat) (x : Int32) (R1 : Nat → Nat → Int32), hX1_addShares_19 R F i w p n k x R1 j = R1 j := by
  intro n
  induction n with
  | zero =>
    intro k x R1
    exact sR_ne hj _ _
  | succ n ih =>
    intro k x R1
    rw [hX1_addShares_19_s]
    by_cases h : xX1_isCell (xX1_nearCell p (nI k)) = 0
    · rw [if_pos h, ih]
    · rw [if_neg h, ih, sR_ne hj]
/-- what a weight on the place p (perhaps none) gives to the cell c -/
def shc (w p : Int32) (c : Nat) : Int32 := if xX1_isCell p = 0 then 0 else SH w p.toNatClampNeg c
theorem addShares_row {R F : Nat → Nat → Int32} {i c : Nat} {w p : Int32} : xX1_addShares R F i w p i c = R i c + shc w p c := by
  unfold xX1_addShares shc
  by_cases h : xX1_isCell p = 0
  · rw [if_pos h, if_pos h]
    grind
  · rw [if_neg h, if_neg h]
    obtain ⟨e, hlt⟩ := isCell_nat h
    generalize p.toNatClampNeg = b at e hlt ⊢
    subst e
    exact addS_row _ _ _ _ _ hlt
theorem addShares_ne {R F : Nat → Nat → Int32} {i j : Nat} {w p : Int32} (hj : j ≠ i) : xX1_addShares R F i w p j = R j := by
  unfold xX1_addShares
  split
  · rfl
  · exact addS_ne hj _ _ _ _
theorem addAll_ne {R F : Nat → Nat → Int32} {i i2 i3 j : Nat} (hj : j ≠ i) : ∀ (n k : Nat) (R1 : Nat → Nat → Int32), hX1_addAllShares_2 R F i i2 i3 n k R1 j = R1 j := by
  intro n
  induction n with
  | zero => intro k R1; rfl
  | succ n ih => intro k R1; rw [hX1_addAllShares_2_s, ih, addShares_ne hj]
theorem addAll_row {R F : Nat → Nat → Int32} {i i2 i3 c : Nat} (h2 : i2 ≠ i) (h3 : i3 ≠ i) : ∀ (n k : Nat) (R1 : Nat → Nat → Int32), hX1_addAllShares_2 R F i i2 i3 n k R1 i c = R1 i c + sT (fun k => shc (R1 i2 k) (R1 i3 k) c) n k := by
  intro n
  induction n with
  | zero => intro k R1; show R1 i c = R1 i c + 0; grind
  | succ n ih =>
    intro k R1
    rw [hX1_addAllShares_2_s, ih, addShares_row, addShares_ne h2, addShares_ne h3, sT_s]
    grind
/-- the sum of a base and all shares -/
def GR (z w p : Nat → Int32) (c : Nat) : Int32 := z c + sT (fun k => shc (w k) (p k) c) 8 0
theorem addAllShares_ne {R F : Nat → Nat → Int32} {i i2 i3 j : Nat} (hj : j ≠ i) : xX1_addAllShares R F i i2 i3 j = R j := addAll_ne hj _ _ _
theorem copyRow_ne {R F : Nat → Nat → Int32} {i i2 n j : Nat} (hj : j ≠ i2) : xX1_copyRow R F i i2 n j = R j := up_ne _ _ hj
theorem copyRow_at {R F : Nat → Nat → Int32} {i i2 n k : Nat} (hk : k < n) : xX1_copyRow R F i i2 n i2 k = R i k := by
  unfold xX1_copyRow
  rw [up_same, pk_cpy_in (Nat.zero_le _) (by omega)]
  congr 1
  omega
theorem weighAll_ne {R F : Nat → Nat → Int32} {j : Nat} (hj : j ≠ 15) : xX1_weighAll R F j = R j := by
  unfold xX1_weighAll
  rw [addAllShares_ne hj, copyRow_ne hj]
theorem weighAll_at {R F : Nat → Nat → Int32} {c : Nat} (hc : c < 24) : xX1_weighAll R F 15 c = GR (R 2) (R 6) (R 7) c := by
  unfold xX1_weighAll xX1_addAllShares GR
  rw [addAll_row (by decide) (by decide), copyRow_at hc, copyRow_ne (by decide), copyRow_ne (by decide)]
theorem expectAll_ne {R F : Nat → Nat → Int32} {i j : Nat} (hj : j ≠ 16) : xX1_expectAll R F i j = R j := by
  unfold xX1_expectAll
  rw [addAllShares_ne hj, copyRow_ne hj]
theorem expectAll_at {R F : Nat → Nat → Int32} {i c : Nat} (hi : i ≠ 16) (hc : c < 24) : xX1_expectAll R F i 16 c = GR (R 4) (R 8) (R i) c := by
  unfold xX1_expectAll xX1_addAllShares GR
  rw [addAll_row (by decide) hi, copyRow_at hc, copyRow_ne (by decide), copyRow_ne hi]
def ab (d : Int32) : Int32 := if 0 ≤ d then d else 0 - d
/-- the error of a book -/
def ERR (z w p t bw b : Nat → Int32) : Int32 := sT (fun c => ab (GR z w p c - GR t bw b c)) 24 0
theorem err_loop {R F : Nat → Nat → Int32} {i : Nat} : ∀ (n k : Nat) (x : Int32), hX1_errorWith_13 R F i n k x = (x + sT (fun c => ab ((xX1_expectAll (xX1_weighAll R F) F i) 15 c - (xX1_expectAll (xX1_weighAll R F) F i) 16 c)) n k, xX1_expectAll (xX1_weighAll R F) F i) := by
  intro n
  induction n with
  | zero =>
    intro k x
    show (x, _) = (x + 0, _)
    congr 1
    grind
  | succ n ih =>
    intro k x
    rw [hX1_errorWith_13_s, ih, sT_s]
    generalize xX1_expectAll (xX1_weighAll R F) F i = E
    have e : ∀ a b c : Int32, a + b + c = a + (b + c) := fun a b c => by grind
    rw [e]
    rfl
theorem errorWith_eq {R F : Nat → Nat → Int32} {i : Nat} (h15 : i ≠ 15) (h16 : i ≠ 16) : xX1_errorWith R F i = (ERR (R 2) (R 6) (R 7) (R 4) (R 8) (R i), xX1_expectAll (xX1_weighAll R F) F i) := by
  unfold xX1_errorWith
  rw [err_loop]
  have e0 : ∀ a : Int32, 0 + a = a := fun a => by grind
  rw [e0]
  unfold ERR
  rw [sT_congr (g' := fun c => ab (GR (R 2) (R 6) (R 7) c - GR (R 4) (R 8) (R i) c)) 24 0 (fun c _ hc => by
    rw [expectAll_ne (by decide), weighAll_at (by omega), expectAll_at h16 (by omega), weighAll_ne (by decide), weighAll_ne (by decide), weighAll_ne h15])]
/-- rows that scratch work leaves alone -/
theorem errorWith_ne {R F : Nat → Nat → Int32} {i j : Nat} (h15 : i ≠ 15) (h16 : i ≠ 16) (hj : j ≠ 15) (hj' : j ≠ 16) : (xX1_errorWith R F i).2 j = R j := by
  rw [errorWith_eq h15 h16]
  dsimp only
  rw [expectAll_ne hj', weighAll_ne hj]
