/-! PURE: mending comes to an end -/
theorem ab_ti {d : Int32} (h : -2147483647 ≤ d.toInt) : (ab d).toInt = if 0 ≤ d.toInt then d.toInt else -d.toInt := by
  unfold ab
  by_cases h0 : 0 ≤ d
  · rw [if_pos h0]
    rw [Int32.le_iff_toInt_le, i_0] at h0
    rw [if_pos h0]
  · rw [if_neg h0]
    rw [Int32.le_iff_toInt_le, i_0] at h0
    have := ti_hi d
    rw [if_neg h0, ti_sub (by rw [i_0]; omega) (by rw [i_0]; omega), i_0]
    omega
/-- sizes of zeros and tares -/
def zt (z t : Nat → Int32) : Prop := ∀ c, c < 24 → -6000 ≤ (z c).toInt ∧ (z c).toInt ≤ 6000 ∧ -12000 ≤ (t c).toInt ∧ (t c).toInt ≤ 12000
section
variable {z t w p bw b b' : Nat → Int32}
theorem GR_ti {M B : Int} {z w p : Nat → Int32} (hz : ∀ c, c < 24 → -B ≤ (z c).toInt ∧ (z c).toInt ≤ B) (hB : B ≤ 100000) (h : pw M w p) (hM : M ≤ 100000) (hM0 : 0 ≤ M) {c : Nat} (hc : c < 24) : (GR z w p c).toInt = (z c).toInt + (XX w p c).toInt := by
  have h1 := XX_bd h hM hM0 c
  have h2 := hz c hc
  show (z c + XX w p c).toInt = _
  rw [ti_add (by omega) (by omega)]
def dd (z w p t bw b : Nat → Int32) (c : Nat) : Int32 := GR z w p c - GR t bw b c
theorem dd_ti (hz : zt z t) (hp : pw 150 w p) (hb : pw 1500 bw b) {c : Nat} (hc : c < 24) : (dd z w p t bw b c).toInt = (z c).toInt + (XX w p c).toInt - ((t c).toInt + (XX bw b c).toInt) := by
  have h1 := GR_ti (B := 6000) (z := z) (fun c hc => by have := hz c hc; omega) (by decide) hp (by decide) (by decide) hc
  have h2 := GR_ti (B := 12000) (z := t) (fun c hc => by have := hz c hc; omega) (by decide) hb (by decide) (by decide) hc
  have h3 := XX_bd hp (by decide) (by decide) c
  have h4 := XX_bd hb (by decide) (by decide) c
  have h5 := hz c hc
  unfold dd
  rw [ti_sub (by omega) (by omega), h1, h2]
theorem dd_bd (hz : zt z t) (hp : pw 150 w p) (hb : pw 1500 bw b) {c : Nat} (hc : c < 24) : -40000 ≤ (dd z w p t bw b c).toInt ∧ (dd z w p t bw b c).toInt ≤ 40000 := by
  have h1 := dd_ti hz hp hb hc
  have h3 := XX_bd hp (by decide) (by decide) c
  have h4 := XX_bd hb (by decide) (by decide) c
  have h5 := hz c hc
  omega
theorem ERR_ti (hz : zt z t) (hp : pw 150 w p) (hb : pw 1500 bw b) : (ERR z w p t bw b).toInt = iS (fun c => (ab (dd z w p t bw b c)).toInt) 24 0 := by
  have h := ti_sT (g := fun c => ab (dd z w p t bw b c)) (B := 40000) 24 0 (fun c _ hc => by
    have h1 := dd_bd hz hp hb (c := c) (by omega)
    have h2 := ab_ti (d := dd z w p t bw b c) (by omega)
    show -40000 ≤ (ab (dd z w p t bw b c)).toInt ∧ (ab (dd z w p t bw b c)).toInt ≤ 40000
    rw [h2]
    split <;> omega) (by decide) (by decide)
  exact h.1
theorem ERR_diff (hz : zt z t) (hp : pw 150 w p) (hb : pw 1500 bw b) (hb' : pw 1500 bw b') : (ERR z w p t bw b).toInt ≤ (ERR z w p t bw b').toInt + 24000 := by
  rw [ERR_ti hz hp hb, ERR_ti hz hp hb']
  have h1 := XX_total hb (by decide) (by decide)
  have h2 := XX_total hb' (by decide) (by decide)
  have h3 := iS_le (g := fun c => (ab (dd z w p t bw b c)).toInt) (g' := fun c => (ab (dd z w p t bw b' c)).toInt + ((XX bw b c).toInt + (XX bw b' c).toInt)) 24 0 (fun c _ hc => by
    have hc : c < 24 := by omega
    have a1 := dd_ti hz hp hb hc
    have a2 := dd_ti hz hp hb' hc
    have a3 := dd_bd hz hp hb hc
    have a4 := dd_bd hz hp hb' hc
    have a5 := XX_bd hb (by decide) (by decide) c
    have a6 := XX_bd hb' (by decide) (by decide) c
    show (ab (dd z w p t bw b c)).toInt ≤ (ab (dd z w p t bw b' c)).toInt + ((XX bw b c).toInt + (XX bw b' c).toInt)
    rw [ab_ti (by omega), ab_ti (by omega)]
    split <;> split <;> omega)
  have h4 := iS_add (f := fun c => (ab (dd z w p t bw b' c)).toInt) (g := fun c => (XX bw b c).toInt + (XX bw b' c).toInt) 24 0
  have h5 := iS_add (f := fun c => (XX bw b c).toInt) (g := fun c => (XX bw b' c).toInt) 24 0
  rw [h4, h5] at h3
  omega
end
/-- exchanging two who are aboard keeps the relation -/
theorem gR_swap {kw : Nat} {z t w p bw b s : Nat → Int32} (h : gR kw z t w p bw b s) {i j : Nat} (hi : i < kw) (hj : j < kw) (hpi : ¬ p i = -100009) (hpj : ¬ p j = -100009) : gR kw z t w p bw (swB b i j) (exS 3 s i j) := by
  obtain ⟨h8, hc, hw, ho⟩ := h
  have hne : ∀ x, (x ≠ 102 + 10 * i + 3) → (x ≠ 102 + 10 * j + 3) → exS 3 s i j x = s x := fun x h1 h2 => by
    unfold exS
    rw [upd_ne h2, upd_ne h1]
  have hbi := (hw i hi).2.2.1
  have hbj := (hw j hj).2.2.1
  have hij3 : ∀ k, k < kw → exS 3 s i j (102 + 10 * k + 3) = swB b i j k := fun k hk => by
    unfold exS swB
    by_cases h1 : k = j
    · subst h1
      rw [upd_same, upd_same, hbi]
    · rw [upd_ne (by omega), upd_ne h1]
      by_cases h2 : k = i
      · subst h2
        rw [upd_same, upd_same, hbj]
      · rw [upd_ne (by omega), upd_ne h2]
        exact (hw k hk).2.2.1
  have hbn : ∀ k, k < kw → ¬ p k = -100009 → ¬ b k = -100009 := fun k hk hp hb => hp ((hw k hk).2.2.2.2.1.mpr hb)
  refine ⟨h8, fun c hcc => ⟨(hne _ (by omega) (by omega)).trans (hc c hcc).1, (hne _ (by omega) (by omega)).trans (hc c hcc).2⟩, fun k hk => ?_, fun k h1 h2 => ⟨(ho k h1 h2).1, ?_⟩⟩
  · obtain ⟨a1, a2, a3, a4, a5, a6, a7⟩ := hw k hk
    refine ⟨(hne _ (by omega) (by omega)).trans a1, (hne _ (by omega) (by omega)).trans a2, hij3 k hk, fun hp => (hne _ (by omega) (by omega)).trans (a4 hp), ?_, a6, ?_⟩
    · unfold swB
      by_cases h1 : k = j
      · subst h1
        rw [upd_same]
        exact ⟨fun q => absurd q hpj, fun q => absurd q (hbn i hi hpi)⟩
      · rw [upd_ne h1]
        by_cases h2 : k = i
        · subst h2
          rw [upd_same]
          exact ⟨fun q => absurd q hpi, fun q => absurd q (hbn j hj hpj)⟩
        · rw [upd_ne h2]
          exact a5
    · unfold swB
      by_cases h1 : k = j
      · subst h1
        rw [upd_same]
        exact (hw i hi).2.2.2.2.2.2
      · rw [upd_ne h1]
        by_cases h2 : k = i
        · subst h2
          rw [upd_same]
          exact (hw j hj).2.2.2.2.2.2
        · rw [upd_ne h2]
          exact a7
  · unfold swB
    rw [upd_ne (by omega), upd_ne (by omega)]
    exact (ho k h1 h2).2
/-- bookkeeping weights of who is aboard -/
theorem gR_pw {kw : Nat} {z t w p bw b s : Nat → Int32} {M : Int} (h : gR kw z t w p bw b s) (hbw : ∀ k, k < kw → ¬ p k = -100009 → 0 ≤ (bw k).toInt ∧ (bw k).toInt ≤ M) : pw M bw b := by
  intro k hk
  rcases Nat.lt_or_ge k kw with h1 | h1
  · obtain ⟨-, -, -, -, a5, -, a7⟩ := h.2.2.1 k h1
    by_cases hb : b k = -100009
    · exact Or.inl hb
    · exact Or.inr ⟨a7 hb, hbw k h1 (fun q => hb (a5.mp q))⟩
  · exact Or.inl (h.2.2.2 k h1 hk).2
theorem gR_pp {kw : Nat} {z t w p bw b s : Nat → Int32} {M : Int} (h : gR kw z t w p bw b s) (hw : ∀ k, k < kw → 0 ≤ (w k).toInt ∧ (w k).toInt ≤ M) : pw M w p := by
  intro k hk
  rcases Nat.lt_or_ge k kw with h1 | h1
  · obtain ⟨-, -, -, -, -, a6, -⟩ := h.2.2.1 k h1
    by_cases hp : p k = -100009
    · exact Or.inl hp
    · exact Or.inr ⟨a6 hp, hw k h1⟩
  · exact Or.inl (h.2.2.2 k h1 hk).1
theorem B2_ok (kw : Nat) (s : Nat → Int32) : bxOk (fun s => xX2_error s kw) (exS 3) (abM s) kw s (B2 kw s) := bx_ok _ _ _ _ _
theorem mE_of {kw : Nat} {z t w p bw b0 : Nat → Int32} (hz : zt z t) (hw : ∀ k, k < kw → 0 ≤ (w k).toInt ∧ (w k).toInt ≤ 150) (hbw : ∀ k, k < kw → ¬ p k = -100009 → 0 ≤ (bw k).toInt ∧ (bw k).toInt ≤ 1500) (hb0 : pw 1500 bw b0) (hp : pw 150 w p) : ∀ (n : Nat) (b s : Nat → Int32), gR kw z t w p bw b s → (ERR z w p t bw b).toInt + 24000 ≤ (ERR z w p t bw b0).toInt + n → mE kw n s := by
  intro n
  induction n with
  | zero =>
    intro b s h he
    show (B2 kw s).1 = -100009
    rcases B2_ok kw s with h1 | ⟨i, j, hij, hj, hai, haj, h1, hl⟩
    · rw [h1]
    · exfalso
      have hpi : ¬ p i = -100009 := fun q => (abM_t.mp hai) ((gR_ab h (by omega)).mpr q)
      have hpj : ¬ p j = -100009 := fun q => (abM_t.mp haj) ((gR_ab h hj).mpr q)
      have h2 := gR_swap h (by omega) hj hpi hpj
      dsimp only at hl
      rw [error_eq h, error_eq h2] at hl
      have h3 := i_nle hl
      have h4 := ERR_diff hz hp hb0 (gR_pw h2 hbw)
      omega
  | succ n ih =>
    intro b s h he
    show (B2 kw s).1 = -100009 ∨ mE kw n (exS 3 s ((B2 kw s).1.toNatClampNeg / 10) ((B2 kw s).1.toNatClampNeg % 10))
    rcases B2_ok kw s with h1 | ⟨i, j, hij, hj, hai, haj, h1, hl⟩
    · exact Or.inl (by rw [h1])
    · right
      have h8 := h.1
      have hpi : ¬ p i = -100009 := fun q => (abM_t.mp hai) ((gR_ab h (by omega)).mpr q)
      have hpj : ¬ p j = -100009 := fun q => (abM_t.mp haj) ((gR_ab h hj).mpr q)
      have h2 := gR_swap h (by omega) hj hpi hpj
      have e1 : (B2 kw s).1.toNatClampNeg = 10 * i + j := by
        rw [h1]
        exact nI_clamp (by omega)
      rw [e1, show (10 * i + j) / 10 = i by omega, show (10 * i + j) % 10 = j by omega]
      dsimp only at hl
      rw [error_eq h, error_eq h2] at hl
      have h3 := i_nle hl
      exact ih _ _ h2 (by omega)
