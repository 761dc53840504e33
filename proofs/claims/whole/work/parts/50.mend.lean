/-! PURE: guess and mend -/
theorem gR_b {kw : Nat} {z t w p bw b b' s : Nat → Int32} (h : gR kw z t w p bw b s) (hb : ∀ k, k < 8 → b' k = b k) : gR kw z t w p bw b' s := by
  obtain ⟨h8, hc, hw, ho⟩ := h
  refine ⟨h8, hc, fun k hk => ?_, fun k h1 h2 => by rw [hb k h2]; exact ho k h1 h2⟩
  rw [hb k (by omega)]
  exact hw k hk
section
variable {n : Nat} {R F : Nat → Nat → Int32} {s : Nat → Int32} {kw mi : Nat}
/-- the class's best exchange is the model's -/
theorem bx_eq {R' : Nat → Nat → Int32} {s' : Nat → Int32} (h : NOW n R F s kw mi) (hR : ∀ i, i ≠ 15 → i ≠ 16 → i ≠ 17 → R' i = R i) (hg : gR kw (R 2) (R 4) (R 6) (R 7) (R 8) (R' 17) s') : bx (eC R') swB (abC R' F) 8 (R' 17) = B2 kw s' := by
  have he : ∀ b, eC R' b = ERR (R 2) (R 6) (R 7) (R 4) (R 8) b := fun b => by
    unfold eC
    rw [hR 2 (by decide) (by decide) (by decide), hR 6 (by decide) (by decide) (by decide), hR 7 (by decide) (by decide) (by decide), hR 4 (by decide) (by decide) (by decide), hR 8 (by decide) (by decide) (by decide)]
  have hab : ∀ x, x < 8 → (abC R' F x = true ↔ ¬ R 7 x = -100009) := fun x hx => by
    rw [abC_t, isAboard_cong (hR 7 (by decide) (by decide) (by decide)), isAb_nI h hx]
  have h8 := h.1.1
  unfold B2
  refine bx_cong h8 (fun x hx => ?_) (fun x h1 h2 => ?_) ?_ (fun i j hij hj hai haj => ?_)
  · have e1 := hab x (by omega)
    have e2 : abM s' x = true ↔ ¬ R 7 x = -100009 := by rw [abM_t, gR_ab hg hx]
    exact Bool.eq_iff_iff.mpr (e1.trans e2.symm)
  · have e1 := hab x h2
    rw [(h.2.2.2.2.1 x h1 h2).1] at e1
    cases hx : abC R' F x with
    | false => rfl
    | true => exact absurd rfl (e1.mp hx)
  · rw [he, error_eq hg]
  · have hpi := (hab i (by omega)).mp hai
    have hpj := (hab j (by omega)).mp haj
    rw [he]
    exact (error_eq (gR_swap hg (by omega) hj hpi hpj)).symm
theorem isPair_ok (h : NOW n R F s kw mi) {R' : Nat → Nat → Int32} {i j : Nat} (hij : i < j) (hj : j < kw) : ¬ xX1_isPair R' F (nI i) (nI j) = 0 := by
  have h8 := h.1.1
  have hw : ∀ k, k < kw → ¬ xX1_isWalker R' F (nI k) = 0 := fun k hk q => by
    have e : xX1_isWalker R' F (nI k) = xX1_isWalker R F (nI k) := rfl
    rw [e, isW h] at q
    unfold xX2_isWalker at q
    rw [if_neg (nI_pos (by omega)), h.1.2.2.2.1, if_neg (nI_ge hk (by omega))] at q
    exact absurd q (by decide)
  unfold xX1_isPair
  rw [if_neg (hw i (by omega)), if_neg (hw j hj), if_neg (fun q => by
    have := (nI_eq (a := i) (b := j) (by omega) (by omega)).mp q
    omega)]
  decide
/-- the pair that is told: who, and that they are aboard -/
theorem B2_pair {s' : Nat → Int32} (h8 : kw ≤ 8) (hn : ¬ (B2 kw s').1 = -100009) : ∃ i j, i < j ∧ j < kw ∧ abM s' i = true ∧ abM s' j = true ∧ (B2 kw s').1 = nI (10 * i + j) ∧ (B2 kw s').2 = xX2_error (exS 3 s' i j) kw ∧ (B2 kw s').1.toNatClampNeg / 10 = i ∧ (B2 kw s').1.toNatClampNeg % 10 = j := by
  rcases B2_ok kw s' with h1 | ⟨i, j, hij, hj, hai, haj, h1, hl⟩
  · rw [h1] at hn
    exact absurd rfl hn
  · have e1 : (B2 kw s').1.toNatClampNeg = 10 * i + j := by
      rw [h1]
      exact nI_clamp (by omega)
    exact ⟨i, j, hij, hj, hai, haj, by rw [h1], by rw [h1], by rw [e1]; omega, by rw [e1]; omega⟩
/-- exchangePair does what was told -/
theorem exP_eq (h : NOW n R F s kw mi) {R' : Nat → Nat → Int32} {i j : Nat} (hij : i < j) (hj : j < kw) {x : Int32} (hx : x = nI (10 * i + j)) : xX1_exchangePair R' F 17 x = va_up R' 17 (swB (R' 17) i j) := by
  have h8 := h.1.1
  have e1 : x / 10 = nI i := by
    rw [hx, show nI (10 * i + j) / 10 = nI ((10 * i + j) / 10) from pk_div (d := 10) (by omega) (by decide) (by decide), show (10 * i + j) / 10 = i by omega]
  have e2 : x - x / 10 * 10 = nI j := by
    rw [hx, show nI (10 * i + j) - nI (10 * i + j) / 10 * 10 = nI ((10 * i + j) % 10) from pk_rem (d := 10) (by omega) (by decide) (by decide), show (10 * i + j) % 10 = j by omega]
  unfold xX1_exchangePair
  rw [e2, e1, if_neg (isPair_ok h hij hj), exch1_eq (by omega) (by omega)]
theorem trial_kp : kp3 (xX1_copyRow R F 9 17 8) R := fun _ _ _ h17 => copyRow_ne h17
theorem trial_gR (h : NOW n R F s kw mi) : gR kw (R 2) (R 4) (R 6) (R 7) (R 8) (xX1_copyRow R F 9 17 8 17) s := gR_b (now_gR h) (fun k hk => copyRow_at hk)
theorem op_guess (h : NOW n R F (R 84) kw mi) (p : Int32) {R1 : Nat → Nat → Int32} (h1 : R1 84 = R 84) : (xX1_guess R F p).1 = (xX2_guess R1 F p kw).1 ∧ kp3 (xX1_guess R F p).2 R := by
  unfold xX1_guess xX2_guess
  rw [isIn, h1]
  by_cases hi : xX2_in p 0 1 = 0
  · rw [if_pos hi, if_pos hi]
    exact ⟨rfl, fun i _ _ _ => rfl⟩
  obtain ⟨R3, h3, eb⟩ := bestExchange_eq (R := xX1_copyRow R F 9 17 8) (F := F)
  have eB := bx_eq h trial_kp (trial_gR h)
  have k3 : kp3 R3 R := fun i a b c => (h3 i a b).trans (trial_kp i a b c)
  rw [if_neg hi, if_neg hi, eb, eB]
  dsimp only
  by_cases hn : (B2 kw (R 84)).1 = -100009
  · rw [if_pos hn, if_pos hn]
    exact ⟨rfl, k3⟩
  rw [if_neg hn, if_neg hn]
  by_cases hp : p = 0
  · rw [if_pos hp, if_pos hp]
    exact ⟨rfl, k3⟩
  rw [if_neg hp, if_neg hp]
  obtain ⟨i, j, hij, hj, hai, haj, e1, e2, -, -⟩ := B2_pair h.1.1 hn
  rw [exP_eq h hij hj e1]
  dsimp only
  refine ⟨?_, fun x a b c => by rw [errorWith_ne (by decide) (by decide) a b, up_ne _ _ c]; exact k3 x a b c⟩
  have hpi : ¬ R 7 i = -100009 := fun q => (abM_t.mp hai) ((gR_ab (trial_gR h) (by omega)).mpr q)
  have hpj : ¬ R 7 j = -100009 := fun q => (abM_t.mp haj) ((gR_ab (trial_gR h) hj).mpr q)
  rw [errorWith_eq (by decide) (by decide), sR_same, e2]
  dsimp only
  rw [up_ne (j := 2) _ _ (by decide), up_ne (j := 6) _ _ (by decide), up_ne (j := 7) _ _ (by decide), up_ne (j := 4) _ _ (by decide), up_ne (j := 8) _ _ (by decide), up_same, k3 2 (by decide) (by decide) (by decide), k3 6 (by decide) (by decide) (by decide), k3 7 (by decide) (by decide) (by decide), k3 4 (by decide) (by decide) (by decide), k3 8 (by decide) (by decide) (by decide), h3 17 (by decide) (by decide)]
  exact (error_eq (gR_swap (trial_gR h) (by omega) hj hpi hpj)).symm
/-- how many exchanges, and the row then -/
def mdn (kw : Nat) : Nat → (Nat → Int32) → Nat × (Nat → Int32)
  | 0, s => (0, s)
  | m + 1, s => if (B2 kw s).1 = -100009 then (0, s) else ((mdn kw m (exS 3 s ((B2 kw s).1.toNatClampNeg / 10) ((B2 kw s).1.toNatClampNeg % 10))).1 + 1, (mdn kw m (exS 3 s ((B2 kw s).1.toNatClampNeg / 10) ((B2 kw s).1.toNatClampNeg % 10))).2)
theorem mdn_s (m : Nat) (s : Nat → Int32) : mdn kw (m + 1) s = if (B2 kw s).1 = -100009 then (0, s) else ((mdn kw m (exS 3 s ((B2 kw s).1.toNatClampNeg / 10) ((B2 kw s).1.toNatClampNeg % 10))).1 + 1, (mdn kw m (exS 3 s ((B2 kw s).1.toNatClampNeg / 10) ((B2 kw s).1.toNatClampNeg % 10))).2) := rfl
theorem errK {R1 : Nat → Nat → Int32} {s' : Nat → Int32} (hk : kp3 R1 R) (hg : gR kw (R 2) (R 4) (R 6) (R 7) (R 8) (R1 17) s') : (xX1_errorWith R1 F 17).1 = xX2_error s' kw := by
  rw [errorWith_eq (by decide) (by decide)]
  dsimp only
  rw [hk 2 (by decide) (by decide) (by decide), hk 6 (by decide) (by decide) (by decide), hk 7 (by decide) (by decide) (by decide), hk 4 (by decide) (by decide) (by decide), hk 8 (by decide) (by decide) (by decide)]
  exact (error_eq hg).symm
theorem mend1 (h : NOW n R F s kw mi) {p : Int32} : ∀ (m k : Nat) (x : Int32) (R1 : Nat → Nat → Int32) (s' : Nat → Int32), kp3 R1 R → gR kw (R 2) (R 4) (R 6) (R 7) (R 8) (R1 17) s' → x = (B2 kw s').1 → mE kw m s' →
    (hX1_mend_37 R F p m k x R1).1 = (if p = 0 then nI (k + (mdn kw m s').1) else xX2_error (mdn kw m s').2 kw) ∧ kp3 (hX1_mend_37 R F p m k x R1).2 R := by
  intro m
  induction m with
  | zero =>
    intro k x R1 s' hk hg hx hE
    have e0 : x = -100009 := hx.trans hE
    rw [hX1_mend_37_z, if_pos e0]
    by_cases hp : p = 0
    · rw [if_pos hp, if_pos hp]
      exact ⟨rfl, hk⟩
    · rw [if_neg hp, if_neg hp]
      dsimp only
      exact ⟨errK hk hg, fun i a b c => by rw [errorWith_ne (by decide) (by decide) a b]; exact hk i a b c⟩
  | succ m ih =>
    intro k x R1 s' hk hg hx hE
    rw [hX1_mend_37_s, mdn_s]
    by_cases hn : (B2 kw s').1 = -100009
    · rw [if_pos (hx.trans hn), if_pos hn]
      by_cases hp : p = 0
      · rw [if_pos hp, if_pos hp]
        exact ⟨rfl, hk⟩
      · rw [if_neg hp, if_neg hp]
        dsimp only
        exact ⟨errK hk hg, fun i a b c => by rw [errorWith_ne (by decide) (by decide) a b]; exact hk i a b c⟩
    · have hxn : ¬ x = -100009 := fun q => hn (hx.symm.trans q)
      obtain ⟨i, j, hij, hj, hai, haj, e1, e2, d1, d2⟩ := B2_pair h.1.1 hn
      have hE' := mE_next hE hx hxn
      rw [if_neg hxn, if_neg hn, d1, d2, exP_eq h hij hj (hx.trans e1)]
      rw [hx, d1, d2] at hE'
      have hpi : ¬ R 7 i = -100009 := fun q => (abM_t.mp hai) ((gR_ab hg (by omega)).mpr q)
      have hpj : ¬ R 7 j = -100009 := fun q => (abM_t.mp haj) ((gR_ab hg hj).mpr q)
      have hg2 : gR kw (R 2) (R 4) (R 6) (R 7) (R 8) ((va_up R1 17 (swB (R1 17) i j)) 17) (exS 3 s' i j) := by
        rw [up_same]
        exact gR_swap hg (by omega) hj hpi hpj
      have hk2 : kp3 (va_up R1 17 (swB (R1 17) i j)) R := fun x a b c => by rw [up_ne _ _ c]; exact hk x a b c
      obtain ⟨R3, h3, eb⟩ := bestExchange_eq (R := va_up R1 17 (swB (R1 17) i j)) (F := F)
      have eB := bx_eq h hk2 hg2
      rw [eb, eB]
      dsimp only
      obtain ⟨r1, r2⟩ := ih (k + 1) (B2 kw (exS 3 s' i j)).1 R3 (exS 3 s' i j) (fun x a b c => (h3 x a b).trans (hk2 x a b c)) (by rw [h3 17 (by decide) (by decide)]; exact hg2) rfl hE'
      refine ⟨?_, r2⟩
      rw [r1, show k + 1 + (mdn kw m (exS 3 s' i j)).1 = k + ((mdn kw m (exS 3 s' i j)).1 + 1) by omega]
/-- the model's row behind mend is what it was -/
def bkc (x : Nat) : Prop := ∃ k, k < 8 ∧ x = 102 + 10 * k + 3
theorem mend84 {p : Int32} {f k k2 : Nat} {R1 R2 F2 : Nat → Nat → Int32} {x32 : Int32} {s0 : Nat → Int32} : ∀ (m k3 : Nat) (R3 : Nat → Nat → Int32), k3 + m = 8 → (∀ k, k < 8 → R3 86 k = s0 (102 + 10 * k + 3)) → (∀ x, (¬ bkc x ∨ ∃ k, k < k3 ∧ x = 102 + 10 * k + 3) → R3 84 x = s0 x) →
    (hX2_mend_84 R F p kw f k R1 k2 x32 R2 F2 m k3 R3).1 = (if p = 0 then nI k2 else xX2_error (R2 84) kw) ∧ (hX2_mend_84 R F p kw f k R1 k2 x32 R2 F2 m k3 R3).2.1 84 = s0 ∧ (∀ i, i ≠ 84 → (hX2_mend_84 R F p kw f k R1 k2 x32 R2 F2 m k3 R3).2.1 i = R3 i) ∧ (hX2_mend_84 R F p kw f k R1 k2 x32 R2 F2 m k3 R3).2.2 = F2 := by
  intro m
  induction m with
  | zero =>
    intro k3 R3 hk h86 h84
    rw [hX2_mend_84_z]
    have e84 : R3 84 = s0 := funext fun x => h84 x (by
      by_cases hb : bkc x
      · obtain ⟨k, hk8, e⟩ := hb
        exact Or.inr ⟨k, by omega, e⟩
      · exact Or.inl hb)
    by_cases hp : p = 0
    · rw [if_pos hp, if_pos hp]
      exact ⟨rfl, e84, fun _ _ => rfl, rfl⟩
    · rw [if_neg hp, if_neg hp]
      exact ⟨rfl, e84, fun _ _ => rfl, rfl⟩
  | succ m ih =>
    intro k3 R3 hk h86 h84
    rw [hX2_mend_84_s]
    have hput : ∀ i, i ≠ 84 → xX2_puts R3 F2 k3 3 (R3 86 k3) i = R3 i := fun i hi => sR_ne hi _ _
    obtain ⟨a1, a2, a3, a4⟩ := ih (k3 + 1) (xX2_puts R3 F2 k3 3 (R3 86 k3)) (by omega) (fun k hk8 => by rw [hput 86 (by decide)]; exact h86 k hk8) (fun x hx => by
      show sR R3 84 (102 + 10 * k3 + 3) (R3 86 k3) 84 x = s0 x
      by_cases he : x = 102 + 10 * k3 + 3
      · subst he
        rw [sR_same]
        exact h86 k3 (by omega)
      · rw [sR_same_ne he]
        refine h84 x ?_
        rcases hx with hx | ⟨k, hk1, hk2⟩
        · exact Or.inl hx
        · exact Or.inr ⟨k, by omega, hk2⟩)
    exact ⟨a1, a2, fun i hi => (a3 i hi).trans (hput i hi), a4⟩
theorem mend84b {p : Int32} {f k k2 : Nat} {R1 R2 F2 : Nat → Nat → Int32} {x32 : Int32} : ∀ (m k3 : Nat) (R3 : Nat → Nat → Int32), hX2_mend_84b R F p kw f k R1 k2 x32 R2 F2 m k3 R3 = hX2_mend_84 R F p kw f k R1 k2 x32 R2 F2 m k3 R3 := by
  intro m
  induction m with
  | zero => intro k3 R3; rfl
  | succ m ih => intro k3 R3; rw [hX2_mend_84b_s, hX2_mend_84_s, ih]
theorem mend45 {p : Int32} {f k : Nat} {R1 : Nat → Nat → Int32} {s0 : Nat → Int32} (h8 : kw ≤ 8) : ∀ (m k2 : Nat) (x32 : Int32) (R2 F2 : Nat → Nat → Int32), (∀ k, k < 8 → R2 86 k = s0 (102 + 10 * k + 3)) → (∀ x, ¬ bkc x → R2 84 x = s0 x) → x32 = (B2 kw (R2 84)).1 → mE kw m (R2 84) →
    (hX2_mend_45 R F p kw f k R1 m k2 x32 R2 F2).1 = (if p = 0 then nI (k2 + (mdn kw m (R2 84)).1) else xX2_error (mdn kw m (R2 84)).2 kw) ∧ (hX2_mend_45 R F p kw f k R1 m k2 x32 R2 F2).2.1 84 = s0 ∧ (∀ i, i ≠ 84 → (hX2_mend_45 R F p kw f k R1 m k2 x32 R2 F2).2.1 i = R2 i) ∧ (∀ y, y ≠ 83 → (hX2_mend_45 R F p kw f k R1 m k2 x32 R2 F2).2.2 y = F2 y) ∧ (hX2_mend_45 R F p kw f k R1 m k2 x32 R2 F2).2.2 83 0 = F2 83 0 := by
  intro m
  induction m with
  | zero =>
    intro k2 x32 R2 F2 h86 h84 hx hE
    rw [hX2_mend_45_z]
    obtain ⟨a1, a2, a3, a4⟩ := mend84 (R := R) (F := F) (kw := kw) (p := p) (f := f) (k := k) (k2 := k2) (R1 := R1) (R2 := R2) (F2 := F2) (x32 := x32) 8 0 R2 (by omega) h86 (fun x hx => h84 x (hx.elim id (fun ⟨_, q, _⟩ => absurd q (by omega))))
    refine ⟨a1, a2, a3, fun y _ => by rw [a4], by rw [a4]⟩
  | succ m ih =>
    intro k2 x32 R2 F2 h86 h84 hx hE
    rw [hX2_mend_45_s, mdn_s]
    by_cases hn : (B2 kw (R2 84)).1 = -100009
    · rw [if_pos (hx.trans hn), if_pos hn, mend84b]
      obtain ⟨a1, a2, a3, a4⟩ := mend84 (R := R) (F := F) (kw := kw) (p := p) (f := f) (k := k) (k2 := k2) (R1 := R1) (R2 := R2) (F2 := F2) (x32 := x32) 8 0 R2 (by omega) h86 (fun x hx => h84 x (hx.elim id (fun ⟨_, q, _⟩ => absurd q (by omega))))
      refine ⟨a1, a2, a3, fun y _ => by rw [a4], by rw [a4]⟩
    · have hxn : ¬ x32 = -100009 := fun q => hn (hx.symm.trans q)
      obtain ⟨i, j, hij, hj, hai, haj, e1, e2, d1, d2⟩ := B2_pair h8 hn
      have hE' := mE_next hE hx hxn
      rw [hx, d1, d2] at hE'
      rw [if_neg hxn, if_neg hn, hx, d1, d2, exch_84]
      have hr84 : xX2_exchanges R2 F2 i j 3 84 = exS 3 (R2 84) i j := exch_84
      obtain ⟨r1, r2, r3, r4, r5⟩ := ih (k2 + 1) (B2 kw (exS 3 (R2 84) i j)).1 (xX2_exchanges R2 F2 i j 3) (sR F2 83 1 (B2 kw (exS 3 (R2 84) i j)).2) (fun k hk => by rw [exch_ne (by decide)]; exact h86 k hk) (fun x hx => by
        rw [hr84]
        unfold exS
        rw [upd_ne (fun q => hx ⟨j, by omega, q⟩), upd_ne (fun q => hx ⟨i, by omega, q⟩)]
        exact h84 x hx) (by rw [hr84]) (by rw [hr84]; exact hE')
      rw [hr84] at r1
      refine ⟨?_, r2, fun x hx => (r3 x hx).trans (exch_ne hx), fun y hy => (r4 y hy).trans (sR_ne hy _ _), r5.trans (sR_same_ne (by decide))⟩
      rw [r1]
      dsimp only
      rw [show k2 + 1 + (mdn kw m (exS 3 (R2 84) i j)).1 = k2 + ((mdn kw m (exS 3 (R2 84) i j)).1 + 1) by omega]
theorem mend14 {p : Int32} {f : Nat} (h8 : kw ≤ 8) {s0 : Nat → Int32} (hE : mE kw f s0) : ∀ (m k : Nat) (R1 : Nat → Nat → Int32), k + m = 8 → R1 84 = s0 → (∀ j, j < k → R1 86 j = s0 (102 + 10 * j + 3)) →
    (hX2_mend_14 R F p kw f m k R1).1 = (if p = 0 then nI (mdn kw f s0).1 else xX2_error (mdn kw f s0).2 kw) ∧ (hX2_mend_14 R F p kw f m k R1).2.1 84 = s0 ∧ (∀ i, i ≠ 84 → i ≠ 86 → (hX2_mend_14 R F p kw f m k R1).2.1 i = R1 i) ∧ (∀ y, y ≠ 83 → (hX2_mend_14 R F p kw f m k R1).2.2 y = F y) ∧ (hX2_mend_14 R F p kw f m k R1).2.2 83 0 = F 83 0 := by
  intro m
  induction m with
  | zero =>
    intro k R1 hk h84 h86
    rw [hX2_mend_14_z, h84]
    obtain ⟨r1, r2, r3, r4, r5⟩ := mend45 (R := R) (F := F) (p := p) (f := f) (k := k) (R1 := R1) (s0 := s0) h8 f 0 (B2 kw s0).1 R1 (sR F 83 1 (B2 kw s0).2) (fun j hj => h86 j (by omega)) (fun x _ => by rw [h84]) (by rw [h84]) (by rw [h84]; exact hE)
    rw [h84, Nat.zero_add] at r1
    exact ⟨r1, r2, fun i hi _ => r3 i hi, fun y hy => (r4 y hy).trans (sR_ne hy _ _), r5.trans (sR_same_ne (by decide))⟩
  | succ m ih =>
    intro k R1 hk h84 h86
    rw [hX2_mend_14_s]
    obtain ⟨r1, r2, r3, r4, r5⟩ := ih (k + 1) (sR R1 86 k (xX2_ofWalker (R1 84) k 3)) (by omega) ((sR_ne (by decide) _ _).trans h84) (fun j hj => by
      by_cases he : j = k
      · subst he
        rw [sR_same, h84]
        rfl
      · rw [sR_same_ne he]
        exact h86 j (by omega))
    exact ⟨r1, r2, fun i hi hi' => (r3 i hi hi').trans (sR_ne hi' _ _), r4, r5⟩
theorem mE_now (h : NOW n R F s kw mi) : mE kw 40320 s := by
  have hg := now_gR h
  have hw := now_w h
  have hbw := now_bw h
  exact mE_of (now_zt h) hw hbw (gR_pw hg hbw) (gR_pp hg hw) 40320 (R 9) s hg (by omega)
theorem op_mend (h : NOW n R F (R 84) kw mi) (p : Int32) {R1 : Nat → Nat → Int32} (h1 : R1 84 = R 84) : (xX1_mend R F p).1 = (xX2_mend R1 F p kw 40320).1 ∧ kp3 (xX1_mend R F p).2 R ∧ (xX2_mend R1 F p kw 40320).2.1 84 = R 84 ∧ (∀ i, i ≠ 84 → i ≠ 86 → (xX2_mend R1 F p kw 40320).2.1 i = R1 i) ∧ (∀ y, y ≠ 83 → (xX2_mend R1 F p kw 40320).2.2 y = F y) ∧ (xX2_mend R1 F p kw 40320).2.2 83 0 = F 83 0 := by
  unfold xX1_mend xX2_mend
  rw [isIn]
  by_cases hi : xX2_in p 0 1 = 0
  · rw [if_pos hi, if_pos hi]
    exact ⟨rfl, fun i _ _ _ => rfl, h1, fun _ _ _ => rfl, fun _ _ => rfl, rfl⟩
  rw [if_neg hi, if_neg hi]
  obtain ⟨R3, h3, eb⟩ := bestExchange_eq (R := xX1_copyRow R F 9 17 8) (F := F)
  have eB := bx_eq h trial_kp (trial_gR h)
  have hE := mE_now h
  have k3 : kp3 R3 R := fun i a b c => (h3 i a b).trans (trial_kp i a b c)
  rw [eb, eB]
  dsimp only
  obtain ⟨c1, c2⟩ := mend1 h (p := p) 40320 0 (B2 kw (R 84)).1 R3 (R 84) k3 (by rw [h3 17 (by decide) (by decide)]; exact trial_gR h) rfl hE
  obtain ⟨m1, m2, m3, m4, m5⟩ := mend14 (R := R1) (F := F) (p := p) h.1.1 hE 8 0 R1 (by omega) h1 (fun j hj => absurd hj (by omega))
  rw [Nat.zero_add] at c1
  exact ⟨c1.trans m1.symm, c2, m2, m3, m4, m5⟩
end
