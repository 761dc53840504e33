/-! PURE: the model's readings, expectations, errors are the class's -/
theorem none_cell : xX1_isCell (-100009) = 0 := by decide +kernel
theorem shc_none {w : Int32} {c : Nat} : shc w (-100009) c = 0 := by
  unfold shc
  rw [if_pos none_cell]
theorem shc_cell {w : Int32} {b c : Nat} (hb : b < 24) : shc w (nI b) c = SH w b c := by
  unfold shc
  rw [if_neg (isCell_nI hb), nI_clamp (by omega)]
/-- the model's row s and the class's rows, as far as readings and the error go -/
def gR (kw : Nat) (z t w p bw b s : Nat → Int32) : Prop := kw ≤ 8 ∧ (∀ c, c < 24 → s (6 + 4 * c + 0) = z c ∧ s (6 + 4 * c + 2) = t c) ∧
  (∀ k, k < kw → s (102 + 10 * k + 0) = w k ∧ s (102 + 10 * k + 1) = p k ∧ s (102 + 10 * k + 3) = b k ∧ (¬ p k = -100009 → s (102 + 10 * k + 2) = bw k) ∧ (p k = -100009 ↔ b k = -100009) ∧ (¬ p k = -100009 → ∃ c, c < 24 ∧ p k = nI c) ∧ (¬ b k = -100009 → ∃ c, c < 24 ∧ b k = nI c)) ∧
  (∀ k, kw ≤ k → k < 8 → p k = -100009 ∧ b k = -100009)
theorem aboard_iff {s : Nat → Int32} {k : Nat} {x : Int32} (h : s (102 + 10 * k + 1) = x) : xX2_isAboard s k = 0 ↔ x = -100009 := by
  unfold xX2_isAboard xX2_ofWalker
  rw [h]
  by_cases hx : x = -100009
  · rw [if_pos hx]
    exact ⟨fun _ => hx, fun _ => rfl⟩
  · rw [if_neg hx]
    exact ⟨fun h => absurd h (by decide), fun h => absurd h hx⟩
theorem shares_loop {s : Nat → Int32} {pc : Int32} {kw : Nat} {g : Nat → Int32} : ∀ (n k : Nat) (x : Int32), (∀ j, k ≤ j → j < k + n → g j = if xX2_isAboard s j = 0 then 0 else xX2_share (xX2_ofWalker s j 0) (xX2_ofWalker s j 1) pc) → hX2_shares_4 s pc kw n k x = x + sT g n k := by
  intro n
  induction n with
  | zero => intro k x _; show x = x + 0; grind
  | succ n ih =>
    intro k x h
    rw [hX2_shares_4_s, sT_s, h k (Nat.le_refl k) (by omega)]
    by_cases ha : xX2_isAboard s k = 0
    · rw [if_pos ha, if_pos ha, ih _ _ (fun j h1 h2 => h j (by omega) (by omega))]
      grind
    · rw [if_neg ha, if_neg ha, ih _ _ (fun j h1 h2 => h j (by omega) (by omega))]
      grind
theorem booked_loop {s : Nat → Int32} {pc but : Int32} {kw : Nat} {g : Nat → Int32} : ∀ (n k : Nat) (x : Int32), (∀ j, k ≤ j → j < k + n → g j = if xX2_isAboard s j = 0 ∨ nI j = but then 0 else xX2_share (xX2_ofWalker s j 2) (xX2_ofWalker s j 3) pc) → hX2_booked_5 s pc but kw n k x = x + sT g n k := by
  intro n
  induction n with
  | zero => intro k x _; show x = x + 0; grind
  | succ n ih =>
    intro k x h
    rw [hX2_booked_5_s, sT_s, h k (Nat.le_refl k) (by omega)]
    by_cases ha : xX2_isAboard s k = 0
    · rw [if_pos ha, if_pos (Or.inl ha), ih _ _ (fun j h1 h2 => h j (by omega) (by omega))]
      grind
    · by_cases hb : nI k = but
      · rw [if_neg ha, if_pos hb, if_pos (Or.inr hb), ih _ _ (fun j h1 h2 => h j (by omega) (by omega))]
        grind
      · rw [if_neg ha, if_neg hb, if_neg (fun h => h.elim ha hb), ih _ _ (fun j h1 h2 => h j (by omega) (by omega))]
        grind
section
variable {kw : Nat} {z t w p bw b s : Nat → Int32}
theorem gR_ab (h : gR kw z t w p bw b s) {k : Nat} (hk : k < kw) : xX2_isAboard s k = 0 ↔ p k = -100009 := aboard_iff (h.2.2.1 k hk).2.1
theorem reading_eq (h : gR kw z t w p bw b s) {c : Nat} (hc : c < 24) : xX2_reading s c kw = GR z w p c := by
  obtain ⟨h8, hcell, hw, hout⟩ := id h
  unfold xX2_reading xX2_shares GR xX2_of
  rw [shares_loop (g := fun k => shc (w k) (p k) c) kw 0 0 (fun j _ hj => by
    obtain ⟨e0, e1, -, -, -, hp, -⟩ := hw j (by omega)
    by_cases ha : p j = -100009
    · rw [if_pos ((gR_ab h (by omega)).mpr ha)]
      show shc (w j) (p j) c = 0
      rw [ha, shc_none]
    · rw [if_neg (fun q => ha ((gR_ab h (by omega)).mp q))]
      obtain ⟨d, hd, e⟩ := hp ha
      unfold xX2_ofWalker
      rw [e0, e1]
      show shc (w j) (p j) c = _
      rw [e, shc_cell hd, SH_share hd hc]), (hcell c hc).1,
    sT_kw (g := fun k => shc (w k) (p k) c) h8 (fun j h1 h2 => by
      show shc (w j) (p j) c = 0
      rw [(hout j h1 h2).1, shc_none])]
  grind
theorem booked_eq (h : gR kw z t w p bw b s) {c : Nat} (hc : c < 24) : xX2_booked s (nI c) (-100009) kw = sT (fun k => shc (bw k) (b k) c) 8 0 := by
  obtain ⟨h8, hcell, hw, hout⟩ := id h
  unfold xX2_booked
  rw [booked_loop (g := fun k => shc (bw k) (b k) c) kw 0 0 (fun j _ hj => by
    obtain ⟨-, e1, e3, e2, hpb, -, hb⟩ := hw j (by omega)
    by_cases ha : p j = -100009
    · rw [if_pos (Or.inl ((gR_ab h (by omega)).mpr ha))]
      show shc (bw j) (b j) c = 0
      rw [hpb.mp ha, shc_none]
    · rw [if_neg (fun q => q.elim (fun q => ha ((gR_ab h (by omega)).mp q)) (fun q => by
        have h1 := congrArg Int32.toInt q
        rw [nI_toInt (by omega)] at h1
        have h2 : (-100009 : Int32).toInt = -100009 := by decide
        omega))]
      obtain ⟨d, hd, e⟩ := hb (fun q => ha (hpb.mpr q))
      unfold xX2_ofWalker
      rw [e2 ha, e3]
      show shc (bw j) (b j) c = _
      rw [e, shc_cell hd, SH_share hd hc]),
    sT_kw (g := fun k => shc (bw k) (b k) c) h8 (fun j h1 h2 => by
      show shc (bw j) (b j) c = 0
      rw [(hout j h1 h2).2, shc_none])]
  grind
theorem expected_eq (h : gR kw z t w p bw b s) {c : Nat} (hc : c < 24) : xX2_expected s c kw = GR t bw b c := by
  unfold xX2_expected GR xX2_of
  rw [booked_eq h hc, (h.2.1 c hc).2]
  grind
theorem error_loop {g : Nat → Int32} : ∀ (n k : Nat) (x : Int32), (∀ j, k ≤ j → j < k + n → g j = xX2_reading s j kw - xX2_expected s j kw) → hX2_error_4 s kw n k x = x + sT (fun c => ab (g c)) n k := by
  intro n
  induction n with
  | zero => intro k x _; show x = x + 0; grind
  | succ n ih =>
    intro k x h
    rw [hX2_error_4_s, sT_s, h k (Nat.le_refl k) (by omega)]
    unfold ab
    by_cases ha : 0 ≤ xX2_reading s k kw - xX2_expected s k kw
    · rw [if_pos ha, if_pos ha, ih _ _ (fun j h1 h2 => h j (by omega) (by omega))]
      unfold ab
      grind
    · rw [if_neg ha, if_neg ha, ih _ _ (fun j h1 h2 => h j (by omega) (by omega))]
      unfold ab
      grind
theorem error_eq (h : gR kw z t w p bw b s) : xX2_error s kw = ERR z w p t bw b := by
  unfold xX2_error ERR
  rw [error_loop (g := fun c => GR z w p c - GR t bw b c) 24 0 0 (fun j _ hj => by
    rw [reading_eq h (by omega), expected_eq h (by omega)])]
  grind
/-- what the book lets a cell get from all but one -/
theorem booked_but (h : gR kw z t w p bw b s) {c j : Nat} (hc : c < 24) (hj : j < kw) : xX2_booked s (nI c) (nI j) kw = sT (fun k => shc (bw k) (b k) c) 8 0 - shc (bw j) (b j) c := by
  obtain ⟨h8, hcell, hw, hout⟩ := id h
  unfold xX2_booked
  rw [booked_loop (g := fun k => if k = j then 0 else shc (bw k) (b k) c) kw 0 0 (fun i _ hi => by
    obtain ⟨-, e1, e3, e2, hpb, -, hb⟩ := hw i (by omega)
    show (if i = j then 0 else shc (bw i) (b i) c) = _
    by_cases hij : i = j
    · subst hij
      rw [if_pos rfl, if_pos (Or.inr rfl)]
    · rw [if_neg hij]
      by_cases ha : p i = -100009
      · rw [if_pos (Or.inl ((gR_ab h (by omega)).mpr ha)), hpb.mp ha, shc_none]
      · rw [if_neg (fun q => q.elim (fun q => ha ((gR_ab h (by omega)).mp q)) (fun q => hij ((nI_eq (by omega) (by omega)).mp q)))]
        obtain ⟨d, hd, e⟩ := hb (fun q => ha (hpb.mpr q))
        unfold xX2_ofWalker
        rw [e2 ha, e3, e, shc_cell hd, SH_share hd hc]),
    sT_upd (g := fun k => if k = j then 0 else shc (bw k) (b k) c) (g' := fun k => shc (bw k) (b k) c) (w := j) 8 0 (Nat.zero_le _) (by omega) (fun i hi => by simp [hi]),
    sT_kw (g := fun k => if k = j then 0 else shc (bw k) (b k) c) h8 (fun i h1 h2 => by
      show (if i = j then 0 else shc (bw i) (b i) c) = 0
      rw [(hout i h1 h2).2, shc_none]
      split <;> rfl)]
  simp only [if_true]
  grind
end
theorem SH_self {w : Int32} {b : Nat} (hb : b < 24) : SH w b b = w - nI (nb4 b).length * (w / 8) := by
  unfold SH
  rw [lS_if _ (nb_nodup b hb), if_neg (fun h => (nb_lt b hb b h).2 rfl), if_pos rfl]
  grind
theorem SH_near {w : Int32} {b x : Nat} (hb : b < 24) (hx : x ∈ nb4 b) : SH w b x = w / 8 := by
  unfold SH
  rw [lS_if _ (nb_nodup b hb), if_pos hx, if_neg (nb_lt b hb x hx).2]
  grind
theorem lS_const {f : Nat → Int32} {v : Int32} : ∀ (l : List Nat), (∀ x ∈ l, f x = v) → lS f l = nI l.length * v := by
  intro l
  induction l with
  | nil => intro _; show (0 : Int32) = nI 0 * v; rw [nI_0]; grind
  | cons x l ih =>
    intro h
    show f x + lS f l = nI (l.length + 1) * v
    rw [ih (fun y hy => h y (List.mem_cons_of_mem _ hy)), h x List.mem_cons_self, ← nI_1]
    grind
theorem lS_add {f g : Nat → Int32} : ∀ (l : List Nat), lS (fun x => f x + g x) l = lS f l + lS g l := by
  intro l
  induction l with
  | nil => rfl
  | cons x l ih => show f x + g x + lS (fun x => f x + g x) l = f x + lS f l + (g x + lS g l); rw [ih]; grind
theorem lS_congr {f g : Nat → Int32} : ∀ (l : List Nat), (∀ x ∈ l, f x = g x) → lS f l = lS g l := by
  intro l
  induction l with
  | nil => intro _; rfl
  | cons x l ih => intro h; show f x + lS f l = g x + lS g l; rw [ih (fun y hy => h y (List.mem_cons_of_mem _ hy)), h x List.mem_cons_self]
/-- a weight's shares make up the weight -/
theorem SH_sum {w : Int32} {b : Nat} (hb : b < 24) : SH w b b + lS (SH w b) (nb4 b) = w := by
  rw [SH_self hb, lS_const (v := w / 8) (nb4 b) (fun x hx => SH_near hb hx)]
  grind
