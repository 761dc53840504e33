/-! PURE: the relation of the class's rows and the law's rows g z d t u a b (83 to 89) -/
def oz (x : Int32) : Int32 := xX1_orZero x
def lo (x : Int32) : Int32 := if x = -100009 then -1 else x
def rNum (N g : Nat → Int32) (kw mi : Nat) : Prop := kw ≤ 8 ∧ mi ≤ 2000 ∧ N 2 = nI kw ∧ g 1 = nI kw ∧ N 0 = nI mi ∧ g 0 = nI mi ∧ g 2 = N 1
def cel1 (mi : Nat) (z d t tm lz ld lt lu : Nat → Int32) (c : Nat) : Prop := lz c = z c ∧ ld c = d c ∧ lt c = t c ∧ lu c = tm c ∧ (-3 ≤ (d c).toInt ∧ (d c).toInt ≤ 3) ∧ (∃ m : Nat, m ≤ mi ∧ tm c = nI m) ∧ (-(3 * (mi : Int)) ≤ (z c).toInt ∧ (z c).toInt ≤ 3 * (mi : Int))
def wlk1 (w p bw b a : Nat → Int32) (k : Nat) : Prop := a (5 * k) = w k ∧ (20 ≤ (w k).toInt ∧ (w k).toInt ≤ 150) ∧ a (5 * k + 1) = lo (p k) ∧ a (5 * k + 2) = (if p k = -100009 then -1 else bw k) ∧ a (5 * k + 3) = lo (b k) ∧ (p k = -100009 ↔ b k = -100009) ∧ (¬ p k = -100009 → ∃ c, c < 24 ∧ p k = nI c) ∧ (¬ b k = -100009 → ∃ c, c < 24 ∧ b k = nI c)
def bil1 (ac bk bp bb a b : Nat → Int32) (k : Nat) : Prop := a (5 * k + 4) = ac k ∧ b (5 * k) = lo (bk k) ∧ b (5 * k + 1) = oz (bk k) * bp k ∧ b (5 * k + 2) = oz (bb k) * bp k ∧ (¬ bk k = -100009 → b (5 * k + 3) = bp k) ∧ (b (5 * k + 4) = 1 ↔ ¬ bb k = -100009) ∧ (bk k = -100009 ∨ 0 ≤ (bk k).toInt) ∧ (¬ bb k = -100009 → ¬ bk k = -100009)
def wOut (p b a bk bb : Nat → Int32) (k : Nat) : Prop := p k = -100009 ∧ b k = -100009 ∧ a k = 0 ∧ bk k = -100009 ∧ bb k = -100009
def prm (p b : Nat → Int32) : Prop := (∀ i j, i < 8 → j < 8 → ¬ p i = -100009 → p i = p j → i = j) ∧ (∀ i j, i < 8 → j < 8 → ¬ b i = -100009 → b i = b j → i = j) ∧ (∀ i, i < 8 → ¬ p i = -100009 → ∃ j, j < 8 ∧ b j = p i) ∧ (∀ j, j < 8 → ¬ b j = -100009 → ∃ i, i < 8 ∧ p i = b j)
def tots (bk bp bb g : Nat → Int32) : Prop := g 3 = sT (fun k => oz (bk k) - oz (bb k)) 8 0 ∧ g 4 = sT (fun k => oz (bk k) * bp k) 8 0 ∧ g 5 = sT (fun k => oz (bb k) * bp k) 8 0
def REL (z d t tm w p bw b ac bk bp bb N lg lz ld lt lu la lb : Nat → Int32) (kw mi : Nat) : Prop := rNum N lg kw mi ∧ (∀ c, c < 24 → cel1 mi z d t tm lz ld lt lu c) ∧ (∀ k, k < kw → wlk1 w p bw b la k) ∧ (∀ k, k < kw → bil1 ac bk bp bb la lb k) ∧ (∀ k, kw ≤ k → k < 8 → wOut p b ac bk bb k) ∧ prm p b ∧ tots bk bp bb lg
/-- class rows of R, numbers of F, law rows of L -/
def NOW (R F L : Nat → Nat → Int32) (kw mi : Nat) : Prop := REL (R 2) (R 3) (R 4) (R 5) (R 6) (R 7) (R 8) (R 9) (R 10) (R 11) (R 12) (R 13) (F 1) (L 83) (L 84) (L 85) (L 86) (L 87) (L 88) (L 89) kw mi
theorem NOW_rows {R F L R' F' L' : Nat → Nat → Int32} {kw mi : Nat} (h : NOW R F L kw mi) (hR : ∀ j, 2 ≤ j → j ≤ 13 → R' j = R j) (hF : F' 1 = F 1) (hL : ∀ j, 83 ≤ j → j < 90 → L' j = L j) : NOW R' F' L' kw mi := by
  unfold NOW
  rw [hR 2 (by decide) (by decide), hR 3 (by decide) (by decide), hR 4 (by decide) (by decide), hR 5 (by decide) (by decide), hR 6 (by decide) (by decide), hR 7 (by decide) (by decide), hR 8 (by decide) (by decide), hR 9 (by decide) (by decide), hR 10 (by decide) (by decide), hR 11 (by decide) (by decide), hR 12 (by decide) (by decide), hR 13 (by decide) (by decide), hF,
    hL 83 (by decide) (by decide), hL 84 (by decide) (by decide), hL 85 (by decide) (by decide), hL 86 (by decide) (by decide), hL 87 (by decide) (by decide), hL 88 (by decide) (by decide), hL 89 (by decide) (by decide)]
  exact h
theorem lo_none : lo (-100009) = -1 := rfl
theorem lo_nn {x : Int32} (h : ¬ x = -100009) : lo x = x := if_neg h
theorem lo_nI {b : Nat} (h : b < 2 ^ 31) : lo (nI b) = nI b := lo_nn (nI_nn h)
/-- who is ashore shows a number below 0 -/
theorem lo_neg {x : Int32} (h : ¬ x = -100009 → 0 ≤ x.toInt) : lo x < 0 ↔ x = -100009 := by
  by_cases hx : x = -100009
  · rw [hx]
    exact ⟨fun _ => rfl, fun _ => by decide⟩
  · rw [lo_nn hx, Int32.lt_iff_toInt_lt, i_0]
    have := h hx
    exact ⟨fun q => by omega, fun q => absurd q hx⟩
theorem cell_pos {x : Int32} (h : ∃ c, c < 24 ∧ x = nI c) : 0 ≤ x.toInt := by
  obtain ⟨c, hc, rfl⟩ := h
  rw [nI_toInt (by omega)]
  omega
theorem oz_none : oz (-100009) = 0 := rfl
theorem oz_nn {x : Int32} (h : ¬ x = -100009) : oz x = x := by
  unfold oz xX1_orZero
  rw [if_neg h]
section
variable {R F L : Nat → Nat → Int32} {kw mi : Nat}
theorem ab_iff (h : NOW R F L kw mi) {k : Nat} (hk : k < kw) : L 88 (5 * k + 1) < 0 ↔ R 7 k = -100009 := by
  obtain ⟨-, -, a1, -, -, -, a6, -⟩ := h.2.2.1 k hk
  rw [a1]
  exact lo_neg (fun q => cell_pos (a6 q))
theorem now_pp (h : NOW R F L kw mi) : pw 150 (R 6) (R 7) := by
  intro k hk
  rcases Nat.lt_or_ge k kw with h1 | h1
  · obtain ⟨-, a1, -, -, -, -, a6, -⟩ := h.2.2.1 k h1
    by_cases hp : R 7 k = -100009
    · exact Or.inl hp
    · exact Or.inr ⟨a6 hp, by omega, a1.2⟩
  · exact Or.inl (h.2.2.2.2.1 k h1 hk).1
/-! what the law's gets gets -/
theorem gets_loop {g a : Nat → Int32} {p3 p5 : Int32} {w4 kw : Nat} {G : Nat → Int32} : ∀ (n k : Nat) (x : Int32), (∀ j, k ≤ j → j < k + n → G j = if a (5 * j + 1) < 0 then 0 else if nI j = p5 then 0 else xL_share (a (5 * j + w4)) (a (5 * j + w4 + 1)) p3) → hL_gets_6 g a p3 w4 p5 kw n k x = x + sT G n k := by
  intro n
  induction n with
  | zero => intro k x _; show x = x + 0; grind
  | succ n ih =>
    intro k x h
    rw [hL_gets_6_s, sT_s, h k (Nat.le_refl k) (by omega)]
    by_cases ha : a (5 * k + 1) < 0
    · rw [if_pos ha, if_pos ha, ih _ _ (fun j h1 h2 => h j (by omega) (by omega))]
      grind
    · rw [if_neg ha, if_neg ha]
      by_cases hb : nI k = p5
      · rw [if_pos hb, if_pos hb, ih _ _ (fun j h1 h2 => h j (by omega) (by omega))]
        grind
      · rw [if_neg hb, if_neg hb, ih _ _ (fun j h1 h2 => h j (by omega) (by omega))]
        grind
theorem m1_ne {j : Nat} (h : j < 2 ^ 31) : ¬ nI j = -1 := by
  intro q
  have h1 := congrArg Int32.toInt q
  rw [nI_toInt h] at h1
  have h2 : (-1 : Int32).toInt = -1 := by decide
  omega
theorem gets0 (h : NOW R F L kw mi) {c : Nat} (hc : c < 24) : xL_gets (L 83) (L 88) (nI c) 0 (-1) kw = XX (R 6) (R 7) c := by
  have h8 := h.1.1
  unfold xL_gets XX
  rw [gets_loop (G := fun k => shc (R 6 k) (R 7 k) c) kw 0 0 (fun j _ hj => by
    have hjk : j < kw := by omega
    obtain ⟨e0, -, e1, -, -, -, hp, -⟩ := h.2.2.1 j hjk
    by_cases ha : R 7 j = -100009
    · rw [if_pos ((ab_iff h hjk).mpr ha)]
      show shc (R 6 j) (R 7 j) c = 0
      rw [ha, shc_none]
    · rw [if_neg (fun q => ha ((ab_iff h hjk).mp q)), if_neg (m1_ne (by omega))]
      obtain ⟨d, hd, e⟩ := hp ha
      show shc (R 6 j) (R 7 j) c = xL_share (L 88 (5 * j)) (L 88 (5 * j + 1)) (nI c)
      rw [e0, e1, e, lo_nI (by omega), shc_cell hd, SH_share hd hc]),
    sT_kw (g := fun k => shc (R 6 k) (R 7 k) c) h8 (fun j h1 h2 => by
      show shc (R 6 j) (R 7 j) c = 0
      rw [(h.2.2.2.2.1 j h1 h2).1, shc_none]), zero_add32]
theorem gets2 (h : NOW R F L kw mi) {c : Nat} (hc : c < 24) : xL_gets (L 83) (L 88) (nI c) 2 (-1) kw = XX (R 8) (R 9) c := by
  have h8 := h.1.1
  unfold xL_gets XX
  rw [gets_loop (G := fun k => shc (R 8 k) (R 9 k) c) kw 0 0 (fun j _ hj => by
    have hjk : j < kw := by omega
    obtain ⟨-, -, -, e2, e3, hpb, -, hb⟩ := h.2.2.1 j hjk
    by_cases ha : R 7 j = -100009
    · rw [if_pos ((ab_iff h hjk).mpr ha)]
      show shc (R 8 j) (R 9 j) c = 0
      rw [hpb.mp ha, shc_none]
    · rw [if_neg (fun q => ha ((ab_iff h hjk).mp q)), if_neg (m1_ne (by omega))]
      obtain ⟨d, hd, e⟩ := hb (fun q => ha (hpb.mpr q))
      show shc (R 8 j) (R 9 j) c = xL_share (L 88 (5 * j + 2)) (L 88 (5 * j + 3)) (nI c)
      rw [e2, if_neg ha, e3, e, lo_nI (by omega), shc_cell hd, SH_share hd hc]),
    sT_kw (g := fun k => shc (R 8 k) (R 9 k) c) h8 (fun j h1 h2 => by
      show shc (R 8 j) (R 9 j) c = 0
      rw [(h.2.2.2.2.1 j h1 h2).2.1, shc_none]), zero_add32]
/-- what the book lets a cell get from all but one -/
theorem gets2b (h : NOW R F L kw mi) {c i : Nat} (hc : c < 24) (hi : i < kw) : xL_gets (L 83) (L 88) (nI c) 2 (nI i) kw = XX (R 8) (R 9) c - shc (R 8 i) (R 9 i) c := by
  have h8 := h.1.1
  unfold xL_gets XX
  rw [gets_loop (G := fun k => if k = i then 0 else shc (R 8 k) (R 9 k) c) kw 0 0 (fun j _ hj => by
    have hjk : j < kw := by omega
    obtain ⟨-, -, -, e2, e3, hpb, -, hb⟩ := h.2.2.1 j hjk
    show (if j = i then 0 else shc (R 8 j) (R 9 j) c) = _
    by_cases ha : R 7 j = -100009
    · rw [if_pos ((ab_iff h hjk).mpr ha), hpb.mp ha, shc_none]
      split <;> rfl
    · rw [if_neg (fun q => ha ((ab_iff h hjk).mp q))]
      by_cases hij : j = i
      · rw [if_pos hij, if_pos (by rw [hij])]
      · rw [if_neg hij, if_neg (fun q => hij ((nI_eq (by omega) (by omega)).mp q))]
        obtain ⟨d, hd, e⟩ := hb (fun q => ha (hpb.mpr q))
        show _ = xL_share (L 88 (5 * j + 2)) (L 88 (5 * j + 3)) (nI c)
        rw [e2, if_neg ha, e3, e, lo_nI (by omega), shc_cell hd, SH_share hd hc]),
    sT_upd (g := fun k => if k = i then 0 else shc (R 8 k) (R 9 k) c) (g' := fun k => shc (R 8 k) (R 9 k) c) (w := i) 8 0 (Nat.zero_le _) (by omega) (fun j hj => by simp [hj]),
    sT_kw (g := fun k => if k = i then 0 else shc (R 8 k) (R 9 k) c) h8 (fun j h1 h2 => by
      show (if j = i then 0 else shc (R 8 j) (R 9 j) c) = 0
      rw [(h.2.2.2.2.1 j h1 h2).2.1, shc_none]
      split <;> rfl)]
  simp only [if_true]
  grind
theorem GR_XX {z w p : Nat → Int32} {c : Nat} : GR z w p c = z c + XX w p c := rfl
/-- the error -/
theorem errL_loop {g z t a : Nat → Int32} {G : Nat → Int32} {kw : Nat} : ∀ (n k : Nat) (x : Int32), (∀ j, k ≤ j → j < k + n → G j = xL_gets g a (nI j) 0 (-1) kw + z j - xL_gets g a (nI j) 2 (-1) kw - t j) → hL_error_6 g z t a kw n k x = x + sT (fun c => ab (G c)) n k := by
  intro n
  induction n with
  | zero => intro k x _; show x = x + 0; grind
  | succ n ih =>
    intro k x h
    rw [hL_error_6_s, sT_s, ← h k (Nat.le_refl k) (by omega)]
    unfold ab
    by_cases ha : 0 ≤ G k
    · rw [if_pos ha, if_pos ha, ih _ _ (fun j h1 h2 => h j (by omega) (by omega))]
      unfold ab
      grind
    · rw [if_neg ha, if_neg ha, ih _ _ (fun j h1 h2 => h j (by omega) (by omega))]
      unfold ab
      grind
theorem errL (h : NOW R F L kw mi) : xL_error (L 83) (L 84) (L 86) (L 88) kw = ERR (R 2) (R 6) (R 7) (R 4) (R 8) (R 9) := by
  unfold xL_error ERR
  rw [errL_loop (G := fun c => GR (R 2) (R 6) (R 7) c - GR (R 4) (R 8) (R 9) c) 24 0 0 (fun j _ hj => by
    have hj24 : j < 24 := by omega
    obtain ⟨e1, -, e3, -⟩ := h.2.1 j hj24
    rw [gets0 h hj24, gets2 h hj24, e1, e3]
    show GR (R 2) (R 6) (R 7) j - GR (R 4) (R 8) (R 9) j = _
    rw [GR_XX, GR_XX]
    grind), zero_add32]
end

