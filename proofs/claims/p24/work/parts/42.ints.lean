/-! PURE: sums of shares; whole numbers without wrap-around -/
theorem none_cell : xX1_isCell (-100009) = 0 := by decide +kernel
theorem shc_none {w : Int32} {c : Nat} : shc w (-100009) c = 0 := by
  unfold shc
  rw [if_pos none_cell]
theorem shc_cell {w : Int32} {b c : Nat} (hb : b < 24) : shc w (nI b) c = SH w b c := by
  unfold shc
  rw [if_neg (isCell_nI hb), nI_clamp (by omega)]
theorem zero_add32 (x : Int32) : 0 + x = x := by grind
theorem SH_self {w : Int32} {b : Nat} (hb : b < 24) : SH w b b = w - nI (nb4 b).length * (w / 8) := by
  unfold SH
  rw [lS_if _ (nb_nodup b hb), if_neg (fun h => (nb_lt b hb b h).2 rfl), if_pos rfl]
  grind
theorem SH_near {w : Int32} {b x : Nat} (hb : b < 24) (hx : x ∈ nb4 b) : SH w b x = w / 8 := by
  unfold SH
  rw [lS_if _ (nb_nodup b hb), if_pos hx, if_neg (nb_lt b hb x hx).2]
  grind
theorem lS_const {f : Nat → Int32} {v : Int32} : ∀ (l : List Nat), (∀ x ∈ l, f x = v) → lS f l = nI l.length * v := by
  intro l
  induction l with
  | nil => intro _; show (0 : Int32) = nI 0 * v; rw [nI_0]; grind
  | cons x l ih =>
    intro h
    show f x + lS f l = nI (l.length + 1) * v
    rw [ih (fun y hy => h y (List.mem_cons_of_mem _ hy)), h x List.mem_cons_self, ← nI_1]
    grind
theorem lS_add {f g : Nat → Int32} : ∀ (l : List Nat), lS (fun x => f x + g x) l = lS f l + lS g l := by
  intro l
  induction l with
  | nil => rfl
  | cons x l ih => show f x + g x + lS (fun x => f x + g x) l = f x + lS f l + (g x + lS g l); rw [ih]; grind
theorem lS_congr {f g : Nat → Int32} : ∀ (l : List Nat), (∀ x ∈ l, f x = g x) → lS f l = lS g l := by
  intro l
  induction l with
  | nil => intro _; rfl
  | cons x l ih => intro h; show f x + lS f l = g x + lS g l; rw [ih (fun y hy => h y (List.mem_cons_of_mem _ hy)), h x List.mem_cons_self]
/-- a weight's shares make up the weight -/
theorem SH_sum {w : Int32} {b : Nat} (hb : b < 24) : SH w b b + lS (SH w b) (nb4 b) = w := by
  rw [SH_self hb, lS_const (v := w / 8) (nb4 b) (fun x hx => SH_near hb hx)]
  grind
/-! PURE: whole numbers without wrap-around -/
theorem ti_add {x y : Int32} (h1 : -2147483648 ≤ x.toInt + y.toInt) (h2 : x.toInt + y.toInt ≤ 2147483647) : (x + y).toInt = x.toInt + y.toInt := by
  rw [Int32.toInt_add]
  exact Int.bmod_eq_of_le (by omega) (by omega)
theorem ti_sub {x y : Int32} (h1 : -2147483648 ≤ x.toInt - y.toInt) (h2 : x.toInt - y.toInt ≤ 2147483647) : (x - y).toInt = x.toInt - y.toInt := by
  rw [Int32.toInt_sub]
  exact Int.bmod_eq_of_le (by omega) (by omega)
theorem ti_mul {x y : Int32} (h1 : -2147483648 ≤ x.toInt * y.toInt) (h2 : x.toInt * y.toInt ≤ 2147483647) : (x * y).toInt = x.toInt * y.toInt := by
  rw [Int32.toInt_mul]
  exact Int.bmod_eq_of_le (by omega) (by omega)
theorem ti_lo (x : Int32) : -2147483648 ≤ x.toInt := by
  have := x.le_toInt
  omega
theorem ti_hi (x : Int32) : x.toInt ≤ 2147483647 := by
  have := x.toInt_lt
  omega
theorem ti_div {x y : Int32} (h0 : 0 ≤ x.toInt) (h1 : 0 < y.toInt) : (x / y).toInt = x.toInt / y.toInt := by
  rw [Int32.toInt_div, Int.tdiv_eq_ediv_of_nonneg h0]
  have h2 : x.toInt / y.toInt ≤ x.toInt := Int.ediv_le_self _ h0
  have h3 : 0 ≤ x.toInt / y.toInt := Int.ediv_nonneg h0 (by omega)
  have h4 := ti_hi x
  exact Int.bmod_eq_of_le (by omega) (by omega)
theorem nI_nn {b : Nat} (h : b < 2 ^ 31) : ¬ nI b = -100009 := by
  intro q
  have h1 := congrArg Int32.toInt q
  rw [nI_toInt h] at h1
  have h2 : (-100009 : Int32).toInt = -100009 := by decide
  omega
def iS (g : Nat → Int) : Nat → Nat → Int
  | 0, _ => 0
  | n + 1, k => g k + iS g n (k + 1)
theorem iS_s (g : Nat → Int) (n k : Nat) : iS g (n + 1) k = g k + iS g n (k + 1) := rfl
theorem iS_le {g g' : Nat → Int} : ∀ (n k : Nat), (∀ j, k ≤ j → j < k + n → g j ≤ g' j) → iS g n k ≤ iS g' n k := by
  intro n
  induction n with
  | zero => intro k _; exact Int.le_refl _
  | succ n ih =>
    intro k h
    rw [iS_s, iS_s]
    have h1 := h k (Nat.le_refl k) (by omega)
    have h2 := ih (k + 1) (fun j h3 h4 => h j (by omega) (by omega))
    omega
theorem iS_const {B : Int} : ∀ (n k : Nat), iS (fun _ => B) n k = n * B := by
  intro n
  induction n with
  | zero => intro k; show (0 : Int) = ((0 : Nat) : Int) * B; rw [Int.natCast_zero, Int.zero_mul]
  | succ n ih => intro k; rw [iS_s, ih, Int.natCast_add, Int.add_mul, Int.natCast_one, Int.one_mul]; omega
theorem iS_add {f g : Nat → Int} : ∀ (n k : Nat), iS (fun j => f j + g j) n k = iS f n k + iS g n k := by
  intro n
  induction n with
  | zero => intro k; rfl
  | succ n ih => intro k; rw [iS_s, iS_s, iS_s, ih]; omega
/-- a sum of small numbers -/
theorem ti_sT {g : Nat → Int32} {B : Int} : ∀ (n k : Nat), (∀ j, k ≤ j → j < k + n → -B ≤ (g j).toInt ∧ (g j).toInt ≤ B) → 0 ≤ B → (n : Int) * B ≤ 2147483647 → (sT g n k).toInt = iS (fun j => (g j).toInt) n k ∧ -(n * B) ≤ iS (fun j => (g j).toInt) n k ∧ iS (fun j => (g j).toInt) n k ≤ n * B := by
  intro n
  induction n with
  | zero =>
    intro k _ _ _
    refine ⟨rfl, ?_, ?_⟩
    · show -(((0 : Nat) : Int) * B) ≤ 0
      rw [Int.natCast_zero, Int.zero_mul]
      omega
    · show 0 ≤ ((0 : Nat) : Int) * B
      rw [Int.natCast_zero, Int.zero_mul]
      omega
  | succ n ih =>
    intro k h hB hn
    rw [Int.natCast_add, Int.add_mul, Int.natCast_one, Int.one_mul] at hn ⊢
    have hnB : 0 ≤ (n : Int) * B := Int.mul_nonneg (by omega) hB
    obtain ⟨a1, a2, a3⟩ := ih (k + 1) (fun j h1 h2 => h j (by omega) (by omega)) hB (by omega)
    obtain ⟨b1, b2⟩ := h k (Nat.le_refl k) (by omega)
    rw [sT_s, iS_s, ti_add (by rw [a1]; omega) (by rw [a1]; omega), a1]
    exact ⟨rfl, by omega, by omega⟩
/-- changing the order of a double sum -/
theorem sT_swap {f : Nat → Nat → Int32} {m : Nat} : ∀ (n k : Nat), sT (fun c => sT (fun i => f i c) m 0) n k = sT (fun i => sT (fun c => f i c) n k) m 0 := by
  intro n
  induction n with
  | zero =>
    intro k
    show (0 : Int32) = sT (fun i => 0) m 0
    rw [sT_zero m 0 (fun _ _ _ => rfl)]
  | succ n ih =>
    intro k
    rw [sT_s, ih]
    exact (sT_plus (f := fun i => f i k) (g := fun i => sT (fun c => f i c) n (k + 1)) m 0).symm
/-- the size of a share -/
theorem nb_len4 : ∀ b, b < 24 → (nb4 b).length ≤ 4 := by decide +kernel
theorem SH_bd {w : Int32} {b c : Nat} (hb : b < 24) (h0 : 0 ≤ w.toInt) (h1 : w.toInt ≤ 100000) : 0 ≤ (SH w b c).toInt ∧ (SH w b c).toInt ≤ w.toInt := by
  have h8 : (8 : Int32).toInt = 8 := rfl
  have hd : (w / 8).toInt = w.toInt / 8 := by rw [ti_div h0 (by rw [h8]; decide), h8]
  unfold SH
  rw [lS_if _ (nb_nodup b hb)]
  by_cases hc : c ∈ nb4 b
  · have hne := (nb_lt b hb c hc).2
    rw [if_pos hc, if_neg hne]
    have e : w / 8 + 0 = w / 8 := by grind
    rw [e, hd]
    omega
  · rw [if_neg hc]
    by_cases he : c = b
    · rw [if_pos he, zero_add32]
      have hl := nb_len4 b hb
      have hm : (nI (nb4 b).length * (w / 8)).toInt = (nb4 b).length * (w.toInt / 8) := by
        have hx : (nI (nb4 b).length).toInt = (nb4 b).length := nI_toInt (by omega)
        have hy : 0 ≤ ((nb4 b).length : Int) * (w.toInt / 8) := Int.mul_nonneg (by omega) (by omega)
        have hz : ((nb4 b).length : Int) * (w.toInt / 8) ≤ 4 * (w.toInt / 8) := Int.mul_le_mul_of_nonneg_right (by omega) (by omega)
        rw [ti_mul (by rw [hx, hd]; omega) (by rw [hx, hd]; omega), hx, hd]
      have hy : 0 ≤ ((nb4 b).length : Int) * (w.toInt / 8) := Int.mul_nonneg (by omega) (by omega)
      have hz : ((nb4 b).length : Int) * (w.toInt / 8) ≤ 4 * (w.toInt / 8) := Int.mul_le_mul_of_nonneg_right (by omega) (by omega)
      rw [ti_sub (by rw [hm]; omega) (by rw [hm]; omega), hm]
      omega
    · rw [if_neg he]
      have e : (0 : Int32) + 0 = 0 := by decide
      rw [e, i_0]
      omega
theorem SH_far {w : Int32} {b c : Nat} (hb : b < 24) (hc : ¬ c ∈ b :: nb4 b) : SH w b c = 0 := by
  unfold SH
  rw [lS_if _ (nb_nodup b hb), if_neg (fun h => hc (List.mem_cons_of_mem _ h)), if_neg (fun h => hc (by rw [h]; exact List.mem_cons_self))]
  rfl
theorem SH_total {w : Int32} {b : Nat} (hb : b < 24) : sT (fun c => SH w b c) 24 0 = w := by
  rw [sT_congr (g' := fun k => if nearB b k = true then SH w b k else 0) 24 0 (fun j _ hj => by
    show SH w b j = if nearB b j = true then SH w b j else 0
    by_cases h : nearB b j = true
    · rw [if_pos h]
    · rw [if_neg h]
      exact SH_far hb (fun q => h ((nb_near b hb j (by omega)).mp q)))]
  rw [near_sum hb]
  exact SH_sum hb
/-- a row of places and weights: who is on a cell weighs between 0 and M -/
def pw (M : Int) (w p : Nat → Int32) : Prop := ∀ k, k < 8 → p k = -100009 ∨ (∃ c, c < 24 ∧ p k = nI c) ∧ 0 ≤ (w k).toInt ∧ (w k).toInt ≤ M
theorem shc_bd {M : Int} {w p : Nat → Int32} (h : pw M w p) (hM : M ≤ 100000) (hM0 : 0 ≤ M) {k c : Nat} (hk : k < 8) : 0 ≤ (shc (w k) (p k) c).toInt ∧ (shc (w k) (p k) c).toInt ≤ M := by
  rcases h k hk with e | ⟨⟨b, hb, e⟩, h0, h1⟩
  · rw [e, shc_none, i_0]
    omega
  · rw [e, shc_cell hb]
    have := SH_bd (c := c) hb h0 (by omega)
    omega
/-- what a cell gets from all -/
def XX (w p : Nat → Int32) (c : Nat) : Int32 := sT (fun k => shc (w k) (p k) c) 8 0
theorem XX_bd {M : Int} {w p : Nat → Int32} (h : pw M w p) (hM : M ≤ 100000) (hM0 : 0 ≤ M) (c : Nat) : 0 ≤ (XX w p c).toInt ∧ (XX w p c).toInt ≤ 8 * M := by
  have hb : ∀ j, 0 ≤ j → j < 0 + 8 → -M ≤ (shc (w j) (p j) c).toInt ∧ (shc (w j) (p j) c).toInt ≤ M := fun j _ hj => by
    have := shc_bd h hM hM0 (c := c) (by omega : j < 8)
    omega
  obtain ⟨a1, -, a3⟩ := ti_sT (g := fun k => shc (w k) (p k) c) (B := M) 8 0 hb hM0 (by omega)
  unfold XX
  rw [a1]
  refine ⟨?_, a3⟩
  have h0 := iS_le (g := fun _ => 0) (g' := fun j => (shc (w j) (p j) c).toInt) 8 0 (fun j _ hj => (shc_bd h hM hM0 (c := c) (by omega : j < 8)).1)
  rw [iS_const] at h0
  omega
/-- all that all cells get is what all weigh -/
theorem XX_total {M : Int} {w p : Nat → Int32} (h : pw M w p) (hM : M ≤ 100000) (hM0 : 0 ≤ M) : iS (fun c => (XX w p c).toInt) 24 0 ≤ 8 * M := by
  have e : sT (fun c => XX w p c) 24 0 = sT (fun k => if p k = -100009 then 0 else w k) 8 0 := by
    unfold XX
    rw [sT_swap 24 0]
    refine sT_congr 8 0 (fun k _ hk => ?_)
    rcases h k (by omega) with e | ⟨⟨b, hb, e⟩, -, -⟩
    · rw [if_pos e]
      exact sT_zero 24 0 (fun c _ _ => by
        show shc (w k) (p k) c = 0
        rw [e, shc_none])
    · rw [if_neg (by rw [e]; exact nI_nn (by omega))]
      rw [sT_congr (g' := fun c => SH (w k) b c) 24 0 (fun c _ _ => by
        show shc (w k) (p k) c = SH (w k) b c
        rw [e, shc_cell hb])]
      exact SH_total hb
  obtain ⟨a1, -, -⟩ := ti_sT (g := fun c => XX w p c) (B := 8 * M) 24 0 (fun c _ _ => by
    have := XX_bd h hM hM0 c
    omega) (by omega) (by omega)
  obtain ⟨b1, -, b3⟩ := ti_sT (g := fun k => if p k = -100009 then 0 else w k) (B := M) 8 0 (fun k _ hk => by
    show -M ≤ (if p k = -100009 then (0 : Int32) else w k).toInt ∧ (if p k = -100009 then (0 : Int32) else w k).toInt ≤ M
    rcases h k (by omega) with e | ⟨-, h0, h1⟩
    · rw [if_pos e, i_0]
      omega
    · split
      · rw [i_0]
        omega
      · omega) hM0 (by omega)
  rw [← a1, e, b1]
  exact b3
theorem GR_ti {M B : Int} {z w p : Nat → Int32} (hz : ∀ c, c < 24 → -B ≤ (z c).toInt ∧ (z c).toInt ≤ B) (hB : B ≤ 100000) (h : pw M w p) (hM : M ≤ 100000) (hM0 : 0 ≤ M) {c : Nat} (hc : c < 24) : (GR z w p c).toInt = (z c).toInt + (XX w p c).toInt := by
  have h1 := XX_bd h hM hM0 c
  have h2 := hz c hc
  show (z c + XX w p c).toInt = _
  rw [ti_add (by omega) (by omega)]

