/-! PURE: sums, lists of near cells -/
def sT (g : Nat → Int32) : Nat → Nat → Int32
  | 0, _ => 0
  | n + 1, k => g k + sT g n (k + 1)
theorem sT_s (g : Nat → Int32) (n k : Nat) : sT g (n + 1) k = g k + sT g n (k + 1) := rfl
theorem sT_congr {g g' : Nat → Int32} : ∀ (n k : Nat), (∀ j, k ≤ j → j < k + n → g j = g' j) → sT g n k = sT g' n k := by
  intro n
  induction n with
  | zero => intro k _; rfl
  | succ n ih =>
    intro k h
    rw [sT_s, sT_s, h k (Nat.le_refl k) (by omega), ih (k + 1) (fun j h1 h2 => h j (by omega) (by omega))]
theorem sT_zero {g : Nat → Int32} : ∀ (n k : Nat), (∀ j, k ≤ j → j < k + n → g j = 0) → sT g n k = 0 := by
  intro n
  induction n with
  | zero => intro k _; rfl
  | succ n ih =>
    intro k h
    rw [sT_s, h k (Nat.le_refl k) (by omega), ih (k + 1) (fun j h1 h2 => h j (by omega) (by omega))]
    rfl
theorem sT_add {g : Nat → Int32} : ∀ (n m k : Nat), sT g (n + m) k = sT g n k + sT g m (k + n) := by
  intro n
  induction n with
  | zero => intro m k; rw [Nat.zero_add, Nat.add_zero]; show sT g m k = 0 + sT g m k; grind
  | succ n ih =>
    intro m k
    rw [show n + 1 + m = (n + m) + 1 by omega, sT_s, sT_s, ih, show k + 1 + n = k + (n + 1) by omega]
    grind
/-- a sum that is 0 from kw on -/
theorem sT_kw {g : Nat → Int32} {kw N : Nat} (h : kw ≤ N) (hz : ∀ j, kw ≤ j → j < N → g j = 0) : sT g N 0 = sT g kw 0 := by
  rw [show N = kw + (N - kw) by omega, sT_add, Nat.zero_add, sT_zero (N - kw) kw (fun j h1 h2 => hz j h1 (by omega))]
  grind
theorem sT_plus {f g : Nat → Int32} : ∀ (n k : Nat), sT (fun j => f j + g j) n k = sT f n k + sT g n k := by
  intro n
  induction n with
  | zero => intro k; rfl
  | succ n ih => intro k; rw [sT_s, sT_s, sT_s, ih]; grind
theorem sT_sub {f g : Nat → Int32} : ∀ (n k : Nat), sT (fun j => f j - g j) n k = sT f n k - sT g n k := by
  intro n
  induction n with
  | zero => intro k; show (0 : Int32) = 0 - 0; decide
  | succ n ih => intro k; rw [sT_s, sT_s, sT_s, ih]; grind
/-- one place of a sum changes -/
theorem sT_upd {g g' : Nat → Int32} {w : Nat} : ∀ (n k : Nat), k ≤ w → w < k + n → (∀ j, j ≠ w → g' j = g j) → sT g' n k = sT g n k + (g' w - g w) := by
  intro n
  induction n with
  | zero => intro k h1 h2; omega
  | succ n ih =>
    intro k h1 h2 h
    rw [sT_s, sT_s]
    by_cases hk : k = w
    · subst hk
      rw [sT_congr (g := g') (g' := g) n (k + 1) (fun j h3 h4 => h j (by omega))]
      grind
    · rw [ih (k + 1) (by omega) (by omega) h, h k hk]
      grind
/-- the cells at the sides k .. k + n - 1 of the cell b -/
def nbs (b : Nat) : Nat → Nat → List Nat
  | 0, _ => []
  | n + 1, k => if xX1_isCell (xX1_nearCell (nI b) (nI k)) = 0 then nbs b n (k + 1) else (xX1_nearCell (nI b) (nI k)).toNatClampNeg :: nbs b n (k + 1)
theorem nbs_s (b n k : Nat) : nbs b (n + 1) k = if xX1_isCell (xX1_nearCell (nI b) (nI k)) = 0 then nbs b n (k + 1) else (xX1_nearCell (nI b) (nI k)).toNatClampNeg :: nbs b n (k + 1) := rfl
def nb4 (b : Nat) : List Nat := nbs b 4 1
theorem nb_nodup : ∀ b, b < 24 → (nb4 b).Nodup := by decide +kernel
theorem nb_lt : ∀ b, b < 24 → ∀ x ∈ nb4 b, x < 24 ∧ x ≠ b := by decide +kernel
theorem nb_five : ∀ b, b < 24 → nbs b 5 0 = b :: nb4 b := by decide +kernel
/-- sums over lists -/
def lS (f : Nat → Int32) : List Nat → Int32
  | [] => 0
  | x :: l => f x + lS f l
theorem lS_perm {f : Nat → Int32} {l l' : List Nat} (h : l.Perm l') : lS f l = lS f l' := by
  induction h with
  | nil => rfl
  | cons x _ ih => unfold lS; rw [ih]
  | swap x y l => unfold lS; unfold lS; grind
  | trans _ _ h1 h2 => exact h1.trans h2
theorem lS_if {sh : Int32} {c : Nat} : ∀ (l : List Nat), l.Nodup → lS (fun x => if x = c then sh else 0) l = if c ∈ l then sh else 0 := by
  intro l
  induction l with
  | nil => intro _; rfl
  | cons x l ih =>
    intro h
    rw [List.nodup_cons] at h
    show (if x = c then sh else 0) + lS (fun x => if x = c then sh else 0) l = _
    rw [ih h.2]
    by_cases hx : x = c
    · subst hx
      rw [if_pos rfl, if_neg h.1, if_pos List.mem_cons_self]
      grind
    · rw [if_neg hx]
      by_cases hc : c ∈ l
      · rw [if_pos hc, if_pos (List.mem_cons_of_mem _ hc)]
        grind
      · rw [if_neg hc, if_neg (fun h => (List.mem_cons.mp h).elim (fun e => hx e.symm) hc)]
        grind
/-- a sum over all cells of a kind -/
theorem sT_filter {f : Nat → Int32} {P : Nat → Bool} : ∀ (n k : Nat), sT (fun j => if P j = true then f j else 0) n k = lS f ((List.range' k n).filter P) := by
  intro n
  induction n with
  | zero => intro k; rfl
  | succ n ih =>
    intro k
    rw [sT_s, ih, List.range'_succ, List.filter_cons]
    by_cases h : P k = true
    · rw [if_pos h, if_pos h]
      rfl
    · rw [if_neg h, if_neg h]
      grind
/-! the law's share -/
theorem share_lin (w p q : Int32) : xL_share w p q = xL_share 1 p q * w + (xL_share 8 p q - 8 * xL_share 1 p q) * (w / 8) := by
  unfold xL_share
  rw [show (1 : Int32) / 8 = 0 by decide, show (8 : Int32) / 8 = 1 by decide]
  generalize w / 8 = v
  by_cases hN : (p / 6 - q / 6) * (p / 6 - q / 6) + (p - p / 6 * 6 - (q - q / 6 * 6)) * (p - p / 6 * 6 - (q - q / 6 * 6)) = 1
  · simp only [if_pos hN]
    by_cases hA : p / 6 - q / 6 = 0
    · simp only [if_pos hA]
      by_cases hB : p - p / 6 * 6 - (q - q / 6 * 6) = 0
      · simp only [if_pos hB]
        repeat' split
        all_goals grind
      · simp only [if_neg hB]
        grind
    · simp only [if_neg hA]
      grind
  · simp only [if_neg hN]
    by_cases hA : p / 6 - q / 6 = 0
    · simp only [if_pos hA]
      by_cases hB : p - p / 6 * 6 - (q - q / 6 * 6) = 0
      · simp only [if_pos hB]
        repeat' split
        all_goals grind
      · simp only [if_neg hB]
        grind
    · simp only [if_neg hA]
      grind
theorem share_tab : ∀ b, b < 24 → ∀ c, c < 24 → xL_share 1 (nI b) (nI c) = (if c = b then 1 else 0) ∧ xL_share 8 (nI b) (nI c) - 8 * xL_share 1 (nI b) (nI c) = (if c = b then -nI (nb4 b).length else if c ∈ nb4 b then 1 else 0) := by decide +kernel
def nearB (b k : Nat) : Bool := !(decide (xL_share 8 (nI b) (nI k) ≤ 0))
theorem nb_near : ∀ b, b < 24 → ∀ k, k < 24 → (k ∈ b :: nb4 b ↔ nearB b k = true) := by decide +kernel
theorem nb_perm : ∀ b, b < 24 → (b :: nb4 b).isPerm ((List.range 24).filter (fun k => nearB b k)) = true := by decide +kernel
theorem near_le {b k : Nat} : xL_share 8 (nI b) (nI k) ≤ 0 ↔ ¬ nearB b k = true := by
  unfold nearB
  simp
theorem near_sum {f : Nat → Int32} {b : Nat} (hb : b < 24) : sT (fun k => if nearB b k = true then f k else 0) 24 0 = f b + lS f (nb4 b) := by
  rw [sT_filter, ← List.range_eq_range']
  have h := List.isPerm_iff.mp (nb_perm b hb)
  rw [← lS_perm h]
  rfl
