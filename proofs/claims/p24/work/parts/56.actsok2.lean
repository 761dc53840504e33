section
variable {R F : Nat → Nat → Int32} {o q kw mi vn wy : Nat} {p9 : Int32}
theorem ok_setDrift (hh : HI F o q) (hr : NOW R F R kw mi) : OKX (cutL_acts_32 R F p9 vn wy kw o q) := by
  have hc : vn % 24 < 24 := Nat.mod_lt _ (by decide)
  have hm : vn / 24 % 7 < 7 := Nat.mod_lt _ (by decide)
  unfold cutL_acts_32
  generalize vn % 24 = c at *
  generalize vn / 24 % 7 = m at *
  have i3 : (3 : Int32).toInt = 3 := rfl
  have hv : -3 ≤ (nI m - 3).toInt ∧ (nI m - 3).toInt ≤ 3 := by
    rw [ti_sub (by rw [nI_toInt (by omega), i3]; omega) (by rw [nI_toInt (by omega), i3]; omega), nI_toInt (by omega), i3]
    omega
  generalize nI m - 3 = v at hv ⊢
  have hN : NOW (sR R 85 c v) F R kw mi := NOW_rows hr (fun j h1 h2 => sR_ne (by omega) _ _) rfl (fun _ _ _ => rfl)
  exact fin (act_setDrift hh hN hc hv (fun y _ h2 => sR_ne h2 _ _) sR_same (fun x hx => sR_same_ne hx)) (fun _ => rfl)
theorem ok_setPrice (hh : HI F o q) (hr : NOW R F R kw mi) : OKX (cutL_acts_79 R F p9 vn wy kw o q) := by
  have hm : vn % 101 < 101 := Nat.mod_lt _ (by decide)
  unfold cutL_acts_79
  generalize vn % 101 = m at *
  have hv : 0 ≤ (nI m).toInt ∧ (nI m).toInt ≤ 100 := by
    rw [nI_toInt (by omega)]
    omega
  generalize nI m = v at hv ⊢
  have hN : NOW (sR R 83 2 v) F R kw mi := NOW_rows hr (fun j h1 h2 => sR_ne (by omega) _ _) rfl (fun _ _ _ => rfl)
  exact fin (act_setPrice hh hN hv (fun y _ h2 => sR_ne h2 _ _) sR_same (fun x hx => sR_same_ne hx)) (fun _ => rfl)
theorem ok_walk (hh : HI F o q) (hr : NOW R F R kw mi) (hkp : 0 < kw) : OKX (cutL_acts_432 R F p9 vn wy kw o q) := by
  have hc : vn % 24 < 24 := Nat.mod_lt _ (by decide)
  have hk : vn / 24 % kw < kw := Nat.mod_lt _ hkp
  have h8 := hr.1.1
  unfold cutL_acts_432
  generalize vn % 24 = c at *
  generalize vn / 24 % kw = k at *
  by_cases c1 : R 88 (5 * k + 1) < 0
  · rw [if_pos c1]
    exact fin (act_walk_no hh hr hk hc (Or.inl ((ab_iff hr hk).mp c1))) (fun _ => rfl)
  rw [if_neg c1]
  have hp : ¬ R 7 k = -100009 := fun q => c1 ((ab_iff hr hk).mpr q)
  by_cases c2 : xL_who (R 83) (R 88) (nI c) 1 kw < 0
  · rw [if_pos c2]
    have hx : xX1_whoIsOn R F 7 (nI c) = -100009 := (who_lo _).mp (by rw [← whoA hr hc]; exact c2)
    obtain ⟨t, ht, et, ew, el⟩ := taken_law hr hk hp
    rw [el, nI_clamp (by omega)]
    generalize hS : sR (sR R 88 ((5 * k) + 1) (nI c)) 88 ((5 * t) + 3) (nI c) = S
    have hlo : ∀ y, y ≠ 88 → S y = R y := fun y hy => by rw [← hS, sR_ne hy, sR_ne hy]
    have hN : NOW S F R kw mi := NOW_rows hr (fun j h1 h2 => hlo j (by omega)) rfl (fun _ _ _ => rfl)
    refine fin (act_walk hh hN hk hc (by rw [hlo 7 (by decide)]; exact hp) (by rw [who_cong (F := F) (hlo 7 (by decide))]; exact hx) ht (by rw [hlo 7 (by decide), hlo 9 (by decide)]; exact et) (by rw [who_cong (F := F) (hlo 9 (by decide)), hlo 7 (by decide)]; exact ew) (fun y _ h2 => hlo y h2) ?_ ?_ (fun x h1 h2 => ?_)) (fun _ => rfl)
    · rw [← hS, sR_same_ne (by omega), sR_same]
    · rw [← hS, sR_same]
    · rw [← hS, sR_same_ne h2, sR_same_ne h1]
  · rw [if_neg c2]
    exact fin (act_walk_no hh hr hk hc (Or.inr (fun q => c2 (by rw [whoA hr hc]; exact (who_lo _).mpr q)))) (fun _ => rfl)
theorem ok_leave (hh : HI F o q) (hr : NOW R F R kw mi) (hkp : 0 < kw) : OKX (cutL_acts_573 R F p9 vn wy kw o q) := by
  have hk : vn / 24 % kw < kw := Nat.mod_lt _ hkp
  have h8 := hr.1.1
  unfold cutL_acts_573
  generalize vn / 24 % kw = k at *
  by_cases c1 : 0 ≤ R 88 (5 * k + 1)
  · rw [if_pos c1]
    have hp := (ge_iff hr hk).mp c1
    obtain ⟨t, ht, et, ew, el⟩ := taken_law hr hk hp
    rw [el, nI_clamp (by omega)]
    generalize hS : sR (sR (sR (sR R 88 ((5 * t) + 3) (R 88 ((5 * k) + 3))) 88 ((5 * k) + 1) (-1 : Int32)) 88 ((5 * k) + 2) (-1 : Int32)) 88 ((5 * k) + 3) (-1 : Int32) = S
    have hlo : ∀ y, y ≠ 88 → S y = R y := fun y hy => by rw [← hS, sR_ne hy, sR_ne hy, sR_ne hy, sR_ne hy]
    have hN : NOW S F R kw mi := NOW_rows hr (fun j h1 h2 => hlo j (by omega)) rfl (fun _ _ _ => rfl)
    have hP := act_leave (L' := S) hh hN hk (by rw [hlo 7 (by decide)]; exact hp) ht (by rw [hlo 7 (by decide), hlo 9 (by decide)]; exact et) (by rw [who_cong (F := F) (hlo 9 (by decide)), hlo 7 (by decide)]; exact ew) (fun y _ h2 => hlo y h2) (by rw [← hS, sR_same_ne (by omega), sR_same_ne (by omega), sR_same]) (by rw [← hS, sR_same_ne (by omega), sR_same]) (by rw [← hS, sR_same]) (fun h => by rw [← hS, sR_same_ne (by omega), sR_same_ne (by omega), sR_same_ne (by omega), sR_same]) (fun x h1 h2 h3 h4 => by rw [← hS, sR_same_ne h3, sR_same_ne h2, sR_same_ne h1, sR_same_ne h4])
    by_cases e : nI t = nI k
    · rw [if_pos e]
      have e' : t = k := (nI_eq (by omega) (by omega)).mp e
      exact fin hP (fun _ => (if_pos e').symm)
    · rw [if_neg e]
      have e' : ¬ t = k := fun q => e (by rw [q])
      exact fin hP (fun _ => (if_neg e').symm)
  · rw [if_neg c1]
    exact fin (act_leave_no hh hr hk (Classical.byContradiction (fun q => c1 ((ge_iff hr hk).mpr q)))) (fun _ => rfl)
theorem ok_two (hh : HI F o q) (hr : NOW R F R kw mi) (hkp : 0 < kw) : OKX (cutL_acts_541 R F p9 vn wy kw o q) := by
  unfold cutL_acts_541
  split
  · exact two_ok hh hr hkp _ _
  · exact two_ok hh hr hkp _ _
theorem ok_clerk (hh : HI F o q) (hr : NOW R F R kw mi) (hkp : 0 < kw) : OKX (cutL_acts_702 R F p9 vn wy kw o q) := by
  have hk : vn / 24 % kw < kw := Nat.mod_lt _ hkp
  unfold cutL_acts_702
  split
  · exact clerk_ok hh hr hk _
  · exact clerk_ok hh hr hk _
theorem tare_loop : ∀ (n k : Nat) (x : Int32), (x = 0 ∨ x = 1) → ∃ y : Int32, hL_acts_744 R F p9 vn wy kw o q n k x = hL_acts_744 R F p9 vn wy kw o q 0 0 y ∧ (y = 0 ∨ y = 1) ∧ (y = 1 ↔ (x = 1 ∧ ∀ j, k ≤ j → j < k + n → (R 88 (5 * j + 1) < 0 ∨ xL_share 8 (R 88 (5 * j + 1)) (nI (vn % 24)) = 0))) := by
  intro n
  induction n with
  | zero => intro k x hx; exact ⟨x, rfl, hx, ⟨fun h => ⟨h, fun j h1 h2 => by omega⟩, fun h => h.1⟩⟩
  | succ n ih =>
    intro k x hx
    rw [hL_acts_744_s]
    by_cases c0 : x = 0
    · rw [if_pos c0]
      obtain ⟨y, h1, h2, h3⟩ := ih (k + 1) 0 (Or.inl rfl)
      refine ⟨y, h1, h2, h3.trans ⟨fun h => absurd h.1 (by decide), fun h => absurd (c0.symm.trans h.1) (by decide)⟩⟩
    · rw [if_neg c0]
      have c1 : x = 1 := hx.resolve_left c0
      have step : ∀ z : Int32, (z = 0 ∨ z = 1) → (z = 1 ↔ (R 88 (5 * k + 1) < 0 ∨ xL_share 8 (R 88 (5 * k + 1)) (nI (vn % 24)) = 0)) → ∃ y : Int32, hL_acts_744 R F p9 vn wy kw o q n (k + 1) z = hL_acts_744 R F p9 vn wy kw o q 0 0 y ∧ (y = 0 ∨ y = 1) ∧ (y = 1 ↔ (x = 1 ∧ ∀ j, k ≤ j → j < k + (n + 1) → (R 88 (5 * j + 1) < 0 ∨ xL_share 8 (R 88 (5 * j + 1)) (nI (vn % 24)) = 0))) := by
        intro z hz hzz
        obtain ⟨y, h1, h2, h3⟩ := ih (k + 1) z hz
        refine ⟨y, h1, h2, h3.trans ⟨fun h => ⟨c1, fun j h4 h5 => ?_⟩, fun h => ⟨hzz.mpr (h.2 k (Nat.le_refl k) (by omega)), fun j h4 h5 => h.2 j (by omega) (by omega)⟩⟩⟩
        by_cases hj : j = k
        · subst hj
          exact hzz.mp h.1
        · exact h.2 j (by omega) (by omega)
      by_cases d1 : R 88 (5 * k + 1) < 0
      · rw [if_pos d1]
        exact step 1 (Or.inr rfl) ⟨fun _ => Or.inl d1, fun _ => rfl⟩
      · rw [if_neg d1]
        by_cases d2 : xL_share 8 (R 88 (5 * k + 1)) (nI (vn % 24)) = 0
        · rw [if_pos d2]
          exact step 1 (Or.inr rfl) ⟨fun _ => Or.inr d2, fun _ => rfl⟩
        · rw [if_neg d2]
          exact step 0 (Or.inl rfl) ⟨fun h => absurd h (by decide), fun h => absurd h (fun h => h.elim d1 d2)⟩
theorem ok_tare (hh : HI F o q) (hr : NOW R F R kw mi) : OKX (cutL_acts_738 R F p9 vn wy kw o q) := by
  have hc : vn % 24 < 24 := Nat.mod_lt _ (by decide)
  unfold cutL_acts_738
  obtain ⟨y, h1, h2, h3⟩ := tare_loop (R := R) (F := F) (p9 := p9) (vn := vn) (wy := wy) (kw := kw) (o := o) (q := q) kw 0 1 (Or.inr rfl)
  rw [h1, hL_acts_744_z]
  generalize vn % 24 = c at *
  have hX : y = 1 ↔ (XX (R 6) (R 7) c).toInt = 0 := by
    rw [h3, ← XX_zero hr hc]
    exact ⟨fun h k hk => h.2 k (Nat.zero_le _) (by omega), fun h => ⟨rfl, fun j _ hj => h j (by omega)⟩⟩
  by_cases c0 : y = 0
  · rw [if_pos c0]
    exact fin (act_tare_no hh hr hc (fun q => absurd (c0.symm.trans (hX.mpr q)) (by decide))) (fun _ => rfl)
  · rw [if_neg c0]
    have hx := hX.mp (h2.resolve_left c0)
    generalize hS : sR (sR R 86 c (R 84 c)) 87 c (R 83 0) = S
    have hlo : ∀ y, y ≠ 86 → y ≠ 87 → S y = R y := fun y h1 h2 => by rw [← hS, sR_ne h2, sR_ne h1]
    have hN : NOW S F R kw mi := NOW_rows hr (fun j h1 h2 => hlo j (by omega) (by omega)) rfl (fun _ _ _ => rfl)
    refine fin (act_tare hh hN hc (by rw [hlo 6 (by decide) (by decide), hlo 7 (by decide) (by decide)]; exact hx) (fun y _ h1 h2 => hlo y h1 h2) ?_ (fun x hx => ?_) ?_ (fun x hx => ?_)) (fun hk => by rw [hk 84 (by decide), hlo 84 (by decide) (by decide)])
    · rw [← hS, sR_ne (by decide), sR_same]
    · rw [← hS, sR_ne (by decide), sR_same_ne hx]
    · rw [← hS, sR_same]; exact hr.1.2.2.2.2.2.1
    · rw [← hS, sR_same_ne hx, sR_ne (by decide)]
theorem pass_loop_a : ∀ (n k : Nat) (R1 : Nat → Nat → Int32), ∃ R', hL_acts_920 R F p9 vn wy kw o q n k R1 = hL_acts_920 R F p9 vn wy kw o q 0 0 R' ∧ (∀ y, y ≠ 84 → R' y = R1 y) ∧ (∀ c, k ≤ c → c < k + n → R' 84 c = R1 84 c + R1 85 c * nI (1 + vn % 4)) ∧ (∀ c, c < k ∨ k + n ≤ c → R' 84 c = R1 84 c) := by
  intro n
  induction n with
  | zero => intro k R1; exact ⟨R1, rfl, fun y _ => rfl, fun c h1 h2 => by omega, fun c _ => rfl⟩
  | succ n ih =>
    intro k R1
    obtain ⟨R', e1, e2, e3, e4⟩ := ih (k + 1) (sR R1 84 k ((R1 84 k) + ((R1 85 k) * (nI (1 + (vn % 4))))))
    refine ⟨R', by rw [hL_acts_920_s, e1], fun y hy => by rw [e2 y hy, sR_ne hy], fun c h1 h2 => ?_, fun c hc => ?_⟩
    · by_cases hx : c = k
      · subst hx
        rw [e4 c (by omega), sR_same]
      · rw [e3 c (by omega) (by omega), sR_same_ne hx, sR_ne (by decide)]
    · rw [e4 c (by omega), sR_same_ne (by omega)]
theorem pass_go_a (hh : HI F o q) (hr : NOW R F R kw mi) (h : mi + (1 + vn % 4) ≤ 2000) : OKX (hL_acts_920 R F p9 vn wy kw o q 24 0 (sR R 83 0 (nI (mi + (1 + (vn % 4)))))) := by
  have hm : vn % 4 < 4 := Nat.mod_lt _ (by decide)
  obtain ⟨S, e1, e2, e3, e4⟩ := pass_loop_a (R := R) (F := F) (p9 := p9) (vn := vn) (wy := wy) (kw := kw) (o := o) (q := q) 24 0 (sR R 83 0 (nI (mi + (1 + (vn % 4)))))
  rw [e1, hL_acts_920_z]
  have hlo : ∀ y, y ≠ 83 → y ≠ 84 → S y = R y := fun y h1 h2 => by rw [e2 y h2, sR_ne h1]
  have hN : NOW S F R kw mi := NOW_rows hr (fun j h1 h2 => hlo j (by omega) (by omega)) rfl (fun _ _ _ => rfl)
  have g0 : S 83 0 = nI (mi + (1 + vn % 4)) := by rw [e2 83 (by decide), sR_same]
  refine fin (act_pass hh hN (by omega) (by omega) h (fun y _ h1 h2 => hlo y h1 h2) g0 (fun x hx => ?_) (fun c hc => ?_)) (fun hk => by rw [hk 83 (by decide), g0])
  · rw [e2 83 (by decide), sR_same_ne hx]
  · rw [e3 c (Nat.zero_le _) (by omega), sR_ne (by decide), sR_ne (by decide)]
theorem pass_loop_b : ∀ (n k : Nat) (R1 : Nat → Nat → Int32), ∃ R', hL_acts_920b R F p9 vn wy kw o q n k R1 = hL_acts_920b R F p9 vn wy kw o q 0 0 R' ∧ (∀ y, y ≠ 84 → R' y = R1 y) ∧ (∀ c, k ≤ c → c < k + n → R' 84 c = R1 84 c + R1 85 c * nI (1 + vn % 60)) ∧ (∀ c, c < k ∨ k + n ≤ c → R' 84 c = R1 84 c) := by
  intro n
  induction n with
  | zero => intro k R1; exact ⟨R1, rfl, fun y _ => rfl, fun c h1 h2 => by omega, fun c _ => rfl⟩
  | succ n ih =>
    intro k R1
    obtain ⟨R', e1, e2, e3, e4⟩ := ih (k + 1) (sR R1 84 k ((R1 84 k) + ((R1 85 k) * (nI (1 + (vn % 60))))))
    refine ⟨R', by rw [hL_acts_920b_s, e1], fun y hy => by rw [e2 y hy, sR_ne hy], fun c h1 h2 => ?_, fun c hc => ?_⟩
    · by_cases hx : c = k
      · subst hx
        rw [e4 c (by omega), sR_same]
      · rw [e3 c (by omega) (by omega), sR_same_ne hx, sR_ne (by decide)]
    · rw [e4 c (by omega), sR_same_ne (by omega)]
theorem pass_go_b (hh : HI F o q) (hr : NOW R F R kw mi) (h : mi + (1 + vn % 60) ≤ 2000) : OKX (hL_acts_920b R F p9 vn wy kw o q 24 0 (sR R 83 0 (nI (mi + (1 + (vn % 60)))))) := by
  have hm : vn % 60 < 60 := Nat.mod_lt _ (by decide)
  obtain ⟨S, e1, e2, e3, e4⟩ := pass_loop_b (R := R) (F := F) (p9 := p9) (vn := vn) (wy := wy) (kw := kw) (o := o) (q := q) 24 0 (sR R 83 0 (nI (mi + (1 + (vn % 60)))))
  rw [e1, hL_acts_920b_z]
  have hlo : ∀ y, y ≠ 83 → y ≠ 84 → S y = R y := fun y h1 h2 => by rw [e2 y h2, sR_ne h1]
  have hN : NOW S F R kw mi := NOW_rows hr (fun j h1 h2 => hlo j (by omega) (by omega)) rfl (fun _ _ _ => rfl)
  have g0 : S 83 0 = nI (mi + (1 + vn % 60)) := by rw [e2 83 (by decide), sR_same]
  refine fin (act_pass hh hN (by omega) (by omega) h (fun y _ h1 h2 => hlo y h1 h2) g0 (fun x hx => ?_) (fun c hc => ?_)) (fun hk => by rw [hk 83 (by decide), g0])
  · rw [e2 83 (by decide), sR_same_ne hx]
  · rw [e3 c (Nat.zero_le _) (by omega), sR_ne (by decide), sR_ne (by decide)]
theorem ok_pass (hh : HI F o q) (hr : NOW R F R kw mi) : OKX (cutL_acts_859 R F p9 vn wy kw o q) := by
  have h60 : vn % 60 < 60 := Nat.mod_lt _ (by decide)
  have h4 : vn % 4 < 4 := Nat.mod_lt _ (by decide)
  obtain ⟨n1, n2, n3, n4, n5, n6, n7⟩ := hr.1
  unfold cutL_acts_859
  by_cases c0 : nI (vn % 9) = 0
  · rw [if_pos c0, n6, nI_add]
    by_cases c1 : nI (mi + (1 + vn % 60)) ≤ 2000
    · rw [if_pos c1]
      have := (nI_leI (a := mi + (1 + vn % 60)) (b := 2000) (by omega) (by omega)).mp c1
      exact pass_go_b hh hr (by omega)
    · rw [if_neg c1]
      have : ¬ mi + (1 + vn % 60) ≤ 2000 := fun q => c1 ((nI_leI (a := mi + (1 + vn % 60)) (b := 2000) (by omega) (by omega)).mpr q)
      exact fin (act_pass_no hh hr (by omega) (by omega) (by omega)) (fun _ => rfl)
  · rw [if_neg c0, n6, nI_add]
    by_cases c1 : nI (mi + (1 + vn % 4)) ≤ 2000
    · rw [if_pos c1]
      have := (nI_leI (a := mi + (1 + vn % 4)) (b := 2000) (by omega) (by omega)).mp c1
      exact pass_go_a hh hr (by omega)
    · rw [if_neg c1]
      have : ¬ mi + (1 + vn % 4) ≤ 2000 := fun q => c1 ((nI_leI (a := mi + (1 + vn % 4)) (b := 2000) (by omega) (by omega)).mpr q)
      exact fin (act_pass_no hh hr (by omega) (by omega) (by omega)) (fun _ => rfl)
theorem board_loop_a : ∀ (n k : Nat) (R1 : Nat → Nat → Int32), k + n = 5 → ∃ R', hL_acts_231 R F p9 vn wy kw o q n k R1 = hL_acts_231 R F p9 vn wy kw o q 0 0 R' ∧ (∀ y, y ≠ 88 → y ≠ 89 → R' y = R1 y) ∧ (∀ j, k ≤ j → j < 5 → R' 88 (5 * kw + j) = (if j = 0 then nI (20 + vn / 24 % 131) else if j = 2 then nI (20 + vn / 24 % 131) else if j = 4 then 0 else nI (vn % 24)) ∧ R' 89 (5 * kw + j) = (if j = 0 then -1 else 0)) ∧ (∀ x, x < 5 * kw + k → R' 88 x = R1 88 x ∧ R' 89 x = R1 89 x) := by
  intro n
  induction n with
  | zero => intro k R1 hk; exact ⟨R1, rfl, fun y _ _ => rfl, fun j h1 h2 => by omega, fun x _ => ⟨rfl, rfl⟩⟩
  | succ n ih =>
    intro k R1 hk
    have step : ∀ (a b : Int32), a = (if k = 0 then nI (20 + vn / 24 % 131) else if k = 2 then nI (20 + vn / 24 % 131) else if k = 4 then 0 else nI (vn % 24)) → b = (if k = 0 then -1 else 0) → ∃ R', hL_acts_231 R F p9 vn wy kw o q n (k + 1) (sR (sR R1 88 ((5 * kw) + k) a) 89 ((5 * kw) + k) b) = hL_acts_231 R F p9 vn wy kw o q 0 0 R' ∧ (∀ y, y ≠ 88 → y ≠ 89 → R' y = R1 y) ∧ (∀ j, k ≤ j → j < 5 → R' 88 (5 * kw + j) = (if j = 0 then nI (20 + vn / 24 % 131) else if j = 2 then nI (20 + vn / 24 % 131) else if j = 4 then 0 else nI (vn % 24)) ∧ R' 89 (5 * kw + j) = (if j = 0 then -1 else 0)) ∧ (∀ x, x < 5 * kw + k → R' 88 x = R1 88 x ∧ R' 89 x = R1 89 x) := by
      intro a b ha hb
      obtain ⟨R', e1, e2, e3, e4⟩ := ih (k + 1) (sR (sR R1 88 ((5 * kw) + k) a) 89 ((5 * kw) + k) b) (by omega)
      refine ⟨R', e1, fun y h1 h2 => by rw [e2 y h1 h2, sR_ne h2, sR_ne h1], fun j h1 h2 => ?_, fun x hx => ?_⟩
      · by_cases hj : j = k
        · subst hj
          obtain ⟨f1, f2⟩ := e4 (5 * kw + j) (by omega)
          rw [f1, f2, sR_ne (by decide), sR_same, sR_same]
          exact ⟨ha, hb⟩
        · exact e3 j (by omega) h2
      · obtain ⟨f1, f2⟩ := e4 x (by omega)
        rw [f1, f2, sR_ne (by decide), sR_same_ne (by omega), sR_same_ne (by omega), sR_ne (by decide)]
        exact ⟨rfl, rfl⟩
    rw [hL_acts_231_s]
    by_cases d0 : nI k = 0
    · rw [if_pos d0]
      have e : k = 0 := (nI_eq (a := k) (b := 0) (by omega) (by decide)).mp d0
      exact step _ _ (by rw [if_pos e]) (by rw [if_pos e])
    · rw [if_neg d0]
      have n0 : ¬ k = 0 := fun e => d0 (by rw [e]; rfl)
      by_cases d2 : nI k = 2
      · rw [if_pos d2]
        have e : k = 2 := (nI_eq (a := k) (b := 2) (by omega) (by decide)).mp d2
        exact step _ _ (by rw [if_neg n0, if_pos e]) (by rw [if_neg n0])
      · rw [if_neg d2]
        have n2 : ¬ k = 2 := fun e => d2 (by rw [e]; rfl)
        by_cases d4 : nI k = 4
        · rw [if_pos d4]
          have e : k = 4 := (nI_eq (a := k) (b := 4) (by omega) (by decide)).mp d4
          exact step _ _ (by rw [if_neg n0, if_neg n2, if_pos e]) (by rw [if_neg n0])
        · rw [if_neg d4]
          have n4 : ¬ k = 4 := fun e => d4 (by rw [e]; rfl)
          exact step _ _ (by rw [if_neg n0, if_neg n2, if_neg n4]) (by rw [if_neg n0])
theorem board_go_a (hh : HI F o q) (hr : NOW R F R kw mi) (hx : xX1_whoIsOn R F 7 (nI (vn % 24)) = -100009) (h8 : kw < 8) : OKX (hL_acts_231 R F p9 vn wy kw o q 5 0 R) := by
  have hc : vn % 24 < 24 := Nat.mod_lt _ (by decide)
  have hw1 : vn / 24 % 131 < 131 := Nat.mod_lt _ (by decide)
  have hw2 : vn / 7 % 131 < 131 := Nat.mod_lt _ (by decide)
  have wb : ∀ m, m < 131 → 20 ≤ (nI (20 + m)).toInt ∧ (nI (20 + m)).toInt ≤ 150 := fun m hm => by
    rw [nI_toInt (by omega)]
    omega
  obtain ⟨R', e1, e2, e3, e4⟩ := board_loop_a (R := R) (F := F) (p9 := p9) (vn := vn) (wy := wy) (kw := kw) (o := o) (q := q) 5 0 R (by decide)
  rw [e1, hL_acts_231_z]
  have n4 : R' 83 1 = nI kw := by rw [e2 83 (by decide) (by decide)]; exact hr.1.2.2.2.1
  rw [n4, nI_1]
  generalize hS : sR R' 83 1 (nI (kw + 1)) = S
  have hlo : ∀ y, y ≠ 83 → y ≠ 88 → y ≠ 89 → S y = R y := fun y h1 h2 h3 => by rw [← hS, sR_ne h1, e2 y h2 h3]
  have hN : NOW S F R kw mi := NOW_rows hr (fun j h1 h2 => hlo j (by omega) (by omega) (by omega)) rfl (fun _ _ _ => rfl)
  have g1 : S 83 1 = nI (kw + 1) := by rw [← hS, sR_same]
  have sa : S 88 = R' 88 := by rw [← hS, sR_ne (by decide)]
  have sb : S 89 = R' 89 := by rw [← hS, sR_ne (by decide)]
  refine fin (act_board hh hN hc (wb _ hw1) (wb _ hw1) (by rw [who_cong (F := F) (hlo 7 (by decide) (by decide) (by decide))]; exact hx) h8 (fun y h1 h2 => hlo y (by omega) (by omega) (by omega)) g1 (fun x hx => ?_) ?_ ?_ ?_ ?_ ?_ (fun x hx => ?_) ?_ (fun j h1 h2 => ?_) (fun x hx => ?_)) (fun hk => by rw [hk 83 (by decide), g1, nI_succ]; grind)
  · rw [← hS, sR_same_ne hx, e2 83 (by decide) (by decide)]
  · rw [sa]; exact (e3 0 (by decide) (by decide)).1
  · rw [sa]; exact (e3 1 (by decide) (by decide)).1
  · rw [sa]; exact (e3 2 (by decide) (by decide)).1
  · rw [sa]; exact (e3 3 (by decide) (by decide)).1
  · rw [sa]; exact (e3 4 (by decide) (by decide)).1
  · rw [sa]; exact (e4 x (by omega)).1
  · rw [sb]; exact (e3 0 (by decide) (by decide)).2
  · rw [sb, (e3 j (by omega) h2).2, if_neg (by omega)]
  · rw [sb]; exact (e4 x (by omega)).2
theorem board_loop_b : ∀ (n k : Nat) (R1 : Nat → Nat → Int32), k + n = 5 → ∃ R', hL_acts_231b R F p9 vn wy kw o q n k R1 = hL_acts_231b R F p9 vn wy kw o q 0 0 R' ∧ (∀ y, y ≠ 88 → y ≠ 89 → R' y = R1 y) ∧ (∀ j, k ≤ j → j < 5 → R' 88 (5 * kw + j) = (if j = 0 then nI (20 + vn / 24 % 131) else if j = 2 then nI (20 + vn / 7 % 131) else if j = 4 then 0 else nI (vn % 24)) ∧ R' 89 (5 * kw + j) = (if j = 0 then -1 else 0)) ∧ (∀ x, x < 5 * kw + k → R' 88 x = R1 88 x ∧ R' 89 x = R1 89 x) := by
  intro n
  induction n with
  | zero => intro k R1 hk; exact ⟨R1, rfl, fun y _ _ => rfl, fun j h1 h2 => by omega, fun x _ => ⟨rfl, rfl⟩⟩
  | succ n ih =>
    intro k R1 hk
    have step : ∀ (a b : Int32), a = (if k = 0 then nI (20 + vn / 24 % 131) else if k = 2 then nI (20 + vn / 7 % 131) else if k = 4 then 0 else nI (vn % 24)) → b = (if k = 0 then -1 else 0) → ∃ R', hL_acts_231b R F p9 vn wy kw o q n (k + 1) (sR (sR R1 88 ((5 * kw) + k) a) 89 ((5 * kw) + k) b) = hL_acts_231b R F p9 vn wy kw o q 0 0 R' ∧ (∀ y, y ≠ 88 → y ≠ 89 → R' y = R1 y) ∧ (∀ j, k ≤ j → j < 5 → R' 88 (5 * kw + j) = (if j = 0 then nI (20 + vn / 24 % 131) else if j = 2 then nI (20 + vn / 7 % 131) else if j = 4 then 0 else nI (vn % 24)) ∧ R' 89 (5 * kw + j) = (if j = 0 then -1 else 0)) ∧ (∀ x, x < 5 * kw + k → R' 88 x = R1 88 x ∧ R' 89 x = R1 89 x) := by
      intro a b ha hb
      obtain ⟨R', e1, e2, e3, e4⟩ := ih (k + 1) (sR (sR R1 88 ((5 * kw) + k) a) 89 ((5 * kw) + k) b) (by omega)
      refine ⟨R', e1, fun y h1 h2 => by rw [e2 y h1 h2, sR_ne h2, sR_ne h1], fun j h1 h2 => ?_, fun x hx => ?_⟩
      · by_cases hj : j = k
        · subst hj
          obtain ⟨f1, f2⟩ := e4 (5 * kw + j) (by omega)
          rw [f1, f2, sR_ne (by decide), sR_same, sR_same]
          exact ⟨ha, hb⟩
        · exact e3 j (by omega) h2
      · obtain ⟨f1, f2⟩ := e4 x (by omega)
        rw [f1, f2, sR_ne (by decide), sR_same_ne (by omega), sR_same_ne (by omega), sR_ne (by decide)]
        exact ⟨rfl, rfl⟩
    rw [hL_acts_231b_s]
    by_cases d0 : nI k = 0
    · rw [if_pos d0]
      have e : k = 0 := (nI_eq (a := k) (b := 0) (by omega) (by decide)).mp d0
      exact step _ _ (by rw [if_pos e]) (by rw [if_pos e])
    · rw [if_neg d0]
      have n0 : ¬ k = 0 := fun e => d0 (by rw [e]; rfl)
      by_cases d2 : nI k = 2
      · rw [if_pos d2]
        have e : k = 2 := (nI_eq (a := k) (b := 2) (by omega) (by decide)).mp d2
        exact step _ _ (by rw [if_neg n0, if_pos e]) (by rw [if_neg n0])
      · rw [if_neg d2]
        have n2 : ¬ k = 2 := fun e => d2 (by rw [e]; rfl)
        by_cases d4 : nI k = 4
        · rw [if_pos d4]
          have e : k = 4 := (nI_eq (a := k) (b := 4) (by omega) (by decide)).mp d4
          exact step _ _ (by rw [if_neg n0, if_neg n2, if_pos e]) (by rw [if_neg n0])
        · rw [if_neg d4]
          have n4 : ¬ k = 4 := fun e => d4 (by rw [e]; rfl)
          exact step _ _ (by rw [if_neg n0, if_neg n2, if_neg n4]) (by rw [if_neg n0])
theorem board_go_b (hh : HI F o q) (hr : NOW R F R kw mi) (hx : xX1_whoIsOn R F 7 (nI (vn % 24)) = -100009) (h8 : kw < 8) : OKX (hL_acts_231b R F p9 vn wy kw o q 5 0 R) := by
  have hc : vn % 24 < 24 := Nat.mod_lt _ (by decide)
  have hw1 : vn / 24 % 131 < 131 := Nat.mod_lt _ (by decide)
  have hw2 : vn / 7 % 131 < 131 := Nat.mod_lt _ (by decide)
  have wb : ∀ m, m < 131 → 20 ≤ (nI (20 + m)).toInt ∧ (nI (20 + m)).toInt ≤ 150 := fun m hm => by
    rw [nI_toInt (by omega)]
    omega
  obtain ⟨R', e1, e2, e3, e4⟩ := board_loop_b (R := R) (F := F) (p9 := p9) (vn := vn) (wy := wy) (kw := kw) (o := o) (q := q) 5 0 R (by decide)
  rw [e1, hL_acts_231b_z]
  have n4 : R' 83 1 = nI kw := by rw [e2 83 (by decide) (by decide)]; exact hr.1.2.2.2.1
  rw [n4, nI_1]
  generalize hS : sR R' 83 1 (nI (kw + 1)) = S
  have hlo : ∀ y, y ≠ 83 → y ≠ 88 → y ≠ 89 → S y = R y := fun y h1 h2 h3 => by rw [← hS, sR_ne h1, e2 y h2 h3]
  have hN : NOW S F R kw mi := NOW_rows hr (fun j h1 h2 => hlo j (by omega) (by omega) (by omega)) rfl (fun _ _ _ => rfl)
  have g1 : S 83 1 = nI (kw + 1) := by rw [← hS, sR_same]
  have sa : S 88 = R' 88 := by rw [← hS, sR_ne (by decide)]
  have sb : S 89 = R' 89 := by rw [← hS, sR_ne (by decide)]
  refine fin (act_board hh hN hc (wb _ hw1) (wb _ hw2) (by rw [who_cong (F := F) (hlo 7 (by decide) (by decide) (by decide))]; exact hx) h8 (fun y h1 h2 => hlo y (by omega) (by omega) (by omega)) g1 (fun x hx => ?_) ?_ ?_ ?_ ?_ ?_ (fun x hx => ?_) ?_ (fun j h1 h2 => ?_) (fun x hx => ?_)) (fun hk => by rw [hk 83 (by decide), g1, nI_succ]; grind)
  · rw [← hS, sR_same_ne hx, e2 83 (by decide) (by decide)]
  · rw [sa]; exact (e3 0 (by decide) (by decide)).1
  · rw [sa]; exact (e3 1 (by decide) (by decide)).1
  · rw [sa]; exact (e3 2 (by decide) (by decide)).1
  · rw [sa]; exact (e3 3 (by decide) (by decide)).1
  · rw [sa]; exact (e3 4 (by decide) (by decide)).1
  · rw [sa]; exact (e4 x (by omega)).1
  · rw [sb]; exact (e3 0 (by decide) (by decide)).2
  · rw [sb, (e3 j (by omega) h2).2, if_neg (by omega)]
  · rw [sb]; exact (e4 x (by omega)).2
theorem ok_board (hh : HI F o q) (hr : NOW R F R kw mi) : OKX (cutL_acts_119 R F p9 vn wy kw o q) := by
  have hc : vn % 24 < 24 := Nat.mod_lt _ (by decide)
  have hw1 : vn / 24 % 131 < 131 := Nat.mod_lt _ (by decide)
  have hw2 : vn / 7 % 131 < 131 := Nat.mod_lt _ (by decide)
  have h8 := hr.1.1
  have wb : ∀ m, m < 131 → 20 ≤ (nI (20 + m)).toInt ∧ (nI (20 + m)).toInt ≤ 150 := fun m hm => by
    rw [nI_toInt (by omega)]
    omega
  have hwho : xL_who (R 83) (R 88) (nI (vn % 24)) 1 kw < 0 ↔ xX1_whoIsOn R F 7 (nI (vn % 24)) = -100009 := by
    rw [whoA hr hc]
    exact who_lo _
  unfold cutL_acts_119
  by_cases c0 : nI (vn % 4) = 0
  · rw [if_pos c0]
    by_cases c1 : xL_who (R 83) (R 88) (nI (vn % 24)) 1 kw < 0
    · rw [if_pos c1]
      by_cases c2 : nI kw = 8
      · rw [if_pos c2]
        exact fin (act_board_full hh hr hc (wb _ hw1) (wb _ hw2) (hwho.mp c1) ((nI_eq (a := kw) (b := 8) (by omega) (by decide)).mp c2)) (fun _ => rfl)
      · rw [if_neg c2]
        have : kw ≠ 8 := fun e => c2 (by rw [e]; rfl)
        exact board_go_b hh hr (hwho.mp c1) (by omega)
    · rw [if_neg c1]
      exact fin (act_board_no hh hr hc (wb _ hw1) (wb _ hw2) (fun q => c1 (hwho.mpr q))) (fun _ => rfl)
  · rw [if_neg c0]
    by_cases c1 : xL_who (R 83) (R 88) (nI (vn % 24)) 1 kw < 0
    · rw [if_pos c1]
      by_cases c2 : nI kw = 8
      · rw [if_pos c2]
        exact fin (act_board_full hh hr hc (wb _ hw1) (wb _ hw1) (hwho.mp c1) ((nI_eq (a := kw) (b := 8) (by omega) (by decide)).mp c2)) (fun _ => rfl)
      · rw [if_neg c2]
        have : kw ≠ 8 := fun e => c2 (by rw [e]; rfl)
        exact board_go_a hh hr (hwho.mp c1) (by omega)
    · rw [if_neg c1]
      exact fin (act_board_no hh hr hc (wb _ hw1) (wb _ hw1) (fun q => c1 (hwho.mpr q))) (fun _ => rfl)
theorem acts_ok (hh : HI F o q) (hr : NOW R F R kw mi) (hwy : wy < 26) : OKX (xL_acts R F p9 vn wy kw o q) := by
  have h8 := hr.1.1
  have kp : ¬ nI kw = 0 → 0 < kw := fun h => by
    rcases Nat.eq_zero_or_pos kw with e | e
    · exact absurd (by rw [e]; rfl) h
    · exact e
  unfold xL_acts
  by_cases a1 : nI wy = 0
  · rw [if_pos a1]; exact ok_setDrift hh hr
  rw [if_neg a1]
  by_cases a2 : nI wy = 1
  · rw [if_pos a2]; exact ok_setPrice hh hr
  rw [if_neg a2]
  by_cases a3 : 7 ≤ nI wy
  · rw [if_pos a3]
    by_cases a4 : 20 ≤ nI wy
    · rw [if_pos a4]
      by_cases a5 : nI kw = 0
      · rw [if_pos a5]
        by_cases a6 : 23 ≤ nI wy
        · rw [if_pos a6]; exact ok_pass hh hr
        · rw [if_neg a6]; exact ok_tare hh hr
      · rw [if_neg a5]
        by_cases a6 : 23 ≤ nI wy
        · rw [if_pos a6]; exact ok_pass hh hr
        · rw [if_neg a6]; exact ok_tare hh hr
    · rw [if_neg a4]
      by_cases a5 : nI kw = 0
      · rw [if_pos a5]
        exact ⟨rfl, o, q, kw, mi, hh, hr⟩
      · rw [if_neg a5]
        have hkp := kp a5
        by_cases a6 : 10 ≤ nI wy
        · rw [if_pos a6]
          by_cases a7 : 14 ≤ nI wy
          · rw [if_pos a7]
            by_cases a8 : nI wy = 14
            · rw [if_pos a8]; exact ok_leave hh hr hkp
            · rw [if_neg a8]; exact ok_clerk hh hr hkp
          · rw [if_neg a7]; exact ok_two hh hr hkp
        · rw [if_neg a6]; exact ok_walk hh hr hkp
  · rw [if_neg a3]
    exact ok_board hh hr
end
