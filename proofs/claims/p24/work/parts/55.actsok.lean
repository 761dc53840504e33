/-! PURE: two, clerk and acts answer 1 and keep the relation -/
def INV (R F : Nat → Nat → Int32) : Prop := ∃ o q kw mi, HI F o q ∧ NOW R F R kw mi
def OKX (X : Int32 × (Nat → Nat → Int32) × (Nat → Nat → Int32)) : Prop := X.1 = 1 ∧ INV X.2.1 X.2.2
theorem fin {X : Int32 × (Nat → Nat → Int32) × (Nat → Nat → Int32)} {v w : Int32} {R : Nat → Nat → Int32} {kw mi : Nat} (h : POST X v R R kw mi) (hw : (∀ y, 83 ≤ y → X.2.1 y = R y) → w = v) : OKX (if X.1 = w then ((1 : Int32), X.2.1, X.2.2) else ((0 : Int32), X.2.1, X.2.2)) := by
  obtain ⟨h1, ⟨o, q, hh⟩, hN, hk⟩ := h
  rw [if_pos (h1.trans (hw hk).symm)]
  exact ⟨rfl, o, q, kw, mi, hh, NOW_rows hN (fun _ _ _ => rfl) rfl (fun j h1 h2 => hk j h1)⟩
theorem who_cong {R S F F' : Nat → Nat → Int32} {i : Nat} {p : Int32} (h : S i = R i) : xX1_whoIsOn S F' i p = xX1_whoIsOn R F i p := by
  unfold xX1_whoIsOn
  have key : ∀ (n k : Nat), hX1_whoIsOn_2 S F' i p n k = hX1_whoIsOn_2 R F i p n k := by
    intro n
    induction n with
    | zero => intro k; rfl
    | succ n ih => intro k; rw [hX1_whoIsOn_2_s, hX1_whoIsOn_2_s, h, ih]
  exact key 8 0
section
variable {R F : Nat → Nat → Int32} {o q kw mi : Nat}
theorem ge_iff (hr : NOW R F R kw mi) {k : Nat} (hk : k < kw) : 0 ≤ R 88 (5 * k + 1) ↔ ¬ R 7 k = -100009 := by
  rw [← ab_iff hr hk, Int32.lt_iff_toInt_lt, Int32.le_iff_toInt_le]
  rw [i_0]
  omega
theorem two_ok (hh : HI F o q) (hr : NOW R F R kw mi) (hkp : 0 < kw) (v : Nat) (b : Int32) : OKX (xL_two R F v b kw o q) := by
  have hi : v % kw < kw := Nat.mod_lt _ hkp
  have hj : v / 8 % kw < kw := Nat.mod_lt _ hkp
  have h8 := hr.1.1
  unfold xL_two
  generalize v % kw = i at *
  generalize v / 8 % kw = j at *
  by_cases c1 : nI i = nI j
  · rw [if_pos c1]
    have e : i = j := (nI_eq (by omega) (by omega)).mp c1
    by_cases c2 : b = 0
    · rw [if_pos c2]
      exact fin (act_accuse_same hh hr hi hj e) (fun _ => rfl)
    · rw [if_neg c2]
      exact fin (act_swap_same hh hr hi hj e) (fun _ => rfl)
  rw [if_neg c1]
  have e : i ≠ j := fun q => c1 (by rw [q])
  have no : (R 7 i = -100009 ∨ R 7 j = -100009) → OKX (if b = 0 then (if (xX1_accuse R F (nI i) (nI j) o q).1 = -100002 then ((1 : Int32), (xX1_accuse R F (nI i) (nI j) o q).2.1, (xX1_accuse R F (nI i) (nI j) o q).2.2) else ((0 : Int32), (xX1_accuse R F (nI i) (nI j) o q).2.1, (xX1_accuse R F (nI i) (nI j) o q).2.2)) else (if (xX1_swap R F (nI i) (nI j) o q).1 = -100002 then ((1 : Int32), (xX1_swap R F (nI i) (nI j) o q).2.1, (xX1_swap R F (nI i) (nI j) o q).2.2) else ((0 : Int32), (xX1_swap R F (nI i) (nI j) o q).2.1, (xX1_swap R F (nI i) (nI j) o q).2.2))) := by
    intro hx
    by_cases c2 : b = 0
    · rw [if_pos c2]
      exact fin (act_accuse_no hh hr hi hj e hx) (fun _ => rfl)
    · rw [if_neg c2]
      exact fin (act_swap_no hh hr hi hj e hx) (fun _ => rfl)
  by_cases c3 : R 88 (5 * i + 1) < 0
  · rw [if_pos c3]
    exact no (Or.inl ((ab_iff hr hi).mp c3))
  rw [if_neg c3]
  have hpi : ¬ R 7 i = -100009 := fun q => c3 ((ab_iff hr hi).mpr q)
  by_cases c4 : 0 ≤ R 88 (5 * j + 1)
  · rw [if_pos c4]
    have hpj := (ge_iff hr hj).mp c4
    by_cases c2 : b = 0
    · rw [if_pos c2]
      generalize hS : sR (sR (sR (sR R 88 ((5 * i) + 3) (R 88 ((5 * j) + 3))) 88 ((5 * j) + 3) (R 88 ((5 * i) + 3))) 88 ((5 * i) + 4) ((R 88 ((5 * i) + 4)) + (1 : Int32))) 88 ((5 * j) + 4) ((R 88 ((5 * j) + 4)) + (1 : Int32)) = S
      have hlo : ∀ y, y ≠ 88 → S y = R y := fun y hy => by rw [← hS, sR_ne hy, sR_ne hy, sR_ne hy, sR_ne hy]
      have hN : NOW S F R kw mi := NOW_rows hr (fun j h1 h2 => hlo j (by omega)) rfl (fun _ _ _ => rfl)
      refine fin (act_accuse hh hN hi hj e (by rw [hlo 7 (by decide)]; exact hpi) (by rw [hlo 7 (by decide)]; exact hpj) (fun y _ h2 => hlo y h2) (fun x => ?_) (fun k hk => ?_) (fun x h1 h2 h3 h4 => ?_)) (fun hk => by rw [hk 83 (by decide), hk 84 (by decide), hk 86 (by decide), hk 88 (by decide)])
      · rw [← hS, sR_same_ne (by omega), sR_same_ne (by omega)]
        unfold tau
        by_cases hxj : x = j
        · rw [hxj, sR_same, if_neg (Ne.symm e), if_pos rfl]
        · rw [sR_same_ne (by omega), if_neg hxj]
          by_cases hxi : x = i
          · rw [hxi, sR_same, if_pos rfl]
          · rw [sR_same_ne (by omega), if_neg hxi]
      · rcases hk with rfl | rfl
        · rw [← hS, sR_same_ne (by omega), sR_same]
        · rw [← hS, sR_same]
      · rw [← hS, sR_same_ne h4, sR_same_ne h3, sR_same_ne h2, sR_same_ne h1]
    · rw [if_neg c2]
      generalize hS : sR (sR (sR (sR R 88 ((5 * i) + 1) (R 88 ((5 * j) + 1))) 88 ((5 * j) + 1) (R 88 ((5 * i) + 1))) 88 ((5 * i) + 4) ((R 88 ((5 * i) + 4)) + (0 : Int32))) 88 ((5 * j) + 4) ((R 88 ((5 * j) + 4)) + (0 : Int32)) = S
      have hlo : ∀ y, y ≠ 88 → S y = R y := fun y hy => by rw [← hS, sR_ne hy, sR_ne hy, sR_ne hy, sR_ne hy]
      have hN : NOW S F R kw mi := NOW_rows hr (fun j h1 h2 => hlo j (by omega)) rfl (fun _ _ _ => rfl)
      have z0 : ∀ x : Int32, x + 0 = x := fun x => by grind
      have hS' : ∀ x, x ≠ 5 * i + 1 → x ≠ 5 * j + 1 → S 88 x = R 88 x := fun x h1 h2 => by
        rw [← hS, z0, z0]
        by_cases hxj : x = 5 * j + 4
        · rw [hxj, sR_same]
        · rw [sR_same_ne hxj]
          by_cases hxi : x = 5 * i + 4
          · rw [hxi, sR_same]
          · rw [sR_same_ne hxi, sR_same_ne h2, sR_same_ne h1]
      refine fin (act_swap hh hN hi hj e (by rw [hlo 7 (by decide)]; exact hpi) (by rw [hlo 7 (by decide)]; exact hpj) (fun y _ h2 => hlo y h2) (fun x => ?_) hS') (fun hk => by rw [hk 83 (by decide), hk 84 (by decide), hk 86 (by decide), hk 88 (by decide)])
      rw [← hS, sR_same_ne (by omega), sR_same_ne (by omega)]
      unfold tau
      by_cases hxj : x = j
      · rw [hxj, sR_same, if_neg (Ne.symm e), if_pos rfl]
      · rw [sR_same_ne (by omega), if_neg hxj]
        by_cases hxi : x = i
        · rw [hxi, sR_same, if_pos rfl]
        · rw [sR_same_ne (by omega), if_neg hxi]
  · rw [if_neg c4]
    exact no (Or.inr (Classical.byContradiction (fun q => c4 ((ge_iff hr hj).mpr q))))
theorem bk_iff (hr : NOW R F R kw mi) {k : Nat} (hk : k < kw) : R 89 (5 * k) < 0 ↔ R 11 k = -100009 := by
  obtain ⟨-, c5, -, -, -, -, ca, -⟩ := hr.2.2.2.1 k hk
  rw [c5]
  exact lo_neg (fun q => ca.resolve_left q)
theorem complain_go (hh : HI F o q) (hr : NOW R F R kw mi) {k : Nat} (hk : k < kw) (hp : R 7 k = -100009) (hb : ¬ R 11 k = -100009) (hbb : R 13 k = -100009) {v : Int32} (hv : v = (if R 89 (5 * k) ≤ R 88 (5 * k) then 0 else R 89 (5 * k) - R 88 (5 * k))) {S : Nat → Nat → Int32} (hS : sR (sR (sR (sR R 89 ((5 * k) + 4) (1 : Int32)) 89 ((5 * k) + 2) (v * (R 89 ((5 * k) + 3)))) 83 3 ((R 83 3) - v)) 83 5 ((R 83 5) + (v * (R 89 ((5 * k) + 3)))) = S) :
    OKX (if (xX1_complain S F (nI k) o q).1 = ((xX1_complain S F (nI k) o q).2.1 89 ((5 * k) + 2)) then ((1 : Int32), (xX1_complain S F (nI k) o q).2.1, (xX1_complain S F (nI k) o q).2.2) else ((0 : Int32), (xX1_complain S F (nI k) o q).2.1, (xX1_complain S F (nI k) o q).2.2)) := by
  have hlo : ∀ y, y ≠ 89 → y ≠ 83 → S y = R y := fun y h1 h2 => by rw [← hS, sR_ne h2, sR_ne h2, sR_ne h1, sR_ne h1]
  have hN : NOW S F R kw mi := NOW_rows hr (fun j h1 h2 => hlo j (by omega) (by omega)) rfl (fun _ _ _ => rfl)
  have b2 : S 89 (5 * k + 2) = v * R 89 (5 * k + 3) := by rw [← hS, sR_ne (by decide), sR_ne (by decide), sR_same]
  refine fin (act_complain hh hN hk (by rw [hlo 7 (by decide) (by decide)]; exact hp) (by rw [hlo 11 (by decide) (by decide)]; exact hb) (by rw [hlo 13 (by decide) (by decide)]; exact hbb) hv (fun y h1 h2 => hlo y h2 (by omega)) ?_ ?_ (fun x h1 h2 => ?_) b2 ?_ (fun x h1 h2 => ?_)) (fun hk => by rw [hk 89 (by decide), b2])
  · rw [← hS, sR_same_ne (by decide), sR_same]
  · rw [← hS, sR_same]
  · rw [← hS, sR_same_ne h2, sR_same_ne h1, sR_ne (by decide), sR_ne (by decide)]
  · rw [← hS, sR_ne (by decide), sR_ne (by decide), sR_same_ne (by omega), sR_same]
  · rw [← hS, sR_ne (by decide), sR_ne (by decide), sR_same_ne h1, sR_same_ne h2]
theorem bill_go (hh : HI F o q) (hr : NOW R F R kw mi) {k : Nat} (hk : k < kw) (hp : ¬ R 7 k = -100009) (hb : R 11 k = -100009) {K v w : Int32} (hK : xL_estimate (R 83) (R 84) (R 86) (R 88) k kw * xL_certainty (R 83) (R 87) (R 88) k / 100 = K) (hv : v = (if 0 ≤ (if K ≤ left R R then K else left R R) then (if K ≤ left R R then K else left R R) else 0)) (hw : w = (if v ≤ 19 then R 88 (5 * k + 2) else v)) {S : Nat → Nat → Int32} (hS : sR (sR (sR (sR (sR (sR R 89 (5 * k) v) 89 ((5 * k) + 1) (v * (R 83 2))) 89 ((5 * k) + 3) (R 83 2)) 88 ((5 * k) + 2) w) 83 3 ((R 83 3) + v)) 83 4 ((R 83 4) + (v * (R 83 2))) = S) :
    OKX (if (xX1_bill S F (nI k) o q).1 = v then ((1 : Int32), (xX1_bill S F (nI k) o q).2.1, (xX1_bill S F (nI k) o q).2.2) else ((0 : Int32), (xX1_bill S F (nI k) o q).2.1, (xX1_bill S F (nI k) o q).2.2)) := by
  have hlo : ∀ y, y ≠ 89 → y ≠ 88 → y ≠ 83 → S y = R y := fun y h1 h2 h3 => by rw [← hS, sR_ne h3, sR_ne h3, sR_ne h2, sR_ne h1, sR_ne h1, sR_ne h1]
  have hN : NOW S F R kw mi := NOW_rows hr (fun j h1 h2 => hlo j (by omega) (by omega) (by omega)) rfl (fun _ _ _ => rfl)
  have hleft : left S R = left R R := by
    unfold left
    rw [hlo 2 (by decide) (by decide) (by decide), hlo 4 (by decide) (by decide) (by decide), hlo 6 (by decide) (by decide) (by decide), hlo 7 (by decide) (by decide) (by decide)]
  refine fin (act_bill hh hN hk (by rw [hlo 7 (by decide) (by decide) (by decide)]; exact hp) (by rw [hlo 11 (by decide) (by decide) (by decide)]; exact hb) hK (by rw [hleft]; exact hv) (fun y h1 h2 h3 => hlo y h3 h2 (by omega)) ?_ ?_ (fun x h1 h2 => ?_) ?_ (fun x h1 => ?_) ?_ ?_ ?_ (fun x h1 h2 h3 => ?_)) (fun _ => rfl)
  · rw [← hS, sR_same_ne (by decide), sR_same]
  · rw [← hS, sR_same]
  · rw [← hS, sR_same_ne h2, sR_same_ne h1, sR_ne (by decide), sR_ne (by decide), sR_ne (by decide), sR_ne (by decide)]
  · rw [← hS, sR_ne (by decide), sR_ne (by decide), sR_same, hw]
  · rw [← hS, sR_ne (by decide), sR_ne (by decide), sR_same_ne h1, sR_ne (by decide), sR_ne (by decide), sR_ne (by decide)]
  · rw [← hS, sR_ne (by decide), sR_ne (by decide), sR_ne (by decide), sR_same_ne (by omega), sR_same_ne (by omega), sR_same]
  · rw [← hS, sR_ne (by decide), sR_ne (by decide), sR_ne (by decide), sR_same_ne (by omega), sR_same]
  · rw [← hS, sR_ne (by decide), sR_ne (by decide), sR_ne (by decide), sR_same]
  · rw [← hS, sR_ne (by decide), sR_ne (by decide), sR_ne (by decide), sR_same_ne h3, sR_same_ne h2, sR_same_ne h1]
theorem clerk_loop {k : Nat} {b : Int32} {G : Nat → Int32} : ∀ (n j : Nat) (x : Int32), (∀ i, j ≤ i → i < j + n → G i = xL_gets (R 83) (R 88) (nI i) 0 (-1) kw + R 84 i - R 86 i) → hL_clerk_76 R F k b kw o q n j x = hL_clerk_76 R F k b kw o q 0 0 (x + sT G n j) := by
  intro n
  induction n with
  | zero =>
    intro j x _
    have e : x + sT G 0 j = x := by
      show x + 0 = x
      grind
    rw [e]
    rfl
  | succ n ih =>
    intro j x h
    rw [hL_clerk_76_s, ih _ _ (fun i h1 h2 => h i (by omega) (by omega)), sT_s, ← h j (Nat.le_refl j) (by omega)]
    have e : ∀ a b c : Int32, a + b + c = a + (b + c) := fun a b c => by grind
    rw [e]
theorem clerk_ok (hh : HI F o q) (hr : NOW R F R kw mi) {k : Nat} (hk : k < kw) (b : Int32) : OKX (xL_clerk R F k b kw o q) := by
  have h8 := hr.1.1
  obtain ⟨c4, c5, c6, c7, c8, c9, ca, cb⟩ := hr.2.2.2.1 k hk
  unfold xL_clerk
  by_cases c0 : b = 0
  · rw [if_pos c0]
    by_cases c1 : 0 ≤ R 88 (5 * k + 1)
    · rw [if_pos c1]
      exact fin (act_complain_no hh hr hk (Or.inl ((ge_iff hr hk).mp c1))) (fun _ => rfl)
    rw [if_neg c1]
    have hp : R 7 k = -100009 := Classical.byContradiction (fun q => c1 ((ge_iff hr hk).mpr q))
    by_cases c2 : R 89 (5 * k) < 0
    · rw [if_pos c2]
      exact fin (act_complain_no hh hr hk (Or.inr (Or.inl ((bk_iff hr hk).mp c2)))) (fun _ => rfl)
    rw [if_neg c2]
    have hb : ¬ R 11 k = -100009 := fun q => c2 ((bk_iff hr hk).mpr q)
    by_cases c3 : R 89 (5 * k + 4) = 1
    · rw [if_pos c3]
      exact fin (act_complain_no hh hr hk (Or.inr (Or.inr (c9.mp c3)))) (fun _ => rfl)
    rw [if_neg c3]
    have hbb : R 13 k = -100009 := Classical.byContradiction (fun q => c3 (c9.mpr q))
    unfold cutL_clerk_306
    by_cases c : R 89 (5 * k) ≤ R 88 (5 * k)
    · rw [if_pos c]
      exact complain_go hh hr hk hp hb hbb (v := 0) (by rw [if_pos c]) rfl
    · rw [if_neg c]
      exact complain_go hh hr hk hp hb hbb (by rw [if_neg c]) rfl
  · rw [if_neg c0]
    by_cases c1 : R 88 (5 * k + 1) < 0
    · rw [if_pos c1]
      exact fin (act_bill_no hh hr hk (Or.inl ((ab_iff hr hk).mp c1))) (fun _ => rfl)
    rw [if_neg c1]
    have hp : ¬ R 7 k = -100009 := fun q => c1 ((ab_iff hr hk).mpr q)
    by_cases c2 : R 89 (5 * k) < 0
    · rw [if_pos c2]
      have hb := (bk_iff hr hk).mp c2
      unfold cutL_clerk_44
      rw [clerk_loop (G := fun c => XX (R 6) (R 7) c + R 2 c - R 4 c) 24 0 0 (fun i _ hi => by
        have hi24 : i < 24 := by omega
        obtain ⟨e1, -, e3, -⟩ := hr.2.1 i hi24
        rw [gets0 hr hi24, e1, e3]), zero_add32, hL_clerk_76_z]
      have el : sT (fun c => XX (R 6) (R 7) c + R 2 c - R 4 c) 24 0 - R 83 3 = left R R := rfl
      rw [el]
      have hv := fun v (h : v = _) => bill_go (v := v) (w := if v ≤ 19 then R 88 (5 * k + 2) else v) hh hr hk hp hb rfl h rfl rfl
      generalize hK : xL_estimate (R 83) (R 84) (R 86) (R 88) k kw * xL_certainty (R 83) (R 87) (R 88) k / 100 = K at hv ⊢
      generalize left R R = u at hv ⊢
      have h19 : (0 : Int32) ≤ 19 := by decide
      by_cases d1 : K ≤ u
      · rw [if_pos d1]
        by_cases d2 : 0 ≤ K
        · rw [if_pos d2]
          have h := hv K (by rw [if_pos d1, if_pos d2])
          by_cases d3 : K ≤ 19
          · rw [if_pos d3] at h ⊢
            exact h
          · rw [if_neg d3] at h ⊢
            exact h
        · rw [if_neg d2]
          have h := hv 0 (by rw [if_pos d1, if_neg d2])
          rw [if_pos h19] at h
          exact h
      · rw [if_neg d1]
        by_cases d2 : 0 ≤ u
        · rw [if_pos d2]
          have h := hv u (by rw [if_neg d1, if_pos d2])
          by_cases d3 : u ≤ 19
          · rw [if_pos d3] at h ⊢
            exact h
          · rw [if_neg d3] at h ⊢
            exact h
        · rw [if_neg d2]
          have h := hv 0 (by rw [if_neg d1, if_neg d2])
          rw [if_pos h19] at h
          exact h
    · rw [if_neg c2]
      exact fin (act_bill_no hh hr hk (Or.inr (fun q => c2 ((bk_iff hr hk).mpr q)))) (fun _ => rfl)
end

