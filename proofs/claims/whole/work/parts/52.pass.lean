/-! PURE: pass and tare -/
section
variable {n : Nat} {R F : Nat → Nat → Int32} {o q kw mi : Nat}
theorem pass1_loop {p : Int32} : ∀ (m k : Nat) (R1 : Nat → Nat → Int32), ∃ R', hX1_pass_37 R F p o q m k R1 = (((sR ((xX1_remember R F o q).2) 1 0 ((((xX1_remember R F o q).2) 1 0) + p)) 1 0), R', (sR ((xX1_remember R F o q).2) 1 0 ((((xX1_remember R F o q).2) 1 0) + p))) ∧ (∀ y, y ≠ 2 → R' y = R1 y) ∧ (∀ c, k ≤ c → c < k + m → R' 2 c = R1 2 c + R1 3 c * p) ∧ (∀ c, c < k ∨ k + m ≤ c → R' 2 c = R1 2 c) := by
  intro m
  induction m with
  | zero => intro k R1; exact ⟨R1, rfl, fun y _ => rfl, fun c h1 h2 => by omega, fun c _ => rfl⟩
  | succ m ih =>
    intro k R1
    obtain ⟨R', e1, e2, e3, e4⟩ := ih (k + 1) (sR R1 2 k ((R1 2 k) + ((R1 3 k) * p)))
    refine ⟨R', by rw [hX1_pass_37_s, e1], fun y hy => by rw [e2 y hy, sR_ne hy], fun c h1 h2 => ?_, fun c hc => ?_⟩
    · by_cases hx : c = k
      · subst hx
        rw [e4 c (by omega), sR_same]
      · rw [e3 c (by omega) (by omega), sR_same_ne hx, sR_ne (by decide)]
    · rw [e4 c (by omega), sR_same_ne (by omega)]
theorem pass2_loop {p : Int32} : ∀ (m k : Nat) (R1 : Nat → Nat → Int32), ∃ R', hX2_pass_46 R F p q m k R1 = (R' 84 0, R', (xX2_acts R F q).2) ∧ (∀ y, y ≠ 84 → R' y = R1 y) ∧ (∀ c, k ≤ c → c < k + m → R' 84 (6 + 4 * c) = R1 84 (6 + 4 * c) + p * R1 84 (6 + 4 * c + 1)) ∧ (∀ x, (∀ c, k ≤ c → c < k + m → x ≠ 6 + 4 * c) → R' 84 x = R1 84 x) := by
  intro m
  induction m with
  | zero => intro k R1; exact ⟨R1, rfl, fun y _ => rfl, fun c h1 h2 => by omega, fun x _ => rfl⟩
  | succ m ih =>
    intro k R1
    obtain ⟨R', e1, e2, e3, e4⟩ := ih (k + 1) (sR R1 84 (6 + (4 * k)) ((R1 84 (6 + (4 * k))) + (p * (xX2_of (R1 84) k 1))))
    refine ⟨R', by rw [hX2_pass_46_s, e1], fun y hy => by rw [e2 y hy, sR_ne hy], fun c h1 h2 => ?_, fun x hx => ?_⟩
    · by_cases hx : c = k
      · subst hx
        rw [e4 _ (fun d h3 h4 => by omega), sR_same]
        rfl
      · rw [e3 c (by omega) (by omega), sR_same_ne (by omega), sR_same_ne (by omega)]
    · rw [e4 x (fun c h1 h2 => hx c (by omega) (by omega)), sR_same_ne (hx k (Nat.le_refl k) (by omega))]
theorem act_pass (hh : HI n R F o q) (hr : NOW n R F (R 84) kw mi) (p1 : Int32) : ACT n R F (xX1_pass R F p1 o q) (fun R1 F1 => xX2_pass R1 F1 p1 q) := by
  obtain ⟨hC, hG, hG8⟩ := remF hh
  obtain ⟨n1, n2, n3, n4, n5, n6, n7⟩ := hr.1
  unfold xX1_pass
  rw [isIn]
  by_cases hc : xX2_in p1 1 60 = 0
  · rw [if_pos hc]
    exact ACT_mk (by show xX2_pass _ _ p1 q = _; unfold xX2_pass; rw [if_pos hc]) rfl rfl rfl (INV_mk hh hr)
  rw [if_neg hc]
  by_cases hd : F 1 0 + p1 ≤ 2000
  · rw [if_pos hd]
    have hin := in_of hc
    have hp0 : ¬ p1 < 0 := fun e => by
      have := Int32.lt_iff_toInt_lt.mp e
      rw [i_0] at this
      have h1 : (1 : Int32).toInt = 1 := rfl
      omega
    obtain ⟨pm, hpm, rfl⟩ := nI_of hp0
    have hp60 : 1 ≤ pm ∧ pm ≤ 60 := by
      rw [nI_toInt hpm] at hin
      have h1 : (1 : Int32).toInt = 1 := rfl
      have h2 : (60 : Int32).toInt = 60 := rfl
      omega
    have hmi : mi + pm ≤ 2000 := by
      rw [n5, nI_add] at hd
      have h1 := Int32.le_iff_toInt_le.mp hd
      rw [nI_toInt (by omega)] at h1
      have h2 : (2000 : Int32).toInt = 2000 := rfl
      omega
    obtain ⟨R', e1, e2, e3, e4⟩ := pass1_loop (R := R) (F := F) (o := o) (q := q) (p := nI pm) 24 0 (xX1_remember R F o q).1
    rw [e1]
    have e84 : R' 84 = R 84 := by rw [e2 84 (by decide), hC 84 (by decide)]
    obtain ⟨R2, f1, f2, f3, f4⟩ := pass2_loop (R := R') (F := sR ((xX1_remember R F o q).2) 1 0 ((((xX1_remember R F o q).2) 1 0) + nI pm)) (q := q) (p := nI pm) 24 0 (sR ((xX2_acts R' (sR ((xX1_remember R F o q).2) 1 0 ((((xX1_remember R F o q).2) 1 0) + nI pm)) q).1) 84 0 ((((xX2_acts R' (sR ((xX1_remember R F o q).2) 1 0 ((((xX1_remember R F o q).2) 1 0) + nI pm)) q).1) 84 0) + nI pm))
    have hm : (R' 84 0) + nI pm ≤ 2000 := by rw [e84, n6, ← n5]; exact hd
    have g0 : R2 84 0 = nI (mi + pm) := by
      rw [f4 0 (fun c _ _ => by omega), sR_same, acts_ne (by decide), e84, n6, nI_add]
    have gx : ∀ x, x ≠ 0 → (∀ c, c < 24 → x ≠ 6 + 4 * c) → R2 84 x = R 84 x := fun x h0 hx => by
      rw [f4 x (fun c _ h2 => hx c (by omega)), sR_same_ne h0, acts_ne (by decide), e84]
    have gF : (sR ((xX1_remember R F o q).2) 1 0 ((((xX1_remember R F o q).2) 1 0) + nI pm)) 1 0 = nI (mi + pm) := by
      rw [sR_same, hG, n5, nI_add]
    refine ACT_mk (by show xX2_pass _ _ (nI pm) q = _; unfold xX2_pass; rw [if_neg hc, if_pos hm, f1]) e84 (by rw [sR_ne (by decide)]; exact hG8) (by rw [gF, g0]) ?_
    refine INV_act hh hr (Nat.le_refl _) (fun i h1 h2 => e2 i (by omega)) e84 (by rw [e2 85 (by decide), hC 85 (by decide)]) (fun y hy => sR_ne hy _ _) (fun i hi => by rw [f2 i hi, sR_ne hi]) rfl ?_ (kw' := kw) (mi' := mi + pm)
    refine NOW_cells hr (fun j h1 h2 => by rw [e2 j (by omega), hC j (by omega)]) ⟨n1, hmi, ?_, ?_, gF, g0, ?_⟩ (fun c hcc => ?_) (fun x hx => gx x (by omega) (fun c hc => by omega))
    · rw [sR_same_ne (by decide), hG]; exact n3
    · rw [gx 1 (by decide) (fun c hc => by omega)]; exact n4
    · rw [gx 2 (by decide) (fun c hc => by omega), sR_same_ne (by decide), hG]; exact n7
    · obtain ⟨a1, a2, a3, a4, a5, m, a6, a7, a8, a9⟩ := hr.2.1 c hcc
      have a1' : R 84 (6 + 4 * c) = R 2 c := a1
      have ez : R' 2 c = R 2 c + R 3 c * nI pm := by rw [e3 c (by omega) (by omega), hC 2 (by decide), hC 3 (by decide)]
      have em : (R 3 c * nI pm).toInt = (R 3 c).toInt * pm := by
        have hb1 : -180 ≤ (R 3 c).toInt * pm := by
          have := Int.mul_le_mul_of_nonneg_right (a := -3) (b := (R 3 c).toInt) (c := (pm : Int)) (by omega) (by omega)
          omega
        have hb2 : (R 3 c).toInt * pm ≤ 180 := by
          have := Int.mul_le_mul_of_nonneg_right (a := (R 3 c).toInt) (b := 3) (c := (pm : Int)) (by omega) (by omega)
          omega
        rw [ti_mul (by rw [nI_toInt hpm]; omega) (by rw [nI_toInt hpm]; omega), nI_toInt hpm]
      have hb1 := Int.mul_le_mul_of_nonneg_right (a := -3) (b := (R 3 c).toInt) (c := (pm : Int)) (by omega) (by omega)
      have hb2 := Int.mul_le_mul_of_nonneg_right (a := (R 3 c).toInt) (b := 3) (c := (pm : Int)) (by omega) (by omega)
      have ei : (R' 2 c).toInt = (R 2 c).toInt + (R 3 c).toInt * pm := by
        rw [ez, ti_add (by rw [em]; omega) (by rw [em]; omega), em]
      refine ⟨?_, ?_, ?_, ?_, ?_, m, by omega, ?_, ?_, ?_⟩
      · show R2 84 (6 + 4 * c) = _
        rw [f3 c (by omega) (by omega), sR_same_ne (by omega), sR_same_ne (by omega), acts_ne (by decide), e84, a1', a2, ez]
        grind
      · rw [gx _ (by omega) (fun d hd => by omega), e2 3 (by decide), hC 3 (by decide)]; exact a2
      · rw [gx _ (by omega) (fun d hd => by omega), e2 4 (by decide), hC 4 (by decide)]; exact a3
      · rw [gx _ (by omega) (fun d hd => by omega), e2 5 (by decide), hC 5 (by decide)]; exact a4
      · rw [e2 3 (by decide), hC 3 (by decide)]; exact a5
      · rw [e2 5 (by decide), hC 5 (by decide)]; exact a7
      · rw [ei]; omega
      · rw [ei, e2 4 (by decide), hC 4 (by decide)]; omega
  · rw [if_neg hd]
    exact ACT_mk (by show xX2_pass _ _ p1 q = _; unfold xX2_pass; rw [if_neg hc, if_neg (by rw [n6, ← n5]; exact hd)]) rfl rfl rfl (INV_mk hh hr)
end
