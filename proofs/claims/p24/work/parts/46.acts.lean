/-! PURE: what an action leaves; setDrift, setPrice, pass -/
theorem cf_ne {R F : Nat → Nat → Int32} {i0 i1 y : Nat} (h : y < i0 + 1 ∨ i0 + 12 < y) : (xX0_copyFrom R F i0 i1).1 y = R y := by
  unfold xX0_copyFrom
  dsimp only
  rw [copyRow_ne (by omega), copyRow_ne (by omega), copyRow_ne (by omega), copyRow_ne (by omega), copyRow_ne (by omega), copyRow_ne (by omega), copyRow_ne (by omega), copyRow_ne (by omega), copyRow_ne (by omega), copyRow_ne (by omega), copyRow_ne (by omega), copyRow_ne (by omega)]
theorem cf_Fne {R F : Nat → Nat → Int32} {i0 i1 y : Nat} (h : y ≠ i0) : (xX0_copyFrom R F i0 i1).2 y = F y := by
  unfold xX0_copyFrom
  dsimp only
  rw [sR_ne h, sR_ne h, sR_ne h]
def HI (F : Nat → Nat → Int32) (o q : Nat) : Prop := o < 5 ∧ q ≤ 5 ∧ F 0 0 = nI o ∧ F 0 1 = nI q
/-- what remember leaves as it was -/
theorem remF {R F : Nat → Nat → Int32} {o q : Nat} (h : HI F o q) : (∀ y, y < 19 ∨ 83 ≤ y → (xX1_remember R F o q).1 y = R y) ∧ (xX1_remember R F o q).2 1 = F 1 ∧ ∃ o' q', HI (xX1_remember R F o q).2 o' q' := by
  obtain ⟨ho, hq, hF0, hF1⟩ := h
  unfold xX1_remember
  by_cases h5 : F 0 1 = 5
  · rw [if_pos h5]
    have hs : ((o + 1) % 5 + 4) % 5 < 5 := Nat.mod_lt _ (by decide)
    refine ⟨fun y hy => ?_, ?_, (o + 1) % 5, 5, by omega, by decide, ?_, ?_⟩
    · exact cf_ne (by omega)
    · dsimp only
      rw [sR_ne (by decide), cf_Fne (by omega), sR_ne (by decide), sR_ne (by decide)]
    · dsimp only
      rw [sR_same_ne (by decide), cf_Fne (by omega), sR_same_ne (by decide), sR_same]
    · dsimp only
      rw [sR_same]
  · rw [if_neg h5]
    have e : q ≠ 5 := fun e => h5 (by rw [hF1, e]; rfl)
    have hs : (o + q) % 5 < 5 := Nat.mod_lt _ (by decide)
    refine ⟨fun y hy => ?_, ?_, o, q + 1, ho, by omega, ?_, ?_⟩
    · exact cf_ne (by omega)
    · dsimp only
      rw [sR_ne (by decide), cf_Fne (by omega)]
    · dsimp only
      rw [sR_same_ne (by decide), cf_Fne (by omega), hF0]
    · dsimp only
      rw [sR_same]
theorem HI_F {F F' : Nat → Nat → Int32} {o q : Nat} (h : HI F o q) (e : F' 0 = F 0) : HI F' o q := by
  unfold HI
  rw [e]
  exact h
def POST (X : Int32 × (Nat → Nat → Int32) × (Nat → Nat → Int32)) (v : Int32) (R L : Nat → Nat → Int32) (kw mi : Nat) : Prop := X.1 = v ∧ (∃ o q, HI X.2.2 o q) ∧ NOW X.2.1 X.2.2 L kw mi ∧ ∀ y, 83 ≤ y → X.2.1 y = R y
theorem POST_mk {v v' : Int32} {R R' F' L : Nat → Nat → Int32} {kw mi o q : Nat} (hv : v' = v) (hh : HI F' o q) (hN : NOW R' F' L kw mi) (hk : ∀ y, 83 ≤ y → R' y = R y) : POST (v', R', F') v R L kw mi := ⟨hv, ⟨o, q, hh⟩, hN, hk⟩
theorem POST_no {v : Int32} {R F L : Nat → Nat → Int32} {kw mi o q : Nat} (hh : HI F o q) (hr : NOW R F L kw mi) : POST (v, R, F) v R L kw mi := ⟨rfl, ⟨o, q, hh⟩, hr, fun _ _ => rfl⟩
theorem within_of {p a b : Int32} (h1 : a.toInt ≤ p.toInt) (h2 : p.toInt ≤ b.toInt) : ¬ xX1_isWithin p a b = 0 := by
  unfold xX1_isWithin
  rw [if_neg (fun q => by
    have := Int32.lt_iff_toInt_lt.mp q
    omega), if_neg (fun q => by
    have := Int32.lt_iff_toInt_lt.mp q
    omega)]
  decide
theorem isWalker_nI {R F : Nat → Nat → Int32} {kw t : Nat} (h : F 1 2 = nI kw) (h8 : kw ≤ 8) (ht : t < kw) : ¬ xX1_isWalker R F (nI t) = 0 := by
  unfold xX1_isWalker
  rw [h, if_neg (nI_pos (by omega)), if_neg (fun q => by
    have := (nI_leI (by omega) (by omega)).mp q
    omega), if_neg (fun q => by
    have := (nI_leI (a := 8) (by omega) (by omega)).mp q
    omega)]
  decide
theorem cel1_s {mi : Nat} {z d t tm lz ld lt lu z' d' t' tm' lz' ld' lt' lu' : Nat → Int32} {c : Nat} (h : cel1 mi z d t tm lz ld lt lu c) (hz : z' c = z c) (hd : d' c = d c) (ht : t' c = t c) (hm : tm' c = tm c) (kz : lz' c = lz c) (kd : ld' c = ld c) (kt : lt' c = lt c) (ku : lu' c = lu c) : cel1 mi z' d' t' tm' lz' ld' lt' lu' c := by
  unfold cel1
  rw [hz, hd, ht, hm, kz, kd, kt, ku]
  exact h
theorem NOW_cells {R F L R' F' L' : Nat → Nat → Int32} {kw mi mi' : Nat} (h : NOW R F L kw mi) (hR : ∀ j, 6 ≤ j → j ≤ 13 → R' j = R j) (hn : rNum (F' 1) (L' 83) kw mi') (hc : ∀ c, c < 24 → cel1 mi' (R' 2) (R' 3) (R' 4) (R' 5) (L' 84) (L' 85) (L' 86) (L' 87) c) (h8 : L' 88 = L 88) (h9 : L' 89 = L 89) (hg : ∀ x, 3 ≤ x → L' 83 x = L 83 x) : NOW R' F' L' kw mi' := by
  unfold NOW
  rw [hR 6 (by decide) (by decide), hR 7 (by decide) (by decide), hR 8 (by decide) (by decide), hR 9 (by decide) (by decide), hR 10 (by decide) (by decide), hR 11 (by decide) (by decide), hR 12 (by decide) (by decide), hR 13 (by decide) (by decide), h8, h9]
  obtain ⟨-, -, hw, hb, ho, hp, t1, t2, t3⟩ := h
  exact ⟨hn, hc, hw, hb, ho, hp, (hg 3 (by decide)).trans t1, (hg 4 (by decide)).trans t2, (hg 5 (by decide)).trans t3⟩
theorem rNum_s {N N' g g' : Nat → Int32} {kw mi : Nat} (h : rNum N g kw mi) (hN : N' = N) (h0 : g' 0 = g 0) (h1 : g' 1 = g 1) (h2 : g' 2 = g 2) : rNum N' g' kw mi := by
  subst hN
  unfold rNum
  rw [h0, h1, h2]
  exact h
section
variable {R F L L' : Nat → Nat → Int32} {o q kw mi : Nat}
theorem act_setDrift (hh : HI F o q) (hr : NOW R F L kw mi) {c : Nat} (hc : c < 24) {v : Int32} (hv : -3 ≤ v.toInt ∧ v.toInt ≤ 3) (l0 : ∀ y, 83 ≤ y → y ≠ 85 → L' y = L y) (l1 : L' 85 c = v) (l2 : ∀ x, x ≠ c → L' 85 x = L 85 x) : POST (xX1_setDrift R F (nI c) v o q) (L 85 c) R L' kw mi := by
  obtain ⟨hC, hG, o', q', hh'⟩ := remF (R := R) hh
  unfold xX1_setDrift
  rw [if_neg (isCell_nI hc), if_neg (within_of (a := -3) (b := 3) hv.1 hv.2), nI_clamp (by omega)]
  refine POST_mk ?_ hh' ?_ (fun y hy => by rw [sR_ne (by omega), hC y (by omega)])
  · rw [hC 3 (by decide)]
    exact (hr.2.1 c hc).2.1.symm
  · refine NOW_cells hr (fun j h1 h2 => by rw [sR_ne (by omega), hC j (by omega)]) (rNum_s hr.1 hG (by rw [l0 83 (by decide) (by decide)]) (by rw [l0 83 (by decide) (by decide)]) (by rw [l0 83 (by decide) (by decide)])) (fun x hx => ?_) (l0 88 (by decide) (by decide)) (l0 89 (by decide) (by decide)) (fun x _ => by rw [l0 83 (by decide) (by decide)])
    rw [sR_ne (show (2 : Nat) ≠ 3 by decide), sR_ne (show (4 : Nat) ≠ 3 by decide), sR_ne (show (5 : Nat) ≠ 3 by decide), hC 2 (by decide), hC 4 (by decide), hC 5 (by decide), l0 84 (by decide) (by decide), l0 86 (by decide) (by decide), l0 87 (by decide) (by decide)]
    by_cases hxc : x = c
    · obtain ⟨a1, a2, a3, a4, a5, a6⟩ := hr.2.1 x hx
      subst hxc
      exact ⟨a1, by rw [sR_same, l1], a3, a4, by rw [sR_same]; exact hv, a6⟩
    · exact cel1_s (hr.2.1 x hx) rfl (by rw [sR_same_ne hxc, hC 3 (by decide)]) rfl rfl rfl (l2 x hxc) rfl rfl
theorem act_setPrice (hh : HI F o q) (hr : NOW R F L kw mi) {v : Int32} (hv : 0 ≤ v.toInt ∧ v.toInt ≤ 100) (l0 : ∀ y, 83 ≤ y → y ≠ 83 → L' y = L y) (l1 : L' 83 2 = v) (l2 : ∀ x, x ≠ 2 → L' 83 x = L 83 x) : POST (xX1_setPrice R F v o q) (L 83 2) R L' kw mi := by
  obtain ⟨hC, hG, o', q', hh'⟩ := remF (R := R) hh
  obtain ⟨n1, n2, n3, n4, n5, n6, n7⟩ := hr.1
  unfold xX1_setPrice
  rw [if_neg (within_of (a := 0) (b := 100) hv.1 hv.2)]
  refine POST_mk ?_ (HI_F hh' (sR_ne (by decide) _ _)) ?_ (fun y hy => hC y (by omega))
  · rw [hG]
    exact n7.symm
  · refine NOW_cells hr (fun j h1 h2 => hC j (by omega)) ⟨n1, n2, ?_, ?_, ?_, ?_, ?_⟩ (fun x hx => ?_) (l0 88 (by decide) (by decide)) (l0 89 (by decide) (by decide)) (fun x hx => l2 x (by omega))
    · rw [sR_same_ne (by decide), hG]; exact n3
    · rw [l2 1 (by decide)]; exact n4
    · rw [sR_same_ne (by decide), hG]; exact n5
    · rw [l2 0 (by decide)]; exact n6
    · rw [sR_same, l1]
    · rw [hC 2 (by decide), hC 3 (by decide), hC 4 (by decide), hC 5 (by decide), l0 84 (by decide) (by decide), l0 85 (by decide) (by decide), l0 86 (by decide) (by decide), l0 87 (by decide) (by decide)]
      exact hr.2.1 x hx
theorem pass1_loop {p : Int32} : ∀ (m k : Nat) (R1 : Nat → Nat → Int32), ∃ R', hX1_pass_37 R F p o q m k R1 = (((sR ((xX1_remember R F o q).2) 1 0 ((((xX1_remember R F o q).2) 1 0) + p)) 1 0), R', (sR ((xX1_remember R F o q).2) 1 0 ((((xX1_remember R F o q).2) 1 0) + p))) ∧ (∀ y, y ≠ 2 → R' y = R1 y) ∧ (∀ c, k ≤ c → c < k + m → R' 2 c = R1 2 c + R1 3 c * p) ∧ (∀ c, c < k ∨ k + m ≤ c → R' 2 c = R1 2 c) := by
  intro m
  induction m with
  | zero => intro k R1; exact ⟨R1, rfl, fun y _ => rfl, fun c h1 h2 => by omega, fun c _ => rfl⟩
  | succ m ih =>
    intro k R1
    obtain ⟨R', e1, e2, e3, e4⟩ := ih (k + 1) (sR R1 2 k ((R1 2 k) + ((R1 3 k) * p)))
    refine ⟨R', by rw [hX1_pass_37_s, e1], fun y hy => by rw [e2 y hy, sR_ne hy], fun c h1 h2 => ?_, fun c hc => ?_⟩
    · by_cases hx : c = k
      · subst hx
        rw [e4 c (by omega), sR_same]
      · rw [e3 c (by omega) (by omega), sR_same_ne hx, sR_ne (by decide)]
    · rw [e4 c (by omega), sR_same_ne (by omega)]
theorem act_pass_no (hh : HI F o q) (hr : NOW R F L kw mi) {pm : Nat} (h1 : 1 ≤ pm) (h2 : pm ≤ 60) (h3 : 2000 < mi + pm) : POST (xX1_pass R F (nI pm) o q) (-100002) R L kw mi := by
  obtain ⟨n1, n2, n3, n4, n5, n6, n7⟩ := hr.1
  unfold xX1_pass
  rw [if_neg (within_of (a := 1) (b := 60) (by rw [nI_toInt (by omega)]; show (1 : Int) ≤ pm; omega) (by rw [nI_toInt (by omega)]; show (pm : Int) ≤ 60; omega)), n5, nI_add, if_neg (fun e => by
    have := (nI_leI (a := mi + pm) (b := 2000) (by omega) (by omega)).mp e
    omega)]
  exact POST_no hh hr
theorem act_pass (hh : HI F o q) (hr : NOW R F L kw mi) {pm : Nat} (h1 : 1 ≤ pm) (h2 : pm ≤ 60) (h3 : mi + pm ≤ 2000) (l0 : ∀ y, 83 ≤ y → y ≠ 83 → y ≠ 84 → L' y = L y) (l1 : L' 83 0 = nI (mi + pm)) (l2 : ∀ x, x ≠ 0 → L' 83 x = L 83 x) (l3 : ∀ c, c < 24 → L' 84 c = L 84 c + L 85 c * nI pm) : POST (xX1_pass R F (nI pm) o q) (nI (mi + pm)) R L' kw (mi + pm) := by
  obtain ⟨hC, hG, o', q', hh'⟩ := remF (R := R) hh
  obtain ⟨n1, n2, n3, n4, n5, n6, n7⟩ := hr.1
  have hpm : pm < 2 ^ 31 := by omega
  unfold xX1_pass
  rw [if_neg (within_of (a := 1) (b := 60) (by rw [nI_toInt (by omega)]; show (1 : Int) ≤ pm; omega) (by rw [nI_toInt (by omega)]; show (pm : Int) ≤ 60; omega)), n5, nI_add, if_pos (show nI (mi + pm) ≤ 2000 from (nI_leI (a := mi + pm) (b := 2000) (by omega) (by omega)).mpr h3)]
  obtain ⟨R', e1, e2, e3, e4⟩ := pass1_loop (R := R) (F := F) (o := o) (q := q) (p := nI pm) 24 0 (xX1_remember R F o q).1
  rw [e1]
  have gF : (sR ((xX1_remember R F o q).2) 1 0 ((((xX1_remember R F o q).2) 1 0) + nI pm)) 1 0 = nI (mi + pm) := by
    rw [sR_same, hG, n5, nI_add]
  refine POST_mk gF (HI_F hh' (sR_ne (by decide) _ _)) ?_ (fun y hy => by rw [e2 y (by omega), hC y (by omega)])
  refine NOW_cells hr (fun j h1 h2 => by rw [e2 j (by omega), hC j (by omega)]) ⟨n1, h3, ?_, ?_, gF, l1, ?_⟩ (fun c hcc => ?_) (l0 88 (by decide) (by decide) (by decide)) (l0 89 (by decide) (by decide) (by decide)) (fun x hx => l2 x (by omega))
  · rw [sR_same_ne (by decide), hG]; exact n3
  · rw [l2 1 (by decide)]; exact n4
  · rw [l2 2 (by decide), sR_same_ne (by decide), hG]; exact n7
  · obtain ⟨a1, a2, a3, a4, a5, ⟨m, a6, a7⟩, a8⟩ := hr.2.1 c hcc
    have ez : R' 2 c = R 2 c + R 3 c * nI pm := by rw [e3 c (by omega) (by omega), hC 2 (by decide), hC 3 (by decide)]
    have em : (R 3 c * nI pm).toInt = (R 3 c).toInt * pm := by
      have hb1 : -180 ≤ (R 3 c).toInt * pm := by
        have := Int.mul_le_mul_of_nonneg_right (a := -3) (b := (R 3 c).toInt) (c := (pm : Int)) (by omega) (by omega)
        omega
      have hb2 : (R 3 c).toInt * pm ≤ 180 := by
        have := Int.mul_le_mul_of_nonneg_right (a := (R 3 c).toInt) (b := 3) (c := (pm : Int)) (by omega) (by omega)
        omega
      rw [ti_mul (by rw [nI_toInt hpm]; omega) (by rw [nI_toInt hpm]; omega), nI_toInt hpm]
    have hb1 := Int.mul_le_mul_of_nonneg_right (a := -3) (b := (R 3 c).toInt) (c := (pm : Int)) (by omega) (by omega)
    have hb2 := Int.mul_le_mul_of_nonneg_right (a := (R 3 c).toInt) (b := 3) (c := (pm : Int)) (by omega) (by omega)
    have ei : (R' 2 c).toInt = (R 2 c).toInt + (R 3 c).toInt * pm := by
      rw [ez, ti_add (by rw [em]; omega) (by rw [em]; omega), em]
    rw [e2 3 (by decide), hC 3 (by decide), e2 4 (by decide), hC 4 (by decide), e2 5 (by decide), hC 5 (by decide), l0 85 (by decide) (by decide) (by decide), l0 86 (by decide) (by decide) (by decide), l0 87 (by decide) (by decide) (by decide)]
    refine ⟨?_, a2, a3, a4, a5, ⟨m, by omega, a7⟩, ?_⟩
    · rw [l3 c hcc, ez, a1, a2]
    · rw [ei]; omega
end

