/-! PURE: undo and complain -/
section
variable {n : Nat} {R F : Nat → Nat → Int32} {o q kw mi : Nat}
theorem undo_loop : ∀ (m k : Nat) (R1 : Nat → Nat → Int32), ∃ R', hX2_undo_22 R F q m k R1 = (nI (q - 1), R', sR F 83 0 (nI (q - 1))) ∧ (∀ y, y ≠ 84 → R' y = R1 y) ∧ (∀ x, k ≤ x → x < k + m → R' 84 x = R1 85 (182 * (q - 1) + x)) ∧ (∀ x, x < k → R' 84 x = R1 84 x) := by
  intro m
  induction m with
  | zero => intro k R1; exact ⟨R1, rfl, fun y _ => rfl, fun x h1 h2 => by omega, fun x _ => rfl⟩
  | succ m ih =>
    intro k R1
    obtain ⟨R', e1, e2, e3, e4⟩ := ih (k + 1) (sR R1 84 k (R1 85 ((182 * (q - 1)) + k)))
    refine ⟨R', by rw [hX2_undo_22_s, e1], fun y hy => by rw [e2 y hy, sR_ne hy], fun x h1 h2 => ?_, fun x hx => ?_⟩
    · by_cases hx : x = k
      · subst hx
        rw [e4 _ (by omega), sR_same]
      · rw [e3 x (by omega) (by omega), sR_ne (by decide)]
    · rw [e4 x (by omega), sR_same_ne (by omega)]
theorem act_undo (hh : HI n R F o q) (hr : NOW n R F (R 84) kw mi) : ACT n R F (xX1_undo R F o q) (fun R1 F1 => xX2_undo R1 F1 q) := by
  obtain ⟨a1, a2, a3, a4, a5, a6⟩ := id hh
  unfold xX1_undo
  rw [a4]
  by_cases h0 : q = 0
  · subst h0
    rw [if_neg (by decide)]
    exact ACT_mk (by show xX2_undo _ _ 0 = _; unfold xX2_undo; rw [a5, if_pos (by decide)]) rfl rfl rfl (INV_mk hh hr)
  · have hq : 0 < nI q := Int32.lt_iff_toInt_lt.mpr (by rw [i_0, nI_toInt (by omega)]; omega)
    rw [if_pos hq]
    have hm : (o + (q - 1)) % 5 < 5 := Nat.mod_lt _ (by decide)
    obtain ⟨kw', mi', hs⟩ := a6 (q - 1) (by omega)
    have c1 : ∀ y, y < 2 ∨ 13 < y → (xX0_copyFrom R (sR F 0 1 (nI (q - 1))) 1 (18 + 13 * ((o + (q - 1)) % 5))).1 y = R y := fun y hy => cf_ne (by omega)
    have c2 := cf_24 (R := R) (F := sR F 0 1 (nI (q - 1))) (i0 := 1) (i1 := 18 + 13 * ((o + (q - 1)) % 5)) (by omega)
    have c3 := cf_8 (R := R) (F := sR F 0 1 (nI (q - 1))) (i0 := 1) (i1 := 18 + 13 * ((o + (q - 1)) % 5)) (by omega)
    have c4 : ∀ k, k < 3 → (xX0_copyFrom R (sR F 0 1 (nI (q - 1))) 1 (18 + 13 * ((o + (q - 1)) % 5))).2 1 k = F (18 + 13 * ((o + (q - 1)) % 5)) k := fun k hk => by rw [cf_F (by omega) hk, sR_ne (by omega)]
    have c5 : ∀ y, y ≠ 1 → (xX0_copyFrom R (sR F 0 1 (nI (q - 1))) 1 (18 + 13 * ((o + (q - 1)) % 5))).2 y = (sR F 0 1 (nI (q - 1))) y := fun y hy => cf_Fne hy
    generalize (xX0_copyFrom R (sR F 0 1 (nI (q - 1))) 1 (18 + 13 * ((o + (q - 1)) % 5))).1 = R1 at c1 c2 c3 ⊢
    generalize (xX0_copyFrom R (sR F 0 1 (nI (q - 1))) 1 (18 + 13 * ((o + (q - 1)) % 5))).2 = F1 at c4 c5 ⊢
    have f83 : F1 83 = F 83 := by rw [c5 83 (by decide), sR_ne (by decide)]
    obtain ⟨R2, e1, e2, e3, -⟩ := undo_loop (R := R1) (F := F1) (q := q) 182 0 R1
    refine ACT_mk (by show xX2_undo _ _ q = _; unfold xX2_undo; rw [f83, a5, if_neg (nI_ne0 (by omega) (by omega)), e1]) (c1 84 (by decide)) f83 rfl ⟨o, q - 1, kw', mi', ⟨a1, by omega, ?_, ?_, ?_, fun j hj => ?_⟩, ?_⟩
    · rw [sR_ne (by decide), c5 0 (by decide), sR_same_ne (by decide), a3]
    · rw [sR_ne (by decide), c5 0 (by decide), sR_same]
    · rw [sR_same]
    · obtain ⟨kw0, mi0, h0⟩ := a6 j (by omega)
      have hj5 : (o + j) % 5 < 5 := Nat.mod_lt _ (by decide)
      refine ⟨kw0, mi0, SREL_copy h0 (fun x h1 h2 c hc => ?_) (fun x h1 h2 c hc => ?_) (fun k hk => ?_) (fun x hx => ?_)⟩
      · rw [e2 _ (by omega), c1 _ (by omega)]
      · rw [e2 _ (by omega), c1 _ (by omega)]
      · rw [sR_ne (by omega), c5 _ (by omega), sR_ne (by omega)]
      · show R2 85 _ = R 85 _
        rw [e2 85 (by decide), c1 85 (by decide)]
    · show SREL n R2 (sR F1 83 0 (nI (q - 1))) 1 (R2 84) kw' mi'
      refine SREL_copy hs (fun x h1 h2 c hc => ?_) (fun x h1 h2 c hc => ?_) (fun k hk => ?_) (fun x hx => ?_)
      · rw [e2 _ (by omega)]; exact c2 x h1 h2 c hc
      · rw [e2 _ (by omega)]; exact c3 x h1 h2 c hc
      · rw [sR_ne (by decide)]; exact c4 k hk
      · rw [e3 x (by omega) (by omega), c1 85 (by decide)]
theorem oz_nn {x : Int32} (h : ¬ x = -100009) : oz x = x := by
  unfold oz xX1_orZero
  rw [if_neg h]
theorem act_complain (hh : HI n R F o q) (hr : NOW n R F (R 84) kw mi) (p1 : Int32) : ACT n R F (xX1_complain R F p1 o q) (fun R1 F1 => xX2_complain R1 F1 p1 q) := by
  obtain ⟨hC, hG, hG8⟩ := remF hh
  obtain ⟨n1, n2, n3, n4, n5, n6, n7⟩ := hr.1
  unfold xX1_complain
  rw [isW hr]
  by_cases hw : xX2_isWalker (R 84) p1 = 0
  · rw [if_pos hw]
    exact ACT_mk (by show xX2_complain _ _ p1 q = _; unfold xX2_complain; rw [if_pos hw]) rfl rfl rfl (INV_mk hh hr)
  rw [if_neg hw, isAb hr hw]
  by_cases ha : ¬ xX2_isAboard (R 84) p1.toNatClampNeg = 0
  · rw [if_neg ha]
    exact ACT_mk (by show xX2_complain _ _ p1 q = _; unfold xX2_complain; rw [if_neg hw, if_neg ha]) rfl rfl rfl (INV_mk hh hr)
  have ha := Classical.not_not.mp ha
  rw [if_pos ha]
  obtain ⟨ek, hk⟩ := isW_of hr hw
  obtain ⟨g4, gm, g5, g6, g7, g8, g9, gb, gc, gd⟩ := hr.2.2.2.1 _ hk
  have w5 : xX2_ofWalker (R 84) p1.toNatClampNeg 5 = R 11 p1.toNatClampNeg := g5
  by_cases hb : R 11 p1.toNatClampNeg = -100009
  · rw [if_pos hb]
    exact ACT_mk (by show xX2_complain _ _ p1 q = _; unfold xX2_complain; rw [if_neg hw, if_pos ha, if_pos (w5.trans hb)]) rfl rfl rfl (INV_mk hh hr)
  rw [if_neg hb]
  have h9 : xX2_ofWalker (R 84) p1.toNatClampNeg 9 = 1 ↔ ¬ R 13 p1.toNatClampNeg = -100009 := g9
  by_cases hs9 : ¬ R 13 p1.toNatClampNeg = -100009
  · rw [if_neg hs9]
    exact ACT_mk (by show xX2_complain _ _ p1 q = _; unfold xX2_complain; rw [if_neg hw, if_pos ha, if_neg (by rw [w5]; exact hb), if_pos (h9.mpr hs9)]) rfl rfl rfl (INV_mk hh hr)
  have hs9 := Classical.not_not.mp hs9
  rw [if_pos hs9, hC 11 (by decide), hC 6 (by decide)]
  obtain ⟨b0, bw, -⟩ := hr.2.2.1 _ hk
  have hbk : 0 ≤ (R 11 p1.toNatClampNeg).toInt ∧ (R 11 p1.toNatClampNeg).toInt ≤ 1500 := by
    rcases gb with gb | gb
    · exact absurd gb hb
    · exact gb
  have hdi : (R 11 p1.toNatClampNeg - R 6 p1.toNatClampNeg).toInt = (R 11 p1.toNatClampNeg).toInt - (R 6 p1.toNatClampNeg).toInt := ti_sub (by omega) (by omega)
  have hv0 : ∃ v0 : Int32, (if (0 : Int32) < (R 11 p1.toNatClampNeg - R 6 p1.toNatClampNeg) then (R 11 p1.toNatClampNeg - R 6 p1.toNatClampNeg) else 0) = v0 ∧ (if (0 : Int32) ≤ (R 11 p1.toNatClampNeg - R 6 p1.toNatClampNeg) then (R 11 p1.toNatClampNeg - R 6 p1.toNatClampNeg) else 0) = v0 ∧ 0 ≤ v0.toInt ∧ v0.toInt ≤ 1500 := by
    refine ⟨_, rfl, (max0 _).symm, ?_⟩
    split
    · next hl =>
      have := Int32.lt_iff_toInt_lt.mp hl
      rw [i_0] at this
      omega
    · rw [i_0]; omega
  obtain ⟨v0, ev, ev2, v1, v2⟩ := hv0
  rw [ev]
  have hvn : ¬ v0 = -100009 := fun e => by
    rw [e] at v1
    exact absurd v1 (by decide)
  have e84 : sR (xX1_remember R F o q).1 13 p1.toNatClampNeg v0 84 = R 84 := by rw [sR_ne (by decide), hC 84 (by decide)]
  have hA : (xX2_acts (sR (xX1_remember R F o q).1 13 p1.toNatClampNeg v0) (xX1_remember R F o q).2 q).1 84 = R 84 := by rw [acts_ne (by decide), e84]
  have w0 : xX2_ofWalker (R 84) p1.toNatClampNeg 0 = R 6 p1.toNatClampNeg := b0
  have hfn : ∃ S : Nat → Nat → Int32, xX2_complain (sR (xX1_remember R F o q).1 13 p1.toNatClampNeg v0) (xX1_remember R F o q).2 p1 q = (xX2_ofWalker (S 84) p1.toNatClampNeg 7, S, (xX2_acts (sR (xX1_remember R F o q).1 13 p1.toNatClampNeg v0) (xX1_remember R F o q).2 q).2) ∧ (∀ y, y ≠ 84 → S y = (xX2_acts (sR (xX1_remember R F o q).1 13 p1.toNatClampNeg v0) (xX1_remember R F o q).2 q).1 y) ∧ S 84 (102 + 10 * p1.toNatClampNeg + 9) = 1 ∧ S 84 (102 + 10 * p1.toNatClampNeg + 7) = v0 * R 12 p1.toNatClampNeg ∧
      S 84 3 = R 84 3 - v0 ∧ S 84 5 = R 84 5 + v0 * R 12 p1.toNatClampNeg ∧ (∀ x, x ≠ 3 → x ≠ 5 → x ≠ 102 + 10 * p1.toNatClampNeg + 7 → x ≠ 102 + 10 * p1.toNatClampNeg + 9 → S 84 x = R 84 x) := by
    have hrate : xX2_ofWalker (xX2_puts (xX2_acts (sR (xX1_remember R F o q).1 13 p1.toNatClampNeg v0) (xX1_remember R F o q).2 q).1 (xX2_acts (sR (xX1_remember R F o q).1 13 p1.toNatClampNeg v0) (xX1_remember R F o q).2 q).2 p1.toNatClampNeg 9 1 84) p1.toNatClampNeg 8 = R 12 p1.toNatClampNeg := by
      unfold xX2_ofWalker xX2_puts
      rw [sR_same_ne (by omega), hA]
      exact g8 hb
    by_cases hd : (0 : Int32) ≤ (R 11 p1.toNatClampNeg - R 6 p1.toNatClampNeg)
    · rw [if_pos hd] at ev2
      refine ⟨_, by unfold xX2_complain; rw [e84, if_neg hw, if_pos ha, w5, if_neg hb, if_neg (fun q => (h9.mp q) hs9), hA, w5, w0, if_pos hd, ev2], fun y hy => ?_, ?_, ?_, ?_, ?_, fun x h1 h2 h3 h4 => ?_⟩
      · unfold xX2_puts
        rw [sR_ne hy, sR_ne hy, sR_ne hy, sR_ne hy]
      · unfold xX2_puts
        rw [sR_same_ne (by omega), sR_same_ne (by omega), sR_same_ne (by omega), sR_same]
      · rw [hrate]
        unfold xX2_puts
        rw [sR_same_ne (by omega), sR_same_ne (by omega), sR_same]
      · rw [hrate]
        unfold xX2_puts
        rw [sR_same_ne (by omega), sR_same, sR_same_ne (by omega), sR_same_ne (by omega), hA]
      · rw [hrate]
        unfold xX2_puts xX2_ofWalker
        rw [sR_same, sR_same_ne (by omega), sR_same_ne (by omega), sR_same_ne (by omega), sR_same_ne (by omega), sR_same, hA]
      · unfold xX2_puts
        rw [sR_same_ne h2, sR_same_ne h1, sR_same_ne h3, sR_same_ne h4, hA]
    · rw [if_neg hd] at ev2
      refine ⟨_, by unfold xX2_complain; rw [e84, if_neg hw, if_pos ha, w5, if_neg hb, if_neg (fun q => (h9.mp q) hs9), hA, w5, w0, if_neg hd, ev2], fun y hy => ?_, ?_, ?_, ?_, ?_, fun x h1 h2 h3 h4 => ?_⟩
      · unfold xX2_puts
        rw [sR_ne hy, sR_ne hy, sR_ne hy, sR_ne hy]
      · unfold xX2_puts
        rw [sR_same_ne (by omega), sR_same_ne (by omega), sR_same_ne (by omega), sR_same]
      · rw [hrate]
        unfold xX2_puts
        rw [sR_same_ne (by omega), sR_same_ne (by omega), sR_same]
      · rw [hrate]
        unfold xX2_puts
        rw [sR_same_ne (by omega), sR_same, sR_same_ne (by omega), sR_same_ne (by omega), hA]
      · rw [hrate]
        unfold xX2_puts xX2_ofWalker
        rw [sR_same, sR_same_ne (by omega), sR_same_ne (by omega), sR_same_ne (by omega), sR_same_ne (by omega), sR_same, hA]
      · unfold xX2_puts
        rw [sR_same_ne h2, sR_same_ne h1, sR_same_ne h3, sR_same_ne h4, hA]
  obtain ⟨S, f1, f2, s9, s7, s3, s5, sx⟩ := hfn
  have hro : ∀ y, y ≠ 13 → y < 19 → sR (xX1_remember R F o q).1 13 p1.toNatClampNeg v0 y = R y := fun y h1 h2 => by rw [sR_ne h1, hC y (by omega)]
  have r13 : sR (xX1_remember R F o q).1 13 p1.toNatClampNeg v0 13 p1.toNatClampNeg = v0 := sR_same
  have r13n : ∀ k, k ≠ p1.toNatClampNeg → sR (xX1_remember R F o q).1 13 p1.toNatClampNeg v0 13 k = R 13 k := fun k hk => by rw [sR_same_ne hk, hC 13 (by decide)]
  refine ACT_mk f1 e84 hG8 ?_ (INV_act hh hr (Nat.le_refl _) (fun i h1 h2 => sR_ne (by omega) _ _) e84 (by rw [sR_ne (by decide), hC 85 (by decide)]) (fun y hy => rfl) f2 rfl (?_ : NOW n _ _ (S 84) kw mi))
  · unfold xX1_backAmount xX2_ofWalker
    rw [if_neg (by
      have := isWalker_nI (R := sR (xX1_remember R F o q).1 13 p1.toNatClampNeg v0) (F := (xX1_remember R F o q).2) (by rw [hG]; exact n3) n1 hk
      rw [← ek] at this
      exact this), r13, hro 12 (by decide) (by decide), s7]
    show oz v0 * _ = _
    rw [oz_nn hvn]
  · generalize sR (xX1_remember R F o q).1 13 p1.toNatClampNeg v0 = R1 at *
    refine NOW_walk hr (fun j h1 h2 => hro j (by omega) (by omega)) (rNum_s hr.1 hG (sx 0 (by omega) (by omega) (by omega) (by omega)) (sx 1 (by omega) (by omega) (by omega) (by omega)) (sx 2 (by omega) (by omega) (by omega) (by omega))) (fun x h1 h2 => sx x (by omega) (by omega) (by omega) (by omega)) (fun k hk => ?_) (fun k hk => ?_) (fun k h1 h2 => ?_) ?_ ?_
    · rw [hro 6 (by decide) (by decide), hro 7 (by decide) (by decide), hro 8 (by decide) (by decide), hro 9 (by decide) (by decide)]
      exact wlk1_s (hr.2.2.1 k hk) rfl rfl rfl rfl (fun j hj => sx _ (by omega) (by omega) (by omega) (by omega))
    · rw [hro 10 (by decide) (by decide), hro 11 (by decide) (by decide), hro 12 (by decide) (by decide)]
      by_cases hkk : k = p1.toNatClampNeg
      · subst hkk
        refine ⟨by rw [sx _ (by omega) (by omega) (by omega) (by omega)]; exact g4, gm, by rw [sx _ (by omega) (by omega) (by omega) (by omega)]; exact g5, by rw [sx _ (by omega) (by omega) (by omega) (by omega)]; exact g6, by rw [s7, r13, oz_nn hvn], by rw [sx _ (by omega) (by omega) (by omega) (by omega)]; exact g8, by rw [s9, r13]; exact ⟨fun _ => hvn, fun _ => rfl⟩, gb, by rw [r13]; exact Or.inr ⟨v1, v2⟩, fun _ => hb⟩
      · exact bil1_s (Nat.le_refl _) (hr.2.2.2.1 k hk) rfl rfl rfl (r13n k hkk) (fun j h1 h2 => sx _ (by omega) (by omega) (by omega) (by omega))
    · rw [hro 7 (by decide) (by decide), hro 9 (by decide) (by decide), hro 10 (by decide) (by decide), hro 11 (by decide) (by decide)]
      unfold wOut
      rw [r13n k (by omega)]
      exact hr.2.2.2.2.1 k h1 h2
    · rw [hro 7 (by decide) (by decide), hro 9 (by decide) (by decide)]
      exact hr.2.2.2.2.2.1
    · rw [hro 11 (by decide) (by decide), hro 12 (by decide) (by decide)]
      obtain ⟨t1, t2, t3⟩ := hr.2.2.2.2.2.2
      unfold tots
      rw [s3, s5, sx 4 (by omega) (by omega) (by omega) (by omega), t1, t3]
      have z1 : oz (-100009) = 0 := rfl
      refine ⟨?_, t2, ?_⟩
      · rw [sT_upd (g := fun k => oz (R 11 k) - oz (R 13 k)) (g' := fun k => oz (R 11 k) - oz (R1 13 k)) (w := p1.toNatClampNeg) 8 0 (by omega) (by omega) (fun j hj => by show oz (R 11 j) - oz (R1 13 j) = _; rw [r13n j hj]), r13, hs9, oz_nn hvn, z1]
        grind
      · rw [sT_upd (g := fun k => oz (R 13 k) * R 12 k) (g' := fun k => oz (R1 13 k) * R 12 k) (w := p1.toNatClampNeg) 8 0 (by omega) (by omega) (fun j hj => by show oz (R1 13 j) * R 12 j = _; rw [r13n j hj]), r13, hs9, oz_nn hvn, z1]
        grind
end
