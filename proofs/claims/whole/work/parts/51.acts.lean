/-! PURE: the actions: what class and model answer and keep -/
def INV (n : Nat) (R F : Nat → Nat → Int32) : Prop := ∃ o q kw mi, HI n R F o q ∧ NOW n R F (R 84) kw mi
def ACT (m : Nat) (R F : Nat → Nat → Int32) (X : Int32 × (Nat → Nat → Int32) × (Nat → Nat → Int32)) (f : (Nat → Nat → Int32) → (Nat → Nat → Int32) → Int32 × (Nat → Nat → Int32) × (Nat → Nat → Int32)) : Prop :=
  X.2.1 84 = R 84 ∧ X.2.2 83 = F 83 ∧ X.1 = (f X.2.1 X.2.2).1 ∧ INV m (f X.2.1 X.2.2).2.1 (f X.2.1 X.2.2).2.2
theorem ACT_mk {m : Nat} {R F R1 F1 R2 F2 : Nat → Nat → Int32} {v v2 : Int32} {f : (Nat → Nat → Int32) → (Nat → Nat → Int32) → Int32 × (Nat → Nat → Int32) × (Nat → Nat → Int32)} (hf : f R1 F1 = (v2, R2, F2)) (e84 : R1 84 = R 84) (e83 : F1 83 = F 83) (hv : v = v2) (hi : INV m R2 F2) : ACT m R F (v, R1, F1) f := by
  unfold ACT
  dsimp only
  rw [hf]
  exact ⟨e84, e83, hv, hi⟩
theorem INV_mono {n m : Nat} (hnm : n ≤ m) {R F : Nat → Nat → Int32} (h : INV n R F) : INV m R F := by
  obtain ⟨o, q, kw, mi, h1, h2⟩ := h
  exact ⟨o, q, kw, mi, HI_mono hnm h1, REL_mono hnm h2⟩
theorem NOW_rows {n : Nat} {R F R' F' : Nat → Nat → Int32} {s : Nat → Int32} {kw mi : Nat} (h : NOW n R F s kw mi) (hR : ∀ j, 2 ≤ j → j ≤ 13 → R' j = R j) (hF : F' 1 = F 1) : NOW n R' F' s kw mi := by
  unfold NOW
  rw [hR 2 (by decide) (by decide), hR 3 (by decide) (by decide), hR 4 (by decide) (by decide), hR 5 (by decide) (by decide), hR 6 (by decide) (by decide), hR 7 (by decide) (by decide), hR 8 (by decide) (by decide), hR 9 (by decide) (by decide), hR 10 (by decide) (by decide), hR 11 (by decide) (by decide), hR 12 (by decide) (by decide), hR 13 (by decide) (by decide), hF]
  exact h
theorem remF {n : Nat} {R F : Nat → Nat → Int32} {o q : Nat} (h : HI n R F o q) : (∀ y, y < 19 ∨ 83 ≤ y → (xX1_remember R F o q).1 y = R y) ∧ (xX1_remember R F o q).2 1 = F 1 ∧ (xX1_remember R F o q).2 83 = F 83 := by
  obtain ⟨a1, a2, a3, a4, -, -⟩ := h
  obtain ⟨o', q', sl, ho', hq', hsl, hoo, r1, r2, r3, r4, r5, r6, r7⟩ := rem_spec (R := R) (F := F) a1 a2 a3 a4
  have hsl5 : sl < 5 := by rw [hsl]; exact Nat.mod_lt _ (by decide)
  exact ⟨fun y hy => r5 y (by omega), r3 1 (by decide) (by omega), r3 83 (by decide) (by omega)⟩
theorem INV_act {n m : Nat} {R F R1 F1 R2 F2 : Nat → Nat → Int32} {o q kw mi kw' mi' : Nat} (hh : HI n R F o q) (hr : NOW n R F (R 84) kw mi) (hn : n ≤ m)
    (c1 : ∀ i, 18 ≤ i → i < 83 → R1 i = (xX1_remember R F o q).1 i) (c84 : R1 84 = R 84) (c85 : R1 85 = R 85) (c0 : ∀ y, y ≠ 1 → F1 y = (xX1_remember R F o q).2 y)
    (mR : ∀ i, i ≠ 84 → R2 i = (xX2_acts R1 F1 q).1 i) (mF : F2 = (xX2_acts R1 F1 q).2) (hN : NOW m R1 F1 (R2 84) kw' mi') : INV m R2 F2 := by
  have hrm := remF hh
  have e83 : F1 83 0 = F 83 0 := by rw [c0 83 (by decide), hrm.2.2]
  have hq83 : F1 83 0 = nI q := e83.trans hh.2.2.2.2.1
  have aF := acts_F (R := R1) hh.2.1 hq83
  obtain ⟨o', q', hh'⟩ := HI_act (R2 := R2) (F2 := F2) hh hr c1 c84 c85 (c0 0 (by decide)) (fun k _ => c0 _ (by omega)) e83
    (fun i h1 h2 => by rw [mR i (by omega), acts_ne (by omega)]) (mR 85 (by decide)) (fun i hi => by rw [mF, aF.2 i (by omega)]) (by rw [mF])
  exact ⟨o', q', kw', mi', HI_mono hn hh', NOW_rows hN (fun j h1 h2 => by rw [mR j (by omega), acts_ne (by omega)]) (by rw [mF, aF.2 1 (by decide)])⟩
/-- a change that leaves the walkers as they are -/
theorem REL_cells {n : Nat} {z d t tm w p bw b a bk bp bb N s z' d' t' tm' N' s' : Nat → Int32} {kw mi mi' : Nat} (h : REL n z d t tm w p bw b a bk bp bb N s kw mi)
    (hn : rNum N' s' kw mi') (hc : ∀ c, c < 24 → cel1 mi' z' d' t' tm' s' c) (hs : ∀ x, 102 ≤ x → s' x = s x) (h3 : s' 3 = s 3) (h4 : s' 4 = s 4) (h5 : s' 5 = s 5) : REL n z' d' t' tm' w p bw b a bk bp bb N' s' kw mi' := by
  obtain ⟨-, -, hw, hb, ho, hp, ht⟩ := h
  refine ⟨hn, hc, fun k hk => ?_, fun k hk => ?_, ho, hp, ?_⟩
  · unfold wlk1
    rw [hs _ (by omega), hs _ (by omega), hs _ (by omega), hs _ (by omega)]
    exact hw k hk
  · unfold bil1
    rw [hs _ (by omega), hs _ (by omega), hs _ (by omega), hs _ (by omega), hs _ (by omega), hs _ (by omega)]
    exact hb k hk
  · unfold tots
    rw [h3, h4, h5]
    exact ht
theorem rNum_s {N N' s s' : Nat → Int32} {kw mi : Nat} (h : rNum N s kw mi) (hN : N' = N) (h0 : s' 0 = s 0) (h1 : s' 1 = s 1) (h2 : s' 2 = s 2) : rNum N' s' kw mi := by
  subst hN
  unfold rNum
  rw [h0, h1, h2]
  exact h
theorem cel1_s {mi : Nat} {z d t tm z' d' t' tm' s s' : Nat → Int32} {c : Nat} (h : cel1 mi z d t tm s c) (hz : z' c = z c) (hd : d' c = d c) (ht : t' c = t c) (htm : tm' c = tm c) (hs : ∀ j, j < 4 → s' (6 + 4 * c + j) = s (6 + 4 * c + j)) : cel1 mi z' d' t' tm' s' c := by
  unfold cel1
  rw [hz, hd, ht, htm, hs 0 (by decide), hs 1 (by decide), hs 2 (by decide), hs 3 (by decide)]
  exact h
theorem in_of {p a b : Int32} (h : ¬ xX2_in p a b = 0) : a.toInt ≤ p.toInt ∧ p.toInt ≤ b.toInt := by
  unfold xX2_in at h
  by_cases h1 : p < a
  · rw [if_pos h1] at h; exact absurd rfl h
  · rw [if_neg h1] at h
    by_cases h2 : b < p
    · rw [if_pos h2] at h; exact absurd rfl h
    · exact ⟨i_nlt h1, i_nlt h2⟩
theorem NOW_cells {n : Nat} {R F R' F' : Nat → Nat → Int32} {s s' : Nat → Int32} {kw mi mi' : Nat} (h : NOW n R F s kw mi) (hR : ∀ j, 6 ≤ j → j ≤ 13 → R' j = R j)
    (hn : rNum (F' 1) s' kw mi') (hc : ∀ c, c < 24 → cel1 mi' (R' 2) (R' 3) (R' 4) (R' 5) s' c) (hs : ∀ x, 102 ≤ x ∨ x = 3 ∨ x = 4 ∨ x = 5 → s' x = s x) : NOW n R' F' s' kw mi' := by
  unfold NOW
  rw [hR 6 (by decide) (by decide), hR 7 (by decide) (by decide), hR 8 (by decide) (by decide), hR 9 (by decide) (by decide), hR 10 (by decide) (by decide), hR 11 (by decide) (by decide), hR 12 (by decide) (by decide), hR 13 (by decide) (by decide)]
  exact REL_cells h hn hc (fun x hx => hs x (by omega)) (hs 3 (by decide)) (hs 4 (by decide)) (hs 5 (by decide))
section
variable {n : Nat} {R F : Nat → Nat → Int32} {o q kw mi : Nat}
theorem INV_mk (hh : HI n R F o q) (hr : NOW n R F (R 84) kw mi) : INV n R F := ⟨o, q, kw, mi, hh, hr⟩
theorem act_setDrift (hh : HI n R F o q) (hr : NOW n R F (R 84) kw mi) (p1 p2 : Int32) : ACT n R F (xX1_setDrift R F p1 p2 o q) (fun R1 F1 => xX2_setDrift R1 F1 p1 p2 q) := by
  obtain ⟨hC, hG, hG8⟩ := remF hh
  unfold xX1_setDrift
  rw [isC, isIn]
  by_cases hc : xX2_isCell p1 = 0
  · rw [if_pos hc]
    exact ACT_mk (by show xX2_setDrift _ _ p1 p2 q = _; unfold xX2_setDrift; rw [if_pos hc]) rfl rfl rfl (INV_mk hh hr)
  rw [if_neg hc]
  by_cases hd : xX2_in p2 (-3) 3 = 0
  · rw [if_pos hd]
    exact ACT_mk (by show xX2_setDrift _ _ p1 p2 q = _; unfold xX2_setDrift; rw [if_neg hc, if_pos hd]) rfl rfl rfl (INV_mk hh hr)
  rw [if_neg hd]
  obtain ⟨e, hlt⟩ := cell_of hc
  have e84 : ∀ v, sR (xX1_remember R F o q).1 3 p1.toNatClampNeg v 84 = R 84 := fun v => by rw [sR_ne (by decide), hC 84 (by decide)]
  refine ACT_mk (by show xX2_setDrift _ _ p1 p2 q = _; unfold xX2_setDrift; rw [if_neg hc, if_neg hd]) (e84 _) hG8 ?_ ?_
  · unfold xX2_of
    rw [acts_ne (by decide), e84, hC 3 (by decide)]
    exact (hr.2.1 _ hlt).2.1.symm
  · refine INV_act hh hr (Nat.le_refl _) (fun i h1 h2 => sR_ne (by omega) _ _) (e84 _) (by rw [sR_ne (by decide), hC 85 (by decide)]) (fun y hy => rfl) (fun i hi => sR_ne hi _ _) rfl ?_ (kw' := kw) (mi' := mi)
    have hs : ∀ x, x ≠ 6 + 4 * p1.toNatClampNeg + 1 → sR (xX2_acts (sR (xX1_remember R F o q).1 3 p1.toNatClampNeg p2) (xX1_remember R F o q).2 q).1 84 (6 + 4 * p1.toNatClampNeg + 1) p2 84 x = R 84 x := fun x hx => by rw [sR_same_ne hx, acts_ne (by decide), e84]
    refine NOW_cells hr (fun j h1 h2 => by rw [sR_ne (by omega), hC j (by omega)]) (rNum_s hr.1 hG (hs 0 (by omega)) (hs 1 (by omega)) (hs 2 (by omega))) (fun c hcc => ?_) (fun x hx => hs x (by omega))
    rw [sR_ne (show (2 : Nat) ≠ 3 by decide), sR_ne (show (4 : Nat) ≠ 3 by decide), sR_ne (show (5 : Nat) ≠ 3 by decide), hC 2 (by decide), hC 4 (by decide), hC 5 (by decide)]
    by_cases hx : c = p1.toNatClampNeg
    · obtain ⟨a1, a2, a3, a4, a5, a6⟩ := hr.2.1 c hcc
      subst hx
      exact ⟨(hs _ (by omega)).trans a1, by rw [sR_same, sR_same], (hs _ (by omega)).trans a3, (hs _ (by omega)).trans a4, by rw [sR_same]; exact in_of hd, a6⟩
    · exact cel1_s (hr.2.1 c hcc) rfl (by rw [sR_same_ne hx, hC 3 (by decide)]) rfl rfl (fun j hj => hs _ (by omega))
theorem act_setPrice (hh : HI n R F o q) (hr : NOW n R F (R 84) kw mi) (p1 : Int32) : ACT n R F (xX1_setPrice R F p1 o q) (fun R1 F1 => xX2_setPrice R1 F1 p1 q) := by
  obtain ⟨hC, hG, hG8⟩ := remF hh
  unfold xX1_setPrice
  rw [isIn]
  by_cases hc : xX2_in p1 0 100 = 0
  · rw [if_pos hc]
    exact ACT_mk (by show xX2_setPrice _ _ p1 q = _; unfold xX2_setPrice; rw [if_pos hc]) rfl rfl rfl (INV_mk hh hr)
  rw [if_neg hc]
  have e84 := hC 84 (by decide)
  refine ACT_mk (by show xX2_setPrice _ _ p1 q = _; unfold xX2_setPrice; rw [if_neg hc]) e84 (by rw [sR_ne (by decide)]; exact hG8) ?_ ?_
  · rw [acts_ne (by decide), e84, hG]
    exact hr.1.2.2.2.2.2.2.symm
  · refine INV_act hh hr (Nat.le_refl _) (fun i h1 h2 => rfl) e84 (hC 85 (by decide)) (fun y hy => sR_ne hy _ _) (fun i hi => sR_ne hi _ _) rfl ?_ (kw' := kw) (mi' := mi)
    have hs : ∀ x, x ≠ 2 → sR (xX2_acts (xX1_remember R F o q).1 (sR (xX1_remember R F o q).2 1 1 p1) q).1 84 2 p1 84 x = R 84 x := fun x hx => by rw [sR_same_ne hx, acts_ne (by decide), e84]
    obtain ⟨n1, n2, n3, n4, n5, n6, n7⟩ := hr.1
    refine NOW_cells hr (fun j h1 h2 => hC j (by omega)) ⟨n1, n2, ?_, ?_, ?_, ?_, ?_⟩ (fun c hcc => ?_) (fun x hx => hs x (by omega))
    · rw [sR_same_ne (by decide), hG]; exact n3
    · rw [hs 1 (by decide)]; exact n4
    · rw [sR_same_ne (by decide), hG]; exact n5
    · rw [hs 0 (by decide)]; exact n6
    · rw [sR_same, sR_same]
    · rw [hC 2 (by decide), hC 3 (by decide), hC 4 (by decide), hC 5 (by decide)]
      exact cel1_s (hr.2.1 c hcc) rfl rfl rfl rfl (fun j hj => hs _ (by omega))
end
