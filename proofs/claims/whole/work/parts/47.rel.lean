/-! PURE: copies of states; the relation of the class and the model -/
theorem cf_1 {R F : Nat → Nat → Int32} {i0 i1 x : Nat} (h : i0 + 12 < i1 + 1 ∨ i1 + 12 < i0 + 1) (hx : x < 24) : (xX0_copyFrom R F i0 i1).1 (i0 + 1) x = R (i1 + 1) x := by
  unfold xX0_copyFrom
  dsimp only
  rw [copyRow_ne (by omega), copyRow_ne (by omega), copyRow_ne (by omega), copyRow_ne (by omega), copyRow_ne (by omega), copyRow_ne (by omega), copyRow_ne (by omega), copyRow_ne (by omega), copyRow_ne (by omega), copyRow_ne (by omega), copyRow_ne (by omega), copyRow_at hx]
theorem cf_2 {R F : Nat → Nat → Int32} {i0 i1 x : Nat} (h : i0 + 12 < i1 + 1 ∨ i1 + 12 < i0 + 1) (hx : x < 24) : (xX0_copyFrom R F i0 i1).1 (i0 + 2) x = R (i1 + 2) x := by
  unfold xX0_copyFrom
  dsimp only
  rw [copyRow_ne (by omega), copyRow_ne (by omega), copyRow_ne (by omega), copyRow_ne (by omega), copyRow_ne (by omega), copyRow_ne (by omega), copyRow_ne (by omega), copyRow_ne (by omega), copyRow_ne (by omega), copyRow_ne (by omega), copyRow_at hx, copyRow_ne (by omega)]
theorem cf_3 {R F : Nat → Nat → Int32} {i0 i1 x : Nat} (h : i0 + 12 < i1 + 1 ∨ i1 + 12 < i0 + 1) (hx : x < 24) : (xX0_copyFrom R F i0 i1).1 (i0 + 3) x = R (i1 + 3) x := by
  unfold xX0_copyFrom
  dsimp only
  rw [copyRow_ne (by omega), copyRow_ne (by omega), copyRow_ne (by omega), copyRow_ne (by omega), copyRow_ne (by omega), copyRow_ne (by omega), copyRow_ne (by omega), copyRow_ne (by omega), copyRow_ne (by omega), copyRow_at hx, copyRow_ne (by omega), copyRow_ne (by omega)]
theorem cf_4 {R F : Nat → Nat → Int32} {i0 i1 x : Nat} (h : i0 + 12 < i1 + 1 ∨ i1 + 12 < i0 + 1) (hx : x < 24) : (xX0_copyFrom R F i0 i1).1 (i0 + 4) x = R (i1 + 4) x := by
  unfold xX0_copyFrom
  dsimp only
  rw [copyRow_ne (by omega), copyRow_ne (by omega), copyRow_ne (by omega), copyRow_ne (by omega), copyRow_ne (by omega), copyRow_ne (by omega), copyRow_ne (by omega), copyRow_ne (by omega), copyRow_at hx, copyRow_ne (by omega), copyRow_ne (by omega), copyRow_ne (by omega)]
theorem cf_5 {R F : Nat → Nat → Int32} {i0 i1 x : Nat} (h : i0 + 12 < i1 + 1 ∨ i1 + 12 < i0 + 1) (hx : x < 8) : (xX0_copyFrom R F i0 i1).1 (i0 + 5) x = R (i1 + 5) x := by
  unfold xX0_copyFrom
  dsimp only
  rw [copyRow_ne (by omega), copyRow_ne (by omega), copyRow_ne (by omega), copyRow_ne (by omega), copyRow_ne (by omega), copyRow_ne (by omega), copyRow_ne (by omega), copyRow_at hx, copyRow_ne (by omega), copyRow_ne (by omega), copyRow_ne (by omega), copyRow_ne (by omega)]
theorem cf_6 {R F : Nat → Nat → Int32} {i0 i1 x : Nat} (h : i0 + 12 < i1 + 1 ∨ i1 + 12 < i0 + 1) (hx : x < 8) : (xX0_copyFrom R F i0 i1).1 (i0 + 6) x = R (i1 + 6) x := by
  unfold xX0_copyFrom
  dsimp only
  rw [copyRow_ne (by omega), copyRow_ne (by omega), copyRow_ne (by omega), copyRow_ne (by omega), copyRow_ne (by omega), copyRow_ne (by omega), copyRow_at hx, copyRow_ne (by omega), copyRow_ne (by omega), copyRow_ne (by omega), copyRow_ne (by omega), copyRow_ne (by omega)]
theorem cf_7 {R F : Nat → Nat → Int32} {i0 i1 x : Nat} (h : i0 + 12 < i1 + 1 ∨ i1 + 12 < i0 + 1) (hx : x < 8) : (xX0_copyFrom R F i0 i1).1 (i0 + 7) x = R (i1 + 7) x := by
  unfold xX0_copyFrom
  dsimp only
  rw [copyRow_ne (by omega), copyRow_ne (by omega), copyRow_ne (by omega), copyRow_ne (by omega), copyRow_ne (by omega), copyRow_at hx, copyRow_ne (by omega), copyRow_ne (by omega), copyRow_ne (by omega), copyRow_ne (by omega), copyRow_ne (by omega), copyRow_ne (by omega)]
theorem cf_8' {R F : Nat → Nat → Int32} {i0 i1 x : Nat} (h : i0 + 12 < i1 + 1 ∨ i1 + 12 < i0 + 1) (hx : x < 8) : (xX0_copyFrom R F i0 i1).1 (i0 + 8) x = R (i1 + 8) x := by
  unfold xX0_copyFrom
  dsimp only
  rw [copyRow_ne (by omega), copyRow_ne (by omega), copyRow_ne (by omega), copyRow_ne (by omega), copyRow_at hx, copyRow_ne (by omega), copyRow_ne (by omega), copyRow_ne (by omega), copyRow_ne (by omega), copyRow_ne (by omega), copyRow_ne (by omega), copyRow_ne (by omega)]
theorem cf_9 {R F : Nat → Nat → Int32} {i0 i1 x : Nat} (h : i0 + 12 < i1 + 1 ∨ i1 + 12 < i0 + 1) (hx : x < 8) : (xX0_copyFrom R F i0 i1).1 (i0 + 9) x = R (i1 + 9) x := by
  unfold xX0_copyFrom
  dsimp only
  rw [copyRow_ne (by omega), copyRow_ne (by omega), copyRow_ne (by omega), copyRow_at hx, copyRow_ne (by omega), copyRow_ne (by omega), copyRow_ne (by omega), copyRow_ne (by omega), copyRow_ne (by omega), copyRow_ne (by omega), copyRow_ne (by omega), copyRow_ne (by omega)]
theorem cf_10 {R F : Nat → Nat → Int32} {i0 i1 x : Nat} (h : i0 + 12 < i1 + 1 ∨ i1 + 12 < i0 + 1) (hx : x < 8) : (xX0_copyFrom R F i0 i1).1 (i0 + 10) x = R (i1 + 10) x := by
  unfold xX0_copyFrom
  dsimp only
  rw [copyRow_ne (by omega), copyRow_ne (by omega), copyRow_at hx, copyRow_ne (by omega), copyRow_ne (by omega), copyRow_ne (by omega), copyRow_ne (by omega), copyRow_ne (by omega), copyRow_ne (by omega), copyRow_ne (by omega), copyRow_ne (by omega), copyRow_ne (by omega)]
theorem cf_11 {R F : Nat → Nat → Int32} {i0 i1 x : Nat} (h : i0 + 12 < i1 + 1 ∨ i1 + 12 < i0 + 1) (hx : x < 8) : (xX0_copyFrom R F i0 i1).1 (i0 + 11) x = R (i1 + 11) x := by
  unfold xX0_copyFrom
  dsimp only
  rw [copyRow_ne (by omega), copyRow_at hx, copyRow_ne (by omega), copyRow_ne (by omega), copyRow_ne (by omega), copyRow_ne (by omega), copyRow_ne (by omega), copyRow_ne (by omega), copyRow_ne (by omega), copyRow_ne (by omega), copyRow_ne (by omega), copyRow_ne (by omega)]
theorem cf_12 {R F : Nat → Nat → Int32} {i0 i1 x : Nat} (h : i0 + 12 < i1 + 1 ∨ i1 + 12 < i0 + 1) (hx : x < 8) : (xX0_copyFrom R F i0 i1).1 (i0 + 12) x = R (i1 + 12) x := by
  unfold xX0_copyFrom
  dsimp only
  rw [copyRow_at hx, copyRow_ne (by omega), copyRow_ne (by omega), copyRow_ne (by omega), copyRow_ne (by omega), copyRow_ne (by omega), copyRow_ne (by omega), copyRow_ne (by omega), copyRow_ne (by omega), copyRow_ne (by omega), copyRow_ne (by omega), copyRow_ne (by omega)]
theorem cf_ne {R F : Nat → Nat → Int32} {i0 i1 y : Nat} (h : y < i0 + 1 ∨ i0 + 12 < y) : (xX0_copyFrom R F i0 i1).1 y = R y := by
  unfold xX0_copyFrom
  dsimp only
  rw [copyRow_ne (by omega), copyRow_ne (by omega), copyRow_ne (by omega), copyRow_ne (by omega), copyRow_ne (by omega), copyRow_ne (by omega), copyRow_ne (by omega), copyRow_ne (by omega), copyRow_ne (by omega), copyRow_ne (by omega), copyRow_ne (by omega), copyRow_ne (by omega)]
theorem cf_F {R F : Nat → Nat → Int32} {i0 i1 k : Nat} (h : i0 ≠ i1) (hk : k < 3) : (xX0_copyFrom R F i0 i1).2 i0 k = F i1 k := by
  unfold xX0_copyFrom
  dsimp only
  rcases (by omega : k = 0 ∨ k = 1 ∨ k = 2) with rfl | rfl | rfl
  · rw [sR_same_ne (by decide), sR_same_ne (by decide), sR_same]
  · rw [sR_same_ne (by decide), sR_same, sR_ne (Ne.symm h)]
  · rw [sR_same, sR_ne (Ne.symm h), sR_ne (Ne.symm h)]
theorem cf_Fne {R F : Nat → Nat → Int32} {i0 i1 y : Nat} (h : y ≠ i0) : (xX0_copyFrom R F i0 i1).2 y = F y := by
  unfold xX0_copyFrom
  dsimp only
  rw [sR_ne h, sR_ne h, sR_ne h]
def oz (x : Int32) : Int32 := xX1_orZero x
def rNum (N s : Nat → Int32) (kw mi : Nat) : Prop := kw ≤ 8 ∧ mi ≤ 2000 ∧ N 2 = nI kw ∧ s 1 = nI kw ∧ N 0 = nI mi ∧ s 0 = nI mi ∧ s 2 = N 1
def cel1 (mi : Nat) (z d t tm s : Nat → Int32) (c : Nat) : Prop := s (6 + 4 * c + 0) = z c ∧ s (6 + 4 * c + 1) = d c ∧ s (6 + 4 * c + 2) = t c ∧ s (6 + 4 * c + 3) = tm c ∧ (-3 ≤ (d c).toInt ∧ (d c).toInt ≤ 3) ∧
  ∃ m : Nat, m ≤ mi ∧ tm c = nI m ∧ (-(3 * (mi : Int)) ≤ (z c).toInt ∧ (z c).toInt ≤ 3 * (mi : Int)) ∧ (-(3 * ((mi : Int) - m)) ≤ (z c).toInt - (t c).toInt ∧ (z c).toInt - (t c).toInt ≤ 3 * ((mi : Int) - m))
/-- who is in the model's row: weight, place, book place, book weight; then accusations and bills -/
def wlk1 (w p bw b s : Nat → Int32) (k : Nat) : Prop := s (102 + 10 * k + 0) = w k ∧ (20 ≤ (w k).toInt ∧ (w k).toInt ≤ 150) ∧ s (102 + 10 * k + 1) = p k ∧ s (102 + 10 * k + 2) = (if p k = -100009 then -100009 else bw k) ∧ s (102 + 10 * k + 3) = b k ∧ (p k = -100009 ↔ b k = -100009) ∧ (¬ p k = -100009 → ∃ c, c < 24 ∧ p k = nI c) ∧ (¬ b k = -100009 → ∃ c, c < 24 ∧ b k = nI c) ∧ (20 ≤ (bw k).toInt ∧ (bw k).toInt ≤ 1500)
def bil1 (n : Nat) (a bk bp bb s : Nat → Int32) (k : Nat) : Prop := s (102 + 10 * k + 4) = a k ∧ (∃ m, m ≤ n ∧ a k = nI m) ∧ s (102 + 10 * k + 5) = bk k ∧ s (102 + 10 * k + 6) = oz (bk k) * bp k ∧ s (102 + 10 * k + 7) = oz (bb k) * bp k ∧ (¬ bk k = -100009 → s (102 + 10 * k + 8) = bp k) ∧ (s (102 + 10 * k + 9) = 1 ↔ ¬ bb k = -100009) ∧ (bk k = -100009 ∨ 0 ≤ (bk k).toInt ∧ (bk k).toInt ≤ 1500) ∧ (bb k = -100009 ∨ 0 ≤ (bb k).toInt ∧ (bb k).toInt ≤ 1500) ∧ (¬ bb k = -100009 → ¬ bk k = -100009)
def wOut (p b a bk bb : Nat → Int32) (k : Nat) : Prop := p k = -100009 ∧ b k = -100009 ∧ a k = 0 ∧ bk k = -100009 ∧ bb k = -100009
def prm (p b : Nat → Int32) : Prop := (∀ i j, i < 8 → j < 8 → ¬ p i = -100009 → p i = p j → i = j) ∧ (∀ i j, i < 8 → j < 8 → ¬ b i = -100009 → b i = b j → i = j) ∧ (∀ i, i < 8 → ¬ p i = -100009 → ∃ j, j < 8 ∧ b j = p i) ∧ (∀ j, j < 8 → ¬ b j = -100009 → ∃ i, i < 8 ∧ p i = b j)
def tots (bk bp bb s : Nat → Int32) : Prop := s 3 = sT (fun k => oz (bk k) - oz (bb k)) 8 0 ∧ s 4 = sT (fun k => oz (bk k) * bp k) 8 0 ∧ s 5 = sT (fun k => oz (bb k) * bp k) 8 0
def REL (n : Nat) (z d t tm w p bw b a bk bp bb N s : Nat → Int32) (kw mi : Nat) : Prop := rNum N s kw mi ∧ (∀ c, c < 24 → cel1 mi z d t tm s c) ∧ (∀ k, k < kw → wlk1 w p bw b s k) ∧ (∀ k, k < kw → bil1 n a bk bp bb s k) ∧ (∀ k, kw ≤ k → k < 8 → wOut p b a bk bb k) ∧ prm p b ∧ tots bk bp bb s
def SREL (n : Nat) (R F : Nat → Nat → Int32) (i : Nat) (s : Nat → Int32) (kw mi : Nat) : Prop := REL n (R (i + 1)) (R (i + 2)) (R (i + 3)) (R (i + 4)) (R (i + 5)) (R (i + 6)) (R (i + 7)) (R (i + 8)) (R (i + 9)) (R (i + 10)) (R (i + 11)) (R (i + 12)) (F i) s kw mi
theorem REL_mono {n m : Nat} (hnm : n ≤ m) {z d t tm w p bw b a bk bp bb N s : Nat → Int32} {kw mi : Nat} (h : REL n z d t tm w p bw b a bk bp bb N s kw mi) : REL m z d t tm w p bw b a bk bp bb N s kw mi := by
  obtain ⟨h1, h2, h3, h4, h5, h6, h7⟩ := h
  refine ⟨h1, h2, h3, fun k hk => ?_, h5, h6, h7⟩
  obtain ⟨a1, ⟨x, a2, a3⟩, a4⟩ := h4 k hk
  exact ⟨a1, ⟨x, by omega, a3⟩, a4⟩
theorem REL_congr {n : Nat} {z d t tm w p bw b a bk bp bb N s z' d' t' tm' w' p' bw' b' a' bk' bp' bb' N' s' : Nat → Int32} {kw mi : Nat} (h : REL n z d t tm w p bw b a bk bp bb N s kw mi)
    (hz : ∀ c, c < 24 → z' c = z c) (hd : ∀ c, c < 24 → d' c = d c) (ht : ∀ c, c < 24 → t' c = t c) (htm : ∀ c, c < 24 → tm' c = tm c) (hw : ∀ c, c < 8 → w' c = w c) (hp : ∀ c, c < 8 → p' c = p c) (hbw : ∀ c, c < 8 → bw' c = bw c) (hb : ∀ c, c < 8 → b' c = b c) (ha : ∀ c, c < 8 → a' c = a c) (hbk : ∀ c, c < 8 → bk' c = bk c) (hbp : ∀ c, c < 8 → bp' c = bp c) (hbb : ∀ c, c < 8 → bb' c = bb c) (hN : ∀ c, c < 3 → N' c = N c) (hs : ∀ c, c < 182 → s' c = s c) :
    REL n z' d' t' tm' w' p' bw' b' a' bk' bp' bb' N' s' kw mi := by
  obtain ⟨⟨h1, h2, h3, h4, h5, h6, h7⟩, hc, hwk, hbl, ho, hpm, ⟨t1, t2, t3⟩⟩ := h
  refine ⟨⟨h1, h2, ?_, ?_, ?_, ?_, ?_⟩, fun c hcc => ?_, fun k hk => ?_, fun k hk => ?_, fun k hk1 hk2 => ?_, ⟨?_, ?_, ?_, ?_⟩, ⟨?_, ?_, ?_⟩⟩
  · rw [hN 2 (by decide)]; exact h3
  · rw [hs 1 (by decide)]; exact h4
  · rw [hN 0 (by decide)]; exact h5
  · rw [hs 0 (by decide)]; exact h6
  · rw [hs 2 (by decide), hN 1 (by decide)]; exact h7
  · unfold cel1
    rw [hs _ (by omega), hs _ (by omega), hs _ (by omega), hs _ (by omega), hz c hcc, hd c hcc, ht c hcc, htm c hcc]
    exact hc c hcc
  · unfold wlk1
    have h8 : k < 8 := by omega
    rw [hs _ (by omega), hs _ (by omega), hs _ (by omega), hs _ (by omega), hw k h8, hp k h8, hbw k h8, hb k h8]
    exact hwk k hk
  · unfold bil1
    have h8 : k < 8 := by omega
    rw [hs _ (by omega), hs _ (by omega), hs _ (by omega), hs _ (by omega), hs _ (by omega), hs _ (by omega), ha k h8, hbk k h8, hbp k h8, hbb k h8]
    exact hbl k hk
  · unfold wOut
    rw [hp k hk2, hb k hk2, ha k hk2, hbk k hk2, hbb k hk2]
    exact ho k hk1 hk2
  · intro i j hi hj; rw [hp i hi, hp j hj]; exact hpm.1 i j hi hj
  · intro i j hi hj; rw [hb i hi, hb j hj]; exact hpm.2.1 i j hi hj
  · intro i hi hne
    rw [hp i hi] at hne ⊢
    obtain ⟨j, hj, e⟩ := hpm.2.2.1 i hi hne
    exact ⟨j, hj, by rw [hb j hj]; exact e⟩
  · intro i hi hne
    rw [hb i hi] at hne ⊢
    obtain ⟨j, hj, e⟩ := hpm.2.2.2 i hi hne
    exact ⟨j, hj, by rw [hp j hj]; exact e⟩
  · rw [hs 3 (by decide), t1]; exact sT_congr 8 0 (fun j _ hj => by show oz (bk j) - oz (bb j) = oz (bk' j) - oz (bb' j); rw [hbk j (by omega), hbb j (by omega)])
  · rw [hs 4 (by decide), t2]; exact sT_congr 8 0 (fun j _ hj => by show oz (bk j) * bp j = oz (bk' j) * bp' j; rw [hbk j (by omega), hbp j (by omega)])
  · rw [hs 5 (by decide), t3]; exact sT_congr 8 0 (fun j _ hj => by show oz (bb j) * bp j = oz (bb' j) * bp' j; rw [hbb j (by omega), hbp j (by omega)])
/-- a state as a copy of another -/
theorem SREL_copy {n : Nat} {R F R' F' : Nat → Nat → Int32} {i i' : Nat} {s s' : Nat → Int32} {kw mi : Nat} (h : SREL n R F i s kw mi) (h24 : ∀ j, 1 ≤ j → j ≤ 4 → ∀ c, c < 24 → R' (i' + j) c = R (i + j) c) (h8 : ∀ j, 5 ≤ j → j ≤ 12 → ∀ c, c < 8 → R' (i' + j) c = R (i + j) c) (hF : ∀ k, k < 3 → F' i' k = F i k) (hs : ∀ c, c < 182 → s' c = s c) : SREL n R' F' i' s' kw mi :=
  REL_congr h (h24 1 (by decide) (by decide)) (h24 2 (by decide) (by decide)) (h24 3 (by decide) (by decide)) (h24 4 (by decide) (by decide)) (h8 5 (by decide) (by decide)) (h8 6 (by decide) (by decide)) (h8 7 (by decide) (by decide)) (h8 8 (by decide) (by decide)) (h8 9 (by decide) (by decide)) (h8 10 (by decide) (by decide)) (h8 11 (by decide) (by decide)) (h8 12 (by decide) (by decide)) hF hs
theorem cf_24 {R F : Nat → Nat → Int32} {i0 i1 : Nat} (h : i0 + 12 < i1 + 1 ∨ i1 + 12 < i0 + 1) : ∀ j, 1 ≤ j → j ≤ 4 → ∀ c, c < 24 → (xX0_copyFrom R F i0 i1).1 (i0 + j) c = R (i1 + j) c := by
  intro j h1 h2 c hc
  rcases (by omega : j = 1 ∨ j = 2 ∨ j = 3 ∨ j = 4) with rfl | rfl | rfl | rfl
  · exact cf_1 h hc
  · exact cf_2 h hc
  · exact cf_3 h hc
  · exact cf_4 h hc
theorem cf_8 {R F : Nat → Nat → Int32} {i0 i1 : Nat} (h : i0 + 12 < i1 + 1 ∨ i1 + 12 < i0 + 1) : ∀ j, 5 ≤ j → j ≤ 12 → ∀ c, c < 8 → (xX0_copyFrom R F i0 i1).1 (i0 + j) c = R (i1 + j) c := by
  intro j h1 h2 c hc
  rcases (by omega : j = 5 ∨ j = 6 ∨ j = 7 ∨ j = 8 ∨ j = 9 ∨ j = 10 ∨ j = 11 ∨ j = 12) with rfl | rfl | rfl | rfl | rfl | rfl | rfl | rfl
  · exact cf_5 h hc
  · exact cf_6 h hc
  · exact cf_7 h hc
  · exact cf_8' h hc
  · exact cf_9 h hc
  · exact cf_10 h hc
  · exact cf_11 h hc
  · exact cf_12 h hc
/-- the history: what the class keeps and what the model keeps -/
def HI (n : Nat) (R F : Nat → Nat → Int32) (o q : Nat) : Prop := o < 5 ∧ q ≤ 5 ∧ F 0 0 = nI o ∧ F 0 1 = nI q ∧ F 83 0 = nI q ∧ ∀ j, j < q → ∃ kw mi, SREL n R F (18 + 13 * ((o + j) % 5)) (fun x => R 85 (182 * j + x)) kw mi
theorem HI_congr {n : Nat} {R F R' F' : Nat → Nat → Int32} {o q : Nat} (h : HI n R F o q) (h1 : ∀ i, 18 ≤ i → i < 83 → R' i = R i) (h2 : R' 85 = R 85) (h3 : F' 0 = F 0) (h4 : F' 83 0 = F 83 0) (h5 : ∀ k, k < 5 → F' (18 + 13 * k) = F (18 + 13 * k)) : HI n R' F' o q := by
  obtain ⟨a1, a2, a3, a4, a5, a6⟩ := h
  refine ⟨a1, a2, by rw [h3]; exact a3, by rw [h3]; exact a4, by rw [h4]; exact a5, fun j hj => ?_⟩
  obtain ⟨kw, mi, hr⟩ := a6 j hj
  have hk : (o + j) % 5 < 5 := Nat.mod_lt _ (by decide)
  exact ⟨kw, mi, SREL_copy hr (fun x hx1 hx2 c _ => by rw [h1 _ (by omega) (by omega)]) (fun x hx1 hx2 c _ => by rw [h1 _ (by omega) (by omega)]) (fun x _ => by rw [h5 _ hk]) (fun c _ => by rw [h2])⟩
theorem HI_mono {n m : Nat} (hnm : n ≤ m) {R F : Nat → Nat → Int32} {o q : Nat} (h : HI n R F o q) : HI m R F o q := by
  obtain ⟨a1, a2, a3, a4, a5, a6⟩ := h
  refine ⟨a1, a2, a3, a4, a5, fun j hj => ?_⟩
  obtain ⟨kw, mi, hr⟩ := a6 j hj
  exact ⟨kw, mi, REL_mono hnm hr⟩
/-- the model's kept rows behind acts -/
theorem acts_row2 {R F : Nat → Nat → Int32} {q : Nat} : ∀ (n k : Nat) (R1 : Nat → Nat → Int32) (x : Nat), (hX2_acts_51 R F q n k R1).1 85 x = if 182 * q + k ≤ x ∧ x < 182 * q + (k + n) then R1 84 (x - 182 * q) else R1 85 x := by
  intro n
  induction n with
  | zero => intro k R1 x; rw [if_neg (by omega)]; rfl
  | succ n ih =>
    intro k R1 x
    rw [hX2_acts_51_s, ih, sR_ne (by decide)]
    by_cases hx : x = 182 * q + k
    · subst hx
      rw [if_neg (by omega), if_pos (by omega), sR_same]
      exact congrArg (R1 84) (by omega)
    · rw [sR_same_ne hx]
      by_cases h1 : 182 * q + (k + 1) ≤ x ∧ x < 182 * q + (k + 1 + n)
      · rw [if_pos h1, if_pos (by omega)]
      · rw [if_neg h1, if_neg (by omega)]
theorem acts_row3 {R F : Nat → Nat → Int32} {q k0 : Nat} {R0 : Nat → Nat → Int32} : ∀ (n k : Nat) (R1 : Nat → Nat → Int32) (x : Nat), (hX2_acts_51b R F q k0 R0 n k R1).1 85 x = if 728 + k ≤ x ∧ x < 728 + (k + n) then R1 84 (x - 728) else R1 85 x := by
  intro n
  induction n with
  | zero => intro k R1 x; rw [if_neg (by omega)]; rfl
  | succ n ih =>
    intro k R1 x
    rw [hX2_acts_51b_s, ih, sR_ne (by decide)]
    by_cases hx : x = 728 + k
    · subst hx
      rw [if_neg (by omega), if_pos (by omega), show 182 * 4 + k = 728 + k by omega, sR_same]
      exact congrArg (R1 84) (by omega)
    · rw [sR_same_ne (by omega)]
      by_cases h1 : 728 + (k + 1) ≤ x ∧ x < 728 + (k + 1 + n)
      · rw [if_pos h1, if_pos (by omega)]
      · rw [if_neg h1, if_neg (by omega)]
theorem acts_row1 {R F : Nat → Nat → Int32} {q : Nat} : ∀ (n k : Nat) (R1 : Nat → Nat → Int32) (x : Nat), k + n = 728 → (hX2_acts_10 R F q n k R1).1 85 x = if 728 ≤ x ∧ x < 910 then R1 84 (x - 728) else if k ≤ x ∧ x < 728 then R1 85 (x + 182) else R1 85 x := by
  intro n
  induction n with
  | zero =>
    intro k R1 x hk
    rw [hX2_acts_10_z, acts_row3]
    by_cases h1 : 728 ≤ x ∧ x < 910
    · rw [if_pos (by omega), if_pos h1]
    · rw [if_neg (by omega), if_neg h1, if_neg (by omega)]
  | succ n ih =>
    intro k R1 x hk
    rw [hX2_acts_10_s, ih _ _ _ (by omega), sR_ne (by decide)]
    by_cases h1 : 728 ≤ x ∧ x < 910
    · rw [if_pos h1, if_pos h1]
    · rw [if_neg h1, if_neg h1]
      by_cases h2 : k + 1 ≤ x ∧ x < 728
      · rw [if_pos h2, if_pos (by omega), sR_same_ne (by omega)]
      · rw [if_neg h2]
        by_cases h3 : x = k
        · subst h3
          rw [if_pos (by omega), sR_same]
        · rw [if_neg (by omega), sR_same_ne h3]
theorem acts_F {R F : Nat → Nat → Int32} {q : Nat} (hq : q ≤ 5) (hF : F 83 0 = nI q) : (xX2_acts R F q).2 83 0 = nI (min 5 (q + 1)) ∧ ∀ y, y ≠ 83 → (xX2_acts R F q).2 y = F y := by
  have l2 : ∀ (n k : Nat) (R1 : Nat → Nat → Int32), (hX2_acts_51 R F q n k R1).2 = sR F 83 0 (nI (q + 1)) := by
    intro n
    induction n with
    | zero => intro k R1; rfl
    | succ n ih => intro k R1; rw [hX2_acts_51_s, ih]
  have l3 : ∀ (k0 : Nat) (R0 : Nat → Nat → Int32) (n k : Nat) (R1 : Nat → Nat → Int32), (hX2_acts_51b R F q k0 R0 n k R1).2 = sR (sR F 83 0 (nI 4)) 83 0 (nI (4 + 1)) := by
    intro k0 R0 n
    induction n with
    | zero => intro k R1; rfl
    | succ n ih => intro k R1; rw [hX2_acts_51b_s, ih]
  have l1 : ∀ (n k : Nat) (R1 : Nat → Nat → Int32), (hX2_acts_10 R F q n k R1).2 = sR (sR F 83 0 (nI 4)) 83 0 (nI (4 + 1)) := by
    intro n
    induction n with
    | zero => intro k R1; rw [hX2_acts_10_z]; exact l3 _ _ _ _ _
    | succ n ih => intro k R1; rw [hX2_acts_10_s, ih]
  unfold xX2_acts
  split
  · next h5 =>
    have e : q = 5 := (nI_eq (a := q) (b := 5) (by omega) (by decide)).mp (hF.symm.trans h5)
    rw [l1]
    refine ⟨?_, fun y hy => by rw [sR_ne hy, sR_ne hy]⟩
    rw [sR_same, show min 5 (q + 1) = 4 + 1 by omega]
  · next h5 =>
    have e : q ≠ 5 := fun e => h5 (by rw [hF, e]; rfl)
    rw [l2]
    refine ⟨?_, fun y hy => by rw [sR_ne hy]⟩
    rw [sR_same, show min 5 (q + 1) = q + 1 by omega]
theorem acts_85 {R F : Nat → Nat → Int32} {q x : Nat} (hq : q ≤ 5) (hF : F 83 0 = nI q) : (xX2_acts R F q).1 85 x = if q = 5 then (if 728 ≤ x ∧ x < 910 then R 84 (x - 728) else if x < 728 then R 85 (x + 182) else R 85 x) else (if 182 * q ≤ x ∧ x < 182 * q + 182 then R 84 (x - 182 * q) else R 85 x) := by
  unfold xX2_acts
  split
  · next h5 =>
    have e : q = 5 := (nI_eq (a := q) (b := 5) (by omega) (by decide)).mp (hF.symm.trans h5)
    rw [if_pos e, acts_row1 728 0 R x (by omega)]
    by_cases h1 : 728 ≤ x ∧ x < 910
    · rw [if_pos h1, if_pos h1]
    · rw [if_neg h1, if_neg h1]
      by_cases h2 : x < 728
      · rw [if_pos (by omega), if_pos h2]
      · rw [if_neg (by omega), if_neg h2]
  · next h5 =>
    have e : q ≠ 5 := fun e => h5 (by rw [hF, e]; rfl)
    rw [if_neg e, acts_row2]
    by_cases h1 : 182 * q ≤ x ∧ x < 182 * q + 182
    · rw [if_pos (by omega), if_pos h1]
    · rw [if_neg (by omega), if_neg h1]
theorem acts_ne {R F : Nat → Nat → Int32} {q y : Nat} (hy : y ≠ 85) : (xX2_acts R F q).1 y = R y := by
  have l2 : ∀ (n k : Nat) (R1 : Nat → Nat → Int32), (hX2_acts_51 R F q n k R1).1 y = R1 y := by
    intro n
    induction n with
    | zero => intro k R1; rfl
    | succ n ih => intro k R1; rw [hX2_acts_51_s, ih, sR_ne hy]
  have l3 : ∀ (k0 : Nat) (R0 : Nat → Nat → Int32) (n k : Nat) (R1 : Nat → Nat → Int32), (hX2_acts_51b R F q k0 R0 n k R1).1 y = R1 y := by
    intro k0 R0 n
    induction n with
    | zero => intro k R1; rfl
    | succ n ih => intro k R1; rw [hX2_acts_51b_s, ih, sR_ne hy]
  have l1 : ∀ (n k : Nat) (R1 : Nat → Nat → Int32), (hX2_acts_10 R F q n k R1).1 y = R1 y := by
    intro n
    induction n with
    | zero => intro k R1; rw [hX2_acts_10_z]; exact l3 _ _ _ _ _
    | succ n ih => intro k R1; rw [hX2_acts_10_s, ih, sR_ne hy]
  unfold xX2_acts
  split
  · exact l1 _ _ _
  · exact l2 _ _ _
/-- what remember does -/
theorem rem_spec {R F : Nat → Nat → Int32} {o q : Nat} (ho : o < 5) (hq : q ≤ 5) (hF0 : F 0 0 = nI o) (hF1 : F 0 1 = nI q) :
    ∃ o' q' sl, o' < 5 ∧ q' = min 5 (q + 1) ∧ sl = (o' + (q' - 1)) % 5 ∧ (o' = if q = 5 then (o + 1) % 5 else o) ∧
      (xX1_remember R F o q).2 0 0 = nI o' ∧ (xX1_remember R F o q).2 0 1 = nI q' ∧ (∀ y, y ≠ 0 → y ≠ 18 + 13 * sl → (xX1_remember R F o q).2 y = F y) ∧ (∀ k, k < 3 → (xX1_remember R F o q).2 (18 + 13 * sl) k = F 1 k) ∧
      (∀ y, (y < 18 + 13 * sl + 1 ∨ 18 + 13 * sl + 12 < y) → (xX1_remember R F o q).1 y = R y) ∧
      (∀ j, 1 ≤ j → j ≤ 4 → ∀ c, c < 24 → (xX1_remember R F o q).1 (18 + 13 * sl + j) c = R (1 + j) c) ∧ (∀ j, 5 ≤ j → j ≤ 12 → ∀ c, c < 8 → (xX1_remember R F o q).1 (18 + 13 * sl + j) c = R (1 + j) c) := by
  unfold xX1_remember
  by_cases h5 : F 0 1 = 5
  · rw [if_pos h5]
    have e : q = 5 := (nI_eq (a := q) (b := 5) (by omega) (by decide)).mp (hF1.symm.trans h5)
    subst e
    refine ⟨(o + 1) % 5, 5, ((o + 1) % 5 + 4) % 5, by omega, by omega, rfl, by rw [if_pos rfl], ?_, ?_, ?_, ?_, fun y hy => ?_, ?_, ?_⟩
    · dsimp only
      rw [sR_same_ne (by decide), cf_Fne (by omega), sR_same_ne (by decide), sR_same]
    · dsimp only
      rw [sR_same]
    · intro y h1 h2
      dsimp only
      rw [sR_ne h1, cf_Fne h2, sR_ne h1, sR_ne h1]
    · intro k hk
      dsimp only
      rw [sR_ne (by omega), cf_F (by omega) hk, sR_ne (by decide), sR_ne (by decide)]
    · exact cf_ne hy
    · exact cf_24 (by omega)
    · exact cf_8 (by omega)
  · rw [if_neg h5]
    have e : q ≠ 5 := fun e => h5 (by rw [hF1, e]; rfl)
    refine ⟨o, q + 1, (o + q) % 5, ho, by omega, by rw [Nat.add_sub_cancel], by rw [if_neg e], ?_, ?_, ?_, ?_, fun y hy => ?_, ?_, ?_⟩
    · dsimp only
      rw [sR_same_ne (by decide), cf_Fne (by omega), hF0]
    · dsimp only
      rw [sR_same]
    · intro y h1 h2
      dsimp only
      rw [sR_ne h1, cf_Fne h2]
    · intro k hk
      dsimp only
      rw [sR_ne (by omega), cf_F (by omega) hk]
    · exact cf_ne hy
    · exact cf_24 (by omega)
    · exact cf_8 (by omega)
/-- behind an action's remember and acts the histories are alike again -/
theorem HI_act {n : Nat} {R F R1 F1 R2 F2 : Nat → Nat → Int32} {o q kw mi : Nat} (h : HI n R F o q) (hr : SREL n R F 1 (R 84) kw mi)
    (c1 : ∀ i, 18 ≤ i → i < 83 → R1 i = (xX1_remember R F o q).1 i) (c2 : R1 84 = R 84) (c3 : R1 85 = R 85) (c4 : F1 0 = (xX1_remember R F o q).2 0) (c5 : ∀ k, k < 5 → F1 (18 + 13 * k) = (xX1_remember R F o q).2 (18 + 13 * k)) (c6 : F1 83 0 = F 83 0)
    (m1 : ∀ i, 18 ≤ i → i < 83 → R2 i = R1 i) (m2 : R2 85 = (xX2_acts R1 F1 q).1 85) (m3 : ∀ i, i < 83 → F2 i = F1 i) (m4 : F2 83 0 = (xX2_acts R1 F1 q).2 83 0) : ∃ o' q', HI n R2 F2 o' q' := by
  obtain ⟨a1, a2, a3, a4, a5, a6⟩ := h
  obtain ⟨o', q', sl, ho', hq', hsl, hoo, r1, r2, r3, r4, r5, r6, r7⟩ := rem_spec (R := R) (F := F) a1 a2 a3 a4
  have hsl5 : sl < 5 := by rw [hsl]; exact Nat.mod_lt _ (by decide)
  have hF83 : F1 83 0 = nI q := c6.trans a5
  refine ⟨o', q', ho', by omega, ?_, ?_, ?_, fun j hj => ?_⟩
  · rw [m3 0 (by decide), c4, r1]
  · rw [m3 0 (by decide), c4, r2]
  · rw [m4, (acts_F a2 hF83).1, hq']
  · by_cases hlast : j = q' - 1
    · subst hlast
      refine ⟨kw, mi, ?_⟩
      rw [← hsl]
      refine SREL_copy hr (fun x h1 h2 c hc => ?_) (fun x h1 h2 c hc => ?_) (fun k hk => ?_) (fun x hx => ?_)
      · rw [m1 _ (by omega) (by omega), c1 _ (by omega) (by omega), r6 x h1 h2 c hc]
      · rw [m1 _ (by omega) (by omega), c1 _ (by omega) (by omega), r7 x h1 h2 c hc]
      · rw [m3 _ (by omega), c5 _ hsl5, r4 k hk]
      · rw [m2, acts_85 a2 hF83]
        by_cases h5 : q = 5
        · rw [if_pos h5, if_pos (by omega), c2]
          exact congrArg (R 84) (by omega)
        · rw [if_neg h5, if_pos (by omega), c2]
          exact congrArg (R 84) (by omega)
    · have hmod : ∀ (y : Nat), (y + 5) % 5 = y % 5 := fun y => by omega
      -- an older one
      have hj0 : ∃ j0, j0 < q ∧ (o' + j) % 5 = (o + j0) % 5 ∧ (j0 = if q = 5 then j + 1 else j) := by
        by_cases h5 : q = 5
        · rw [if_pos h5] at hoo ⊢
          exact ⟨j + 1, by omega, by omega, rfl⟩
        · rw [if_neg h5] at hoo ⊢
          exact ⟨j, by omega, by omega, rfl⟩
      obtain ⟨j0, hj0q, hjj, hje⟩ := hj0
      obtain ⟨kw0, mi0, hr0⟩ := a6 j0 hj0q
      have hne : (o + j0) % 5 ≠ sl := by
        rw [hsl]
        intro he
        by_cases h5 : q = 5
        · rw [if_pos h5] at hoo hje
          omega
        · rw [if_neg h5] at hoo hje
          omega
      have hk5 : (o + j0) % 5 < 5 := Nat.mod_lt _ (by decide)
      refine ⟨kw0, mi0, ?_⟩
      rw [hjj]
      generalize hsx : (o + j0) % 5 = sx at hr0 hne hk5
      refine SREL_copy hr0 (fun x h1 h2 c hc => ?_) (fun x h1 h2 c hc => ?_) (fun k hk => ?_) (fun x hx => ?_)
      · rw [m1 _ (by omega) (by omega), c1 _ (by omega) (by omega), r5 _ (by omega)]
      · rw [m1 _ (by omega) (by omega), c1 _ (by omega) (by omega), r5 _ (by omega)]
      · rw [m3 _ (by omega), c5 _ hk5, r3 _ (by omega) (by omega)]
      · rw [m2, acts_85 a2 hF83]
        by_cases h5 : q = 5
        · rw [if_pos h5] at hje ⊢
          rw [if_neg (by omega), if_pos (by omega), c3]
          exact congrArg (R 85) (by omega)
        · rw [if_neg h5] at hje ⊢
          rw [if_neg (by omega), c3, hje]
