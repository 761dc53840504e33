/-! PURE: looking, in the actions' form -/
section
variable {n : Nat} {R F : Nat → Nat → Int32} {o q kw mi : Nat}
theorem INV_scr {R' F' : Nat → Nat → Int32} (hh : HI n R F o q) (hr : NOW n R F (R 84) kw mi) (hR : ∀ i, i ≠ 15 → i ≠ 16 → i ≠ 17 → i ≠ 86 → R' i = R i) (hF : ∀ y, y ≠ 83 → F' y = F y) (h83 : F' 83 0 = F 83 0) : INV n R' F' :=
  ⟨o, q, kw, mi, HI_congr hh (fun i h1 h2 => hR i (by omega) (by omega) (by omega) (by omega)) (hR 85 (by decide) (by decide) (by decide) (by decide)) (hF 0 (by decide)) h83 (fun k hk => hF _ (by omega)), by
    rw [hR 84 (by decide) (by decide) (by decide) (by decide)]
    exact NOW_rows hr (fun j h1 h2 => hR j (by omega) (by omega) (by omega) (by omega)) (hF 1 (by decide))⟩
theorem ACT_look {R1 : Nat → Nat → Int32} {v v2 : Int32} {f : (Nat → Nat → Int32) → (Nat → Nat → Int32) → Int32 × (Nat → Nat → Int32) × (Nat → Nat → Int32)} (hh : HI n R F o q) (hr : NOW n R F (R 84) kw mi) (hk : kp3 R1 R) (hf : f R1 F = (v2, R1, F)) (hv : v = v2) : ACT n R F (v, R1, F) f :=
  ACT_mk hf (hk 84 (by decide) (by decide) (by decide)) rfl hv (INV_scr hh hr (fun i h1 h2 h3 _ => hk i h1 h2 h3) (fun _ _ => rfl) rfl)
theorem lk_count (hh : HI n R F o q) (hr : NOW n R F (R 84) kw mi) (p1 : Int32) : ACT n R F ((xX1_count R F p1).1, (xX1_count R F p1).2, F) (fun R1 F1 => (xX2_count R1 F1 p1 kw, R1, F1)) := by
  obtain ⟨h1, h2⟩ := op_count hr (by rw [hh.2.2.2.1, hh.2.2.2.2.1]) p1
  refine ACT_look hh hr h2 rfl (h1.trans ?_)
  unfold xX2_count
  rw [h2 84 (by decide) (by decide) (by decide)]
theorem lk_cell (hh : HI n R F o q) (hr : NOW n R F (R 84) kw mi) (p1 p2 : Int32) : ACT n R F ((xX1_cell R F p1 p2).1, (xX1_cell R F p1 p2).2, F) (fun R1 F1 => (xX2_cell (R1 84) p1 p2 kw, R1, F1)) := by
  obtain ⟨h1, h2⟩ := op_cell hr p1 p2
  exact ACT_look hh hr h2 rfl (h1.trans (by rw [h2 84 (by decide) (by decide) (by decide)]))
theorem lk_walker (hh : HI n R F o q) (hr : NOW n R F (R 84) kw mi) (p1 p2 : Int32) : ACT n R F (xX1_walker R F p1 p2, R, F) (fun R1 F1 => (xX2_walker (R1 84) p1 p2, R1, F1)) :=
  ACT_look hh hr (fun _ _ _ _ => rfl) rfl (op_walker hr p1 p2)
theorem lk_estimate (hh : HI n R F o q) (hr : NOW n R F (R 84) kw mi) (p1 : Int32) : ACT n R F ((xX1_estimate R F p1).1, (xX1_estimate R F p1).2, F) (fun R1 F1 => (xX2_estimate (R1 84) p1 kw, R1, F1)) := by
  obtain ⟨h1, h2⟩ := op_estimate hr p1
  exact ACT_look hh hr h2 rfl (h1.trans (by rw [h2 84 (by decide) (by decide) (by decide)]))
theorem lk_certainty (hh : HI n R F o q) (hr : NOW n R F (R 84) kw mi) (p1 : Int32) : ACT n R F (xX1_certainty R F p1, R, F) (fun R1 F1 => (xX2_certainty (R1 84) p1, R1, F1)) :=
  ACT_look hh hr (fun _ _ _ _ => rfl) rfl (op_certainty hr p1)
theorem lk_bestCell (hh : HI n R F o q) (hr : NOW n R F (R 84) kw mi) : ACT n R F (xX1_bestCell R F, R, F) (fun R1 F1 => (xX2_bestCell (R1 84) kw, R1, F1)) :=
  ACT_look hh hr (fun _ _ _ _ => rfl) rfl (op_bestCell hr)
theorem lk_until (hn : n ≤ 512) (hh : HI n R F o q) (hr : NOW n R F (R 84) kw mi) (p1 p2 : Int32) : ACT n R F (xX1_until R F p1 p2, R, F) (fun R1 F1 => (xX2_until (R1 84) p1 p2, R1, F1)) :=
  ACT_look hh hr (fun _ _ _ _ => rfl) rfl (op_until hr hn p1 p2).1
theorem guess_R {R1 F1 : Nat → Nat → Int32} {p : Int32} : (xX2_guess R1 F1 p kw).2.1 = R1 ∧ (∀ y, y ≠ 83 → (xX2_guess R1 F1 p kw).2.2 y = F1 y) ∧ (xX2_guess R1 F1 p kw).2.2 83 0 = F1 83 0 := by
  unfold xX2_guess
  split
  · exact ⟨rfl, fun _ _ => rfl, rfl⟩
  · split
    · dsimp only
      exact ⟨rfl, fun y hy => sR_ne hy _ _, sR_same_ne (by decide)⟩
    · split
      · dsimp only
        exact ⟨rfl, fun y hy => sR_ne hy _ _, sR_same_ne (by decide)⟩
      · dsimp only
        exact ⟨rfl, fun y hy => sR_ne hy _ _, sR_same_ne (by decide)⟩
theorem lk_guess (hh : HI n R F o q) (hr : NOW n R F (R 84) kw mi) (p1 : Int32) : ACT n R F ((xX1_guess R F p1).1, (xX1_guess R F p1).2, F) (fun R1 F1 => xX2_guess R1 F1 p1 kw) := by
  have h2 : kp3 (xX1_guess R F p1).2 R := (op_guess hr p1 rfl).2
  have e84 := h2 84 (by decide) (by decide) (by decide)
  obtain ⟨g1, g2, g3⟩ := guess_R (kw := kw) (R1 := (xX1_guess R F p1).2) (F1 := F) (p := p1)
  refine ⟨e84, rfl, (op_guess hr p1 e84).1, INV_scr hh hr (fun i h4 h5 h6 _ => ?_) g2 g3⟩
  show (xX2_guess (xX1_guess R F p1).2 F p1 kw).2.1 i = R i
  rw [g1]
  exact h2 i h4 h5 h6
theorem lk_mend (hh : HI n R F o q) (hr : NOW n R F (R 84) kw mi) (p1 : Int32) : ACT n R F ((xX1_mend R F p1).1, (xX1_mend R F p1).2, F) (fun R1 F1 => xX2_mend R1 F1 p1 kw 40320) := by
  have h2 : kp3 (xX1_mend R F p1).2 R := (op_mend hr p1 rfl).2.1
  have e84 := h2 84 (by decide) (by decide) (by decide)
  obtain ⟨m1, -, m3, m4, m5, m6⟩ := op_mend hr p1 e84
  refine ⟨e84, rfl, m1, INV_scr hh hr (fun i h4 h5 h6 h7 => ?_) m5 m6⟩
  show (xX2_mend (xX1_mend R F p1).2 F p1 kw 40320).2.1 i = R i
  by_cases hi : i = 84
  · rw [hi]; exact m3
  · rw [m4 i hi h7]
    exact h2 i h4 h5 h6
end
