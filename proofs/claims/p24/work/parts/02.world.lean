/-! THE WORLD: 90 cells at addresses ad 0 .. ad 89, apart. 0 the FerryFloor, 1 its state now (rows 2 to 13), 14 the history, 15 readings, 16 expected, 17 trial, 18 + 13 k the k-th kept state (rows 19 + 13 k to 30 + 13 k), 83 to 89 the rows of the law: g z d t u a b. R i: what the row i holds; F i: the whole numbers of the object i. -/
def wl (ad : Nat → Nat) (C : Nat → va_E) : va_W := (List.range 90).map (fun i => (ad i, C i))
def AA (ad : Nat → Nat) : Nat → Prop := fun q => ∃ i, i < 90 ∧ ad i = q
def Inj (ad : Nat → Nat) : Prop := ∀ i j, i < 90 → j < 90 → ad i = ad j → i = j
theorem wl_at {ad : Nat → Nat} {C : Nat → va_E} {i : Nat} (h : i < 90) : (wl ad C)[i]? = some (ad i, C i) := by
  unfold wl
  rw [List.getElem?_map, List.getElem?_range h]
  rfl
theorem wl_len {ad : Nat → Nat} {C : Nat → va_E} : (wl ad C).length = 90 := by simp [wl]
theorem wl_lt {ad : Nat → Nat} {C : Nat → va_E} {i : Nat} {q : Nat × va_E} (h : (wl ad C)[i]? = some q) : i < 90 ∧ q = (ad i, C i) := by
  have h1 : i < 90 := by
    have := (List.getElem?_eq_some_iff.mp h).1
    rw [wl_len] at this
    exact this
  rw [wl_at h1] at h
  exact ⟨h1, (Option.some.inj h).symm⟩
theorem wl_set {ad : Nat → Nat} {C : Nat → va_E} {i : Nat} (h : i < 90) (e : va_E) : (wl ad C).set i (ad i, e) = wl ad (va_up C i e) := by
  apply List.ext_getElem?
  intro j
  by_cases hj : j = i
  · subst hj
    rw [List.getElem?_set_self (by rw [wl_len]; exact h), wl_at h]
    simp [va_up]
  · rw [List.getElem?_set_ne (Ne.symm hj)]
    by_cases hl : j < 90
    · rw [wl_at hl, wl_at hl]
      simp [va_up, hj]
    · rw [List.getElem?_eq_none (by rw [wl_len]; omega), List.getElem?_eq_none (by rw [wl_len]; omega)]
theorem wl_D {ad : Nat → Nat} {C : Nat → va_E} (hI : Inj ad) : va_D (AA ad) (wl ad C) := by
  refine ⟨fun i j p q hi hj hpq => ?_, fun k q hk => ?_⟩
  · obtain ⟨a1, rfl⟩ := wl_lt hi
    obtain ⟨b1, rfl⟩ := wl_lt hj
    exact hI i j a1 b1 hpq
  · obtain ⟨a1, rfl⟩ := wl_lt hk
    exact ⟨k, a1, rfl⟩
def St (i : Nat) : Bool := i == 1 || i == 18 || i == 31 || i == 44 || i == 57 || i == 70
def ln (i : Nat) : Nat := if i = 83 then 6 else if i = 88 ∨ i = 89 then 40 else if 84 ≤ i then 24 else if i = 17 then 8 else if i = 15 ∨ i = 16 then 24 else if (if i < 14 then i - 1 else (i - 18) % 13) ≤ 4 then 24 else 8
def isA (i : Nat) : Bool := decide (i < 90) && (!(i == 0) && (!(i == 14) && !(St i)))
def fsF (ad : Nat → Nat) (F : Nat → Nat → Int32) : List Value := [.ref (ad 1), .ref (ad 14), .int (F 0 0), .int (F 0 1), .ref (ad 15), .ref (ad 16), .ref (ad 17)]
def fsS (ad : Nat → Nat) (F : Nat → Nat → Int32) (i : Nat) : List Value := [.int (F i 0), .int (F i 1), .int (F i 2), .ref (ad (i + 1)), .ref (ad (i + 2)), .ref (ad (i + 3)), .ref (ad (i + 4)), .ref (ad (i + 5)), .ref (ad (i + 6)), .ref (ad (i + 7)), .ref (ad (i + 8)), .ref (ad (i + 9)), .ref (ad (i + 10)), .ref (ad (i + 11)), .ref (ad (i + 12))]
def CC (cI cS : ClassId) (ad : Nat → Nat) (R F : Nat → Nat → Int32) (i : Nat) : va_E :=
  if isA i = true then .inl (cI, ln i, .inl (R i))
  else if St i = true then .inr (0, fsS ad F i)
  else if i = 0 then .inr (1, fsF ad F)
  else .inl (cS, 5, .inr (.inr (.inr (.inr (fun k => some (ad (18 + 13 * k)))))))
def Ar (i n : Nat) : Prop := isA i = true ∧ ln i = n
theorem isA_lt {i : Nat} (h : isA i = true) : i < 90 := by
  unfold isA at h
  simp only [Bool.and_eq_true, decide_eq_true_eq] at h
  exact h.1
theorem St_lt {i : Nat} (h : St i = true) : i < 90 := by
  simp only [St, Bool.or_eq_true, beq_iff_eq] at h
  omega
theorem St_A {i : Nat} (h : St i = true) : isA i = false := by
  unfold isA
  rw [h]
  simp
theorem CC_A {cI cS : ClassId} {ad : Nat → Nat} {R F : Nat → Nat → Int32} {i n : Nat} (h : Ar i n) : CC cI cS ad R F i = .inl (cI, n, .inl (R i)) := by
  obtain ⟨h1, rfl⟩ := h
  unfold CC
  rw [if_pos h1]
theorem CC_S {cI cS : ClassId} {ad : Nat → Nat} {R F : Nat → Nat → Int32} {i : Nat} (h : St i = true) : CC cI cS ad R F i = .inr (0, fsS ad F i) := by
  unfold CC
  rw [if_neg (by rw [St_A h]; decide), if_pos h]
theorem CC_0 {cI cS : ClassId} {ad : Nat → Nat} {R F : Nat → Nat → Int32} : CC cI cS ad R F 0 = .inr (1, fsF ad F) := by
  unfold CC
  rw [if_neg (by decide), if_neg (by decide), if_pos rfl]
theorem CC_14 {cI cS : ClassId} {ad : Nat → Nat} {R F : Nat → Nat → Int32} : CC cI cS ad R F 14 = .inl (cS, 5, .inr (.inr (.inr (.inr (fun k => some (ad (18 + 13 * k))))))) := by
  unfold CC
  rw [if_neg (by decide), if_neg (by decide), if_neg (by decide)]
theorem CC_cong {cI cS : ClassId} {ad : Nat → Nat} {R F R' F' : Nat → Nat → Int32} {i : Nat} (hR : R' i = R i) (hF : F' i = F i) : CC cI cS ad R' F' i = CC cI cS ad R F i := by
  have h1 : fsS ad F' i = fsS ad F i := by unfold fsS; rw [hF]
  unfold CC
  rw [hR, h1]
  by_cases h0 : i = 0
  · subst h0
    have h2 : fsF ad F' = fsF ad F := by unfold fsF; rw [hF]
    rw [h2]
  · simp only [if_neg h0]
theorem up_same {α : Type} (f : Nat → α) (k : Nat) (v : α) : va_up f k v k = v := by simp [va_up]
theorem up_ne {α : Type} (f : Nat → α) {k j : Nat} (v : α) (h : j ≠ k) : va_up f k v j = f j := by simp [va_up, h]
theorem CC_upA {cI cS : ClassId} {ad : Nat → Nat} {R F : Nat → Nat → Int32} {i n : Nat} (h : Ar i n) (f : Nat → Int32) : va_up (CC cI cS ad R F) i (.inl (cI, n, .inl f)) = CC cI cS ad (va_up R i f) F := by
  funext j
  by_cases hj : j = i
  · subst hj
    rw [up_same, CC_A h, up_same]
  · rw [up_ne _ _ hj]
    exact (CC_cong (up_ne _ _ hj) rfl).symm
theorem CC_upO {cI cS : ClassId} {ad : Nat → Nat} {R F : Nat → Nat → Int32} {i : Nat} {f : Nat → Int32} {e : va_E} (h : CC cI cS ad R (va_up F i f) i = e) : va_up (CC cI cS ad R F) i e = CC cI cS ad R (va_up F i f) := by
  funext j
  by_cases hj : j = i
  · subst hj
    rw [up_same, h]
  · rw [up_ne _ _ hj]
    exact (CC_cong rfl (up_ne _ _ hj)).symm
def WP (D : va_G) (cI cS : ClassId) (ad : Nat → Nat) (R F : Nat → Nat → Int32) (H : Heap) : Prop := va_P D vwCl (wl ad (CC cI cS ad R F)) H
/-- the classes, the rows' classes, and the two links from State to FerryFloor's own methods -/
def KK (D : va_G) (cI cS : ClassId) (s : State) : Prop := va_K D vwCl [(cI, .int), (cS, .object "FerryFloor$State")] s ∧ va_Nw (.methodLinkNest RX0 59 yX1_fillRow RX1) s ∧ va_Nw (.methodLinkNest RX0 63 yX1_copyRow RX1) s
theorem KK.warm {D : va_G} {cI cS : ClassId} {s U : State} (hW : s.WarmedH U.vm) (h : KK D cI cS s) : KK D cI cS U := ⟨va_K.moved hW.alike h.1, va_Nw.warmM hW h.2.1, va_Nw.warmM hW h.2.2⟩
def PW (D : va_G) (cI cS : ClassId) (ad : Nat → Nat) (R F : Nat → Nat → Int32) (av : List Value) : Array Value → State → Prop := va_Pc av (fun U => WP D cI cS ad R F U.heap ∧ KK D cI cS U)
def QS (r : Int32) : Array Value → State → Outcome → State → Prop := fun _ st o t => o = .returned (some (.int r)) ∧ t.heap = st.heap
def QI (D : va_G) (cI cS : ClassId) (ad : Nat → Nat) (r : Int32) (R' F' : Nat → Nat → Int32) : Array Value → State → Outcome → State → Prop := fun _ st o t => o = .returned (some (.int r)) ∧ WP D cI cS ad R' F' t.heap ∧ va_F (AA ad) st t
def QV (D : va_G) (cI cS : ClassId) (ad : Nat → Nat) (R' F' : Nat → Nat → Int32) : Array Value → State → Outcome → State → Prop := fun _ st o t => o = .returned none ∧ WP D cI cS ad R' F' t.heap ∧ va_F (AA ad) st t
theorem PW_blind {D : va_G} {cI cS : ClassId} {ad : Nat → Nat} {R F : Nat → Nat → Int32} {av : List Value} : FrameBlind (PW D cI cS ad R F av) := fun a U g mk q => ⟨q.1, q.2.1, va_K.moved (u := U) (U := U.calling g mk a) (Vm.Alike.refl U.vm) q.2.2.1, va_Nw.same (u := U) (U := U.calling g mk a) rfl rfl q.2.2.2.1, va_Nw.same (u := U) (U := U.calling g mk a) rfl rfl q.2.2.2.2⟩
theorem PW_preS {D : va_G} {cI cS : ClassId} {ad : Nat → Nat} {R F : Nat → Nat → Int32} {As : List Value} {s : State} {H : Heap} (hK : KK D cI cS s) (hP : WP D cI cS ad R F H) : PreS s H (PW D cI cS ad R F As) As := ⟨PW_blind, fun U hU hW => ⟨rfl, by rw [hU]; exact hP, hK.warm hW⟩⟩
theorem PW_preV {D : va_G} {cI cS : ClassId} {ad : Nat → Nat} {R F : Nat → Nat → Int32} {As : List Value} {s : State} {H : Heap} {C : String} {i ci : Nat} {fs : List Value} {q : vw_C} (hi : i < 90) (he : CC cI cS ad R F i = .inr (ci, fs)) (hc : vwCl[ci]? = some q) (hC : q.1 = C) (hK : KK D cI cS s) (hP : WP D cI cS ad R F H) : PreV s H C (ad i) (PW D cI cS ad R F (.ref (ad i) :: As)) As :=
  ⟨PW_blind, by rw [← hC]; exact va_recv hK.1 hP hc ((wl_at hi).trans (by rw [he])), fun U hU hW => ⟨rfl, by rw [hU]; exact hP, hK.warm hW⟩⟩
theorem Ar_hist {k j n : Nat} (hk : k < 5) (hj : Ar (1 + j) n) (h1 : 1 ≤ j) (h2 : j ≤ 12) : Ar (18 + 13 * k + j) n := by
  have h : ∀ k, k < 5 → ∀ j, j < 13 → 1 ≤ j → isA (18 + 13 * k + j) = true ∧ ln (18 + 13 * k + j) = ln (1 + j) := by decide
  obtain ⟨a, b⟩ := h k hk j (by omega) h1
  exact ⟨a, b.trans hj.2⟩
theorem St_hist {k : Nat} (hk : k < 5) : St (18 + 13 * k) = true := by
  have h : ∀ k, k < 5 → St (18 + 13 * k) = true := by decide
  exact h k hk
/-- one place of a row (or one number of an object) gets another value -/
def sR (R : Nat → Nat → Int32) (i k : Nat) (v : Int32) : Nat → Nat → Int32 := va_up R i (upd (R i) k v)
