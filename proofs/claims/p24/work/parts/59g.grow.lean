/-! growing worlds: what the constructors need -/
def gwl (n : Nat) (ad : Nat → Nat) (C : Nat → va_E) : va_W := (List.range n).map (fun i => (ad i, C i))
theorem gwl_90 {ad : Nat → Nat} {C : Nat → va_E} : gwl 90 ad C = wl ad C := rfl
theorem gwl_cong {n : Nat} {ad ad' : Nat → Nat} {C C' : Nat → va_E} (h1 : ∀ i, i < n → ad' i = ad i) (h2 : ∀ i, i < n → C' i = C i) : gwl n ad' C' = gwl n ad C := by
  unfold gwl
  apply List.map_congr_left
  intro i hi
  rw [h1 i (List.mem_range.mp hi), h2 i (List.mem_range.mp hi)]
theorem gwl_add {n m : Nat} {ad : Nat → Nat} {C : Nat → va_E} : gwl (n + m) ad C = gwl n ad C ++ (List.range m).map (fun j => (ad (n + j), C (n + j))) := by
  unfold gwl
  rw [List.range_add, List.map_append, List.map_map]
  rfl
theorem gwl_len {n : Nat} {ad : Nat → Nat} {C : Nat → va_E} : (gwl n ad C).length = n := by simp [gwl]
theorem gwl_at {n : Nat} {ad : Nat → Nat} {C : Nat → va_E} {i : Nat} (h : i < n) : (gwl n ad C)[i]? = some (ad i, C i) := by
  unfold gwl
  rw [List.getElem?_map, List.getElem?_range h]
  rfl
theorem gwl_set {n : Nat} {ad : Nat → Nat} {C : Nat → va_E} {i : Nat} (h : i < n) (e : va_E) : (gwl n ad C).set i (ad i, e) = gwl n ad (va_up C i e) := by
  apply List.ext_getElem?
  intro j
  by_cases hj : j = i
  · subst hj
    rw [List.getElem?_set_self (by rw [gwl_len]; exact h), gwl_at h]
    simp [va_up]
  · rw [List.getElem?_set_ne (Ne.symm hj)]
    by_cases hl : j < n
    · rw [gwl_at hl, gwl_at hl]
      simp [va_up, hj]
    · rw [List.getElem?_eq_none (by rw [gwl_len]; omega), List.getElem?_eq_none (by rw [gwl_len]; omega)]
theorem ka_int {D : va_G} {cl : List vw_C} {s : State} {cI cA cS : ClassId} {t : FieldType} (h : va_K D cl [(cI, .int), (cS, t)] s) (h1 : va_K D cl ([(cI, .int), (cS, t)] ++ [(cA, .int)]) s) : cA = cI := by
  have a := (h.2 0 (cI, .int) rfl).2
  have b := (h1.2 2 (cA, .int) rfl).2
  exact Option.some.inj (b.symm.trans a)
theorem ka_obj {D : va_G} {cl : List vw_C} {s : State} {cI cA cS : ClassId} {C : String} (h : va_K D cl [(cI, .int), (cS, .object C)] s) (h1 : va_K D cl ([(cI, .int), (cS, .object C)] ++ [(cA, .object C)]) s) : cA = cS := by
  obtain ⟨_, _, -, -, -, a⟩ := (h.2 1 (cS, .object C) rfl).2
  obtain ⟨_, _, -, -, -, b⟩ := (h1.2 2 (cA, .object C) rfl).2
  exact Option.some.inj (b.symm.trans a)
theorem fr_all {A : Nat → Prop} {ws : va_W} {H0 H : Heap} {locs : List Loc} (hD : va_D A ws) (hS : va_S A H0 H locs) (hA : ∀ q, H0.size ≤ q → A q) : ∀ q, va_A ws H.size q → A q := by
  intro q h
  rcases h with ⟨k, e, h⟩ | h
  · exact hD.2 k (q, e) h
  · exact hA q (Nat.le_trans hS.1 h)
/-- behind a constructor's call on the last cell -/
theorem jn_last {A0 : Nat → Prop} {D : va_G} {cl : List vw_C} {ws w1 : va_W} {x : Nat × va_E} {H H1 : Heap} (hP : va_P D cl (ws ++ [x]) H) (hD : va_D A0 (ws ++ [x]))
    (hk : ∀ q : Nat, q < H.size → ¬ va_A [x] H.size q → H1[q]? = H[q]?) (hF : ∀ q, va_A [x] H.size q → A0 q) (hP1 : va_P D cl w1 H1) (hD1 : va_D (va_A [x] H.size) w1) : va_P D cl (ws ++ w1) H1 ∧ va_D A0 (ws ++ w1) := by
  refine va_join (wr := ws) (wc := [x]) hP hD [ws.length] (List.range ws.length) ?_ ?_ ?_ ?_ hk hF hP1 hD1
  · simp
  · apply List.ext_getElem?
    intro i
    by_cases h : i < ws.length
    · rw [List.getElem?_map, List.getElem?_range h, List.getElem?_map]
      show some ((ws ++ [x])[i]?) = _
      rw [List.getElem?_append_left h, List.getElem?_eq_getElem h]
      rfl
    · rw [List.getElem?_eq_none (by simp; omega), List.getElem?_eq_none (by simp; omega)]
  · have key : ∀ (l : List Nat), l.Nodup → va_nd l = true := by
      intro l
      induction l with
      | nil => intro _; rfl
      | cons a l ih =>
        intro h
        rw [List.nodup_cons] at h
        simp only [va_nd, Bool.and_eq_true, decide_eq_true_eq]
        exact ⟨h.1, ih h.2⟩
    exact key _ List.nodup_range
  · intro i hi hc
    rw [List.mem_range] at hi
    rw [List.mem_singleton] at hc
    omega
theorem va_P_congr {D : va_G} {cl : List vw_C} {ws ws' : va_W} {H : Heap} (h : va_P D cl ws H) (he : ∀ (k : Nat) (q' : Nat × va_E), ws'[k]? = some q' → ∃ q, ws[k]? = some q ∧ (va_at D cl q H → va_at D cl q' H)) : va_P D cl ws' H := fun k q' hk => by
  obtain ⟨q, h1, h2⟩ := he k q' hk
  exact h2 (h k q h1)
theorem cell_i_congr {c : ClassId} {n : Nat} {f g : Nat → Int32} (h : ∀ i, i < n → f i = g i) : vp_cell c (n, .inl f) = vp_cell c (n, .inl g) := by
  rw [vp_cell_i, vp_cell_i]
  unfold arrV
  congr 1
  apply Array.ext
  · simp
  · intro i h1 h2
    simp at h1
    simp [h i h1]
theorem cell_q_congr {c : ClassId} {n : Nat} {f g : Nat → Option Nat} (h : ∀ i, i < n → f i = g i) : vp_cell c (n, .inr (.inr (.inr (.inr f)))) = vp_cell c (n, .inr (.inr (.inr (.inr g)))) := by
  rw [vp_cell_q, vp_cell_q]
  unfold arrV
  congr 1
  apply Array.ext
  · simp
  · intro i h1 h2
    simp at h1
    simp [h i h1]
theorem va_P_setC {D : va_G} {cl : List vw_C} {ws : va_W} {H : Heap} {i a : Nat} {e e' : va_E} (h : va_P D cl (ws.set i (a, e)) H) (hx : va_at D cl (a, e) H → va_at D cl (a, e') H) : va_P D cl (ws.set i (a, e')) H := by
  refine va_P_congr h (fun k q' hk => ?_)
  by_cases hki : k = i
  · subst hki
    have hl : k < ws.length := by
      have := (List.getElem?_eq_some_iff.mp hk).1
      simpa using this
    rw [List.getElem?_set_self hl] at hk
    cases hk
    exact ⟨_, List.getElem?_set_self hl, hx⟩
  · rw [List.getElem?_set_ne (Ne.symm hki)] at hk
    exact ⟨q', by rw [List.getElem?_set_ne (Ne.symm hki)]; exact hk, id⟩
/-- fillRow over any world with the row at place i -/
theorem set_self {ws : va_W} {i : Nat} {x : Nat × va_E} (h : ws[i]? = some x) : ws.set i x = ws := by
  obtain ⟨hl, he⟩ := List.getElem?_eq_some_iff.mp h
  rw [← he]
  exact List.set_getElem_self hl
theorem set_set' {ws : va_W} {i : Nat} {x y : Nat × va_E} : (ws.set i x).set i y = ws.set i y := List.set_set ..
theorem upd_same {f : Nat → Int32} {k : Nat} {x : Int32} : upd f k x k = x := pk_us
theorem upd_ne {f : Nat → Int32} {k j : Nat} {x : Int32} (h : j ≠ k) : upd f k x j = f j := pk_un h
