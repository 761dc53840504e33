theorem last_P {D : va_G} {cl : List vw_C} {ws : va_W} {x : Nat × va_E} {H : Heap} (h : va_P D cl (ws ++ [x]) H) : va_P D cl [x] H := by
  intro k q hk
  have hz : k < 1 := (List.getElem?_eq_some_iff.mp hk).1
  rw [show k = 0 by omega] at hk
  cases hk
  exact h ws.length x (by simp)
theorem last_D {x : Nat × va_E} : va_D (fun _ => True) [x] := by
  refine ⟨fun i j p q hi hj _ => ?_, fun _ _ _ => trivial⟩
  have h1 : i < 1 := (List.getElem?_eq_some_iff.mp hi).1
  have h2 : j < 1 := (List.getElem?_eq_some_iff.mp hj).1
  omega
theorem fr_last {A : Nat → Prop} {ws : va_W} {x : Nat × va_E} {H0 H : Heap} {locs : List Loc} (hD : va_D A (ws ++ [x])) (hS : va_S A H0 H locs) (hA : ∀ q, H0.size ≤ q → A q) : ∀ q, va_A [x] H.size q → A q := by
  intro q h
  rcases h with ⟨k, e, h⟩ | h
  · have hz : k < 1 := (List.getElem?_eq_some_iff.mp h).1
    rw [show k = 0 by omega] at h
    cases h
    exact hD.2 ws.length (q, e) (by simp)
  · exact hA q (Nat.le_trans hS.1 h)
section
variable {p : Program} {l : Launch} {e : Env} {rm : Room} {s : State} {m : MethodId} {args : Array Value} {below : List Frame} {meth : Method} {c : Code} {H H0 : Heap} {locs : List Loc} {Q : State → Prop} {ls : Array Slot}
theorem q_loopC {pc0 : Nat} {st : List Value} (cf sf : Nat → Nat) (I : Nat → Heap → List Loc → Array Slot → Prop) (n : Nat) (h0 : I n H locs ls)
    (hz : ∀ (H : Heap) (locs : List Loc) (ls : Array Slot), I 0 H locs ls → W p l e rm s m args below meth c H locs (cf 0) (sf 0) Q (F0 m pc0 ls st))
    (hs : ∀ n : Nat, (∀ (H : Heap) (locs : List Loc) (ls : Array Slot), I n H locs ls → W p l e rm s m args below meth c H locs (cf n) (sf n) Q (F0 m pc0 ls st)) → ∀ (H : Heap) (locs : List Loc) (ls : Array Slot), I (n + 1) H locs ls → W p l e rm s m args below meth c H locs (cf (n + 1)) (sf (n + 1)) Q (F0 m pc0 ls st)) :
    W p l e rm s m args below meth c H locs (cf n) (sf n) Q (F0 m pc0 ls st) := by
  have key : ∀ (n : Nat) (H : Heap) (locs : List Loc) (ls : Array Slot), I n H locs ls → W p l e rm s m args below meth c H locs (cf n) (sf n) Q (F0 m pc0 ls st) := by
    intro n
    induction n with
    | zero => exact hz
    | succ n ih => exact hs n ih
  exact key n H locs ls h0
end
def ff0 : va_E := .inr (1, [.null, .null, .int 0, .int 0, .null, .null, .null])
/-- what the rows and the numbers are at first -/
def offs (i : Nat) : Nat := if i < 14 then i - 1 else if i < 18 then 0 else (i - 18) % 13
def R00 : Nat → Nat → Int32 := fun i => if i = 83 then upd (fun _ => 0) 2 10 else if i < 83 ∧ (offs i = 6 ∨ offs i = 8 ∨ offs i = 10 ∨ offs i = 12) then fun _ => -100009 else fun _ => 0
def F00 : Nat → Nat → Int32 := fun i k => if St i = true ∧ k = 1 then 10 else 0
def CK (cI cS : ClassId) (ad : Nat → Nat) (k i : Nat) : va_E := if i = 14 then .inl (cS, 5, .inr (.inr (.inr (.inr (fun j => if j < k then some (ad (18 + 13 * j)) else none))))) else CC cI cS ad R00 F00 i
def adN (n : Nat) (ad : Nat → Nat) (q : Nat) (u : Nat → Nat) : Nat → Nat := fun i => if i < n then ad i else if i = n then q else u (i - n)
theorem CK_new {cI cS : ClassId} {ad : Nat → Nat} {q k : Nat} {u : Nat → Nat} (hk : k < 5) : (List.range 13).map (fun j => (adN (18 + 13 * k) ad q u (18 + 13 * k + j), CK cI cS (adN (18 + 13 * k) ad q u) (k + 1) (18 + 13 * k + j))) = stL cI q u := by
  rcases (by omega : k = 0 ∨ k = 1 ∨ k = 2 ∨ k = 3 ∨ k = 4) with rfl | rfl | rfl | rfl | rfl <;> rfl
theorem CK_old {cI cS : ClassId} {ad ad' : Nat → Nat} {k i : Nat} (hk : k < 5) (hi : i < 18 + 13 * k) (h14 : i ≠ 14) (ha : ∀ j, j < 18 + 13 * k → ad' j = ad j) : CK cI cS ad' (k + 1) i = CK cI cS ad k i := by
  unfold CK
  rw [if_neg h14, if_neg h14]
  unfold CC
  by_cases h1 : isA i = true
  · rw [if_pos h1, if_pos h1]
  · rw [if_neg h1, if_neg h1]
    by_cases h2 : St i = true
    · rw [if_pos h2, if_pos h2]
      have hb : i + 12 < 18 + 13 * k := by
        rcases St_cases h2 with rfl | ⟨k', hk', rfl⟩ <;> omega
      unfold fsS
      rw [ha (i + 1) (by omega), ha (i + 2) (by omega), ha (i + 3) (by omega), ha (i + 4) (by omega), ha (i + 5) (by omega), ha (i + 6) (by omega), ha (i + 7) (by omega), ha (i + 8) (by omega), ha (i + 9) (by omega), ha (i + 10) (by omega), ha (i + 11) (by omega), ha (i + 12) (by omega)]
    · rw [if_neg h2, if_neg h2]
      by_cases h3 : i = 0
      · rw [if_pos h3, if_pos h3]
        unfold fsF
        rw [ha 1 (by omega), ha 14 (by omega), ha 15 (by omega), ha 16 (by omega), ha 17 (by omega)]
      · rw [if_neg h3, if_neg h3]
        have h4 : i ≠ 83 := by omega
        exfalso
        have hs : ∀ i, i < 83 → isA i = true ∨ St i = true ∨ i = 0 ∨ i = 14 := by decide
        rcases hs i (by omega) with h | h | h | h
        · exact h1 h
        · exact h2 h
        · exact h3 h
        · exact h14 h
/-- the world behind one more kept state -/
theorem CK_step {cI cS : ClassId} {ad : Nat → Nat} {q k : Nat} {u : Nat → Nat} (hk : k < 5) :
    (gwl (18 + 13 * k) ad (CK cI cS ad k) ++ stL cI q u).set 14 (ad 14, .inl (cS, 5, .inr (.inr (.inr (.inr (va_up (fun j => if j < k then some (ad (18 + 13 * j)) else none) k (some q))))))) = gwl (18 + 13 * (k + 1)) (adN (18 + 13 * k) ad q u) (CK cI cS (adN (18 + 13 * k) ad q u) (k + 1)) := by
  rw [List.set_append_left _ _ (by rw [gwl_len]; omega), gwl_set (by omega), show 18 + 13 * (k + 1) = 18 + 13 * k + 13 by omega, gwl_add (n := 18 + 13 * k) (m := 13), CK_new hk]
  congr 1
  refine (gwl_cong (fun i hi => ?_) (fun i hi => ?_)).symm
  · unfold adN
    rw [if_pos hi]
  · by_cases h14 : i = 14
    · subst h14
      rw [up_same]
      unfold CK
      rw [if_pos rfl]
      congr 7
      funext j
      by_cases hj : j = k
      · subst hj
        rw [up_same, if_pos (by omega)]
        unfold adN
        rw [if_neg (by omega), if_pos rfl]
      · rw [up_ne _ _ hj]
        by_cases h2 : j < k
        · rw [if_pos h2, if_pos (by omega)]
          unfold adN
          rw [if_pos (by omega)]
        · rw [if_neg h2, if_neg (by omega)]
    · rw [up_ne _ _ h14]
      exact CK_old hk hi h14 (fun j hj => by unfold adN; rw [if_pos hj])
theorem CK_end {D : va_G} {cI cS : ClassId} {ad : Nat → Nat} {H : Heap} (h : va_P D vwCl (gwl 83 ad (CK cI cS ad 5)) H) : va_P D vwCl (gwl 83 ad (CC cI cS ad R00 F00)) H := by
  refine va_P_congr h (fun k q' hk => ?_)
  have h1 : k < 83 := by
    have := (List.getElem?_eq_some_iff.mp hk).1
    rw [gwl_len] at this
    exact this
  rw [gwl_at h1] at hk
  cases hk
  refine ⟨_, gwl_at h1, ?_⟩
  by_cases h14 : k = 14
  · subst h14
    intro hx
    have e1 : CK cI cS ad 5 14 = .inl (cS, 5, .inr (.inr (.inr (.inr (fun j => if j < 5 then some (ad (18 + 13 * j)) else none))))) := rfl
    rw [e1] at hx
    rw [CC_14]
    show H[ad 14]? = some (vp_cell cS (5, .inr (.inr (.inr (.inr (fun k => some (ad (18 + 13 * k))))))))
    rw [cell_q_congr (g := fun j => if j < 5 then some (ad (18 + 13 * j)) else none) (fun i hi => by simp [hi])]
    exact hx
  · have e1 : CK cI cS ad 5 k = CC cI cS ad R00 F00 k := by
      unfold CK
      rw [if_neg h14]
    rw [e1]
    exact id
set_option maxHeartbeats 4000000 in
set_option maxRecDepth 100000 in
theorem mX1_init (l : Launch) (D : va_G) (cI cS : ClassId) (h0 sz : Nat) : Met l yX1_init wsX1_init ({ frames := 2, cells := 82, slots := 1111, locals := 42 }) (va_Pc [.ref h0] (fun U => U.heap.size = sz ∧ va_P D vwCl [(h0, ff0)] U.heap ∧ KK D cI cS U ∧ va_AO RX0 U ∧ va_D (fun _ => True) [(h0, ff0)])) (va_Qv (fun _ : Nat → Nat => True) (fun ad t => ad 0 = h0 ∧ va_P D vwCl (gwl 83 ad (CC cI cS ad R00 F00)) t.heap ∧ va_D (va_A [(h0, ff0)] sz) (gwl 83 ad (CC cI cS ad R00 F00))) (va_A [(h0, ff0)] sz)) 82 1111 (va_A [(h0, ff0)] sz) := by
  refine Met.ofW (cc := cX1_init) (maxL := 2) (ret := none) (by decide) rfl ?_
  intro p e s m args below meth c s₁ B hml hv
  obtain ⟨rfl, hsz, hP, hK, hAO, hD0⟩ := hv
  have hx := B.exec
  have hb := B.bytes
  have hr := B.returns
  have hts := atoms_spec (ws := wsX1_init) B.pre
  have hown : s.vm.findClass RX1 = some m.cls := findClass_of_methodNamed B.named
  have hlocks := B.notSynchronized
  have hin : meth.name = "<init>" := (name_of_methodNamed B.named B.method).1
  subst hsz
  have hD := hD0.self (sz := s.heap.size)
  generalize hAe : va_A [(h0, ff0)] s.heap.size = A at hD ⊢
  have hA : ∀ q : Nat, s.heap.size ≤ q → A q := fun q h => by rw [← hAe]; exact Or.inr h
  have hS : va_S A s.heap s.heap [] := va_S.rf
  have hl := lv_entry ([.ref h0]) (n := 2) (Nat.le_of_ble_eq_true rfl)
  rw [lg_entry_eq]
  generalize (lg_sl ([.ref h0]) ++ List.replicate (2 - (lg_sl ([.ref h0])).length) Slot.unset).toArray = ls at hl ⊢
  have hl : lv_has ls 2 [(0, .ref h0)] := hl
  have hP : va_P D vwCl [(h0, .inr (1, [.null, .null, .int 0, .int 0, .null, .null, .null]))] s.heap := hP
  refine lv_aload_n hx hb dX1_init_0 rfl (lv_at hl 0 rfl) ?_
  refine W.objInit hx hb hown (hts (.methodLink RX1 1 objectInit) (by decide +kernel)) (hts (.instanceMethod objectInit) (by decide +kernel)) (hts (.code objectInit ⟨#[0xb1]⟩ 1 none) (by decide +kernel)) rfl (by rw [hml]; exact hl.1) rfl dX1_init_1 (Nat.le_of_ble_eq_true rfl) (Nat.le_of_ble_eq_true rfl) ?_
  refine W.eq (g2 := F0 m 4 ls []) rfl ?_
  refine lv_aload_n hx hb dX1_init_4 rfl (lv_at hl 0 rfl) ?_
  refine va_new (ci := 0) (fs := [.int 0, .int 0, .int 0, .null, .null, .null, .null, .null, .null, .null, .null, .null, .null, .null, .null]) (C := RX0) (T := TX0) (N := 15) hx hb hts (by decide +kernel) tyX0 tyX0_ok hown (hts (.classLink RX1 7 RX0) (by decide +kernel)) (hts (.instantiable RX0 15) (by decide +kernel)) (hts (.initialized RX0) (by decide +kernel)) hK.1 hP hD hS hA rfl (by decide) (Nat.le_of_ble_eq_true rfl) (Nat.le_of_ble_eq_true rfl) dX1_init_5 (fun q1 H hP hD hS => ?_)
  have hP : va_P D vwCl [(h0, .inr (1, [.null, .null, .int 0, .int 0, .null, .null, .null])), (q1, st0)] H := hP
  have hD : va_D A [(h0, .inr (1, [.null, .null, .int 0, .int 0, .null, .null, .null])), (q1, st0)] := hD
  refine W.widen (k := 1) (n := 15) (Nat.le_refl _) (Nat.le_refl _) ?_
  refine lv_dup hx hb dX1_init_8 rfl ?_
  have hS0 := hS
  refine va_callv (va_runI (As := []) (rest := [.ref q1, .ref h0]) ⟨hx, hb, hml, hown, hts⟩ (mX0_init l D cI cS q1 H.size) (cwI 0 hts gX1_init_X0_init rfl rfl rfl (hts (.initialized RX0) (by decide +kernel)) (hts (.methodLink RX1 9 yX0_init) (by decide +kernel)) (hts (.instanceMethod yX0_init) (by decide +kernel)) rfl (by decide +kernel) ⟨Nat.le_of_ble_eq_true rfl, Nat.le_of_ble_eq_true rfl⟩) ⟨fun a U g mk q => ⟨q.1, q.2.1, q.2.2.1, KK.calling q.2.2.2.1, q.2.2.2.2⟩, fun U hU hW => ⟨rfl, by rw [hU], by rw [hU]; exact last_P (ws := [(h0, .inr (1, [.null, .null, .int 0, .int 0, .null, .null, .null]))]) hP, hK.warm hW, last_D⟩⟩ rfl rfl hl.1 rfl (lv_room (Nat.le_of_ble_eq_true rfl)) dX1_init_9 ⟨(Nat.le_of_ble_eq_true rfl), (Nat.le_of_ble_eq_true rfl)⟩) hS (fun q _ h => fr_last (ws := [(h0, .inr (1, [.null, .null, .int 0, .int 0, .null, .null, .null]))]) hD hS hA q h) (fr_last (ws := [(h0, .inr (1, [.null, .null, .int 0, .int 0, .null, .null, .null]))]) hD hS hA) (fun u t H1 locs ht hvm hw hB hz1 hk1 hS => ?_)
  obtain ⟨hB1, hB2⟩ := hB
  rw [ht] at hB1
  obtain ⟨hP, hD⟩ := jn_last (ws := [(h0, .inr (1, [.null, .null, .int 0, .int 0, .null, .null, .null]))]) hP hD hk1 (fr_last (ws := [(h0, .inr (1, [.null, .null, .int 0, .int 0, .null, .null, .null]))]) hD hS0 hA) hB1 hB2
  generalize H1 = H at hP hS ⊢
  have hP : va_P D vwCl [(h0, .inr (1, [.null, .null, .int 0, .int 0, .null, .null, .null])), (q1, .inr (0, [.int 0, .int 10, .int 0, .ref (u 1), .ref (u 2), .ref (u 3), .ref (u 4), .ref (u 5), .ref (u 6), .ref (u 7), .ref (u 8), .ref (u 9), .ref (u 10), .ref (u 11), .ref (u 12)])), ((u 1), .inl (cI, 24, .inl (fun _ => 0))), ((u 2), .inl (cI, 24, .inl (fun _ => 0))), ((u 3), .inl (cI, 24, .inl (fun _ => 0))), ((u 4), .inl (cI, 24, .inl (fun _ => 0))), ((u 5), .inl (cI, 8, .inl (fun _ => 0))), ((u 6), .inl (cI, 8, .inl (fun _ => -100009))), ((u 7), .inl (cI, 8, .inl (fun _ => 0))), ((u 8), .inl (cI, 8, .inl (fun _ => -100009))), ((u 9), .inl (cI, 8, .inl (fun _ => 0))), ((u 10), .inl (cI, 8, .inl (fun _ => -100009))), ((u 11), .inl (cI, 8, .inl (fun _ => 0))), ((u 12), .inl (cI, 8, .inl (fun _ => -100009)))] H := hP
  have hD : va_D A [(h0, .inr (1, [.null, .null, .int 0, .int 0, .null, .null, .null])), (q1, .inr (0, [.int 0, .int 10, .int 0, .ref (u 1), .ref (u 2), .ref (u 3), .ref (u 4), .ref (u 5), .ref (u 6), .ref (u 7), .ref (u 8), .ref (u 9), .ref (u 10), .ref (u 11), .ref (u 12)])), ((u 1), .inl (cI, 24, .inl (fun _ => 0))), ((u 2), .inl (cI, 24, .inl (fun _ => 0))), ((u 3), .inl (cI, 24, .inl (fun _ => 0))), ((u 4), .inl (cI, 24, .inl (fun _ => 0))), ((u 5), .inl (cI, 8, .inl (fun _ => 0))), ((u 6), .inl (cI, 8, .inl (fun _ => -100009))), ((u 7), .inl (cI, 8, .inl (fun _ => 0))), ((u 8), .inl (cI, 8, .inl (fun _ => -100009))), ((u 9), .inl (cI, 8, .inl (fun _ => 0))), ((u 10), .inl (cI, 8, .inl (fun _ => -100009))), ((u 11), .inl (cI, 8, .inl (fun _ => 0))), ((u 12), .inl (cI, 8, .inl (fun _ => -100009)))] := hD
  refine W.widen (k := 13) (n := 175) (Nat.le_refl _) (Nat.le_refl _) ?_
  refine va_putF (D := D) (ci := 1) (v := .ref q1) (ty := .object "FerryFloor$State") (C := RX1) (T := TX1) (N := 7) hx hb hts (by decide +kernel) tyX1 tyX1_ok nmX1 hown hK.1 hP hD hS 0 rfl rfl 0 (by decide) (hts (.fieldLink RX1 10 "FerryFloor" "now" "LFerryFloor$State;") (by decide +kernel)) (fun _ h9 => h9) rfl hin rfl (by decide +kernel) rfl rfl (Nat.le_of_ble_eq_true rfl) dX1_init_12 (fun H locs hP hD hS => ?_)
  have hP : va_P D vwCl [(h0, .inr (1, [.ref q1, .null, .int 0, .int 0, .null, .null, .null])), (q1, .inr (0, [.int 0, .int 10, .int 0, .ref (u 1), .ref (u 2), .ref (u 3), .ref (u 4), .ref (u 5), .ref (u 6), .ref (u 7), .ref (u 8), .ref (u 9), .ref (u 10), .ref (u 11), .ref (u 12)])), ((u 1), .inl (cI, 24, .inl (fun _ => 0))), ((u 2), .inl (cI, 24, .inl (fun _ => 0))), ((u 3), .inl (cI, 24, .inl (fun _ => 0))), ((u 4), .inl (cI, 24, .inl (fun _ => 0))), ((u 5), .inl (cI, 8, .inl (fun _ => 0))), ((u 6), .inl (cI, 8, .inl (fun _ => -100009))), ((u 7), .inl (cI, 8, .inl (fun _ => 0))), ((u 8), .inl (cI, 8, .inl (fun _ => -100009))), ((u 9), .inl (cI, 8, .inl (fun _ => 0))), ((u 10), .inl (cI, 8, .inl (fun _ => -100009))), ((u 11), .inl (cI, 8, .inl (fun _ => 0))), ((u 12), .inl (cI, 8, .inl (fun _ => -100009)))] H := hP
  have hD : va_D A [(h0, .inr (1, [.ref q1, .null, .int 0, .int 0, .null, .null, .null])), (q1, .inr (0, [.int 0, .int 10, .int 0, .ref (u 1), .ref (u 2), .ref (u 3), .ref (u 4), .ref (u 5), .ref (u 6), .ref (u 7), .ref (u 8), .ref (u 9), .ref (u 10), .ref (u 11), .ref (u 12)])), ((u 1), .inl (cI, 24, .inl (fun _ => 0))), ((u 2), .inl (cI, 24, .inl (fun _ => 0))), ((u 3), .inl (cI, 24, .inl (fun _ => 0))), ((u 4), .inl (cI, 24, .inl (fun _ => 0))), ((u 5), .inl (cI, 8, .inl (fun _ => 0))), ((u 6), .inl (cI, 8, .inl (fun _ => -100009))), ((u 7), .inl (cI, 8, .inl (fun _ => 0))), ((u 8), .inl (cI, 8, .inl (fun _ => -100009))), ((u 9), .inl (cI, 8, .inl (fun _ => 0))), ((u 10), .inl (cI, 8, .inl (fun _ => -100009))), ((u 11), .inl (cI, 8, .inl (fun _ => 0))), ((u 12), .inl (cI, 8, .inl (fun _ => -100009)))] := hD
  refine lv_aload_n hx hb dX1_init_15 rfl (lv_at hl 0 rfl) ?_
  refine lv_iconst (v := 5) hx hb dX1_init_16 (by decide) ?_
  refine va_newq (C := RX0) hx hb hown (hts (.classLink RX1 7 RX0) (by decide +kernel)) hAO hK.1 hP hD hS hA (N' := 5) (by decide) (by decide) (by decide) (Nat.le_of_ble_eq_true rfl) (Nat.le_of_ble_eq_true rfl) dX1_init_17 (fun q14 cA H hK1 hP hD hS => ?_)
  rw [ka_obj hK.1 hK1] at hP hD
  have hP : va_P D vwCl [(h0, .inr (1, [.ref q1, .null, .int 0, .int 0, .null, .null, .null])), (q1, .inr (0, [.int 0, .int 10, .int 0, .ref (u 1), .ref (u 2), .ref (u 3), .ref (u 4), .ref (u 5), .ref (u 6), .ref (u 7), .ref (u 8), .ref (u 9), .ref (u 10), .ref (u 11), .ref (u 12)])), ((u 1), .inl (cI, 24, .inl (fun _ => 0))), ((u 2), .inl (cI, 24, .inl (fun _ => 0))), ((u 3), .inl (cI, 24, .inl (fun _ => 0))), ((u 4), .inl (cI, 24, .inl (fun _ => 0))), ((u 5), .inl (cI, 8, .inl (fun _ => 0))), ((u 6), .inl (cI, 8, .inl (fun _ => -100009))), ((u 7), .inl (cI, 8, .inl (fun _ => 0))), ((u 8), .inl (cI, 8, .inl (fun _ => -100009))), ((u 9), .inl (cI, 8, .inl (fun _ => 0))), ((u 10), .inl (cI, 8, .inl (fun _ => -100009))), ((u 11), .inl (cI, 8, .inl (fun _ => 0))), ((u 12), .inl (cI, 8, .inl (fun _ => -100009))), (q14, .inl (cS, 5, .inr (.inr (.inr (.inr (fun _ => none))))))] H := hP
  have hD : va_D A [(h0, .inr (1, [.ref q1, .null, .int 0, .int 0, .null, .null, .null])), (q1, .inr (0, [.int 0, .int 10, .int 0, .ref (u 1), .ref (u 2), .ref (u 3), .ref (u 4), .ref (u 5), .ref (u 6), .ref (u 7), .ref (u 8), .ref (u 9), .ref (u 10), .ref (u 11), .ref (u 12)])), ((u 1), .inl (cI, 24, .inl (fun _ => 0))), ((u 2), .inl (cI, 24, .inl (fun _ => 0))), ((u 3), .inl (cI, 24, .inl (fun _ => 0))), ((u 4), .inl (cI, 24, .inl (fun _ => 0))), ((u 5), .inl (cI, 8, .inl (fun _ => 0))), ((u 6), .inl (cI, 8, .inl (fun _ => -100009))), ((u 7), .inl (cI, 8, .inl (fun _ => 0))), ((u 8), .inl (cI, 8, .inl (fun _ => -100009))), ((u 9), .inl (cI, 8, .inl (fun _ => 0))), ((u 10), .inl (cI, 8, .inl (fun _ => -100009))), ((u 11), .inl (cI, 8, .inl (fun _ => 0))), ((u 12), .inl (cI, 8, .inl (fun _ => -100009))), (q14, .inl (cS, 5, .inr (.inr (.inr (.inr (fun _ => none))))))] := hD
  refine W.widen (k := 14) (n := 180) (Nat.le_refl _) (Nat.le_refl _) ?_
  refine va_putF (D := D) (ci := 1) (v := .ref q14) (ty := .array (.object "FerryFloor$State")) (C := RX1) (T := TX1) (N := 7) hx hb hts (by decide +kernel) tyX1 tyX1_ok nmX1 hown hK.1 hP hD hS 0 rfl rfl 1 (by decide) (hts (.fieldLink RX1 16 "FerryFloor" "history" "[LFerryFloor$State;") (by decide +kernel)) (fun _ h9 => h9) rfl hin rfl (by decide +kernel) rfl rfl (Nat.le_of_ble_eq_true rfl) dX1_init_20 (fun H locs hP hD hS => ?_)
  have hP : va_P D vwCl [(h0, .inr (1, [.ref q1, .ref q14, .int 0, .int 0, .null, .null, .null])), (q1, .inr (0, [.int 0, .int 10, .int 0, .ref (u 1), .ref (u 2), .ref (u 3), .ref (u 4), .ref (u 5), .ref (u 6), .ref (u 7), .ref (u 8), .ref (u 9), .ref (u 10), .ref (u 11), .ref (u 12)])), ((u 1), .inl (cI, 24, .inl (fun _ => 0))), ((u 2), .inl (cI, 24, .inl (fun _ => 0))), ((u 3), .inl (cI, 24, .inl (fun _ => 0))), ((u 4), .inl (cI, 24, .inl (fun _ => 0))), ((u 5), .inl (cI, 8, .inl (fun _ => 0))), ((u 6), .inl (cI, 8, .inl (fun _ => -100009))), ((u 7), .inl (cI, 8, .inl (fun _ => 0))), ((u 8), .inl (cI, 8, .inl (fun _ => -100009))), ((u 9), .inl (cI, 8, .inl (fun _ => 0))), ((u 10), .inl (cI, 8, .inl (fun _ => -100009))), ((u 11), .inl (cI, 8, .inl (fun _ => 0))), ((u 12), .inl (cI, 8, .inl (fun _ => -100009))), (q14, .inl (cS, 5, .inr (.inr (.inr (.inr (fun _ => none))))))] H := hP
  have hD : va_D A [(h0, .inr (1, [.ref q1, .ref q14, .int 0, .int 0, .null, .null, .null])), (q1, .inr (0, [.int 0, .int 10, .int 0, .ref (u 1), .ref (u 2), .ref (u 3), .ref (u 4), .ref (u 5), .ref (u 6), .ref (u 7), .ref (u 8), .ref (u 9), .ref (u 10), .ref (u 11), .ref (u 12)])), ((u 1), .inl (cI, 24, .inl (fun _ => 0))), ((u 2), .inl (cI, 24, .inl (fun _ => 0))), ((u 3), .inl (cI, 24, .inl (fun _ => 0))), ((u 4), .inl (cI, 24, .inl (fun _ => 0))), ((u 5), .inl (cI, 8, .inl (fun _ => 0))), ((u 6), .inl (cI, 8, .inl (fun _ => -100009))), ((u 7), .inl (cI, 8, .inl (fun _ => 0))), ((u 8), .inl (cI, 8, .inl (fun _ => -100009))), ((u 9), .inl (cI, 8, .inl (fun _ => 0))), ((u 10), .inl (cI, 8, .inl (fun _ => -100009))), ((u 11), .inl (cI, 8, .inl (fun _ => 0))), ((u 12), .inl (cI, 8, .inl (fun _ => -100009))), (q14, .inl (cS, 5, .inr (.inr (.inr (.inr (fun _ => none))))))] := hD
  refine lv_aload_n hx hb dX1_init_23 rfl (lv_at hl 0 rfl) ?_
  refine lv_iconst (v := 0) hx hb dX1_init_24 (by decide) ?_
  refine va_put (D := D) (ci := 1) (v := .int 0) (ty := .int) (C := RX1) (T := TX1) (N := 7) hx hb hts (by decide +kernel) tyX1 tyX1_ok nmX1 hown hK.1 hP hD hS 0 rfl rfl 2 (by decide) (hts (.fieldLink RX1 20 "FerryFloor" "oldest" "I") (by decide +kernel)) (fun _ h9 => h9) rfl (by decide +kernel) rfl rfl (Nat.le_of_ble_eq_true rfl) dX1_init_25 (fun H locs hP hD hS => ?_)
  have hP : va_P D vwCl [(h0, .inr (1, [.ref q1, .ref q14, .int 0, .int 0, .null, .null, .null])), (q1, .inr (0, [.int 0, .int 10, .int 0, .ref (u 1), .ref (u 2), .ref (u 3), .ref (u 4), .ref (u 5), .ref (u 6), .ref (u 7), .ref (u 8), .ref (u 9), .ref (u 10), .ref (u 11), .ref (u 12)])), ((u 1), .inl (cI, 24, .inl (fun _ => 0))), ((u 2), .inl (cI, 24, .inl (fun _ => 0))), ((u 3), .inl (cI, 24, .inl (fun _ => 0))), ((u 4), .inl (cI, 24, .inl (fun _ => 0))), ((u 5), .inl (cI, 8, .inl (fun _ => 0))), ((u 6), .inl (cI, 8, .inl (fun _ => -100009))), ((u 7), .inl (cI, 8, .inl (fun _ => 0))), ((u 8), .inl (cI, 8, .inl (fun _ => -100009))), ((u 9), .inl (cI, 8, .inl (fun _ => 0))), ((u 10), .inl (cI, 8, .inl (fun _ => -100009))), ((u 11), .inl (cI, 8, .inl (fun _ => 0))), ((u 12), .inl (cI, 8, .inl (fun _ => -100009))), (q14, .inl (cS, 5, .inr (.inr (.inr (.inr (fun _ => none))))))] H := hP
  have hD : va_D A [(h0, .inr (1, [.ref q1, .ref q14, .int 0, .int 0, .null, .null, .null])), (q1, .inr (0, [.int 0, .int 10, .int 0, .ref (u 1), .ref (u 2), .ref (u 3), .ref (u 4), .ref (u 5), .ref (u 6), .ref (u 7), .ref (u 8), .ref (u 9), .ref (u 10), .ref (u 11), .ref (u 12)])), ((u 1), .inl (cI, 24, .inl (fun _ => 0))), ((u 2), .inl (cI, 24, .inl (fun _ => 0))), ((u 3), .inl (cI, 24, .inl (fun _ => 0))), ((u 4), .inl (cI, 24, .inl (fun _ => 0))), ((u 5), .inl (cI, 8, .inl (fun _ => 0))), ((u 6), .inl (cI, 8, .inl (fun _ => -100009))), ((u 7), .inl (cI, 8, .inl (fun _ => 0))), ((u 8), .inl (cI, 8, .inl (fun _ => -100009))), ((u 9), .inl (cI, 8, .inl (fun _ => 0))), ((u 10), .inl (cI, 8, .inl (fun _ => -100009))), ((u 11), .inl (cI, 8, .inl (fun _ => 0))), ((u 12), .inl (cI, 8, .inl (fun _ => -100009))), (q14, .inl (cS, 5, .inr (.inr (.inr (.inr (fun _ => none))))))] := hD
  refine lv_aload_n hx hb dX1_init_28 rfl (lv_at hl 0 rfl) ?_
  refine lv_iconst (v := 0) hx hb dX1_init_29 (by decide) ?_
  refine va_put (D := D) (ci := 1) (v := .int 0) (ty := .int) (C := RX1) (T := TX1) (N := 7) hx hb hts (by decide +kernel) tyX1 tyX1_ok nmX1 hown hK.1 hP hD hS 0 rfl rfl 3 (by decide) (hts (.fieldLink RX1 24 "FerryFloor" "kept" "I") (by decide +kernel)) (fun _ h9 => h9) rfl (by decide +kernel) rfl rfl (Nat.le_of_ble_eq_true rfl) dX1_init_30 (fun H locs hP hD hS => ?_)
  have hP : va_P D vwCl [(h0, .inr (1, [.ref q1, .ref q14, .int 0, .int 0, .null, .null, .null])), (q1, .inr (0, [.int 0, .int 10, .int 0, .ref (u 1), .ref (u 2), .ref (u 3), .ref (u 4), .ref (u 5), .ref (u 6), .ref (u 7), .ref (u 8), .ref (u 9), .ref (u 10), .ref (u 11), .ref (u 12)])), ((u 1), .inl (cI, 24, .inl (fun _ => 0))), ((u 2), .inl (cI, 24, .inl (fun _ => 0))), ((u 3), .inl (cI, 24, .inl (fun _ => 0))), ((u 4), .inl (cI, 24, .inl (fun _ => 0))), ((u 5), .inl (cI, 8, .inl (fun _ => 0))), ((u 6), .inl (cI, 8, .inl (fun _ => -100009))), ((u 7), .inl (cI, 8, .inl (fun _ => 0))), ((u 8), .inl (cI, 8, .inl (fun _ => -100009))), ((u 9), .inl (cI, 8, .inl (fun _ => 0))), ((u 10), .inl (cI, 8, .inl (fun _ => -100009))), ((u 11), .inl (cI, 8, .inl (fun _ => 0))), ((u 12), .inl (cI, 8, .inl (fun _ => -100009))), (q14, .inl (cS, 5, .inr (.inr (.inr (.inr (fun _ => none))))))] H := hP
  have hD : va_D A [(h0, .inr (1, [.ref q1, .ref q14, .int 0, .int 0, .null, .null, .null])), (q1, .inr (0, [.int 0, .int 10, .int 0, .ref (u 1), .ref (u 2), .ref (u 3), .ref (u 4), .ref (u 5), .ref (u 6), .ref (u 7), .ref (u 8), .ref (u 9), .ref (u 10), .ref (u 11), .ref (u 12)])), ((u 1), .inl (cI, 24, .inl (fun _ => 0))), ((u 2), .inl (cI, 24, .inl (fun _ => 0))), ((u 3), .inl (cI, 24, .inl (fun _ => 0))), ((u 4), .inl (cI, 24, .inl (fun _ => 0))), ((u 5), .inl (cI, 8, .inl (fun _ => 0))), ((u 6), .inl (cI, 8, .inl (fun _ => -100009))), ((u 7), .inl (cI, 8, .inl (fun _ => 0))), ((u 8), .inl (cI, 8, .inl (fun _ => -100009))), ((u 9), .inl (cI, 8, .inl (fun _ => 0))), ((u 10), .inl (cI, 8, .inl (fun _ => -100009))), ((u 11), .inl (cI, 8, .inl (fun _ => 0))), ((u 12), .inl (cI, 8, .inl (fun _ => -100009))), (q14, .inl (cS, 5, .inr (.inr (.inr (.inr (fun _ => none))))))] := hD
  refine lv_aload_n hx hb dX1_init_33 rfl (lv_at hl 0 rfl) ?_
  refine lv_bipush (v := 24) hx hb dX1_init_34 (by decide) ?_
  refine va_newa (atype := .int) (a0 := (24, .inl (fun _ => 0))) (N' := 24) hx hb (hts (.arrayClass .int) (by decide +kernel)) rfl hK.1 hP hD hS hA (fun cA => rfl) (by decide) (by decide) (by decide) (Nat.le_of_ble_eq_true rfl) (Nat.le_of_ble_eq_true rfl) dX1_init_36 (fun q15 cA H hK1 hP hD hS => ?_)
  rw [ka_int hK.1 hK1] at hP hD
  have hP : va_P D vwCl [(h0, .inr (1, [.ref q1, .ref q14, .int 0, .int 0, .null, .null, .null])), (q1, .inr (0, [.int 0, .int 10, .int 0, .ref (u 1), .ref (u 2), .ref (u 3), .ref (u 4), .ref (u 5), .ref (u 6), .ref (u 7), .ref (u 8), .ref (u 9), .ref (u 10), .ref (u 11), .ref (u 12)])), ((u 1), .inl (cI, 24, .inl (fun _ => 0))), ((u 2), .inl (cI, 24, .inl (fun _ => 0))), ((u 3), .inl (cI, 24, .inl (fun _ => 0))), ((u 4), .inl (cI, 24, .inl (fun _ => 0))), ((u 5), .inl (cI, 8, .inl (fun _ => 0))), ((u 6), .inl (cI, 8, .inl (fun _ => -100009))), ((u 7), .inl (cI, 8, .inl (fun _ => 0))), ((u 8), .inl (cI, 8, .inl (fun _ => -100009))), ((u 9), .inl (cI, 8, .inl (fun _ => 0))), ((u 10), .inl (cI, 8, .inl (fun _ => -100009))), ((u 11), .inl (cI, 8, .inl (fun _ => 0))), ((u 12), .inl (cI, 8, .inl (fun _ => -100009))), (q14, .inl (cS, 5, .inr (.inr (.inr (.inr (fun _ => none)))))), (q15, .inl (cI, 24, .inl (fun _ => 0)))] H := hP
  have hD : va_D A [(h0, .inr (1, [.ref q1, .ref q14, .int 0, .int 0, .null, .null, .null])), (q1, .inr (0, [.int 0, .int 10, .int 0, .ref (u 1), .ref (u 2), .ref (u 3), .ref (u 4), .ref (u 5), .ref (u 6), .ref (u 7), .ref (u 8), .ref (u 9), .ref (u 10), .ref (u 11), .ref (u 12)])), ((u 1), .inl (cI, 24, .inl (fun _ => 0))), ((u 2), .inl (cI, 24, .inl (fun _ => 0))), ((u 3), .inl (cI, 24, .inl (fun _ => 0))), ((u 4), .inl (cI, 24, .inl (fun _ => 0))), ((u 5), .inl (cI, 8, .inl (fun _ => 0))), ((u 6), .inl (cI, 8, .inl (fun _ => -100009))), ((u 7), .inl (cI, 8, .inl (fun _ => 0))), ((u 8), .inl (cI, 8, .inl (fun _ => -100009))), ((u 9), .inl (cI, 8, .inl (fun _ => 0))), ((u 10), .inl (cI, 8, .inl (fun _ => -100009))), ((u 11), .inl (cI, 8, .inl (fun _ => 0))), ((u 12), .inl (cI, 8, .inl (fun _ => -100009))), (q14, .inl (cS, 5, .inr (.inr (.inr (.inr (fun _ => none)))))), (q15, .inl (cI, 24, .inl (fun _ => 0)))] := hD
  refine W.widen (k := 15) (n := 204) (Nat.le_refl _) (Nat.le_refl _) ?_
  refine va_putF (D := D) (ci := 1) (v := .ref q15) (ty := .array .int) (C := RX1) (T := TX1) (N := 7) hx hb hts (by decide +kernel) tyX1 tyX1_ok nmX1 hown hK.1 hP hD hS 0 rfl rfl 4 (by decide) (hts (.fieldLink RX1 27 "FerryFloor" "readings" "[I") (by decide +kernel)) (fun _ h9 => h9) rfl hin rfl (by decide +kernel) rfl rfl (Nat.le_of_ble_eq_true rfl) dX1_init_38 (fun H locs hP hD hS => ?_)
  have hP : va_P D vwCl [(h0, .inr (1, [.ref q1, .ref q14, .int 0, .int 0, .ref q15, .null, .null])), (q1, .inr (0, [.int 0, .int 10, .int 0, .ref (u 1), .ref (u 2), .ref (u 3), .ref (u 4), .ref (u 5), .ref (u 6), .ref (u 7), .ref (u 8), .ref (u 9), .ref (u 10), .ref (u 11), .ref (u 12)])), ((u 1), .inl (cI, 24, .inl (fun _ => 0))), ((u 2), .inl (cI, 24, .inl (fun _ => 0))), ((u 3), .inl (cI, 24, .inl (fun _ => 0))), ((u 4), .inl (cI, 24, .inl (fun _ => 0))), ((u 5), .inl (cI, 8, .inl (fun _ => 0))), ((u 6), .inl (cI, 8, .inl (fun _ => -100009))), ((u 7), .inl (cI, 8, .inl (fun _ => 0))), ((u 8), .inl (cI, 8, .inl (fun _ => -100009))), ((u 9), .inl (cI, 8, .inl (fun _ => 0))), ((u 10), .inl (cI, 8, .inl (fun _ => -100009))), ((u 11), .inl (cI, 8, .inl (fun _ => 0))), ((u 12), .inl (cI, 8, .inl (fun _ => -100009))), (q14, .inl (cS, 5, .inr (.inr (.inr (.inr (fun _ => none)))))), (q15, .inl (cI, 24, .inl (fun _ => 0)))] H := hP
  have hD : va_D A [(h0, .inr (1, [.ref q1, .ref q14, .int 0, .int 0, .ref q15, .null, .null])), (q1, .inr (0, [.int 0, .int 10, .int 0, .ref (u 1), .ref (u 2), .ref (u 3), .ref (u 4), .ref (u 5), .ref (u 6), .ref (u 7), .ref (u 8), .ref (u 9), .ref (u 10), .ref (u 11), .ref (u 12)])), ((u 1), .inl (cI, 24, .inl (fun _ => 0))), ((u 2), .inl (cI, 24, .inl (fun _ => 0))), ((u 3), .inl (cI, 24, .inl (fun _ => 0))), ((u 4), .inl (cI, 24, .inl (fun _ => 0))), ((u 5), .inl (cI, 8, .inl (fun _ => 0))), ((u 6), .inl (cI, 8, .inl (fun _ => -100009))), ((u 7), .inl (cI, 8, .inl (fun _ => 0))), ((u 8), .inl (cI, 8, .inl (fun _ => -100009))), ((u 9), .inl (cI, 8, .inl (fun _ => 0))), ((u 10), .inl (cI, 8, .inl (fun _ => -100009))), ((u 11), .inl (cI, 8, .inl (fun _ => 0))), ((u 12), .inl (cI, 8, .inl (fun _ => -100009))), (q14, .inl (cS, 5, .inr (.inr (.inr (.inr (fun _ => none)))))), (q15, .inl (cI, 24, .inl (fun _ => 0)))] := hD
  refine lv_aload_n hx hb dX1_init_41 rfl (lv_at hl 0 rfl) ?_
  refine lv_bipush (v := 24) hx hb dX1_init_42 (by decide) ?_
  refine va_newa (atype := .int) (a0 := (24, .inl (fun _ => 0))) (N' := 24) hx hb (hts (.arrayClass .int) (by decide +kernel)) rfl hK.1 hP hD hS hA (fun cA => rfl) (by decide) (by decide) (by decide) (Nat.le_of_ble_eq_true rfl) (Nat.le_of_ble_eq_true rfl) dX1_init_44 (fun q16 cA H hK1 hP hD hS => ?_)
  rw [ka_int hK.1 hK1] at hP hD
  have hP : va_P D vwCl [(h0, .inr (1, [.ref q1, .ref q14, .int 0, .int 0, .ref q15, .null, .null])), (q1, .inr (0, [.int 0, .int 10, .int 0, .ref (u 1), .ref (u 2), .ref (u 3), .ref (u 4), .ref (u 5), .ref (u 6), .ref (u 7), .ref (u 8), .ref (u 9), .ref (u 10), .ref (u 11), .ref (u 12)])), ((u 1), .inl (cI, 24, .inl (fun _ => 0))), ((u 2), .inl (cI, 24, .inl (fun _ => 0))), ((u 3), .inl (cI, 24, .inl (fun _ => 0))), ((u 4), .inl (cI, 24, .inl (fun _ => 0))), ((u 5), .inl (cI, 8, .inl (fun _ => 0))), ((u 6), .inl (cI, 8, .inl (fun _ => -100009))), ((u 7), .inl (cI, 8, .inl (fun _ => 0))), ((u 8), .inl (cI, 8, .inl (fun _ => -100009))), ((u 9), .inl (cI, 8, .inl (fun _ => 0))), ((u 10), .inl (cI, 8, .inl (fun _ => -100009))), ((u 11), .inl (cI, 8, .inl (fun _ => 0))), ((u 12), .inl (cI, 8, .inl (fun _ => -100009))), (q14, .inl (cS, 5, .inr (.inr (.inr (.inr (fun _ => none)))))), (q15, .inl (cI, 24, .inl (fun _ => 0))), (q16, .inl (cI, 24, .inl (fun _ => 0)))] H := hP
  have hD : va_D A [(h0, .inr (1, [.ref q1, .ref q14, .int 0, .int 0, .ref q15, .null, .null])), (q1, .inr (0, [.int 0, .int 10, .int 0, .ref (u 1), .ref (u 2), .ref (u 3), .ref (u 4), .ref (u 5), .ref (u 6), .ref (u 7), .ref (u 8), .ref (u 9), .ref (u 10), .ref (u 11), .ref (u 12)])), ((u 1), .inl (cI, 24, .inl (fun _ => 0))), ((u 2), .inl (cI, 24, .inl (fun _ => 0))), ((u 3), .inl (cI, 24, .inl (fun _ => 0))), ((u 4), .inl (cI, 24, .inl (fun _ => 0))), ((u 5), .inl (cI, 8, .inl (fun _ => 0))), ((u 6), .inl (cI, 8, .inl (fun _ => -100009))), ((u 7), .inl (cI, 8, .inl (fun _ => 0))), ((u 8), .inl (cI, 8, .inl (fun _ => -100009))), ((u 9), .inl (cI, 8, .inl (fun _ => 0))), ((u 10), .inl (cI, 8, .inl (fun _ => -100009))), ((u 11), .inl (cI, 8, .inl (fun _ => 0))), ((u 12), .inl (cI, 8, .inl (fun _ => -100009))), (q14, .inl (cS, 5, .inr (.inr (.inr (.inr (fun _ => none)))))), (q15, .inl (cI, 24, .inl (fun _ => 0))), (q16, .inl (cI, 24, .inl (fun _ => 0)))] := hD
  refine W.widen (k := 16) (n := 228) (Nat.le_refl _) (Nat.le_refl _) ?_
  refine va_putF (D := D) (ci := 1) (v := .ref q16) (ty := .array .int) (C := RX1) (T := TX1) (N := 7) hx hb hts (by decide +kernel) tyX1 tyX1_ok nmX1 hown hK.1 hP hD hS 0 rfl rfl 5 (by decide) (hts (.fieldLink RX1 31 "FerryFloor" "expected" "[I") (by decide +kernel)) (fun _ h9 => h9) rfl hin rfl (by decide +kernel) rfl rfl (Nat.le_of_ble_eq_true rfl) dX1_init_46 (fun H locs hP hD hS => ?_)
  have hP : va_P D vwCl [(h0, .inr (1, [.ref q1, .ref q14, .int 0, .int 0, .ref q15, .ref q16, .null])), (q1, .inr (0, [.int 0, .int 10, .int 0, .ref (u 1), .ref (u 2), .ref (u 3), .ref (u 4), .ref (u 5), .ref (u 6), .ref (u 7), .ref (u 8), .ref (u 9), .ref (u 10), .ref (u 11), .ref (u 12)])), ((u 1), .inl (cI, 24, .inl (fun _ => 0))), ((u 2), .inl (cI, 24, .inl (fun _ => 0))), ((u 3), .inl (cI, 24, .inl (fun _ => 0))), ((u 4), .inl (cI, 24, .inl (fun _ => 0))), ((u 5), .inl (cI, 8, .inl (fun _ => 0))), ((u 6), .inl (cI, 8, .inl (fun _ => -100009))), ((u 7), .inl (cI, 8, .inl (fun _ => 0))), ((u 8), .inl (cI, 8, .inl (fun _ => -100009))), ((u 9), .inl (cI, 8, .inl (fun _ => 0))), ((u 10), .inl (cI, 8, .inl (fun _ => -100009))), ((u 11), .inl (cI, 8, .inl (fun _ => 0))), ((u 12), .inl (cI, 8, .inl (fun _ => -100009))), (q14, .inl (cS, 5, .inr (.inr (.inr (.inr (fun _ => none)))))), (q15, .inl (cI, 24, .inl (fun _ => 0))), (q16, .inl (cI, 24, .inl (fun _ => 0)))] H := hP
  have hD : va_D A [(h0, .inr (1, [.ref q1, .ref q14, .int 0, .int 0, .ref q15, .ref q16, .null])), (q1, .inr (0, [.int 0, .int 10, .int 0, .ref (u 1), .ref (u 2), .ref (u 3), .ref (u 4), .ref (u 5), .ref (u 6), .ref (u 7), .ref (u 8), .ref (u 9), .ref (u 10), .ref (u 11), .ref (u 12)])), ((u 1), .inl (cI, 24, .inl (fun _ => 0))), ((u 2), .inl (cI, 24, .inl (fun _ => 0))), ((u 3), .inl (cI, 24, .inl (fun _ => 0))), ((u 4), .inl (cI, 24, .inl (fun _ => 0))), ((u 5), .inl (cI, 8, .inl (fun _ => 0))), ((u 6), .inl (cI, 8, .inl (fun _ => -100009))), ((u 7), .inl (cI, 8, .inl (fun _ => 0))), ((u 8), .inl (cI, 8, .inl (fun _ => -100009))), ((u 9), .inl (cI, 8, .inl (fun _ => 0))), ((u 10), .inl (cI, 8, .inl (fun _ => -100009))), ((u 11), .inl (cI, 8, .inl (fun _ => 0))), ((u 12), .inl (cI, 8, .inl (fun _ => -100009))), (q14, .inl (cS, 5, .inr (.inr (.inr (.inr (fun _ => none)))))), (q15, .inl (cI, 24, .inl (fun _ => 0))), (q16, .inl (cI, 24, .inl (fun _ => 0)))] := hD
  refine lv_aload_n hx hb dX1_init_49 rfl (lv_at hl 0 rfl) ?_
  refine lv_bipush (v := 8) hx hb dX1_init_50 (by decide) ?_
  refine va_newa (atype := .int) (a0 := (8, .inl (fun _ => 0))) (N' := 8) hx hb (hts (.arrayClass .int) (by decide +kernel)) rfl hK.1 hP hD hS hA (fun cA => rfl) (by decide) (by decide) (by decide) (Nat.le_of_ble_eq_true rfl) (Nat.le_of_ble_eq_true rfl) dX1_init_52 (fun q17 cA H hK1 hP hD hS => ?_)
  rw [ka_int hK.1 hK1] at hP hD
  have hP : va_P D vwCl [(h0, .inr (1, [.ref q1, .ref q14, .int 0, .int 0, .ref q15, .ref q16, .null])), (q1, .inr (0, [.int 0, .int 10, .int 0, .ref (u 1), .ref (u 2), .ref (u 3), .ref (u 4), .ref (u 5), .ref (u 6), .ref (u 7), .ref (u 8), .ref (u 9), .ref (u 10), .ref (u 11), .ref (u 12)])), ((u 1), .inl (cI, 24, .inl (fun _ => 0))), ((u 2), .inl (cI, 24, .inl (fun _ => 0))), ((u 3), .inl (cI, 24, .inl (fun _ => 0))), ((u 4), .inl (cI, 24, .inl (fun _ => 0))), ((u 5), .inl (cI, 8, .inl (fun _ => 0))), ((u 6), .inl (cI, 8, .inl (fun _ => -100009))), ((u 7), .inl (cI, 8, .inl (fun _ => 0))), ((u 8), .inl (cI, 8, .inl (fun _ => -100009))), ((u 9), .inl (cI, 8, .inl (fun _ => 0))), ((u 10), .inl (cI, 8, .inl (fun _ => -100009))), ((u 11), .inl (cI, 8, .inl (fun _ => 0))), ((u 12), .inl (cI, 8, .inl (fun _ => -100009))), (q14, .inl (cS, 5, .inr (.inr (.inr (.inr (fun _ => none)))))), (q15, .inl (cI, 24, .inl (fun _ => 0))), (q16, .inl (cI, 24, .inl (fun _ => 0))), (q17, .inl (cI, 8, .inl (fun _ => 0)))] H := hP
  have hD : va_D A [(h0, .inr (1, [.ref q1, .ref q14, .int 0, .int 0, .ref q15, .ref q16, .null])), (q1, .inr (0, [.int 0, .int 10, .int 0, .ref (u 1), .ref (u 2), .ref (u 3), .ref (u 4), .ref (u 5), .ref (u 6), .ref (u 7), .ref (u 8), .ref (u 9), .ref (u 10), .ref (u 11), .ref (u 12)])), ((u 1), .inl (cI, 24, .inl (fun _ => 0))), ((u 2), .inl (cI, 24, .inl (fun _ => 0))), ((u 3), .inl (cI, 24, .inl (fun _ => 0))), ((u 4), .inl (cI, 24, .inl (fun _ => 0))), ((u 5), .inl (cI, 8, .inl (fun _ => 0))), ((u 6), .inl (cI, 8, .inl (fun _ => -100009))), ((u 7), .inl (cI, 8, .inl (fun _ => 0))), ((u 8), .inl (cI, 8, .inl (fun _ => -100009))), ((u 9), .inl (cI, 8, .inl (fun _ => 0))), ((u 10), .inl (cI, 8, .inl (fun _ => -100009))), ((u 11), .inl (cI, 8, .inl (fun _ => 0))), ((u 12), .inl (cI, 8, .inl (fun _ => -100009))), (q14, .inl (cS, 5, .inr (.inr (.inr (.inr (fun _ => none)))))), (q15, .inl (cI, 24, .inl (fun _ => 0))), (q16, .inl (cI, 24, .inl (fun _ => 0))), (q17, .inl (cI, 8, .inl (fun _ => 0)))] := hD
  refine W.widen (k := 17) (n := 236) (Nat.le_refl _) (Nat.le_refl _) ?_
  refine va_putF (D := D) (ci := 1) (v := .ref q17) (ty := .array .int) (C := RX1) (T := TX1) (N := 7) hx hb hts (by decide +kernel) tyX1 tyX1_ok nmX1 hown hK.1 hP hD hS 0 rfl rfl 6 (by decide) (hts (.fieldLink RX1 34 "FerryFloor" "trial" "[I") (by decide +kernel)) (fun _ h9 => h9) rfl hin rfl (by decide +kernel) rfl rfl (Nat.le_of_ble_eq_true rfl) dX1_init_54 (fun H locs hP hD hS => ?_)
  have hP : va_P D vwCl [(h0, .inr (1, [.ref q1, .ref q14, .int 0, .int 0, .ref q15, .ref q16, .ref q17])), (q1, .inr (0, [.int 0, .int 10, .int 0, .ref (u 1), .ref (u 2), .ref (u 3), .ref (u 4), .ref (u 5), .ref (u 6), .ref (u 7), .ref (u 8), .ref (u 9), .ref (u 10), .ref (u 11), .ref (u 12)])), ((u 1), .inl (cI, 24, .inl (fun _ => 0))), ((u 2), .inl (cI, 24, .inl (fun _ => 0))), ((u 3), .inl (cI, 24, .inl (fun _ => 0))), ((u 4), .inl (cI, 24, .inl (fun _ => 0))), ((u 5), .inl (cI, 8, .inl (fun _ => 0))), ((u 6), .inl (cI, 8, .inl (fun _ => -100009))), ((u 7), .inl (cI, 8, .inl (fun _ => 0))), ((u 8), .inl (cI, 8, .inl (fun _ => -100009))), ((u 9), .inl (cI, 8, .inl (fun _ => 0))), ((u 10), .inl (cI, 8, .inl (fun _ => -100009))), ((u 11), .inl (cI, 8, .inl (fun _ => 0))), ((u 12), .inl (cI, 8, .inl (fun _ => -100009))), (q14, .inl (cS, 5, .inr (.inr (.inr (.inr (fun _ => none)))))), (q15, .inl (cI, 24, .inl (fun _ => 0))), (q16, .inl (cI, 24, .inl (fun _ => 0))), (q17, .inl (cI, 8, .inl (fun _ => 0)))] H := hP
  have hD : va_D A [(h0, .inr (1, [.ref q1, .ref q14, .int 0, .int 0, .ref q15, .ref q16, .ref q17])), (q1, .inr (0, [.int 0, .int 10, .int 0, .ref (u 1), .ref (u 2), .ref (u 3), .ref (u 4), .ref (u 5), .ref (u 6), .ref (u 7), .ref (u 8), .ref (u 9), .ref (u 10), .ref (u 11), .ref (u 12)])), ((u 1), .inl (cI, 24, .inl (fun _ => 0))), ((u 2), .inl (cI, 24, .inl (fun _ => 0))), ((u 3), .inl (cI, 24, .inl (fun _ => 0))), ((u 4), .inl (cI, 24, .inl (fun _ => 0))), ((u 5), .inl (cI, 8, .inl (fun _ => 0))), ((u 6), .inl (cI, 8, .inl (fun _ => -100009))), ((u 7), .inl (cI, 8, .inl (fun _ => 0))), ((u 8), .inl (cI, 8, .inl (fun _ => -100009))), ((u 9), .inl (cI, 8, .inl (fun _ => 0))), ((u 10), .inl (cI, 8, .inl (fun _ => -100009))), ((u 11), .inl (cI, 8, .inl (fun _ => 0))), ((u 12), .inl (cI, 8, .inl (fun _ => -100009))), (q14, .inl (cS, 5, .inr (.inr (.inr (.inr (fun _ => none)))))), (q15, .inl (cI, 24, .inl (fun _ => 0))), (q16, .inl (cI, 24, .inl (fun _ => 0))), (q17, .inl (cI, 8, .inl (fun _ => 0)))] := hD
  refine lv_iconst (v := 0) hx hb dX1_init_57 (by decide) ?_
  refine lv_istore_n (lv' := [(1, .int 0), (0, .ref h0)]) hx hb dX1_init_58 rfl hl (by decide) rfl (fun ls hl => ?_)
  refine q_loopC (fun n => 82 - 13 * n) (fun n => 1111 - 175 * n) (fun nn H locs ls => ∃ (k : Nat) (ad : Nat → Nat), k + nn = 5 ∧ ad 0 = h0 ∧ va_P D vwCl (gwl (18 + 13 * k) ad (CK cI cS ad k)) H ∧ va_D A (gwl (18 + 13 * k) ad (CK cI cS ad k)) ∧ va_S A s.heap H locs ∧ lv_has ls 2 [(1, .int (nI k)), (0, .ref (ad 0))]) 5 ⟨0, fun i => [h0, q1, u 1, u 2, u 3, u 4, u 5, u 6, u 7, u 8, u 9, u 10, u 11, u 12, q14, q15, q16, q17].getD i 0, by omega, rfl, hP, hD, hS, hl⟩ ?_ ?_
  · intro H locs ls hz
    obtain ⟨k, ad, hk, h0e, hP, hD, hS, hl⟩ := hz
    have hk5 : k = 5 := by omega
    subst hk5
    refine lv_iload_n hx hb dX1_init_59 rfl (lv_at hl 0 rfl) ?_
    refine lv_iconst (v := 5) hx hb dX1_init_60 (by decide) ?_
    refine lv_icmp_ge (tgt := 83) hx hb dX1_init_61 (by decide) (fun c_61 => ?_) (fun c_61 => ?_)
    · have hPe := CK_end hP
      have hDe : va_D A (gwl 83 ad (CC cI cS ad R00 F00)) := by
        refine ⟨fun i j p q hi hj hpq => ?_, fun i p hi => ?_⟩
        · have hi1 := (List.getElem?_eq_some_iff.mp hi).1
          have hj1 := (List.getElem?_eq_some_iff.mp hj).1
          rw [gwl_len] at hi1 hj1
          rw [gwl_at hi1] at hi
          rw [gwl_at hj1] at hj
          cases hi
          cases hj
          exact hD.1 i j _ _ (gwl_at hi1) (gwl_at hj1) hpq
        · have hi1 := (List.getElem?_eq_some_iff.mp hi).1
          rw [gwl_len] at hi1
          rw [gwl_at hi1] at hi
          cases hi
          exact hD.2 i (ad i, CK cI cS ad 5 i) (gwl_at hi1)
      exact W.vret hx hb hr (fun t ht hW => ⟨⟨ad, rfl, trivial, h0e, by rw [ht]; exact hPe, hDe⟩, hS.F ht⟩) hS.2.2 dX1_init_83
    · exact absurd (nI_le (a := 5) (b := 5) (by omega) (by omega)) c_61
  · intro n ih H locs ls hz
    obtain ⟨k, ad, hk, h0e, hP, hD, hS, hl⟩ := hz
    have hk5 : k < 5 := by omega
    refine lv_iload_n hx hb dX1_init_59 rfl (lv_at hl 0 rfl) ?_
    refine lv_iconst (v := 5) hx hb dX1_init_60 (by decide) ?_
    refine lv_icmp_ge (tgt := 83) hx hb dX1_init_61 (by decide) (fun c_61 => ?_) (fun c_61 => ?_)
    · exact absurd c_61 (nI_ge (a := k) (b := 5) (by omega) (by omega))
    · refine lv_aload_n hx hb dX1_init_64 rfl (lv_at hl 1 rfl) ?_
      refine va_get (D := D) (ci := 1) (v := .ref (ad 14)) (C := RX1) (T := TX1) (N := 7) hx hb hts (by decide +kernel) hown hK.1 hP 0 (gwl_at (by omega)) rfl 1 (by decide) (hts (.fieldLink RX1 16 "FerryFloor" "history" "[LFerryFloor$State;") (by decide +kernel)) (fun _ h9 => h9) rfl dX1_init_65 ?_
      refine lv_iload_n hx hb dX1_init_68 rfl (lv_at hl 0 rfl) ?_
      refine va_new (ci := 0) (fs := [.int 0, .int 0, .int 0, .null, .null, .null, .null, .null, .null, .null, .null, .null, .null, .null, .null]) (C := RX0) (T := TX0) (N := 15) hx hb hts (by decide +kernel) tyX0 tyX0_ok hown (hts (.classLink RX1 7 RX0) (by decide +kernel)) (hts (.instantiable RX0 15) (by decide +kernel)) (hts (.initialized RX0) (by decide +kernel)) hK.1 hP hD hS hA rfl (by decide) (by show _ ≤ 82; omega) (by show _ ≤ 1111; omega) dX1_init_69 (fun q H hP hD hS => ?_)
      have hP : va_P D vwCl (gwl (18 + 13 * k) ad (CK cI cS ad k) ++ [(q, st0)]) H := hP
      have hD : va_D A (gwl (18 + 13 * k) ad (CK cI cS ad k) ++ [(q, st0)]) := hD
      refine lv_dup hx hb dX1_init_72 rfl ?_
      have hS0 := hS
      refine va_callv (va_runI (As := []) (rest := [.ref q, .int (nI k), .ref (ad 14)]) ⟨hx, hb, hml, hown, hts⟩ (mX0_init l D cI cS q H.size) (cwI 0 hts gX1_init_X0_init rfl rfl rfl (hts (.initialized RX0) (by decide +kernel)) (hts (.methodLink RX1 9 yX0_init) (by decide +kernel)) (hts (.instanceMethod yX0_init) (by decide +kernel)) rfl (by decide +kernel) ⟨Nat.le_of_ble_eq_true rfl, Nat.le_of_ble_eq_true rfl⟩) ⟨fun a U g mk q => ⟨q.1, q.2.1, q.2.2.1, KK.calling q.2.2.2.1, q.2.2.2.2⟩, fun U hU hW => ⟨rfl, by rw [hU], by rw [hU]; exact last_P hP, hK.warm hW, last_D⟩⟩ rfl rfl hl.1 rfl (lv_room (Nat.le_of_ble_eq_true rfl)) dX1_init_73 ⟨by show _ ≤ 82; omega, by show _ ≤ 1111; omega⟩) hS (fun q _ h => fr_last hD hS hA q h) (fr_last hD hS hA) (fun u t H1 locs ht hvm hw hB hz1 hk1 hS => ?_)
      obtain ⟨hB1, hB2⟩ := hB
      rw [ht] at hB1
      obtain ⟨hP, hD⟩ := jn_last hP hD hk1 (fr_last hD hS0 hA) hB1 hB2
      generalize H1 = H at hP hS ⊢
      have h14 : (gwl (18 + 13 * k) ad (CK cI cS ad k) ++ stL cI q u)[14]? = some (ad 14, .inl (cS, 5, .inr (.inr (.inr (.inr (fun j => if j < k then some (ad (18 + 13 * j)) else none)))))) := by
        rw [List.getElem?_append_left (by rw [gwl_len]; omega), gwl_at (by omega)]
        rfl
      have hqk : (gwl (18 + 13 * k) ad (CK cI cS ad k) ++ stL cI q u)[18 + 13 * k]? = some (q, .inr (0, [.int 0, .int 10, .int 0, .ref (u 1), .ref (u 2), .ref (u 3), .ref (u 4), .ref (u 5), .ref (u 6), .ref (u 7), .ref (u 8), .ref (u 9), .ref (u 10), .ref (u 11), .ref (u 12)])) := by
        rw [List.getElem?_append_right (by rw [gwl_len]; exact Nat.le_refl _), gwl_len, Nat.sub_self]
        rfl
      refine va_astq (r := (RX0, TX0, 15)) hx hb hK.1 hP hD hS 14 1 (18 + 13 * k) 0 h14 rfl hqk rfl (vp_in_nI hk5 (by decide)) dX1_init_76 (fun H locs hP hD hS => ?_)
      rw [nI_clamp (by omega), CK_step hk5] at hP hD
      refine W.widen (k := 82 - 13 * n) (n := 1111 - 175 * n) (by omega) (by omega) ?_
      refine lv_iinc (v := (nI (k + 1))) (lv' := [(1, .int (nI (k + 1))), (0, .ref (ad 0))]) hx hb dX1_init_77 hl (k := 0) rfl (nI_1 k) (by decide) rfl (fun ls hl => ?_)
      refine lv_goto (tgt := 59) hx hb dX1_init_80 (by decide) ?_
      have e0 : adN (18 + 13 * k) ad q u 0 = ad 0 := by
        unfold adN
        rw [if_pos (by omega)]
      exact ih _ _ _ ⟨k + 1, adN (18 + 13 * k) ad q u, by omega, e0.trans h0e, hP, hD, hS, by rw [e0]; exact hl⟩
