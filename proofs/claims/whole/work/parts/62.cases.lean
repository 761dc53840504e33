/-! THE LAW's 21 CASES: the class's call, then the model's, and both have answered alike -/
section
variable {p : Program} {l : Launch} {e : Env} {rm : Room} {s : State} {m : MethodId} {args : Array Value} {below : List Frame} {meth : Method} {c : Code} {H H0 : Heap} {locs : List Loc} {cells slots : Nat} {Q : State → Prop} {pc : Nat} {ls : Array Slot} {rest st0 : List Value} {D : va_G} {cI cS : ClassId} {ad : Nat → Nat} {cc : ByteArray} {A0 : Nat → Prop}
theorem q_callL {r : Int32} {R' F' : Nat → Nat → Int32} {a : Array Value} (hr : va_Run p l e rm s m args below meth c H locs cells slots 0 0 (F0 m pc ls st0) rest (QI D cI cS ad r R' F' a) (AA ad)) (hS : va_S A0 H0 H locs) (hAA : ∀ q : Nat, AA ad q → A0 q)
    (kk : ∀ (H1 : Heap) (locs1 : List Loc), WP D cI cS ad R' F' H1 → va_S A0 H0 H1 locs1 → W p l e rm s m args below meth c H1 locs1 cells slots Q (F0 m (pc + 3) ls (.int r :: rest))) : W p l e rm s m args below meth c H locs cells slots Q (F0 m pc ls st0) := by
  intro T hT X
  obtain ⟨v, st₀, t, T', L, h0, X', hL, e1, e2, ⟨hv, hp, hz, hk⟩, st⟩ := hr T hT X
  cases hv
  rw [h0] at hz hk
  obtain ⟨t2, a1, b1⟩ := kk T'.heap (locs ++ L) (by rw [e1]; exact hp)
    ⟨Nat.le_trans hS.1 (by rw [e1]; exact hz), fun q h1 h2 => by rw [e1, hk q (Nat.lt_of_lt_of_le h1 hS.1) (fun z => h2 (hAA q z))]; exact hS.2.1 q h1 h2, fun q hq => by
      rcases List.mem_append.mp hq with h | h
      · exact hS.2.2 q h
      · exact hAA _ (hL q h)⟩ T' rfl X'
  exact ⟨t2, st t2 a1, b1⟩
theorem q_sldN (hx : p.tables.exec = Jvm.exec) (hb : c.code = cc) {b L : Nat} {xs : Nat → Int32} (hX : va_X b L xs s H0) (hbl : b < H0.size) (hbA : ¬ A0 b) (hS : va_S A0 H0 H locs) (k : Nat) {x : Int32} (hdg : decode cc pc = .ok (.iaload, 1)) (hxk : x = nI k) (hk : k < L) (hL : L < 2 ^ 31)
    (kk : W p l e rm s m args below meth c H locs cells slots Q (F0 m (pc + 1) ls (.int (xs k) :: rest))) : W p l e rm s m args below meth c H locs cells slots Q (F0 m pc ls (.int x :: .ref b :: rest)) := by
  subst hxk
  refine va_sld hx hb hX hbl hbA hS (vp_in_nI hk hL) hdg ?_
  rw [nI_clamp (by omega)]
  exact kk
end

set_option maxHeartbeats 4000000 in
set_option maxRecDepth 100000 in
theorem law_setDrift {p : Program} {l : Launch} {e : Env} {s : State} {m : MethodId} {below : List Frame} {meth : Method} {c : Code} {b L : Nat} {xs : Nat → Int32} {D : va_G} {cI cS : ClassId} {ad : Nat → Nat} {n : Nat} {R F : Nat → Nat → Int32} {H : Heap} {locs : List Loc} {ls : Array Slot} (hL : L ≤ 2048) (C0 : lw_At p s m meth c b L xs) (hI : Inj ad) (hAA : ∀ q : Nat, AA ad q → s.heap.size ≤ q) (hK : KK D cI cS s) (hn : 4 * n + 4 ≤ L) (hinv : INV n R F) (hP : WP D cI cS ad R F H) (hS : va_S (fun q : Nat => s.heap.size ≤ q) s.heap H locs) (hl : lv_has ls 4 [(3, .int (nI (4 * n))), (0, .ref b), (1, .ref (ad 0)), (2, .ref (ad 83))])
    (hend : ∀ (R F : Nat → Nat → Int32) (H : Heap) (locs : List Loc), INV (n + 1) R F → WP D cI cS ad R F H → va_S (fun q : Nat => s.heap.size ≤ q) s.heap H locs → W p l e room_1 s m #[Value.ref b] below meth c H locs 87 2223 (lw_Z below #[Value.ref b] s) (F0 m 685 ls [])) : W p l e room_1 s m #[Value.ref b] below meth c H locs 87 2223 (lw_Z below #[Value.ref b] s) (F0 m 132 ls []) := by
  obtain ⟨hx, hb, hr, hml, hown, htt, hX, hbl, hlocks, hgv⟩ := C0
  have hts : ∀ w ∈ wsL_law, w.before #[Value.ref b] s = true := fun w h => htt w (wsL_law_in w h)
  have hown : s.vm.findClass RL = some m.cls := hown
  have hbA : ¬ (fun q : Nat => s.heap.size ≤ q) b := Nat.not_le.mpr hbl
  obtain ⟨o, q, kw, mi, hh, hr0⟩ := hinv
  have hn512 : n ≤ 512 := by omega
  have hA := act_setDrift hh hr0 (xs (4 * n + 1)) (xs (4 * n + 2))
  have hkw := hr0.1.1
  have hW84 := hr0.1.2.2.2.1
  have h83 := hh.2.2.2.2.1
  refine lv_aload_n hx hb dL_law_132 rfl (lv_at hl 2 rfl) ?_
  refine lv_aload_n hx hb dL_law_133 rfl (lv_at hl 1 rfl) ?_
  refine lv_iload_n hx hb dL_law_134 rfl (lv_at hl 0 rfl) ?_
  refine lv_iconst (v := 1) hx hb dL_law_135 (by decide) ?_
  refine lv_iadd hx hb dL_law_136 ?_
  refine q_sldN hx hb hX hbl hbA hS (4 * n + 1) dL_law_137 (nI_add (4 * n) 1) (by omega) (by omega) ?_
  refine lv_aload_n hx hb dL_law_138 rfl (lv_at hl 1 rfl) ?_
  refine lv_iload_n hx hb dL_law_139 rfl (lv_at hl 0 rfl) ?_
  refine lv_iconst (v := 2) hx hb dL_law_140 (by decide) ?_
  refine lv_iadd hx hb dL_law_141 ?_
  refine q_sldN hx hb hX hbl hbA hS (4 * n + 2) dL_law_142 (nI_add (4 * n) 2) (by omega) (by omega) ?_
  refine q_callL (va_runV (As := [.int (xs (4 * n + 1)), .int (xs (4 * n + 2))]) (rest := []) ⟨hx, hb, hml, hown, hts⟩ (mX1_setDrift l D cI cS ad hI R F (xs (4 * n + 1)) (xs (4 * n + 2)) o q hh.1 hh.2.1 hh.2.2.1 hh.2.2.2.1) (cwV 2 hts gL_law_X1_setDrift rfl rfl rfl (by decide +kernel) ⟨Nat.le_of_ble_eq_true rfl, Nat.le_of_ble_eq_true rfl⟩) (PW_preV (i := 0) (by decide) CC_0 rfl rfl hK hP) rfl rfl hl.1 rfl (lv_room (Nat.le_of_ble_eq_true rfl)) dL_law_143 ⟨Nat.le_of_ble_eq_true rfl, Nat.le_of_ble_eq_true rfl⟩) hS hAA (fun H locs hP hS => ?_)
  generalize xX1_setDrift R F (xs (4 * n + 1)) (xs (4 * n + 2)) o q = X at hP hA ⊢
  obtain ⟨r1, R1, F1⟩ := X
  dsimp only at hP ⊢
  obtain ⟨e84, e83, hv, hi⟩ := hA
  dsimp only at e84 e83 hv hi
  have hW : R1 84 1 = nI kw := by rw [e84]; exact hW84
  have hq83 : F1 83 0 = nI q := by rw [e83]; exact h83
  refine lv_aload_n hx hb dL_law_146 rfl (lv_at hl 3 rfl) ?_
  refine lv_aload_n hx hb dL_law_147 rfl (lv_at hl 1 rfl) ?_
  refine lv_iload_n hx hb dL_law_148 rfl (lv_at hl 0 rfl) ?_
  refine lv_iconst (v := 1) hx hb dL_law_149 (by decide) ?_
  refine lv_iadd hx hb dL_law_150 ?_
  refine q_sldN hx hb hX hbl hbA hS (4 * n + 1) dL_law_151 (nI_add (4 * n) 1) (by omega) (by omega) ?_
  refine lv_aload_n hx hb dL_law_152 rfl (lv_at hl 1 rfl) ?_
  refine lv_iload_n hx hb dL_law_153 rfl (lv_at hl 0 rfl) ?_
  refine lv_iconst (v := 2) hx hb dL_law_154 (by decide) ?_
  refine lv_iadd hx hb dL_law_155 ?_
  refine q_sldN hx hb hX hbl hbA hS (4 * n + 2) dL_law_156 (nI_add (4 * n) 2) (by omega) (by omega) ?_
  refine q_callL (va_runV (As := [.int (xs (4 * n + 1)), .int (xs (4 * n + 2))]) (rest := [.int _]) ⟨hx, hb, hml, hown, hts⟩ (mX2_setDrift l D cI cS ad hI R1 F1 (xs (4 * n + 1)) (xs (4 * n + 2)) q hh.2.1 hq83) (cwV 2 hts gL_law_X2_setDrift rfl rfl rfl (by decide +kernel) ⟨Nat.le_of_ble_eq_true rfl, Nat.le_of_ble_eq_true rfl⟩) (PW_preV (i := 83) (by decide) CC_83 rfl rfl hK hP) rfl rfl hl.1 rfl (lv_room (Nat.le_of_ble_eq_true rfl)) dL_law_157 ⟨Nat.le_of_ble_eq_true rfl, Nat.le_of_ble_eq_true rfl⟩) hS hAA (fun H locs hP hS => ?_)
  exact lv_icmp_eq (tgt := 685) hx hb dL_law_160 (by decide) (fun _ => hend _ _ H locs (INV_mono (by omega) hi) hP hS) (fun c9 => absurd hv c9)
set_option maxHeartbeats 4000000 in
set_option maxRecDepth 100000 in
theorem law_pass {p : Program} {l : Launch} {e : Env} {s : State} {m : MethodId} {below : List Frame} {meth : Method} {c : Code} {b L : Nat} {xs : Nat → Int32} {D : va_G} {cI cS : ClassId} {ad : Nat → Nat} {n : Nat} {R F : Nat → Nat → Int32} {H : Heap} {locs : List Loc} {ls : Array Slot} (hL : L ≤ 2048) (C0 : lw_At p s m meth c b L xs) (hI : Inj ad) (hAA : ∀ q : Nat, AA ad q → s.heap.size ≤ q) (hK : KK D cI cS s) (hn : 4 * n + 4 ≤ L) (hinv : INV n R F) (hP : WP D cI cS ad R F H) (hS : va_S (fun q : Nat => s.heap.size ≤ q) s.heap H locs) (hl : lv_has ls 4 [(3, .int (nI (4 * n))), (0, .ref b), (1, .ref (ad 0)), (2, .ref (ad 83))])
    (hend : ∀ (R F : Nat → Nat → Int32) (H : Heap) (locs : List Loc), INV (n + 1) R F → WP D cI cS ad R F H → va_S (fun q : Nat => s.heap.size ≤ q) s.heap H locs → W p l e room_1 s m #[Value.ref b] below meth c H locs 87 2223 (lw_Z below #[Value.ref b] s) (F0 m 685 ls [])) : W p l e room_1 s m #[Value.ref b] below meth c H locs 87 2223 (lw_Z below #[Value.ref b] s) (F0 m 165 ls []) := by
  obtain ⟨hx, hb, hr, hml, hown, htt, hX, hbl, hlocks, hgv⟩ := C0
  have hts : ∀ w ∈ wsL_law, w.before #[Value.ref b] s = true := fun w h => htt w (wsL_law_in w h)
  have hown : s.vm.findClass RL = some m.cls := hown
  have hbA : ¬ (fun q : Nat => s.heap.size ≤ q) b := Nat.not_le.mpr hbl
  obtain ⟨o, q, kw, mi, hh, hr0⟩ := hinv
  have hn512 : n ≤ 512 := by omega
  have hA := act_pass hh hr0 (xs (4 * n + 1))
  have hkw := hr0.1.1
  have hW84 := hr0.1.2.2.2.1
  have h83 := hh.2.2.2.2.1
  refine lv_aload_n hx hb dL_law_165 rfl (lv_at hl 2 rfl) ?_
  refine lv_aload_n hx hb dL_law_166 rfl (lv_at hl 1 rfl) ?_
  refine lv_iload_n hx hb dL_law_167 rfl (lv_at hl 0 rfl) ?_
  refine lv_iconst (v := 1) hx hb dL_law_168 (by decide) ?_
  refine lv_iadd hx hb dL_law_169 ?_
  refine q_sldN hx hb hX hbl hbA hS (4 * n + 1) dL_law_170 (nI_add (4 * n) 1) (by omega) (by omega) ?_
  refine q_callL (va_runV (As := [.int (xs (4 * n + 1))]) (rest := []) ⟨hx, hb, hml, hown, hts⟩ (mX1_pass l D cI cS ad hI R F (xs (4 * n + 1)) o q hh.1 hh.2.1 hh.2.2.1 hh.2.2.2.1) (cwV 1 hts gL_law_X1_pass rfl rfl rfl (by decide +kernel) ⟨Nat.le_of_ble_eq_true rfl, Nat.le_of_ble_eq_true rfl⟩) (PW_preV (i := 0) (by decide) CC_0 rfl rfl hK hP) rfl rfl hl.1 rfl (lv_room (Nat.le_of_ble_eq_true rfl)) dL_law_171 ⟨Nat.le_of_ble_eq_true rfl, Nat.le_of_ble_eq_true rfl⟩) hS hAA (fun H locs hP hS => ?_)
  generalize xX1_pass R F (xs (4 * n + 1)) o q = X at hP hA ⊢
  obtain ⟨r1, R1, F1⟩ := X
  dsimp only at hP ⊢
  obtain ⟨e84, e83, hv, hi⟩ := hA
  dsimp only at e84 e83 hv hi
  have hW : R1 84 1 = nI kw := by rw [e84]; exact hW84
  have hq83 : F1 83 0 = nI q := by rw [e83]; exact h83
  refine lv_aload_n hx hb dL_law_174 rfl (lv_at hl 3 rfl) ?_
  refine lv_aload_n hx hb dL_law_175 rfl (lv_at hl 1 rfl) ?_
  refine lv_iload_n hx hb dL_law_176 rfl (lv_at hl 0 rfl) ?_
  refine lv_iconst (v := 1) hx hb dL_law_177 (by decide) ?_
  refine lv_iadd hx hb dL_law_178 ?_
  refine q_sldN hx hb hX hbl hbA hS (4 * n + 1) dL_law_179 (nI_add (4 * n) 1) (by omega) (by omega) ?_
  refine q_callL (va_runV (As := [.int (xs (4 * n + 1))]) (rest := [.int _]) ⟨hx, hb, hml, hown, hts⟩ (mX2_pass l D cI cS ad hI R1 F1 (xs (4 * n + 1)) q hh.2.1 hq83) (cwV 1 hts gL_law_X2_pass rfl rfl rfl (by decide +kernel) ⟨Nat.le_of_ble_eq_true rfl, Nat.le_of_ble_eq_true rfl⟩) (PW_preV (i := 83) (by decide) CC_83 rfl rfl hK hP) rfl rfl hl.1 rfl (lv_room (Nat.le_of_ble_eq_true rfl)) dL_law_180 ⟨Nat.le_of_ble_eq_true rfl, Nat.le_of_ble_eq_true rfl⟩) hS hAA (fun H locs hP hS => ?_)
  exact lv_icmp_eq (tgt := 685) hx hb dL_law_183 (by decide) (fun _ => hend _ _ H locs (INV_mono (by omega) hi) hP hS) (fun c9 => absurd hv c9)
set_option maxHeartbeats 4000000 in
set_option maxRecDepth 100000 in
theorem law_tare {p : Program} {l : Launch} {e : Env} {s : State} {m : MethodId} {below : List Frame} {meth : Method} {c : Code} {b L : Nat} {xs : Nat → Int32} {D : va_G} {cI cS : ClassId} {ad : Nat → Nat} {n : Nat} {R F : Nat → Nat → Int32} {H : Heap} {locs : List Loc} {ls : Array Slot} (hL : L ≤ 2048) (C0 : lw_At p s m meth c b L xs) (hI : Inj ad) (hAA : ∀ q : Nat, AA ad q → s.heap.size ≤ q) (hK : KK D cI cS s) (hn : 4 * n + 4 ≤ L) (hinv : INV n R F) (hP : WP D cI cS ad R F H) (hS : va_S (fun q : Nat => s.heap.size ≤ q) s.heap H locs) (hl : lv_has ls 4 [(3, .int (nI (4 * n))), (0, .ref b), (1, .ref (ad 0)), (2, .ref (ad 83))])
    (hend : ∀ (R F : Nat → Nat → Int32) (H : Heap) (locs : List Loc), INV (n + 1) R F → WP D cI cS ad R F H → va_S (fun q : Nat => s.heap.size ≤ q) s.heap H locs → W p l e room_1 s m #[Value.ref b] below meth c H locs 87 2223 (lw_Z below #[Value.ref b] s) (F0 m 685 ls [])) : W p l e room_1 s m #[Value.ref b] below meth c H locs 87 2223 (lw_Z below #[Value.ref b] s) (F0 m 188 ls []) := by
  obtain ⟨hx, hb, hr, hml, hown, htt, hX, hbl, hlocks, hgv⟩ := C0
  have hts : ∀ w ∈ wsL_law, w.before #[Value.ref b] s = true := fun w h => htt w (wsL_law_in w h)
  have hown : s.vm.findClass RL = some m.cls := hown
  have hbA : ¬ (fun q : Nat => s.heap.size ≤ q) b := Nat.not_le.mpr hbl
  obtain ⟨o, q, kw, mi, hh, hr0⟩ := hinv
  have hn512 : n ≤ 512 := by omega
  have hA := act_tare hh hr0 (xs (4 * n + 1))
  have hkw := hr0.1.1
  have hW84 := hr0.1.2.2.2.1
  have h83 := hh.2.2.2.2.1
  refine lv_aload_n hx hb dL_law_188 rfl (lv_at hl 2 rfl) ?_
  refine lv_aload_n hx hb dL_law_189 rfl (lv_at hl 1 rfl) ?_
  refine lv_iload_n hx hb dL_law_190 rfl (lv_at hl 0 rfl) ?_
  refine lv_iconst (v := 1) hx hb dL_law_191 (by decide) ?_
  refine lv_iadd hx hb dL_law_192 ?_
  refine q_sldN hx hb hX hbl hbA hS (4 * n + 1) dL_law_193 (nI_add (4 * n) 1) (by omega) (by omega) ?_
  refine q_callL (va_runV (As := [.int (xs (4 * n + 1))]) (rest := []) ⟨hx, hb, hml, hown, hts⟩ (mX1_tare l D cI cS ad hI R F (xs (4 * n + 1)) o q hh.1 hh.2.1 hh.2.2.1 hh.2.2.2.1) (cwV 1 hts gL_law_X1_tare rfl rfl rfl (by decide +kernel) ⟨Nat.le_of_ble_eq_true rfl, Nat.le_of_ble_eq_true rfl⟩) (PW_preV (i := 0) (by decide) CC_0 rfl rfl hK hP) rfl rfl hl.1 rfl (lv_room (Nat.le_of_ble_eq_true rfl)) dL_law_194 ⟨Nat.le_of_ble_eq_true rfl, Nat.le_of_ble_eq_true rfl⟩) hS hAA (fun H locs hP hS => ?_)
  generalize xX1_tare R F (xs (4 * n + 1)) o q = X at hP hA ⊢
  obtain ⟨r1, R1, F1⟩ := X
  dsimp only at hP ⊢
  obtain ⟨e84, e83, hv, hi⟩ := hA
  dsimp only at e84 e83 hv hi
  have hW : R1 84 1 = nI kw := by rw [e84]; exact hW84
  have hq83 : F1 83 0 = nI q := by rw [e83]; exact h83
  refine lv_aload_n hx hb dL_law_197 rfl (lv_at hl 3 rfl) ?_
  refine lv_aload_n hx hb dL_law_198 rfl (lv_at hl 1 rfl) ?_
  refine lv_iload_n hx hb dL_law_199 rfl (lv_at hl 0 rfl) ?_
  refine lv_iconst (v := 1) hx hb dL_law_200 (by decide) ?_
  refine lv_iadd hx hb dL_law_201 ?_
  refine q_sldN hx hb hX hbl hbA hS (4 * n + 1) dL_law_202 (nI_add (4 * n) 1) (by omega) (by omega) ?_
  refine q_callL (va_runV (As := [.int (xs (4 * n + 1))]) (rest := [.int _]) ⟨hx, hb, hml, hown, hts⟩ (mX2_tare l D cI cS ad hI R1 F1 (xs (4 * n + 1)) kw q hkw hW hh.2.1 hq83) (cwV 1 hts gL_law_X2_tare rfl rfl rfl (by decide +kernel) ⟨Nat.le_of_ble_eq_true rfl, Nat.le_of_ble_eq_true rfl⟩) (PW_preV (i := 83) (by decide) CC_83 rfl rfl hK hP) rfl rfl hl.1 rfl (lv_room (Nat.le_of_ble_eq_true rfl)) dL_law_203 ⟨Nat.le_of_ble_eq_true rfl, Nat.le_of_ble_eq_true rfl⟩) hS hAA (fun H locs hP hS => ?_)
  exact lv_icmp_eq (tgt := 685) hx hb dL_law_206 (by decide) (fun _ => hend _ _ H locs (INV_mono (by omega) hi) hP hS) (fun c9 => absurd hv c9)
set_option maxHeartbeats 4000000 in
set_option maxRecDepth 100000 in
theorem law_board {p : Program} {l : Launch} {e : Env} {s : State} {m : MethodId} {below : List Frame} {meth : Method} {c : Code} {b L : Nat} {xs : Nat → Int32} {D : va_G} {cI cS : ClassId} {ad : Nat → Nat} {n : Nat} {R F : Nat → Nat → Int32} {H : Heap} {locs : List Loc} {ls : Array Slot} (hL : L ≤ 2048) (C0 : lw_At p s m meth c b L xs) (hI : Inj ad) (hAA : ∀ q : Nat, AA ad q → s.heap.size ≤ q) (hK : KK D cI cS s) (hn : 4 * n + 4 ≤ L) (hinv : INV n R F) (hP : WP D cI cS ad R F H) (hS : va_S (fun q : Nat => s.heap.size ≤ q) s.heap H locs) (hl : lv_has ls 4 [(3, .int (nI (4 * n))), (0, .ref b), (1, .ref (ad 0)), (2, .ref (ad 83))])
    (hend : ∀ (R F : Nat → Nat → Int32) (H : Heap) (locs : List Loc), INV (n + 1) R F → WP D cI cS ad R F H → va_S (fun q : Nat => s.heap.size ≤ q) s.heap H locs → W p l e room_1 s m #[Value.ref b] below meth c H locs 87 2223 (lw_Z below #[Value.ref b] s) (F0 m 685 ls [])) : W p l e room_1 s m #[Value.ref b] below meth c H locs 87 2223 (lw_Z below #[Value.ref b] s) (F0 m 211 ls []) := by
  obtain ⟨hx, hb, hr, hml, hown, htt, hX, hbl, hlocks, hgv⟩ := C0
  have hts : ∀ w ∈ wsL_law, w.before #[Value.ref b] s = true := fun w h => htt w (wsL_law_in w h)
  have hown : s.vm.findClass RL = some m.cls := hown
  have hbA : ¬ (fun q : Nat => s.heap.size ≤ q) b := Nat.not_le.mpr hbl
  obtain ⟨o, q, kw, mi, hh, hr0⟩ := hinv
  have hn512 : n ≤ 512 := by omega
  have hA := act_board hh hr0 (xs (4 * n + 1)) (xs (4 * n + 2)) (xs (4 * n + 3))
  have hkw := hr0.1.1
  have hW84 := hr0.1.2.2.2.1
  have h83 := hh.2.2.2.2.1
  refine lv_aload_n hx hb dL_law_211 rfl (lv_at hl 2 rfl) ?_
  refine lv_aload_n hx hb dL_law_212 rfl (lv_at hl 1 rfl) ?_
  refine lv_iload_n hx hb dL_law_213 rfl (lv_at hl 0 rfl) ?_
  refine lv_iconst (v := 1) hx hb dL_law_214 (by decide) ?_
  refine lv_iadd hx hb dL_law_215 ?_
  refine q_sldN hx hb hX hbl hbA hS (4 * n + 1) dL_law_216 (nI_add (4 * n) 1) (by omega) (by omega) ?_
  refine lv_aload_n hx hb dL_law_217 rfl (lv_at hl 1 rfl) ?_
  refine lv_iload_n hx hb dL_law_218 rfl (lv_at hl 0 rfl) ?_
  refine lv_iconst (v := 2) hx hb dL_law_219 (by decide) ?_
  refine lv_iadd hx hb dL_law_220 ?_
  refine q_sldN hx hb hX hbl hbA hS (4 * n + 2) dL_law_221 (nI_add (4 * n) 2) (by omega) (by omega) ?_
  refine lv_aload_n hx hb dL_law_222 rfl (lv_at hl 1 rfl) ?_
  refine lv_iload_n hx hb dL_law_223 rfl (lv_at hl 0 rfl) ?_
  refine lv_iconst (v := 3) hx hb dL_law_224 (by decide) ?_
  refine lv_iadd hx hb dL_law_225 ?_
  refine q_sldN hx hb hX hbl hbA hS (4 * n + 3) dL_law_226 (nI_add (4 * n) 3) (by omega) (by omega) ?_
  refine q_callL (va_runV (As := [.int (xs (4 * n + 1)), .int (xs (4 * n + 2)), .int (xs (4 * n + 3))]) (rest := []) ⟨hx, hb, hml, hown, hts⟩ (mX1_board l D cI cS ad hI R F (xs (4 * n + 1)) (xs (4 * n + 2)) (xs (4 * n + 3)) o q hh.1 hh.2.1 hh.2.2.1 hh.2.2.2.1) (cwV 3 hts gL_law_X1_board rfl rfl rfl (by decide +kernel) ⟨Nat.le_of_ble_eq_true rfl, Nat.le_of_ble_eq_true rfl⟩) (PW_preV (i := 0) (by decide) CC_0 rfl rfl hK hP) rfl rfl hl.1 rfl (lv_room (Nat.le_of_ble_eq_true rfl)) dL_law_227 ⟨Nat.le_of_ble_eq_true rfl, Nat.le_of_ble_eq_true rfl⟩) hS hAA (fun H locs hP hS => ?_)
  generalize xX1_board R F (xs (4 * n + 1)) (xs (4 * n + 2)) (xs (4 * n + 3)) o q = X at hP hA ⊢
  obtain ⟨r1, R1, F1⟩ := X
  dsimp only at hP ⊢
  obtain ⟨e84, e83, hv, hi⟩ := hA
  dsimp only at e84 e83 hv hi
  have hW : R1 84 1 = nI kw := by rw [e84]; exact hW84
  have hq83 : F1 83 0 = nI q := by rw [e83]; exact h83
  refine lv_aload_n hx hb dL_law_230 rfl (lv_at hl 3 rfl) ?_
  refine lv_aload_n hx hb dL_law_231 rfl (lv_at hl 1 rfl) ?_
  refine lv_iload_n hx hb dL_law_232 rfl (lv_at hl 0 rfl) ?_
  refine lv_iconst (v := 1) hx hb dL_law_233 (by decide) ?_
  refine lv_iadd hx hb dL_law_234 ?_
  refine q_sldN hx hb hX hbl hbA hS (4 * n + 1) dL_law_235 (nI_add (4 * n) 1) (by omega) (by omega) ?_
  refine lv_aload_n hx hb dL_law_236 rfl (lv_at hl 1 rfl) ?_
  refine lv_iload_n hx hb dL_law_237 rfl (lv_at hl 0 rfl) ?_
  refine lv_iconst (v := 2) hx hb dL_law_238 (by decide) ?_
  refine lv_iadd hx hb dL_law_239 ?_
  refine q_sldN hx hb hX hbl hbA hS (4 * n + 2) dL_law_240 (nI_add (4 * n) 2) (by omega) (by omega) ?_
  refine lv_aload_n hx hb dL_law_241 rfl (lv_at hl 1 rfl) ?_
  refine lv_iload_n hx hb dL_law_242 rfl (lv_at hl 0 rfl) ?_
  refine lv_iconst (v := 3) hx hb dL_law_243 (by decide) ?_
  refine lv_iadd hx hb dL_law_244 ?_
  refine q_sldN hx hb hX hbl hbA hS (4 * n + 3) dL_law_245 (nI_add (4 * n) 3) (by omega) (by omega) ?_
  refine q_callL (va_runV (As := [.int (xs (4 * n + 1)), .int (xs (4 * n + 2)), .int (xs (4 * n + 3))]) (rest := [.int _]) ⟨hx, hb, hml, hown, hts⟩ (mX2_board l D cI cS ad hI R1 F1 (xs (4 * n + 1)) (xs (4 * n + 2)) (xs (4 * n + 3)) kw q hkw hW hh.2.1 hq83) (cwV 3 hts gL_law_X2_board rfl rfl rfl (by decide +kernel) ⟨Nat.le_of_ble_eq_true rfl, Nat.le_of_ble_eq_true rfl⟩) (PW_preV (i := 83) (by decide) CC_83 rfl rfl hK hP) rfl rfl hl.1 rfl (lv_room (Nat.le_of_ble_eq_true rfl)) dL_law_246 ⟨Nat.le_of_ble_eq_true rfl, Nat.le_of_ble_eq_true rfl⟩) hS hAA (fun H locs hP hS => ?_)
  exact lv_icmp_eq (tgt := 685) hx hb dL_law_249 (by decide) (fun _ => hend _ _ H locs (INV_mono (by omega) hi) hP hS) (fun c9 => absurd hv c9)
set_option maxHeartbeats 4000000 in
set_option maxRecDepth 100000 in
theorem law_walk {p : Program} {l : Launch} {e : Env} {s : State} {m : MethodId} {below : List Frame} {meth : Method} {c : Code} {b L : Nat} {xs : Nat → Int32} {D : va_G} {cI cS : ClassId} {ad : Nat → Nat} {n : Nat} {R F : Nat → Nat → Int32} {H : Heap} {locs : List Loc} {ls : Array Slot} (hL : L ≤ 2048) (C0 : lw_At p s m meth c b L xs) (hI : Inj ad) (hAA : ∀ q : Nat, AA ad q → s.heap.size ≤ q) (hK : KK D cI cS s) (hn : 4 * n + 4 ≤ L) (hinv : INV n R F) (hP : WP D cI cS ad R F H) (hS : va_S (fun q : Nat => s.heap.size ≤ q) s.heap H locs) (hl : lv_has ls 4 [(3, .int (nI (4 * n))), (0, .ref b), (1, .ref (ad 0)), (2, .ref (ad 83))])
    (hend : ∀ (R F : Nat → Nat → Int32) (H : Heap) (locs : List Loc), INV (n + 1) R F → WP D cI cS ad R F H → va_S (fun q : Nat => s.heap.size ≤ q) s.heap H locs → W p l e room_1 s m #[Value.ref b] below meth c H locs 87 2223 (lw_Z below #[Value.ref b] s) (F0 m 685 ls [])) : W p l e room_1 s m #[Value.ref b] below meth c H locs 87 2223 (lw_Z below #[Value.ref b] s) (F0 m 254 ls []) := by
  obtain ⟨hx, hb, hr, hml, hown, htt, hX, hbl, hlocks, hgv⟩ := C0
  have hts : ∀ w ∈ wsL_law, w.before #[Value.ref b] s = true := fun w h => htt w (wsL_law_in w h)
  have hown : s.vm.findClass RL = some m.cls := hown
  have hbA : ¬ (fun q : Nat => s.heap.size ≤ q) b := Nat.not_le.mpr hbl
  obtain ⟨o, q, kw, mi, hh, hr0⟩ := hinv
  have hn512 : n ≤ 512 := by omega
  have hA := act_walk hh hr0 (xs (4 * n + 1)) (xs (4 * n + 2))
  have hkw := hr0.1.1
  have hW84 := hr0.1.2.2.2.1
  have h83 := hh.2.2.2.2.1
  refine lv_aload_n hx hb dL_law_254 rfl (lv_at hl 2 rfl) ?_
  refine lv_aload_n hx hb dL_law_255 rfl (lv_at hl 1 rfl) ?_
  refine lv_iload_n hx hb dL_law_256 rfl (lv_at hl 0 rfl) ?_
  refine lv_iconst (v := 1) hx hb dL_law_257 (by decide) ?_
  refine lv_iadd hx hb dL_law_258 ?_
  refine q_sldN hx hb hX hbl hbA hS (4 * n + 1) dL_law_259 (nI_add (4 * n) 1) (by omega) (by omega) ?_
  refine lv_aload_n hx hb dL_law_260 rfl (lv_at hl 1 rfl) ?_
  refine lv_iload_n hx hb dL_law_261 rfl (lv_at hl 0 rfl) ?_
  refine lv_iconst (v := 2) hx hb dL_law_262 (by decide) ?_
  refine lv_iadd hx hb dL_law_263 ?_
  refine q_sldN hx hb hX hbl hbA hS (4 * n + 2) dL_law_264 (nI_add (4 * n) 2) (by omega) (by omega) ?_
  refine q_callL (va_runV (As := [.int (xs (4 * n + 1)), .int (xs (4 * n + 2))]) (rest := []) ⟨hx, hb, hml, hown, hts⟩ (mX1_walk l D cI cS ad hI R F (xs (4 * n + 1)) (xs (4 * n + 2)) o q hh.1 hh.2.1 hh.2.2.1 hh.2.2.2.1) (cwV 2 hts gL_law_X1_walk rfl rfl rfl (by decide +kernel) ⟨Nat.le_of_ble_eq_true rfl, Nat.le_of_ble_eq_true rfl⟩) (PW_preV (i := 0) (by decide) CC_0 rfl rfl hK hP) rfl rfl hl.1 rfl (lv_room (Nat.le_of_ble_eq_true rfl)) dL_law_265 ⟨Nat.le_of_ble_eq_true rfl, Nat.le_of_ble_eq_true rfl⟩) hS hAA (fun H locs hP hS => ?_)
  generalize xX1_walk R F (xs (4 * n + 1)) (xs (4 * n + 2)) o q = X at hP hA ⊢
  obtain ⟨r1, R1, F1⟩ := X
  dsimp only at hP ⊢
  obtain ⟨e84, e83, hv, hi⟩ := hA
  dsimp only at e84 e83 hv hi
  have hW : R1 84 1 = nI kw := by rw [e84]; exact hW84
  have hq83 : F1 83 0 = nI q := by rw [e83]; exact h83
  refine lv_aload_n hx hb dL_law_268 rfl (lv_at hl 3 rfl) ?_
  refine lv_aload_n hx hb dL_law_269 rfl (lv_at hl 1 rfl) ?_
  refine lv_iload_n hx hb dL_law_270 rfl (lv_at hl 0 rfl) ?_
  refine lv_iconst (v := 1) hx hb dL_law_271 (by decide) ?_
  refine lv_iadd hx hb dL_law_272 ?_
  refine q_sldN hx hb hX hbl hbA hS (4 * n + 1) dL_law_273 (nI_add (4 * n) 1) (by omega) (by omega) ?_
  refine lv_aload_n hx hb dL_law_274 rfl (lv_at hl 1 rfl) ?_
  refine lv_iload_n hx hb dL_law_275 rfl (lv_at hl 0 rfl) ?_
  refine lv_iconst (v := 2) hx hb dL_law_276 (by decide) ?_
  refine lv_iadd hx hb dL_law_277 ?_
  refine q_sldN hx hb hX hbl hbA hS (4 * n + 2) dL_law_278 (nI_add (4 * n) 2) (by omega) (by omega) ?_
  refine q_callL (va_runV (As := [.int (xs (4 * n + 1)), .int (xs (4 * n + 2))]) (rest := [.int _]) ⟨hx, hb, hml, hown, hts⟩ (mX2_walk l D cI cS ad hI R1 F1 (xs (4 * n + 1)) (xs (4 * n + 2)) kw q hkw hW hh.2.1 hq83 (fun h1 h2 => taken_in hr0 e84 h1 h2)) (cwV 2 hts gL_law_X2_walk rfl rfl rfl (by decide +kernel) ⟨Nat.le_of_ble_eq_true rfl, Nat.le_of_ble_eq_true rfl⟩) (PW_preV (i := 83) (by decide) CC_83 rfl rfl hK hP) rfl rfl hl.1 rfl (lv_room (Nat.le_of_ble_eq_true rfl)) dL_law_279 ⟨Nat.le_of_ble_eq_true rfl, Nat.le_of_ble_eq_true rfl⟩) hS hAA (fun H locs hP hS => ?_)
  exact lv_icmp_eq (tgt := 685) hx hb dL_law_282 (by decide) (fun _ => hend _ _ H locs (INV_mono (by omega) hi) hP hS) (fun c9 => absurd hv c9)
set_option maxHeartbeats 4000000 in
set_option maxRecDepth 100000 in
theorem law_swap {p : Program} {l : Launch} {e : Env} {s : State} {m : MethodId} {below : List Frame} {meth : Method} {c : Code} {b L : Nat} {xs : Nat → Int32} {D : va_G} {cI cS : ClassId} {ad : Nat → Nat} {n : Nat} {R F : Nat → Nat → Int32} {H : Heap} {locs : List Loc} {ls : Array Slot} (hL : L ≤ 2048) (C0 : lw_At p s m meth c b L xs) (hI : Inj ad) (hAA : ∀ q : Nat, AA ad q → s.heap.size ≤ q) (hK : KK D cI cS s) (hn : 4 * n + 4 ≤ L) (hinv : INV n R F) (hP : WP D cI cS ad R F H) (hS : va_S (fun q : Nat => s.heap.size ≤ q) s.heap H locs) (hl : lv_has ls 4 [(3, .int (nI (4 * n))), (0, .ref b), (1, .ref (ad 0)), (2, .ref (ad 83))])
    (hend : ∀ (R F : Nat → Nat → Int32) (H : Heap) (locs : List Loc), INV (n + 1) R F → WP D cI cS ad R F H → va_S (fun q : Nat => s.heap.size ≤ q) s.heap H locs → W p l e room_1 s m #[Value.ref b] below meth c H locs 87 2223 (lw_Z below #[Value.ref b] s) (F0 m 685 ls [])) : W p l e room_1 s m #[Value.ref b] below meth c H locs 87 2223 (lw_Z below #[Value.ref b] s) (F0 m 287 ls []) := by
  obtain ⟨hx, hb, hr, hml, hown, htt, hX, hbl, hlocks, hgv⟩ := C0
  have hts : ∀ w ∈ wsL_law, w.before #[Value.ref b] s = true := fun w h => htt w (wsL_law_in w h)
  have hown : s.vm.findClass RL = some m.cls := hown
  have hbA : ¬ (fun q : Nat => s.heap.size ≤ q) b := Nat.not_le.mpr hbl
  obtain ⟨o, q, kw, mi, hh, hr0⟩ := hinv
  have hn512 : n ≤ 512 := by omega
  have hA := act_swap hh hr0 (xs (4 * n + 1)) (xs (4 * n + 2))
  have hkw := hr0.1.1
  have hW84 := hr0.1.2.2.2.1
  have h83 := hh.2.2.2.2.1
  refine lv_aload_n hx hb dL_law_287 rfl (lv_at hl 2 rfl) ?_
  refine lv_aload_n hx hb dL_law_288 rfl (lv_at hl 1 rfl) ?_
  refine lv_iload_n hx hb dL_law_289 rfl (lv_at hl 0 rfl) ?_
  refine lv_iconst (v := 1) hx hb dL_law_290 (by decide) ?_
  refine lv_iadd hx hb dL_law_291 ?_
  refine q_sldN hx hb hX hbl hbA hS (4 * n + 1) dL_law_292 (nI_add (4 * n) 1) (by omega) (by omega) ?_
  refine lv_aload_n hx hb dL_law_293 rfl (lv_at hl 1 rfl) ?_
  refine lv_iload_n hx hb dL_law_294 rfl (lv_at hl 0 rfl) ?_
  refine lv_iconst (v := 2) hx hb dL_law_295 (by decide) ?_
  refine lv_iadd hx hb dL_law_296 ?_
  refine q_sldN hx hb hX hbl hbA hS (4 * n + 2) dL_law_297 (nI_add (4 * n) 2) (by omega) (by omega) ?_
  refine q_callL (va_runV (As := [.int (xs (4 * n + 1)), .int (xs (4 * n + 2))]) (rest := []) ⟨hx, hb, hml, hown, hts⟩ (mX1_swap l D cI cS ad hI R F (xs (4 * n + 1)) (xs (4 * n + 2)) o q hh.1 hh.2.1 hh.2.2.1 hh.2.2.2.1) (cwV 2 hts gL_law_X1_swap rfl rfl rfl (by decide +kernel) ⟨Nat.le_of_ble_eq_true rfl, Nat.le_of_ble_eq_true rfl⟩) (PW_preV (i := 0) (by decide) CC_0 rfl rfl hK hP) rfl rfl hl.1 rfl (lv_room (Nat.le_of_ble_eq_true rfl)) dL_law_298 ⟨Nat.le_of_ble_eq_true rfl, Nat.le_of_ble_eq_true rfl⟩) hS hAA (fun H locs hP hS => ?_)
  generalize xX1_swap R F (xs (4 * n + 1)) (xs (4 * n + 2)) o q = X at hP hA ⊢
  obtain ⟨r1, R1, F1⟩ := X
  dsimp only at hP ⊢
  obtain ⟨e84, e83, hv, hi⟩ := hA
  dsimp only at e84 e83 hv hi
  have hW : R1 84 1 = nI kw := by rw [e84]; exact hW84
  have hq83 : F1 83 0 = nI q := by rw [e83]; exact h83
  refine lv_aload_n hx hb dL_law_301 rfl (lv_at hl 3 rfl) ?_
  refine lv_aload_n hx hb dL_law_302 rfl (lv_at hl 1 rfl) ?_
  refine lv_iload_n hx hb dL_law_303 rfl (lv_at hl 0 rfl) ?_
  refine lv_iconst (v := 1) hx hb dL_law_304 (by decide) ?_
  refine lv_iadd hx hb dL_law_305 ?_
  refine q_sldN hx hb hX hbl hbA hS (4 * n + 1) dL_law_306 (nI_add (4 * n) 1) (by omega) (by omega) ?_
  refine lv_aload_n hx hb dL_law_307 rfl (lv_at hl 1 rfl) ?_
  refine lv_iload_n hx hb dL_law_308 rfl (lv_at hl 0 rfl) ?_
  refine lv_iconst (v := 2) hx hb dL_law_309 (by decide) ?_
  refine lv_iadd hx hb dL_law_310 ?_
  refine q_sldN hx hb hX hbl hbA hS (4 * n + 2) dL_law_311 (nI_add (4 * n) 2) (by omega) (by omega) ?_
  refine q_callL (va_runV (As := [.int (xs (4 * n + 1)), .int (xs (4 * n + 2))]) (rest := [.int _]) ⟨hx, hb, hml, hown, hts⟩ (mX2_swap l D cI cS ad hI R1 F1 (xs (4 * n + 1)) (xs (4 * n + 2)) kw q hkw hW hh.2.1 hq83) (cwV 2 hts gL_law_X2_swap rfl rfl rfl (by decide +kernel) ⟨Nat.le_of_ble_eq_true rfl, Nat.le_of_ble_eq_true rfl⟩) (PW_preV (i := 83) (by decide) CC_83 rfl rfl hK hP) rfl rfl hl.1 rfl (lv_room (Nat.le_of_ble_eq_true rfl)) dL_law_312 ⟨Nat.le_of_ble_eq_true rfl, Nat.le_of_ble_eq_true rfl⟩) hS hAA (fun H locs hP hS => ?_)
  exact lv_icmp_eq (tgt := 685) hx hb dL_law_315 (by decide) (fun _ => hend _ _ H locs (INV_mono (by omega) hi) hP hS) (fun c9 => absurd hv c9)
set_option maxHeartbeats 4000000 in
set_option maxRecDepth 100000 in
theorem law_leave {p : Program} {l : Launch} {e : Env} {s : State} {m : MethodId} {below : List Frame} {meth : Method} {c : Code} {b L : Nat} {xs : Nat → Int32} {D : va_G} {cI cS : ClassId} {ad : Nat → Nat} {n : Nat} {R F : Nat → Nat → Int32} {H : Heap} {locs : List Loc} {ls : Array Slot} (hL : L ≤ 2048) (C0 : lw_At p s m meth c b L xs) (hI : Inj ad) (hAA : ∀ q : Nat, AA ad q → s.heap.size ≤ q) (hK : KK D cI cS s) (hn : 4 * n + 4 ≤ L) (hinv : INV n R F) (hP : WP D cI cS ad R F H) (hS : va_S (fun q : Nat => s.heap.size ≤ q) s.heap H locs) (hl : lv_has ls 4 [(3, .int (nI (4 * n))), (0, .ref b), (1, .ref (ad 0)), (2, .ref (ad 83))])
    (hend : ∀ (R F : Nat → Nat → Int32) (H : Heap) (locs : List Loc), INV (n + 1) R F → WP D cI cS ad R F H → va_S (fun q : Nat => s.heap.size ≤ q) s.heap H locs → W p l e room_1 s m #[Value.ref b] below meth c H locs 87 2223 (lw_Z below #[Value.ref b] s) (F0 m 685 ls [])) : W p l e room_1 s m #[Value.ref b] below meth c H locs 87 2223 (lw_Z below #[Value.ref b] s) (F0 m 320 ls []) := by
  obtain ⟨hx, hb, hr, hml, hown, htt, hX, hbl, hlocks, hgv⟩ := C0
  have hts : ∀ w ∈ wsL_law, w.before #[Value.ref b] s = true := fun w h => htt w (wsL_law_in w h)
  have hown : s.vm.findClass RL = some m.cls := hown
  have hbA : ¬ (fun q : Nat => s.heap.size ≤ q) b := Nat.not_le.mpr hbl
  obtain ⟨o, q, kw, mi, hh, hr0⟩ := hinv
  have hn512 : n ≤ 512 := by omega
  have hA := act_leave hh hr0 (xs (4 * n + 1))
  have hkw := hr0.1.1
  have hW84 := hr0.1.2.2.2.1
  have h83 := hh.2.2.2.2.1
  refine lv_aload_n hx hb dL_law_320 rfl (lv_at hl 2 rfl) ?_
  refine lv_aload_n hx hb dL_law_321 rfl (lv_at hl 1 rfl) ?_
  refine lv_iload_n hx hb dL_law_322 rfl (lv_at hl 0 rfl) ?_
  refine lv_iconst (v := 1) hx hb dL_law_323 (by decide) ?_
  refine lv_iadd hx hb dL_law_324 ?_
  refine q_sldN hx hb hX hbl hbA hS (4 * n + 1) dL_law_325 (nI_add (4 * n) 1) (by omega) (by omega) ?_
  refine q_callL (va_runV (As := [.int (xs (4 * n + 1))]) (rest := []) ⟨hx, hb, hml, hown, hts⟩ (mX1_leave l D cI cS ad hI R F (xs (4 * n + 1)) o q hh.1 hh.2.1 hh.2.2.1 hh.2.2.2.1) (cwV 1 hts gL_law_X1_leave rfl rfl rfl (by decide +kernel) ⟨Nat.le_of_ble_eq_true rfl, Nat.le_of_ble_eq_true rfl⟩) (PW_preV (i := 0) (by decide) CC_0 rfl rfl hK hP) rfl rfl hl.1 rfl (lv_room (Nat.le_of_ble_eq_true rfl)) dL_law_326 ⟨Nat.le_of_ble_eq_true rfl, Nat.le_of_ble_eq_true rfl⟩) hS hAA (fun H locs hP hS => ?_)
  generalize xX1_leave R F (xs (4 * n + 1)) o q = X at hP hA ⊢
  obtain ⟨r1, R1, F1⟩ := X
  dsimp only at hP ⊢
  obtain ⟨e84, e83, hv, hi⟩ := hA
  dsimp only at e84 e83 hv hi
  have hW : R1 84 1 = nI kw := by rw [e84]; exact hW84
  have hq83 : F1 83 0 = nI q := by rw [e83]; exact h83
  refine lv_aload_n hx hb dL_law_329 rfl (lv_at hl 3 rfl) ?_
  refine lv_aload_n hx hb dL_law_330 rfl (lv_at hl 1 rfl) ?_
  refine lv_iload_n hx hb dL_law_331 rfl (lv_at hl 0 rfl) ?_
  refine lv_iconst (v := 1) hx hb dL_law_332 (by decide) ?_
  refine lv_iadd hx hb dL_law_333 ?_
  refine q_sldN hx hb hX hbl hbA hS (4 * n + 1) dL_law_334 (nI_add (4 * n) 1) (by omega) (by omega) ?_
  refine q_callL (va_runV (As := [.int (xs (4 * n + 1))]) (rest := [.int _]) ⟨hx, hb, hml, hown, hts⟩ (mX2_leave l D cI cS ad hI R1 F1 (xs (4 * n + 1)) kw q hkw hW hh.2.1 hq83 (fun h1 h2 => taken_in hr0 e84 h1 h2)) (cwV 1 hts gL_law_X2_leave rfl rfl rfl (by decide +kernel) ⟨Nat.le_of_ble_eq_true rfl, Nat.le_of_ble_eq_true rfl⟩) (PW_preV (i := 83) (by decide) CC_83 rfl rfl hK hP) rfl rfl hl.1 rfl (lv_room (Nat.le_of_ble_eq_true rfl)) dL_law_335 ⟨Nat.le_of_ble_eq_true rfl, Nat.le_of_ble_eq_true rfl⟩) hS hAA (fun H locs hP hS => ?_)
  exact lv_icmp_eq (tgt := 685) hx hb dL_law_338 (by decide) (fun _ => hend _ _ H locs (INV_mono (by omega) hi) hP hS) (fun c9 => absurd hv c9)
set_option maxHeartbeats 4000000 in
set_option maxRecDepth 100000 in
theorem law_setPrice {p : Program} {l : Launch} {e : Env} {s : State} {m : MethodId} {below : List Frame} {meth : Method} {c : Code} {b L : Nat} {xs : Nat → Int32} {D : va_G} {cI cS : ClassId} {ad : Nat → Nat} {n : Nat} {R F : Nat → Nat → Int32} {H : Heap} {locs : List Loc} {ls : Array Slot} (hL : L ≤ 2048) (C0 : lw_At p s m meth c b L xs) (hI : Inj ad) (hAA : ∀ q : Nat, AA ad q → s.heap.size ≤ q) (hK : KK D cI cS s) (hn : 4 * n + 4 ≤ L) (hinv : INV n R F) (hP : WP D cI cS ad R F H) (hS : va_S (fun q : Nat => s.heap.size ≤ q) s.heap H locs) (hl : lv_has ls 4 [(3, .int (nI (4 * n))), (0, .ref b), (1, .ref (ad 0)), (2, .ref (ad 83))])
    (hend : ∀ (R F : Nat → Nat → Int32) (H : Heap) (locs : List Loc), INV (n + 1) R F → WP D cI cS ad R F H → va_S (fun q : Nat => s.heap.size ≤ q) s.heap H locs → W p l e room_1 s m #[Value.ref b] below meth c H locs 87 2223 (lw_Z below #[Value.ref b] s) (F0 m 685 ls [])) : W p l e room_1 s m #[Value.ref b] below meth c H locs 87 2223 (lw_Z below #[Value.ref b] s) (F0 m 343 ls []) := by
  obtain ⟨hx, hb, hr, hml, hown, htt, hX, hbl, hlocks, hgv⟩ := C0
  have hts : ∀ w ∈ wsL_law, w.before #[Value.ref b] s = true := fun w h => htt w (wsL_law_in w h)
  have hown : s.vm.findClass RL = some m.cls := hown
  have hbA : ¬ (fun q : Nat => s.heap.size ≤ q) b := Nat.not_le.mpr hbl
  obtain ⟨o, q, kw, mi, hh, hr0⟩ := hinv
  have hn512 : n ≤ 512 := by omega
  have hA := act_setPrice hh hr0 (xs (4 * n + 1))
  have hkw := hr0.1.1
  have hW84 := hr0.1.2.2.2.1
  have h83 := hh.2.2.2.2.1
  refine lv_aload_n hx hb dL_law_343 rfl (lv_at hl 2 rfl) ?_
  refine lv_aload_n hx hb dL_law_344 rfl (lv_at hl 1 rfl) ?_
  refine lv_iload_n hx hb dL_law_345 rfl (lv_at hl 0 rfl) ?_
  refine lv_iconst (v := 1) hx hb dL_law_346 (by decide) ?_
  refine lv_iadd hx hb dL_law_347 ?_
  refine q_sldN hx hb hX hbl hbA hS (4 * n + 1) dL_law_348 (nI_add (4 * n) 1) (by omega) (by omega) ?_
  refine q_callL (va_runV (As := [.int (xs (4 * n + 1))]) (rest := []) ⟨hx, hb, hml, hown, hts⟩ (mX1_setPrice l D cI cS ad hI R F (xs (4 * n + 1)) o q hh.1 hh.2.1 hh.2.2.1 hh.2.2.2.1) (cwV 1 hts gL_law_X1_setPrice rfl rfl rfl (by decide +kernel) ⟨Nat.le_of_ble_eq_true rfl, Nat.le_of_ble_eq_true rfl⟩) (PW_preV (i := 0) (by decide) CC_0 rfl rfl hK hP) rfl rfl hl.1 rfl (lv_room (Nat.le_of_ble_eq_true rfl)) dL_law_349 ⟨Nat.le_of_ble_eq_true rfl, Nat.le_of_ble_eq_true rfl⟩) hS hAA (fun H locs hP hS => ?_)
  generalize xX1_setPrice R F (xs (4 * n + 1)) o q = X at hP hA ⊢
  obtain ⟨r1, R1, F1⟩ := X
  dsimp only at hP ⊢
  obtain ⟨e84, e83, hv, hi⟩ := hA
  dsimp only at e84 e83 hv hi
  have hW : R1 84 1 = nI kw := by rw [e84]; exact hW84
  have hq83 : F1 83 0 = nI q := by rw [e83]; exact h83
  refine lv_aload_n hx hb dL_law_352 rfl (lv_at hl 3 rfl) ?_
  refine lv_aload_n hx hb dL_law_353 rfl (lv_at hl 1 rfl) ?_
  refine lv_iload_n hx hb dL_law_354 rfl (lv_at hl 0 rfl) ?_
  refine lv_iconst (v := 1) hx hb dL_law_355 (by decide) ?_
  refine lv_iadd hx hb dL_law_356 ?_
  refine q_sldN hx hb hX hbl hbA hS (4 * n + 1) dL_law_357 (nI_add (4 * n) 1) (by omega) (by omega) ?_
  refine q_callL (va_runV (As := [.int (xs (4 * n + 1))]) (rest := [.int _]) ⟨hx, hb, hml, hown, hts⟩ (mX2_setPrice l D cI cS ad hI R1 F1 (xs (4 * n + 1)) q hh.2.1 hq83) (cwV 1 hts gL_law_X2_setPrice rfl rfl rfl (by decide +kernel) ⟨Nat.le_of_ble_eq_true rfl, Nat.le_of_ble_eq_true rfl⟩) (PW_preV (i := 83) (by decide) CC_83 rfl rfl hK hP) rfl rfl hl.1 rfl (lv_room (Nat.le_of_ble_eq_true rfl)) dL_law_358 ⟨Nat.le_of_ble_eq_true rfl, Nat.le_of_ble_eq_true rfl⟩) hS hAA (fun H locs hP hS => ?_)
  exact lv_icmp_eq (tgt := 685) hx hb dL_law_361 (by decide) (fun _ => hend _ _ H locs (INV_mono (by omega) hi) hP hS) (fun c9 => absurd hv c9)
set_option maxHeartbeats 4000000 in
set_option maxRecDepth 100000 in
theorem law_accuse {p : Program} {l : Launch} {e : Env} {s : State} {m : MethodId} {below : List Frame} {meth : Method} {c : Code} {b L : Nat} {xs : Nat → Int32} {D : va_G} {cI cS : ClassId} {ad : Nat → Nat} {n : Nat} {R F : Nat → Nat → Int32} {H : Heap} {locs : List Loc} {ls : Array Slot} (hL : L ≤ 2048) (C0 : lw_At p s m meth c b L xs) (hI : Inj ad) (hAA : ∀ q : Nat, AA ad q → s.heap.size ≤ q) (hK : KK D cI cS s) (hn : 4 * n + 4 ≤ L) (hinv : INV n R F) (hP : WP D cI cS ad R F H) (hS : va_S (fun q : Nat => s.heap.size ≤ q) s.heap H locs) (hl : lv_has ls 4 [(3, .int (nI (4 * n))), (0, .ref b), (1, .ref (ad 0)), (2, .ref (ad 83))])
    (hend : ∀ (R F : Nat → Nat → Int32) (H : Heap) (locs : List Loc), INV (n + 1) R F → WP D cI cS ad R F H → va_S (fun q : Nat => s.heap.size ≤ q) s.heap H locs → W p l e room_1 s m #[Value.ref b] below meth c H locs 87 2223 (lw_Z below #[Value.ref b] s) (F0 m 685 ls [])) : W p l e room_1 s m #[Value.ref b] below meth c H locs 87 2223 (lw_Z below #[Value.ref b] s) (F0 m 366 ls []) := by
  obtain ⟨hx, hb, hr, hml, hown, htt, hX, hbl, hlocks, hgv⟩ := C0
  have hts : ∀ w ∈ wsL_law, w.before #[Value.ref b] s = true := fun w h => htt w (wsL_law_in w h)
  have hown : s.vm.findClass RL = some m.cls := hown
  have hbA : ¬ (fun q : Nat => s.heap.size ≤ q) b := Nat.not_le.mpr hbl
  obtain ⟨o, q, kw, mi, hh, hr0⟩ := hinv
  have hn512 : n ≤ 512 := by omega
  have hA := act_accuse hh hr0 (xs (4 * n + 1)) (xs (4 * n + 2))
  have hkw := hr0.1.1
  have hW84 := hr0.1.2.2.2.1
  have h83 := hh.2.2.2.2.1
  refine lv_aload_n hx hb dL_law_366 rfl (lv_at hl 2 rfl) ?_
  refine lv_aload_n hx hb dL_law_367 rfl (lv_at hl 1 rfl) ?_
  refine lv_iload_n hx hb dL_law_368 rfl (lv_at hl 0 rfl) ?_
  refine lv_iconst (v := 1) hx hb dL_law_369 (by decide) ?_
  refine lv_iadd hx hb dL_law_370 ?_
  refine q_sldN hx hb hX hbl hbA hS (4 * n + 1) dL_law_371 (nI_add (4 * n) 1) (by omega) (by omega) ?_
  refine lv_aload_n hx hb dL_law_372 rfl (lv_at hl 1 rfl) ?_
  refine lv_iload_n hx hb dL_law_373 rfl (lv_at hl 0 rfl) ?_
  refine lv_iconst (v := 2) hx hb dL_law_374 (by decide) ?_
  refine lv_iadd hx hb dL_law_375 ?_
  refine q_sldN hx hb hX hbl hbA hS (4 * n + 2) dL_law_376 (nI_add (4 * n) 2) (by omega) (by omega) ?_
  refine q_callL (va_runV (As := [.int (xs (4 * n + 1)), .int (xs (4 * n + 2))]) (rest := []) ⟨hx, hb, hml, hown, hts⟩ (mX1_accuse l D cI cS ad hI R F (xs (4 * n + 1)) (xs (4 * n + 2)) o q hh.1 hh.2.1 hh.2.2.1 hh.2.2.2.1) (cwV 2 hts gL_law_X1_accuse rfl rfl rfl (by decide +kernel) ⟨Nat.le_of_ble_eq_true rfl, Nat.le_of_ble_eq_true rfl⟩) (PW_preV (i := 0) (by decide) CC_0 rfl rfl hK hP) rfl rfl hl.1 rfl (lv_room (Nat.le_of_ble_eq_true rfl)) dL_law_377 ⟨Nat.le_of_ble_eq_true rfl, Nat.le_of_ble_eq_true rfl⟩) hS hAA (fun H locs hP hS => ?_)
  generalize xX1_accuse R F (xs (4 * n + 1)) (xs (4 * n + 2)) o q = X at hP hA ⊢
  obtain ⟨r1, R1, F1⟩ := X
  dsimp only at hP ⊢
  obtain ⟨e84, e83, hv, hi⟩ := hA
  dsimp only at e84 e83 hv hi
  have hW : R1 84 1 = nI kw := by rw [e84]; exact hW84
  have hq83 : F1 83 0 = nI q := by rw [e83]; exact h83
  refine lv_aload_n hx hb dL_law_380 rfl (lv_at hl 3 rfl) ?_
  refine lv_aload_n hx hb dL_law_381 rfl (lv_at hl 1 rfl) ?_
  refine lv_iload_n hx hb dL_law_382 rfl (lv_at hl 0 rfl) ?_
  refine lv_iconst (v := 1) hx hb dL_law_383 (by decide) ?_
  refine lv_iadd hx hb dL_law_384 ?_
  refine q_sldN hx hb hX hbl hbA hS (4 * n + 1) dL_law_385 (nI_add (4 * n) 1) (by omega) (by omega) ?_
  refine lv_aload_n hx hb dL_law_386 rfl (lv_at hl 1 rfl) ?_
  refine lv_iload_n hx hb dL_law_387 rfl (lv_at hl 0 rfl) ?_
  refine lv_iconst (v := 2) hx hb dL_law_388 (by decide) ?_
  refine lv_iadd hx hb dL_law_389 ?_
  refine q_sldN hx hb hX hbl hbA hS (4 * n + 2) dL_law_390 (nI_add (4 * n) 2) (by omega) (by omega) ?_
  refine q_callL (va_runV (As := [.int (xs (4 * n + 1)), .int (xs (4 * n + 2))]) (rest := [.int _]) ⟨hx, hb, hml, hown, hts⟩ (mX2_accuse l D cI cS ad hI R1 F1 (xs (4 * n + 1)) (xs (4 * n + 2)) kw q hkw hW hh.2.1 hq83) (cwV 2 hts gL_law_X2_accuse rfl rfl rfl (by decide +kernel) ⟨Nat.le_of_ble_eq_true rfl, Nat.le_of_ble_eq_true rfl⟩) (PW_preV (i := 83) (by decide) CC_83 rfl rfl hK hP) rfl rfl hl.1 rfl (lv_room (Nat.le_of_ble_eq_true rfl)) dL_law_391 ⟨Nat.le_of_ble_eq_true rfl, Nat.le_of_ble_eq_true rfl⟩) hS hAA (fun H locs hP hS => ?_)
  exact lv_icmp_eq (tgt := 685) hx hb dL_law_394 (by decide) (fun _ => hend _ _ H locs (INV_mono (by omega) hi) hP hS) (fun c9 => absurd hv c9)
set_option maxHeartbeats 4000000 in
set_option maxRecDepth 100000 in
theorem law_bill {p : Program} {l : Launch} {e : Env} {s : State} {m : MethodId} {below : List Frame} {meth : Method} {c : Code} {b L : Nat} {xs : Nat → Int32} {D : va_G} {cI cS : ClassId} {ad : Nat → Nat} {n : Nat} {R F : Nat → Nat → Int32} {H : Heap} {locs : List Loc} {ls : Array Slot} (hL : L ≤ 2048) (C0 : lw_At p s m meth c b L xs) (hI : Inj ad) (hAA : ∀ q : Nat, AA ad q → s.heap.size ≤ q) (hK : KK D cI cS s) (hn : 4 * n + 4 ≤ L) (hinv : INV n R F) (hP : WP D cI cS ad R F H) (hS : va_S (fun q : Nat => s.heap.size ≤ q) s.heap H locs) (hl : lv_has ls 4 [(3, .int (nI (4 * n))), (0, .ref b), (1, .ref (ad 0)), (2, .ref (ad 83))])
    (hend : ∀ (R F : Nat → Nat → Int32) (H : Heap) (locs : List Loc), INV (n + 1) R F → WP D cI cS ad R F H → va_S (fun q : Nat => s.heap.size ≤ q) s.heap H locs → W p l e room_1 s m #[Value.ref b] below meth c H locs 87 2223 (lw_Z below #[Value.ref b] s) (F0 m 685 ls [])) : W p l e room_1 s m #[Value.ref b] below meth c H locs 87 2223 (lw_Z below #[Value.ref b] s) (F0 m 399 ls []) := by
  obtain ⟨hx, hb, hr, hml, hown, htt, hX, hbl, hlocks, hgv⟩ := C0
  have hts : ∀ w ∈ wsL_law, w.before #[Value.ref b] s = true := fun w h => htt w (wsL_law_in w h)
  have hown : s.vm.findClass RL = some m.cls := hown
  have hbA : ¬ (fun q : Nat => s.heap.size ≤ q) b := Nat.not_le.mpr hbl
  obtain ⟨o, q, kw, mi, hh, hr0⟩ := hinv
  have hn512 : n ≤ 512 := by omega
  have hA := act_bill hn512 hh hr0 (xs (4 * n + 1))
  have hkw := hr0.1.1
  have hW84 := hr0.1.2.2.2.1
  have h83 := hh.2.2.2.2.1
  refine lv_aload_n hx hb dL_law_399 rfl (lv_at hl 2 rfl) ?_
  refine lv_aload_n hx hb dL_law_400 rfl (lv_at hl 1 rfl) ?_
  refine lv_iload_n hx hb dL_law_401 rfl (lv_at hl 0 rfl) ?_
  refine lv_iconst (v := 1) hx hb dL_law_402 (by decide) ?_
  refine lv_iadd hx hb dL_law_403 ?_
  refine q_sldN hx hb hX hbl hbA hS (4 * n + 1) dL_law_404 (nI_add (4 * n) 1) (by omega) (by omega) ?_
  refine q_callL (va_runV (As := [.int (xs (4 * n + 1))]) (rest := []) ⟨hx, hb, hml, hown, hts⟩ (mX1_bill l D cI cS ad hI R F (xs (4 * n + 1)) o q hh.1 hh.2.1 hh.2.2.1 hh.2.2.2.1) (cwV 1 hts gL_law_X1_bill rfl rfl rfl (by decide +kernel) ⟨Nat.le_of_ble_eq_true rfl, Nat.le_of_ble_eq_true rfl⟩) (PW_preV (i := 0) (by decide) CC_0 rfl rfl hK hP) rfl rfl hl.1 rfl (lv_room (Nat.le_of_ble_eq_true rfl)) dL_law_405 ⟨Nat.le_of_ble_eq_true rfl, Nat.le_of_ble_eq_true rfl⟩) hS hAA (fun H locs hP hS => ?_)
  generalize xX1_bill R F (xs (4 * n + 1)) o q = X at hP hA ⊢
  obtain ⟨r1, R1, F1⟩ := X
  dsimp only at hP ⊢
  obtain ⟨e84, e83, hv, hi⟩ := hA
  dsimp only at e84 e83 hv hi
  have hW : R1 84 1 = nI kw := by rw [e84]; exact hW84
  have hq83 : F1 83 0 = nI q := by rw [e83]; exact h83
  refine lv_aload_n hx hb dL_law_408 rfl (lv_at hl 3 rfl) ?_
  refine lv_aload_n hx hb dL_law_409 rfl (lv_at hl 1 rfl) ?_
  refine lv_iload_n hx hb dL_law_410 rfl (lv_at hl 0 rfl) ?_
  refine lv_iconst (v := 1) hx hb dL_law_411 (by decide) ?_
  refine lv_iadd hx hb dL_law_412 ?_
  refine q_sldN hx hb hX hbl hbA hS (4 * n + 1) dL_law_413 (nI_add (4 * n) 1) (by omega) (by omega) ?_
  refine q_callL (va_runV (As := [.int (xs (4 * n + 1))]) (rest := [.int _]) ⟨hx, hb, hml, hown, hts⟩ (mX2_bill l D cI cS ad hI R1 F1 (xs (4 * n + 1)) kw q hkw hW hh.2.1 hq83) (cwV 1 hts gL_law_X2_bill rfl rfl rfl (by decide +kernel) ⟨Nat.le_of_ble_eq_true rfl, Nat.le_of_ble_eq_true rfl⟩) (PW_preV (i := 83) (by decide) CC_83 rfl rfl hK hP) rfl rfl hl.1 rfl (lv_room (Nat.le_of_ble_eq_true rfl)) dL_law_414 ⟨Nat.le_of_ble_eq_true rfl, Nat.le_of_ble_eq_true rfl⟩) hS hAA (fun H locs hP hS => ?_)
  exact lv_icmp_eq (tgt := 685) hx hb dL_law_417 (by decide) (fun _ => hend _ _ H locs (INV_mono (by omega) hi) hP hS) (fun c9 => absurd hv c9)
set_option maxHeartbeats 4000000 in
set_option maxRecDepth 100000 in
theorem law_complain {p : Program} {l : Launch} {e : Env} {s : State} {m : MethodId} {below : List Frame} {meth : Method} {c : Code} {b L : Nat} {xs : Nat → Int32} {D : va_G} {cI cS : ClassId} {ad : Nat → Nat} {n : Nat} {R F : Nat → Nat → Int32} {H : Heap} {locs : List Loc} {ls : Array Slot} (hL : L ≤ 2048) (C0 : lw_At p s m meth c b L xs) (hI : Inj ad) (hAA : ∀ q : Nat, AA ad q → s.heap.size ≤ q) (hK : KK D cI cS s) (hn : 4 * n + 4 ≤ L) (hinv : INV n R F) (hP : WP D cI cS ad R F H) (hS : va_S (fun q : Nat => s.heap.size ≤ q) s.heap H locs) (hl : lv_has ls 4 [(3, .int (nI (4 * n))), (0, .ref b), (1, .ref (ad 0)), (2, .ref (ad 83))])
    (hend : ∀ (R F : Nat → Nat → Int32) (H : Heap) (locs : List Loc), INV (n + 1) R F → WP D cI cS ad R F H → va_S (fun q : Nat => s.heap.size ≤ q) s.heap H locs → W p l e room_1 s m #[Value.ref b] below meth c H locs 87 2223 (lw_Z below #[Value.ref b] s) (F0 m 685 ls [])) : W p l e room_1 s m #[Value.ref b] below meth c H locs 87 2223 (lw_Z below #[Value.ref b] s) (F0 m 422 ls []) := by
  obtain ⟨hx, hb, hr, hml, hown, htt, hX, hbl, hlocks, hgv⟩ := C0
  have hts : ∀ w ∈ wsL_law, w.before #[Value.ref b] s = true := fun w h => htt w (wsL_law_in w h)
  have hown : s.vm.findClass RL = some m.cls := hown
  have hbA : ¬ (fun q : Nat => s.heap.size ≤ q) b := Nat.not_le.mpr hbl
  obtain ⟨o, q, kw, mi, hh, hr0⟩ := hinv
  have hn512 : n ≤ 512 := by omega
  have hA := act_complain hh hr0 (xs (4 * n + 1))
  have hkw := hr0.1.1
  have hW84 := hr0.1.2.2.2.1
  have h83 := hh.2.2.2.2.1
  refine lv_aload_n hx hb dL_law_422 rfl (lv_at hl 2 rfl) ?_
  refine lv_aload_n hx hb dL_law_423 rfl (lv_at hl 1 rfl) ?_
  refine lv_iload_n hx hb dL_law_424 rfl (lv_at hl 0 rfl) ?_
  refine lv_iconst (v := 1) hx hb dL_law_425 (by decide) ?_
  refine lv_iadd hx hb dL_law_426 ?_
  refine q_sldN hx hb hX hbl hbA hS (4 * n + 1) dL_law_427 (nI_add (4 * n) 1) (by omega) (by omega) ?_
  refine q_callL (va_runV (As := [.int (xs (4 * n + 1))]) (rest := []) ⟨hx, hb, hml, hown, hts⟩ (mX1_complain l D cI cS ad hI R F (xs (4 * n + 1)) o q hh.1 hh.2.1 hh.2.2.1 hh.2.2.2.1) (cwV 1 hts gL_law_X1_complain rfl rfl rfl (by decide +kernel) ⟨Nat.le_of_ble_eq_true rfl, Nat.le_of_ble_eq_true rfl⟩) (PW_preV (i := 0) (by decide) CC_0 rfl rfl hK hP) rfl rfl hl.1 rfl (lv_room (Nat.le_of_ble_eq_true rfl)) dL_law_428 ⟨Nat.le_of_ble_eq_true rfl, Nat.le_of_ble_eq_true rfl⟩) hS hAA (fun H locs hP hS => ?_)
  generalize xX1_complain R F (xs (4 * n + 1)) o q = X at hP hA ⊢
  obtain ⟨r1, R1, F1⟩ := X
  dsimp only at hP ⊢
  obtain ⟨e84, e83, hv, hi⟩ := hA
  dsimp only at e84 e83 hv hi
  have hW : R1 84 1 = nI kw := by rw [e84]; exact hW84
  have hq83 : F1 83 0 = nI q := by rw [e83]; exact h83
  refine lv_aload_n hx hb dL_law_431 rfl (lv_at hl 3 rfl) ?_
  refine lv_aload_n hx hb dL_law_432 rfl (lv_at hl 1 rfl) ?_
  refine lv_iload_n hx hb dL_law_433 rfl (lv_at hl 0 rfl) ?_
  refine lv_iconst (v := 1) hx hb dL_law_434 (by decide) ?_
  refine lv_iadd hx hb dL_law_435 ?_
  refine q_sldN hx hb hX hbl hbA hS (4 * n + 1) dL_law_436 (nI_add (4 * n) 1) (by omega) (by omega) ?_
  refine q_callL (va_runV (As := [.int (xs (4 * n + 1))]) (rest := [.int _]) ⟨hx, hb, hml, hown, hts⟩ (mX2_complain l D cI cS ad hI R1 F1 (xs (4 * n + 1)) kw q hkw hW hh.2.1 hq83) (cwV 1 hts gL_law_X2_complain rfl rfl rfl (by decide +kernel) ⟨Nat.le_of_ble_eq_true rfl, Nat.le_of_ble_eq_true rfl⟩) (PW_preV (i := 83) (by decide) CC_83 rfl rfl hK hP) rfl rfl hl.1 rfl (lv_room (Nat.le_of_ble_eq_true rfl)) dL_law_437 ⟨Nat.le_of_ble_eq_true rfl, Nat.le_of_ble_eq_true rfl⟩) hS hAA (fun H locs hP hS => ?_)
  exact lv_icmp_eq (tgt := 685) hx hb dL_law_440 (by decide) (fun _ => hend _ _ H locs (INV_mono (by omega) hi) hP hS) (fun c9 => absurd hv c9)
set_option maxHeartbeats 4000000 in
set_option maxRecDepth 100000 in
theorem law_undo {p : Program} {l : Launch} {e : Env} {s : State} {m : MethodId} {below : List Frame} {meth : Method} {c : Code} {b L : Nat} {xs : Nat → Int32} {D : va_G} {cI cS : ClassId} {ad : Nat → Nat} {n : Nat} {R F : Nat → Nat → Int32} {H : Heap} {locs : List Loc} {ls : Array Slot} (hL : L ≤ 2048) (C0 : lw_At p s m meth c b L xs) (hI : Inj ad) (hAA : ∀ q : Nat, AA ad q → s.heap.size ≤ q) (hK : KK D cI cS s) (hn : 4 * n + 4 ≤ L) (hinv : INV n R F) (hP : WP D cI cS ad R F H) (hS : va_S (fun q : Nat => s.heap.size ≤ q) s.heap H locs) (hl : lv_has ls 4 [(3, .int (nI (4 * n))), (0, .ref b), (1, .ref (ad 0)), (2, .ref (ad 83))])
    (hend : ∀ (R F : Nat → Nat → Int32) (H : Heap) (locs : List Loc), INV (n + 1) R F → WP D cI cS ad R F H → va_S (fun q : Nat => s.heap.size ≤ q) s.heap H locs → W p l e room_1 s m #[Value.ref b] below meth c H locs 87 2223 (lw_Z below #[Value.ref b] s) (F0 m 685 ls [])) : W p l e room_1 s m #[Value.ref b] below meth c H locs 87 2223 (lw_Z below #[Value.ref b] s) (F0 m 445 ls []) := by
  obtain ⟨hx, hb, hr, hml, hown, htt, hX, hbl, hlocks, hgv⟩ := C0
  have hts : ∀ w ∈ wsL_law, w.before #[Value.ref b] s = true := fun w h => htt w (wsL_law_in w h)
  have hown : s.vm.findClass RL = some m.cls := hown
  have hbA : ¬ (fun q : Nat => s.heap.size ≤ q) b := Nat.not_le.mpr hbl
  obtain ⟨o, q, kw, mi, hh, hr0⟩ := hinv
  have hn512 : n ≤ 512 := by omega
  have hA := act_undo hh hr0 
  have hkw := hr0.1.1
  have hW84 := hr0.1.2.2.2.1
  have h83 := hh.2.2.2.2.1
  refine lv_aload_n hx hb dL_law_445 rfl (lv_at hl 2 rfl) ?_
  refine q_callL (va_runV (As := []) (rest := []) ⟨hx, hb, hml, hown, hts⟩ (mX1_undo l D cI cS ad hI R F  o q hh.1 hh.2.1 hh.2.2.1 hh.2.2.2.1) (cwV 0 hts gL_law_X1_undo rfl rfl rfl (by decide +kernel) ⟨Nat.le_of_ble_eq_true rfl, Nat.le_of_ble_eq_true rfl⟩) (PW_preV (i := 0) (by decide) CC_0 rfl rfl hK hP) rfl rfl hl.1 rfl (lv_room (Nat.le_of_ble_eq_true rfl)) dL_law_446 ⟨Nat.le_of_ble_eq_true rfl, Nat.le_of_ble_eq_true rfl⟩) hS hAA (fun H locs hP hS => ?_)
  generalize xX1_undo R F  o q = X at hP hA ⊢
  obtain ⟨r1, R1, F1⟩ := X
  dsimp only at hP ⊢
  obtain ⟨e84, e83, hv, hi⟩ := hA
  dsimp only at e84 e83 hv hi
  have hW : R1 84 1 = nI kw := by rw [e84]; exact hW84
  have hq83 : F1 83 0 = nI q := by rw [e83]; exact h83
  refine lv_aload_n hx hb dL_law_449 rfl (lv_at hl 3 rfl) ?_
  refine q_callL (va_runV (As := []) (rest := [.int _]) ⟨hx, hb, hml, hown, hts⟩ (mX2_undo l D cI cS ad hI R1 F1  q hh.2.1 hq83) (cwV 0 hts gL_law_X2_undo rfl rfl rfl (by decide +kernel) ⟨Nat.le_of_ble_eq_true rfl, Nat.le_of_ble_eq_true rfl⟩) (PW_preV (i := 83) (by decide) CC_83 rfl rfl hK hP) rfl rfl hl.1 rfl (lv_room (Nat.le_of_ble_eq_true rfl)) dL_law_450 ⟨Nat.le_of_ble_eq_true rfl, Nat.le_of_ble_eq_true rfl⟩) hS hAA (fun H locs hP hS => ?_)
  exact lv_icmp_eq (tgt := 685) hx hb dL_law_453 (by decide) (fun _ => hend _ _ H locs (INV_mono (by omega) hi) hP hS) (fun c9 => absurd hv c9)
set_option maxHeartbeats 4000000 in
set_option maxRecDepth 100000 in
theorem law_count {p : Program} {l : Launch} {e : Env} {s : State} {m : MethodId} {below : List Frame} {meth : Method} {c : Code} {b L : Nat} {xs : Nat → Int32} {D : va_G} {cI cS : ClassId} {ad : Nat → Nat} {n : Nat} {R F : Nat → Nat → Int32} {H : Heap} {locs : List Loc} {ls : Array Slot} (hL : L ≤ 2048) (C0 : lw_At p s m meth c b L xs) (hI : Inj ad) (hAA : ∀ q : Nat, AA ad q → s.heap.size ≤ q) (hK : KK D cI cS s) (hn : 4 * n + 4 ≤ L) (hinv : INV n R F) (hP : WP D cI cS ad R F H) (hS : va_S (fun q : Nat => s.heap.size ≤ q) s.heap H locs) (hl : lv_has ls 4 [(3, .int (nI (4 * n))), (0, .ref b), (1, .ref (ad 0)), (2, .ref (ad 83))])
    (hend : ∀ (R F : Nat → Nat → Int32) (H : Heap) (locs : List Loc), INV (n + 1) R F → WP D cI cS ad R F H → va_S (fun q : Nat => s.heap.size ≤ q) s.heap H locs → W p l e room_1 s m #[Value.ref b] below meth c H locs 87 2223 (lw_Z below #[Value.ref b] s) (F0 m 685 ls [])) : W p l e room_1 s m #[Value.ref b] below meth c H locs 87 2223 (lw_Z below #[Value.ref b] s) (F0 m 458 ls []) := by
  obtain ⟨hx, hb, hr, hml, hown, htt, hX, hbl, hlocks, hgv⟩ := C0
  have hts : ∀ w ∈ wsL_law, w.before #[Value.ref b] s = true := fun w h => htt w (wsL_law_in w h)
  have hown : s.vm.findClass RL = some m.cls := hown
  have hbA : ¬ (fun q : Nat => s.heap.size ≤ q) b := Nat.not_le.mpr hbl
  obtain ⟨o, q, kw, mi, hh, hr0⟩ := hinv
  have hn512 : n ≤ 512 := by omega
  have hA := lk_count hh hr0 (xs (4 * n + 1))
  have hkw := hr0.1.1
  have hW84 := hr0.1.2.2.2.1
  have h83 := hh.2.2.2.2.1
  refine lv_aload_n hx hb dL_law_458 rfl (lv_at hl 2 rfl) ?_
  refine lv_aload_n hx hb dL_law_459 rfl (lv_at hl 1 rfl) ?_
  refine lv_iload_n hx hb dL_law_460 rfl (lv_at hl 0 rfl) ?_
  refine lv_iconst (v := 1) hx hb dL_law_461 (by decide) ?_
  refine lv_iadd hx hb dL_law_462 ?_
  refine q_sldN hx hb hX hbl hbA hS (4 * n + 1) dL_law_463 (nI_add (4 * n) 1) (by omega) (by omega) ?_
  refine q_callL (va_runV (As := [.int (xs (4 * n + 1))]) (rest := []) ⟨hx, hb, hml, hown, hts⟩ (mX1_count l D cI cS ad hI R F (xs (4 * n + 1))) (cwV 1 hts gL_law_X1_count rfl rfl rfl (by decide +kernel) ⟨Nat.le_of_ble_eq_true rfl, Nat.le_of_ble_eq_true rfl⟩) (PW_preV (i := 0) (by decide) CC_0 rfl rfl hK hP) rfl rfl hl.1 rfl (lv_room (Nat.le_of_ble_eq_true rfl)) dL_law_464 ⟨Nat.le_of_ble_eq_true rfl, Nat.le_of_ble_eq_true rfl⟩) hS hAA (fun H locs hP hS => ?_)
  generalize xX1_count R F (xs (4 * n + 1)) = X at hP hA ⊢
  obtain ⟨r1, R1⟩ := X
  dsimp only at hP ⊢
  obtain ⟨e84, e83, hv, hi⟩ := hA
  dsimp only at e84 e83 hv hi
  have hW : R1 84 1 = nI kw := by rw [e84]; exact hW84
  have hq83 : F 83 0 = nI q := by rw [e83]; exact h83
  refine lv_aload_n hx hb dL_law_467 rfl (lv_at hl 3 rfl) ?_
  refine lv_aload_n hx hb dL_law_468 rfl (lv_at hl 1 rfl) ?_
  refine lv_iload_n hx hb dL_law_469 rfl (lv_at hl 0 rfl) ?_
  refine lv_iconst (v := 1) hx hb dL_law_470 (by decide) ?_
  refine lv_iadd hx hb dL_law_471 ?_
  refine q_sldN hx hb hX hbl hbA hS (4 * n + 1) dL_law_472 (nI_add (4 * n) 1) (by omega) (by omega) ?_
  refine q_callS (va_runV (As := [.int (xs (4 * n + 1))]) (rest := [.int _]) ⟨hx, hb, hml, hown, hts⟩ (mX2_count l D cI cS ad hI R1 F (xs (4 * n + 1)) kw hkw hW) (cwV 1 hts gL_law_X2_count rfl rfl rfl (by decide +kernel) ⟨Nat.le_of_ble_eq_true rfl, Nat.le_of_ble_eq_true rfl⟩) (PW_preV (i := 83) (by decide) CC_83 rfl rfl hK hP) rfl rfl hl.1 rfl (lv_room (Nat.le_of_ble_eq_true rfl)) dL_law_473 ⟨Nat.le_of_ble_eq_true rfl, Nat.le_of_ble_eq_true rfl⟩) ?_
  exact lv_icmp_eq (tgt := 685) hx hb dL_law_476 (by decide) (fun _ => hend _ _ H locs (INV_mono (by omega) hi) hP hS) (fun c9 => absurd hv c9)
set_option maxHeartbeats 4000000 in
set_option maxRecDepth 100000 in
theorem law_cell {p : Program} {l : Launch} {e : Env} {s : State} {m : MethodId} {below : List Frame} {meth : Method} {c : Code} {b L : Nat} {xs : Nat → Int32} {D : va_G} {cI cS : ClassId} {ad : Nat → Nat} {n : Nat} {R F : Nat → Nat → Int32} {H : Heap} {locs : List Loc} {ls : Array Slot} (hL : L ≤ 2048) (C0 : lw_At p s m meth c b L xs) (hI : Inj ad) (hAA : ∀ q : Nat, AA ad q → s.heap.size ≤ q) (hK : KK D cI cS s) (hn : 4 * n + 4 ≤ L) (hinv : INV n R F) (hP : WP D cI cS ad R F H) (hS : va_S (fun q : Nat => s.heap.size ≤ q) s.heap H locs) (hl : lv_has ls 4 [(3, .int (nI (4 * n))), (0, .ref b), (1, .ref (ad 0)), (2, .ref (ad 83))])
    (hend : ∀ (R F : Nat → Nat → Int32) (H : Heap) (locs : List Loc), INV (n + 1) R F → WP D cI cS ad R F H → va_S (fun q : Nat => s.heap.size ≤ q) s.heap H locs → W p l e room_1 s m #[Value.ref b] below meth c H locs 87 2223 (lw_Z below #[Value.ref b] s) (F0 m 685 ls [])) : W p l e room_1 s m #[Value.ref b] below meth c H locs 87 2223 (lw_Z below #[Value.ref b] s) (F0 m 481 ls []) := by
  obtain ⟨hx, hb, hr, hml, hown, htt, hX, hbl, hlocks, hgv⟩ := C0
  have hts : ∀ w ∈ wsL_law, w.before #[Value.ref b] s = true := fun w h => htt w (wsL_law_in w h)
  have hown : s.vm.findClass RL = some m.cls := hown
  have hbA : ¬ (fun q : Nat => s.heap.size ≤ q) b := Nat.not_le.mpr hbl
  obtain ⟨o, q, kw, mi, hh, hr0⟩ := hinv
  have hn512 : n ≤ 512 := by omega
  have hA := lk_cell hh hr0 (xs (4 * n + 1)) (xs (4 * n + 2))
  have hkw := hr0.1.1
  have hW84 := hr0.1.2.2.2.1
  have h83 := hh.2.2.2.2.1
  refine lv_aload_n hx hb dL_law_481 rfl (lv_at hl 2 rfl) ?_
  refine lv_aload_n hx hb dL_law_482 rfl (lv_at hl 1 rfl) ?_
  refine lv_iload_n hx hb dL_law_483 rfl (lv_at hl 0 rfl) ?_
  refine lv_iconst (v := 1) hx hb dL_law_484 (by decide) ?_
  refine lv_iadd hx hb dL_law_485 ?_
  refine q_sldN hx hb hX hbl hbA hS (4 * n + 1) dL_law_486 (nI_add (4 * n) 1) (by omega) (by omega) ?_
  refine lv_aload_n hx hb dL_law_487 rfl (lv_at hl 1 rfl) ?_
  refine lv_iload_n hx hb dL_law_488 rfl (lv_at hl 0 rfl) ?_
  refine lv_iconst (v := 2) hx hb dL_law_489 (by decide) ?_
  refine lv_iadd hx hb dL_law_490 ?_
  refine q_sldN hx hb hX hbl hbA hS (4 * n + 2) dL_law_491 (nI_add (4 * n) 2) (by omega) (by omega) ?_
  refine q_callL (va_runV (As := [.int (xs (4 * n + 1)), .int (xs (4 * n + 2))]) (rest := []) ⟨hx, hb, hml, hown, hts⟩ (mX1_cell l D cI cS ad hI R F (xs (4 * n + 1)) (xs (4 * n + 2))) (cwV 2 hts gL_law_X1_cell rfl rfl rfl (by decide +kernel) ⟨Nat.le_of_ble_eq_true rfl, Nat.le_of_ble_eq_true rfl⟩) (PW_preV (i := 0) (by decide) CC_0 rfl rfl hK hP) rfl rfl hl.1 rfl (lv_room (Nat.le_of_ble_eq_true rfl)) dL_law_492 ⟨Nat.le_of_ble_eq_true rfl, Nat.le_of_ble_eq_true rfl⟩) hS hAA (fun H locs hP hS => ?_)
  generalize xX1_cell R F (xs (4 * n + 1)) (xs (4 * n + 2)) = X at hP hA ⊢
  obtain ⟨r1, R1⟩ := X
  dsimp only at hP ⊢
  obtain ⟨e84, e83, hv, hi⟩ := hA
  dsimp only at e84 e83 hv hi
  have hW : R1 84 1 = nI kw := by rw [e84]; exact hW84
  have hq83 : F 83 0 = nI q := by rw [e83]; exact h83
  refine lv_aload_n hx hb dL_law_495 rfl (lv_at hl 3 rfl) ?_
  refine lv_aload_n hx hb dL_law_496 rfl (lv_at hl 1 rfl) ?_
  refine lv_iload_n hx hb dL_law_497 rfl (lv_at hl 0 rfl) ?_
  refine lv_iconst (v := 1) hx hb dL_law_498 (by decide) ?_
  refine lv_iadd hx hb dL_law_499 ?_
  refine q_sldN hx hb hX hbl hbA hS (4 * n + 1) dL_law_500 (nI_add (4 * n) 1) (by omega) (by omega) ?_
  refine lv_aload_n hx hb dL_law_501 rfl (lv_at hl 1 rfl) ?_
  refine lv_iload_n hx hb dL_law_502 rfl (lv_at hl 0 rfl) ?_
  refine lv_iconst (v := 2) hx hb dL_law_503 (by decide) ?_
  refine lv_iadd hx hb dL_law_504 ?_
  refine q_sldN hx hb hX hbl hbA hS (4 * n + 2) dL_law_505 (nI_add (4 * n) 2) (by omega) (by omega) ?_
  refine q_callS (va_runV (As := [.int (xs (4 * n + 1)), .int (xs (4 * n + 2))]) (rest := [.int _]) ⟨hx, hb, hml, hown, hts⟩ (mX2_cell l D cI cS ad hI R1 F (xs (4 * n + 1)) (xs (4 * n + 2)) kw hkw hW) (cwV 2 hts gL_law_X2_cell rfl rfl rfl (by decide +kernel) ⟨Nat.le_of_ble_eq_true rfl, Nat.le_of_ble_eq_true rfl⟩) (PW_preV (i := 83) (by decide) CC_83 rfl rfl hK hP) rfl rfl hl.1 rfl (lv_room (Nat.le_of_ble_eq_true rfl)) dL_law_506 ⟨Nat.le_of_ble_eq_true rfl, Nat.le_of_ble_eq_true rfl⟩) ?_
  exact lv_icmp_eq (tgt := 685) hx hb dL_law_509 (by decide) (fun _ => hend _ _ H locs (INV_mono (by omega) hi) hP hS) (fun c9 => absurd hv c9)
set_option maxHeartbeats 4000000 in
set_option maxRecDepth 100000 in
theorem law_walker {p : Program} {l : Launch} {e : Env} {s : State} {m : MethodId} {below : List Frame} {meth : Method} {c : Code} {b L : Nat} {xs : Nat → Int32} {D : va_G} {cI cS : ClassId} {ad : Nat → Nat} {n : Nat} {R F : Nat → Nat → Int32} {H : Heap} {locs : List Loc} {ls : Array Slot} (hL : L ≤ 2048) (C0 : lw_At p s m meth c b L xs) (hI : Inj ad) (hAA : ∀ q : Nat, AA ad q → s.heap.size ≤ q) (hK : KK D cI cS s) (hn : 4 * n + 4 ≤ L) (hinv : INV n R F) (hP : WP D cI cS ad R F H) (hS : va_S (fun q : Nat => s.heap.size ≤ q) s.heap H locs) (hl : lv_has ls 4 [(3, .int (nI (4 * n))), (0, .ref b), (1, .ref (ad 0)), (2, .ref (ad 83))])
    (hend : ∀ (R F : Nat → Nat → Int32) (H : Heap) (locs : List Loc), INV (n + 1) R F → WP D cI cS ad R F H → va_S (fun q : Nat => s.heap.size ≤ q) s.heap H locs → W p l e room_1 s m #[Value.ref b] below meth c H locs 87 2223 (lw_Z below #[Value.ref b] s) (F0 m 685 ls [])) : W p l e room_1 s m #[Value.ref b] below meth c H locs 87 2223 (lw_Z below #[Value.ref b] s) (F0 m 514 ls []) := by
  obtain ⟨hx, hb, hr, hml, hown, htt, hX, hbl, hlocks, hgv⟩ := C0
  have hts : ∀ w ∈ wsL_law, w.before #[Value.ref b] s = true := fun w h => htt w (wsL_law_in w h)
  have hown : s.vm.findClass RL = some m.cls := hown
  have hbA : ¬ (fun q : Nat => s.heap.size ≤ q) b := Nat.not_le.mpr hbl
  obtain ⟨o, q, kw, mi, hh, hr0⟩ := hinv
  have hn512 : n ≤ 512 := by omega
  have hA := lk_walker hh hr0 (xs (4 * n + 1)) (xs (4 * n + 2))
  have hkw := hr0.1.1
  have hW84 := hr0.1.2.2.2.1
  have h83 := hh.2.2.2.2.1
  refine lv_aload_n hx hb dL_law_514 rfl (lv_at hl 2 rfl) ?_
  refine lv_aload_n hx hb dL_law_515 rfl (lv_at hl 1 rfl) ?_
  refine lv_iload_n hx hb dL_law_516 rfl (lv_at hl 0 rfl) ?_
  refine lv_iconst (v := 1) hx hb dL_law_517 (by decide) ?_
  refine lv_iadd hx hb dL_law_518 ?_
  refine q_sldN hx hb hX hbl hbA hS (4 * n + 1) dL_law_519 (nI_add (4 * n) 1) (by omega) (by omega) ?_
  refine lv_aload_n hx hb dL_law_520 rfl (lv_at hl 1 rfl) ?_
  refine lv_iload_n hx hb dL_law_521 rfl (lv_at hl 0 rfl) ?_
  refine lv_iconst (v := 2) hx hb dL_law_522 (by decide) ?_
  refine lv_iadd hx hb dL_law_523 ?_
  refine q_sldN hx hb hX hbl hbA hS (4 * n + 2) dL_law_524 (nI_add (4 * n) 2) (by omega) (by omega) ?_
  refine q_callS (va_runV (As := [.int (xs (4 * n + 1)), .int (xs (4 * n + 2))]) (rest := []) ⟨hx, hb, hml, hown, hts⟩ (mX1_walker l D cI cS ad hI R F (xs (4 * n + 1)) (xs (4 * n + 2))) (cwV 2 hts gL_law_X1_walker rfl rfl rfl (by decide +kernel) ⟨Nat.le_of_ble_eq_true rfl, Nat.le_of_ble_eq_true rfl⟩) (PW_preV (i := 0) (by decide) CC_0 rfl rfl hK hP) rfl rfl hl.1 rfl (lv_room (Nat.le_of_ble_eq_true rfl)) dL_law_525 ⟨Nat.le_of_ble_eq_true rfl, Nat.le_of_ble_eq_true rfl⟩) ?_
  obtain ⟨e84, e83, hv, hi⟩ := hA
  dsimp only at e84 e83 hv hi
  have hW : R 84 1 = nI kw := by rw [e84]; exact hW84
  have hq83 : F 83 0 = nI q := by rw [e83]; exact h83
  refine lv_aload_n hx hb dL_law_528 rfl (lv_at hl 3 rfl) ?_
  refine lv_aload_n hx hb dL_law_529 rfl (lv_at hl 1 rfl) ?_
  refine lv_iload_n hx hb dL_law_530 rfl (lv_at hl 0 rfl) ?_
  refine lv_iconst (v := 1) hx hb dL_law_531 (by decide) ?_
  refine lv_iadd hx hb dL_law_532 ?_
  refine q_sldN hx hb hX hbl hbA hS (4 * n + 1) dL_law_533 (nI_add (4 * n) 1) (by omega) (by omega) ?_
  refine lv_aload_n hx hb dL_law_534 rfl (lv_at hl 1 rfl) ?_
  refine lv_iload_n hx hb dL_law_535 rfl (lv_at hl 0 rfl) ?_
  refine lv_iconst (v := 2) hx hb dL_law_536 (by decide) ?_
  refine lv_iadd hx hb dL_law_537 ?_
  refine q_sldN hx hb hX hbl hbA hS (4 * n + 2) dL_law_538 (nI_add (4 * n) 2) (by omega) (by omega) ?_
  refine q_callS (va_runV (As := [.int (xs (4 * n + 1)), .int (xs (4 * n + 2))]) (rest := [.int _]) ⟨hx, hb, hml, hown, hts⟩ (mX2_walker l D cI cS ad hI R F (xs (4 * n + 1)) (xs (4 * n + 2)) kw hkw hW) (cwV 2 hts gL_law_X2_walker rfl rfl rfl (by decide +kernel) ⟨Nat.le_of_ble_eq_true rfl, Nat.le_of_ble_eq_true rfl⟩) (PW_preV (i := 83) (by decide) CC_83 rfl rfl hK hP) rfl rfl hl.1 rfl (lv_room (Nat.le_of_ble_eq_true rfl)) dL_law_539 ⟨Nat.le_of_ble_eq_true rfl, Nat.le_of_ble_eq_true rfl⟩) ?_
  exact lv_icmp_eq (tgt := 685) hx hb dL_law_542 (by decide) (fun _ => hend _ _ H locs (INV_mono (by omega) hi) hP hS) (fun c9 => absurd hv c9)
set_option maxHeartbeats 4000000 in
set_option maxRecDepth 100000 in
theorem law_estimate {p : Program} {l : Launch} {e : Env} {s : State} {m : MethodId} {below : List Frame} {meth : Method} {c : Code} {b L : Nat} {xs : Nat → Int32} {D : va_G} {cI cS : ClassId} {ad : Nat → Nat} {n : Nat} {R F : Nat → Nat → Int32} {H : Heap} {locs : List Loc} {ls : Array Slot} (hL : L ≤ 2048) (C0 : lw_At p s m meth c b L xs) (hI : Inj ad) (hAA : ∀ q : Nat, AA ad q → s.heap.size ≤ q) (hK : KK D cI cS s) (hn : 4 * n + 4 ≤ L) (hinv : INV n R F) (hP : WP D cI cS ad R F H) (hS : va_S (fun q : Nat => s.heap.size ≤ q) s.heap H locs) (hl : lv_has ls 4 [(3, .int (nI (4 * n))), (0, .ref b), (1, .ref (ad 0)), (2, .ref (ad 83))])
    (hend : ∀ (R F : Nat → Nat → Int32) (H : Heap) (locs : List Loc), INV (n + 1) R F → WP D cI cS ad R F H → va_S (fun q : Nat => s.heap.size ≤ q) s.heap H locs → W p l e room_1 s m #[Value.ref b] below meth c H locs 87 2223 (lw_Z below #[Value.ref b] s) (F0 m 685 ls [])) : W p l e room_1 s m #[Value.ref b] below meth c H locs 87 2223 (lw_Z below #[Value.ref b] s) (F0 m 547 ls []) := by
  obtain ⟨hx, hb, hr, hml, hown, htt, hX, hbl, hlocks, hgv⟩ := C0
  have hts : ∀ w ∈ wsL_law, w.before #[Value.ref b] s = true := fun w h => htt w (wsL_law_in w h)
  have hown : s.vm.findClass RL = some m.cls := hown
  have hbA : ¬ (fun q : Nat => s.heap.size ≤ q) b := Nat.not_le.mpr hbl
  obtain ⟨o, q, kw, mi, hh, hr0⟩ := hinv
  have hn512 : n ≤ 512 := by omega
  have hA := lk_estimate hh hr0 (xs (4 * n + 1))
  have hkw := hr0.1.1
  have hW84 := hr0.1.2.2.2.1
  have h83 := hh.2.2.2.2.1
  refine lv_aload_n hx hb dL_law_547 rfl (lv_at hl 2 rfl) ?_
  refine lv_aload_n hx hb dL_law_548 rfl (lv_at hl 1 rfl) ?_
  refine lv_iload_n hx hb dL_law_549 rfl (lv_at hl 0 rfl) ?_
  refine lv_iconst (v := 1) hx hb dL_law_550 (by decide) ?_
  refine lv_iadd hx hb dL_law_551 ?_
  refine q_sldN hx hb hX hbl hbA hS (4 * n + 1) dL_law_552 (nI_add (4 * n) 1) (by omega) (by omega) ?_
  refine q_callL (va_runV (As := [.int (xs (4 * n + 1))]) (rest := []) ⟨hx, hb, hml, hown, hts⟩ (mX1_estimate l D cI cS ad hI R F (xs (4 * n + 1))) (cwV 1 hts gL_law_X1_estimate rfl rfl rfl (by decide +kernel) ⟨Nat.le_of_ble_eq_true rfl, Nat.le_of_ble_eq_true rfl⟩) (PW_preV (i := 0) (by decide) CC_0 rfl rfl hK hP) rfl rfl hl.1 rfl (lv_room (Nat.le_of_ble_eq_true rfl)) dL_law_553 ⟨Nat.le_of_ble_eq_true rfl, Nat.le_of_ble_eq_true rfl⟩) hS hAA (fun H locs hP hS => ?_)
  generalize xX1_estimate R F (xs (4 * n + 1)) = X at hP hA ⊢
  obtain ⟨r1, R1⟩ := X
  dsimp only at hP ⊢
  obtain ⟨e84, e83, hv, hi⟩ := hA
  dsimp only at e84 e83 hv hi
  have hW : R1 84 1 = nI kw := by rw [e84]; exact hW84
  have hq83 : F 83 0 = nI q := by rw [e83]; exact h83
  refine lv_aload_n hx hb dL_law_556 rfl (lv_at hl 3 rfl) ?_
  refine lv_aload_n hx hb dL_law_557 rfl (lv_at hl 1 rfl) ?_
  refine lv_iload_n hx hb dL_law_558 rfl (lv_at hl 0 rfl) ?_
  refine lv_iconst (v := 1) hx hb dL_law_559 (by decide) ?_
  refine lv_iadd hx hb dL_law_560 ?_
  refine q_sldN hx hb hX hbl hbA hS (4 * n + 1) dL_law_561 (nI_add (4 * n) 1) (by omega) (by omega) ?_
  refine q_callS (va_runV (As := [.int (xs (4 * n + 1))]) (rest := [.int _]) ⟨hx, hb, hml, hown, hts⟩ (mX2_estimate l D cI cS ad hI R1 F (xs (4 * n + 1)) kw hkw hW) (cwV 1 hts gL_law_X2_estimate rfl rfl rfl (by decide +kernel) ⟨Nat.le_of_ble_eq_true rfl, Nat.le_of_ble_eq_true rfl⟩) (PW_preV (i := 83) (by decide) CC_83 rfl rfl hK hP) rfl rfl hl.1 rfl (lv_room (Nat.le_of_ble_eq_true rfl)) dL_law_562 ⟨Nat.le_of_ble_eq_true rfl, Nat.le_of_ble_eq_true rfl⟩) ?_
  exact lv_icmp_eq (tgt := 685) hx hb dL_law_565 (by decide) (fun _ => hend _ _ H locs (INV_mono (by omega) hi) hP hS) (fun c9 => absurd hv c9)
set_option maxHeartbeats 4000000 in
set_option maxRecDepth 100000 in
theorem law_certainty {p : Program} {l : Launch} {e : Env} {s : State} {m : MethodId} {below : List Frame} {meth : Method} {c : Code} {b L : Nat} {xs : Nat → Int32} {D : va_G} {cI cS : ClassId} {ad : Nat → Nat} {n : Nat} {R F : Nat → Nat → Int32} {H : Heap} {locs : List Loc} {ls : Array Slot} (hL : L ≤ 2048) (C0 : lw_At p s m meth c b L xs) (hI : Inj ad) (hAA : ∀ q : Nat, AA ad q → s.heap.size ≤ q) (hK : KK D cI cS s) (hn : 4 * n + 4 ≤ L) (hinv : INV n R F) (hP : WP D cI cS ad R F H) (hS : va_S (fun q : Nat => s.heap.size ≤ q) s.heap H locs) (hl : lv_has ls 4 [(3, .int (nI (4 * n))), (0, .ref b), (1, .ref (ad 0)), (2, .ref (ad 83))])
    (hend : ∀ (R F : Nat → Nat → Int32) (H : Heap) (locs : List Loc), INV (n + 1) R F → WP D cI cS ad R F H → va_S (fun q : Nat => s.heap.size ≤ q) s.heap H locs → W p l e room_1 s m #[Value.ref b] below meth c H locs 87 2223 (lw_Z below #[Value.ref b] s) (F0 m 685 ls [])) : W p l e room_1 s m #[Value.ref b] below meth c H locs 87 2223 (lw_Z below #[Value.ref b] s) (F0 m 570 ls []) := by
  obtain ⟨hx, hb, hr, hml, hown, htt, hX, hbl, hlocks, hgv⟩ := C0
  have hts : ∀ w ∈ wsL_law, w.before #[Value.ref b] s = true := fun w h => htt w (wsL_law_in w h)
  have hown : s.vm.findClass RL = some m.cls := hown
  have hbA : ¬ (fun q : Nat => s.heap.size ≤ q) b := Nat.not_le.mpr hbl
  obtain ⟨o, q, kw, mi, hh, hr0⟩ := hinv
  have hn512 : n ≤ 512 := by omega
  have hA := lk_certainty hh hr0 (xs (4 * n + 1))
  have hkw := hr0.1.1
  have hW84 := hr0.1.2.2.2.1
  have h83 := hh.2.2.2.2.1
  refine lv_aload_n hx hb dL_law_570 rfl (lv_at hl 2 rfl) ?_
  refine lv_aload_n hx hb dL_law_571 rfl (lv_at hl 1 rfl) ?_
  refine lv_iload_n hx hb dL_law_572 rfl (lv_at hl 0 rfl) ?_
  refine lv_iconst (v := 1) hx hb dL_law_573 (by decide) ?_
  refine lv_iadd hx hb dL_law_574 ?_
  refine q_sldN hx hb hX hbl hbA hS (4 * n + 1) dL_law_575 (nI_add (4 * n) 1) (by omega) (by omega) ?_
  refine q_callS (va_runV (As := [.int (xs (4 * n + 1))]) (rest := []) ⟨hx, hb, hml, hown, hts⟩ (mX1_certainty l D cI cS ad hI R F (xs (4 * n + 1))) (cwV 1 hts gL_law_X1_certainty rfl rfl rfl (by decide +kernel) ⟨Nat.le_of_ble_eq_true rfl, Nat.le_of_ble_eq_true rfl⟩) (PW_preV (i := 0) (by decide) CC_0 rfl rfl hK hP) rfl rfl hl.1 rfl (lv_room (Nat.le_of_ble_eq_true rfl)) dL_law_576 ⟨Nat.le_of_ble_eq_true rfl, Nat.le_of_ble_eq_true rfl⟩) ?_
  obtain ⟨e84, e83, hv, hi⟩ := hA
  dsimp only at e84 e83 hv hi
  have hW : R 84 1 = nI kw := by rw [e84]; exact hW84
  have hq83 : F 83 0 = nI q := by rw [e83]; exact h83
  refine lv_aload_n hx hb dL_law_579 rfl (lv_at hl 3 rfl) ?_
  refine lv_aload_n hx hb dL_law_580 rfl (lv_at hl 1 rfl) ?_
  refine lv_iload_n hx hb dL_law_581 rfl (lv_at hl 0 rfl) ?_
  refine lv_iconst (v := 1) hx hb dL_law_582 (by decide) ?_
  refine lv_iadd hx hb dL_law_583 ?_
  refine q_sldN hx hb hX hbl hbA hS (4 * n + 1) dL_law_584 (nI_add (4 * n) 1) (by omega) (by omega) ?_
  refine q_callS (va_runV (As := [.int (xs (4 * n + 1))]) (rest := [.int _]) ⟨hx, hb, hml, hown, hts⟩ (mX2_certainty l D cI cS ad hI R F (xs (4 * n + 1)) kw hkw hW) (cwV 1 hts gL_law_X2_certainty rfl rfl rfl (by decide +kernel) ⟨Nat.le_of_ble_eq_true rfl, Nat.le_of_ble_eq_true rfl⟩) (PW_preV (i := 83) (by decide) CC_83 rfl rfl hK hP) rfl rfl hl.1 rfl (lv_room (Nat.le_of_ble_eq_true rfl)) dL_law_585 ⟨Nat.le_of_ble_eq_true rfl, Nat.le_of_ble_eq_true rfl⟩) ?_
  exact lv_icmp_eq (tgt := 685) hx hb dL_law_588 (by decide) (fun _ => hend _ _ H locs (INV_mono (by omega) hi) hP hS) (fun c9 => absurd hv c9)
set_option maxHeartbeats 4000000 in
set_option maxRecDepth 100000 in
theorem law_guess {p : Program} {l : Launch} {e : Env} {s : State} {m : MethodId} {below : List Frame} {meth : Method} {c : Code} {b L : Nat} {xs : Nat → Int32} {D : va_G} {cI cS : ClassId} {ad : Nat → Nat} {n : Nat} {R F : Nat → Nat → Int32} {H : Heap} {locs : List Loc} {ls : Array Slot} (hL : L ≤ 2048) (C0 : lw_At p s m meth c b L xs) (hI : Inj ad) (hAA : ∀ q : Nat, AA ad q → s.heap.size ≤ q) (hK : KK D cI cS s) (hn : 4 * n + 4 ≤ L) (hinv : INV n R F) (hP : WP D cI cS ad R F H) (hS : va_S (fun q : Nat => s.heap.size ≤ q) s.heap H locs) (hl : lv_has ls 4 [(3, .int (nI (4 * n))), (0, .ref b), (1, .ref (ad 0)), (2, .ref (ad 83))])
    (hend : ∀ (R F : Nat → Nat → Int32) (H : Heap) (locs : List Loc), INV (n + 1) R F → WP D cI cS ad R F H → va_S (fun q : Nat => s.heap.size ≤ q) s.heap H locs → W p l e room_1 s m #[Value.ref b] below meth c H locs 87 2223 (lw_Z below #[Value.ref b] s) (F0 m 685 ls [])) : W p l e room_1 s m #[Value.ref b] below meth c H locs 87 2223 (lw_Z below #[Value.ref b] s) (F0 m 593 ls []) := by
  obtain ⟨hx, hb, hr, hml, hown, htt, hX, hbl, hlocks, hgv⟩ := C0
  have hts : ∀ w ∈ wsL_law, w.before #[Value.ref b] s = true := fun w h => htt w (wsL_law_in w h)
  have hown : s.vm.findClass RL = some m.cls := hown
  have hbA : ¬ (fun q : Nat => s.heap.size ≤ q) b := Nat.not_le.mpr hbl
  obtain ⟨o, q, kw, mi, hh, hr0⟩ := hinv
  have hn512 : n ≤ 512 := by omega
  have hA := lk_guess hh hr0 (xs (4 * n + 1))
  have hkw := hr0.1.1
  have hW84 := hr0.1.2.2.2.1
  have h83 := hh.2.2.2.2.1
  refine lv_aload_n hx hb dL_law_593 rfl (lv_at hl 2 rfl) ?_
  refine lv_aload_n hx hb dL_law_594 rfl (lv_at hl 1 rfl) ?_
  refine lv_iload_n hx hb dL_law_595 rfl (lv_at hl 0 rfl) ?_
  refine lv_iconst (v := 1) hx hb dL_law_596 (by decide) ?_
  refine lv_iadd hx hb dL_law_597 ?_
  refine q_sldN hx hb hX hbl hbA hS (4 * n + 1) dL_law_598 (nI_add (4 * n) 1) (by omega) (by omega) ?_
  refine q_callL (va_runV (As := [.int (xs (4 * n + 1))]) (rest := []) ⟨hx, hb, hml, hown, hts⟩ (mX1_guess l D cI cS ad hI R F (xs (4 * n + 1))) (cwV 1 hts gL_law_X1_guess rfl rfl rfl (by decide +kernel) ⟨Nat.le_of_ble_eq_true rfl, Nat.le_of_ble_eq_true rfl⟩) (PW_preV (i := 0) (by decide) CC_0 rfl rfl hK hP) rfl rfl hl.1 rfl (lv_room (Nat.le_of_ble_eq_true rfl)) dL_law_599 ⟨Nat.le_of_ble_eq_true rfl, Nat.le_of_ble_eq_true rfl⟩) hS hAA (fun H locs hP hS => ?_)
  generalize xX1_guess R F (xs (4 * n + 1)) = X at hP hA ⊢
  obtain ⟨r1, R1⟩ := X
  dsimp only at hP ⊢
  obtain ⟨e84, e83, hv, hi⟩ := hA
  dsimp only at e84 e83 hv hi
  have hW : R1 84 1 = nI kw := by rw [e84]; exact hW84
  have hq83 : F 83 0 = nI q := by rw [e83]; exact h83
  refine lv_aload_n hx hb dL_law_602 rfl (lv_at hl 3 rfl) ?_
  refine lv_aload_n hx hb dL_law_603 rfl (lv_at hl 1 rfl) ?_
  refine lv_iload_n hx hb dL_law_604 rfl (lv_at hl 0 rfl) ?_
  refine lv_iconst (v := 1) hx hb dL_law_605 (by decide) ?_
  refine lv_iadd hx hb dL_law_606 ?_
  refine q_sldN hx hb hX hbl hbA hS (4 * n + 1) dL_law_607 (nI_add (4 * n) 1) (by omega) (by omega) ?_
  refine q_callL (va_runV (As := [.int (xs (4 * n + 1))]) (rest := [.int _]) ⟨hx, hb, hml, hown, hts⟩ (mX2_guess l D cI cS ad hI R1 F (xs (4 * n + 1)) kw hkw hW) (cwV 1 hts gL_law_X2_guess rfl rfl rfl (by decide +kernel) ⟨Nat.le_of_ble_eq_true rfl, Nat.le_of_ble_eq_true rfl⟩) (PW_preV (i := 83) (by decide) CC_83 rfl rfl hK hP) rfl rfl hl.1 rfl (lv_room (Nat.le_of_ble_eq_true rfl)) dL_law_608 ⟨Nat.le_of_ble_eq_true rfl, Nat.le_of_ble_eq_true rfl⟩) hS hAA (fun H locs hP hS => ?_)
  exact lv_icmp_eq (tgt := 685) hx hb dL_law_611 (by decide) (fun _ => hend _ _ H locs (INV_mono (by omega) hi) hP hS) (fun c9 => absurd hv c9)
set_option maxHeartbeats 4000000 in
set_option maxRecDepth 100000 in
theorem law_mend {p : Program} {l : Launch} {e : Env} {s : State} {m : MethodId} {below : List Frame} {meth : Method} {c : Code} {b L : Nat} {xs : Nat → Int32} {D : va_G} {cI cS : ClassId} {ad : Nat → Nat} {n : Nat} {R F : Nat → Nat → Int32} {H : Heap} {locs : List Loc} {ls : Array Slot} (hL : L ≤ 2048) (C0 : lw_At p s m meth c b L xs) (hI : Inj ad) (hAA : ∀ q : Nat, AA ad q → s.heap.size ≤ q) (hK : KK D cI cS s) (hn : 4 * n + 4 ≤ L) (hinv : INV n R F) (hP : WP D cI cS ad R F H) (hS : va_S (fun q : Nat => s.heap.size ≤ q) s.heap H locs) (hl : lv_has ls 4 [(3, .int (nI (4 * n))), (0, .ref b), (1, .ref (ad 0)), (2, .ref (ad 83))])
    (hend : ∀ (R F : Nat → Nat → Int32) (H : Heap) (locs : List Loc), INV (n + 1) R F → WP D cI cS ad R F H → va_S (fun q : Nat => s.heap.size ≤ q) s.heap H locs → W p l e room_1 s m #[Value.ref b] below meth c H locs 87 2223 (lw_Z below #[Value.ref b] s) (F0 m 685 ls [])) : W p l e room_1 s m #[Value.ref b] below meth c H locs 87 2223 (lw_Z below #[Value.ref b] s) (F0 m 616 ls []) := by
  obtain ⟨hx, hb, hr, hml, hown, htt, hX, hbl, hlocks, hgv⟩ := C0
  have hts : ∀ w ∈ wsL_law, w.before #[Value.ref b] s = true := fun w h => htt w (wsL_law_in w h)
  have hown : s.vm.findClass RL = some m.cls := hown
  have hbA : ¬ (fun q : Nat => s.heap.size ≤ q) b := Nat.not_le.mpr hbl
  obtain ⟨o, q, kw, mi, hh, hr0⟩ := hinv
  have hn512 : n ≤ 512 := by omega
  have hA := lk_mend hh hr0 (xs (4 * n + 1))
  have hkw := hr0.1.1
  have hW84 := hr0.1.2.2.2.1
  have h83 := hh.2.2.2.2.1
  refine lv_aload_n hx hb dL_law_616 rfl (lv_at hl 2 rfl) ?_
  refine lv_aload_n hx hb dL_law_617 rfl (lv_at hl 1 rfl) ?_
  refine lv_iload_n hx hb dL_law_618 rfl (lv_at hl 0 rfl) ?_
  refine lv_iconst (v := 1) hx hb dL_law_619 (by decide) ?_
  refine lv_iadd hx hb dL_law_620 ?_
  refine q_sldN hx hb hX hbl hbA hS (4 * n + 1) dL_law_621 (nI_add (4 * n) 1) (by omega) (by omega) ?_
  refine q_callL (va_runV (As := [.int (xs (4 * n + 1))]) (rest := []) ⟨hx, hb, hml, hown, hts⟩ (mX1_mend l D cI cS ad hI R F (xs (4 * n + 1))) (cwV 1 hts gL_law_X1_mend rfl rfl rfl (by decide +kernel) ⟨Nat.le_of_ble_eq_true rfl, Nat.le_of_ble_eq_true rfl⟩) (PW_preV (i := 0) (by decide) CC_0 rfl rfl hK hP) rfl rfl hl.1 rfl (lv_room (Nat.le_of_ble_eq_true rfl)) dL_law_622 ⟨Nat.le_of_ble_eq_true rfl, Nat.le_of_ble_eq_true rfl⟩) hS hAA (fun H locs hP hS => ?_)
  generalize xX1_mend R F (xs (4 * n + 1)) = X at hP hA ⊢
  obtain ⟨r1, R1⟩ := X
  dsimp only at hP ⊢
  obtain ⟨e84, e83, hv, hi⟩ := hA
  dsimp only at e84 e83 hv hi
  have hW : R1 84 1 = nI kw := by rw [e84]; exact hW84
  have hq83 : F 83 0 = nI q := by rw [e83]; exact h83
  refine lv_aload_n hx hb dL_law_625 rfl (lv_at hl 3 rfl) ?_
  refine lv_aload_n hx hb dL_law_626 rfl (lv_at hl 1 rfl) ?_
  refine lv_iload_n hx hb dL_law_627 rfl (lv_at hl 0 rfl) ?_
  refine lv_iconst (v := 1) hx hb dL_law_628 (by decide) ?_
  refine lv_iadd hx hb dL_law_629 ?_
  refine q_sldN hx hb hX hbl hbA hS (4 * n + 1) dL_law_630 (nI_add (4 * n) 1) (by omega) (by omega) ?_
  refine q_callL (va_runV (As := [.int (xs (4 * n + 1))]) (rest := [.int _]) ⟨hx, hb, hml, hown, hts⟩ (mX2_mend l D cI cS ad hI R1 F (xs (4 * n + 1)) kw 40320 hkw hW (by rw [e84]; exact mE_now hr0)) (cwV 1 hts gL_law_X2_mend rfl rfl rfl (by decide +kernel) ⟨Nat.le_of_ble_eq_true rfl, Nat.le_of_ble_eq_true rfl⟩) (PW_preV (i := 83) (by decide) CC_83 rfl rfl hK hP) rfl rfl hl.1 rfl (lv_room (Nat.le_of_ble_eq_true rfl)) dL_law_631 ⟨Nat.le_of_ble_eq_true rfl, Nat.le_of_ble_eq_true rfl⟩) hS hAA (fun H locs hP hS => ?_)
  exact lv_icmp_eq (tgt := 685) hx hb dL_law_634 (by decide) (fun _ => hend _ _ H locs (INV_mono (by omega) hi) hP hS) (fun c9 => absurd hv c9)
set_option maxHeartbeats 4000000 in
set_option maxRecDepth 100000 in
theorem law_bestCell {p : Program} {l : Launch} {e : Env} {s : State} {m : MethodId} {below : List Frame} {meth : Method} {c : Code} {b L : Nat} {xs : Nat → Int32} {D : va_G} {cI cS : ClassId} {ad : Nat → Nat} {n : Nat} {R F : Nat → Nat → Int32} {H : Heap} {locs : List Loc} {ls : Array Slot} (hL : L ≤ 2048) (C0 : lw_At p s m meth c b L xs) (hI : Inj ad) (hAA : ∀ q : Nat, AA ad q → s.heap.size ≤ q) (hK : KK D cI cS s) (hn : 4 * n + 4 ≤ L) (hinv : INV n R F) (hP : WP D cI cS ad R F H) (hS : va_S (fun q : Nat => s.heap.size ≤ q) s.heap H locs) (hl : lv_has ls 4 [(3, .int (nI (4 * n))), (0, .ref b), (1, .ref (ad 0)), (2, .ref (ad 83))])
    (hend : ∀ (R F : Nat → Nat → Int32) (H : Heap) (locs : List Loc), INV (n + 1) R F → WP D cI cS ad R F H → va_S (fun q : Nat => s.heap.size ≤ q) s.heap H locs → W p l e room_1 s m #[Value.ref b] below meth c H locs 87 2223 (lw_Z below #[Value.ref b] s) (F0 m 685 ls [])) : W p l e room_1 s m #[Value.ref b] below meth c H locs 87 2223 (lw_Z below #[Value.ref b] s) (F0 m 639 ls []) := by
  obtain ⟨hx, hb, hr, hml, hown, htt, hX, hbl, hlocks, hgv⟩ := C0
  have hts : ∀ w ∈ wsL_law, w.before #[Value.ref b] s = true := fun w h => htt w (wsL_law_in w h)
  have hown : s.vm.findClass RL = some m.cls := hown
  have hbA : ¬ (fun q : Nat => s.heap.size ≤ q) b := Nat.not_le.mpr hbl
  obtain ⟨o, q, kw, mi, hh, hr0⟩ := hinv
  have hn512 : n ≤ 512 := by omega
  have hA := lk_bestCell hh hr0 
  have hkw := hr0.1.1
  have hW84 := hr0.1.2.2.2.1
  have h83 := hh.2.2.2.2.1
  refine lv_aload_n hx hb dL_law_639 rfl (lv_at hl 2 rfl) ?_
  refine q_callS (va_runV (As := []) (rest := []) ⟨hx, hb, hml, hown, hts⟩ (mX1_bestCell l D cI cS ad hI R F ) (cwV 0 hts gL_law_X1_bestCell rfl rfl rfl (by decide +kernel) ⟨Nat.le_of_ble_eq_true rfl, Nat.le_of_ble_eq_true rfl⟩) (PW_preV (i := 0) (by decide) CC_0 rfl rfl hK hP) rfl rfl hl.1 rfl (lv_room (Nat.le_of_ble_eq_true rfl)) dL_law_640 ⟨Nat.le_of_ble_eq_true rfl, Nat.le_of_ble_eq_true rfl⟩) ?_
  obtain ⟨e84, e83, hv, hi⟩ := hA
  dsimp only at e84 e83 hv hi
  have hW : R 84 1 = nI kw := by rw [e84]; exact hW84
  have hq83 : F 83 0 = nI q := by rw [e83]; exact h83
  refine lv_aload_n hx hb dL_law_643 rfl (lv_at hl 3 rfl) ?_
  refine q_callS (va_runV (As := []) (rest := [.int _]) ⟨hx, hb, hml, hown, hts⟩ (mX2_bestCell l D cI cS ad hI R F  kw hkw hW) (cwV 0 hts gL_law_X2_bestCell rfl rfl rfl (by decide +kernel) ⟨Nat.le_of_ble_eq_true rfl, Nat.le_of_ble_eq_true rfl⟩) (PW_preV (i := 83) (by decide) CC_83 rfl rfl hK hP) rfl rfl hl.1 rfl (lv_room (Nat.le_of_ble_eq_true rfl)) dL_law_644 ⟨Nat.le_of_ble_eq_true rfl, Nat.le_of_ble_eq_true rfl⟩) ?_
  exact lv_icmp_eq (tgt := 685) hx hb dL_law_647 (by decide) (fun _ => hend _ _ H locs (INV_mono (by omega) hi) hP hS) (fun c9 => absurd hv c9)
set_option maxHeartbeats 4000000 in
set_option maxRecDepth 100000 in
theorem law_until {p : Program} {l : Launch} {e : Env} {s : State} {m : MethodId} {below : List Frame} {meth : Method} {c : Code} {b L : Nat} {xs : Nat → Int32} {D : va_G} {cI cS : ClassId} {ad : Nat → Nat} {n : Nat} {R F : Nat → Nat → Int32} {H : Heap} {locs : List Loc} {ls : Array Slot} (hL : L ≤ 2048) (C0 : lw_At p s m meth c b L xs) (hI : Inj ad) (hAA : ∀ q : Nat, AA ad q → s.heap.size ≤ q) (hK : KK D cI cS s) (hn : 4 * n + 4 ≤ L) (hinv : INV n R F) (hP : WP D cI cS ad R F H) (hS : va_S (fun q : Nat => s.heap.size ≤ q) s.heap H locs) (hl : lv_has ls 4 [(3, .int (nI (4 * n))), (0, .ref b), (1, .ref (ad 0)), (2, .ref (ad 83))])
    (hend : ∀ (R F : Nat → Nat → Int32) (H : Heap) (locs : List Loc), INV (n + 1) R F → WP D cI cS ad R F H → va_S (fun q : Nat => s.heap.size ≤ q) s.heap H locs → W p l e room_1 s m #[Value.ref b] below meth c H locs 87 2223 (lw_Z below #[Value.ref b] s) (F0 m 685 ls [])) : W p l e room_1 s m #[Value.ref b] below meth c H locs 87 2223 (lw_Z below #[Value.ref b] s) (F0 m 652 ls []) := by
  obtain ⟨hx, hb, hr, hml, hown, htt, hX, hbl, hlocks, hgv⟩ := C0
  have hts : ∀ w ∈ wsL_law, w.before #[Value.ref b] s = true := fun w h => htt w (wsL_law_in w h)
  have hown : s.vm.findClass RL = some m.cls := hown
  have hbA : ¬ (fun q : Nat => s.heap.size ≤ q) b := Nat.not_le.mpr hbl
  obtain ⟨o, q, kw, mi, hh, hr0⟩ := hinv
  have hn512 : n ≤ 512 := by omega
  have hA := lk_until hn512 hh hr0 (xs (4 * n + 1)) (xs (4 * n + 2))
  have hkw := hr0.1.1
  have hW84 := hr0.1.2.2.2.1
  have h83 := hh.2.2.2.2.1
  refine lv_aload_n hx hb dL_law_652 rfl (lv_at hl 2 rfl) ?_
  refine lv_aload_n hx hb dL_law_653 rfl (lv_at hl 1 rfl) ?_
  refine lv_iload_n hx hb dL_law_654 rfl (lv_at hl 0 rfl) ?_
  refine lv_iconst (v := 1) hx hb dL_law_655 (by decide) ?_
  refine lv_iadd hx hb dL_law_656 ?_
  refine q_sldN hx hb hX hbl hbA hS (4 * n + 1) dL_law_657 (nI_add (4 * n) 1) (by omega) (by omega) ?_
  refine lv_aload_n hx hb dL_law_658 rfl (lv_at hl 1 rfl) ?_
  refine lv_iload_n hx hb dL_law_659 rfl (lv_at hl 0 rfl) ?_
  refine lv_iconst (v := 2) hx hb dL_law_660 (by decide) ?_
  refine lv_iadd hx hb dL_law_661 ?_
  refine q_sldN hx hb hX hbl hbA hS (4 * n + 2) dL_law_662 (nI_add (4 * n) 2) (by omega) (by omega) ?_
  refine q_callS (va_runV (As := [.int (xs (4 * n + 1)), .int (xs (4 * n + 2))]) (rest := []) ⟨hx, hb, hml, hown, hts⟩ (mX1_until l D cI cS ad hI R F (xs (4 * n + 1)) (xs (4 * n + 2))) (cwV 2 hts gL_law_X1_until rfl rfl rfl (by decide +kernel) ⟨Nat.le_of_ble_eq_true rfl, Nat.le_of_ble_eq_true rfl⟩) (PW_preV (i := 0) (by decide) CC_0 rfl rfl hK hP) rfl rfl hl.1 rfl (lv_room (Nat.le_of_ble_eq_true rfl)) dL_law_663 ⟨Nat.le_of_ble_eq_true rfl, Nat.le_of_ble_eq_true rfl⟩) ?_
  obtain ⟨e84, e83, hv, hi⟩ := hA
  dsimp only at e84 e83 hv hi
  have hW : R 84 1 = nI kw := by rw [e84]; exact hW84
  have hq83 : F 83 0 = nI q := by rw [e83]; exact h83
  refine lv_aload_n hx hb dL_law_666 rfl (lv_at hl 3 rfl) ?_
  refine lv_aload_n hx hb dL_law_667 rfl (lv_at hl 1 rfl) ?_
  refine lv_iload_n hx hb dL_law_668 rfl (lv_at hl 0 rfl) ?_
  refine lv_iconst (v := 1) hx hb dL_law_669 (by decide) ?_
  refine lv_iadd hx hb dL_law_670 ?_
  refine q_sldN hx hb hX hbl hbA hS (4 * n + 1) dL_law_671 (nI_add (4 * n) 1) (by omega) (by omega) ?_
  refine lv_aload_n hx hb dL_law_672 rfl (lv_at hl 1 rfl) ?_
  refine lv_iload_n hx hb dL_law_673 rfl (lv_at hl 0 rfl) ?_
  refine lv_iconst (v := 2) hx hb dL_law_674 (by decide) ?_
  refine lv_iadd hx hb dL_law_675 ?_
  refine q_sldN hx hb hX hbl hbA hS (4 * n + 2) dL_law_676 (nI_add (4 * n) 2) (by omega) (by omega) ?_
  refine q_callS (va_runV (As := [.int (xs (4 * n + 1)), .int (xs (4 * n + 2))]) (rest := [.int _]) ⟨hx, hb, hml, hown, hts⟩ (mX2_until l D cI cS ad hI R F (xs (4 * n + 1)) (xs (4 * n + 2)) kw hkw hW (op_until hr0 hn512 _ _).2) (cwV 2 hts gL_law_X2_until rfl rfl rfl (by decide +kernel) ⟨Nat.le_of_ble_eq_true rfl, Nat.le_of_ble_eq_true rfl⟩) (PW_preV (i := 83) (by decide) CC_83 rfl rfl hK hP) rfl rfl hl.1 rfl (lv_room (Nat.le_of_ble_eq_true rfl)) dL_law_677 ⟨Nat.le_of_ble_eq_true rfl, Nat.le_of_ble_eq_true rfl⟩) ?_
  exact lv_icmp_eq (tgt := 685) hx hb dL_law_680 (by decide) (fun _ => hend _ _ H locs (INV_mono (by omega) hi) hP hS) (fun c9 => absurd hv c9)
