/-! THE LAW'S LOOPS and its end -/
theorem cnt_no {R F : Nat → Nat → Int32} {p : Int32} (h : p = 12 ∨ p = -1) : xX1_count R F p = (-100001, R) := by
  unfold xX1_count
  rcases h with rfl | rfl
  · rw [if_neg (by decide), if_neg (by decide), if_neg (by decide), if_neg (by decide), if_neg (by decide), if_neg (by decide), if_neg (by decide), if_neg (by decide), if_neg (by decide), if_neg (by decide), if_neg (by decide), if_neg (by decide)]
  · rw [if_neg (by decide), if_neg (by decide), if_neg (by decide), if_neg (by decide), if_neg (by decide), if_neg (by decide), if_neg (by decide), if_neg (by decide), if_neg (by decide), if_neg (by decide), if_neg (by decide), if_neg (by decide)]
theorem cell_no1 {R F : Nat → Nat → Int32} : xX1_cell R F 24 0 = (-100001, R) := by
  unfold xX1_cell
  rw [if_pos (by decide)]
theorem cell_no2 {R F : Nat → Nat → Int32} : xX1_cell R F 0 8 = (-100001, R) := by
  unfold xX1_cell
  rw [if_neg (show ¬ xX1_isCell 0 = 0 by decide), if_neg (by decide), if_neg (by decide), if_neg (by decide), if_neg (by decide), if_neg (by decide), if_neg (by decide), if_neg (by decide), if_neg (by decide)]
set_option maxHeartbeats 4000000 in
set_option maxRecDepth 100000 in
theorem law_end {p : Program} {l : Launch} {e : Env} {s : State} {m : MethodId} {below : List Frame} {meth : Method} {c : Code} {b L : Nat} {xs : Nat → Int32} {D : va_G} {cI cS : ClassId} {ad : Nat → Nat} {R F : Nat → Nat → Int32} {H : Heap} {locs : List Loc} {ls : Array Slot} (hL : L ≤ 260) (C0 : lw_At p s m meth c b L xs) (hI : Inj ad) (hAA : ∀ q : Nat, AA ad q → s.heap.size ≤ q) (hK : KK D cI cS s) (hinv : INV R F) (hP : WP D cI cS ad R F H) (hS : va_S (fun q : Nat => s.heap.size ≤ q) s.heap H locs) (hl : lv_has ls 12 [(9, .int 1), (8, .ref (ad 89)), (7, .ref (ad 88)), (6, .ref (ad 87)), (5, .ref (ad 86)), (4, .ref (ad 85)), (3, .ref (ad 84)), (2, .ref (ad 83)), (1, .ref (ad 0)), (0, .ref b)]) : W p l e room_1 s m #[Value.ref b] below meth c H locs 90 1300 (lw_Z below #[Value.ref b] s) (F0 m 238 ls []) := by
  obtain ⟨hx, hb, hr, hml, hown, htt, hX, hbl, hlocks, hgv⟩ := id C0
  have hts : ∀ w ∈ wsL_law, w.before #[Value.ref b] s = true := fun w h => htt w (wsL_law_in w h)
  have hown : s.vm.findClass RL = some m.cls := hown
  have hbA : ¬ (fun q : Nat => s.heap.size ≤ q) b := Nat.not_le.mpr hbl
  have lk := hts (.constant RL 32 (-100001)) (by decide +kernel)
  refine lv_iload hx hb dL_law_238 (lv_at hl 0 rfl) ?_
  refine lv_if_eq (tgt := 292) hx hb dL_law_240 (by decide) (fun c9 => absurd c9 (by decide)) (fun _ => ?_)
  refine lv_aload_n hx hb dL_law_243 rfl (lv_at hl 8 rfl) ?_
  refine lv_bipush (v := 12) hx hb dL_law_244 (by decide) ?_
  refine q_callL (va_runV (As := [.int (12)]) (rest := []) ⟨hx, hb, hml, hown, hts⟩ (mX1_count l D cI cS ad hI R F (12)) (cwV 1 hts gL_law_X1_count rfl rfl rfl (by decide +kernel) ⟨Nat.le_of_ble_eq_true rfl, Nat.le_of_ble_eq_true rfl⟩) (PW_preV (i := 0) (by decide) CC_0 rfl rfl hK hP) rfl rfl hl.1 rfl (lv_room (Nat.le_of_ble_eq_true rfl)) dL_law_246 ⟨Nat.le_of_ble_eq_true rfl, Nat.le_of_ble_eq_true rfl⟩) hS hAA (fun H locs hP hS => ?_)
  rw [cnt_no (Or.inl rfl)] at hP ⊢
  dsimp only at hP ⊢
  refine lv_ldc (v := -100001) hx hb hown lk dL_law_249 ?_
  refine lv_icmp_ne (tgt := 292) hx hb dL_law_251 (by decide) (fun c9 => absurd rfl c9) (fun _ => ?_)
  refine lv_aload_n hx hb dL_law_254 rfl (lv_at hl 8 rfl) ?_
  refine lv_iconst (v := -1) hx hb dL_law_255 (by decide) ?_
  refine q_callL (va_runV (As := [.int (-1)]) (rest := []) ⟨hx, hb, hml, hown, hts⟩ (mX1_count l D cI cS ad hI R F (-1)) (cwV 1 hts gL_law_X1_count rfl rfl rfl (by decide +kernel) ⟨Nat.le_of_ble_eq_true rfl, Nat.le_of_ble_eq_true rfl⟩) (PW_preV (i := 0) (by decide) CC_0 rfl rfl hK hP) rfl rfl hl.1 rfl (lv_room (Nat.le_of_ble_eq_true rfl)) dL_law_256 ⟨Nat.le_of_ble_eq_true rfl, Nat.le_of_ble_eq_true rfl⟩) hS hAA (fun H locs hP hS => ?_)
  rw [cnt_no (Or.inr rfl)] at hP ⊢
  dsimp only at hP ⊢
  refine lv_ldc (v := -100001) hx hb hown lk dL_law_259 ?_
  refine lv_icmp_ne (tgt := 292) hx hb dL_law_261 (by decide) (fun c9 => absurd rfl c9) (fun _ => ?_)
  refine lv_aload_n hx hb dL_law_264 rfl (lv_at hl 8 rfl) ?_
  refine lv_bipush (v := 24) hx hb dL_law_265 (by decide) ?_
  refine lv_iconst (v := 0) hx hb dL_law_267 (by decide) ?_
  refine q_callL (va_runV (As := [.int (24), .int (0)]) (rest := []) ⟨hx, hb, hml, hown, hts⟩ (mX1_cell l D cI cS ad hI R F (24) (0)) (cwV 2 hts gL_law_X1_cell rfl rfl rfl (by decide +kernel) ⟨Nat.le_of_ble_eq_true rfl, Nat.le_of_ble_eq_true rfl⟩) (PW_preV (i := 0) (by decide) CC_0 rfl rfl hK hP) rfl rfl hl.1 rfl (lv_room (Nat.le_of_ble_eq_true rfl)) dL_law_268 ⟨Nat.le_of_ble_eq_true rfl, Nat.le_of_ble_eq_true rfl⟩) hS hAA (fun H locs hP hS => ?_)
  rw [cell_no1] at hP ⊢
  dsimp only at hP ⊢
  refine lv_ldc (v := -100001) hx hb hown lk dL_law_271 ?_
  refine lv_icmp_ne (tgt := 292) hx hb dL_law_273 (by decide) (fun c9 => absurd rfl c9) (fun _ => ?_)
  refine lv_aload_n hx hb dL_law_276 rfl (lv_at hl 8 rfl) ?_
  refine lv_iconst (v := 0) hx hb dL_law_277 (by decide) ?_
  refine lv_bipush (v := 8) hx hb dL_law_278 (by decide) ?_
  refine q_callL (va_runV (As := [.int (0), .int (8)]) (rest := []) ⟨hx, hb, hml, hown, hts⟩ (mX1_cell l D cI cS ad hI R F (0) (8)) (cwV 2 hts gL_law_X1_cell rfl rfl rfl (by decide +kernel) ⟨Nat.le_of_ble_eq_true rfl, Nat.le_of_ble_eq_true rfl⟩) (PW_preV (i := 0) (by decide) CC_0 rfl rfl hK hP) rfl rfl hl.1 rfl (lv_room (Nat.le_of_ble_eq_true rfl)) dL_law_280 ⟨Nat.le_of_ble_eq_true rfl, Nat.le_of_ble_eq_true rfl⟩) hS hAA (fun H locs hP hS => ?_)
  rw [cell_no2] at hP ⊢
  dsimp only at hP ⊢
  refine lv_ldc (v := -100001) hx hb hown lk dL_law_283 ?_
  refine lv_icmp_ne (tgt := 292) hx hb dL_law_285 (by decide) (fun c9 => absurd rfl c9) (fun _ => ?_)
  refine lv_iconst (v := 1) hx hb dL_law_288 (by decide) ?_
  refine lv_goto (tgt := 293) hx hb dL_law_289 (by decide) ?_
  refine va_forget (fun q hq => hS.2.2 q hq) ?_
  refine W.widen (k := 600000) (n := 7302250) (Nat.le_of_ble_eq_true rfl) (Nat.le_of_ble_eq_true rfl) ?_
  exact lw_ret hx hb hr hlocks dL_law_293
set_option maxHeartbeats 4000000 in
set_option maxRecDepth 100000 in
theorem law_l2 {p : Program} {l : Launch} {e : Env} {s : State} {m : MethodId} {below : List Frame} {meth : Method} {c : Code} {b L : Nat} {xs : Nat → Int32} {D : va_G} {cI cS : ClassId} {ad : Nat → Nat} (hL : L ≤ 260) (C0 : lw_At p s m meth c b L xs) (hI : Inj ad) (hAA : ∀ q : Nat, AA ad q → s.heap.size ≤ q) (hK : KK D cI cS s) (T : Nat) (hT : T < 100) :
    ∀ (n k : Nat), k + n = T → ∀ (R F : Nat → Nat → Int32) (H : Heap) (locs : List Loc) (ls : Array Slot), INV R F → WP D cI cS ad R F H → va_S (fun q : Nat => s.heap.size ≤ q) s.heap H locs → lv_has ls 12 [(11, .int (nI k)), (10, .int (nI T)), (9, .int 1), (8, .ref (ad 89)), (7, .ref (ad 88)), (6, .ref (ad 87)), (5, .ref (ad 86)), (4, .ref (ad 85)), (3, .ref (ad 84)), (2, .ref (ad 83)), (1, .ref (ad 0)), (0, .ref b)] → W p l e room_1 s m #[Value.ref b] below meth c H locs 90 1300 (lw_Z below #[Value.ref b] s) (F0 m 159 ls []) := by
  obtain ⟨hx, hb, hr, hml, hown, htt, hX, hbl, hlocks, hgv⟩ := id C0
  have hts : ∀ w ∈ wsL_law, w.before #[Value.ref b] s = true := fun w h => htt w (wsL_law_in w h)
  have hown : s.vm.findClass RL = some m.cls := hown
  have hbA : ¬ (fun q : Nat => s.heap.size ≤ q) b := Nat.not_le.mpr hbl
  intro n
  induction n with
  | zero =>
    intro k hk R F H locs ls hinv hP hS hl
    refine lv_iload hx hb dL_law_159 (lv_at hl 0 rfl) ?_
    refine lv_iload hx hb dL_law_161 (lv_at hl 1 rfl) ?_
    refine lv_icmp_ge (tgt := 238) hx hb dL_law_163 (by decide) (fun _ => ?_) (fun c9 => absurd (nI_le (by omega) (by omega)) c9)
    exact law_end hL C0 hI hAA hK hinv hP hS (lv_sub hl [2, 3, 4, 5, 6, 7, 8, 9, 10, 11] rfl)
  | succ n ih =>
    intro k hk R F H locs ls hinv hP hS hl
    refine lv_iload hx hb dL_law_159 (lv_at hl 0 rfl) ?_
    refine lv_iload hx hb dL_law_161 (lv_at hl 1 rfl) ?_
    refine lv_icmp_ge (tgt := 238) hx hb dL_law_163 (by decide) (fun c9 => absurd c9 (nI_ge (by omega) (by omega))) (fun _ => ?_)
    refine lv_iload hx hb dL_law_166 (lv_at hl 2 rfl) ?_
    refine lv_if_eq (tgt := 238) hx hb dL_law_168 (by decide) (fun c9 => absurd c9 (by decide)) (fun _ => ?_)
    refine lv_aload_n hx hb dL_law_171 rfl (lv_at hl 10 rfl) ?_
    refine lv_aload_n hx hb dL_law_172 rfl (lv_at hl 9 rfl) ?_
    refine lv_aload_n hx hb dL_law_173 rfl (lv_at hl 8 rfl) ?_
    refine lv_aload hx hb dL_law_174 (lv_at hl 7 rfl) ?_
    refine lv_aload hx hb dL_law_176 (lv_at hl 6 rfl) ?_
    refine lv_aload hx hb dL_law_178 (lv_at hl 5 rfl) ?_
    refine lv_aload hx hb dL_law_180 (lv_at hl 4 rfl) ?_
    refine lv_aload hx hb dL_law_182 (lv_at hl 3 rfl) ?_
    refine lv_aload_n hx hb dL_law_184 rfl (lv_at hl 11 rfl) ?_
    refine lv_bipush (v := 9) hx hb dL_law_185 (by decide) ?_
    refine lv_iload hx hb dL_law_187 (lv_at hl 0 rfl) ?_
    refine lv_iadd hx hb dL_law_189 ?_
    refine q_top (y := nI (9 + k)) (nI_add 9 k) ?_
    refine q_callA (va_runS (As := [.ref b, .int (nI (9 + k))]) (rest := [.ref (ad 89), .ref (ad 88), .ref (ad 87), .ref (ad 86), .ref (ad 85), .ref (ad 84), .ref (ad 83), .ref (ad 0)]) ⟨hx, hb, hml, hown, hts⟩ (mL_cell l b L xs (nI (9 + k)) (nI_pos (by omega)) hL) (va_cwS 2 hts gL_law_L_cell rfl rfl rfl (by decide +kernel) ⟨Nat.le_of_ble_eq_true rfl, Nat.le_of_ble_eq_true rfl⟩) (cell_pre hX hbl hbA hS) rfl rfl hl.1 rfl (lv_room (Nat.le_of_ble_eq_true rfl)) dL_law_190 ⟨Nat.le_of_ble_eq_true rfl, Nat.le_of_ble_eq_true rfl⟩) (fun r => ?_)
    refine lv_sipush (v := 7919) hx hb dL_law_193 (by decide) ?_
    refine lv_iload hx hb dL_law_196 (lv_at hl 0 rfl) ?_
    refine lv_imul hx hb dL_law_198 ?_
    refine lv_ixor hx hb dL_law_199 ?_
    refine law_acts hL C0 hI hAA hK dL_law_200 hl.1 _ hinv hP hS (fun R F H locs hinv hP hS => ?_)
    refine lv_if_eq (tgt := 229) hx hb dL_law_203 (by decide) (fun c9 => absurd c9 (by decide)) (fun _ => ?_)
    refine lv_aload_n hx hb dL_law_206 rfl (lv_at hl 10 rfl) ?_
    refine lv_aload_n hx hb dL_law_207 rfl (lv_at hl 9 rfl) ?_
    refine lv_aload_n hx hb dL_law_208 rfl (lv_at hl 8 rfl) ?_
    refine lv_aload hx hb dL_law_209 (lv_at hl 7 rfl) ?_
    refine lv_aload hx hb dL_law_211 (lv_at hl 6 rfl) ?_
    refine lv_aload hx hb dL_law_213 (lv_at hl 5 rfl) ?_
    refine lv_aload hx hb dL_law_215 (lv_at hl 4 rfl) ?_
    refine lv_aload hx hb dL_law_217 (lv_at hl 3 rfl) ?_
    refine law_isSo hL C0 hI hAA hK dL_law_219 hl.1 hinv hP hS (fun R F H locs hinv hP hS => ?_)
    refine lv_if_eq (tgt := 229) hx hb dL_law_222 (by decide) (fun c9 => absurd c9 (by decide)) (fun _ => ?_)
    refine lv_iconst (v := 1) hx hb dL_law_225 (by decide) ?_
    refine lv_goto (tgt := 230) hx hb dL_law_226 (by decide) ?_
    refine lv_istore (lv' := [(9, .int 1), (11, .int (nI k)), (10, .int (nI T)), (8, .ref (ad 89)), (7, .ref (ad 88)), (6, .ref (ad 87)), (5, .ref (ad 86)), (4, .ref (ad 85)), (3, .ref (ad 84)), (2, .ref (ad 83)), (1, .ref (ad 0)), (0, .ref b)]) hx hb dL_law_230 hl (by decide) rfl (fun ls hl => ?_)
    refine lv_iinc (v := nI (k + 1)) (lv' := [(11, .int (nI (k + 1))), (9, .int 1), (10, .int (nI T)), (8, .ref (ad 89)), (7, .ref (ad 88)), (6, .ref (ad 87)), (5, .ref (ad 86)), (4, .ref (ad 85)), (3, .ref (ad 84)), (2, .ref (ad 83)), (1, .ref (ad 0)), (0, .ref b)]) hx hb dL_law_232 hl (k := 1) rfl (nI_1 k) (by decide) rfl (fun ls hl => ?_)
    refine lv_goto (tgt := 159) hx hb dL_law_235 (by decide) ?_
    exact ih (k + 1) (by omega) R F H locs ls hinv hP hS (lv_sub hl [0, 2, 1, 3, 4, 5, 6, 7, 8, 9, 10, 11] rfl)
set_option maxHeartbeats 4000000 in
set_option maxRecDepth 100000 in
theorem law_mid {p : Program} {l : Launch} {e : Env} {s : State} {m : MethodId} {below : List Frame} {meth : Method} {c : Code} {b L : Nat} {xs : Nat → Int32} {D : va_G} {cI cS : ClassId} {ad : Nat → Nat} (hL : L ≤ 260) (C0 : lw_At p s m meth c b L xs) (hI : Inj ad) (hAA : ∀ q : Nat, AA ad q → s.heap.size ≤ q) (hK : KK D cI cS s) {R F : Nat → Nat → Int32} {H : Heap} {locs : List Loc} {ls : Array Slot} (hinv : INV R F) (hP : WP D cI cS ad R F H) (hS : va_S (fun q : Nat => s.heap.size ≤ q) s.heap H locs) (hl : lv_has ls 12 [(9, .int 1), (8, .ref (ad 89)), (7, .ref (ad 88)), (6, .ref (ad 87)), (5, .ref (ad 86)), (4, .ref (ad 85)), (3, .ref (ad 84)), (2, .ref (ad 83)), (1, .ref (ad 0)), (0, .ref b)]) : W p l e room_1 s m #[Value.ref b] below meth c H locs 90 1300 (lw_Z below #[Value.ref b] s) (F0 m 141 ls []) := by
  obtain ⟨hx, hb, hr, hml, hown, htt, hX, hbl, hlocks, hgv⟩ := id C0
  have hts : ∀ w ∈ wsL_law, w.before #[Value.ref b] s = true := fun w h => htt w (wsL_law_in w h)
  have hown : s.vm.findClass RL = some m.cls := hown
  have hbA : ¬ (fun q : Nat => s.heap.size ≤ q) b := Nat.not_le.mpr hbl
  refine lv_bipush (v := 8) hx hb dL_law_141 (by decide) ?_
  refine lv_aload_n hx hb dL_law_143 rfl (lv_at hl 9 rfl) ?_
  refine lv_iconst (v := 0) hx hb dL_law_144 (by decide) ?_
  refine q_callA (va_runS (As := [.ref b, .int 0]) (rest := [.int 8]) ⟨hx, hb, hml, hown, hts⟩ (mL_cell l b L xs (0) (by decide) hL) (va_cwS 2 hts gL_law_L_cell rfl rfl rfl (by decide +kernel) ⟨Nat.le_of_ble_eq_true rfl, Nat.le_of_ble_eq_true rfl⟩) (cell_pre hX hbl hbA hS) rfl rfl hl.1 rfl (lv_room (Nat.le_of_ble_eq_true rfl)) dL_law_145 ⟨Nat.le_of_ble_eq_true rfl, Nat.le_of_ble_eq_true rfl⟩) (fun r => ?_)
  refine lv_bipush (v := 50) hx hb dL_law_148 (by decide) ?_
  refine q_callS (va_runS (As := [.int r, .int 50]) (rest := [.int 8]) ⟨hx, hb, hml, hown, hts⟩ (mL_low l D cI cS ad hI R F r 50 (by decide)) (va_cwS 2 hts gL_law_L_low rfl rfl rfl (by decide +kernel) ⟨Nat.le_of_ble_eq_true rfl, Nat.le_of_ble_eq_true rfl⟩) (PW_preS hK hP) rfl rfl hl.1 rfl (lv_room (Nat.le_of_ble_eq_true rfl)) dL_law_150 ⟨Nat.le_of_ble_eq_true rfl, Nat.le_of_ble_eq_true rfl⟩) ?_
  obtain ⟨T, hT, eT⟩ := low_nat r (n := 50) (by decide) (by decide)
  refine q_top (y := nI T) eT ?_
  refine lv_iadd hx hb dL_law_153 ?_
  refine q_top (y := nI (8 + T)) (nI_add 8 T) ?_
  refine lv_istore (lv' := [(10, .int (nI (8 + T))), (9, .int 1), (8, .ref (ad 89)), (7, .ref (ad 88)), (6, .ref (ad 87)), (5, .ref (ad 86)), (4, .ref (ad 85)), (3, .ref (ad 84)), (2, .ref (ad 83)), (1, .ref (ad 0)), (0, .ref b)]) hx hb dL_law_154 hl (by decide) rfl (fun ls hl => ?_)
  refine lv_iconst (v := 0) hx hb dL_law_156 (by decide) ?_
  refine lv_istore (lv' := [(11, .int 0), (10, .int (nI (8 + T))), (9, .int 1), (8, .ref (ad 89)), (7, .ref (ad 88)), (6, .ref (ad 87)), (5, .ref (ad 86)), (4, .ref (ad 85)), (3, .ref (ad 84)), (2, .ref (ad 83)), (1, .ref (ad 0)), (0, .ref b)]) hx hb dL_law_157 hl (by decide) rfl (fun ls hl => ?_)
  exact law_l2 hL C0 hI hAA hK (8 + T) (by omega) (8 + T) 0 (by omega) R F H locs ls hinv hP hS hl
set_option maxHeartbeats 4000000 in
set_option maxRecDepth 100000 in
theorem law_l1 {p : Program} {l : Launch} {e : Env} {s : State} {m : MethodId} {below : List Frame} {meth : Method} {c : Code} {b L : Nat} {xs : Nat → Int32} {D : va_G} {cI cS : ClassId} {ad : Nat → Nat} (hL : L ≤ 260) (C0 : lw_At p s m meth c b L xs) (hI : Inj ad) (hAA : ∀ q : Nat, AA ad q → s.heap.size ≤ q) (hK : KK D cI cS s) :
    ∀ (n k : Nat), k + n = 8 → ∀ (R F : Nat → Nat → Int32) (H : Heap) (locs : List Loc) (ls : Array Slot), INV R F → WP D cI cS ad R F H → va_S (fun q : Nat => s.heap.size ≤ q) s.heap H locs → lv_has ls 12 [(10, .int (nI k)), (9, .int 1), (8, .ref (ad 89)), (7, .ref (ad 88)), (6, .ref (ad 87)), (5, .ref (ad 86)), (4, .ref (ad 85)), (3, .ref (ad 84)), (2, .ref (ad 83)), (1, .ref (ad 0)), (0, .ref b)] → W p l e room_1 s m #[Value.ref b] below meth c H locs 90 1300 (lw_Z below #[Value.ref b] s) (F0 m 74 ls []) := by
  obtain ⟨hx, hb, hr, hml, hown, htt, hX, hbl, hlocks, hgv⟩ := id C0
  have hts : ∀ w ∈ wsL_law, w.before #[Value.ref b] s = true := fun w h => htt w (wsL_law_in w h)
  have hown : s.vm.findClass RL = some m.cls := hown
  have hbA : ¬ (fun q : Nat => s.heap.size ≤ q) b := Nat.not_le.mpr hbl
  have lk := hts (.constant RL 8 (2147483647)) (by decide +kernel)
  intro n
  induction n with
  | zero =>
    intro k hk R F H locs ls hinv hP hS hl
    refine lv_iload hx hb dL_law_74 (lv_at hl 0 rfl) ?_
    refine lv_bipush (v := 8) hx hb dL_law_76 (by decide) ?_
    refine lv_icmp_ge (tgt := 141) hx hb dL_law_78 (by decide) (fun _ => ?_) (fun c9 => absurd (nI_le (a := 8) (b := k) (by omega) (by omega)) c9)
    exact law_mid hL C0 hI hAA hK hinv hP hS (lv_sub hl [1, 2, 3, 4, 5, 6, 7, 8, 9, 10] rfl)
  | succ n ih =>
    intro k hk R F H locs ls hinv hP hS hl
    refine lv_iload hx hb dL_law_74 (lv_at hl 0 rfl) ?_
    refine lv_bipush (v := 8) hx hb dL_law_76 (by decide) ?_
    refine lv_icmp_ge (tgt := 141) hx hb dL_law_78 (by decide) (fun c9 => absurd c9 (nI_ge (a := k) (b := 8) (by omega) (by omega))) (fun _ => ?_)
    refine lv_iload hx hb dL_law_81 (lv_at hl 1 rfl) ?_
    refine lv_if_eq (tgt := 141) hx hb dL_law_83 (by decide) (fun c9 => absurd c9 (by decide)) (fun _ => ?_)
    refine lv_aload_n hx hb dL_law_86 rfl (lv_at hl 9 rfl) ?_
    refine lv_aload_n hx hb dL_law_87 rfl (lv_at hl 8 rfl) ?_
    refine lv_aload_n hx hb dL_law_88 rfl (lv_at hl 7 rfl) ?_
    refine lv_aload hx hb dL_law_89 (lv_at hl 6 rfl) ?_
    refine lv_aload hx hb dL_law_91 (lv_at hl 5 rfl) ?_
    refine lv_aload hx hb dL_law_93 (lv_at hl 4 rfl) ?_
    refine lv_aload hx hb dL_law_95 (lv_at hl 3 rfl) ?_
    refine lv_aload hx hb dL_law_97 (lv_at hl 2 rfl) ?_
    refine lv_aload_n hx hb dL_law_99 rfl (lv_at hl 10 rfl) ?_
    refine lv_iconst (v := 1) hx hb dL_law_100 (by decide) ?_
    refine lv_iload hx hb dL_law_101 (lv_at hl 0 rfl) ?_
    refine lv_iadd hx hb dL_law_103 ?_
    refine q_top (y := nI (1 + k)) (nI_add 1 k) ?_
    refine q_callA (va_runS (As := [.ref b, .int (nI (1 + k))]) (rest := [.ref (ad 89), .ref (ad 88), .ref (ad 87), .ref (ad 86), .ref (ad 85), .ref (ad 84), .ref (ad 83), .ref (ad 0)]) ⟨hx, hb, hml, hown, hts⟩ (mL_cell l b L xs (nI (1 + k)) (nI_pos (by omega)) hL) (va_cwS 2 hts gL_law_L_cell rfl rfl rfl (by decide +kernel) ⟨Nat.le_of_ble_eq_true rfl, Nat.le_of_ble_eq_true rfl⟩) (cell_pre hX hbl hbA hS) rfl rfl hl.1 rfl (lv_room (Nat.le_of_ble_eq_true rfl)) dL_law_104 ⟨Nat.le_of_ble_eq_true rfl, Nat.le_of_ble_eq_true rfl⟩) (fun r => ?_)
    refine lv_ldc (v := 2147483647) hx hb hown lk dL_law_107 ?_
    refine lv_iand hx hb dL_law_109 ?_
    refine lv_sipush (v := 832) hx hb dL_law_110 (by decide) ?_
    refine lv_idiv hx hb dL_law_113 (by decide) ?_
    refine lv_sipush (v := 832) hx hb dL_law_114 (by decide) ?_
    refine lv_imul hx hb dL_law_117 ?_
    refine lv_iload hx hb dL_law_118 (lv_at hl 0 rfl) ?_
    refine lv_iconst (v := 2) hx hb dL_law_120 (by decide) ?_
    have hgo : ∀ w : Int32, W p l e room_1 s m #[Value.ref b] below meth c H locs 90 1300 (lw_Z below #[Value.ref b] s) (F0 m 130 ls (.int w :: [.ref (ad 89), .ref (ad 88), .ref (ad 87), .ref (ad 86), .ref (ad 85), .ref (ad 84), .ref (ad 83), .ref (ad 0)])) := fun w => by
      refine law_acts hL C0 hI hAA hK dL_law_130 hl.1 _ hinv hP hS (fun R F H locs hinv hP hS => ?_)
      refine lv_istore (lv' := [(9, .int 1), (10, .int (nI k)), (8, .ref (ad 89)), (7, .ref (ad 88)), (6, .ref (ad 87)), (5, .ref (ad 86)), (4, .ref (ad 85)), (3, .ref (ad 84)), (2, .ref (ad 83)), (1, .ref (ad 0)), (0, .ref b)]) hx hb dL_law_133 hl (by decide) rfl (fun ls hl => ?_)
      refine lv_iinc (v := nI (k + 1)) (lv' := [(10, .int (nI (k + 1))), (9, .int 1), (8, .ref (ad 89)), (7, .ref (ad 88)), (6, .ref (ad 87)), (5, .ref (ad 86)), (4, .ref (ad 85)), (3, .ref (ad 84)), (2, .ref (ad 83)), (1, .ref (ad 0)), (0, .ref b)]) hx hb dL_law_135 hl (k := 1) rfl (nI_1 k) (by decide) rfl (fun ls hl => ?_)
      refine lv_goto (tgt := 74) hx hb dL_law_138 (by decide) ?_
      exact ih (k + 1) (by omega) R F H locs ls hinv hP hS hl
    refine lv_icmp_ge (tgt := 128) hx hb dL_law_121 (by decide) (fun _ => ?_) (fun _ => ?_)
    · refine lv_iconst (v := 2) hx hb dL_law_128 (by decide) ?_
      refine lv_iadd hx hb dL_law_129 ?_
      exact hgo _
    · refine lv_iconst (v := 0) hx hb dL_law_124 (by decide) ?_
      refine lv_goto (tgt := 129) hx hb dL_law_125 (by decide) ?_
      refine lv_iadd hx hb dL_law_129 ?_
      exact hgo _
