/-! THE LAW'S LOOP: with n calls done -/
set_option maxHeartbeats 4000000 in
set_option maxRecDepth 100000 in
theorem law_loop {p : Program} {l : Launch} {e : Env} {s : State} {m : MethodId} {below : List Frame} {meth : Method} {c : Code} {b L : Nat} {xs : Nat → Int32} {D : va_G} {cI cS : ClassId} {ad : Nat → Nat} (hL : L ≤ 2048) (C0 : lw_At p s m meth c b L xs) (hI : Inj ad) (hAA : ∀ q : Nat, AA ad q → s.heap.size ≤ q) (hK : KK D cI cS s) :
    ∀ (k n : Nat), 4 * n ≤ L → L < 4 * (n + k) → ∀ (R F : Nat → Nat → Int32) (H : Heap) (locs : List Loc) (ls : Array Slot), INV n R F → WP D cI cS ad R F H → va_S (fun q : Nat => s.heap.size ≤ q) s.heap H locs → lv_has ls 4 [(3, .int (nI (4 * n))), (0, .ref b), (1, .ref (ad 0)), (2, .ref (ad 83))] → W p l e room_1 s m #[Value.ref b] below meth c H locs 87 2223 (lw_Z below #[Value.ref b] s) (F0 m 18 ls []) := by
  have C1 := C0
  obtain ⟨hx, hb, hr, hml, hown, htt, hX, hbl, hlocks, hgv⟩ := C1
  have hbA : ¬ (fun q : Nat => s.heap.size ≤ q) b := Nat.not_le.mpr hbl
  intro k
  induction k with
  | zero => intro n h1 h2; exact absurd h2 (by omega)
  | succ k ih =>
    intro n h1 h2 R F H locs ls hinv hP hS hl
    refine lv_iload_n hx hb dL_law_18 rfl (lv_at hl 0 rfl) ?_
    refine lv_aload_n hx hb dL_law_19 rfl (lv_at hl 1 rfl) ?_
    refine va_slen hx hb hX hbl hbA hS dL_law_20 ?_
    refine lv_iconst (v := 4) hx hb dL_law_21 (by decide) ?_
    refine lv_isub hx hb dL_law_22 ?_
    have eL : (Int32.ofNat L - 4).toInt = (L : Int) - 4 := by
      show (nI L - 4).toInt = _
      have i4 : (4 : Int32).toInt = 4 := rfl
      rw [ti_sub (by rw [nI_toInt (by omega), i4]; omega) (by rw [nI_toInt (by omega), i4]; omega), nI_toInt (by omega), i4]
    refine lv_icmp_gt (tgt := 691) hx hb dL_law_23 (by decide) (fun c1 => ?_) (fun c1 => ?_)
    · refine lv_iconst (v := 1) hx hb dL_law_691 (by decide) ?_
      refine va_forget (fun q hq => hS.2.2 q hq) ?_
      refine W.widen (k := 600000) (n := 7302250) (Nat.le_of_ble_eq_true rfl) (Nat.le_of_ble_eq_true rfl) ?_
      exact lw_ret hx hb hr hlocks dL_law_692
    · have hn4 : 4 * n + 4 ≤ L := by
        have := i_nlt c1
        rw [eL, nI_toInt (by omega)] at this
        omega
      have hend : ∀ (R F : Nat → Nat → Int32) (H : Heap) (locs : List Loc), INV (n + 1) R F → WP D cI cS ad R F H → va_S (fun q : Nat => s.heap.size ≤ q) s.heap H locs → W p l e room_1 s m #[Value.ref b] below meth c H locs 87 2223 (lw_Z below #[Value.ref b] s) (F0 m 685 ls []) := by
        intro R F H locs hinv hP hS
        refine lv_iinc (v := nI (4 * (n + 1))) (lv' := [(3, .int (nI (4 * (n + 1)))), (0, .ref b), (1, .ref (ad 0)), (2, .ref (ad 83))]) hx hb dL_law_685 hl (k := 0) rfl (nI_add (4 * n) 4) (by decide) rfl (fun ls hl => ?_)
        refine lv_goto (tgt := 18) hx hb dL_law_688 (by decide) ?_
        exact ih (n + 1) (by omega) (by omega) R F H locs ls hinv hP hS hl
      refine lv_aload_n hx hb dL_law_26 rfl (lv_at hl 1 rfl) ?_
      refine lv_iload_n hx hb dL_law_27 rfl (lv_at hl 0 rfl) ?_
      refine q_sldN hx hb hX hbl hbA hS (4 * n) dL_law_28 rfl (by omega) (by omega) ?_
      refine lv_bipush (v := 31) hx hb dL_law_29 (by decide) ?_
      refine lv_iand hx hb dL_law_31 ?_
      generalize xs (4 * n) &&& 31 = x
      by_cases hout : x.toInt < 0 ∨ 20 < x.toInt
      · refine lv_tableOut (tgt := 685) hx hb dL_law_32 hout (by decide) ?_
        exact hend R F H locs (INV_mono (by omega) hinv) hP hS
      · obtain ⟨j, hj, ej⟩ : ∃ j : Nat, j ≤ 20 ∧ x.toInt = (j : Int) := ⟨x.toInt.toNat, by omega, by omega⟩
        rcases (by omega : j = 0 ∨ j = 1 ∨ j = 2 ∨ j = 3 ∨ j = 4 ∨ j = 5 ∨ j = 6 ∨ j = 7 ∨ j = 8 ∨ j = 9 ∨ j = 10 ∨ j = 11 ∨ j = 12 ∨ j = 13 ∨ j = 14 ∨ j = 15 ∨ j = 16 ∨ j = 17 ∨ j = 18 ∨ j = 19 ∨ j = 20) with rfl | rfl | rfl | rfl | rfl | rfl | rfl | rfl | rfl | rfl | rfl | rfl | rfl | rfl | rfl | rfl | rfl | rfl | rfl | rfl | rfl
        · refine lv_tableIn (x := x) (off := 100) (tgt := 132) hx hb dL_law_32 (by rw [ej]; decide) (by rw [ej]; decide) (by rw [ej]; rfl) (by decide) ?_
          exact law_setDrift hL C0 hI hAA hK hn4 hinv hP hS hl hend
        · refine lv_tableIn (x := x) (off := 133) (tgt := 165) hx hb dL_law_32 (by rw [ej]; decide) (by rw [ej]; decide) (by rw [ej]; rfl) (by decide) ?_
          exact law_pass hL C0 hI hAA hK hn4 hinv hP hS hl hend
        · refine lv_tableIn (x := x) (off := 156) (tgt := 188) hx hb dL_law_32 (by rw [ej]; decide) (by rw [ej]; decide) (by rw [ej]; rfl) (by decide) ?_
          exact law_tare hL C0 hI hAA hK hn4 hinv hP hS hl hend
        · refine lv_tableIn (x := x) (off := 179) (tgt := 211) hx hb dL_law_32 (by rw [ej]; decide) (by rw [ej]; decide) (by rw [ej]; rfl) (by decide) ?_
          exact law_board hL C0 hI hAA hK hn4 hinv hP hS hl hend
        · refine lv_tableIn (x := x) (off := 222) (tgt := 254) hx hb dL_law_32 (by rw [ej]; decide) (by rw [ej]; decide) (by rw [ej]; rfl) (by decide) ?_
          exact law_walk hL C0 hI hAA hK hn4 hinv hP hS hl hend
        · refine lv_tableIn (x := x) (off := 255) (tgt := 287) hx hb dL_law_32 (by rw [ej]; decide) (by rw [ej]; decide) (by rw [ej]; rfl) (by decide) ?_
          exact law_swap hL C0 hI hAA hK hn4 hinv hP hS hl hend
        · refine lv_tableIn (x := x) (off := 288) (tgt := 320) hx hb dL_law_32 (by rw [ej]; decide) (by rw [ej]; decide) (by rw [ej]; rfl) (by decide) ?_
          exact law_leave hL C0 hI hAA hK hn4 hinv hP hS hl hend
        · refine lv_tableIn (x := x) (off := 311) (tgt := 343) hx hb dL_law_32 (by rw [ej]; decide) (by rw [ej]; decide) (by rw [ej]; rfl) (by decide) ?_
          exact law_setPrice hL C0 hI hAA hK hn4 hinv hP hS hl hend
        · refine lv_tableIn (x := x) (off := 334) (tgt := 366) hx hb dL_law_32 (by rw [ej]; decide) (by rw [ej]; decide) (by rw [ej]; rfl) (by decide) ?_
          exact law_accuse hL C0 hI hAA hK hn4 hinv hP hS hl hend
        · refine lv_tableIn (x := x) (off := 367) (tgt := 399) hx hb dL_law_32 (by rw [ej]; decide) (by rw [ej]; decide) (by rw [ej]; rfl) (by decide) ?_
          exact law_bill hL C0 hI hAA hK hn4 hinv hP hS hl hend
        · refine lv_tableIn (x := x) (off := 390) (tgt := 422) hx hb dL_law_32 (by rw [ej]; decide) (by rw [ej]; decide) (by rw [ej]; rfl) (by decide) ?_
          exact law_complain hL C0 hI hAA hK hn4 hinv hP hS hl hend
        · refine lv_tableIn (x := x) (off := 413) (tgt := 445) hx hb dL_law_32 (by rw [ej]; decide) (by rw [ej]; decide) (by rw [ej]; rfl) (by decide) ?_
          exact law_undo hL C0 hI hAA hK hn4 hinv hP hS hl hend
        · refine lv_tableIn (x := x) (off := 426) (tgt := 458) hx hb dL_law_32 (by rw [ej]; decide) (by rw [ej]; decide) (by rw [ej]; rfl) (by decide) ?_
          exact law_count hL C0 hI hAA hK hn4 hinv hP hS hl hend
        · refine lv_tableIn (x := x) (off := 449) (tgt := 481) hx hb dL_law_32 (by rw [ej]; decide) (by rw [ej]; decide) (by rw [ej]; rfl) (by decide) ?_
          exact law_cell hL C0 hI hAA hK hn4 hinv hP hS hl hend
        · refine lv_tableIn (x := x) (off := 482) (tgt := 514) hx hb dL_law_32 (by rw [ej]; decide) (by rw [ej]; decide) (by rw [ej]; rfl) (by decide) ?_
          exact law_walker hL C0 hI hAA hK hn4 hinv hP hS hl hend
        · refine lv_tableIn (x := x) (off := 515) (tgt := 547) hx hb dL_law_32 (by rw [ej]; decide) (by rw [ej]; decide) (by rw [ej]; rfl) (by decide) ?_
          exact law_estimate hL C0 hI hAA hK hn4 hinv hP hS hl hend
        · refine lv_tableIn (x := x) (off := 538) (tgt := 570) hx hb dL_law_32 (by rw [ej]; decide) (by rw [ej]; decide) (by rw [ej]; rfl) (by decide) ?_
          exact law_certainty hL C0 hI hAA hK hn4 hinv hP hS hl hend
        · refine lv_tableIn (x := x) (off := 561) (tgt := 593) hx hb dL_law_32 (by rw [ej]; decide) (by rw [ej]; decide) (by rw [ej]; rfl) (by decide) ?_
          exact law_guess hL C0 hI hAA hK hn4 hinv hP hS hl hend
        · refine lv_tableIn (x := x) (off := 584) (tgt := 616) hx hb dL_law_32 (by rw [ej]; decide) (by rw [ej]; decide) (by rw [ej]; rfl) (by decide) ?_
          exact law_mend hL C0 hI hAA hK hn4 hinv hP hS hl hend
        · refine lv_tableIn (x := x) (off := 607) (tgt := 639) hx hb dL_law_32 (by rw [ej]; decide) (by rw [ej]; decide) (by rw [ej]; rfl) (by decide) ?_
          exact law_bestCell hL C0 hI hAA hK hn4 hinv hP hS hl hend
        · refine lv_tableIn (x := x) (off := 620) (tgt := 652) hx hb dL_law_32 (by rw [ej]; decide) (by rw [ej]; decide) (by rw [ej]; rfl) (by decide) ?_
          exact law_until hL C0 hI hAA hK hn4 hinv hP hS hl hend
