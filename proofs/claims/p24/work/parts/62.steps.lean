/-! acts and isSo, one step each -/
theorem INV_kp {R F Q : Nat → Nat → Int32} (h : INV R F) (hq : ∀ i, i ≠ 15 → i ≠ 16 → Q i = R i) : INV Q F := by
  obtain ⟨o, q, kw, mi, hh, hr⟩ := h
  exact ⟨o, q, kw, mi, hh, NOW_rows hr (fun j h1 h2 => hq j (by omega) (by omega)) rfl (fun j h1 h2 => hq j (by omega) (by omega))⟩
set_option maxHeartbeats 4000000 in
set_option maxRecDepth 100000 in
theorem law_acts {p : Program} {l : Launch} {e : Env} {s : State} {m : MethodId} {below : List Frame} {meth : Method} {c : Code} {b L : Nat} {xs : Nat → Int32} {D : va_G} {cI cS : ClassId} {ad : Nat → Nat} {R F : Nat → Nat → Int32} {H : Heap} {locs : List Loc} {ls : Array Slot} {pc : Nat} (hL : L ≤ 260) (C0 : lw_At p s m meth c b L xs) (hI : Inj ad) (hAA : ∀ q : Nat, AA ad q → s.heap.size ≤ q) (hK : KK D cI cS s) (hdg : decode code pc = .ok (.invokestatic 112, 3)) (hsz : ls.size = 12) (w : Int32) (hinv : INV R F) (hP : WP D cI cS ad R F H) (hS : va_S (fun q : Nat => s.heap.size ≤ q) s.heap H locs)
    (kk : ∀ (R F : Nat → Nat → Int32) (H : Heap) (locs : List Loc), INV R F → WP D cI cS ad R F H → va_S (fun q : Nat => s.heap.size ≤ q) s.heap H locs → W p l e room_1 s m #[Value.ref b] below meth c H locs 90 1300 (lw_Z below #[Value.ref b] s) (F0 m (pc + 3) ls [.int 1])) : W p l e room_1 s m #[Value.ref b] below meth c H locs 90 1300 (lw_Z below #[Value.ref b] s) (F0 m pc ls (.int w :: [.ref (ad 89), .ref (ad 88), .ref (ad 87), .ref (ad 86), .ref (ad 85), .ref (ad 84), .ref (ad 83), .ref (ad 0)])) := by
  obtain ⟨hx, hb, hr, hml, hown, htt, hX, hbl, hlocks, hgv⟩ := id C0
  have hts : ∀ w ∈ wsL_law, w.before #[Value.ref b] s = true := fun w h => htt w (wsL_law_in w h)
  have hown : s.vm.findClass RL = some m.cls := hown
  have hbA : ¬ (fun q : Nat => s.heap.size ≤ q) b := Nat.not_le.mpr hbl
  obtain ⟨o, q, kw, mi, hh, hr0⟩ := hinv
  obtain ⟨n1, n2, n3, n4, n5, n6, n7⟩ := id hr0.1
  obtain ⟨vn, hvn, evn⟩ := low_nat (w >>> ((5 : Int32) &&& (31 : Int32))) (n := 10000000) (by decide) (by decide)
  obtain ⟨wy, hwy, ewy⟩ := low_nat w (n := 26) (by decide) (by decide)
  have hok := acts_ok (p9 := w) (vn := vn) (wy := wy) hh hr0 hwy
  have z1 : ∀ x : Int32, x = 1 → narrow .boolean (.int x) = .int x := fun x hx => by rw [hx]; rfl
  refine q_callL (va_runS (As := [.ref (ad 0), .ref (ad 83), .ref (ad 84), .ref (ad 85), .ref (ad 86), .ref (ad 87), .ref (ad 88), .ref (ad 89), .int w]) (rest := []) ⟨hx, hb, hml, hown, hts⟩ (mL_acts l D cI cS ad hI R F w vn wy kw o q evn hvn ewy hwy n3 (fun k hk hx => ?_) (fun hkp b => z1 _ (two_ok hh hr0 hkp vn b).1) (fun k hk b => z1 _ (clerk_ok hh hr0 hk b).1) n1 n4 hh.1 hh.2.1 hh.2.2.1 hh.2.2.2) (va_cwS 9 hts gL_law_L_acts rfl rfl rfl (by decide +kernel) ⟨Nat.le_of_ble_eq_true rfl, Nat.le_of_ble_eq_true rfl⟩) (PW_preS hK hP) rfl rfl hsz rfl (lv_room (Nat.le_of_ble_eq_true rfl)) hdg ⟨Nat.le_of_ble_eq_true rfl, Nat.le_of_ble_eq_true rfl⟩) hS hAA (fun H locs hP hS => ?_)
  · obtain ⟨t, ht, -, -, et⟩ := taken_law hr0 hk (fun q => hx ((ab_iff hr0 hk).mpr q))
    rw [et]
    exact vp_in_nI (by omega) (by decide)
  · obtain ⟨h1, h2⟩ := hok
    rw [h1]
    exact kk _ _ H locs h2 hP hS
set_option maxHeartbeats 4000000 in
set_option maxRecDepth 100000 in
theorem law_isSo {p : Program} {l : Launch} {e : Env} {s : State} {m : MethodId} {below : List Frame} {meth : Method} {c : Code} {b L : Nat} {xs : Nat → Int32} {D : va_G} {cI cS : ClassId} {ad : Nat → Nat} {R F : Nat → Nat → Int32} {H : Heap} {locs : List Loc} {ls : Array Slot} {pc : Nat} (hL : L ≤ 260) (C0 : lw_At p s m meth c b L xs) (hI : Inj ad) (hAA : ∀ q : Nat, AA ad q → s.heap.size ≤ q) (hK : KK D cI cS s) (hdg : decode code pc = .ok (.invokestatic 106, 3)) (hsz : ls.size = 12) (hinv : INV R F) (hP : WP D cI cS ad R F H) (hS : va_S (fun q : Nat => s.heap.size ≤ q) s.heap H locs)
    (kk : ∀ (R F : Nat → Nat → Int32) (H : Heap) (locs : List Loc), INV R F → WP D cI cS ad R F H → va_S (fun q : Nat => s.heap.size ≤ q) s.heap H locs → W p l e room_1 s m #[Value.ref b] below meth c H locs 90 1300 (lw_Z below #[Value.ref b] s) (F0 m (pc + 3) ls [.int 1])) : W p l e room_1 s m #[Value.ref b] below meth c H locs 90 1300 (lw_Z below #[Value.ref b] s) (F0 m pc ls [.ref (ad 89), .ref (ad 88), .ref (ad 87), .ref (ad 86), .ref (ad 85), .ref (ad 84), .ref (ad 83), .ref (ad 0)]) := by
  obtain ⟨hx, hb, hr, hml, hown, htt, hX, hbl, hlocks, hgv⟩ := id C0
  have hts : ∀ w ∈ wsL_law, w.before #[Value.ref b] s = true := fun w h => htt w (wsL_law_in w h)
  have hown : s.vm.findClass RL = some m.cls := hown
  have hbA : ¬ (fun q : Nat => s.heap.size ≤ q) b := Nat.not_le.mpr hbl
  obtain ⟨o, q, kw, mi, hh, hr0⟩ := id hinv
  refine q_callE (va_runS (As := [.ref (ad 0), .ref (ad 83), .ref (ad 84), .ref (ad 85), .ref (ad 86), .ref (ad 87), .ref (ad 88), .ref (ad 89)]) (rest := []) ⟨hx, hb, hml, hown, hts⟩ (mL_isSo l D cI cS ad hI R F kw mi hr0) (va_cwS 8 hts gL_law_L_isSo rfl rfl rfl (by decide +kernel) ⟨Nat.le_of_ble_eq_true rfl, Nat.le_of_ble_eq_true rfl⟩) (PW_preS hK hP) rfl rfl hsz rfl (lv_room (Nat.le_of_ble_eq_true rfl)) hdg ⟨Nat.le_of_ble_eq_true rfl, Nat.le_of_ble_eq_true rfl⟩) hS hAA (fun Q' H locs hq hP hS => ?_)
  exact kk _ _ H locs (INV_kp hinv hq) hP hS
