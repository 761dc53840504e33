/-! ROWS over the world of 02 -/
section
variable {p : Program} {l : Launch} {e : Env} {rm : Room} {s : State} {m : MethodId} {args : Array Value} {below : List Frame} {meth : Method} {c : Code} {H H0 : Heap} {locs : List Loc} {cells slots : Nat} {Q : State → Prop} {cc : ByteArray} {pc : Nat} {ls : Array Slot} {rest st0 : List Value} {D : va_G} {cI cS : ClassId} {ad : Nat → Nat} {R F : Nat → Nat → Int32} {own : String} {index : Nat} {Ts : List Cond}
theorem q_ild (hx : p.tables.exec = Jvm.exec) (hb : c.code = cc) (hK : KK D cI cS s) (hP : WP D cI cS ad R F H) (i n : Nat) (ha : Ar i n) {x : Int32} (hdg : decode cc pc = .ok (.iaload, 1)) (hin : vp_in x n)
    (kk : W p l e rm s m args below meth c H locs cells slots Q (F0 m (pc + 1) ls (.int (R i x.toNatClampNeg) :: rest))) : W p l e rm s m args below meth c H locs cells slots Q (F0 m pc ls (.int x :: .ref (ad i) :: rest)) :=
  va_iald hx hb hK.1 hP i 0 ((wl_at (isA_lt ha.1)).trans (by rw [CC_A ha])) rfl hin hdg kk
theorem q_ist (hx : p.tables.exec = Jvm.exec) (hb : c.code = cc) (hK : KK D cI cS s) (hI : Inj ad) (hP : WP D cI cS ad R F H) (hS : va_S (AA ad) H0 H locs) (i n : Nat) (ha : Ar i n) {x v : Int32} (hdg : decode cc pc = .ok (.iastore, 1)) (hin : vp_in x n)
    (kk : ∀ (H1 : Heap) (locs1 : List Loc), WP D cI cS ad (sR R i x.toNatClampNeg v) F H1 → va_S (AA ad) H0 H1 locs1 → W p l e rm s m args below meth c H1 locs1 cells slots Q (F0 m (pc + 1) ls rest)) : W p l e rm s m args below meth c H locs cells slots Q (F0 m pc ls (.int v :: .int x :: .ref (ad i) :: rest)) := by
  have hi := isA_lt ha.1
  refine va_iast hx hb hK.1 hP (wl_D hI) hS i 0 ((wl_at hi).trans (by rw [CC_A ha])) rfl hin hdg (fun H1 locs1 hP1 _ hS1 => kk H1 locs1 ?_ hS1)
  rw [wl_set hi, CC_upA ha] at hP1
  exact hP1
theorem q_len (hx : p.tables.exec = Jvm.exec) (hb : c.code = cc) (hK : KK D cI cS s) (hP : WP D cI cS ad R F H) (i n : Nat) (ha : Ar i n) (hdg : decode cc pc = .ok (.arraylength, 1))
    (kk : W p l e rm s m args below meth c H locs cells slots Q (F0 m (pc + 1) ls (.int (nI n) :: rest))) : W p l e rm s m args below meth c H locs cells slots Q (F0 m pc ls (.ref (ad i) :: rest)) :=
  va_alen hx hb hK.1 hP i 0 (x := (n, .inl (R i))) (ty := .int) ((wl_at (isA_lt ha.1)).trans (by rw [CC_A ha])) rfl rfl hdg kk
theorem q_getF (hx : p.tables.exec = Jvm.exec) (hb : c.code = cc) (hts : ∀ w ∈ Ts, w.before args s = true) (hin : ∀ w ∈ u_ws RX1 TX1 7, w ∈ Ts) (hown : s.vm.findClass own = some m.cls) (hK : KK D cI cS s) (hP : WP D cI cS ad R F H) (k : Nat) (hk : k < 7) {ref : String} (hlink : (Cond.fieldLink own index ref (TX1 k).2.1 (TX1 k).2.2.1).before args s = true) (hsame : ∀ x, s.fieldFound? (TX1 k).1 (TX1 k).2.1 (TX1 k).2.2.1 = some x → s.fieldFound? ref (TX1 k).2.1 (TX1 k).2.2.1 = some x) {v : Value} (hv : (fsF ad F)[k]? = some v) (hdg : decode cc pc = .ok (.getfield index, 3))
    (kk : W p l e rm s m args below meth c H locs cells slots Q (F0 m (pc + 3) ls (v :: rest))) : W p l e rm s m args below meth c H locs cells slots Q (F0 m pc ls (.ref (ad 0) :: rest)) :=
  va_get (D := D) (ci := 1) (C := RX1) (T := TX1) (N := 7) hx hb hts hin hown hK.1 hP 0 ((wl_at (by decide)).trans (by rw [CC_0])) rfl k hk hlink hsame hv hdg kk
theorem q_getS (hx : p.tables.exec = Jvm.exec) (hb : c.code = cc) (hts : ∀ w ∈ Ts, w.before args s = true) (hin : ∀ w ∈ u_ws RX0 TX0 15, w ∈ Ts) (hown : s.vm.findClass own = some m.cls) (hK : KK D cI cS s) (hP : WP D cI cS ad R F H) (i : Nat) (hi : St i = true) (k : Nat) (hk : k < 15) {ref : String} (hlink : (Cond.fieldLink own index ref (TX0 k).2.1 (TX0 k).2.2.1).before args s = true) (hsame : ∀ x, s.fieldFound? (TX0 k).1 (TX0 k).2.1 (TX0 k).2.2.1 = some x → s.fieldFound? ref (TX0 k).2.1 (TX0 k).2.2.1 = some x) {v : Value} (hv : (fsS ad F i)[k]? = some v) (hdg : decode cc pc = .ok (.getfield index, 3))
    (kk : W p l e rm s m args below meth c H locs cells slots Q (F0 m (pc + 3) ls (v :: rest))) : W p l e rm s m args below meth c H locs cells slots Q (F0 m pc ls (.ref (ad i) :: rest)) :=
  va_get (D := D) (ci := 0) (C := RX0) (T := TX0) (N := 15) hx hb hts hin hown hK.1 hP i ((wl_at (St_lt hi)).trans (by rw [CC_S hi])) rfl k hk hlink hsame hv hdg kk
/-- a whole number's field: of the FerryFloor (k = 2, 3), of the model (2, 3), of a state (0, 1, 2) -/
theorem q_putF (hx : p.tables.exec = Jvm.exec) (hb : c.code = cc) (hts : ∀ w ∈ Ts, w.before args s = true) (hin : ∀ w ∈ u_ws RX1 TX1 7, w ∈ Ts) (hown : s.vm.findClass own = some m.cls) (hK : KK D cI cS s) (hI : Inj ad) (hP : WP D cI cS ad R F H) (hS : va_S (AA ad) H0 H locs) (k : Nat) (hk : k = 2 ∨ k = 3) {ref : String} (hlink : (Cond.fieldLink own index ref (TX1 k).2.1 (TX1 k).2.2.1).before args s = true) (hsame : ∀ x, s.fieldFound? (TX1 k).1 (TX1 k).2.1 (TX1 k).2.2.1 = some x → s.fieldFound? ref (TX1 k).2.1 (TX1 k).2.2.1 = some x) {v : Int32} (hdg : decode cc pc = .ok (.putfield index, 3))
    (kk : ∀ (H1 : Heap) (locs1 : List Loc), WP D cI cS ad R (sR F 0 (k - 2) v) H1 → va_S (AA ad) H0 H1 locs1 → W p l e rm s m args below meth c H1 locs1 cells slots Q (F0 m (pc + 3) ls rest)) : W p l e rm s m args below meth c H locs cells slots Q (F0 m pc ls (.int v :: .ref (ad 0) :: rest)) := by
  have hk7 : k < 7 := by omega
  refine va_put (D := D) (ci := 1) (fs := fsF ad F) (v := .int v) (ty := .int) (C := RX1) (T := TX1) (N := 7) hx hb hts hin tyX1 tyX1_ok nmX1 hown hK.1 hP (wl_D hI) hS 0 ((wl_at (by decide)).trans (by rw [CC_0])) rfl k hk7 hlink hsame (by rcases hk with rfl | rfl <;> rfl) (by rcases hk with rfl | rfl <;> decide +kernel) rfl rfl hk7 hdg (fun H1 locs1 hP1 _ hS1 => kk H1 locs1 ?_ hS1)
  rw [wl_set (by decide), CC_upO (f := upd (F 0) (k - 2) v) (by rw [CC_0]; rcases hk with rfl | rfl <;> rfl)] at hP1
  exact hP1
theorem q_putS (hx : p.tables.exec = Jvm.exec) (hb : c.code = cc) (hts : ∀ w ∈ Ts, w.before args s = true) (hin : ∀ w ∈ u_ws RX0 TX0 15, w ∈ Ts) (hown : s.vm.findClass own = some m.cls) (hK : KK D cI cS s) (hI : Inj ad) (hP : WP D cI cS ad R F H) (hS : va_S (AA ad) H0 H locs) (i : Nat) (hi : St i = true) (k : Nat) (hk : k = 0 ∨ k = 1 ∨ k = 2) {ref : String} (hlink : (Cond.fieldLink own index ref (TX0 k).2.1 (TX0 k).2.2.1).before args s = true) (hsame : ∀ x, s.fieldFound? (TX0 k).1 (TX0 k).2.1 (TX0 k).2.2.1 = some x → s.fieldFound? ref (TX0 k).2.1 (TX0 k).2.2.1 = some x) {v : Int32} (hdg : decode cc pc = .ok (.putfield index, 3))
    (kk : ∀ (H1 : Heap) (locs1 : List Loc), WP D cI cS ad R (sR F i k v) H1 → va_S (AA ad) H0 H1 locs1 → W p l e rm s m args below meth c H1 locs1 cells slots Q (F0 m (pc + 3) ls rest)) : W p l e rm s m args below meth c H locs cells slots Q (F0 m pc ls (.int v :: .ref (ad i) :: rest)) := by
  have hk7 : k < 15 := by omega
  refine va_put (D := D) (ci := 0) (fs := fsS ad F i) (v := .int v) (ty := .int) (C := RX0) (T := TX0) (N := 15) hx hb hts hin tyX0 tyX0_ok nmX0 hown hK.1 hP (wl_D hI) hS i ((wl_at (St_lt hi)).trans (by rw [CC_S hi])) rfl k hk7 hlink hsame (by rcases hk with rfl | rfl | rfl <;> rfl) (by rcases hk with rfl | rfl | rfl <;> decide +kernel) rfl rfl hk7 hdg (fun H1 locs1 hP1 _ hS1 => kk H1 locs1 ?_ hS1)
  rw [wl_set (St_lt hi), CC_upO (f := upd (F i) k v) (by rw [CC_S hi]; rcases hk with rfl | rfl | rfl <;> simp [fsS, va_up, upd])] at hP1
  exact hP1
theorem q_callS {r : Int32} {a : Array Value} (hr : va_Run p l e rm s m args below meth c H locs cells slots 0 0 (F0 m pc ls st0) rest (QS r a) (fun _ => False))
    (kk : W p l e rm s m args below meth c H locs cells slots Q (F0 m (pc + 3) ls (.int r :: rest))) : W p l e rm s m args below meth c H locs cells slots Q (F0 m pc ls st0) := by
  intro T hT X
  obtain ⟨v, st₀, t, T', L, h0, X', hL, e1, e2, ⟨hv, hh⟩, st⟩ := hr T hT X
  cases hv
  have hnil : L = [] := by
    cases L with
    | nil => rfl
    | cons q L => exact (hL q List.mem_cons_self).elim
  subst hnil
  rw [List.append_nil] at X'
  obtain ⟨t2, a1, b1⟩ := kk T' (by rw [e1, hh, h0]) X'
  exact ⟨t2, st t2 a1, b1⟩
theorem q_callI {r : Int32} {R' F' : Nat → Nat → Int32} {a : Array Value} (hr : va_Run p l e rm s m args below meth c H locs cells slots 0 0 (F0 m pc ls st0) rest (QI D cI cS ad r R' F' a) (AA ad)) (hS : va_S (AA ad) H0 H locs)
    (kk : ∀ (H1 : Heap) (locs1 : List Loc), WP D cI cS ad R' F' H1 → va_S (AA ad) H0 H1 locs1 → W p l e rm s m args below meth c H1 locs1 cells slots Q (F0 m (pc + 3) ls (.int r :: rest))) : W p l e rm s m args below meth c H locs cells slots Q (F0 m pc ls st0) := by
  intro T hT X
  obtain ⟨v, st₀, t, T', L, h0, X', hL, e1, e2, ⟨hv, hp, hz, hk⟩, st⟩ := hr T hT X
  cases hv
  rw [h0] at hz hk
  obtain ⟨t2, a1, b1⟩ := kk T'.heap (locs ++ L) (by rw [e1]; exact hp)
    ⟨Nat.le_trans hS.1 (by rw [e1]; exact hz), fun q h1 h2 => by rw [e1, hk q (Nat.lt_of_lt_of_le h1 hS.1) h2]; exact hS.2.1 q h1 h2, fun q hq => by
      rcases List.mem_append.mp hq with h | h
      · exact hS.2.2 q h
      · exact hL q h⟩ T' rfl X'
  exact ⟨t2, st t2 a1, b1⟩
theorem q_callV {R' F' : Nat → Nat → Int32} {a : Array Value} (hr : va_Run p l e rm s m args below meth c H locs cells slots 0 0 (F0 m pc ls st0) rest (QV D cI cS ad R' F' a) (AA ad)) (hS : va_S (AA ad) H0 H locs)
    (kk : ∀ (H1 : Heap) (locs1 : List Loc), WP D cI cS ad R' F' H1 → va_S (AA ad) H0 H1 locs1 → W p l e rm s m args below meth c H1 locs1 cells slots Q (F0 m (pc + 3) ls rest)) : W p l e rm s m args below meth c H locs cells slots Q (F0 m pc ls st0) := by
  intro T hT X
  obtain ⟨v, st₀, t, T', L, h0, X', hL, e1, e2, ⟨hv, hp, hz, hk⟩, st⟩ := hr T hT X
  cases hv
  rw [h0] at hz hk
  obtain ⟨t2, a1, b1⟩ := kk T'.heap (locs ++ L) (by rw [e1]; exact hp)
    ⟨Nat.le_trans hS.1 (by rw [e1]; exact hz), fun q h1 h2 => by rw [e1, hk q (Nat.lt_of_lt_of_le h1 hS.1) h2]; exact hS.2.1 q h1 h2, fun q hq => by
      rcases List.mem_append.mp hq with h | h
      · exact hS.2.2 q h
      · exact hL q h⟩ T' rfl X'
  exact ⟨t2, st t2 a1, b1⟩
/-- a loop: n rounds are left -/
theorem q_loop {pc0 : Nat} {st : List Value} (I : Nat → Heap → List Loc → Array Slot → Prop) (n : Nat) (h0 : I n H locs ls)
    (hz : ∀ (H : Heap) (locs : List Loc) (ls : Array Slot), I 0 H locs ls → W p l e rm s m args below meth c H locs cells slots Q (F0 m pc0 ls st))
    (hs : ∀ n : Nat, (∀ (H : Heap) (locs : List Loc) (ls : Array Slot), I n H locs ls → W p l e rm s m args below meth c H locs cells slots Q (F0 m pc0 ls st)) → ∀ (H : Heap) (locs : List Loc) (ls : Array Slot), I (n + 1) H locs ls → W p l e rm s m args below meth c H locs cells slots Q (F0 m pc0 ls st)) :
    W p l e rm s m args below meth c H locs cells slots Q (F0 m pc0 ls st) := by
  have key : ∀ (n : Nat) (H : Heap) (locs : List Loc) (ls : Array Slot), I n H locs ls → W p l e rm s m args below meth c H locs cells slots Q (F0 m pc0 ls st) := by
    intro n
    induction n with
    | zero => exact hz
    | succ n ih => exact hs n ih
  exact key n H locs ls h0
end
