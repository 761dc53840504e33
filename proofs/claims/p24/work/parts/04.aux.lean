/-! more rows: places, indices that are numbers, switches -/
theorem ar_2 : Ar 2 24 := ⟨by decide, by decide⟩
theorem ar_3 : Ar 3 24 := ⟨by decide, by decide⟩
theorem ar_4 : Ar 4 24 := ⟨by decide, by decide⟩
theorem ar_5 : Ar 5 24 := ⟨by decide, by decide⟩
theorem ar_6 : Ar 6 8 := ⟨by decide, by decide⟩
theorem ar_7 : Ar 7 8 := ⟨by decide, by decide⟩
theorem ar_8 : Ar 8 8 := ⟨by decide, by decide⟩
theorem ar_9 : Ar 9 8 := ⟨by decide, by decide⟩
theorem ar_10 : Ar 10 8 := ⟨by decide, by decide⟩
theorem ar_11 : Ar 11 8 := ⟨by decide, by decide⟩
theorem ar_12 : Ar 12 8 := ⟨by decide, by decide⟩
theorem ar_13 : Ar 13 8 := ⟨by decide, by decide⟩
theorem ar_15 : Ar 15 24 := ⟨by decide, by decide⟩
theorem ar_16 : Ar 16 24 := ⟨by decide, by decide⟩
theorem ar_17 : Ar 17 8 := ⟨by decide, by decide⟩
theorem ar_83 : Ar 83 6 := ⟨by decide, by decide⟩
theorem ar_84 : Ar 84 24 := ⟨by decide, by decide⟩
theorem ar_85 : Ar 85 24 := ⟨by decide, by decide⟩
theorem ar_86 : Ar 86 24 := ⟨by decide, by decide⟩
theorem ar_87 : Ar 87 24 := ⟨by decide, by decide⟩
theorem ar_88 : Ar 88 40 := ⟨by decide, by decide⟩
theorem ar_89 : Ar 89 40 := ⟨by decide, by decide⟩
theorem st_1 : St 1 = true := by decide
theorem St_cases {i : Nat} (h : St i = true) : i = 1 ∨ ∃ k, k < 5 ∧ i = 18 + 13 * k := by
  simp only [St, Bool.or_eq_true, beq_iff_eq] at h
  rcases h with ((((h | h) | h) | h) | h) | h
  · exact Or.inl h
  · exact Or.inr ⟨0, by omega, by omega⟩
  · exact Or.inr ⟨1, by omega, by omega⟩
  · exact Or.inr ⟨2, by omega, by omega⟩
  · exact Or.inr ⟨3, by omega, by omega⟩
  · exact Or.inr ⟨4, by omega, by omega⟩
theorem Ar_S1 {i : Nat} (h : St i = true) : Ar (i + 1) 24 := by
  rcases St_cases h with rfl | ⟨k, hk, rfl⟩
  · exact ar_2
  · exact Ar_hist (j := 1) hk ar_2 (by decide) (by decide)
theorem Ar_S2 {i : Nat} (h : St i = true) : Ar (i + 2) 24 := by
  rcases St_cases h with rfl | ⟨k, hk, rfl⟩
  · exact ar_3
  · exact Ar_hist (j := 2) hk ar_3 (by decide) (by decide)
theorem Ar_S3 {i : Nat} (h : St i = true) : Ar (i + 3) 24 := by
  rcases St_cases h with rfl | ⟨k, hk, rfl⟩
  · exact ar_4
  · exact Ar_hist (j := 3) hk ar_4 (by decide) (by decide)
theorem Ar_S4 {i : Nat} (h : St i = true) : Ar (i + 4) 24 := by
  rcases St_cases h with rfl | ⟨k, hk, rfl⟩
  · exact ar_5
  · exact Ar_hist (j := 4) hk ar_5 (by decide) (by decide)
theorem Ar_S5 {i : Nat} (h : St i = true) : Ar (i + 5) 8 := by
  rcases St_cases h with rfl | ⟨k, hk, rfl⟩
  · exact ar_6
  · exact Ar_hist (j := 5) hk ar_6 (by decide) (by decide)
theorem Ar_S6 {i : Nat} (h : St i = true) : Ar (i + 6) 8 := by
  rcases St_cases h with rfl | ⟨k, hk, rfl⟩
  · exact ar_7
  · exact Ar_hist (j := 6) hk ar_7 (by decide) (by decide)
theorem Ar_S7 {i : Nat} (h : St i = true) : Ar (i + 7) 8 := by
  rcases St_cases h with rfl | ⟨k, hk, rfl⟩
  · exact ar_8
  · exact Ar_hist (j := 7) hk ar_8 (by decide) (by decide)
theorem Ar_S8 {i : Nat} (h : St i = true) : Ar (i + 8) 8 := by
  rcases St_cases h with rfl | ⟨k, hk, rfl⟩
  · exact ar_9
  · exact Ar_hist (j := 8) hk ar_9 (by decide) (by decide)
theorem Ar_S9 {i : Nat} (h : St i = true) : Ar (i + 9) 8 := by
  rcases St_cases h with rfl | ⟨k, hk, rfl⟩
  · exact ar_10
  · exact Ar_hist (j := 9) hk ar_10 (by decide) (by decide)
theorem Ar_S10 {i : Nat} (h : St i = true) : Ar (i + 10) 8 := by
  rcases St_cases h with rfl | ⟨k, hk, rfl⟩
  · exact ar_11
  · exact Ar_hist (j := 10) hk ar_11 (by decide) (by decide)
theorem Ar_S11 {i : Nat} (h : St i = true) : Ar (i + 11) 8 := by
  rcases St_cases h with rfl | ⟨k, hk, rfl⟩
  · exact ar_12
  · exact Ar_hist (j := 11) hk ar_12 (by decide) (by decide)
theorem Ar_S12 {i : Nat} (h : St i = true) : Ar (i + 12) 8 := by
  rcases St_cases h with rfl | ⟨k, hk, rfl⟩
  · exact ar_13
  · exact Ar_hist (j := 12) hk ar_13 (by decide) (by decide)
section
variable {p : Program} {l : Launch} {e : Env} {rm : Room} {s : State} {m : MethodId} {args : Array Value} {below : List Frame} {meth : Method} {c : Code} {H H0 : Heap} {locs : List Loc} {cells slots : Nat} {Q : State → Prop} {cc : ByteArray} {pc : Nat} {ls : Array Slot} {rest st0 : List Value} {D : va_G} {cI cS : ClassId} {ad : Nat → Nat} {R F : Nat → Nat → Int32} {own : String} {index : Nat} {Ts : List Cond}
theorem q_top {x y : Int32} (h : x = y) (kk : W p l e rm s m args below meth c H locs cells slots Q (F0 m pc ls (.int y :: rest))) : W p l e rm s m args below meth c H locs cells slots Q (F0 m pc ls (.int x :: rest)) := h ▸ kk
theorem q_ildN (hx : p.tables.exec = Jvm.exec) (hb : c.code = cc) (hK : KK D cI cS s) (hP : WP D cI cS ad R F H) (i n : Nat) (ha : Ar i n) (k : Nat) {x : Int32} (hdg : decode cc pc = .ok (.iaload, 1)) (hxk : x = nI k) (hk : k < n) (hn : n < 2 ^ 31)
    (kk : W p l e rm s m args below meth c H locs cells slots Q (F0 m (pc + 1) ls (.int (R i k) :: rest))) : W p l e rm s m args below meth c H locs cells slots Q (F0 m pc ls (.int x :: .ref (ad i) :: rest)) := by
  subst hxk
  refine q_ild hx hb hK hP i n ha hdg (vp_in_nI hk hn) ?_
  rw [nI_clamp (by omega)]
  exact kk
theorem q_istN (hx : p.tables.exec = Jvm.exec) (hb : c.code = cc) (hK : KK D cI cS s) (hI : Inj ad) (hP : WP D cI cS ad R F H) (hS : va_S (AA ad) H0 H locs) (i n : Nat) (ha : Ar i n) (k : Nat) {x v : Int32} (hdg : decode cc pc = .ok (.iastore, 1)) (hxk : x = nI k) (hk : k < n) (hn : n < 2 ^ 31)
    (kk : ∀ (H1 : Heap) (locs1 : List Loc), WP D cI cS ad (sR R i k v) F H1 → va_S (AA ad) H0 H1 locs1 → W p l e rm s m args below meth c H1 locs1 cells slots Q (F0 m (pc + 1) ls rest)) : W p l e rm s m args below meth c H locs cells slots Q (F0 m pc ls (.int v :: .int x :: .ref (ad i) :: rest)) := by
  subst hxk
  refine q_ist hx hb hK hI hP hS i n ha hdg (vp_in_nI hk hn) ?_
  rw [nI_clamp (by omega)]
  exact kk
theorem q_copy (hx : p.tables.exec = Jvm.exec) (hb : c.code = cc) (hml : c.maxLocals = ls.size) (hown : s.vm.findClass own = some m.cls) (hlink : (Cond.methodLink own index arraycopyName).before args s = true) (hnat : (Cond.native arraycopyName).before args s = true) (hstat : (Cond.static arraycopyName).before args s = true) (hini : (Cond.initialized "java/lang/System").before args s = true) (hK : KK D cI cS s) (hI : Inj ad) (hP : WP D cI cS ad R F H) (hS : va_S (AA ad) H0 H locs) (i j n : Nat) (hi : Ar i n) (hj : Ar j n) (hn : n < 2 ^ 31) (hframes : 1 ≤ rm.frames) (hlocals : (rest.map fun v => v.category).sum + (nativeFrameWords "java/lang/System" "arraycopy" 5 + 11) ≤ rm.locals) (hdg : decode cc pc = .ok (.invokestatic index, 3))
    (kk : ∀ (H1 : Heap) (locs1 : List Loc), WP D cI cS ad (va_up R j (va_cpy (R i) (R j) 0 0 n)) F H1 → va_S (AA ad) H0 H1 locs1 → W p l e rm s m args below meth c H1 locs1 cells slots Q (F0 m (pc + 3) ls rest)) : W p l e rm s m args below meth c H locs cells slots Q (F0 m pc ls (.int (nI n) :: .int 0 :: .ref (ad j) :: .int 0 :: .ref (ad i) :: rest)) := by
  have hcl : (nI n).toNatClampNeg = n := nI_clamp hn
  have h0 : (0 : Int32).toNatClampNeg = 0 := rfl
  refine va_copyi hx hb hml hown hlink hnat hstat hini hK.1 hP (wl_D hI) hS i j 0 0 ((wl_at (isA_lt hi.1)).trans (by rw [CC_A hi])) ((wl_at (isA_lt hj.1)).trans (by rw [CC_A hj])) rfl rfl rfl (by decide) (by decide) (nI_pos hn) (by rw [hcl, h0]; omega) (by rw [hcl, h0]; omega) (fun _ _ => rfl) hframes hlocals hdg (fun H1 locs1 hP1 _ hS1 => kk H1 locs1 ?_ hS1)
  rw [wl_set (isA_lt hj.1), CC_upA hj, hcl, h0] at hP1
  exact hP1
theorem q_hld (hx : p.tables.exec = Jvm.exec) (hb : c.code = cc) (hK : KK D cI cS s) (hP : WP D cI cS ad R F H) (k : Nat) {x : Int32} (hdg : decode cc pc = .ok (.aaload, 1)) (hxk : x = nI k) (hk : k < 5)
    (kk : W p l e rm s m args below meth c H locs cells slots Q (F0 m (pc + 1) ls (.ref (ad (18 + 13 * k)) :: rest))) : W p l e rm s m args below meth c H locs cells slots Q (F0 m pc ls (.int x :: .ref (ad 14) :: rest)) := by
  subst hxk
  refine va_aldq hx hb hK.1 hP 14 1 ((wl_at (by decide)).trans (by rw [CC_14])) rfl (vp_in_nI hk (by decide)) hdg ?_
  rw [nI_clamp (by omega)]
  exact kk
end
theorem ne_toInt {x : Int32} {v : Int32} {n : Int} (hn : v.toInt = n) (h : ¬ x = v) : x.toInt ≠ n := fun e => h (Int32.toInt_inj.mp (e.trans hn.symm))
theorem sw_out5 {x : Int32} (h0 : ¬ x = (0 : Int32)) (h1 : ¬ x = (1 : Int32)) (h2 : ¬ x = (2 : Int32)) (h3 : ¬ x = (3 : Int32)) (h4 : ¬ x = (4 : Int32)) : x.toInt < 0 ∨ 4 < x.toInt := by
  have g0 := ne_toInt (n := 0) (by decide) h0
  have g1 := ne_toInt (n := 1) (by decide) h1
  have g2 := ne_toInt (n := 2) (by decide) h2
  have g3 := ne_toInt (n := 3) (by decide) h3
  have g4 := ne_toInt (n := 4) (by decide) h4
  omega
theorem sw_out8 {x : Int32} (h0 : ¬ x = (0 : Int32)) (h1 : ¬ x = (1 : Int32)) (h2 : ¬ x = (2 : Int32)) (h3 : ¬ x = (3 : Int32)) (h4 : ¬ x = (4 : Int32)) (h5 : ¬ x = (5 : Int32)) (h6 : ¬ x = (6 : Int32)) (h7 : ¬ x = (7 : Int32)) : x.toInt < 0 ∨ 7 < x.toInt := by
  have g0 := ne_toInt (n := 0) (by decide) h0
  have g1 := ne_toInt (n := 1) (by decide) h1
  have g2 := ne_toInt (n := 2) (by decide) h2
  have g3 := ne_toInt (n := 3) (by decide) h3
  have g4 := ne_toInt (n := 4) (by decide) h4
  have g5 := ne_toInt (n := 5) (by decide) h5
  have g6 := ne_toInt (n := 6) (by decide) h6
  have g7 := ne_toInt (n := 7) (by decide) h7
  omega
theorem sw_out12 {x : Int32} (h0 : ¬ x = (0 : Int32)) (h1 : ¬ x = (1 : Int32)) (h2 : ¬ x = (2 : Int32)) (h3 : ¬ x = (3 : Int32)) (h4 : ¬ x = (4 : Int32)) (h5 : ¬ x = (5 : Int32)) (h6 : ¬ x = (6 : Int32)) (h7 : ¬ x = (7 : Int32)) (h8 : ¬ x = (8 : Int32)) (h9 : ¬ x = (9 : Int32)) (h10 : ¬ x = (10 : Int32)) (h11 : ¬ x = (11 : Int32)) : x.toInt < 0 ∨ 11 < x.toInt := by
  have g0 := ne_toInt (n := 0) (by decide) h0
  have g1 := ne_toInt (n := 1) (by decide) h1
  have g2 := ne_toInt (n := 2) (by decide) h2
  have g3 := ne_toInt (n := 3) (by decide) h3
  have g4 := ne_toInt (n := 4) (by decide) h4
  have g5 := ne_toInt (n := 5) (by decide) h5
  have g6 := ne_toInt (n := 6) (by decide) h6
  have g7 := ne_toInt (n := 7) (by decide) h7
  have g8 := ne_toInt (n := 8) (by decide) h8
  have g9 := ne_toInt (n := 9) (by decide) h9
  have g10 := ne_toInt (n := 10) (by decide) h10
  have g11 := ne_toInt (n := 11) (by decide) h11
  omega
theorem Met.ofWF {l : Launch} {y : MethodName} {ws ws' : List Cond} {rm : Room} {Pc : Array Value → State → Prop} {Qc : Array Value → State → Outcome → State → Prop} {mc ms : Nat} {free : Addr → Prop} {cc : ByteArray} {maxL : Nat} {ret : Option FieldType}
    (hy : plainFor y = true) (hw : ws = Cond.code y cc maxL ret :: ws')
    (body : ∀ p e s m args below meth c s₁, BodyLoose p l y (headSpec ws rm) cc maxL ret e s m args below meth c s₁ → c.maxLocals = maxL → Pc args s →
      W p l e (headSpec ws rm).room s m args below meth c s.heap [] 0 0 (MQ below Qc args s mc ms free) (entryFrame m args maxL)) : Met l y ws rm Pc Qc mc ms free := by
  refine MetFree.of_bodySF (code := cc) (maxLocals := maxL) (ret := ret) hy ?_ ?_
  · intro args s m h hn
    obtain ⟨meth, c, h1, h2, h3, h4, h5, h6, -, -⟩ := Cond.code_spec hn (atoms_spec (ws := ws) h _ (by rw [hw]; exact List.mem_cons_self))
    exact ⟨meth, c, h1, h2, h3, h4, h5, h6⟩
  · intro p e s m args below meth c s₁ B hml hP _
    have hh0 : s₁.heap = s.heap := by rw [B.state]; rfl
    obtain ⟨t, a1, o, b1, b2, b3⟩ := body p e s m args below meth c s₁ B hml hP s₁ hh0 (Stand.of_body B)
    exact ⟨t, o, a1, b1, b2, ⟨b3.1, b3.2⟩⟩
