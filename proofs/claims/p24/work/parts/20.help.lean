def xL_low (p1 : Int32) (p2 : Int32) : Int32 :=
  ((p1 &&& (2147483647 : Int32)) - (p1 &&& (2147483647 : Int32)) / p2 * p2)
set_option maxHeartbeats 4000000 in
set_option maxRecDepth 100000 in
theorem mL_low (l : Launch) (D : va_G) (cI cS : ClassId) (ad : Nat → Nat) (hI : Inj ad) (R F : Nat → Nat → Int32) (p1 : Int32) (p2 : Int32) (hne : ¬ p2 = 0) : Met l yL_low wsL_low ({ frames := 0, cells := 0, slots := 0, locals := 0 }) (PW D cI cS ad R F [.int p1, .int p2]) (QS (xL_low p1 p2)) 0 0 (fun _ => False) := by
  refine Met.ofW (cc := cL_low) (maxL := 2) (ret := (some .int)) (by decide) rfl ?_
  intro p e s m args below meth c s₁ B hml hv
  obtain ⟨rfl, hP, hK⟩ := hv
  have hx := B.exec
  have hb := B.bytes
  have hr := B.returns
  have hts := atoms_spec (ws := wsL_low) B.pre
  have hown : s.vm.findClass RL = some m.cls := findClass_of_methodNamed B.named
  have hlocks := B.notSynchronized
  have hS : va_S (AA ad) s.heap s.heap [] := va_S.rf
  have hl := lv_entry ([.int p1, .int p2]) (n := 2) (Nat.le_of_ble_eq_true rfl)
  rw [lg_entry_eq]
  generalize (lg_sl ([.int p1, .int p2]) ++ List.replicate (2 - (lg_sl ([.int p1, .int p2])).length) Slot.unset).toArray = ls at hl ⊢
  have hl : lv_has ls 2 [(0, .int p1), (1, .int p2)] := hl
  have lk8 := hts (.constant RL 8 (2147483647)) (by decide +kernel)
  refine lv_iload_n hx hb dL_low_0 rfl (lv_at hl 0 rfl) ?_
  refine lv_ldc (v := 2147483647) hx hb hown lk8 dL_low_1 ?_
  refine lv_iand hx hb dL_low_3 ?_
  refine lv_iload_n hx hb dL_low_4 rfl (lv_at hl 1 rfl) ?_
  refine lv_irem hx hb dL_low_5 hne ?_
  have hX : (xL_low p1 p2) = ((p1 &&& (2147483647 : Int32)) - (p1 &&& (2147483647 : Int32)) / p2 * p2) := by unfold xL_low; rfl
  exact W.iret (v := ((p1 &&& (2147483647 : Int32)) - (p1 &&& (2147483647 : Int32)) / p2 * p2)) hx hb hr (fun t ht hW => ⟨by rw [hX], ht⟩) (fun _ h => by cases h) dL_low_6

def xL_share (p1 : Int32) (p2 : Int32) (p3 : Int32) : Int32 :=
  (if ((p2 / (6 : Int32)) - (p3 / (6 : Int32))) = (0 : Int32) then (if ((p2 - p2 / (6 : Int32) * (6 : Int32)) - (p3 - p3 / (6 : Int32) * (6 : Int32))) = (0 : Int32) then (if p2 ≤ (5 : Int32) then (if (18 : Int32) ≤ p2 then (if (p2 - p2 / (6 : Int32) * (6 : Int32)) ≤ (0 : Int32) then (if (5 : Int32) ≤ (p2 - p2 / (6 : Int32) * (6 : Int32)) then (p1 - (((((0 : Int32) + (0 : Int32)) + (0 : Int32)) + (0 : Int32)) * (p1 / (8 : Int32)))) else (p1 - (((((0 : Int32) + (0 : Int32)) + (0 : Int32)) + (1 : Int32)) * (p1 / (8 : Int32))))) else (if (5 : Int32) ≤ (p2 - p2 / (6 : Int32) * (6 : Int32)) then (p1 - (((((0 : Int32) + (0 : Int32)) + (1 : Int32)) + (0 : Int32)) * (p1 / (8 : Int32)))) else (p1 - (((((0 : Int32) + (0 : Int32)) + (1 : Int32)) + (1 : Int32)) * (p1 / (8 : Int32)))))) else (if (p2 - p2 / (6 : Int32) * (6 : Int32)) ≤ (0 : Int32) then (if (5 : Int32) ≤ (p2 - p2 / (6 : Int32) * (6 : Int32)) then (p1 - (((((0 : Int32) + (1 : Int32)) + (0 : Int32)) + (0 : Int32)) * (p1 / (8 : Int32)))) else (p1 - (((((0 : Int32) + (1 : Int32)) + (0 : Int32)) + (1 : Int32)) * (p1 / (8 : Int32))))) else (if (5 : Int32) ≤ (p2 - p2 / (6 : Int32) * (6 : Int32)) then (p1 - (((((0 : Int32) + (1 : Int32)) + (1 : Int32)) + (0 : Int32)) * (p1 / (8 : Int32)))) else (p1 - (((((0 : Int32) + (1 : Int32)) + (1 : Int32)) + (1 : Int32)) * (p1 / (8 : Int32))))))) else (if (18 : Int32) ≤ p2 then (if (p2 - p2 / (6 : Int32) * (6 : Int32)) ≤ (0 : Int32) then (if (5 : Int32) ≤ (p2 - p2 / (6 : Int32) * (6 : Int32)) then (p1 - (((((1 : Int32) + (0 : Int32)) + (0 : Int32)) + (0 : Int32)) * (p1 / (8 : Int32)))) else (p1 - (((((1 : Int32) + (0 : Int32)) + (0 : Int32)) + (1 : Int32)) * (p1 / (8 : Int32))))) else (if (5 : Int32) ≤ (p2 - p2 / (6 : Int32) * (6 : Int32)) then (p1 - (((((1 : Int32) + (0 : Int32)) + (1 : Int32)) + (0 : Int32)) * (p1 / (8 : Int32)))) else (p1 - (((((1 : Int32) + (0 : Int32)) + (1 : Int32)) + (1 : Int32)) * (p1 / (8 : Int32)))))) else (if (p2 - p2 / (6 : Int32) * (6 : Int32)) ≤ (0 : Int32) then (if (5 : Int32) ≤ (p2 - p2 / (6 : Int32) * (6 : Int32)) then (p1 - (((((1 : Int32) + (1 : Int32)) + (0 : Int32)) + (0 : Int32)) * (p1 / (8 : Int32)))) else (p1 - (((((1 : Int32) + (1 : Int32)) + (0 : Int32)) + (1 : Int32)) * (p1 / (8 : Int32))))) else (if (5 : Int32) ≤ (p2 - p2 / (6 : Int32) * (6 : Int32)) then (p1 - (((((1 : Int32) + (1 : Int32)) + (1 : Int32)) + (0 : Int32)) * (p1 / (8 : Int32)))) else (p1 - (((((1 : Int32) + (1 : Int32)) + (1 : Int32)) + (1 : Int32)) * (p1 / (8 : Int32)))))))) else (if ((((p2 / (6 : Int32)) - (p3 / (6 : Int32))) * ((p2 / (6 : Int32)) - (p3 / (6 : Int32)))) + (((p2 - p2 / (6 : Int32) * (6 : Int32)) - (p3 - p3 / (6 : Int32) * (6 : Int32))) * ((p2 - p2 / (6 : Int32) * (6 : Int32)) - (p3 - p3 / (6 : Int32) * (6 : Int32))))) = (1 : Int32) then (p1 / (8 : Int32)) else (0 : Int32))) else (if ((((p2 / (6 : Int32)) - (p3 / (6 : Int32))) * ((p2 / (6 : Int32)) - (p3 / (6 : Int32)))) + (((p2 - p2 / (6 : Int32) * (6 : Int32)) - (p3 - p3 / (6 : Int32) * (6 : Int32))) * ((p2 - p2 / (6 : Int32) * (6 : Int32)) - (p3 - p3 / (6 : Int32) * (6 : Int32))))) = (1 : Int32) then (p1 / (8 : Int32)) else (0 : Int32)))
set_option maxHeartbeats 4000000 in
set_option maxRecDepth 100000 in
theorem mL_share (l : Launch) (D : va_G) (cI cS : ClassId) (ad : Nat → Nat) (hI : Inj ad) (R F : Nat → Nat → Int32) (p1 : Int32) (p2 : Int32) (p3 : Int32) : Met l yL_share wsL_share ({ frames := 0, cells := 0, slots := 0, locals := 0 }) (PW D cI cS ad R F [.int p1, .int p2, .int p3]) (QS (xL_share p1 p2 p3)) 0 0 (fun _ => False) := by
  refine Met.ofW (cc := cL_share) (maxL := 7) (ret := (some .int)) (by decide) rfl ?_
  intro p e s m args below meth c s₁ B hml hv
  obtain ⟨rfl, hP, hK⟩ := hv
  have hx := B.exec
  have hb := B.bytes
  have hr := B.returns
  have hts := atoms_spec (ws := wsL_share) B.pre
  have hown : s.vm.findClass RL = some m.cls := findClass_of_methodNamed B.named
  have hlocks := B.notSynchronized
  have hS : va_S (AA ad) s.heap s.heap [] := va_S.rf
  have hl := lv_entry ([.int p1, .int p2, .int p3]) (n := 7) (Nat.le_of_ble_eq_true rfl)
  rw [lg_entry_eq]
  generalize (lg_sl ([.int p1, .int p2, .int p3]) ++ List.replicate (7 - (lg_sl ([.int p1, .int p2, .int p3])).length) Slot.unset).toArray = ls at hl ⊢
  have hl : lv_has ls 7 [(0, .int p1), (1, .int p2), (2, .int p3)] := hl
  refine lv_iload_n hx hb dL_share_0 rfl (lv_at hl 0 rfl) ?_
  refine lv_bipush (v := 8) hx hb dL_share_1 (by decide) ?_
  refine lv_idiv hx hb dL_share_3 (by decide) ?_
  refine lv_istore_n (lv' := [(3, .int (p1 / (8 : Int32))), (0, .int p1), (1, .int p2), (2, .int p3)]) hx hb dL_share_4 rfl hl (by decide) rfl (fun ls hl => ?_)
  refine lv_iload_n hx hb dL_share_5 rfl (lv_at hl 2 rfl) ?_
  refine lv_bipush (v := 6) hx hb dL_share_6 (by decide) ?_
  refine lv_idiv hx hb dL_share_8 (by decide) ?_
  refine lv_iload_n hx hb dL_share_9 rfl (lv_at hl 3 rfl) ?_
  refine lv_bipush (v := 6) hx hb dL_share_10 (by decide) ?_
  refine lv_idiv hx hb dL_share_12 (by decide) ?_
  refine lv_isub hx hb dL_share_13 ?_
  refine lv_istore (lv' := [(4, .int ((p2 / (6 : Int32)) - (p3 / (6 : Int32)))), (3, .int (p1 / (8 : Int32))), (0, .int p1), (1, .int p2), (2, .int p3)]) hx hb dL_share_14 hl (by decide) rfl (fun ls hl => ?_)
  refine lv_iload_n hx hb dL_share_16 rfl (lv_at hl 3 rfl) ?_
  refine lv_bipush (v := 6) hx hb dL_share_17 (by decide) ?_
  refine lv_irem hx hb dL_share_19 (by decide) ?_
  refine lv_iload_n hx hb dL_share_20 rfl (lv_at hl 4 rfl) ?_
  refine lv_bipush (v := 6) hx hb dL_share_21 (by decide) ?_
  refine lv_irem hx hb dL_share_23 (by decide) ?_
  refine lv_isub hx hb dL_share_24 ?_
  refine lv_istore (lv' := [(5, .int ((p2 - p2 / (6 : Int32) * (6 : Int32)) - (p3 - p3 / (6 : Int32) * (6 : Int32)))), (4, .int ((p2 / (6 : Int32)) - (p3 / (6 : Int32)))), (3, .int (p1 / (8 : Int32))), (0, .int p1), (1, .int p2), (2, .int p3)]) hx hb dL_share_25 hl (by decide) rfl (fun ls hl => ?_)
  refine lv_iload hx hb dL_share_27 (lv_at hl 1 rfl) ?_
  refine lv_if_ne (tgt := 95) hx hb dL_share_29 (by decide) (fun c_29 => ?_) (fun c_29 => ?_)
  · refine lv_iload hx hb dL_share_95 (lv_at hl 1 rfl) ?_
    refine lv_iload hx hb dL_share_97 (lv_at hl 1 rfl) ?_
    refine lv_imul hx hb dL_share_99 ?_
    refine lv_iload hx hb dL_share_100 (lv_at hl 0 rfl) ?_
    refine lv_iload hx hb dL_share_102 (lv_at hl 0 rfl) ?_
    refine lv_imul hx hb dL_share_104 ?_
    refine lv_iadd hx hb dL_share_105 ?_
    refine lv_iconst (v := 1) hx hb dL_share_106 (by decide) ?_
    refine lv_icmp_ne (tgt := 114) hx hb dL_share_107 (by decide) (fun c_107 => ?_) (fun c_107 => ?_)
    · refine lv_iconst (v := 0) hx hb dL_share_114 (by decide) ?_
      have hX : (xL_share p1 p2 p3) = (0 : Int32) := by unfold xL_share; rw [if_neg c_29, if_neg c_107]
      exact W.iret (v := (0 : Int32)) hx hb hr (fun t ht hW => ⟨by rw [hX], ht⟩) (fun _ h => by cases h) dL_share_115
    · refine lv_iload_n hx hb dL_share_110 rfl (lv_at hl 2 rfl) ?_
      refine lv_goto (tgt := 115) hx hb dL_share_111 (by decide) ?_
      have hX : (xL_share p1 p2 p3) = (p1 / (8 : Int32)) := by unfold xL_share; rw [if_neg c_29, if_pos c_107]
      exact W.iret (v := (p1 / (8 : Int32))) hx hb hr (fun t ht hW => ⟨by rw [hX], ht⟩) (fun _ h => by cases h) dL_share_115
  · refine lv_iload hx hb dL_share_32 (lv_at hl 0 rfl) ?_
    refine lv_if_ne (tgt := 95) hx hb dL_share_34 (by decide) (fun c_34 => ?_) (fun c_34 => ?_)
    · refine lv_iload hx hb dL_share_95 (lv_at hl 1 rfl) ?_
      refine lv_iload hx hb dL_share_97 (lv_at hl 1 rfl) ?_
      refine lv_imul hx hb dL_share_99 ?_
      refine lv_iload hx hb dL_share_100 (lv_at hl 0 rfl) ?_
      refine lv_iload hx hb dL_share_102 (lv_at hl 0 rfl) ?_
      refine lv_imul hx hb dL_share_104 ?_
      refine lv_iadd hx hb dL_share_105 ?_
      refine lv_iconst (v := 1) hx hb dL_share_106 (by decide) ?_
      refine lv_icmp_ne (tgt := 114) hx hb dL_share_107 (by decide) (fun c_107 => ?_) (fun c_107 => ?_)
      · refine lv_iconst (v := 0) hx hb dL_share_114 (by decide) ?_
        have hX : (xL_share p1 p2 p3) = (0 : Int32) := by unfold xL_share; rw [if_pos c_29, if_neg c_34, if_neg c_107]
        exact W.iret (v := (0 : Int32)) hx hb hr (fun t ht hW => ⟨by rw [hX], ht⟩) (fun _ h => by cases h) dL_share_115
      · refine lv_iload_n hx hb dL_share_110 rfl (lv_at hl 2 rfl) ?_
        refine lv_goto (tgt := 115) hx hb dL_share_111 (by decide) ?_
        have hX : (xL_share p1 p2 p3) = (p1 / (8 : Int32)) := by unfold xL_share; rw [if_pos c_29, if_neg c_34, if_pos c_107]
        exact W.iret (v := (p1 / (8 : Int32))) hx hb hr (fun t ht hW => ⟨by rw [hX], ht⟩) (fun _ h => by cases h) dL_share_115
    · refine lv_iload_n hx hb dL_share_37 rfl (lv_at hl 4 rfl) ?_
      refine lv_iconst (v := 5) hx hb dL_share_38 (by decide) ?_
      refine lv_icmp_le (tgt := 46) hx hb dL_share_39 (by decide) (fun c_39 => ?_) (fun c_39 => ?_)
      · refine lv_iconst (v := 0) hx hb dL_share_46 (by decide) ?_
        refine lv_iload_n hx hb dL_share_47 rfl (lv_at hl 4 rfl) ?_
        refine lv_bipush (v := 18) hx hb dL_share_48 (by decide) ?_
        refine lv_icmp_ge (tgt := 57) hx hb dL_share_50 (by decide) (fun c_50 => ?_) (fun c_50 => ?_)
        · refine lv_iconst (v := 0) hx hb dL_share_57 (by decide) ?_
          refine lv_iadd hx hb dL_share_58 ?_
          refine lv_iload_n hx hb dL_share_59 rfl (lv_at hl 4 rfl) ?_
          refine lv_bipush (v := 6) hx hb dL_share_60 (by decide) ?_
          refine lv_irem hx hb dL_share_62 (by decide) ?_
          refine lv_if_le (tgt := 70) hx hb dL_share_63 (by decide) (fun c_63 => ?_) (fun c_63 => ?_)
          · refine lv_iconst (v := 0) hx hb dL_share_70 (by decide) ?_
            refine lv_iadd hx hb dL_share_71 ?_
            refine lv_iload_n hx hb dL_share_72 rfl (lv_at hl 4 rfl) ?_
            refine lv_bipush (v := 6) hx hb dL_share_73 (by decide) ?_
            refine lv_irem hx hb dL_share_75 (by decide) ?_
            refine lv_iconst (v := 5) hx hb dL_share_76 (by decide) ?_
            refine lv_icmp_ge (tgt := 84) hx hb dL_share_77 (by decide) (fun c_77 => ?_) (fun c_77 => ?_)
            · refine lv_iconst (v := 0) hx hb dL_share_84 (by decide) ?_
              refine lv_iadd hx hb dL_share_85 ?_
              refine lv_istore (lv' := [(6, .int ((((0 : Int32) + (0 : Int32)) + (0 : Int32)) + (0 : Int32))), (5, .int ((p2 - p2 / (6 : Int32) * (6 : Int32)) - (p3 - p3 / (6 : Int32) * (6 : Int32)))), (4, .int ((p2 / (6 : Int32)) - (p3 / (6 : Int32)))), (3, .int (p1 / (8 : Int32))), (0, .int p1), (1, .int p2), (2, .int p3)]) hx hb dL_share_86 hl (by decide) rfl (fun ls hl => ?_)
              refine lv_iload_n hx hb dL_share_88 rfl (lv_at hl 4 rfl) ?_
              refine lv_iload hx hb dL_share_89 (lv_at hl 0 rfl) ?_
              refine lv_iload_n hx hb dL_share_91 rfl (lv_at hl 3 rfl) ?_
              refine lv_imul hx hb dL_share_92 ?_
              refine lv_isub hx hb dL_share_93 ?_
              have hX : (xL_share p1 p2 p3) = (p1 - (((((0 : Int32) + (0 : Int32)) + (0 : Int32)) + (0 : Int32)) * (p1 / (8 : Int32)))) := by unfold xL_share; rw [if_pos c_29, if_pos c_34, if_pos c_39, if_pos c_50, if_pos c_63, if_pos c_77]
              exact W.iret (v := (p1 - (((((0 : Int32) + (0 : Int32)) + (0 : Int32)) + (0 : Int32)) * (p1 / (8 : Int32))))) hx hb hr (fun t ht hW => ⟨by rw [hX], ht⟩) (fun _ h => by cases h) dL_share_94
            · refine lv_iconst (v := 1) hx hb dL_share_80 (by decide) ?_
              refine lv_goto (tgt := 85) hx hb dL_share_81 (by decide) ?_
              refine lv_iadd hx hb dL_share_85 ?_
              refine lv_istore (lv' := [(6, .int ((((0 : Int32) + (0 : Int32)) + (0 : Int32)) + (1 : Int32))), (5, .int ((p2 - p2 / (6 : Int32) * (6 : Int32)) - (p3 - p3 / (6 : Int32) * (6 : Int32)))), (4, .int ((p2 / (6 : Int32)) - (p3 / (6 : Int32)))), (3, .int (p1 / (8 : Int32))), (0, .int p1), (1, .int p2), (2, .int p3)]) hx hb dL_share_86 hl (by decide) rfl (fun ls hl => ?_)
              refine lv_iload_n hx hb dL_share_88 rfl (lv_at hl 4 rfl) ?_
              refine lv_iload hx hb dL_share_89 (lv_at hl 0 rfl) ?_
              refine lv_iload_n hx hb dL_share_91 rfl (lv_at hl 3 rfl) ?_
              refine lv_imul hx hb dL_share_92 ?_
              refine lv_isub hx hb dL_share_93 ?_
              have hX : (xL_share p1 p2 p3) = (p1 - (((((0 : Int32) + (0 : Int32)) + (0 : Int32)) + (1 : Int32)) * (p1 / (8 : Int32)))) := by unfold xL_share; rw [if_pos c_29, if_pos c_34, if_pos c_39, if_pos c_50, if_pos c_63, if_neg c_77]
              exact W.iret (v := (p1 - (((((0 : Int32) + (0 : Int32)) + (0 : Int32)) + (1 : Int32)) * (p1 / (8 : Int32))))) hx hb hr (fun t ht hW => ⟨by rw [hX], ht⟩) (fun _ h => by cases h) dL_share_94
          · refine lv_iconst (v := 1) hx hb dL_share_66 (by decide) ?_
            refine lv_goto (tgt := 71) hx hb dL_share_67 (by decide) ?_
            refine lv_iadd hx hb dL_share_71 ?_
            refine lv_iload_n hx hb dL_share_72 rfl (lv_at hl 4 rfl) ?_
            refine lv_bipush (v := 6) hx hb dL_share_73 (by decide) ?_
            refine lv_irem hx hb dL_share_75 (by decide) ?_
            refine lv_iconst (v := 5) hx hb dL_share_76 (by decide) ?_
            refine lv_icmp_ge (tgt := 84) hx hb dL_share_77 (by decide) (fun c_77 => ?_) (fun c_77 => ?_)
            · refine lv_iconst (v := 0) hx hb dL_share_84 (by decide) ?_
              refine lv_iadd hx hb dL_share_85 ?_
              refine lv_istore (lv' := [(6, .int ((((0 : Int32) + (0 : Int32)) + (1 : Int32)) + (0 : Int32))), (5, .int ((p2 - p2 / (6 : Int32) * (6 : Int32)) - (p3 - p3 / (6 : Int32) * (6 : Int32)))), (4, .int ((p2 / (6 : Int32)) - (p3 / (6 : Int32)))), (3, .int (p1 / (8 : Int32))), (0, .int p1), (1, .int p2), (2, .int p3)]) hx hb dL_share_86 hl (by decide) rfl (fun ls hl => ?_)
              refine lv_iload_n hx hb dL_share_88 rfl (lv_at hl 4 rfl) ?_
              refine lv_iload hx hb dL_share_89 (lv_at hl 0 rfl) ?_
              refine lv_iload_n hx hb dL_share_91 rfl (lv_at hl 3 rfl) ?_
              refine lv_imul hx hb dL_share_92 ?_
              refine lv_isub hx hb dL_share_93 ?_
              have hX : (xL_share p1 p2 p3) = (p1 - (((((0 : Int32) + (0 : Int32)) + (1 : Int32)) + (0 : Int32)) * (p1 / (8 : Int32)))) := by unfold xL_share; rw [if_pos c_29, if_pos c_34, if_pos c_39, if_pos c_50, if_neg c_63, if_pos c_77]
              exact W.iret (v := (p1 - (((((0 : Int32) + (0 : Int32)) + (1 : Int32)) + (0 : Int32)) * (p1 / (8 : Int32))))) hx hb hr (fun t ht hW => ⟨by rw [hX], ht⟩) (fun _ h => by cases h) dL_share_94
            · refine lv_iconst (v := 1) hx hb dL_share_80 (by decide) ?_
              refine lv_goto (tgt := 85) hx hb dL_share_81 (by decide) ?_
              refine lv_iadd hx hb dL_share_85 ?_
              refine lv_istore (lv' := [(6, .int ((((0 : Int32) + (0 : Int32)) + (1 : Int32)) + (1 : Int32))), (5, .int ((p2 - p2 / (6 : Int32) * (6 : Int32)) - (p3 - p3 / (6 : Int32) * (6 : Int32)))), (4, .int ((p2 / (6 : Int32)) - (p3 / (6 : Int32)))), (3, .int (p1 / (8 : Int32))), (0, .int p1), (1, .int p2), (2, .int p3)]) hx hb dL_share_86 hl (by decide) rfl (fun ls hl => ?_)
              refine lv_iload_n hx hb dL_share_88 rfl (lv_at hl 4 rfl) ?_
              refine lv_iload hx hb dL_share_89 (lv_at hl 0 rfl) ?_
              refine lv_iload_n hx hb dL_share_91 rfl (lv_at hl 3 rfl) ?_
              refine lv_imul hx hb dL_share_92 ?_
              refine lv_isub hx hb dL_share_93 ?_
              have hX : (xL_share p1 p2 p3) = (p1 - (((((0 : Int32) + (0 : Int32)) + (1 : Int32)) + (1 : Int32)) * (p1 / (8 : Int32)))) := by unfold xL_share; rw [if_pos c_29, if_pos c_34, if_pos c_39, if_pos c_50, if_neg c_63, if_neg c_77]
              exact W.iret (v := (p1 - (((((0 : Int32) + (0 : Int32)) + (1 : Int32)) + (1 : Int32)) * (p1 / (8 : Int32))))) hx hb hr (fun t ht hW => ⟨by rw [hX], ht⟩) (fun _ h => by cases h) dL_share_94
        · refine lv_iconst (v := 1) hx hb dL_share_53 (by decide) ?_
          refine lv_goto (tgt := 58) hx hb dL_share_54 (by decide) ?_
          refine lv_iadd hx hb dL_share_58 ?_
          refine lv_iload_n hx hb dL_share_59 rfl (lv_at hl 4 rfl) ?_
          refine lv_bipush (v := 6) hx hb dL_share_60 (by decide) ?_
          refine lv_irem hx hb dL_share_62 (by decide) ?_
          refine lv_if_le (tgt := 70) hx hb dL_share_63 (by decide) (fun c_63 => ?_) (fun c_63 => ?_)
          · refine lv_iconst (v := 0) hx hb dL_share_70 (by decide) ?_
            refine lv_iadd hx hb dL_share_71 ?_
            refine lv_iload_n hx hb dL_share_72 rfl (lv_at hl 4 rfl) ?_
            refine lv_bipush (v := 6) hx hb dL_share_73 (by decide) ?_
            refine lv_irem hx hb dL_share_75 (by decide) ?_
            refine lv_iconst (v := 5) hx hb dL_share_76 (by decide) ?_
            refine lv_icmp_ge (tgt := 84) hx hb dL_share_77 (by decide) (fun c_77 => ?_) (fun c_77 => ?_)
            · refine lv_iconst (v := 0) hx hb dL_share_84 (by decide) ?_
              refine lv_iadd hx hb dL_share_85 ?_
              refine lv_istore (lv' := [(6, .int ((((0 : Int32) + (1 : Int32)) + (0 : Int32)) + (0 : Int32))), (5, .int ((p2 - p2 / (6 : Int32) * (6 : Int32)) - (p3 - p3 / (6 : Int32) * (6 : Int32)))), (4, .int ((p2 / (6 : Int32)) - (p3 / (6 : Int32)))), (3, .int (p1 / (8 : Int32))), (0, .int p1), (1, .int p2), (2, .int p3)]) hx hb dL_share_86 hl (by decide) rfl (fun ls hl => ?_)
              refine lv_iload_n hx hb dL_share_88 rfl (lv_at hl 4 rfl) ?_
              refine lv_iload hx hb dL_share_89 (lv_at hl 0 rfl) ?_
              refine lv_iload_n hx hb dL_share_91 rfl (lv_at hl 3 rfl) ?_
              refine lv_imul hx hb dL_share_92 ?_
              refine lv_isub hx hb dL_share_93 ?_
              have hX : (xL_share p1 p2 p3) = (p1 - (((((0 : Int32) + (1 : Int32)) + (0 : Int32)) + (0 : Int32)) * (p1 / (8 : Int32)))) := by unfold xL_share; rw [if_pos c_29, if_pos c_34, if_pos c_39, if_neg c_50, if_pos c_63, if_pos c_77]
              exact W.iret (v := (p1 - (((((0 : Int32) + (1 : Int32)) + (0 : Int32)) + (0 : Int32)) * (p1 / (8 : Int32))))) hx hb hr (fun t ht hW => ⟨by rw [hX], ht⟩) (fun _ h => by cases h) dL_share_94
            · refine lv_iconst (v := 1) hx hb dL_share_80 (by decide) ?_
              refine lv_goto (tgt := 85) hx hb dL_share_81 (by decide) ?_
              refine lv_iadd hx hb dL_share_85 ?_
              refine lv_istore (lv' := [(6, .int ((((0 : Int32) + (1 : Int32)) + (0 : Int32)) + (1 : Int32))), (5, .int ((p2 - p2 / (6 : Int32) * (6 : Int32)) - (p3 - p3 / (6 : Int32) * (6 : Int32)))), (4, .int ((p2 / (6 : Int32)) - (p3 / (6 : Int32)))), (3, .int (p1 / (8 : Int32))), (0, .int p1), (1, .int p2), (2, .int p3)]) hx hb dL_share_86 hl (by decide) rfl (fun ls hl => ?_)
              refine lv_iload_n hx hb dL_share_88 rfl (lv_at hl 4 rfl) ?_
              refine lv_iload hx hb dL_share_89 (lv_at hl 0 rfl) ?_
              refine lv_iload_n hx hb dL_share_91 rfl (lv_at hl 3 rfl) ?_
              refine lv_imul hx hb dL_share_92 ?_
              refine lv_isub hx hb dL_share_93 ?_
              have hX : (xL_share p1 p2 p3) = (p1 - (((((0 : Int32) + (1 : Int32)) + (0 : Int32)) + (1 : Int32)) * (p1 / (8 : Int32)))) := by unfold xL_share; rw [if_pos c_29, if_pos c_34, if_pos c_39, if_neg c_50, if_pos c_63, if_neg c_77]
              exact W.iret (v := (p1 - (((((0 : Int32) + (1 : Int32)) + (0 : Int32)) + (1 : Int32)) * (p1 / (8 : Int32))))) hx hb hr (fun t ht hW => ⟨by rw [hX], ht⟩) (fun _ h => by cases h) dL_share_94
          · refine lv_iconst (v := 1) hx hb dL_share_66 (by decide) ?_
            refine lv_goto (tgt := 71) hx hb dL_share_67 (by decide) ?_
            refine lv_iadd hx hb dL_share_71 ?_
            refine lv_iload_n hx hb dL_share_72 rfl (lv_at hl 4 rfl) ?_
            refine lv_bipush (v := 6) hx hb dL_share_73 (by decide) ?_
            refine lv_irem hx hb dL_share_75 (by decide) ?_
            refine lv_iconst (v := 5) hx hb dL_share_76 (by decide) ?_
            refine lv_icmp_ge (tgt := 84) hx hb dL_share_77 (by decide) (fun c_77 => ?_) (fun c_77 => ?_)
            · refine lv_iconst (v := 0) hx hb dL_share_84 (by decide) ?_
              refine lv_iadd hx hb dL_share_85 ?_
              refine lv_istore (lv' := [(6, .int ((((0 : Int32) + (1 : Int32)) + (1 : Int32)) + (0 : Int32))), (5, .int ((p2 - p2 / (6 : Int32) * (6 : Int32)) - (p3 - p3 / (6 : Int32) * (6 : Int32)))), (4, .int ((p2 / (6 : Int32)) - (p3 / (6 : Int32)))), (3, .int (p1 / (8 : Int32))), (0, .int p1), (1, .int p2), (2, .int p3)]) hx hb dL_share_86 hl (by decide) rfl (fun ls hl => ?_)
              refine lv_iload_n hx hb dL_share_88 rfl (lv_at hl 4 rfl) ?_
              refine lv_iload hx hb dL_share_89 (lv_at hl 0 rfl) ?_
              refine lv_iload_n hx hb dL_share_91 rfl (lv_at hl 3 rfl) ?_
              refine lv_imul hx hb dL_share_92 ?_
              refine lv_isub hx hb dL_share_93 ?_
              have hX : (xL_share p1 p2 p3) = (p1 - (((((0 : Int32) + (1 : Int32)) + (1 : Int32)) + (0 : Int32)) * (p1 / (8 : Int32)))) := by unfold xL_share; rw [if_pos c_29, if_pos c_34, if_pos c_39, if_neg c_50, if_neg c_63, if_pos c_77]
              exact W.iret (v := (p1 - (((((0 : Int32) + (1 : Int32)) + (1 : Int32)) + (0 : Int32)) * (p1 / (8 : Int32))))) hx hb hr (fun t ht hW => ⟨by rw [hX], ht⟩) (fun _ h => by cases h) dL_share_94
            · refine lv_iconst (v := 1) hx hb dL_share_80 (by decide) ?_
              refine lv_goto (tgt := 85) hx hb dL_share_81 (by decide) ?_
              refine lv_iadd hx hb dL_share_85 ?_
              refine lv_istore (lv' := [(6, .int ((((0 : Int32) + (1 : Int32)) + (1 : Int32)) + (1 : Int32))), (5, .int ((p2 - p2 / (6 : Int32) * (6 : Int32)) - (p3 - p3 / (6 : Int32) * (6 : Int32)))), (4, .int ((p2 / (6 : Int32)) - (p3 / (6 : Int32)))), (3, .int (p1 / (8 : Int32))), (0, .int p1), (1, .int p2), (2, .int p3)]) hx hb dL_share_86 hl (by decide) rfl (fun ls hl => ?_)
              refine lv_iload_n hx hb dL_share_88 rfl (lv_at hl 4 rfl) ?_
              refine lv_iload hx hb dL_share_89 (lv_at hl 0 rfl) ?_
              refine lv_iload_n hx hb dL_share_91 rfl (lv_at hl 3 rfl) ?_
              refine lv_imul hx hb dL_share_92 ?_
              refine lv_isub hx hb dL_share_93 ?_
              have hX : (xL_share p1 p2 p3) = (p1 - (((((0 : Int32) + (1 : Int32)) + (1 : Int32)) + (1 : Int32)) * (p1 / (8 : Int32)))) := by unfold xL_share; rw [if_pos c_29, if_pos c_34, if_pos c_39, if_neg c_50, if_neg c_63, if_neg c_77]
              exact W.iret (v := (p1 - (((((0 : Int32) + (1 : Int32)) + (1 : Int32)) + (1 : Int32)) * (p1 / (8 : Int32))))) hx hb hr (fun t ht hW => ⟨by rw [hX], ht⟩) (fun _ h => by cases h) dL_share_94
      · refine lv_iconst (v := 1) hx hb dL_share_42 (by decide) ?_
        refine lv_goto (tgt := 47) hx hb dL_share_43 (by decide) ?_
        refine lv_iload_n hx hb dL_share_47 rfl (lv_at hl 4 rfl) ?_
        refine lv_bipush (v := 18) hx hb dL_share_48 (by decide) ?_
        refine lv_icmp_ge (tgt := 57) hx hb dL_share_50 (by decide) (fun c_50 => ?_) (fun c_50 => ?_)
        · refine lv_iconst (v := 0) hx hb dL_share_57 (by decide) ?_
          refine lv_iadd hx hb dL_share_58 ?_
          refine lv_iload_n hx hb dL_share_59 rfl (lv_at hl 4 rfl) ?_
          refine lv_bipush (v := 6) hx hb dL_share_60 (by decide) ?_
          refine lv_irem hx hb dL_share_62 (by decide) ?_
          refine lv_if_le (tgt := 70) hx hb dL_share_63 (by decide) (fun c_63 => ?_) (fun c_63 => ?_)
          · refine lv_iconst (v := 0) hx hb dL_share_70 (by decide) ?_
            refine lv_iadd hx hb dL_share_71 ?_
            refine lv_iload_n hx hb dL_share_72 rfl (lv_at hl 4 rfl) ?_
            refine lv_bipush (v := 6) hx hb dL_share_73 (by decide) ?_
            refine lv_irem hx hb dL_share_75 (by decide) ?_
            refine lv_iconst (v := 5) hx hb dL_share_76 (by decide) ?_
            refine lv_icmp_ge (tgt := 84) hx hb dL_share_77 (by decide) (fun c_77 => ?_) (fun c_77 => ?_)
            · refine lv_iconst (v := 0) hx hb dL_share_84 (by decide) ?_
              refine lv_iadd hx hb dL_share_85 ?_
              refine lv_istore (lv' := [(6, .int ((((1 : Int32) + (0 : Int32)) + (0 : Int32)) + (0 : Int32))), (5, .int ((p2 - p2 / (6 : Int32) * (6 : Int32)) - (p3 - p3 / (6 : Int32) * (6 : Int32)))), (4, .int ((p2 / (6 : Int32)) - (p3 / (6 : Int32)))), (3, .int (p1 / (8 : Int32))), (0, .int p1), (1, .int p2), (2, .int p3)]) hx hb dL_share_86 hl (by decide) rfl (fun ls hl => ?_)
              refine lv_iload_n hx hb dL_share_88 rfl (lv_at hl 4 rfl) ?_
              refine lv_iload hx hb dL_share_89 (lv_at hl 0 rfl) ?_
              refine lv_iload_n hx hb dL_share_91 rfl (lv_at hl 3 rfl) ?_
              refine lv_imul hx hb dL_share_92 ?_
              refine lv_isub hx hb dL_share_93 ?_
              have hX : (xL_share p1 p2 p3) = (p1 - (((((1 : Int32) + (0 : Int32)) + (0 : Int32)) + (0 : Int32)) * (p1 / (8 : Int32)))) := by unfold xL_share; rw [if_pos c_29, if_pos c_34, if_neg c_39, if_pos c_50, if_pos c_63, if_pos c_77]
              exact W.iret (v := (p1 - (((((1 : Int32) + (0 : Int32)) + (0 : Int32)) + (0 : Int32)) * (p1 / (8 : Int32))))) hx hb hr (fun t ht hW => ⟨by rw [hX], ht⟩) (fun _ h => by cases h) dL_share_94
            · refine lv_iconst (v := 1) hx hb dL_share_80 (by decide) ?_
              refine lv_goto (tgt := 85) hx hb dL_share_81 (by decide) ?_
              refine lv_iadd hx hb dL_share_85 ?_
              refine lv_istore (lv' := [(6, .int ((((1 : Int32) + (0 : Int32)) + (0 : Int32)) + (1 : Int32))), (5, .int ((p2 - p2 / (6 : Int32) * (6 : Int32)) - (p3 - p3 / (6 : Int32) * (6 : Int32)))), (4, .int ((p2 / (6 : Int32)) - (p3 / (6 : Int32)))), (3, .int (p1 / (8 : Int32))), (0, .int p1), (1, .int p2), (2, .int p3)]) hx hb dL_share_86 hl (by decide) rfl (fun ls hl => ?_)
              refine lv_iload_n hx hb dL_share_88 rfl (lv_at hl 4 rfl) ?_
              refine lv_iload hx hb dL_share_89 (lv_at hl 0 rfl) ?_
              refine lv_iload_n hx hb dL_share_91 rfl (lv_at hl 3 rfl) ?_
              refine lv_imul hx hb dL_share_92 ?_
              refine lv_isub hx hb dL_share_93 ?_
              have hX : (xL_share p1 p2 p3) = (p1 - (((((1 : Int32) + (0 : Int32)) + (0 : Int32)) + (1 : Int32)) * (p1 / (8 : Int32)))) := by unfold xL_share; rw [if_pos c_29, if_pos c_34, if_neg c_39, if_pos c_50, if_pos c_63, if_neg c_77]
              exact W.iret (v := (p1 - (((((1 : Int32) + (0 : Int32)) + (0 : Int32)) + (1 : Int32)) * (p1 / (8 : Int32))))) hx hb hr (fun t ht hW => ⟨by rw [hX], ht⟩) (fun _ h => by cases h) dL_share_94
          · refine lv_iconst (v := 1) hx hb dL_share_66 (by decide) ?_
            refine lv_goto (tgt := 71) hx hb dL_share_67 (by decide) ?_
            refine lv_iadd hx hb dL_share_71 ?_
            refine lv_iload_n hx hb dL_share_72 rfl (lv_at hl 4 rfl) ?_
            refine lv_bipush (v := 6) hx hb dL_share_73 (by decide) ?_
            refine lv_irem hx hb dL_share_75 (by decide) ?_
            refine lv_iconst (v := 5) hx hb dL_share_76 (by decide) ?_
            refine lv_icmp_ge (tgt := 84) hx hb dL_share_77 (by decide) (fun c_77 => ?_) (fun c_77 => ?_)
            · refine lv_iconst (v := 0) hx hb dL_share_84 (by decide) ?_
              refine lv_iadd hx hb dL_share_85 ?_
              refine lv_istore (lv' := [(6, .int ((((1 : Int32) + (0 : Int32)) + (1 : Int32)) + (0 : Int32))), (5, .int ((p2 - p2 / (6 : Int32) * (6 : Int32)) - (p3 - p3 / (6 : Int32) * (6 : Int32)))), (4, .int ((p2 / (6 : Int32)) - (p3 / (6 : Int32)))), (3, .int (p1 / (8 : Int32))), (0, .int p1), (1, .int p2), (2, .int p3)]) hx hb dL_share_86 hl (by decide) rfl (fun ls hl => ?_)
              refine lv_iload_n hx hb dL_share_88 rfl (lv_at hl 4 rfl) ?_
              refine lv_iload hx hb dL_share_89 (lv_at hl 0 rfl) ?_
              refine lv_iload_n hx hb dL_share_91 rfl (lv_at hl 3 rfl) ?_
              refine lv_imul hx hb dL_share_92 ?_
              refine lv_isub hx hb dL_share_93 ?_
              have hX : (xL_share p1 p2 p3) = (p1 - (((((1 : Int32) + (0 : Int32)) + (1 : Int32)) + (0 : Int32)) * (p1 / (8 : Int32)))) := by unfold xL_share; rw [if_pos c_29, if_pos c_34, if_neg c_39, if_pos c_50, if_neg c_63, if_pos c_77]
              exact W.iret (v := (p1 - (((((1 : Int32) + (0 : Int32)) + (1 : Int32)) + (0 : Int32)) * (p1 / (8 : Int32))))) hx hb hr (fun t ht hW => ⟨by rw [hX], ht⟩) (fun _ h => by cases h) dL_share_94
            · refine lv_iconst (v := 1) hx hb dL_share_80 (by decide) ?_
              refine lv_goto (tgt := 85) hx hb dL_share_81 (by decide) ?_
              refine lv_iadd hx hb dL_share_85 ?_
              refine lv_istore (lv' := [(6, .int ((((1 : Int32) + (0 : Int32)) + (1 : Int32)) + (1 : Int32))), (5, .int ((p2 - p2 / (6 : Int32) * (6 : Int32)) - (p3 - p3 / (6 : Int32) * (6 : Int32)))), (4, .int ((p2 / (6 : Int32)) - (p3 / (6 : Int32)))), (3, .int (p1 / (8 : Int32))), (0, .int p1), (1, .int p2), (2, .int p3)]) hx hb dL_share_86 hl (by decide) rfl (fun ls hl => ?_)
              refine lv_iload_n hx hb dL_share_88 rfl (lv_at hl 4 rfl) ?_
              refine lv_iload hx hb dL_share_89 (lv_at hl 0 rfl) ?_
              refine lv_iload_n hx hb dL_share_91 rfl (lv_at hl 3 rfl) ?_
              refine lv_imul hx hb dL_share_92 ?_
              refine lv_isub hx hb dL_share_93 ?_
              have hX : (xL_share p1 p2 p3) = (p1 - (((((1 : Int32) + (0 : Int32)) + (1 : Int32)) + (1 : Int32)) * (p1 / (8 : Int32)))) := by unfold xL_share; rw [if_pos c_29, if_pos c_34, if_neg c_39, if_pos c_50, if_neg c_63, if_neg c_77]
              exact W.iret (v := (p1 - (((((1 : Int32) + (0 : Int32)) + (1 : Int32)) + (1 : Int32)) * (p1 / (8 : Int32))))) hx hb hr (fun t ht hW => ⟨by rw [hX], ht⟩) (fun _ h => by cases h) dL_share_94
        · refine lv_iconst (v := 1) hx hb dL_share_53 (by decide) ?_
          refine lv_goto (tgt := 58) hx hb dL_share_54 (by decide) ?_
          refine lv_iadd hx hb dL_share_58 ?_
          refine lv_iload_n hx hb dL_share_59 rfl (lv_at hl 4 rfl) ?_
          refine lv_bipush (v := 6) hx hb dL_share_60 (by decide) ?_
          refine lv_irem hx hb dL_share_62 (by decide) ?_
          refine lv_if_le (tgt := 70) hx hb dL_share_63 (by decide) (fun c_63 => ?_) (fun c_63 => ?_)
          · refine lv_iconst (v := 0) hx hb dL_share_70 (by decide) ?_
            refine lv_iadd hx hb dL_share_71 ?_
            refine lv_iload_n hx hb dL_share_72 rfl (lv_at hl 4 rfl) ?_
            refine lv_bipush (v := 6) hx hb dL_share_73 (by decide) ?_
            refine lv_irem hx hb dL_share_75 (by decide) ?_
            refine lv_iconst (v := 5) hx hb dL_share_76 (by decide) ?_
            refine lv_icmp_ge (tgt := 84) hx hb dL_share_77 (by decide) (fun c_77 => ?_) (fun c_77 => ?_)
            · refine lv_iconst (v := 0) hx hb dL_share_84 (by decide) ?_
              refine lv_iadd hx hb dL_share_85 ?_
              refine lv_istore (lv' := [(6, .int ((((1 : Int32) + (1 : Int32)) + (0 : Int32)) + (0 : Int32))), (5, .int ((p2 - p2 / (6 : Int32) * (6 : Int32)) - (p3 - p3 / (6 : Int32) * (6 : Int32)))), (4, .int ((p2 / (6 : Int32)) - (p3 / (6 : Int32)))), (3, .int (p1 / (8 : Int32))), (0, .int p1), (1, .int p2), (2, .int p3)]) hx hb dL_share_86 hl (by decide) rfl (fun ls hl => ?_)
              refine lv_iload_n hx hb dL_share_88 rfl (lv_at hl 4 rfl) ?_
              refine lv_iload hx hb dL_share_89 (lv_at hl 0 rfl) ?_
              refine lv_iload_n hx hb dL_share_91 rfl (lv_at hl 3 rfl) ?_
              refine lv_imul hx hb dL_share_92 ?_
              refine lv_isub hx hb dL_share_93 ?_
              have hX : (xL_share p1 p2 p3) = (p1 - (((((1 : Int32) + (1 : Int32)) + (0 : Int32)) + (0 : Int32)) * (p1 / (8 : Int32)))) := by unfold xL_share; rw [if_pos c_29, if_pos c_34, if_neg c_39, if_neg c_50, if_pos c_63, if_pos c_77]
              exact W.iret (v := (p1 - (((((1 : Int32) + (1 : Int32)) + (0 : Int32)) + (0 : Int32)) * (p1 / (8 : Int32))))) hx hb hr (fun t ht hW => ⟨by rw [hX], ht⟩) (fun _ h => by cases h) dL_share_94
            · refine lv_iconst (v := 1) hx hb dL_share_80 (by decide) ?_
              refine lv_goto (tgt := 85) hx hb dL_share_81 (by decide) ?_
              refine lv_iadd hx hb dL_share_85 ?_
              refine lv_istore (lv' := [(6, .int ((((1 : Int32) + (1 : Int32)) + (0 : Int32)) + (1 : Int32))), (5, .int ((p2 - p2 / (6 : Int32) * (6 : Int32)) - (p3 - p3 / (6 : Int32) * (6 : Int32)))), (4, .int ((p2 / (6 : Int32)) - (p3 / (6 : Int32)))), (3, .int (p1 / (8 : Int32))), (0, .int p1), (1, .int p2), (2, .int p3)]) hx hb dL_share_86 hl (by decide) rfl (fun ls hl => ?_)
              refine lv_iload_n hx hb dL_share_88 rfl (lv_at hl 4 rfl) ?_
              refine lv_iload hx hb dL_share_89 (lv_at hl 0 rfl) ?_
              refine lv_iload_n hx hb dL_share_91 rfl (lv_at hl 3 rfl) ?_
              refine lv_imul hx hb dL_share_92 ?_
              refine lv_isub hx hb dL_share_93 ?_
              have hX : (xL_share p1 p2 p3) = (p1 - (((((1 : Int32) + (1 : Int32)) + (0 : Int32)) + (1 : Int32)) * (p1 / (8 : Int32)))) := by unfold xL_share; rw [if_pos c_29, if_pos c_34, if_neg c_39, if_neg c_50, if_pos c_63, if_neg c_77]
              exact W.iret (v := (p1 - (((((1 : Int32) + (1 : Int32)) + (0 : Int32)) + (1 : Int32)) * (p1 / (8 : Int32))))) hx hb hr (fun t ht hW => ⟨by rw [hX], ht⟩) (fun _ h => by cases h) dL_share_94
          · refine lv_iconst (v := 1) hx hb dL_share_66 (by decide) ?_
            refine lv_goto (tgt := 71) hx hb dL_share_67 (by decide) ?_
            refine lv_iadd hx hb dL_share_71 ?_
            refine lv_iload_n hx hb dL_share_72 rfl (lv_at hl 4 rfl) ?_
            refine lv_bipush (v := 6) hx hb dL_share_73 (by decide) ?_
            refine lv_irem hx hb dL_share_75 (by decide) ?_
            refine lv_iconst (v := 5) hx hb dL_share_76 (by decide) ?_
            refine lv_icmp_ge (tgt := 84) hx hb dL_share_77 (by decide) (fun c_77 => ?_) (fun c_77 => ?_)
            · refine lv_iconst (v := 0) hx hb dL_share_84 (by decide) ?_
              refine lv_iadd hx hb dL_share_85 ?_
              refine lv_istore (lv' := [(6, .int ((((1 : Int32) + (1 : Int32)) + (1 : Int32)) + (0 : Int32))), (5, .int ((p2 - p2 / (6 : Int32) * (6 : Int32)) - (p3 - p3 / (6 : Int32) * (6 : Int32)))), (4, .int ((p2 / (6 : Int32)) - (p3 / (6 : Int32)))), (3, .int (p1 / (8 : Int32))), (0, .int p1), (1, .int p2), (2, .int p3)]) hx hb dL_share_86 hl (by decide) rfl (fun ls hl => ?_)
              refine lv_iload_n hx hb dL_share_88 rfl (lv_at hl 4 rfl) ?_
              refine lv_iload hx hb dL_share_89 (lv_at hl 0 rfl) ?_
              refine lv_iload_n hx hb dL_share_91 rfl (lv_at hl 3 rfl) ?_
              refine lv_imul hx hb dL_share_92 ?_
              refine lv_isub hx hb dL_share_93 ?_
              have hX : (xL_share p1 p2 p3) = (p1 - (((((1 : Int32) + (1 : Int32)) + (1 : Int32)) + (0 : Int32)) * (p1 / (8 : Int32)))) := by unfold xL_share; rw [if_pos c_29, if_pos c_34, if_neg c_39, if_neg c_50, if_neg c_63, if_pos c_77]
              exact W.iret (v := (p1 - (((((1 : Int32) + (1 : Int32)) + (1 : Int32)) + (0 : Int32)) * (p1 / (8 : Int32))))) hx hb hr (fun t ht hW => ⟨by rw [hX], ht⟩) (fun _ h => by cases h) dL_share_94
            · refine lv_iconst (v := 1) hx hb dL_share_80 (by decide) ?_
              refine lv_goto (tgt := 85) hx hb dL_share_81 (by decide) ?_
              refine lv_iadd hx hb dL_share_85 ?_
              refine lv_istore (lv' := [(6, .int ((((1 : Int32) + (1 : Int32)) + (1 : Int32)) + (1 : Int32))), (5, .int ((p2 - p2 / (6 : Int32) * (6 : Int32)) - (p3 - p3 / (6 : Int32) * (6 : Int32)))), (4, .int ((p2 / (6 : Int32)) - (p3 / (6 : Int32)))), (3, .int (p1 / (8 : Int32))), (0, .int p1), (1, .int p2), (2, .int p3)]) hx hb dL_share_86 hl (by decide) rfl (fun ls hl => ?_)
              refine lv_iload_n hx hb dL_share_88 rfl (lv_at hl 4 rfl) ?_
              refine lv_iload hx hb dL_share_89 (lv_at hl 0 rfl) ?_
              refine lv_iload_n hx hb dL_share_91 rfl (lv_at hl 3 rfl) ?_
              refine lv_imul hx hb dL_share_92 ?_
              refine lv_isub hx hb dL_share_93 ?_
              have hX : (xL_share p1 p2 p3) = (p1 - (((((1 : Int32) + (1 : Int32)) + (1 : Int32)) + (1 : Int32)) * (p1 / (8 : Int32)))) := by unfold xL_share; rw [if_pos c_29, if_pos c_34, if_neg c_39, if_neg c_50, if_neg c_63, if_neg c_77]
              exact W.iret (v := (p1 - (((((1 : Int32) + (1 : Int32)) + (1 : Int32)) + (1 : Int32)) * (p1 / (8 : Int32))))) hx hb hr (fun t ht hW => ⟨by rw [hX], ht⟩) (fun _ h => by cases h) dL_share_94

def hL_gets_6 (r83 r88 : Nat → Int32) (p3 : Int32) (w4 : Nat) (p5 : Int32) (kw : Nat) : Nat → Nat → Int32 → Int32
  | 0, k, x5 => x5
  | n + 1, k, x5 => (if (r88 ((5 * k) + 1)) < (0 : Int32) then (hL_gets_6 r83 r88 p3 w4 p5 kw n (k + 1) (x5 + (0 : Int32))) else (if (nI k) = p5 then (hL_gets_6 r83 r88 p3 w4 p5 kw n (k + 1) (x5 + (0 : Int32))) else (hL_gets_6 r83 r88 p3 w4 p5 kw n (k + 1) (x5 + (xL_share (r88 ((5 * k) + w4)) (r88 (((5 * k) + w4) + 1)) p3)))))
theorem hL_gets_6_z (r83 r88 : Nat → Int32) (p3 : Int32) (w4 : Nat) (p5 : Int32) (kw : Nat) (k : Nat) (x5 : Int32) : hL_gets_6 r83 r88 p3 w4 p5 kw 0 k x5 = x5 := rfl
theorem hL_gets_6_s (r83 r88 : Nat → Int32) (p3 : Int32) (w4 : Nat) (p5 : Int32) (kw : Nat) (n : Nat) (k : Nat) (x5 : Int32) : hL_gets_6 r83 r88 p3 w4 p5 kw (n + 1) k x5 = (if (r88 ((5 * k) + 1)) < (0 : Int32) then (hL_gets_6 r83 r88 p3 w4 p5 kw n (k + 1) (x5 + (0 : Int32))) else (if (nI k) = p5 then (hL_gets_6 r83 r88 p3 w4 p5 kw n (k + 1) (x5 + (0 : Int32))) else (hL_gets_6 r83 r88 p3 w4 p5 kw n (k + 1) (x5 + (xL_share (r88 ((5 * k) + w4)) (r88 (((5 * k) + w4) + 1)) p3))))) := rfl
def xL_gets (r83 r88 : Nat → Int32) (p3 : Int32) (w4 : Nat) (p5 : Int32) (kw : Nat) : Int32 :=
  (hL_gets_6 r83 r88 p3 w4 p5 kw kw 0 (0 : Int32))
set_option maxHeartbeats 4000000 in
set_option maxRecDepth 100000 in
theorem mL_gets (l : Launch) (D : va_G) (cI cS : ClassId) (ad : Nat → Nat) (hI : Inj ad) (R F : Nat → Nat → Int32) (p3 : Int32) (w4 : Nat) (p5 : Int32) (kw : Nat) (h4 : w4 ≤ 3) (hkw : kw ≤ 8) (hW : R 83 1 = nI kw) : Met l yL_gets wsL_gets ({ frames := 1, cells := 0, slots := 0, locals := 26 }) (PW D cI cS ad R F [.ref (ad 83), .ref (ad 88), .int p3, .int (nI w4), .int p5]) (QS (xL_gets (R 83) (R 88) p3 w4 p5 kw)) 0 0 (fun _ => False) := by
  refine Met.ofW (cc := cL_gets) (maxL := 7) (ret := (some .int)) (by decide) rfl ?_
  intro p e s m args below meth c s₁ B hml hv
  obtain ⟨rfl, hP, hK⟩ := hv
  have hx := B.exec
  have hb := B.bytes
  have hr := B.returns
  have hts := atoms_spec (ws := wsL_gets) B.pre
  have hown : s.vm.findClass RL = some m.cls := findClass_of_methodNamed B.named
  have hlocks := B.notSynchronized
  have hS : va_S (AA ad) s.heap s.heap [] := va_S.rf
  have hl := lv_entry ([.ref (ad 83), .ref (ad 88), .int p3, .int (nI w4), .int p5]) (n := 7) (Nat.le_of_ble_eq_true rfl)
  rw [lg_entry_eq]
  generalize (lg_sl ([.ref (ad 83), .ref (ad 88), .int p3, .int (nI w4), .int p5]) ++ List.replicate (7 - (lg_sl ([.ref (ad 83), .ref (ad 88), .int p3, .int (nI w4), .int p5])).length) Slot.unset).toArray = ls at hl ⊢
  have hl : lv_has ls 7 [(0, .ref (ad 83)), (1, .ref (ad 88)), (2, .int p3), (3, .int (nI w4)), (4, .int p5)] := hl
  refine lv_iconst (v := 0) hx hb dL_gets_0 (by decide) ?_
  refine lv_istore (lv' := [(5, .int (0 : Int32)), (0, .ref (ad 83)), (1, .ref (ad 88)), (2, .int p3), (3, .int (nI w4)), (4, .int p5)]) hx hb dL_gets_1 hl (by decide) rfl (fun ls hl => ?_)
  refine lv_iconst (v := 0) hx hb dL_gets_3 (by decide) ?_
  refine lv_istore (lv' := [(6, .int (0 : Int32)), (5, .int (0 : Int32)), (0, .ref (ad 83)), (1, .ref (ad 88)), (2, .int p3), (3, .int (nI w4)), (4, .int p5)]) hx hb dL_gets_4 hl (by decide) rfl (fun ls hl => ?_)
  refine q_loop (fun nn H locs ls => ∃ (k : Nat) (x5 : Int32), k + nn = kw ∧ hL_gets_6 (R 83) (R 88) p3 w4 p5 kw nn k x5 = (xL_gets (R 83) (R 88) p3 w4 p5 kw) ∧ WP D cI cS ad R F H ∧ locs = [] ∧ H = s.heap ∧ lv_has ls 7 [(6, .int (nI k)), (5, .int x5), (0, .ref (ad 83)), (1, .ref (ad 88)), (2, .int p3), (3, .int (nI w4)), (4, .int p5)]) kw ⟨0, (0 : Int32), by omega, by unfold xL_gets; rfl, hP, rfl, rfl, lv_sub hl [0, 1, 2, 3, 4, 5, 6] rfl⟩ ?_ ?_
  · intro H locs ls hz
    obtain ⟨k, x5, hkn, hsp, hP, rfl, rfl, hl⟩ := hz
    refine lv_iload hx hb dL_gets_6 (lv_at hl 0 rfl) ?_
    refine lv_aload_n hx hb dL_gets_8 rfl (lv_at hl 2 rfl) ?_
    refine lv_iconst (v := 1) hx hb dL_gets_9 (by decide) ?_
    refine q_ildN hx hb hK hP 83 6 (ar_83) 1 dL_gets_10 rfl (by omega) (by decide) ?_
    refine q_top (y := (nI kw)) hW ?_
    refine lv_icmp_ge (tgt := 69) hx hb dL_gets_11 (by decide) (fun c_11 => ?_) (fun c_11 => ?_)
    · refine lv_iload hx hb dL_gets_69 (lv_at hl 1 rfl) ?_
      have hX : (xL_gets (R 83) (R 88) p3 w4 p5 kw) = x5 := by rw [← hsp, hL_gets_6_z]
      exact W.iret (v := x5) hx hb hr (fun t ht hW => ⟨by rw [hX], ht⟩) (fun _ h => by cases h) dL_gets_71
    · exact absurd (nI_le (a := kw) (b := k) (by omega) (by omega)) c_11
  · intro n ih H locs ls hz
    obtain ⟨k, x5, hkn, hsp, hP, rfl, rfl, hl⟩ := hz
    refine lv_iload hx hb dL_gets_6 (lv_at hl 0 rfl) ?_
    refine lv_aload_n hx hb dL_gets_8 rfl (lv_at hl 2 rfl) ?_
    refine lv_iconst (v := 1) hx hb dL_gets_9 (by decide) ?_
    refine q_ildN hx hb hK hP 83 6 (ar_83) 1 dL_gets_10 rfl (by omega) (by decide) ?_
    refine q_top (y := (nI kw)) hW ?_
    refine lv_icmp_ge (tgt := 69) hx hb dL_gets_11 (by decide) (fun c_11 => ?_) (fun c_11 => ?_)
    · exact absurd c_11 (nI_ge (a := k) (b := kw) (by omega) (by omega))
    · refine lv_iload hx hb dL_gets_14 (lv_at hl 1 rfl) ?_
      refine lv_aload_n hx hb dL_gets_16 rfl (lv_at hl 3 rfl) ?_
      refine lv_iconst (v := 5) hx hb dL_gets_17 (by decide) ?_
      refine lv_iload hx hb dL_gets_18 (lv_at hl 0 rfl) ?_
      refine lv_imul hx hb dL_gets_20 ?_
      refine q_top (y := (nI (5 * k))) (pk_mul 5 k) ?_
      refine lv_iconst (v := 1) hx hb dL_gets_21 (by decide) ?_
      refine lv_iadd hx hb dL_gets_22 ?_
      refine q_top (y := (nI ((5 * k) + 1))) (nI_add (5 * k) 1) ?_
      refine q_ildN hx hb hK hP 88 40 (ar_88) ((5 * k) + 1) dL_gets_23 rfl (by omega) (by decide) ?_
      refine lv_if_lt (tgt := 59) hx hb dL_gets_24 (by decide) (fun c_24 => ?_) (fun c_24 => ?_)
      · refine lv_iconst (v := 0) hx hb dL_gets_59 (by decide) ?_
        refine lv_iadd hx hb dL_gets_60 ?_
        refine lv_istore (lv' := [(5, .int (x5 + (0 : Int32))), (6, .int (nI k)), (0, .ref (ad 83)), (1, .ref (ad 88)), (2, .int p3), (3, .int (nI w4)), (4, .int p5)]) hx hb dL_gets_61 hl (by decide) rfl (fun ls hl => ?_)
        refine lv_iinc (v := (nI (k + 1))) (lv' := [(6, .int (nI (k + 1))), (5, .int (x5 + (0 : Int32))), (0, .ref (ad 83)), (1, .ref (ad 88)), (2, .int p3), (3, .int (nI w4)), (4, .int p5)]) hx hb dL_gets_63 hl (k := 1) rfl (nI_1 k) (by decide) rfl (fun ls hl => ?_)
        refine lv_goto (tgt := 6) hx hb dL_gets_66 (by decide) ?_
        exact ih _ _ _ ⟨(k + 1), (x5 + (0 : Int32)), by omega, by rw [← hsp, hL_gets_6_s, if_pos c_24], hP, rfl, rfl, lv_sub hl [0, 1, 2, 3, 4, 5, 6] rfl⟩
      · refine lv_iload hx hb dL_gets_27 (lv_at hl 0 rfl) ?_
        refine lv_iload hx hb dL_gets_29 (lv_at hl 6 rfl) ?_
        refine lv_icmp_eq (tgt := 59) hx hb dL_gets_31 (by decide) (fun c_31 => ?_) (fun c_31 => ?_)
        · refine lv_iconst (v := 0) hx hb dL_gets_59 (by decide) ?_
          refine lv_iadd hx hb dL_gets_60 ?_
          refine lv_istore (lv' := [(5, .int (x5 + (0 : Int32))), (6, .int (nI k)), (0, .ref (ad 83)), (1, .ref (ad 88)), (2, .int p3), (3, .int (nI w4)), (4, .int p5)]) hx hb dL_gets_61 hl (by decide) rfl (fun ls hl => ?_)
          refine lv_iinc (v := (nI (k + 1))) (lv' := [(6, .int (nI (k + 1))), (5, .int (x5 + (0 : Int32))), (0, .ref (ad 83)), (1, .ref (ad 88)), (2, .int p3), (3, .int (nI w4)), (4, .int p5)]) hx hb dL_gets_63 hl (k := 1) rfl (nI_1 k) (by decide) rfl (fun ls hl => ?_)
          refine lv_goto (tgt := 6) hx hb dL_gets_66 (by decide) ?_
          exact ih _ _ _ ⟨(k + 1), (x5 + (0 : Int32)), by omega, by rw [← hsp, hL_gets_6_s, if_neg c_24, if_pos c_31], hP, rfl, rfl, lv_sub hl [0, 1, 2, 3, 4, 5, 6] rfl⟩
        · refine lv_aload_n hx hb dL_gets_34 rfl (lv_at hl 3 rfl) ?_
          refine lv_iconst (v := 5) hx hb dL_gets_35 (by decide) ?_
          refine lv_iload hx hb dL_gets_36 (lv_at hl 0 rfl) ?_
          refine lv_imul hx hb dL_gets_38 ?_
          refine q_top (y := (nI (5 * k))) (pk_mul 5 k) ?_
          refine lv_iload_n hx hb dL_gets_39 rfl (lv_at hl 5 rfl) ?_
          refine lv_iadd hx hb dL_gets_40 ?_
          refine q_top (y := (nI ((5 * k) + w4))) (nI_add (5 * k) w4) ?_
          refine q_ildN hx hb hK hP 88 40 (ar_88) ((5 * k) + w4) dL_gets_41 rfl (by omega) (by decide) ?_
          refine lv_aload_n hx hb dL_gets_42 rfl (lv_at hl 3 rfl) ?_
          refine lv_iconst (v := 5) hx hb dL_gets_43 (by decide) ?_
          refine lv_iload hx hb dL_gets_44 (lv_at hl 0 rfl) ?_
          refine lv_imul hx hb dL_gets_46 ?_
          refine q_top (y := (nI (5 * k))) (pk_mul 5 k) ?_
          refine lv_iload_n hx hb dL_gets_47 rfl (lv_at hl 5 rfl) ?_
          refine lv_iadd hx hb dL_gets_48 ?_
          refine q_top (y := (nI ((5 * k) + w4))) (nI_add (5 * k) w4) ?_
          refine lv_iconst (v := 1) hx hb dL_gets_49 (by decide) ?_
          refine lv_iadd hx hb dL_gets_50 ?_
          refine q_top (y := (nI (((5 * k) + w4) + 1))) (nI_add ((5 * k) + w4) 1) ?_
          refine q_ildN hx hb hK hP 88 40 (ar_88) (((5 * k) + w4) + 1) dL_gets_51 rfl (by omega) (by decide) ?_
          refine lv_iload_n hx hb dL_gets_52 rfl (lv_at hl 4 rfl) ?_
          refine q_callS (va_runS (As := [.int (R 88 ((5 * k) + w4)), .int (R 88 (((5 * k) + w4) + 1)), .int p3]) (rest := [.int x5]) ⟨hx, hb, hml, hown, hts⟩ (mL_share l D cI cS ad hI R F (R 88 ((5 * k) + w4)) (R 88 (((5 * k) + w4) + 1)) p3) (va_cwS 3 hts gL_gets_L_share rfl rfl rfl (by decide +kernel) ⟨Nat.le_of_ble_eq_true rfl, Nat.le_of_ble_eq_true rfl⟩) (PW_preS hK hP) rfl rfl hl.1 rfl (lv_room (Nat.le_of_ble_eq_true rfl)) dL_gets_53 ⟨Nat.zero_le _, Nat.zero_le _⟩) ?_
          refine lv_goto (tgt := 60) hx hb dL_gets_56 (by decide) ?_
          refine lv_iadd hx hb dL_gets_60 ?_
          refine lv_istore (lv' := [(5, .int (x5 + (xL_share (R 88 ((5 * k) + w4)) (R 88 (((5 * k) + w4) + 1)) p3))), (6, .int (nI k)), (0, .ref (ad 83)), (1, .ref (ad 88)), (2, .int p3), (3, .int (nI w4)), (4, .int p5)]) hx hb dL_gets_61 hl (by decide) rfl (fun ls hl => ?_)
          refine lv_iinc (v := (nI (k + 1))) (lv' := [(6, .int (nI (k + 1))), (5, .int (x5 + (xL_share (R 88 ((5 * k) + w4)) (R 88 (((5 * k) + w4) + 1)) p3))), (0, .ref (ad 83)), (1, .ref (ad 88)), (2, .int p3), (3, .int (nI w4)), (4, .int p5)]) hx hb dL_gets_63 hl (k := 1) rfl (nI_1 k) (by decide) rfl (fun ls hl => ?_)
          refine lv_goto (tgt := 6) hx hb dL_gets_66 (by decide) ?_
          exact ih _ _ _ ⟨(k + 1), (x5 + (xL_share (R 88 ((5 * k) + w4)) (R 88 (((5 * k) + w4) + 1)) p3)), by omega, by rw [← hsp, hL_gets_6_s, if_neg c_24, if_neg c_31], hP, rfl, rfl, lv_sub hl [0, 1, 2, 3, 4, 5, 6] rfl⟩

def hL_error_6 (r83 r84 r86 r88 : Nat → Int32) (kw : Nat) : Nat → Nat → Int32 → Int32
  | 0, k, x4 => x4
  | n + 1, k, x4 => (if (0 : Int32) ≤ ((((xL_gets r83 r88 (nI k) 0 (-1 : Int32) kw) + (r84 k)) - (xL_gets r83 r88 (nI k) 2 (-1 : Int32) kw)) - (r86 k)) then (hL_error_6 r83 r84 r86 r88 kw n (k + 1) (x4 + ((((xL_gets r83 r88 (nI k) 0 (-1 : Int32) kw) + (r84 k)) - (xL_gets r83 r88 (nI k) 2 (-1 : Int32) kw)) - (r86 k)))) else (hL_error_6 r83 r84 r86 r88 kw n (k + 1) (x4 + (-((((xL_gets r83 r88 (nI k) 0 (-1 : Int32) kw) + (r84 k)) - (xL_gets r83 r88 (nI k) 2 (-1 : Int32) kw)) - (r86 k))))))
theorem hL_error_6_z (r83 r84 r86 r88 : Nat → Int32) (kw : Nat) (k : Nat) (x4 : Int32) : hL_error_6 r83 r84 r86 r88 kw 0 k x4 = x4 := rfl
theorem hL_error_6_s (r83 r84 r86 r88 : Nat → Int32) (kw : Nat) (n : Nat) (k : Nat) (x4 : Int32) : hL_error_6 r83 r84 r86 r88 kw (n + 1) k x4 = (if (0 : Int32) ≤ ((((xL_gets r83 r88 (nI k) 0 (-1 : Int32) kw) + (r84 k)) - (xL_gets r83 r88 (nI k) 2 (-1 : Int32) kw)) - (r86 k)) then (hL_error_6 r83 r84 r86 r88 kw n (k + 1) (x4 + ((((xL_gets r83 r88 (nI k) 0 (-1 : Int32) kw) + (r84 k)) - (xL_gets r83 r88 (nI k) 2 (-1 : Int32) kw)) - (r86 k)))) else (hL_error_6 r83 r84 r86 r88 kw n (k + 1) (x4 + (-((((xL_gets r83 r88 (nI k) 0 (-1 : Int32) kw) + (r84 k)) - (xL_gets r83 r88 (nI k) 2 (-1 : Int32) kw)) - (r86 k)))))) := rfl
def xL_error (r83 r84 r86 r88 : Nat → Int32) (kw : Nat) : Int32 :=
  (hL_error_6 r83 r84 r86 r88 kw 24 0 (0 : Int32))
set_option maxHeartbeats 4000000 in
set_option maxRecDepth 100000 in
theorem mL_error (l : Launch) (D : va_G) (cI cS : ClassId) (ad : Nat → Nat) (hI : Inj ad) (R F : Nat → Nat → Int32) (kw : Nat) (hkw : kw ≤ 8) (hW : R 83 1 = nI kw) : Met l yL_error wsL_error ({ frames := 2, cells := 0, slots := 0, locals := 52 }) (PW D cI cS ad R F [.ref (ad 83), .ref (ad 84), .ref (ad 86), .ref (ad 88)]) (QS (xL_error (R 83) (R 84) (R 86) (R 88) kw)) 0 0 (fun _ => False) := by
  refine Met.ofW (cc := cL_error) (maxL := 7) (ret := (some .int)) (by decide) rfl ?_
  intro p e s m args below meth c s₁ B hml hv
  obtain ⟨rfl, hP, hK⟩ := hv
  have hx := B.exec
  have hb := B.bytes
  have hr := B.returns
  have hts := atoms_spec (ws := wsL_error) B.pre
  have hown : s.vm.findClass RL = some m.cls := findClass_of_methodNamed B.named
  have hlocks := B.notSynchronized
  have hS : va_S (AA ad) s.heap s.heap [] := va_S.rf
  have hl := lv_entry ([.ref (ad 83), .ref (ad 84), .ref (ad 86), .ref (ad 88)]) (n := 7) (Nat.le_of_ble_eq_true rfl)
  rw [lg_entry_eq]
  generalize (lg_sl ([.ref (ad 83), .ref (ad 84), .ref (ad 86), .ref (ad 88)]) ++ List.replicate (7 - (lg_sl ([.ref (ad 83), .ref (ad 84), .ref (ad 86), .ref (ad 88)])).length) Slot.unset).toArray = ls at hl ⊢
  have hl : lv_has ls 7 [(0, .ref (ad 83)), (1, .ref (ad 84)), (2, .ref (ad 86)), (3, .ref (ad 88))] := hl
  refine lv_iconst (v := 0) hx hb dL_error_0 (by decide) ?_
  refine lv_istore (lv' := [(4, .int (0 : Int32)), (0, .ref (ad 83)), (1, .ref (ad 84)), (2, .ref (ad 86)), (3, .ref (ad 88))]) hx hb dL_error_1 hl (by decide) rfl (fun ls hl => ?_)
  refine lv_iconst (v := 0) hx hb dL_error_3 (by decide) ?_
  refine lv_istore (lv' := [(5, .int (0 : Int32)), (4, .int (0 : Int32)), (0, .ref (ad 83)), (1, .ref (ad 84)), (2, .ref (ad 86)), (3, .ref (ad 88))]) hx hb dL_error_4 hl (by decide) rfl (fun ls hl => ?_)
  refine q_loop (fun nn H locs ls => ∃ (k : Nat) (x4 : Int32), k + nn = 24 ∧ hL_error_6 (R 83) (R 84) (R 86) (R 88) kw nn k x4 = (xL_error (R 83) (R 84) (R 86) (R 88) kw) ∧ WP D cI cS ad R F H ∧ locs = [] ∧ H = s.heap ∧ lv_has ls 7 [(5, .int (nI k)), (4, .int x4), (0, .ref (ad 83)), (1, .ref (ad 84)), (2, .ref (ad 86)), (3, .ref (ad 88))]) 24 ⟨0, (0 : Int32), by omega, by unfold xL_error; rfl, hP, rfl, rfl, lv_sub hl [0, 1, 2, 3, 4, 5] rfl⟩ ?_ ?_
  · intro H locs ls hz
    obtain ⟨k, x4, hkn, hsp, hP, rfl, rfl, hl⟩ := hz
    refine lv_iload hx hb dL_error_6 (lv_at hl 0 rfl) ?_
    refine lv_bipush (v := 24) hx hb dL_error_8 (by decide) ?_
    refine lv_icmp_ge (tgt := 68) hx hb dL_error_10 (by decide) (fun c_10 => ?_) (fun c_10 => ?_)
    · refine lv_iload hx hb dL_error_68 (lv_at hl 1 rfl) ?_
      have hX : (xL_error (R 83) (R 84) (R 86) (R 88) kw) = x4 := by rw [← hsp, hL_error_6_z]
      exact W.iret (v := x4) hx hb hr (fun t ht hW => ⟨by rw [hX], ht⟩) (fun _ h => by cases h) dL_error_70
    · exact absurd (nI_le (a := 24) (b := k) (by omega) (by omega)) c_10
  · intro n ih H locs ls hz
    obtain ⟨k, x4, hkn, hsp, hP, rfl, rfl, hl⟩ := hz
    refine lv_iload hx hb dL_error_6 (lv_at hl 0 rfl) ?_
    refine lv_bipush (v := 24) hx hb dL_error_8 (by decide) ?_
    refine lv_icmp_ge (tgt := 68) hx hb dL_error_10 (by decide) (fun c_10 => ?_) (fun c_10 => ?_)
    · exact absurd c_10 (nI_ge (a := k) (b := 24) (by omega) (by omega))
    · refine lv_aload_n hx hb dL_error_13 rfl (lv_at hl 2 rfl) ?_
      refine lv_aload_n hx hb dL_error_14 rfl (lv_at hl 5 rfl) ?_
      refine lv_iload hx hb dL_error_15 (lv_at hl 0 rfl) ?_
      refine lv_iconst (v := 0) hx hb dL_error_17 (by decide) ?_
      refine lv_iconst (v := -1) hx hb dL_error_18 (by decide) ?_
      refine q_callS (va_runS (As := [.ref (ad 83), .ref (ad 88), .int (nI k), .int (nI 0), .int (-1 : Int32)]) (rest := []) ⟨hx, hb, hml, hown, hts⟩ (mL_gets l D cI cS ad hI R F (nI k) 0 (-1 : Int32) kw (by omega) hkw hW) (va_cwS 5 hts gL_error_L_gets rfl rfl rfl (by decide +kernel) ⟨Nat.le_of_ble_eq_true rfl, Nat.le_of_ble_eq_true rfl⟩) (PW_preS hK hP) rfl rfl hl.1 rfl (lv_room (Nat.le_of_ble_eq_true rfl)) dL_error_19 ⟨Nat.zero_le _, Nat.zero_le _⟩) ?_
      refine lv_aload_n hx hb dL_error_22 rfl (lv_at hl 3 rfl) ?_
      refine lv_iload hx hb dL_error_23 (lv_at hl 0 rfl) ?_
      refine q_ildN hx hb hK hP 84 24 (ar_84) k dL_error_25 rfl (by omega) (by decide) ?_
      refine lv_iadd hx hb dL_error_26 ?_
      refine lv_aload_n hx hb dL_error_27 rfl (lv_at hl 2 rfl) ?_
      refine lv_aload_n hx hb dL_error_28 rfl (lv_at hl 5 rfl) ?_
      refine lv_iload hx hb dL_error_29 (lv_at hl 0 rfl) ?_
      refine lv_iconst (v := 2) hx hb dL_error_31 (by decide) ?_
      refine lv_iconst (v := -1) hx hb dL_error_32 (by decide) ?_
      refine q_callS (va_runS (As := [.ref (ad 83), .ref (ad 88), .int (nI k), .int (nI 2), .int (-1 : Int32)]) (rest := [.int ((xL_gets (R 83) (R 88) (nI k) 0 (-1 : Int32) kw) + (R 84 k))]) ⟨hx, hb, hml, hown, hts⟩ (mL_gets l D cI cS ad hI R F (nI k) 2 (-1 : Int32) kw (by omega) hkw hW) (va_cwS 5 hts gL_error_L_gets rfl rfl rfl (by decide +kernel) ⟨Nat.le_of_ble_eq_true rfl, Nat.le_of_ble_eq_true rfl⟩) (PW_preS hK hP) rfl rfl hl.1 rfl (lv_room (Nat.le_of_ble_eq_true rfl)) dL_error_33 ⟨Nat.zero_le _, Nat.zero_le _⟩) ?_
      refine lv_isub hx hb dL_error_36 ?_
      refine lv_aload_n hx hb dL_error_37 rfl (lv_at hl 4 rfl) ?_
      refine lv_iload hx hb dL_error_38 (lv_at hl 0 rfl) ?_
      refine q_ildN hx hb hK hP 86 24 (ar_86) k dL_error_40 rfl (by omega) (by decide) ?_
      refine lv_isub hx hb dL_error_41 ?_
      refine lv_istore (lv' := [(6, .int ((((xL_gets (R 83) (R 88) (nI k) 0 (-1 : Int32) kw) + (R 84 k)) - (xL_gets (R 83) (R 88) (nI k) 2 (-1 : Int32) kw)) - (R 86 k))), (5, .int (nI k)), (4, .int x4), (0, .ref (ad 83)), (1, .ref (ad 84)), (2, .ref (ad 86)), (3, .ref (ad 88))]) hx hb dL_error_42 hl (by decide) rfl (fun ls hl => ?_)
      refine lv_iload hx hb dL_error_44 (lv_at hl 2 rfl) ?_
      refine lv_iload hx hb dL_error_46 (lv_at hl 0 rfl) ?_
      refine lv_if_ge (tgt := 57) hx hb dL_error_48 (by decide) (fun c_48 => ?_) (fun c_48 => ?_)
      · refine lv_iload hx hb dL_error_57 (lv_at hl 0 rfl) ?_
        refine lv_iadd hx hb dL_error_59 ?_
        refine lv_istore (lv' := [(4, .int (x4 + ((((xL_gets (R 83) (R 88) (nI k) 0 (-1 : Int32) kw) + (R 84 k)) - (xL_gets (R 83) (R 88) (nI k) 2 (-1 : Int32) kw)) - (R 86 k)))), (6, .int ((((xL_gets (R 83) (R 88) (nI k) 0 (-1 : Int32) kw) + (R 84 k)) - (xL_gets (R 83) (R 88) (nI k) 2 (-1 : Int32) kw)) - (R 86 k))), (5, .int (nI k)), (0, .ref (ad 83)), (1, .ref (ad 84)), (2, .ref (ad 86)), (3, .ref (ad 88))]) hx hb dL_error_60 hl (by decide) rfl (fun ls hl => ?_)
        refine lv_iinc (v := (nI (k + 1))) (lv' := [(5, .int (nI (k + 1))), (4, .int (x4 + ((((xL_gets (R 83) (R 88) (nI k) 0 (-1 : Int32) kw) + (R 84 k)) - (xL_gets (R 83) (R 88) (nI k) 2 (-1 : Int32) kw)) - (R 86 k)))), (6, .int ((((xL_gets (R 83) (R 88) (nI k) 0 (-1 : Int32) kw) + (R 84 k)) - (xL_gets (R 83) (R 88) (nI k) 2 (-1 : Int32) kw)) - (R 86 k))), (0, .ref (ad 83)), (1, .ref (ad 84)), (2, .ref (ad 86)), (3, .ref (ad 88))]) hx hb dL_error_62 hl (k := 2) rfl (nI_1 k) (by decide) rfl (fun ls hl => ?_)
        refine lv_goto (tgt := 6) hx hb dL_error_65 (by decide) ?_
        exact ih _ _ _ ⟨(k + 1), (x4 + ((((xL_gets (R 83) (R 88) (nI k) 0 (-1 : Int32) kw) + (R 84 k)) - (xL_gets (R 83) (R 88) (nI k) 2 (-1 : Int32) kw)) - (R 86 k))), by omega, by rw [← hsp, hL_error_6_s, if_pos c_48], hP, rfl, rfl, lv_sub hl [0, 1, 3, 4, 5, 6] rfl⟩
      · refine lv_iload hx hb dL_error_51 (lv_at hl 0 rfl) ?_
        refine lv_ineg hx hb dL_error_53 ?_
        refine lv_goto (tgt := 59) hx hb dL_error_54 (by decide) ?_
        refine lv_iadd hx hb dL_error_59 ?_
        refine lv_istore (lv' := [(4, .int (x4 + (-((((xL_gets (R 83) (R 88) (nI k) 0 (-1 : Int32) kw) + (R 84 k)) - (xL_gets (R 83) (R 88) (nI k) 2 (-1 : Int32) kw)) - (R 86 k))))), (6, .int ((((xL_gets (R 83) (R 88) (nI k) 0 (-1 : Int32) kw) + (R 84 k)) - (xL_gets (R 83) (R 88) (nI k) 2 (-1 : Int32) kw)) - (R 86 k))), (5, .int (nI k)), (0, .ref (ad 83)), (1, .ref (ad 84)), (2, .ref (ad 86)), (3, .ref (ad 88))]) hx hb dL_error_60 hl (by decide) rfl (fun ls hl => ?_)
        refine lv_iinc (v := (nI (k + 1))) (lv' := [(5, .int (nI (k + 1))), (4, .int (x4 + (-((((xL_gets (R 83) (R 88) (nI k) 0 (-1 : Int32) kw) + (R 84 k)) - (xL_gets (R 83) (R 88) (nI k) 2 (-1 : Int32) kw)) - (R 86 k))))), (6, .int ((((xL_gets (R 83) (R 88) (nI k) 0 (-1 : Int32) kw) + (R 84 k)) - (xL_gets (R 83) (R 88) (nI k) 2 (-1 : Int32) kw)) - (R 86 k))), (0, .ref (ad 83)), (1, .ref (ad 84)), (2, .ref (ad 86)), (3, .ref (ad 88))]) hx hb dL_error_62 hl (k := 2) rfl (nI_1 k) (by decide) rfl (fun ls hl => ?_)
        refine lv_goto (tgt := 6) hx hb dL_error_65 (by decide) ?_
        exact ih _ _ _ ⟨(k + 1), (x4 + (-((((xL_gets (R 83) (R 88) (nI k) 0 (-1 : Int32) kw) + (R 84 k)) - (xL_gets (R 83) (R 88) (nI k) 2 (-1 : Int32) kw)) - (R 86 k)))), by omega, by rw [← hsp, hL_error_6_s, if_neg c_48], hP, rfl, rfl, lv_sub hl [0, 1, 3, 4, 5, 6] rfl⟩

def hL_who_6 (r83 r88 : Nat → Int32) (p3 : Int32) (w4 : Nat) (kw : Nat) : Nat → Nat → Int32 → Int32
  | 0, k, x4 => x4
  | n + 1, k, x4 => (if (r88 ((5 * k) + w4)) = p3 then (hL_who_6 r83 r88 p3 w4 kw n (k + 1) (nI k)) else (hL_who_6 r83 r88 p3 w4 kw n (k + 1) x4))
theorem hL_who_6_z (r83 r88 : Nat → Int32) (p3 : Int32) (w4 : Nat) (kw : Nat) (k : Nat) (x4 : Int32) : hL_who_6 r83 r88 p3 w4 kw 0 k x4 = x4 := rfl
theorem hL_who_6_s (r83 r88 : Nat → Int32) (p3 : Int32) (w4 : Nat) (kw : Nat) (n : Nat) (k : Nat) (x4 : Int32) : hL_who_6 r83 r88 p3 w4 kw (n + 1) k x4 = (if (r88 ((5 * k) + w4)) = p3 then (hL_who_6 r83 r88 p3 w4 kw n (k + 1) (nI k)) else (hL_who_6 r83 r88 p3 w4 kw n (k + 1) x4)) := rfl
def xL_who (r83 r88 : Nat → Int32) (p3 : Int32) (w4 : Nat) (kw : Nat) : Int32 :=
  (hL_who_6 r83 r88 p3 w4 kw kw 0 (-1 : Int32))
set_option maxHeartbeats 4000000 in
set_option maxRecDepth 100000 in
theorem mL_who (l : Launch) (D : va_G) (cI cS : ClassId) (ad : Nat → Nat) (hI : Inj ad) (R F : Nat → Nat → Int32) (p3 : Int32) (w4 : Nat) (kw : Nat) (h4 : w4 ≤ 4) (hkw : kw ≤ 8) (hW : R 83 1 = nI kw) : Met l yL_who wsL_who ({ frames := 0, cells := 0, slots := 0, locals := 0 }) (PW D cI cS ad R F [.ref (ad 83), .ref (ad 88), .int p3, .int (nI w4)]) (QS (xL_who (R 83) (R 88) p3 w4 kw)) 0 0 (fun _ => False) := by
  refine Met.ofW (cc := cL_who) (maxL := 6) (ret := (some .int)) (by decide) rfl ?_
  intro p e s m args below meth c s₁ B hml hv
  obtain ⟨rfl, hP, hK⟩ := hv
  have hx := B.exec
  have hb := B.bytes
  have hr := B.returns
  have hts := atoms_spec (ws := wsL_who) B.pre
  have hown : s.vm.findClass RL = some m.cls := findClass_of_methodNamed B.named
  have hlocks := B.notSynchronized
  have hS : va_S (AA ad) s.heap s.heap [] := va_S.rf
  have hl := lv_entry ([.ref (ad 83), .ref (ad 88), .int p3, .int (nI w4)]) (n := 6) (Nat.le_of_ble_eq_true rfl)
  rw [lg_entry_eq]
  generalize (lg_sl ([.ref (ad 83), .ref (ad 88), .int p3, .int (nI w4)]) ++ List.replicate (6 - (lg_sl ([.ref (ad 83), .ref (ad 88), .int p3, .int (nI w4)])).length) Slot.unset).toArray = ls at hl ⊢
  have hl : lv_has ls 6 [(0, .ref (ad 83)), (1, .ref (ad 88)), (2, .int p3), (3, .int (nI w4))] := hl
  refine lv_iconst (v := -1) hx hb dL_who_0 (by decide) ?_
  refine lv_istore (lv' := [(4, .int (-1 : Int32)), (0, .ref (ad 83)), (1, .ref (ad 88)), (2, .int p3), (3, .int (nI w4))]) hx hb dL_who_1 hl (by decide) rfl (fun ls hl => ?_)
  refine lv_iconst (v := 0) hx hb dL_who_3 (by decide) ?_
  refine lv_istore (lv' := [(5, .int (0 : Int32)), (4, .int (-1 : Int32)), (0, .ref (ad 83)), (1, .ref (ad 88)), (2, .int p3), (3, .int (nI w4))]) hx hb dL_who_4 hl (by decide) rfl (fun ls hl => ?_)
  refine q_loop (fun nn H locs ls => ∃ (k : Nat) (x4 : Int32), k + nn = kw ∧ hL_who_6 (R 83) (R 88) p3 w4 kw nn k x4 = (xL_who (R 83) (R 88) p3 w4 kw) ∧ WP D cI cS ad R F H ∧ locs = [] ∧ H = s.heap ∧ lv_has ls 6 [(5, .int (nI k)), (4, .int x4), (0, .ref (ad 83)), (1, .ref (ad 88)), (2, .int p3), (3, .int (nI w4))]) kw ⟨0, (-1 : Int32), by omega, by unfold xL_who; rfl, hP, rfl, rfl, lv_sub hl [0, 1, 2, 3, 4, 5] rfl⟩ ?_ ?_
  · intro H locs ls hz
    obtain ⟨k, x4, hkn, hsp, hP, rfl, rfl, hl⟩ := hz
    refine lv_iload hx hb dL_who_6 (lv_at hl 0 rfl) ?_
    refine lv_aload_n hx hb dL_who_8 rfl (lv_at hl 2 rfl) ?_
    refine lv_iconst (v := 1) hx hb dL_who_9 (by decide) ?_
    refine q_ildN hx hb hK hP 83 6 (ar_83) 1 dL_who_10 rfl (by omega) (by decide) ?_
    refine q_top (y := (nI kw)) hW ?_
    refine lv_icmp_ge (tgt := 41) hx hb dL_who_11 (by decide) (fun c_11 => ?_) (fun c_11 => ?_)
    · refine lv_iload hx hb dL_who_41 (lv_at hl 1 rfl) ?_
      have hX : (xL_who (R 83) (R 88) p3 w4 kw) = x4 := by rw [← hsp, hL_who_6_z]
      exact W.iret (v := x4) hx hb hr (fun t ht hW => ⟨by rw [hX], ht⟩) (fun _ h => by cases h) dL_who_43
    · exact absurd (nI_le (a := kw) (b := k) (by omega) (by omega)) c_11
  · intro n ih H locs ls hz
    obtain ⟨k, x4, hkn, hsp, hP, rfl, rfl, hl⟩ := hz
    refine lv_iload hx hb dL_who_6 (lv_at hl 0 rfl) ?_
    refine lv_aload_n hx hb dL_who_8 rfl (lv_at hl 2 rfl) ?_
    refine lv_iconst (v := 1) hx hb dL_who_9 (by decide) ?_
    refine q_ildN hx hb hK hP 83 6 (ar_83) 1 dL_who_10 rfl (by omega) (by decide) ?_
    refine q_top (y := (nI kw)) hW ?_
    refine lv_icmp_ge (tgt := 41) hx hb dL_who_11 (by decide) (fun c_11 => ?_) (fun c_11 => ?_)
    · exact absurd c_11 (nI_ge (a := k) (b := kw) (by omega) (by omega))
    · refine lv_aload_n hx hb dL_who_14 rfl (lv_at hl 3 rfl) ?_
      refine lv_iconst (v := 5) hx hb dL_who_15 (by decide) ?_
      refine lv_iload hx hb dL_who_16 (lv_at hl 0 rfl) ?_
      refine lv_imul hx hb dL_who_18 ?_
      refine q_top (y := (nI (5 * k))) (pk_mul 5 k) ?_
      refine lv_iload_n hx hb dL_who_19 rfl (lv_at hl 5 rfl) ?_
      refine lv_iadd hx hb dL_who_20 ?_
      refine q_top (y := (nI ((5 * k) + w4))) (nI_add (5 * k) w4) ?_
      refine q_ildN hx hb hK hP 88 40 (ar_88) ((5 * k) + w4) dL_who_21 rfl (by omega) (by decide) ?_
      refine lv_iload_n hx hb dL_who_22 rfl (lv_at hl 4 rfl) ?_
      refine lv_icmp_ne (tgt := 31) hx hb dL_who_23 (by decide) (fun c_23 => ?_) (fun c_23 => ?_)
      · refine lv_iload hx hb dL_who_31 (lv_at hl 1 rfl) ?_
        refine lv_istore (lv' := [(4, .int x4), (5, .int (nI k)), (0, .ref (ad 83)), (1, .ref (ad 88)), (2, .int p3), (3, .int (nI w4))]) hx hb dL_who_33 hl (by decide) rfl (fun ls hl => ?_)
        refine lv_iinc (v := (nI (k + 1))) (lv' := [(5, .int (nI (k + 1))), (4, .int x4), (0, .ref (ad 83)), (1, .ref (ad 88)), (2, .int p3), (3, .int (nI w4))]) hx hb dL_who_35 hl (k := 1) rfl (nI_1 k) (by decide) rfl (fun ls hl => ?_)
        refine lv_goto (tgt := 6) hx hb dL_who_38 (by decide) ?_
        exact ih _ _ _ ⟨(k + 1), x4, by omega, by rw [← hsp, hL_who_6_s, if_neg c_23], hP, rfl, rfl, lv_sub hl [0, 1, 2, 3, 4, 5] rfl⟩
      · refine lv_iload hx hb dL_who_26 (lv_at hl 0 rfl) ?_
        refine lv_goto (tgt := 33) hx hb dL_who_28 (by decide) ?_
        refine lv_istore (lv' := [(4, .int (nI k)), (5, .int (nI k)), (0, .ref (ad 83)), (1, .ref (ad 88)), (2, .int p3), (3, .int (nI w4))]) hx hb dL_who_33 hl (by decide) rfl (fun ls hl => ?_)
        refine lv_iinc (v := (nI (k + 1))) (lv' := [(5, .int (nI (k + 1))), (4, .int (nI k)), (0, .ref (ad 83)), (1, .ref (ad 88)), (2, .int p3), (3, .int (nI w4))]) hx hb dL_who_35 hl (k := 1) rfl (nI_1 k) (by decide) rfl (fun ls hl => ?_)
        refine lv_goto (tgt := 6) hx hb dL_who_38 (by decide) ?_
        exact ih _ _ _ ⟨(k + 1), (nI k), by omega, by rw [← hsp, hL_who_6_s, if_pos c_23], hP, rfl, rfl, lv_sub hl [0, 1, 2, 3, 4, 5] rfl⟩

def hL_estimate_6 (r83 r84 r86 r88 : Nat → Int32) (w5 : Nat) (kw : Nat) : Nat → Nat → Int32 → Int32
  | 0, k, x5 => (if x5 ≤ (0 : Int32) then (0 : Int32) else x5)
  | n + 1, k, x5 => (if (xL_share (8 : Int32) (r88 ((5 * w5) + 3)) (nI k)) ≤ (0 : Int32) then (hL_estimate_6 r83 r84 r86 r88 w5 kw n (k + 1) x5) else (hL_estimate_6 r83 r84 r86 r88 w5 kw n (k + 1) (x5 + ((((xL_gets r83 r88 (nI k) 0 (-1 : Int32) kw) + (r84 k)) - (r86 k)) - (xL_gets r83 r88 (nI k) 2 (nI w5) kw)))))
theorem hL_estimate_6_z (r83 r84 r86 r88 : Nat → Int32) (w5 : Nat) (kw : Nat) (k : Nat) (x5 : Int32) : hL_estimate_6 r83 r84 r86 r88 w5 kw 0 k x5 = (if x5 ≤ (0 : Int32) then (0 : Int32) else x5) := rfl
theorem hL_estimate_6_s (r83 r84 r86 r88 : Nat → Int32) (w5 : Nat) (kw : Nat) (n : Nat) (k : Nat) (x5 : Int32) : hL_estimate_6 r83 r84 r86 r88 w5 kw (n + 1) k x5 = (if (xL_share (8 : Int32) (r88 ((5 * w5) + 3)) (nI k)) ≤ (0 : Int32) then (hL_estimate_6 r83 r84 r86 r88 w5 kw n (k + 1) x5) else (hL_estimate_6 r83 r84 r86 r88 w5 kw n (k + 1) (x5 + ((((xL_gets r83 r88 (nI k) 0 (-1 : Int32) kw) + (r84 k)) - (r86 k)) - (xL_gets r83 r88 (nI k) 2 (nI w5) kw))))) := rfl
def xL_estimate (r83 r84 r86 r88 : Nat → Int32) (w5 : Nat) (kw : Nat) : Int32 :=
  (hL_estimate_6 r83 r84 r86 r88 w5 kw 24 0 (0 : Int32))
set_option maxHeartbeats 4000000 in
set_option maxRecDepth 100000 in
theorem mL_estimate (l : Launch) (D : va_G) (cI cS : ClassId) (ad : Nat → Nat) (hI : Inj ad) (R F : Nat → Nat → Int32) (w5 : Nat) (kw : Nat) (h5 : w5 < 8) (hkw : kw ≤ 8) (hW : R 83 1 = nI kw) : Met l yL_estimate wsL_estimate ({ frames := 2, cells := 0, slots := 0, locals := 52 }) (PW D cI cS ad R F [.ref (ad 83), .ref (ad 84), .ref (ad 86), .ref (ad 88), .int (nI w5)]) (QS (xL_estimate (R 83) (R 84) (R 86) (R 88) w5 kw)) 0 0 (fun _ => False) := by
  refine Met.ofW (cc := cL_estimate) (maxL := 7) (ret := (some .int)) (by decide) rfl ?_
  intro p e s m args below meth c s₁ B hml hv
  obtain ⟨rfl, hP, hK⟩ := hv
  have hx := B.exec
  have hb := B.bytes
  have hr := B.returns
  have hts := atoms_spec (ws := wsL_estimate) B.pre
  have hown : s.vm.findClass RL = some m.cls := findClass_of_methodNamed B.named
  have hlocks := B.notSynchronized
  have hS : va_S (AA ad) s.heap s.heap [] := va_S.rf
  have hl := lv_entry ([.ref (ad 83), .ref (ad 84), .ref (ad 86), .ref (ad 88), .int (nI w5)]) (n := 7) (Nat.le_of_ble_eq_true rfl)
  rw [lg_entry_eq]
  generalize (lg_sl ([.ref (ad 83), .ref (ad 84), .ref (ad 86), .ref (ad 88), .int (nI w5)]) ++ List.replicate (7 - (lg_sl ([.ref (ad 83), .ref (ad 84), .ref (ad 86), .ref (ad 88), .int (nI w5)])).length) Slot.unset).toArray = ls at hl ⊢
  have hl : lv_has ls 7 [(0, .ref (ad 83)), (1, .ref (ad 84)), (2, .ref (ad 86)), (3, .ref (ad 88)), (4, .int (nI w5))] := hl
  refine lv_iconst (v := 0) hx hb dL_estimate_0 (by decide) ?_
  refine lv_istore (lv' := [(5, .int (0 : Int32)), (0, .ref (ad 83)), (1, .ref (ad 84)), (2, .ref (ad 86)), (3, .ref (ad 88)), (4, .int (nI w5))]) hx hb dL_estimate_1 hl (by decide) rfl (fun ls hl => ?_)
  refine lv_iconst (v := 0) hx hb dL_estimate_3 (by decide) ?_
  refine lv_istore (lv' := [(6, .int (0 : Int32)), (5, .int (0 : Int32)), (0, .ref (ad 83)), (1, .ref (ad 84)), (2, .ref (ad 86)), (3, .ref (ad 88)), (4, .int (nI w5))]) hx hb dL_estimate_4 hl (by decide) rfl (fun ls hl => ?_)
  refine q_loop (fun nn H locs ls => ∃ (k : Nat) (x5 : Int32), k + nn = 24 ∧ hL_estimate_6 (R 83) (R 84) (R 86) (R 88) w5 kw nn k x5 = (xL_estimate (R 83) (R 84) (R 86) (R 88) w5 kw) ∧ WP D cI cS ad R F H ∧ locs = [] ∧ H = s.heap ∧ lv_has ls 7 [(6, .int (nI k)), (5, .int x5), (0, .ref (ad 83)), (1, .ref (ad 84)), (2, .ref (ad 86)), (3, .ref (ad 88)), (4, .int (nI w5))]) 24 ⟨0, (0 : Int32), by omega, by unfold xL_estimate; rfl, hP, rfl, rfl, lv_sub hl [0, 1, 2, 3, 4, 5, 6] rfl⟩ ?_ ?_
  · intro H locs ls hz
    obtain ⟨k, x5, hkn, hsp, hP, rfl, rfl, hl⟩ := hz
    refine lv_iload hx hb dL_estimate_6 (lv_at hl 0 rfl) ?_
    refine lv_bipush (v := 24) hx hb dL_estimate_8 (by decide) ?_
    refine lv_icmp_ge (tgt := 72) hx hb dL_estimate_10 (by decide) (fun c_10 => ?_) (fun c_10 => ?_)
    · refine lv_iload hx hb dL_estimate_72 (lv_at hl 1 rfl) ?_
      refine lv_if_le (tgt := 82) hx hb dL_estimate_74 (by decide) (fun c_74 => ?_) (fun c_74 => ?_)
      · refine lv_iconst (v := 0) hx hb dL_estimate_82 (by decide) ?_
        have hX : (xL_estimate (R 83) (R 84) (R 86) (R 88) w5 kw) = (0 : Int32) := by rw [← hsp, hL_estimate_6_z, if_pos c_74]
        exact W.iret (v := (0 : Int32)) hx hb hr (fun t ht hW => ⟨by rw [hX], ht⟩) (fun _ h => by cases h) dL_estimate_83
      · refine lv_iload hx hb dL_estimate_77 (lv_at hl 1 rfl) ?_
        refine lv_goto (tgt := 83) hx hb dL_estimate_79 (by decide) ?_
        have hX : (xL_estimate (R 83) (R 84) (R 86) (R 88) w5 kw) = x5 := by rw [← hsp, hL_estimate_6_z, if_neg c_74]
        exact W.iret (v := x5) hx hb hr (fun t ht hW => ⟨by rw [hX], ht⟩) (fun _ h => by cases h) dL_estimate_83
    · exact absurd (nI_le (a := 24) (b := k) (by omega) (by omega)) c_10
  · intro n ih H locs ls hz
    obtain ⟨k, x5, hkn, hsp, hP, rfl, rfl, hl⟩ := hz
    refine lv_iload hx hb dL_estimate_6 (lv_at hl 0 rfl) ?_
    refine lv_bipush (v := 24) hx hb dL_estimate_8 (by decide) ?_
    refine lv_icmp_ge (tgt := 72) hx hb dL_estimate_10 (by decide) (fun c_10 => ?_) (fun c_10 => ?_)
    · exact absurd c_10 (nI_ge (a := k) (b := 24) (by omega) (by omega))
    · refine lv_bipush (v := 8) hx hb dL_estimate_13 (by decide) ?_
      refine lv_aload_n hx hb dL_estimate_15 rfl (lv_at hl 5 rfl) ?_
      refine lv_iconst (v := 5) hx hb dL_estimate_16 (by decide) ?_
      refine lv_iload hx hb dL_estimate_17 (lv_at hl 6 rfl) ?_
      refine lv_imul hx hb dL_estimate_19 ?_
      refine q_top (y := (nI (5 * w5))) (pk_mul 5 w5) ?_
      refine lv_iconst (v := 3) hx hb dL_estimate_20 (by decide) ?_
      refine lv_iadd hx hb dL_estimate_21 ?_
      refine q_top (y := (nI ((5 * w5) + 3))) (nI_add (5 * w5) 3) ?_
      refine q_ildN hx hb hK hP 88 40 (ar_88) ((5 * w5) + 3) dL_estimate_22 rfl (by omega) (by decide) ?_
      refine lv_iload hx hb dL_estimate_23 (lv_at hl 0 rfl) ?_
      refine q_callS (va_runS (As := [.int (8 : Int32), .int (R 88 ((5 * w5) + 3)), .int (nI k)]) (rest := []) ⟨hx, hb, hml, hown, hts⟩ (mL_share l D cI cS ad hI R F (8 : Int32) (R 88 ((5 * w5) + 3)) (nI k)) (va_cwS 3 hts gL_estimate_L_share rfl rfl rfl (by decide +kernel) ⟨Nat.le_of_ble_eq_true rfl, Nat.le_of_ble_eq_true rfl⟩) (PW_preS hK hP) rfl rfl hl.1 rfl (lv_room (Nat.le_of_ble_eq_true rfl)) dL_estimate_25 ⟨Nat.zero_le _, Nat.zero_le _⟩) ?_
      refine lv_if_le (tgt := 66) hx hb dL_estimate_28 (by decide) (fun c_28 => ?_) (fun c_28 => ?_)
      · refine lv_iinc (v := (nI (k + 1))) (lv' := [(6, .int (nI (k + 1))), (5, .int x5), (0, .ref (ad 83)), (1, .ref (ad 84)), (2, .ref (ad 86)), (3, .ref (ad 88)), (4, .int (nI w5))]) hx hb dL_estimate_66 hl (k := 0) rfl (nI_1 k) (by decide) rfl (fun ls hl => ?_)
        refine lv_goto (tgt := 6) hx hb dL_estimate_69 (by decide) ?_
        exact ih _ _ _ ⟨(k + 1), x5, by omega, by rw [← hsp, hL_estimate_6_s, if_pos c_28], hP, rfl, rfl, lv_sub hl [0, 1, 2, 3, 4, 5, 6] rfl⟩
      · refine lv_iload hx hb dL_estimate_31 (lv_at hl 1 rfl) ?_
        refine lv_aload_n hx hb dL_estimate_33 rfl (lv_at hl 2 rfl) ?_
        refine lv_aload_n hx hb dL_estimate_34 rfl (lv_at hl 5 rfl) ?_
        refine lv_iload hx hb dL_estimate_35 (lv_at hl 0 rfl) ?_
        refine lv_iconst (v := 0) hx hb dL_estimate_37 (by decide) ?_
        refine lv_iconst (v := -1) hx hb dL_estimate_38 (by decide) ?_
        refine q_callS (va_runS (As := [.ref (ad 83), .ref (ad 88), .int (nI k), .int (nI 0), .int (-1 : Int32)]) (rest := [.int x5]) ⟨hx, hb, hml, hown, hts⟩ (mL_gets l D cI cS ad hI R F (nI k) 0 (-1 : Int32) kw (by omega) hkw hW) (va_cwS 5 hts gL_estimate_L_gets rfl rfl rfl (by decide +kernel) ⟨Nat.le_of_ble_eq_true rfl, Nat.le_of_ble_eq_true rfl⟩) (PW_preS hK hP) rfl rfl hl.1 rfl (lv_room (Nat.le_of_ble_eq_true rfl)) dL_estimate_39 ⟨Nat.zero_le _, Nat.zero_le _⟩) ?_
        refine lv_aload_n hx hb dL_estimate_42 rfl (lv_at hl 3 rfl) ?_
        refine lv_iload hx hb dL_estimate_43 (lv_at hl 0 rfl) ?_
        refine q_ildN hx hb hK hP 84 24 (ar_84) k dL_estimate_45 rfl (by omega) (by decide) ?_
        refine lv_iadd hx hb dL_estimate_46 ?_
        refine lv_aload_n hx hb dL_estimate_47 rfl (lv_at hl 4 rfl) ?_
        refine lv_iload hx hb dL_estimate_48 (lv_at hl 0 rfl) ?_
        refine q_ildN hx hb hK hP 86 24 (ar_86) k dL_estimate_50 rfl (by omega) (by decide) ?_
        refine lv_isub hx hb dL_estimate_51 ?_
        refine lv_aload_n hx hb dL_estimate_52 rfl (lv_at hl 2 rfl) ?_
        refine lv_aload_n hx hb dL_estimate_53 rfl (lv_at hl 5 rfl) ?_
        refine lv_iload hx hb dL_estimate_54 (lv_at hl 0 rfl) ?_
        refine lv_iconst (v := 2) hx hb dL_estimate_56 (by decide) ?_
        refine lv_iload hx hb dL_estimate_57 (lv_at hl 6 rfl) ?_
        refine q_callS (va_runS (As := [.ref (ad 83), .ref (ad 88), .int (nI k), .int (nI 2), .int (nI w5)]) (rest := [.int (((xL_gets (R 83) (R 88) (nI k) 0 (-1 : Int32) kw) + (R 84 k)) - (R 86 k)), .int x5]) ⟨hx, hb, hml, hown, hts⟩ (mL_gets l D cI cS ad hI R F (nI k) 2 (nI w5) kw (by omega) hkw hW) (va_cwS 5 hts gL_estimate_L_gets rfl rfl rfl (by decide +kernel) ⟨Nat.le_of_ble_eq_true rfl, Nat.le_of_ble_eq_true rfl⟩) (PW_preS hK hP) rfl rfl hl.1 rfl (lv_room (Nat.le_of_ble_eq_true rfl)) dL_estimate_59 ⟨Nat.zero_le _, Nat.zero_le _⟩) ?_
        refine lv_isub hx hb dL_estimate_62 ?_
        refine lv_iadd hx hb dL_estimate_63 ?_
        refine lv_istore (lv' := [(5, .int (x5 + ((((xL_gets (R 83) (R 88) (nI k) 0 (-1 : Int32) kw) + (R 84 k)) - (R 86 k)) - (xL_gets (R 83) (R 88) (nI k) 2 (nI w5) kw)))), (6, .int (nI k)), (0, .ref (ad 83)), (1, .ref (ad 84)), (2, .ref (ad 86)), (3, .ref (ad 88)), (4, .int (nI w5))]) hx hb dL_estimate_64 hl (by decide) rfl (fun ls hl => ?_)
        refine lv_iinc (v := (nI (k + 1))) (lv' := [(6, .int (nI (k + 1))), (5, .int (x5 + ((((xL_gets (R 83) (R 88) (nI k) 0 (-1 : Int32) kw) + (R 84 k)) - (R 86 k)) - (xL_gets (R 83) (R 88) (nI k) 2 (nI w5) kw)))), (0, .ref (ad 83)), (1, .ref (ad 84)), (2, .ref (ad 86)), (3, .ref (ad 88)), (4, .int (nI w5))]) hx hb dL_estimate_66 hl (k := 1) rfl (nI_1 k) (by decide) rfl (fun ls hl => ?_)
        refine lv_goto (tgt := 6) hx hb dL_estimate_69 (by decide) ?_
        exact ih _ _ _ ⟨(k + 1), (x5 + ((((xL_gets (R 83) (R 88) (nI k) 0 (-1 : Int32) kw) + (R 84 k)) - (R 86 k)) - (xL_gets (R 83) (R 88) (nI k) 2 (nI w5) kw))), by omega, by rw [← hsp, hL_estimate_6_s, if_neg c_28], hP, rfl, rfl, lv_sub hl [0, 1, 2, 3, 4, 5, 6] rfl⟩

def hL_oldest_6 (r87 : Nat → Int32) (p2 : Int32) : Nat → Nat → Int32 → Int32
  | 0, k, x2 => x2
  | n + 1, k, x2 => (if (xL_share (8 : Int32) p2 (nI k)) ≤ (0 : Int32) then (hL_oldest_6 r87 p2 n (k + 1) x2) else (if x2 ≤ (r87 k) then (hL_oldest_6 r87 p2 n (k + 1) x2) else (hL_oldest_6 r87 p2 n (k + 1) (r87 k))))
theorem hL_oldest_6_z (r87 : Nat → Int32) (p2 : Int32) (k : Nat) (x2 : Int32) : hL_oldest_6 r87 p2 0 k x2 = x2 := rfl
theorem hL_oldest_6_s (r87 : Nat → Int32) (p2 : Int32) (n : Nat) (k : Nat) (x2 : Int32) : hL_oldest_6 r87 p2 (n + 1) k x2 = (if (xL_share (8 : Int32) p2 (nI k)) ≤ (0 : Int32) then (hL_oldest_6 r87 p2 n (k + 1) x2) else (if x2 ≤ (r87 k) then (hL_oldest_6 r87 p2 n (k + 1) x2) else (hL_oldest_6 r87 p2 n (k + 1) (r87 k)))) := rfl
def xL_oldest (r87 : Nat → Int32) (p2 : Int32) : Int32 :=
  (hL_oldest_6 r87 p2 24 0 (9999 : Int32))
set_option maxHeartbeats 4000000 in
set_option maxRecDepth 100000 in
theorem mL_oldest (l : Launch) (D : va_G) (cI cS : ClassId) (ad : Nat → Nat) (hI : Inj ad) (R F : Nat → Nat → Int32) (p2 : Int32) : Met l yL_oldest wsL_oldest ({ frames := 1, cells := 0, slots := 0, locals := 26 }) (PW D cI cS ad R F [.ref (ad 87), .int p2]) (QS (xL_oldest (R 87) p2)) 0 0 (fun _ => False) := by
  refine Met.ofW (cc := cL_oldest) (maxL := 4) (ret := (some .int)) (by decide) rfl ?_
  intro p e s m args below meth c s₁ B hml hv
  obtain ⟨rfl, hP, hK⟩ := hv
  have hx := B.exec
  have hb := B.bytes
  have hr := B.returns
  have hts := atoms_spec (ws := wsL_oldest) B.pre
  have hown : s.vm.findClass RL = some m.cls := findClass_of_methodNamed B.named
  have hlocks := B.notSynchronized
  have hS : va_S (AA ad) s.heap s.heap [] := va_S.rf
  have hl := lv_entry ([.ref (ad 87), .int p2]) (n := 4) (Nat.le_of_ble_eq_true rfl)
  rw [lg_entry_eq]
  generalize (lg_sl ([.ref (ad 87), .int p2]) ++ List.replicate (4 - (lg_sl ([.ref (ad 87), .int p2])).length) Slot.unset).toArray = ls at hl ⊢
  have hl : lv_has ls 4 [(0, .ref (ad 87)), (1, .int p2)] := hl
  refine lv_sipush (v := 9999) hx hb dL_oldest_0 (by decide) ?_
  refine lv_istore_n (lv' := [(2, .int (9999 : Int32)), (0, .ref (ad 87)), (1, .int p2)]) hx hb dL_oldest_3 rfl hl (by decide) rfl (fun ls hl => ?_)
  refine lv_iconst (v := 0) hx hb dL_oldest_4 (by decide) ?_
  refine lv_istore_n (lv' := [(3, .int (0 : Int32)), (2, .int (9999 : Int32)), (0, .ref (ad 87)), (1, .int p2)]) hx hb dL_oldest_5 rfl hl (by decide) rfl (fun ls hl => ?_)
  refine q_loop (fun nn H locs ls => ∃ (k : Nat) (x2 : Int32), k + nn = 24 ∧ hL_oldest_6 (R 87) p2 nn k x2 = (xL_oldest (R 87) p2) ∧ WP D cI cS ad R F H ∧ locs = [] ∧ H = s.heap ∧ lv_has ls 4 [(3, .int (nI k)), (2, .int x2), (0, .ref (ad 87)), (1, .int p2)]) 24 ⟨0, (9999 : Int32), by omega, by unfold xL_oldest; rfl, hP, rfl, rfl, lv_sub hl [0, 1, 2, 3] rfl⟩ ?_ ?_
  · intro H locs ls hz
    obtain ⟨k, x2, hkn, hsp, hP, rfl, rfl, hl⟩ := hz
    refine lv_iload_n hx hb dL_oldest_6 rfl (lv_at hl 0 rfl) ?_
    refine lv_bipush (v := 24) hx hb dL_oldest_7 (by decide) ?_
    refine lv_icmp_ge (tgt := 43) hx hb dL_oldest_9 (by decide) (fun c_9 => ?_) (fun c_9 => ?_)
    · refine lv_iload_n hx hb dL_oldest_43 rfl (lv_at hl 1 rfl) ?_
      have hX : (xL_oldest (R 87) p2) = x2 := by rw [← hsp, hL_oldest_6_z]
      exact W.iret (v := x2) hx hb hr (fun t ht hW => ⟨by rw [hX], ht⟩) (fun _ h => by cases h) dL_oldest_44
    · exact absurd (nI_le (a := 24) (b := k) (by omega) (by omega)) c_9
  · intro n ih H locs ls hz
    obtain ⟨k, x2, hkn, hsp, hP, rfl, rfl, hl⟩ := hz
    refine lv_iload_n hx hb dL_oldest_6 rfl (lv_at hl 0 rfl) ?_
    refine lv_bipush (v := 24) hx hb dL_oldest_7 (by decide) ?_
    refine lv_icmp_ge (tgt := 43) hx hb dL_oldest_9 (by decide) (fun c_9 => ?_) (fun c_9 => ?_)
    · exact absurd c_9 (nI_ge (a := k) (b := 24) (by omega) (by omega))
    · refine lv_bipush (v := 8) hx hb dL_oldest_12 (by decide) ?_
      refine lv_iload_n hx hb dL_oldest_14 rfl (lv_at hl 3 rfl) ?_
      refine lv_iload_n hx hb dL_oldest_15 rfl (lv_at hl 0 rfl) ?_
      refine q_callS (va_runS (As := [.int (8 : Int32), .int p2, .int (nI k)]) (rest := []) ⟨hx, hb, hml, hown, hts⟩ (mL_share l D cI cS ad hI R F (8 : Int32) p2 (nI k)) (va_cwS 3 hts gL_oldest_L_share rfl rfl rfl (by decide +kernel) ⟨Nat.le_of_ble_eq_true rfl, Nat.le_of_ble_eq_true rfl⟩) (PW_preS hK hP) rfl rfl hl.1 rfl (lv_room (Nat.le_of_ble_eq_true rfl)) dL_oldest_16 ⟨Nat.zero_le _, Nat.zero_le _⟩) ?_
      refine lv_if_le (tgt := 35) hx hb dL_oldest_19 (by decide) (fun c_19 => ?_) (fun c_19 => ?_)
      · refine lv_iload_n hx hb dL_oldest_35 rfl (lv_at hl 1 rfl) ?_
        refine lv_istore_n (lv' := [(2, .int x2), (3, .int (nI k)), (0, .ref (ad 87)), (1, .int p2)]) hx hb dL_oldest_36 rfl hl (by decide) rfl (fun ls hl => ?_)
        refine lv_iinc (v := (nI (k + 1))) (lv' := [(3, .int (nI (k + 1))), (2, .int x2), (0, .ref (ad 87)), (1, .int p2)]) hx hb dL_oldest_37 hl (k := 1) rfl (nI_1 k) (by decide) rfl (fun ls hl => ?_)
        refine lv_goto (tgt := 6) hx hb dL_oldest_40 (by decide) ?_
        exact ih _ _ _ ⟨(k + 1), x2, by omega, by rw [← hsp, hL_oldest_6_s, if_pos c_19], hP, rfl, rfl, lv_sub hl [0, 1, 2, 3] rfl⟩
      · refine lv_aload_n hx hb dL_oldest_22 rfl (lv_at hl 2 rfl) ?_
        refine lv_iload_n hx hb dL_oldest_23 rfl (lv_at hl 0 rfl) ?_
        refine q_ildN hx hb hK hP 87 24 (ar_87) k dL_oldest_24 rfl (by omega) (by decide) ?_
        refine lv_iload_n hx hb dL_oldest_25 rfl (lv_at hl 1 rfl) ?_
        refine lv_icmp_ge (tgt := 35) hx hb dL_oldest_26 (by decide) (fun c_26 => ?_) (fun c_26 => ?_)
        · refine lv_iload_n hx hb dL_oldest_35 rfl (lv_at hl 1 rfl) ?_
          refine lv_istore_n (lv' := [(2, .int x2), (3, .int (nI k)), (0, .ref (ad 87)), (1, .int p2)]) hx hb dL_oldest_36 rfl hl (by decide) rfl (fun ls hl => ?_)
          refine lv_iinc (v := (nI (k + 1))) (lv' := [(3, .int (nI (k + 1))), (2, .int x2), (0, .ref (ad 87)), (1, .int p2)]) hx hb dL_oldest_37 hl (k := 1) rfl (nI_1 k) (by decide) rfl (fun ls hl => ?_)
          refine lv_goto (tgt := 6) hx hb dL_oldest_40 (by decide) ?_
          exact ih _ _ _ ⟨(k + 1), x2, by omega, by rw [← hsp, hL_oldest_6_s, if_neg c_19, if_pos c_26], hP, rfl, rfl, lv_sub hl [0, 1, 2, 3] rfl⟩
        · refine lv_aload_n hx hb dL_oldest_29 rfl (lv_at hl 2 rfl) ?_
          refine lv_iload_n hx hb dL_oldest_30 rfl (lv_at hl 0 rfl) ?_
          refine q_ildN hx hb hK hP 87 24 (ar_87) k dL_oldest_31 rfl (by omega) (by decide) ?_
          refine lv_goto (tgt := 36) hx hb dL_oldest_32 (by decide) ?_
          refine lv_istore_n (lv' := [(2, .int (R 87 k)), (3, .int (nI k)), (0, .ref (ad 87)), (1, .int p2)]) hx hb dL_oldest_36 rfl hl (by decide) rfl (fun ls hl => ?_)
          refine lv_iinc (v := (nI (k + 1))) (lv' := [(3, .int (nI (k + 1))), (2, .int (R 87 k)), (0, .ref (ad 87)), (1, .int p2)]) hx hb dL_oldest_37 hl (k := 1) rfl (nI_1 k) (by decide) rfl (fun ls hl => ?_)
          refine lv_goto (tgt := 6) hx hb dL_oldest_40 (by decide) ?_
          exact ih _ _ _ ⟨(k + 1), (R 87 k), by omega, by rw [← hsp, hL_oldest_6_s, if_neg c_19, if_neg c_26], hP, rfl, rfl, lv_sub hl [0, 1, 2, 3] rfl⟩

def xL_certainty (r83 r87 r88 : Nat → Int32) (w4 : Nat) : Int32 :=
  (if (((100 : Int32) - (((r83 0) - (xL_oldest r87 (r88 ((5 * w4) + 3)))) * (5 : Int32))) - ((r88 ((5 * w4) + 4)) * (10 : Int32))) ≤ (0 : Int32) then (0 : Int32) else (((100 : Int32) - (((r83 0) - (xL_oldest r87 (r88 ((5 * w4) + 3)))) * (5 : Int32))) - ((r88 ((5 * w4) + 4)) * (10 : Int32))))
set_option maxHeartbeats 4000000 in
set_option maxRecDepth 100000 in
theorem mL_certainty (l : Launch) (D : va_G) (cI cS : ClassId) (ad : Nat → Nat) (hI : Inj ad) (R F : Nat → Nat → Int32) (w4 : Nat) (h4 : w4 < 8) : Met l yL_certainty wsL_certainty ({ frames := 2, cells := 0, slots := 0, locals := 49 }) (PW D cI cS ad R F [.ref (ad 83), .ref (ad 87), .ref (ad 88), .int (nI w4)]) (QS (xL_certainty (R 83) (R 87) (R 88) w4)) 0 0 (fun _ => False) := by
  refine Met.ofW (cc := cL_certainty) (maxL := 5) (ret := (some .int)) (by decide) rfl ?_
  intro p e s m args below meth c s₁ B hml hv
  obtain ⟨rfl, hP, hK⟩ := hv
  have hx := B.exec
  have hb := B.bytes
  have hr := B.returns
  have hts := atoms_spec (ws := wsL_certainty) B.pre
  have hown : s.vm.findClass RL = some m.cls := findClass_of_methodNamed B.named
  have hlocks := B.notSynchronized
  have hS : va_S (AA ad) s.heap s.heap [] := va_S.rf
  have hl := lv_entry ([.ref (ad 83), .ref (ad 87), .ref (ad 88), .int (nI w4)]) (n := 5) (Nat.le_of_ble_eq_true rfl)
  rw [lg_entry_eq]
  generalize (lg_sl ([.ref (ad 83), .ref (ad 87), .ref (ad 88), .int (nI w4)]) ++ List.replicate (5 - (lg_sl ([.ref (ad 83), .ref (ad 87), .ref (ad 88), .int (nI w4)])).length) Slot.unset).toArray = ls at hl ⊢
  have hl : lv_has ls 5 [(0, .ref (ad 83)), (1, .ref (ad 87)), (2, .ref (ad 88)), (3, .int (nI w4))] := hl
  refine lv_bipush (v := 100) hx hb dL_certainty_0 (by decide) ?_
  refine lv_aload_n hx hb dL_certainty_2 rfl (lv_at hl 0 rfl) ?_
  refine lv_iconst (v := 0) hx hb dL_certainty_3 (by decide) ?_
  refine q_ildN hx hb hK hP 83 6 (ar_83) 0 dL_certainty_4 rfl (by omega) (by decide) ?_
  refine lv_aload_n hx hb dL_certainty_5 rfl (lv_at hl 1 rfl) ?_
  refine lv_aload_n hx hb dL_certainty_6 rfl (lv_at hl 2 rfl) ?_
  refine lv_iconst (v := 5) hx hb dL_certainty_7 (by decide) ?_
  refine lv_iload_n hx hb dL_certainty_8 rfl (lv_at hl 3 rfl) ?_
  refine lv_imul hx hb dL_certainty_9 ?_
  refine q_top (y := (nI (5 * w4))) (pk_mul 5 w4) ?_
  refine lv_iconst (v := 3) hx hb dL_certainty_10 (by decide) ?_
  refine lv_iadd hx hb dL_certainty_11 ?_
  refine q_top (y := (nI ((5 * w4) + 3))) (nI_add (5 * w4) 3) ?_
  refine q_ildN hx hb hK hP 88 40 (ar_88) ((5 * w4) + 3) dL_certainty_12 rfl (by omega) (by decide) ?_
  refine q_callS (va_runS (As := [.ref (ad 87), .int (R 88 ((5 * w4) + 3))]) (rest := [.int (R 83 0), .int (100 : Int32)]) ⟨hx, hb, hml, hown, hts⟩ (mL_oldest l D cI cS ad hI R F (R 88 ((5 * w4) + 3))) (va_cwS 2 hts gL_certainty_L_oldest rfl rfl rfl (by decide +kernel) ⟨Nat.le_of_ble_eq_true rfl, Nat.le_of_ble_eq_true rfl⟩) (PW_preS hK hP) rfl rfl hl.1 rfl (lv_room (Nat.le_of_ble_eq_true rfl)) dL_certainty_13 ⟨Nat.zero_le _, Nat.zero_le _⟩) ?_
  refine lv_isub hx hb dL_certainty_16 ?_
  refine lv_iconst (v := 5) hx hb dL_certainty_17 (by decide) ?_
  refine lv_imul hx hb dL_certainty_18 ?_
  refine lv_isub hx hb dL_certainty_19 ?_
  refine lv_aload_n hx hb dL_certainty_20 rfl (lv_at hl 2 rfl) ?_
  refine lv_iconst (v := 5) hx hb dL_certainty_21 (by decide) ?_
  refine lv_iload_n hx hb dL_certainty_22 rfl (lv_at hl 3 rfl) ?_
  refine lv_imul hx hb dL_certainty_23 ?_
  refine q_top (y := (nI (5 * w4))) (pk_mul 5 w4) ?_
  refine lv_iconst (v := 4) hx hb dL_certainty_24 (by decide) ?_
  refine lv_iadd hx hb dL_certainty_25 ?_
  refine q_top (y := (nI ((5 * w4) + 4))) (nI_add (5 * w4) 4) ?_
  refine q_ildN hx hb hK hP 88 40 (ar_88) ((5 * w4) + 4) dL_certainty_26 rfl (by omega) (by decide) ?_
  refine lv_bipush (v := 10) hx hb dL_certainty_27 (by decide) ?_
  refine lv_imul hx hb dL_certainty_29 ?_
  refine lv_isub hx hb dL_certainty_30 ?_
  refine lv_istore (lv' := [(4, .int (((100 : Int32) - (((R 83 0) - (xL_oldest (R 87) (R 88 ((5 * w4) + 3)))) * (5 : Int32))) - ((R 88 ((5 * w4) + 4)) * (10 : Int32)))), (0, .ref (ad 83)), (1, .ref (ad 87)), (2, .ref (ad 88)), (3, .int (nI w4))]) hx hb dL_certainty_31 hl (by decide) rfl (fun ls hl => ?_)
  refine lv_iload hx hb dL_certainty_33 (lv_at hl 0 rfl) ?_
  refine lv_if_le (tgt := 43) hx hb dL_certainty_35 (by decide) (fun c_35 => ?_) (fun c_35 => ?_)
  · refine lv_iconst (v := 0) hx hb dL_certainty_43 (by decide) ?_
    have hX : (xL_certainty (R 83) (R 87) (R 88) w4) = (0 : Int32) := by unfold xL_certainty; rw [if_pos c_35]
    exact W.iret (v := (0 : Int32)) hx hb hr (fun t ht hW => ⟨by rw [hX], ht⟩) (fun _ h => by cases h) dL_certainty_44
  · refine lv_iload hx hb dL_certainty_38 (lv_at hl 0 rfl) ?_
    refine lv_goto (tgt := 44) hx hb dL_certainty_40 (by decide) ?_
    have hX : (xL_certainty (R 83) (R 87) (R 88) w4) = (((100 : Int32) - (((R 83 0) - (xL_oldest (R 87) (R 88 ((5 * w4) + 3)))) * (5 : Int32))) - ((R 88 ((5 * w4) + 4)) * (10 : Int32))) := by unfold xL_certainty; rw [if_neg c_35]
    exact W.iret (v := (((100 : Int32) - (((R 83 0) - (xL_oldest (R 87) (R 88 ((5 * w4) + 3)))) * (5 : Int32))) - ((R 88 ((5 * w4) + 4)) * (10 : Int32)))) hx hb hr (fun t ht hW => ⟨by rw [hX], ht⟩) (fun _ h => by cases h) dL_certainty_44

