abbrev rm_X2_isLetter : Room := { frames := 0, cells := 0, slots := 0, locals := 0 }
set_option maxHeartbeats 4000000 in
set_option maxRecDepth 100000 in
theorem c_X2_isLetter (l : Launch) (dC : Nat → ClassId) (dI : Nat → Nat → Nat) (cI cJ cZ cO : ClassId) (i_0 : Int32) (res : Int32) (hf : f_X2_isLetter i_0 = res) : Met l yX2_isLetter wsX2_isLetter rm_X2_isLetter (va_Pc [.int i_0] (fun U => va_P (dC, dI) vwCl [] U.heap ∧ va_K (dC, dI) vwCl [(cI, .int), (cJ, .long), (cZ, .boolean), (cO, .object RX1)] U)) (vp_Si (fun r => r = res)) 0 0 (fun _ => False) := by
  refine Met.ofW (cc := cX2_isLetter) (maxL := 1) (ret := (some .boolean)) (by decide) rfl ?_
  intro p e s m args below meth c s₁ B hml hv
  obtain ⟨rfl, hP, hK⟩ := hv
  have hx := B.exec
  have hb := B.bytes
  have hr := B.returns
  have hts := atoms_spec (ws := wsX2_isLetter) B.pre
  have hown : s.vm.findClass RX2 = some m.cls := findClass_of_methodNamed B.named
  have hlocks := B.notSynchronized
  have hl := lv_entry ([.int i_0]) (n := 1) (Nat.le_of_ble_eq_true rfl)
  rw [lg_entry_eq]
  generalize (lg_sl ([.int i_0]) ++ List.replicate (1 - (lg_sl ([.int i_0])).length) Slot.unset).toArray = ls at hl ⊢
  have hl : lv_has ls 1 [(0, .int i_0)] := hl
  refine W_gen (fun Q hQ => ?_)
  unfold f_X2_isLetter at hf
  refine lv_iload_n hx hb dX2_isLetter_0 rfl (lv_at hl 0 rfl) ?_
  refine lv_bipush (v := 97) hx hb dX2_isLetter_1 (by decide) ?_
  refine lv_icmp_lt (tgt := 16) hx hb dX2_isLetter_3 (by decide) (fun c_3 => ?_) (fun c_3 => ?_)
  · have hf := (if_pos c_3).symm.trans hf
    refine lv_iconst (v := 0) hx hb dX2_isLetter_16 (by decide) ?_
    rw [hQ]; exact W.zret (v := 0) hx hb hr rfl (fun t ht hW => ⟨0, rfl, hf, ht⟩) (fun _ h => absurd h List.not_mem_nil) dX2_isLetter_17
  have hf := (if_neg c_3).symm.trans hf
  refine lv_iload_n hx hb dX2_isLetter_6 rfl (lv_at hl 0 rfl) ?_
  refine lv_bipush (v := 122) hx hb dX2_isLetter_7 (by decide) ?_
  refine lv_icmp_gt (tgt := 16) hx hb dX2_isLetter_9 (by decide) (fun c_9 => ?_) (fun c_9 => ?_)
  · have hf := (if_pos c_9).symm.trans hf
    refine lv_iconst (v := 0) hx hb dX2_isLetter_16 (by decide) ?_
    rw [hQ]; exact W.zret (v := 0) hx hb hr rfl (fun t ht hW => ⟨0, rfl, hf, ht⟩) (fun _ h => absurd h List.not_mem_nil) dX2_isLetter_17
  have hf := (if_neg c_9).symm.trans hf
  refine lv_iconst (v := 1) hx hb dX2_isLetter_12 (by decide) ?_
  refine lv_goto (tgt := 17) hx hb dX2_isLetter_13 (by decide) ?_
  rw [hQ]; exact W.zret (v := 1) hx hb hr rfl (fun t ht hW => ⟨1, rfl, hf, ht⟩) (fun _ h => absurd h List.not_mem_nil) dX2_isLetter_17
abbrev rm_X2_isDigit : Room := { frames := 0, cells := 0, slots := 0, locals := 0 }
set_option maxHeartbeats 4000000 in
set_option maxRecDepth 100000 in
theorem c_X2_isDigit (l : Launch) (dC : Nat → ClassId) (dI : Nat → Nat → Nat) (cI cJ cZ cO : ClassId) (i_0 : Int32) (res : Int32) (hf : f_X2_isDigit i_0 = res) : Met l yX2_isDigit wsX2_isDigit rm_X2_isDigit (va_Pc [.int i_0] (fun U => va_P (dC, dI) vwCl [] U.heap ∧ va_K (dC, dI) vwCl [(cI, .int), (cJ, .long), (cZ, .boolean), (cO, .object RX1)] U)) (vp_Si (fun r => r = res)) 0 0 (fun _ => False) := by
  refine Met.ofW (cc := cX2_isDigit) (maxL := 1) (ret := (some .boolean)) (by decide) rfl ?_
  intro p e s m args below meth c s₁ B hml hv
  obtain ⟨rfl, hP, hK⟩ := hv
  have hx := B.exec
  have hb := B.bytes
  have hr := B.returns
  have hts := atoms_spec (ws := wsX2_isDigit) B.pre
  have hown : s.vm.findClass RX2 = some m.cls := findClass_of_methodNamed B.named
  have hlocks := B.notSynchronized
  have hl := lv_entry ([.int i_0]) (n := 1) (Nat.le_of_ble_eq_true rfl)
  rw [lg_entry_eq]
  generalize (lg_sl ([.int i_0]) ++ List.replicate (1 - (lg_sl ([.int i_0])).length) Slot.unset).toArray = ls at hl ⊢
  have hl : lv_has ls 1 [(0, .int i_0)] := hl
  refine W_gen (fun Q hQ => ?_)
  unfold f_X2_isDigit at hf
  refine lv_iload_n hx hb dX2_isDigit_0 rfl (lv_at hl 0 rfl) ?_
  refine lv_bipush (v := 48) hx hb dX2_isDigit_1 (by decide) ?_
  refine lv_icmp_lt (tgt := 16) hx hb dX2_isDigit_3 (by decide) (fun c_3 => ?_) (fun c_3 => ?_)
  · have hf := (if_pos c_3).symm.trans hf
    refine lv_iconst (v := 0) hx hb dX2_isDigit_16 (by decide) ?_
    rw [hQ]; exact W.zret (v := 0) hx hb hr rfl (fun t ht hW => ⟨0, rfl, hf, ht⟩) (fun _ h => absurd h List.not_mem_nil) dX2_isDigit_17
  have hf := (if_neg c_3).symm.trans hf
  refine lv_iload_n hx hb dX2_isDigit_6 rfl (lv_at hl 0 rfl) ?_
  refine lv_bipush (v := 57) hx hb dX2_isDigit_7 (by decide) ?_
  refine lv_icmp_gt (tgt := 16) hx hb dX2_isDigit_9 (by decide) (fun c_9 => ?_) (fun c_9 => ?_)
  · have hf := (if_pos c_9).symm.trans hf
    refine lv_iconst (v := 0) hx hb dX2_isDigit_16 (by decide) ?_
    rw [hQ]; exact W.zret (v := 0) hx hb hr rfl (fun t ht hW => ⟨0, rfl, hf, ht⟩) (fun _ h => absurd h List.not_mem_nil) dX2_isDigit_17
  have hf := (if_neg c_9).symm.trans hf
  refine lv_iconst (v := 1) hx hb dX2_isDigit_12 (by decide) ?_
  refine lv_goto (tgt := 17) hx hb dX2_isDigit_13 (by decide) ?_
  rw [hQ]; exact W.zret (v := 1) hx hb hr rfl (fun t ht hW => ⟨1, rfl, hf, ht⟩) (fun _ h => absurd h List.not_mem_nil) dX2_isDigit_17
abbrev rm_X2_placeBehindDigit : Room := { frames := 0, cells := 0, slots := 0, locals := 0 }
set_option maxHeartbeats 4000000 in
set_option maxRecDepth 100000 in
theorem c_X2_placeBehindDigit (l : Launch) (dC : Nat → ClassId) (dI : Nat → Nat → Nat) (cI cJ cZ cO : ClassId) (i_0 : Int32) (i_1 : Int32) (res : Int32) (hf : f_X2_placeBehindDigit i_0 i_1 = res) : Met l yX2_placeBehindDigit wsX2_placeBehindDigit rm_X2_placeBehindDigit (va_Pc [.int i_0, .int i_1] (fun U => va_P (dC, dI) vwCl [] U.heap ∧ va_K (dC, dI) vwCl [(cI, .int), (cJ, .long), (cZ, .boolean), (cO, .object RX1)] U)) (vp_Si (fun r => r = res)) 0 0 (fun _ => False) := by
  refine Met.ofW (cc := cX2_placeBehindDigit) (maxL := 2) (ret := (some .int)) (by decide) rfl ?_
  intro p e s m args below meth c s₁ B hml hv
  obtain ⟨rfl, hP, hK⟩ := hv
  have hx := B.exec
  have hb := B.bytes
  have hr := B.returns
  have hts := atoms_spec (ws := wsX2_placeBehindDigit) B.pre
  have hown : s.vm.findClass RX2 = some m.cls := findClass_of_methodNamed B.named
  have hlocks := B.notSynchronized
  have hl := lv_entry ([.int i_0, .int i_1]) (n := 2) (Nat.le_of_ble_eq_true rfl)
  rw [lg_entry_eq]
  generalize (lg_sl ([.int i_0, .int i_1]) ++ List.replicate (2 - (lg_sl ([.int i_0, .int i_1])).length) Slot.unset).toArray = ls at hl ⊢
  have hl : lv_has ls 2 [(0, .int i_0), (1, .int i_1)] := hl
  refine W_gen (fun Q hQ => ?_)
  unfold f_X2_placeBehindDigit at hf
  refine lv_iload_n hx hb dX2_placeBehindDigit_0 rfl (lv_at hl 0 rfl) ?_
  refine lv_bipush (v := 8) hx hb dX2_placeBehindDigit_1 (by decide) ?_
  have jp_35 : ∀ (ls : Array Slot) (hf : J_X2_placeBehindDigit_35 i_0 i_1 = res) (hl : lv_has ls 2 [(0, .int i_0), (1, .int i_1)]), W p l e (headSpec wsX2_placeBehindDigit rm_X2_placeBehindDigit).room s m ([.int i_0, .int i_1] : List Value).toArray below meth c s.heap [] 0 0 Q (F0 m 35 ls []) := by
    intro ls hf hl
    unfold J_X2_placeBehindDigit_35 at hf
    refine lv_iload_n hx hb dX2_placeBehindDigit_35 rfl (lv_at hl 0 rfl) ?_
    refine lv_bipush (v := 9) hx hb dX2_placeBehindDigit_36 (by decide) ?_
    refine lv_icmp_eq (tgt := 53) hx hb dX2_placeBehindDigit_38 (by decide) (fun c_38 => ?_) (fun c_38 => ?_)
    · have hf := (if_pos c_38).symm.trans hf
      refine lv_bipush (v := 11) hx hb dX2_placeBehindDigit_53 (by decide) ?_
      refine lv_goto (tgt := 60) hx hb dX2_placeBehindDigit_55 (by decide) ?_
      rw [hQ]; exact W.iret (v := 11) hx hb hr (fun t ht hW => ⟨11, rfl, hf, ht⟩) (fun _ h => absurd h List.not_mem_nil) dX2_placeBehindDigit_60
    have hf := (if_neg c_38).symm.trans hf
    refine lv_iload_n hx hb dX2_placeBehindDigit_41 rfl (lv_at hl 0 rfl) ?_
    refine lv_bipush (v := 10) hx hb dX2_placeBehindDigit_42 (by decide) ?_
    refine lv_icmp_ne (tgt := 58) hx hb dX2_placeBehindDigit_44 (by decide) (fun c_44 => ?_) (fun c_44 => ?_)
    · have hf := (if_neg c_44).symm.trans hf
      refine lv_bipush (v := 12) hx hb dX2_placeBehindDigit_58 (by decide) ?_
      rw [hQ]; exact W.iret (v := 12) hx hb hr (fun t ht hW => ⟨12, rfl, hf, ht⟩) (fun _ h => absurd h List.not_mem_nil) dX2_placeBehindDigit_60
    have hf := (if_pos c_44).symm.trans hf
    refine lv_iload_n hx hb dX2_placeBehindDigit_47 rfl (lv_at hl 1 rfl) ?_
    refine lv_bipush (v := 48) hx hb dX2_placeBehindDigit_48 (by decide) ?_
    refine lv_icmp_ne (tgt := 58) hx hb dX2_placeBehindDigit_50 (by decide) (fun c_50 => ?_) (fun c_50 => ?_)
    · have hf := (if_neg c_50).symm.trans hf
      refine lv_bipush (v := 12) hx hb dX2_placeBehindDigit_58 (by decide) ?_
      rw [hQ]; exact W.iret (v := 12) hx hb hr (fun t ht hW => ⟨12, rfl, hf, ht⟩) (fun _ h => absurd h List.not_mem_nil) dX2_placeBehindDigit_60
    have hf := (if_pos c_50).symm.trans hf
    refine lv_bipush (v := 11) hx hb dX2_placeBehindDigit_53 (by decide) ?_
    refine lv_goto (tgt := 60) hx hb dX2_placeBehindDigit_55 (by decide) ?_
    rw [hQ]; exact W.iret (v := 11) hx hb hr (fun t ht hW => ⟨11, rfl, hf, ht⟩) (fun _ h => absurd h List.not_mem_nil) dX2_placeBehindDigit_60
  refine lv_icmp_ne (tgt := 35) hx hb dX2_placeBehindDigit_3 (by decide) (fun c_3 => ?_) (fun c_3 => ?_)
  · have hf := (if_neg c_3).symm.trans hf
    exact jp_35 ls hf (lv_sub hl [0, 1] rfl)
  have hf := (if_pos c_3).symm.trans hf
  refine lv_iload_n hx hb dX2_placeBehindDigit_6 rfl (lv_at hl 1 rfl) ?_
  refine lv_bipush (v := 48) hx hb dX2_placeBehindDigit_7 (by decide) ?_
  refine lv_icmp_eq (tgt := 35) hx hb dX2_placeBehindDigit_9 (by decide) (fun c_9 => ?_) (fun c_9 => ?_)
  · have hf := (if_pos c_9).symm.trans hf
    exact jp_35 ls hf (lv_sub hl [0, 1] rfl)
  have hf := (if_neg c_9).symm.trans hf
  refine lv_iload_n hx hb dX2_placeBehindDigit_12 rfl (lv_at hl 1 rfl) ?_
  refine lv_bipush (v := 52) hx hb dX2_placeBehindDigit_13 (by decide) ?_
  refine lv_icmp_ne (tgt := 21) hx hb dX2_placeBehindDigit_15 (by decide) (fun c_15 => ?_) (fun c_15 => ?_)
  · have hf := (if_neg c_15).symm.trans hf
    refine lv_iload_n hx hb dX2_placeBehindDigit_21 rfl (lv_at hl 1 rfl) ?_
    refine lv_bipush (v := 52) hx hb dX2_placeBehindDigit_22 (by decide) ?_
    refine lv_icmp_ge (tgt := 32) hx hb dX2_placeBehindDigit_24 (by decide) (fun c_24 => ?_) (fun c_24 => ?_)
    · have hf := (if_pos c_24).symm.trans hf
      refine lv_bipush (v := 11) hx hb dX2_placeBehindDigit_32 (by decide) ?_
      rw [hQ]; exact W.iret (v := 11) hx hb hr (fun t ht hW => ⟨11, rfl, hf, ht⟩) (fun _ h => absurd h List.not_mem_nil) dX2_placeBehindDigit_34
    have hf := (if_neg c_24).symm.trans hf
    refine lv_bipush (v := 9) hx hb dX2_placeBehindDigit_27 (by decide) ?_
    refine lv_goto (tgt := 34) hx hb dX2_placeBehindDigit_29 (by decide) ?_
    rw [hQ]; exact W.iret (v := 9) hx hb hr (fun t ht hW => ⟨9, rfl, hf, ht⟩) (fun _ h => absurd h List.not_mem_nil) dX2_placeBehindDigit_34
  have hf := (if_pos c_15).symm.trans hf
  refine lv_bipush (v := 10) hx hb dX2_placeBehindDigit_18 (by decide) ?_
  rw [hQ]; exact W.iret (v := 10) hx hb hr (fun t ht hW => ⟨10, rfl, hf, ht⟩) (fun _ h => absurd h List.not_mem_nil) dX2_placeBehindDigit_20
abbrev rm_X2_placeBehind : Room := { frames := 1, cells := 0, slots := 0, locals := 21 }
set_option maxHeartbeats 4000000 in
set_option maxRecDepth 100000 in
theorem c_X2_placeBehind (l : Launch) (dC : Nat → ClassId) (dI : Nat → Nat → Nat) (cI cJ cZ cO : ClassId) (i_0 : Int32) (i_1 : Int32) (res : Int32) (hf : f_X2_placeBehind i_0 i_1 = res) : Met l yX2_placeBehind wsX2_placeBehind rm_X2_placeBehind (va_Pc [.int i_0, .int i_1] (fun U => va_P (dC, dI) vwCl [] U.heap ∧ va_K (dC, dI) vwCl [(cI, .int), (cJ, .long), (cZ, .boolean), (cO, .object RX1)] U)) (vp_Si (fun r => r = res)) 0 0 (fun _ => False) := by
  refine Met.ofW (cc := cX2_placeBehind) (maxL := 2) (ret := (some .int)) (by decide) rfl ?_
  intro p e s m args below meth c s₁ B hml hv
  obtain ⟨rfl, hP, hK⟩ := hv
  have hx := B.exec
  have hb := B.bytes
  have hr := B.returns
  have hts := atoms_spec (ws := wsX2_placeBehind) B.pre
  have hown : s.vm.findClass RX2 = some m.cls := findClass_of_methodNamed B.named
  have hlocks := B.notSynchronized
  have hl := lv_entry ([.int i_0, .int i_1]) (n := 2) (Nat.le_of_ble_eq_true rfl)
  rw [lg_entry_eq]
  generalize (lg_sl ([.int i_0, .int i_1]) ++ List.replicate (2 - (lg_sl ([.int i_0, .int i_1])).length) Slot.unset).toArray = ls at hl ⊢
  have hl : lv_has ls 2 [(0, .int i_0), (1, .int i_1)] := hl
  refine W_gen (fun Q hQ => ?_)
  unfold f_X2_placeBehind at hf
  refine lv_iload_n hx hb dX2_placeBehind_0 rfl (lv_at hl 0 rfl) ?_
  refine lv_bipush (v := 7) hx hb dX2_placeBehind_1 (by decide) ?_
  have jp_17 : ∀ (ls : Array Slot) (hf : J_X2_placeBehind_17 i_0 i_1 = res) (hl : lv_has ls 2 [(0, .int i_0), (1, .int i_1)]), W p l e (headSpec wsX2_placeBehind rm_X2_placeBehind).room s m ([.int i_0, .int i_1] : List Value).toArray below meth c s.heap [] 0 0 Q (F0 m 17 ls []) := by
    intro ls hf hl
    unfold J_X2_placeBehind_17 at hf
    refine lv_iload_n hx hb dX2_placeBehind_17 rfl (lv_at hl 0 rfl) ?_
    have jp_36 : ∀ (ls : Array Slot) (hf : J_X2_placeBehind_36 i_0 i_1 = res) (hl : lv_has ls 2 [(0, .int i_0), (1, .int i_1)]), W p l e (headSpec wsX2_placeBehind rm_X2_placeBehind).room s m ([.int i_0, .int i_1] : List Value).toArray below meth c s.heap [] 0 0 Q (F0 m 36 ls []) := by
      intro ls hf hl
      unfold J_X2_placeBehind_36 at hf
      refine lv_iload_n hx hb dX2_placeBehind_36 rfl (lv_at hl 0 rfl) ?_
      refine lv_bipush (v := 9) hx hb dX2_placeBehind_37 (by decide) ?_
      have jp_50 : ∀ (ls : Array Slot) (hf : J_X2_placeBehind_50 i_0 i_1 = res) (hl : lv_has ls 2 [(0, .int i_0), (1, .int i_1)]), W p l e (headSpec wsX2_placeBehind rm_X2_placeBehind).room s m ([.int i_0, .int i_1] : List Value).toArray below meth c s.heap [] 0 0 Q (F0 m 50 ls []) := by
        intro ls hf hl
        unfold J_X2_placeBehind_50 at hf
        refine lv_iload_n hx hb dX2_placeBehind_50 rfl (lv_at hl 1 rfl) ?_
        have hPc := hP.sub (ws' := []) [] rfl
        refine vp_callSi (W.runS (As := [.int i_1]) (rest := []) ⟨hx, hb, hml, hown, hts⟩ (c_X2_isDigit l dC dI cI cJ cZ cO i_1 _ rfl) (va_cwS 1 hts gX2_placeBehind_X2_isDigit rfl rfl rfl (by decide +kernel) ⟨Nat.le_of_ble_eq_true rfl, Nat.le_of_ble_eq_true rfl⟩) ⟨fun a U g mk q => ⟨q.1, q.2.1, va_K.moved (u := U) (U := U.calling g mk a) (Vm.Alike.refl U.vm) q.2.2⟩, fun U hU hW => ⟨rfl, by rw [hU]; exact hPc, va_K.moved hW.alike hK⟩⟩ rfl rfl hl.1 rfl (lv_room (Nat.le_of_ble_eq_true rfl)) dX2_placeBehind_51 ⟨Nat.le_of_ble_eq_true rfl, Nat.le_of_ble_eq_true rfl⟩) (fun r hw => ?_)
        have hw := hw.symm; subst hw
        refine lv_if_eq (tgt := 65) hx hb dX2_placeBehind_54 (by decide) (fun c_54 => ?_) (fun c_54 => ?_)
        · have hf := (if_pos c_54).symm.trans hf
          refine lv_bipush (v := 12) hx hb dX2_placeBehind_65 (by decide) ?_
          rw [hQ]; exact W.iret (v := 12) hx hb hr (fun t ht hW => ⟨12, rfl, hf, ht⟩) (fun _ h => absurd h List.not_mem_nil) dX2_placeBehind_67
        have hf := (if_neg c_54).symm.trans hf
        refine lv_iload_n hx hb dX2_placeBehind_57 rfl (lv_at hl 0 rfl) ?_
        refine lv_iload_n hx hb dX2_placeBehind_58 rfl (lv_at hl 1 rfl) ?_
        have hPc := hP.sub (ws' := []) [] rfl
        refine vp_callSi (W.runS (As := [.int i_0, .int i_1]) (rest := []) ⟨hx, hb, hml, hown, hts⟩ (c_X2_placeBehindDigit l dC dI cI cJ cZ cO i_0 i_1 _ rfl) (va_cwS 2 hts gX2_placeBehind_X2_placeBehindDigit rfl rfl rfl (by decide +kernel) ⟨Nat.le_of_ble_eq_true rfl, Nat.le_of_ble_eq_true rfl⟩) ⟨fun a U g mk q => ⟨q.1, q.2.1, va_K.moved (u := U) (U := U.calling g mk a) (Vm.Alike.refl U.vm) q.2.2⟩, fun U hU hW => ⟨rfl, by rw [hU]; exact hPc, va_K.moved hW.alike hK⟩⟩ rfl rfl hl.1 rfl (lv_room (Nat.le_of_ble_eq_true rfl)) dX2_placeBehind_59 ⟨Nat.le_of_ble_eq_true rfl, Nat.le_of_ble_eq_true rfl⟩) (fun r hw => ?_)
        have hw := hw.symm; subst hw
        refine lv_goto (tgt := 67) hx hb dX2_placeBehind_62 (by decide) ?_
        rw [hQ]; exact W.iret (v := (f_X2_placeBehindDigit i_0 i_1)) hx hb hr (fun t ht hW => ⟨(f_X2_placeBehindDigit i_0 i_1), rfl, hf, ht⟩) (fun _ h => absurd h List.not_mem_nil) dX2_placeBehind_67
      refine lv_icmp_lt (tgt := 50) hx hb dX2_placeBehind_39 (by decide) (fun c_39 => ?_) (fun c_39 => ?_)
      · have hf := (if_pos c_39).symm.trans hf
        exact jp_50 ls hf (lv_sub hl [0, 1] rfl)
      have hf := (if_neg c_39).symm.trans hf
      refine lv_iload_n hx hb dX2_placeBehind_42 rfl (lv_at hl 1 rfl) ?_
      refine lv_bipush (v := 44) hx hb dX2_placeBehind_43 (by decide) ?_
      refine lv_icmp_ne (tgt := 50) hx hb dX2_placeBehind_45 (by decide) (fun c_45 => ?_) (fun c_45 => ?_)
      · have hf := (if_neg c_45).symm.trans hf
        exact jp_50 ls hf (lv_sub hl [0, 1] rfl)
      have hf := (if_pos c_45).symm.trans hf
      refine lv_iconst (v := 0) hx hb dX2_placeBehind_48 (by decide) ?_
      rw [hQ]; exact W.iret (v := 0) hx hb hr (fun t ht hW => ⟨0, rfl, hf, ht⟩) (fun _ h => absurd h List.not_mem_nil) dX2_placeBehind_49
    refine lv_if_le (tgt := 36) hx hb dX2_placeBehind_18 (by decide) (fun c_18 => ?_) (fun c_18 => ?_)
    · have hf := (if_pos c_18).symm.trans hf
      exact jp_36 ls hf (lv_sub hl [0, 1] rfl)
    have hf := (if_neg c_18).symm.trans hf
    refine lv_iload_n hx hb dX2_placeBehind_21 rfl (lv_at hl 0 rfl) ?_
    refine lv_bipush (v := 7) hx hb dX2_placeBehind_22 (by decide) ?_
    refine lv_icmp_gt (tgt := 36) hx hb dX2_placeBehind_24 (by decide) (fun c_24 => ?_) (fun c_24 => ?_)
    · have hf := (if_pos c_24).symm.trans hf
      exact jp_36 ls hf (lv_sub hl [0, 1] rfl)
    have hf := (if_neg c_24).symm.trans hf
    refine lv_iload_n hx hb dX2_placeBehind_27 rfl (lv_at hl 1 rfl) ?_
    refine lv_bipush (v := 58) hx hb dX2_placeBehind_28 (by decide) ?_
    refine lv_icmp_ne (tgt := 36) hx hb dX2_placeBehind_30 (by decide) (fun c_30 => ?_) (fun c_30 => ?_)
    · have hf := (if_neg c_30).symm.trans hf
      exact jp_36 ls hf (lv_sub hl [0, 1] rfl)
    have hf := (if_pos c_30).symm.trans hf
    refine lv_bipush (v := 8) hx hb dX2_placeBehind_33 (by decide) ?_
    rw [hQ]; exact W.iret (v := 8) hx hb hr (fun t ht hW => ⟨8, rfl, hf, ht⟩) (fun _ h => absurd h List.not_mem_nil) dX2_placeBehind_35
  refine lv_icmp_ge (tgt := 17) hx hb dX2_placeBehind_3 (by decide) (fun c_3 => ?_) (fun c_3 => ?_)
  · have hf := (if_pos c_3).symm.trans hf
    exact jp_17 ls hf (lv_sub hl [0, 1] rfl)
  have hf := (if_neg c_3).symm.trans hf
  refine lv_iload_n hx hb dX2_placeBehind_6 rfl (lv_at hl 1 rfl) ?_
  have hPc := hP.sub (ws' := []) [] rfl
  refine vp_callSi (W.runS (As := [.int i_1]) (rest := []) ⟨hx, hb, hml, hown, hts⟩ (c_X2_isLetter l dC dI cI cJ cZ cO i_1 _ rfl) (va_cwS 1 hts gX2_placeBehind_X2_isLetter rfl rfl rfl (by decide +kernel) ⟨Nat.le_of_ble_eq_true rfl, Nat.le_of_ble_eq_true rfl⟩) ⟨fun a U g mk q => ⟨q.1, q.2.1, va_K.moved (u := U) (U := U.calling g mk a) (Vm.Alike.refl U.vm) q.2.2⟩, fun U hU hW => ⟨rfl, by rw [hU]; exact hPc, va_K.moved hW.alike hK⟩⟩ rfl rfl hl.1 rfl (lv_room (Nat.le_of_ble_eq_true rfl)) dX2_placeBehind_7 ⟨Nat.le_of_ble_eq_true rfl, Nat.le_of_ble_eq_true rfl⟩) (fun r hw => ?_)
  have hw := hw.symm; subst hw
  refine lv_if_eq (tgt := 17) hx hb dX2_placeBehind_10 (by decide) (fun c_10 => ?_) (fun c_10 => ?_)
  · have hf := (if_pos c_10).symm.trans hf
    exact jp_17 ls hf (lv_sub hl [0, 1] rfl)
  have hf := (if_neg c_10).symm.trans hf
  refine lv_iload_n hx hb dX2_placeBehind_13 rfl (lv_at hl 0 rfl) ?_
  refine lv_iconst (v := 1) hx hb dX2_placeBehind_14 (by decide) ?_
  refine lv_iadd hx hb dX2_placeBehind_15 ?_
  rw [hQ]; exact W.iret (v := (i_0 + 1)) hx hb hr (fun t ht hW => ⟨(i_0 + 1), rfl, hf, ht⟩) (fun _ h => absurd h List.not_mem_nil) dX2_placeBehind_16
abbrev rm_X2_append : Room := { frames := 0, cells := 0, slots := 0, locals := 0 }
set_option maxHeartbeats 4000000 in
set_option maxRecDepth 100000 in
theorem c_X2_append (l : Launch) (dC : Nat → ClassId) (dI : Nat → Nat → Nat) (cI cJ cZ cO : ClassId) (a_o : Nat) (a_codes : Nat) (v_length : Int32) (v_codes : Nat → Int32) (i_1 : Int32) (sz : Nat) (res : Int32 × (Nat → Int32)) (hf : f_X2_append v_length v_codes i_1 = some res) : Met l yX2_append wsX2_append rm_X2_append (va_Pc [.ref a_o, .int i_1] (fun U => U.heap.size = sz ∧ va_P (dC, dI) vwCl [(a_o, .inr (2, [.ref a_codes, .int v_length])), (a_codes, .inl (cI, 60, .inl v_codes))] U.heap ∧ va_K (dC, dI) vwCl [(cI, .int), (cJ, .long), (cZ, .boolean), (cO, .object RX1)] U ∧ va_D (fun _ => True) [(a_o, .inr (2, [.ref a_codes, .int v_length])), (a_codes, .inl (cI, 60, .inl v_codes))])) (va_Qv (fun u : Int32 × (Nat → Int32) => u = res) (fun u t => va_P (dC, dI) vwCl [(a_o, .inr (2, [.ref a_codes, .int u.1])), (a_codes, .inl (cI, 60, .inl u.2))] t.heap ∧ va_K (dC, dI) vwCl [(cI, .int), (cJ, .long), (cZ, .boolean), (cO, .object RX1)] t ∧ va_D (va_A [(a_o, .inr (2, [.ref a_codes, .int v_length])), (a_codes, .inl (cI, 60, .inl v_codes))] sz) [(a_o, .inr (2, [.ref a_codes, .int u.1])), (a_codes, .inl (cI, 60, .inl u.2))]) (va_A [(a_o, .inr (2, [.ref a_codes, .int v_length])), (a_codes, .inl (cI, 60, .inl v_codes))] sz)) 0 0 (va_A [(a_o, .inr (2, [.ref a_codes, .int v_length])), (a_codes, .inl (cI, 60, .inl v_codes))] sz) := by
  refine Met.ofW (cc := cX2_append) (maxL := 2) (ret := none) (by decide) rfl ?_
  intro p e s m args below meth c s₁ B hml hv
  obtain ⟨rfl, hsz, hP, hK, hD0⟩ := hv
  have hx := B.exec
  have hb := B.bytes
  have hr := B.returns
  have hts := atoms_spec (ws := wsX2_append) B.pre
  have hown : s.vm.findClass RX2 = some m.cls := findClass_of_methodNamed B.named
  have hlocks := B.notSynchronized
  have hinX2 : ∀ w ∈ u_ws RX2 TX2 2, w ∈ wsX2_append := by decide +kernel
  have hw0 := hts (.fieldLink RX2 15 "RunningHeads$Pad" "length" "I") (by decide +kernel)
  have hw1 := hts (.fieldLink RX2 9 "RunningHeads$Pad" "codes" "[I") (by decide +kernel)
  have hl := lv_entry ([.ref a_o, .int i_1]) (n := 2) (Nat.le_of_ble_eq_true rfl)
  rw [lg_entry_eq]
  generalize (lg_sl ([.ref a_o, .int i_1]) ++ List.replicate (2 - (lg_sl ([.ref a_o, .int i_1])).length) Slot.unset).toArray = ls at hl ⊢
  have hl : lv_has ls 2 [(0, .ref a_o), (1, .int i_1)] := hl
  subst hsz
  have hD := hD0.self (sz := s.heap.size)
  generalize hAe : va_A [(a_o, .inr (2, [.ref a_codes, .int v_length])), (a_codes, .inl (cI, 60, .inl v_codes))] s.heap.size = A at hD ⊢
  have hA : ∀ q : Nat, s.heap.size ≤ q → A q := fun q h => by rw [← hAe]; exact Or.inr h
  refine W_gen (fun Q hQ => ?_)
  refine W_start (A := A) hP (fun H locs hP hS => ?_)
  unfold f_X2_append at hf
  refine lv_aload_n hx hb dX2_append_0 rfl (lv_at hl 0 rfl) ?_
  refine va_get (D := (dC, dI)) (ci := 2) (v := .int v_length) (C := RX2) (T := TX2) (N := 2) hx hb hts hinX2 hown hK hP 0 rfl rfl 1 (by decide) hw0 (fun _ h9 => h9) rfl dX2_append_1 ?_
  refine lv_bipush (v := 60) hx hb dX2_append_4 (by decide) ?_
  refine lv_icmp_ge (tgt := 29) hx hb dX2_append_6 (by decide) (fun c_6 => ?_) (fun c_6 => ?_)
  · have hf := (if_pos c_6).symm.trans hf
    have hP9 := hP.sub (ws' := [(a_o, .inr (2, [.ref a_codes, .int v_length])), (a_codes, .inl (cI, 60, .inl v_codes))]) [0, 1] rfl
    have hD9 := hD.sub (ws' := [(a_o, .inr (2, [.ref a_codes, .int v_length])), (a_codes, .inl (cI, 60, .inl v_codes))]) [0, 1] (by decide) rfl
    rw [hQ]; exact W.vret hx hb hr (fun t ht hW => ⟨⟨(v_length, v_codes), rfl, (Option.some.inj hf), by rw [ht]; exact hP9, va_K.moved hW.alike hK, hD9⟩, hS.F ht⟩) hS.2.2 dX2_append_29
  have hf := (if_neg c_6).symm.trans hf
  refine lv_aload_n hx hb dX2_append_9 rfl (lv_at hl 0 rfl) ?_
  refine va_get (D := (dC, dI)) (ci := 2) (v := .ref a_codes) (C := RX2) (T := TX2) (N := 2) hx hb hts hinX2 hown hK hP 0 rfl rfl 0 (by decide) hw1 (fun _ h9 => h9) rfl dX2_append_10 ?_
  refine lv_aload_n hx hb dX2_append_13 rfl (lv_at hl 0 rfl) ?_
  refine va_get (D := (dC, dI)) (ci := 2) (v := .int v_length) (C := RX2) (T := TX2) (N := 2) hx hb hts hinX2 hown hK hP 0 rfl rfl 1 (by decide) hw0 (fun _ h9 => h9) rfl dX2_append_14 ?_
  refine lv_iload_n hx hb dX2_append_17 rfl (lv_at hl 1 rfl) ?_
  obtain ⟨g_18, hf⟩ := gd_some hf
  refine va_iast hx hb hK hP hD hS 1 0 rfl rfl (xin_vp g_18) dX2_append_18 (fun H locs hP hD hS => ?_)
  have hP : va_P (dC, dI) vwCl [(a_o, .inr (2, [.ref a_codes, .int v_length])), (a_codes, .inl (cI, 60, .inl (upd v_codes v_length.toNatClampNeg i_1)))] H := hP
  have hD : va_D A [(a_o, .inr (2, [.ref a_codes, .int v_length])), (a_codes, .inl (cI, 60, .inl (upd v_codes v_length.toNatClampNeg i_1)))] := hD
  refine lv_aload_n hx hb dX2_append_19 rfl (lv_at hl 0 rfl) ?_
  refine lv_dup hx hb dX2_append_20 rfl ?_
  refine va_get (D := (dC, dI)) (ci := 2) (v := .int v_length) (C := RX2) (T := TX2) (N := 2) hx hb hts hinX2 hown hK hP 0 rfl rfl 1 (by decide) hw0 (fun _ h9 => h9) rfl dX2_append_21 ?_
  refine lv_iconst (v := 1) hx hb dX2_append_24 (by decide) ?_
  refine lv_iadd hx hb dX2_append_25 ?_
  refine va_put (D := (dC, dI)) (ci := 2) (v := .int (v_length + 1)) (ty := .int) (C := RX2) (T := TX2) (N := 2) hx hb hts hinX2 tyX2 tyX2_ok nmX2 hown hK hP hD hS 0 rfl rfl 1 (by decide) hw0 (fun _ h9 => h9) rfl (by decide +kernel) rfl rfl (Nat.le_of_ble_eq_true rfl) dX2_append_26 (fun H locs hP hD hS => ?_)
  have hP : va_P (dC, dI) vwCl [(a_o, .inr (2, [.ref a_codes, .int (v_length + 1)])), (a_codes, .inl (cI, 60, .inl (upd v_codes v_length.toNatClampNeg i_1)))] H := hP
  have hD : va_D A [(a_o, .inr (2, [.ref a_codes, .int (v_length + 1)])), (a_codes, .inl (cI, 60, .inl (upd v_codes v_length.toNatClampNeg i_1)))] := hD
  have hP9 := hP.sub (ws' := [(a_o, .inr (2, [.ref a_codes, .int (v_length + 1)])), (a_codes, .inl (cI, 60, .inl (upd v_codes v_length.toNatClampNeg i_1)))]) [0, 1] rfl
  have hD9 := hD.sub (ws' := [(a_o, .inr (2, [.ref a_codes, .int (v_length + 1)])), (a_codes, .inl (cI, 60, .inl (upd v_codes v_length.toNatClampNeg i_1)))]) [0, 1] (by decide) rfl
  rw [hQ]; exact W.vret hx hb hr (fun t ht hW => ⟨⟨((v_length + 1), (upd v_codes v_length.toNatClampNeg i_1)), rfl, (Option.some.inj hf), by rw [ht]; exact hP9, va_K.moved hW.alike hK, hD9⟩, hS.F ht⟩) hS.2.2 dX2_append_29
abbrev rm_X2_empty : Room := { frames := 0, cells := 0, slots := 0, locals := 0 }
set_option maxHeartbeats 4000000 in
set_option maxRecDepth 100000 in
theorem c_X2_empty (l : Launch) (dC : Nat → ClassId) (dI : Nat → Nat → Nat) (cI cJ cZ cO : ClassId) (a_o : Nat) (a_codes : Nat) (v_length : Int32) (sz : Nat) (res : Int32) (hf : f_X2_empty = res) : Met l yX2_empty wsX2_empty rm_X2_empty (va_Pc [.ref a_o] (fun U => U.heap.size = sz ∧ va_P (dC, dI) vwCl [(a_o, .inr (2, [.ref a_codes, .int v_length]))] U.heap ∧ va_K (dC, dI) vwCl [(cI, .int), (cJ, .long), (cZ, .boolean), (cO, .object RX1)] U ∧ va_D (fun _ => True) [(a_o, .inr (2, [.ref a_codes, .int v_length]))])) (va_Qv (fun u : Int32 => u = res) (fun u t => va_P (dC, dI) vwCl [(a_o, .inr (2, [.ref a_codes, .int u]))] t.heap ∧ va_K (dC, dI) vwCl [(cI, .int), (cJ, .long), (cZ, .boolean), (cO, .object RX1)] t ∧ va_D (va_A [(a_o, .inr (2, [.ref a_codes, .int v_length]))] sz) [(a_o, .inr (2, [.ref a_codes, .int u]))]) (va_A [(a_o, .inr (2, [.ref a_codes, .int v_length]))] sz)) 0 0 (va_A [(a_o, .inr (2, [.ref a_codes, .int v_length]))] sz) := by
  refine Met.ofW (cc := cX2_empty) (maxL := 1) (ret := none) (by decide) rfl ?_
  intro p e s m args below meth c s₁ B hml hv
  obtain ⟨rfl, hsz, hP, hK, hD0⟩ := hv
  have hx := B.exec
  have hb := B.bytes
  have hr := B.returns
  have hts := atoms_spec (ws := wsX2_empty) B.pre
  have hown : s.vm.findClass RX2 = some m.cls := findClass_of_methodNamed B.named
  have hlocks := B.notSynchronized
  have hinX2 : ∀ w ∈ u_ws RX2 TX2 2, w ∈ wsX2_empty := by decide +kernel
  have hw0 := hts (.fieldLink RX2 15 "RunningHeads$Pad" "length" "I") (by decide +kernel)
  have hl := lv_entry ([.ref a_o]) (n := 1) (Nat.le_of_ble_eq_true rfl)
  rw [lg_entry_eq]
  generalize (lg_sl ([.ref a_o]) ++ List.replicate (1 - (lg_sl ([.ref a_o])).length) Slot.unset).toArray = ls at hl ⊢
  have hl : lv_has ls 1 [(0, .ref a_o)] := hl
  subst hsz
  have hD := hD0.self (sz := s.heap.size)
  generalize hAe : va_A [(a_o, .inr (2, [.ref a_codes, .int v_length]))] s.heap.size = A at hD ⊢
  have hA : ∀ q : Nat, s.heap.size ≤ q → A q := fun q h => by rw [← hAe]; exact Or.inr h
  refine W_gen (fun Q hQ => ?_)
  refine W_start (A := A) hP (fun H locs hP hS => ?_)
  unfold f_X2_empty at hf
  refine lv_aload_n hx hb dX2_empty_0 rfl (lv_at hl 0 rfl) ?_
  refine lv_iconst (v := 0) hx hb dX2_empty_1 (by decide) ?_
  refine va_put (D := (dC, dI)) (ci := 2) (v := .int 0) (ty := .int) (C := RX2) (T := TX2) (N := 2) hx hb hts hinX2 tyX2 tyX2_ok nmX2 hown hK hP hD hS 0 rfl rfl 1 (by decide) hw0 (fun _ h9 => h9) rfl (by decide +kernel) rfl rfl (Nat.le_of_ble_eq_true rfl) dX2_empty_2 (fun H locs hP hD hS => ?_)
  have hP : va_P (dC, dI) vwCl [(a_o, .inr (2, [.ref a_codes, .int 0]))] H := hP
  have hD : va_D A [(a_o, .inr (2, [.ref a_codes, .int 0]))] := hD
  have hP9 := hP.sub (ws' := [(a_o, .inr (2, [.ref a_codes, .int 0]))]) [0] rfl
  have hD9 := hD.sub (ws' := [(a_o, .inr (2, [.ref a_codes, .int 0]))]) [0] (by decide) rfl
  rw [hQ]; exact W.vret hx hb hr (fun t ht hW => ⟨⟨0, rfl, hf, by rw [ht]; exact hP9, va_K.moved hW.alike hK, hD9⟩, hS.F ht⟩) hS.2.2 dX2_empty_5
abbrev rm_X2_isWord : Room := { frames := 1, cells := 0, slots := 0, locals := 20 }
set_option maxHeartbeats 4000000 in
set_option maxRecDepth 100000 in
theorem c_X2_isWord (l : Launch) (dC : Nat → ClassId) (dI : Nat → Nat → Nat) (cI cJ cZ cO : ClassId) (a_o : Nat) (a_codes : Nat) (v_length : Int32) (v_codes : Nat → Int32) (res : Int32) (hf : f_X2_isWord v_length v_codes = some res) : Met l yX2_isWord wsX2_isWord rm_X2_isWord (va_Pc [.ref a_o] (fun U => va_P (dC, dI) vwCl [(a_o, .inr (2, [.ref a_codes, .int v_length])), (a_codes, .inl (cI, 60, .inl v_codes))] U.heap ∧ va_K (dC, dI) vwCl [(cI, .int), (cJ, .long), (cZ, .boolean), (cO, .object RX1)] U)) (vp_Si (fun r => r = res)) 0 0 (fun _ => False) := by
  refine Met.ofW (cc := cX2_isWord) (maxL := 2) (ret := (some .boolean)) (by decide) rfl ?_
  intro p e s m args below meth c s₁ B hml hv
  obtain ⟨rfl, hP, hK⟩ := hv
  have hx := B.exec
  have hb := B.bytes
  have hr := B.returns
  have hts := atoms_spec (ws := wsX2_isWord) B.pre
  have hown : s.vm.findClass RX2 = some m.cls := findClass_of_methodNamed B.named
  have hlocks := B.notSynchronized
  have hinX2 : ∀ w ∈ u_ws RX2 TX2 2, w ∈ wsX2_isWord := by decide +kernel
  have hw0 := hts (.fieldLink RX2 15 "RunningHeads$Pad" "length" "I") (by decide +kernel)
  have hw1 := hts (.fieldLink RX2 9 "RunningHeads$Pad" "codes" "[I") (by decide +kernel)
  have hl := lv_entry ([.ref a_o]) (n := 2) (Nat.le_of_ble_eq_true rfl)
  rw [lg_entry_eq]
  generalize (lg_sl ([.ref a_o]) ++ List.replicate (2 - (lg_sl ([.ref a_o])).length) Slot.unset).toArray = ls at hl ⊢
  have hl : lv_has ls 2 [(0, .ref a_o)] := hl
  refine W_gen (fun Q hQ => ?_)
  unfold f_X2_isWord at hf
  refine lv_aload_n hx hb dX2_isWord_0 rfl (lv_at hl 0 rfl) ?_
  refine va_get (D := (dC, dI)) (ci := 2) (v := .int v_length) (C := RX2) (T := TX2) (N := 2) hx hb hts hinX2 hown hK hP 0 rfl rfl 1 (by decide) hw0 (fun _ h9 => h9) rfl dX2_isWord_1 ?_
  refine lv_iconst (v := 1) hx hb dX2_isWord_4 (by decide) ?_
  refine lv_icmp_lt (tgt := 17) hx hb dX2_isWord_5 (by decide) (fun c_5 => ?_) (fun c_5 => ?_)
  · have hf := (if_pos c_5).symm.trans hf
    refine lv_iconst (v := 0) hx hb dX2_isWord_17 (by decide) ?_
    rw [hQ]; exact W.zret (v := 0) hx hb hr rfl (fun t ht hW => ⟨0, rfl, (Option.some.inj hf), ht⟩) (fun _ h => absurd h List.not_mem_nil) dX2_isWord_18
  have hf := (if_neg c_5).symm.trans hf
  refine lv_aload_n hx hb dX2_isWord_8 rfl (lv_at hl 0 rfl) ?_
  refine va_get (D := (dC, dI)) (ci := 2) (v := .int v_length) (C := RX2) (T := TX2) (N := 2) hx hb hts hinX2 hown hK hP 0 rfl rfl 1 (by decide) hw0 (fun _ h9 => h9) rfl dX2_isWord_9 ?_
  refine lv_bipush (v := 7) hx hb dX2_isWord_12 (by decide) ?_
  refine lv_icmp_le (tgt := 19) hx hb dX2_isWord_14 (by decide) (fun c_14 => ?_) (fun c_14 => ?_)
  · have hf := (if_pos c_14).symm.trans hf
    refine lv_iconst (v := 0) hx hb dX2_isWord_19 (by decide) ?_
    refine lv_istore_n (lv' := [(1, .int 0), (0, .ref a_o)]) hx hb dX2_isWord_20 rfl hl (by decide) rfl (fun ls hl => ?_)
    have hk_21 : ∀ (i1_21 : Int32) (ls : Array Slot) (hf : (some 1) = some res) (hl : lv_has ls 2 []), W p l e (headSpec wsX2_isWord rm_X2_isWord).room s m ([.ref a_o] : List Value).toArray below meth c s.heap [] 0 0 Q (F0 m 49 ls []) := by
      intro i1_21 ls hf hl
      refine lv_iconst (v := 1) hx hb dX2_isWord_49 (by decide) ?_
      rw [hQ]; exact W.zret (v := 1) hx hb hr rfl (fun t ht hW => ⟨1, rfl, (Option.some.inj hf), ht⟩) (fun _ h => absurd h List.not_mem_nil) dX2_isWord_50
    have lp_21 : ∀ (K : Int32 → Option (Int32)) (hk : ∀ (i1_21 : Int32) (ls : Array Slot) (hf : K i1_21 = some res) (hl : lv_has ls 2 []), W p l e (headSpec wsX2_isWord rm_X2_isWord).room s m ([.ref a_o] : List Value).toArray below meth c s.heap [] 0 0 Q (F0 m 49 ls [])) (n : Nat) (i1_21 : Int32) (ls : Array Slot) (hf : L_X2_isWord_21 K v_length v_codes n i1_21 = some res) (hl : lv_has ls 2 [(1, .int i1_21), (0, .ref a_o)]), W p l e (headSpec wsX2_isWord rm_X2_isWord).room s m ([.ref a_o] : List Value).toArray below meth c s.heap [] 0 0 Q (F0 m 21 ls []) := by
      intro K hk n
      induction n with
      | zero => intro i1_21 ls hf hl; exact absurd ((L_X2_isWord_21_0 _ _ _ _).symm.trans hf) (by simp)
      | succ n ih =>
        intro i1_21 ls hf hl
        have hf := (L_X2_isWord_21_s _ _ _ _ _).symm.trans hf
        refine lv_iload_n hx hb dX2_isWord_21 rfl (lv_at hl 0 rfl) ?_
        refine lv_aload_n hx hb dX2_isWord_22 rfl (lv_at hl 1 rfl) ?_
        refine va_get (D := (dC, dI)) (ci := 2) (v := .int v_length) (C := RX2) (T := TX2) (N := 2) hx hb hts hinX2 hown hK hP 0 rfl rfl 1 (by decide) hw0 (fun _ h9 => h9) rfl dX2_isWord_23 ?_
        refine lv_icmp_ge (tgt := 49) hx hb dX2_isWord_26 (by decide) (fun c_26 => ?_) (fun c_26 => ?_)
        · have hf := (if_pos c_26).symm.trans hf
          exact hk i1_21 ls hf (lv_sub hl [] rfl)
        have hf := (if_neg c_26).symm.trans hf
        refine lv_aload_n hx hb dX2_isWord_29 rfl (lv_at hl 1 rfl) ?_
        refine va_get (D := (dC, dI)) (ci := 2) (v := .ref a_codes) (C := RX2) (T := TX2) (N := 2) hx hb hts hinX2 hown hK hP 0 rfl rfl 0 (by decide) hw1 (fun _ h9 => h9) rfl dX2_isWord_30 ?_
        refine lv_iload_n hx hb dX2_isWord_33 rfl (lv_at hl 0 rfl) ?_
        obtain ⟨g_34, hf⟩ := gd_some hf
        refine va_iald hx hb hK hP 1 0 rfl rfl (xin_vp g_34) dX2_isWord_34 ?_
        have hPc := hP.sub (ws' := []) [] rfl
        refine vp_callSi (W.runS (As := [.int (v_codes i1_21.toNatClampNeg)]) (rest := []) ⟨hx, hb, hml, hown, hts⟩ (c_X2_isLetter l dC dI cI cJ cZ cO (v_codes i1_21.toNatClampNeg) _ rfl) (va_cwS 1 hts gX2_isWord_X2_isLetter rfl rfl rfl (by decide +kernel) ⟨Nat.le_of_ble_eq_true rfl, Nat.le_of_ble_eq_true rfl⟩) ⟨fun a U g mk q => ⟨q.1, q.2.1, va_K.moved (u := U) (U := U.calling g mk a) (Vm.Alike.refl U.vm) q.2.2⟩, fun U hU hW => ⟨rfl, by rw [hU]; exact hPc, va_K.moved hW.alike hK⟩⟩ rfl rfl hl.1 rfl (lv_room (Nat.le_of_ble_eq_true rfl)) dX2_isWord_35 ⟨Nat.le_of_ble_eq_true rfl, Nat.le_of_ble_eq_true rfl⟩) (fun r hw => ?_)
        have hw := hw.symm; subst hw
        refine lv_if_ne (tgt := 43) hx hb dX2_isWord_38 (by decide) (fun c_38 => ?_) (fun c_38 => ?_)
        · have hf := (if_neg c_38).symm.trans hf
          refine lv_iinc (v := (i1_21 + 1)) (lv' := [(1, .int (i1_21 + 1)), (0, .ref a_o)]) hx hb dX2_isWord_43 hl (k := 0) rfl rfl (by decide) rfl (fun ls hl => ?_)
          refine lv_goto (tgt := 21) hx hb dX2_isWord_46 (by decide) ?_
          exact ih (i1_21 + 1) ls hf (lv_sub hl [0, 1] rfl)
        have hf := (if_pos c_38).symm.trans hf
        refine lv_iconst (v := 0) hx hb dX2_isWord_41 (by decide) ?_
        rw [hQ]; exact W.zret (v := 0) hx hb hr rfl (fun t ht hW => ⟨0, rfl, (Option.some.inj hf), ht⟩) (fun _ h => absurd h List.not_mem_nil) dX2_isWord_42
    exact lp_21 _ hk_21 FU 0 ls hf (lv_sub hl [0, 1] rfl)
  have hf := (if_neg c_14).symm.trans hf
  refine lv_iconst (v := 0) hx hb dX2_isWord_17 (by decide) ?_
  rw [hQ]; exact W.zret (v := 0) hx hb hr rfl (fun t ht hW => ⟨0, rfl, (Option.some.inj hf), ht⟩) (fun _ h => absurd h List.not_mem_nil) dX2_isWord_18
abbrev rm_X2_word : Room := { frames := 2, cells := 0, slots := 0, locals := 44 }
set_option maxHeartbeats 4000000 in
set_option maxRecDepth 100000 in
theorem c_X2_word (l : Launch) (dC : Nat → ClassId) (dI : Nat → Nat → Nat) (cI cJ cZ cO : ClassId) (a_o : Nat) (a_codes : Nat) (v_length : Int32) (v_codes : Nat → Int32) (res : Int64) (hf : f_X2_word v_length v_codes = some res) : Met l yX2_word wsX2_word rm_X2_word (va_Pc [.ref a_o] (fun U => va_P (dC, dI) vwCl [(a_o, .inr (2, [.ref a_codes, .int v_length])), (a_codes, .inl (cI, 60, .inl v_codes))] U.heap ∧ va_K (dC, dI) vwCl [(cI, .int), (cJ, .long), (cZ, .boolean), (cO, .object RX1)] U)) (vp_Sl (fun r => r = res)) 0 0 (fun _ => False) := by
  refine Met.ofW (cc := cX2_word) (maxL := 4) (ret := (some .long)) (by decide) rfl ?_
  intro p e s m args below meth c s₁ B hml hv
  obtain ⟨rfl, hP, hK⟩ := hv
  have hx := B.exec
  have hb := B.bytes
  have hr := B.returns
  have hts := atoms_spec (ws := wsX2_word) B.pre
  have hown : s.vm.findClass RX2 = some m.cls := findClass_of_methodNamed B.named
  have hlocks := B.notSynchronized
  have hinX2 : ∀ w ∈ u_ws RX2 TX2 2, w ∈ wsX2_word := by decide +kernel
  have hw0 := hts (.fieldLink RX2 15 "RunningHeads$Pad" "length" "I") (by decide +kernel)
  have hw1 := hts (.fieldLink RX2 9 "RunningHeads$Pad" "codes" "[I") (by decide +kernel)
  have hl := lv_entry ([.ref a_o]) (n := 4) (Nat.le_of_ble_eq_true rfl)
  rw [lg_entry_eq]
  generalize (lg_sl ([.ref a_o]) ++ List.replicate (4 - (lg_sl ([.ref a_o])).length) Slot.unset).toArray = ls at hl ⊢
  have hl : lv_has ls 4 [(0, .ref a_o)] := hl
  refine W_gen (fun Q hQ => ?_)
  unfold f_X2_word at hf
  refine lv_lconst (v := 0) hx hb dX2_word_0 (by decide) ?_
  refine lv_lstore_n (lv' := [(1, .long 0), (0, .ref a_o)]) hx hb dX2_word_1 rfl hl (by decide) rfl (fun ls hl => ?_)
  refine lv_iconst (v := 0) hx hb dX2_word_2 (by decide) ?_
  refine lv_istore_n (lv' := [(3, .int 0), (1, .long 0), (0, .ref a_o)]) hx hb dX2_word_3 rfl hl (by decide) rfl (fun ls hl => ?_)
  have hk_4 : ∀ (i3_4 : Int32) (j1_4 : Int64) (ls : Array Slot) (hf : (some j1_4) = some res) (hl : lv_has ls 4 [(1, .long j1_4)]), W p l e (headSpec wsX2_word rm_X2_word).room s m ([.ref a_o] : List Value).toArray below meth c s.heap [] 0 0 Q (F0 m 29 ls []) := by
    intro i3_4 j1_4 ls hf hl
    refine lv_lload_n hx hb dX2_word_29 rfl (lv_at hl 0 rfl) ?_
    rw [hQ]; exact W.lret (v := j1_4) hx hb hr (fun t ht hW => ⟨j1_4, rfl, (Option.some.inj hf), ht⟩) (fun _ h => absurd h List.not_mem_nil) dX2_word_30
  have lp_4 : ∀ (K : Int32 → Int64 → Option (Int64)) (hk : ∀ (i3_4 : Int32) (j1_4 : Int64) (ls : Array Slot) (hf : K i3_4 j1_4 = some res) (hl : lv_has ls 4 [(1, .long j1_4)]), W p l e (headSpec wsX2_word rm_X2_word).room s m ([.ref a_o] : List Value).toArray below meth c s.heap [] 0 0 Q (F0 m 29 ls [])) (n : Nat) (i3_4 : Int32) (j1_4 : Int64) (ls : Array Slot) (hf : L_X2_word_4 K v_length v_codes n i3_4 j1_4 = some res) (hl : lv_has ls 4 [(3, .int i3_4), (1, .long j1_4), (0, .ref a_o)]), W p l e (headSpec wsX2_word rm_X2_word).room s m ([.ref a_o] : List Value).toArray below meth c s.heap [] 0 0 Q (F0 m 4 ls []) := by
    intro K hk n
    induction n with
    | zero => intro i3_4 j1_4 ls hf hl; exact absurd ((L_X2_word_4_0 _ _ _ _ _).symm.trans hf) (by simp)
    | succ n ih =>
      intro i3_4 j1_4 ls hf hl
      have hf := (L_X2_word_4_s _ _ _ _ _ _).symm.trans hf
      refine lv_iload_n hx hb dX2_word_4 rfl (lv_at hl 0 rfl) ?_
      refine lv_aload_n hx hb dX2_word_5 rfl (lv_at hl 2 rfl) ?_
      refine va_get (D := (dC, dI)) (ci := 2) (v := .int v_length) (C := RX2) (T := TX2) (N := 2) hx hb hts hinX2 hown hK hP 0 rfl rfl 1 (by decide) hw0 (fun _ h9 => h9) rfl dX2_word_6 ?_
      refine lv_icmp_ge (tgt := 29) hx hb dX2_word_9 (by decide) (fun c_9 => ?_) (fun c_9 => ?_)
      · have hf := (if_pos c_9).symm.trans hf
        exact hk i3_4 j1_4 ls hf (lv_sub hl [1] rfl)
      have hf := (if_neg c_9).symm.trans hf
      refine lv_lload_n hx hb dX2_word_12 rfl (lv_at hl 1 rfl) ?_
      refine lv_aload_n hx hb dX2_word_13 rfl (lv_at hl 2 rfl) ?_
      refine va_get (D := (dC, dI)) (ci := 2) (v := .ref a_codes) (C := RX2) (T := TX2) (N := 2) hx hb hts hinX2 hown hK hP 0 rfl rfl 0 (by decide) hw1 (fun _ h9 => h9) rfl dX2_word_14 ?_
      refine lv_iload_n hx hb dX2_word_17 rfl (lv_at hl 0 rfl) ?_
      obtain ⟨g_18, hf⟩ := gd_some hf
      refine va_iald hx hb hK hP 1 0 rfl rfl (xin_vp g_18) dX2_word_18 ?_
      have hPc := hP.sub (ws' := []) [] rfl
      refine vp_callSl (W.runS (As := [.long j1_4, .int (v_codes i3_4.toNatClampNeg)]) (rest := []) ⟨hx, hb, hml, hown, hts⟩ (c_X4_longer l dC dI cI cJ cZ cO j1_4 (v_codes i3_4.toNatClampNeg) _ rfl) (va_cwS 2 hts gX2_word_X4_longer rfl rfl rfl (by decide +kernel) ⟨Nat.le_of_ble_eq_true rfl, Nat.le_of_ble_eq_true rfl⟩) ⟨fun a U g mk q => ⟨q.1, q.2.1, va_K.moved (u := U) (U := U.calling g mk a) (Vm.Alike.refl U.vm) q.2.2⟩, fun U hU hW => ⟨rfl, by rw [hU]; exact hPc, va_K.moved hW.alike hK⟩⟩ rfl rfl hl.1 rfl (lv_room (Nat.le_of_ble_eq_true rfl)) dX2_word_19 ⟨Nat.le_of_ble_eq_true rfl, Nat.le_of_ble_eq_true rfl⟩) (fun r hw => ?_)
      have hw := hw.symm; subst hw
      refine lv_lstore_n (lv' := [(1, .long (f_X4_longer j1_4 (v_codes i3_4.toNatClampNeg))), (3, .int i3_4), (0, .ref a_o)]) hx hb dX2_word_22 rfl hl (by decide) rfl (fun ls hl => ?_)
      refine lv_iinc (v := (i3_4 + 1)) (lv' := [(3, .int (i3_4 + 1)), (1, .long (f_X4_longer j1_4 (v_codes i3_4.toNatClampNeg))), (0, .ref a_o)]) hx hb dX2_word_23 hl (k := 1) rfl rfl (by decide) rfl (fun ls hl => ?_)
      refine lv_goto (tgt := 4) hx hb dX2_word_26 (by decide) ?_
      exact ih (i3_4 + 1) (f_X4_longer j1_4 (v_codes i3_4.toNatClampNeg)) ls hf (lv_sub hl [0, 1, 2] rfl)
  exact lp_4 _ hk_4 FU 0 0 ls hf (lv_sub hl [0, 1, 2] rfl)
abbrev rm_X2_firstFault : Room := { frames := 2, cells := 0, slots := 0, locals := 42 }
set_option maxHeartbeats 4000000 in
set_option maxRecDepth 100000 in
theorem c_X2_firstFault (l : Launch) (dC : Nat → ClassId) (dI : Nat → Nat → Nat) (cI cJ cZ cO : ClassId) (a_o : Nat) (a_codes : Nat) (v_length : Int32) (v_codes : Nat → Int32) (res : Int32) (hf : f_X2_firstFault v_length v_codes = some res) : Met l yX2_firstFault wsX2_firstFault rm_X2_firstFault (va_Pc [.ref a_o] (fun U => va_P (dC, dI) vwCl [(a_o, .inr (2, [.ref a_codes, .int v_length])), (a_codes, .inl (cI, 60, .inl v_codes))] U.heap ∧ va_K (dC, dI) vwCl [(cI, .int), (cJ, .long), (cZ, .boolean), (cO, .object RX1)] U)) (vp_Si (fun r => r = res)) 0 0 (fun _ => False) := by
  refine Met.ofW (cc := cX2_firstFault) (maxL := 3) (ret := (some .int)) (by decide) rfl ?_
  intro p e s m args below meth c s₁ B hml hv
  obtain ⟨rfl, hP, hK⟩ := hv
  have hx := B.exec
  have hb := B.bytes
  have hr := B.returns
  have hts := atoms_spec (ws := wsX2_firstFault) B.pre
  have hown : s.vm.findClass RX2 = some m.cls := findClass_of_methodNamed B.named
  have hlocks := B.notSynchronized
  have hinX2 : ∀ w ∈ u_ws RX2 TX2 2, w ∈ wsX2_firstFault := by decide +kernel
  have hw0 := hts (.fieldLink RX2 15 "RunningHeads$Pad" "length" "I") (by decide +kernel)
  have hw1 := hts (.fieldLink RX2 9 "RunningHeads$Pad" "codes" "[I") (by decide +kernel)
  have hl := lv_entry ([.ref a_o]) (n := 3) (Nat.le_of_ble_eq_true rfl)
  rw [lg_entry_eq]
  generalize (lg_sl ([.ref a_o]) ++ List.replicate (3 - (lg_sl ([.ref a_o])).length) Slot.unset).toArray = ls at hl ⊢
  have hl : lv_has ls 3 [(0, .ref a_o)] := hl
  refine W_gen (fun Q hQ => ?_)
  unfold f_X2_firstFault at hf
  refine lv_iconst (v := 0) hx hb dX2_firstFault_0 (by decide) ?_
  refine lv_istore_n (lv' := [(1, .int 0), (0, .ref a_o)]) hx hb dX2_firstFault_1 rfl hl (by decide) rfl (fun ls hl => ?_)
  refine lv_iconst (v := 0) hx hb dX2_firstFault_2 (by decide) ?_
  refine lv_istore_n (lv' := [(2, .int 0), (1, .int 0), (0, .ref a_o)]) hx hb dX2_firstFault_3 rfl hl (by decide) rfl (fun ls hl => ?_)
  have hk_4 : ∀ (i2_4 : Int32) (i1_4 : Int32) (ls : Array Slot) (hf : (if i1_4 < 9 then (some v_length) else (some (-6))) = some res) (hl : lv_has ls 3 [(1, .int i1_4), (0, .ref a_o)]), W p l e (headSpec wsX2_firstFault rm_X2_firstFault).room s m ([.ref a_o] : List Value).toArray below meth c s.heap [] 0 0 Q (F0 m 37 ls []) := by
    intro i2_4 i1_4 ls hf hl
    refine lv_iload_n hx hb dX2_firstFault_37 rfl (lv_at hl 0 rfl) ?_
    refine lv_bipush (v := 9) hx hb dX2_firstFault_38 (by decide) ?_
    refine lv_icmp_lt (tgt := 48) hx hb dX2_firstFault_40 (by decide) (fun c_40 => ?_) (fun c_40 => ?_)
    · have hf := (if_pos c_40).symm.trans hf
      refine lv_aload_n hx hb dX2_firstFault_48 rfl (lv_at hl 1 rfl) ?_
      refine va_get (D := (dC, dI)) (ci := 2) (v := .int v_length) (C := RX2) (T := TX2) (N := 2) hx hb hts hinX2 hown hK hP 0 rfl rfl 1 (by decide) hw0 (fun _ h9 => h9) rfl dX2_firstFault_49 ?_
      rw [hQ]; exact W.iret (v := v_length) hx hb hr (fun t ht hW => ⟨v_length, rfl, (Option.some.inj hf), ht⟩) (fun _ h => absurd h List.not_mem_nil) dX2_firstFault_52
    have hf := (if_neg c_40).symm.trans hf
    refine lv_bipush (v := (-6)) hx hb dX2_firstFault_43 (by decide) ?_
    refine lv_goto (tgt := 52) hx hb dX2_firstFault_45 (by decide) ?_
    rw [hQ]; exact W.iret (v := (-6)) hx hb hr (fun t ht hW => ⟨(-6), rfl, (Option.some.inj hf), ht⟩) (fun _ h => absurd h List.not_mem_nil) dX2_firstFault_52
  have lp_4 : ∀ (K : Int32 → Int32 → Option (Int32)) (hk : ∀ (i2_4 : Int32) (i1_4 : Int32) (ls : Array Slot) (hf : K i2_4 i1_4 = some res) (hl : lv_has ls 3 [(1, .int i1_4), (0, .ref a_o)]), W p l e (headSpec wsX2_firstFault rm_X2_firstFault).room s m ([.ref a_o] : List Value).toArray below meth c s.heap [] 0 0 Q (F0 m 37 ls [])) (n : Nat) (i2_4 : Int32) (i1_4 : Int32) (ls : Array Slot) (hf : L_X2_firstFault_4 K v_length v_codes n i2_4 i1_4 = some res) (hl : lv_has ls 3 [(2, .int i2_4), (1, .int i1_4), (0, .ref a_o)]), W p l e (headSpec wsX2_firstFault rm_X2_firstFault).room s m ([.ref a_o] : List Value).toArray below meth c s.heap [] 0 0 Q (F0 m 4 ls []) := by
    intro K hk n
    induction n with
    | zero => intro i2_4 i1_4 ls hf hl; exact absurd ((L_X2_firstFault_4_0 _ _ _ _ _).symm.trans hf) (by simp)
    | succ n ih =>
      intro i2_4 i1_4 ls hf hl
      have hf := (L_X2_firstFault_4_s _ _ _ _ _ _).symm.trans hf
      refine lv_iload_n hx hb dX2_firstFault_4 rfl (lv_at hl 0 rfl) ?_
      refine lv_aload_n hx hb dX2_firstFault_5 rfl (lv_at hl 2 rfl) ?_
      refine va_get (D := (dC, dI)) (ci := 2) (v := .int v_length) (C := RX2) (T := TX2) (N := 2) hx hb hts hinX2 hown hK hP 0 rfl rfl 1 (by decide) hw0 (fun _ h9 => h9) rfl dX2_firstFault_6 ?_
      refine lv_icmp_ge (tgt := 37) hx hb dX2_firstFault_9 (by decide) (fun c_9 => ?_) (fun c_9 => ?_)
      · have hf := (if_pos c_9).symm.trans hf
        exact hk i2_4 i1_4 ls hf (lv_sub hl [1, 2] rfl)
      have hf := (if_neg c_9).symm.trans hf
      refine lv_iload_n hx hb dX2_firstFault_12 rfl (lv_at hl 1 rfl) ?_
      refine lv_aload_n hx hb dX2_firstFault_13 rfl (lv_at hl 2 rfl) ?_
      refine va_get (D := (dC, dI)) (ci := 2) (v := .ref a_codes) (C := RX2) (T := TX2) (N := 2) hx hb hts hinX2 hown hK hP 0 rfl rfl 0 (by decide) hw1 (fun _ h9 => h9) rfl dX2_firstFault_14 ?_
      refine lv_iload_n hx hb dX2_firstFault_17 rfl (lv_at hl 0 rfl) ?_
      obtain ⟨g_18, hf⟩ := gd_some hf
      refine va_iald hx hb hK hP 1 0 rfl rfl (xin_vp g_18) dX2_firstFault_18 ?_
      have hPc := hP.sub (ws' := []) [] rfl
      refine vp_callSi (W.runS (As := [.int i1_4, .int (v_codes i2_4.toNatClampNeg)]) (rest := []) ⟨hx, hb, hml, hown, hts⟩ (c_X2_placeBehind l dC dI cI cJ cZ cO i1_4 (v_codes i2_4.toNatClampNeg) _ rfl) (va_cwS 2 hts gX2_firstFault_X2_placeBehind rfl rfl rfl (by decide +kernel) ⟨Nat.le_of_ble_eq_true rfl, Nat.le_of_ble_eq_true rfl⟩) ⟨fun a U g mk q => ⟨q.1, q.2.1, va_K.moved (u := U) (U := U.calling g mk a) (Vm.Alike.refl U.vm) q.2.2⟩, fun U hU hW => ⟨rfl, by rw [hU]; exact hPc, va_K.moved hW.alike hK⟩⟩ rfl rfl hl.1 rfl (lv_room (Nat.le_of_ble_eq_true rfl)) dX2_firstFault_19 ⟨Nat.le_of_ble_eq_true rfl, Nat.le_of_ble_eq_true rfl⟩) (fun r hw => ?_)
      have hw := hw.symm; subst hw
      refine lv_istore_n (lv' := [(1, .int (f_X2_placeBehind i1_4 (v_codes i2_4.toNatClampNeg))), (2, .int i2_4), (0, .ref a_o)]) hx hb dX2_firstFault_22 rfl hl (by decide) rfl (fun ls hl => ?_)
      refine lv_iload_n hx hb dX2_firstFault_23 rfl (lv_at hl 0 rfl) ?_
      refine lv_bipush (v := 12) hx hb dX2_firstFault_24 (by decide) ?_
      refine lv_icmp_ne (tgt := 31) hx hb dX2_firstFault_26 (by decide) (fun c_26 => ?_) (fun c_26 => ?_)
      · have hf := (if_neg c_26).symm.trans hf
        refine lv_iinc (v := (i2_4 + 1)) (lv' := [(2, .int (i2_4 + 1)), (1, .int (f_X2_placeBehind i1_4 (v_codes i2_4.toNatClampNeg))), (0, .ref a_o)]) hx hb dX2_firstFault_31 hl (k := 1) rfl rfl (by decide) rfl (fun ls hl => ?_)
        refine lv_goto (tgt := 4) hx hb dX2_firstFault_34 (by decide) ?_
        exact ih (i2_4 + 1) (f_X2_placeBehind i1_4 (v_codes i2_4.toNatClampNeg)) ls hf (lv_sub hl [0, 1, 2] rfl)
      have hf := (if_pos c_26).symm.trans hf
      refine lv_iload_n hx hb dX2_firstFault_29 rfl (lv_at hl 1 rfl) ?_
      rw [hQ]; exact W.iret (v := i2_4) hx hb hr (fun t ht hW => ⟨i2_4, rfl, (Option.some.inj hf), ht⟩) (fun _ h => absurd h List.not_mem_nil) dX2_firstFault_30
  exact lp_4 _ hk_4 FU 0 0 ls hf (lv_sub hl [0, 1, 2] rfl)
abbrev rm_X2_addEntriesTo : Room := { frames := 2, cells := 0, slots := 0, locals := 47 }
set_option maxHeartbeats 4000000 in
set_option maxRecDepth 100000 in
theorem c_X2_addEntriesTo (l : Launch) (dC : Nat → ClassId) (dI : Nat → Nat → Nat) (cI cJ cZ cO : ClassId) (a_o : Nat) (a_codes : Nat) (v_length : Int32) (v_codes : Nat → Int32) (a_x1 : Nat) (a_x1_settings : Nat) (a_x1_lines : Nat) (a_x1_words : Nat) (v_x1_entries : Int32) (v_x1_lines : Nat → Int32) (v_x1_words : Nat → Int64) (sz : Nat) (res : Int32 × Int32 × (Nat → Int32) × (Nat → Int64)) (hf : f_X2_addEntriesTo v_length v_codes v_x1_entries v_x1_lines v_x1_words = some res) : Met l yX2_addEntriesTo wsX2_addEntriesTo rm_X2_addEntriesTo (va_Pc [.ref a_o, .ref a_x1] (fun U => U.heap.size = sz ∧ va_P (dC, dI) vwCl [(a_o, .inr (2, [.ref a_codes, .int v_length])), (a_codes, .inl (cI, 60, .inl v_codes)), (a_x1, .inr (1, [.ref a_x1_settings, .ref a_x1_lines, .ref a_x1_words, .int v_x1_entries])), (a_x1_lines, .inl (cI, 30, .inl v_x1_lines)), (a_x1_words, .inl (cJ, 30, .inr (.inl v_x1_words)))] U.heap ∧ va_K (dC, dI) vwCl [(cI, .int), (cJ, .long), (cZ, .boolean), (cO, .object RX1)] U ∧ va_D (fun _ => True) [(a_o, .inr (2, [.ref a_codes, .int v_length])), (a_codes, .inl (cI, 60, .inl v_codes)), (a_x1, .inr (1, [.ref a_x1_settings, .ref a_x1_lines, .ref a_x1_words, .int v_x1_entries])), (a_x1_lines, .inl (cI, 30, .inl v_x1_lines)), (a_x1_words, .inl (cJ, 30, .inr (.inl v_x1_words)))])) (va_Qi (fun (r : Int32) (u : Int32 × (Nat → Int32) × (Nat → Int64)) => r = res.1 ∧ u = res.2) (fun u t => va_P (dC, dI) vwCl [(a_o, .inr (2, [.ref a_codes, .int v_length])), (a_codes, .inl (cI, 60, .inl v_codes)), (a_x1, .inr (1, [.ref a_x1_settings, .ref a_x1_lines, .ref a_x1_words, .int u.1])), (a_x1_lines, .inl (cI, 30, .inl u.2.1)), (a_x1_words, .inl (cJ, 30, .inr (.inl u.2.2)))] t.heap ∧ va_K (dC, dI) vwCl [(cI, .int), (cJ, .long), (cZ, .boolean), (cO, .object RX1)] t ∧ va_D (va_A [(a_o, .inr (2, [.ref a_codes, .int v_length])), (a_codes, .inl (cI, 60, .inl v_codes)), (a_x1, .inr (1, [.ref a_x1_settings, .ref a_x1_lines, .ref a_x1_words, .int v_x1_entries])), (a_x1_lines, .inl (cI, 30, .inl v_x1_lines)), (a_x1_words, .inl (cJ, 30, .inr (.inl v_x1_words)))] sz) [(a_o, .inr (2, [.ref a_codes, .int v_length])), (a_codes, .inl (cI, 60, .inl v_codes)), (a_x1, .inr (1, [.ref a_x1_settings, .ref a_x1_lines, .ref a_x1_words, .int u.1])), (a_x1_lines, .inl (cI, 30, .inl u.2.1)), (a_x1_words, .inl (cJ, 30, .inr (.inl u.2.2)))]) (va_A [(a_o, .inr (2, [.ref a_codes, .int v_length])), (a_codes, .inl (cI, 60, .inl v_codes)), (a_x1, .inr (1, [.ref a_x1_settings, .ref a_x1_lines, .ref a_x1_words, .int v_x1_entries])), (a_x1_lines, .inl (cI, 30, .inl v_x1_lines)), (a_x1_words, .inl (cJ, 30, .inr (.inl v_x1_words)))] sz)) 0 0 (va_A [(a_o, .inr (2, [.ref a_codes, .int v_length])), (a_codes, .inl (cI, 60, .inl v_codes)), (a_x1, .inr (1, [.ref a_x1_settings, .ref a_x1_lines, .ref a_x1_words, .int v_x1_entries])), (a_x1_lines, .inl (cI, 30, .inl v_x1_lines)), (a_x1_words, .inl (cJ, 30, .inr (.inl v_x1_words)))] sz) := by
  refine Met.ofW (cc := cX2_addEntriesTo) (maxL := 7) (ret := (some .boolean)) (by decide) rfl ?_
  intro p e s m args below meth c s₁ B hml hv
  obtain ⟨rfl, hsz, hP, hK, hD0⟩ := hv
  have hx := B.exec
  have hb := B.bytes
  have hr := B.returns
  have hts := atoms_spec (ws := wsX2_addEntriesTo) B.pre
  have hown : s.vm.findClass RX2 = some m.cls := findClass_of_methodNamed B.named
  have hlocks := B.notSynchronized
  have hinX2 : ∀ w ∈ u_ws RX2 TX2 2, w ∈ wsX2_addEntriesTo := by decide +kernel
  have hw0 := hts (.fieldLink RX2 15 "RunningHeads$Pad" "length" "I") (by decide +kernel)
  have hw1 := hts (.fieldLink RX2 9 "RunningHeads$Pad" "codes" "[I") (by decide +kernel)
  have hl := lv_entry ([.ref a_o, .ref a_x1]) (n := 7) (Nat.le_of_ble_eq_true rfl)
  rw [lg_entry_eq]
  generalize (lg_sl ([.ref a_o, .ref a_x1]) ++ List.replicate (7 - (lg_sl ([.ref a_o, .ref a_x1])).length) Slot.unset).toArray = ls at hl ⊢
  have hl : lv_has ls 7 [(0, .ref a_o), (1, .ref a_x1)] := hl
  subst hsz
  have hD := hD0.self (sz := s.heap.size)
  generalize hAe : va_A [(a_o, .inr (2, [.ref a_codes, .int v_length])), (a_codes, .inl (cI, 60, .inl v_codes)), (a_x1, .inr (1, [.ref a_x1_settings, .ref a_x1_lines, .ref a_x1_words, .int v_x1_entries])), (a_x1_lines, .inl (cI, 30, .inl v_x1_lines)), (a_x1_words, .inl (cJ, 30, .inr (.inl v_x1_words)))] s.heap.size = A at hD ⊢
  have hA : ∀ q : Nat, s.heap.size ≤ q → A q := fun q h => by rw [← hAe]; exact Or.inr h
  refine W_gen (fun Q hQ => ?_)
  refine W_start (A := A) hP (fun H locs hP hS => ?_)
  unfold f_X2_addEntriesTo at hf
  refine lv_lconst (v := 0) hx hb dX2_addEntriesTo_0 (by decide) ?_
  refine lv_lstore_n (lv' := [(2, .long 0), (0, .ref a_o), (1, .ref a_x1)]) hx hb dX2_addEntriesTo_1 rfl hl (by decide) rfl (fun ls hl => ?_)
  refine lv_iconst (v := 0) hx hb dX2_addEntriesTo_2 (by decide) ?_
  refine lv_istore (lv' := [(4, .int 0), (2, .long 0), (0, .ref a_o), (1, .ref a_x1)]) hx hb dX2_addEntriesTo_3 hl (by decide) rfl (fun ls hl => ?_)
  refine lv_iconst (v := 0) hx hb dX2_addEntriesTo_5 (by decide) ?_
  refine lv_istore (lv' := [(5, .int 0), (4, .int 0), (2, .long 0), (0, .ref a_o), (1, .ref a_x1)]) hx hb dX2_addEntriesTo_6 hl (by decide) rfl (fun ls hl => ?_)
  have hk_8 : ∀ (i5_8 : Int32) (i4_8 : Int32) (j2_8 : Int64) (v_x1_entries_8 : Int32) (v_x1_lines_8 : Nat → Int32) (v_x1_words_8 : Nat → Int64) (H : Heap) (locs : List Loc) (ls : Array Slot) (hf : (Option.bind (f_X1_tell v_x1_entries_8 v_x1_lines_8 v_x1_words_8 j2_8 i4_8) (fun (r_102 : Int32 × Int32 × (Nat → Int32) × (Nat → Int64)) => gd (isb r_102.1) (some (r_102.1, r_102.2.1, r_102.2.2.1, r_102.2.2.2)))) = some res) (hP : va_P (dC, dI) vwCl [(a_o, .inr (2, [.ref a_codes, .int v_length])), (a_codes, .inl (cI, 60, .inl v_codes)), (a_x1, .inr (1, [.ref a_x1_settings, .ref a_x1_lines, .ref a_x1_words, .int v_x1_entries_8])), (a_x1_lines, .inl (cI, 30, .inl v_x1_lines_8)), (a_x1_words, .inl (cJ, 30, .inr (.inl v_x1_words_8)))] H) (hD : va_D A [(a_o, .inr (2, [.ref a_codes, .int v_length])), (a_codes, .inl (cI, 60, .inl v_codes)), (a_x1, .inr (1, [.ref a_x1_settings, .ref a_x1_lines, .ref a_x1_words, .int v_x1_entries_8])), (a_x1_lines, .inl (cI, 30, .inl v_x1_lines_8)), (a_x1_words, .inl (cJ, 30, .inr (.inl v_x1_words_8)))]) (hS : va_S A s.heap H locs) (hl : lv_has ls 7 [(4, .int i4_8), (2, .long j2_8), (1, .ref a_x1)]), W p l e (headSpec wsX2_addEntriesTo rm_X2_addEntriesTo).room s m ([.ref a_o, .ref a_x1] : List Value).toArray below meth c H locs 0 0 Q (F0 m 98 ls []) := by
    intro i5_8 i4_8 j2_8 v_x1_entries_8 v_x1_lines_8 v_x1_words_8 H locs ls hf hP hD hS hl
    refine lv_aload_n hx hb dX2_addEntriesTo_98 rfl (lv_at hl 2 rfl) ?_
    refine lv_lload_n hx hb dX2_addEntriesTo_99 rfl (lv_at hl 1 rfl) ?_
    refine lv_iload hx hb dX2_addEntriesTo_100 (lv_at hl 0 rfl) ?_
    obtain ⟨r_102, hu_102, hf⟩ := bd_some hf
    have hPc := hP.sub (ws' := [(a_x1, .inr (1, [.ref a_x1_settings, .ref a_x1_lines, .ref a_x1_words, .int v_x1_entries_8])), (a_x1_lines, .inl (cI, 30, .inl v_x1_lines_8)), (a_x1_words, .inl (cJ, 30, .inr (.inl v_x1_words_8)))]) [2, 3, 4] rfl
    have hDc := hD.sub (ws' := [(a_x1, .inr (1, [.ref a_x1_settings, .ref a_x1_lines, .ref a_x1_words, .int v_x1_entries_8])), (a_x1_lines, .inl (cI, 30, .inl v_x1_lines_8)), (a_x1_words, .inl (cJ, 30, .inr (.inl v_x1_words_8)))]) [2, 3, 4] (by decide) rfl
    have hFc := va_free (wc := [(a_x1, .inr (1, [.ref a_x1_settings, .ref a_x1_lines, .ref a_x1_words, .int v_x1_entries_8])), (a_x1_lines, .inl (cI, 30, .inl v_x1_lines_8)), (a_x1_words, .inl (cJ, 30, .inr (.inl v_x1_words_8)))]) hD hS hA [2, 3, 4] rfl
    refine va_calli (va_runV (As := [.long j2_8, .int i4_8]) (rest := []) ⟨hx, hb, hml, hown, hts⟩ (c_X1_tell l dC dI cI cJ cZ cO a_x1 a_x1_settings a_x1_lines a_x1_words v_x1_entries_8 v_x1_lines_8 v_x1_words_8 j2_8 i4_8 H.size _ hu_102) (cwV 2 hts gX2_addEntriesTo_X1_tell rfl rfl rfl (by decide +kernel) ⟨Nat.le_of_ble_eq_true rfl, Nat.le_of_ble_eq_true rfl⟩) ⟨fun a U g mk q => by obtain ⟨q0, q1, qP, qK, qD⟩ := q; exact ⟨q0, q1, qP, va_K.moved (u := U) (U := U.calling g mk a) (Vm.Alike.refl U.vm) qK, qD⟩, va_recv hK hPc (ci := 1) (q0 := 0) rfl rfl, fun U hU hW => ⟨rfl, by rw [hU], by rw [hU]; exact hPc, va_K.moved hW.alike hK, hDc.weaken (fun _ _ _ _ => trivial)⟩⟩ rfl rfl hl.1 rfl (lv_room (Nat.le_of_ble_eq_true rfl)) dX2_addEntriesTo_102 ⟨Nat.le_of_ble_eq_true rfl, Nat.le_of_ble_eq_true rfl⟩) hS (fun q _ h => hFc q h) hFc (fun r u t H1 locs ht hvm hw hB hz1 hk1 hS => ?_)
    have hw1 := hw.1.symm; have hw2 := hw.2.symm; subst hw1; subst hw2
    obtain ⟨hP1, hK1, hD1⟩ := hB
    rw [ht] at hP1
    obtain ⟨hP, hD⟩ := va_join (wr := [(a_o, .inr (2, [.ref a_codes, .int v_length])), (a_codes, .inl (cI, 60, .inl v_codes))]) (w1 := [(a_x1, .inr (1, [.ref a_x1_settings, .ref a_x1_lines, .ref a_x1_words, .int r_102.2.1])), (a_x1_lines, .inl (cI, 30, .inl r_102.2.2.1)), (a_x1_words, .inl (cJ, 30, .inr (.inl r_102.2.2.2)))]) hP hD [2, 3, 4] [0, 1] rfl rfl (by decide) (by decide) hk1 hFc hP1 hD1
    generalize H1 = H at hP hS ⊢
    have hP : va_P (dC, dI) vwCl [(a_o, .inr (2, [.ref a_codes, .int v_length])), (a_codes, .inl (cI, 60, .inl v_codes)), (a_x1, .inr (1, [.ref a_x1_settings, .ref a_x1_lines, .ref a_x1_words, .int r_102.2.1])), (a_x1_lines, .inl (cI, 30, .inl r_102.2.2.1)), (a_x1_words, .inl (cJ, 30, .inr (.inl r_102.2.2.2)))] H := hP
    have hD : va_D A [(a_o, .inr (2, [.ref a_codes, .int v_length])), (a_codes, .inl (cI, 60, .inl v_codes)), (a_x1, .inr (1, [.ref a_x1_settings, .ref a_x1_lines, .ref a_x1_words, .int r_102.2.1])), (a_x1_lines, .inl (cI, 30, .inl r_102.2.2.1)), (a_x1_words, .inl (cJ, 30, .inr (.inl r_102.2.2.2)))] := hD
    obtain ⟨g_105, hf⟩ := gd_some hf
    have hP9 := hP.sub (ws' := [(a_o, .inr (2, [.ref a_codes, .int v_length])), (a_codes, .inl (cI, 60, .inl v_codes)), (a_x1, .inr (1, [.ref a_x1_settings, .ref a_x1_lines, .ref a_x1_words, .int r_102.2.1])), (a_x1_lines, .inl (cI, 30, .inl r_102.2.2.1)), (a_x1_words, .inl (cJ, 30, .inr (.inl r_102.2.2.2)))]) [0, 1, 2, 3, 4] rfl
    have hD9 := hD.sub (ws' := [(a_o, .inr (2, [.ref a_codes, .int v_length])), (a_codes, .inl (cI, 60, .inl v_codes)), (a_x1, .inr (1, [.ref a_x1_settings, .ref a_x1_lines, .ref a_x1_words, .int r_102.2.1])), (a_x1_lines, .inl (cI, 30, .inl r_102.2.2.1)), (a_x1_words, .inl (cJ, 30, .inr (.inl r_102.2.2.2)))]) [0, 1, 2, 3, 4] (by decide) rfl
    have hq := (Option.some.inj hf); have hq1 := congrArg Prod.fst hq; have hq2 := congrArg Prod.snd hq
    rw [hQ]; exact W.zret (v := r_102.1) hx hb hr (isb_nar g_105) (fun t ht hW => ⟨⟨r_102.1, (r_102.2.1, r_102.2.2.1, r_102.2.2.2), rfl, ⟨hq1, hq2⟩, by rw [ht]; exact hP9, va_K.moved hW.alike hK, hD9⟩, hS.F ht⟩) hS.2.2 dX2_addEntriesTo_105
  have lp_8 : ∀ (K : Int32 → Int32 → Int64 → Int32 → (Nat → Int32) → (Nat → Int64) → Option (Int32 × Int32 × (Nat → Int32) × (Nat → Int64))) (hk : ∀ (i5_8 : Int32) (i4_8 : Int32) (j2_8 : Int64) (v_x1_entries_8 : Int32) (v_x1_lines_8 : Nat → Int32) (v_x1_words_8 : Nat → Int64) (H : Heap) (locs : List Loc) (ls : Array Slot) (hf : K i5_8 i4_8 j2_8 v_x1_entries_8 v_x1_lines_8 v_x1_words_8 = some res) (hP : va_P (dC, dI) vwCl [(a_o, .inr (2, [.ref a_codes, .int v_length])), (a_codes, .inl (cI, 60, .inl v_codes)), (a_x1, .inr (1, [.ref a_x1_settings, .ref a_x1_lines, .ref a_x1_words, .int v_x1_entries_8])), (a_x1_lines, .inl (cI, 30, .inl v_x1_lines_8)), (a_x1_words, .inl (cJ, 30, .inr (.inl v_x1_words_8)))] H) (hD : va_D A [(a_o, .inr (2, [.ref a_codes, .int v_length])), (a_codes, .inl (cI, 60, .inl v_codes)), (a_x1, .inr (1, [.ref a_x1_settings, .ref a_x1_lines, .ref a_x1_words, .int v_x1_entries_8])), (a_x1_lines, .inl (cI, 30, .inl v_x1_lines_8)), (a_x1_words, .inl (cJ, 30, .inr (.inl v_x1_words_8)))]) (hS : va_S A s.heap H locs) (hl : lv_has ls 7 [(4, .int i4_8), (2, .long j2_8), (1, .ref a_x1)]), W p l e (headSpec wsX2_addEntriesTo rm_X2_addEntriesTo).room s m ([.ref a_o, .ref a_x1] : List Value).toArray below meth c H locs 0 0 Q (F0 m 98 ls [])) (n : Nat) (i5_8 : Int32) (i4_8 : Int32) (j2_8 : Int64) (v_x1_entries_8 : Int32) (v_x1_lines_8 : Nat → Int32) (v_x1_words_8 : Nat → Int64) (H : Heap) (locs : List Loc) (ls : Array Slot) (hf : L_X2_addEntriesTo_8 K v_length v_codes n i5_8 i4_8 j2_8 v_x1_entries_8 v_x1_lines_8 v_x1_words_8 = some res) (hP : va_P (dC, dI) vwCl [(a_o, .inr (2, [.ref a_codes, .int v_length])), (a_codes, .inl (cI, 60, .inl v_codes)), (a_x1, .inr (1, [.ref a_x1_settings, .ref a_x1_lines, .ref a_x1_words, .int v_x1_entries_8])), (a_x1_lines, .inl (cI, 30, .inl v_x1_lines_8)), (a_x1_words, .inl (cJ, 30, .inr (.inl v_x1_words_8)))] H) (hD : va_D A [(a_o, .inr (2, [.ref a_codes, .int v_length])), (a_codes, .inl (cI, 60, .inl v_codes)), (a_x1, .inr (1, [.ref a_x1_settings, .ref a_x1_lines, .ref a_x1_words, .int v_x1_entries_8])), (a_x1_lines, .inl (cI, 30, .inl v_x1_lines_8)), (a_x1_words, .inl (cJ, 30, .inr (.inl v_x1_words_8)))]) (hS : va_S A s.heap H locs) (hl : lv_has ls 7 [(5, .int i5_8), (4, .int i4_8), (2, .long j2_8), (0, .ref a_o), (1, .ref a_x1)]), W p l e (headSpec wsX2_addEntriesTo rm_X2_addEntriesTo).room s m ([.ref a_o, .ref a_x1] : List Value).toArray below meth c H locs 0 0 Q (F0 m 8 ls []) := by
    intro K hk n
    induction n with
    | zero => intro i5_8 i4_8 j2_8 v_x1_entries_8 v_x1_lines_8 v_x1_words_8 H locs ls hf hP hD hS hl; exact absurd ((L_X2_addEntriesTo_8_0 _ _ _ _ _ _ _ _ _).symm.trans hf) (by simp)
    | succ n ih =>
      intro i5_8 i4_8 j2_8 v_x1_entries_8 v_x1_lines_8 v_x1_words_8 H locs ls hf hP hD hS hl
      have hf := (L_X2_addEntriesTo_8_s _ _ _ _ _ _ _ _ _ _).symm.trans hf
      refine lv_iload hx hb dX2_addEntriesTo_8 (lv_at hl 0 rfl) ?_
      refine lv_aload_n hx hb dX2_addEntriesTo_10 rfl (lv_at hl 3 rfl) ?_
      refine va_get (D := (dC, dI)) (ci := 2) (v := .int v_length) (C := RX2) (T := TX2) (N := 2) hx hb hts hinX2 hown hK hP 0 rfl rfl 1 (by decide) hw0 (fun _ h9 => h9) rfl dX2_addEntriesTo_11 ?_
      refine lv_icmp_ge (tgt := 98) hx hb dX2_addEntriesTo_14 (by decide) (fun c_14 => ?_) (fun c_14 => ?_)
      · have hf := (if_pos c_14).symm.trans hf
        exact hk i5_8 i4_8 j2_8 v_x1_entries_8 v_x1_lines_8 v_x1_words_8 _ _ ls hf (hP.sub [0, 1, 2, 3, 4] rfl) (hD.sub [0, 1, 2, 3, 4] (by decide) rfl) hS (lv_sub hl [1, 2, 4] rfl)
      have hf := (if_neg c_14).symm.trans hf
      refine lv_aload_n hx hb dX2_addEntriesTo_17 rfl (lv_at hl 3 rfl) ?_
      refine va_get (D := (dC, dI)) (ci := 2) (v := .ref a_codes) (C := RX2) (T := TX2) (N := 2) hx hb hts hinX2 hown hK hP 0 rfl rfl 0 (by decide) hw1 (fun _ h9 => h9) rfl dX2_addEntriesTo_18 ?_
      refine lv_iload hx hb dX2_addEntriesTo_21 (lv_at hl 0 rfl) ?_
      obtain ⟨g_23, hf⟩ := gd_some hf
      refine va_iald hx hb hK hP 1 0 rfl rfl (xin_vp g_23) dX2_addEntriesTo_23 ?_
      refine lv_istore (lv' := [(6, .int (v_codes i5_8.toNatClampNeg)), (5, .int i5_8), (4, .int i4_8), (2, .long j2_8), (0, .ref a_o), (1, .ref a_x1)]) hx hb dX2_addEntriesTo_24 hl (by decide) rfl (fun ls hl => ?_)
      refine lv_iload hx hb dX2_addEntriesTo_26 (lv_at hl 0 rfl) ?_
      have hPc := hP.sub (ws' := []) [] rfl
      refine vp_callSi (W.runS (As := [.int (v_codes i5_8.toNatClampNeg)]) (rest := []) ⟨hx, hb, hml, hown, hts⟩ (c_X2_isLetter l dC dI cI cJ cZ cO (v_codes i5_8.toNatClampNeg) _ rfl) (va_cwS 1 hts gX2_addEntriesTo_X2_isLetter rfl rfl rfl (by decide +kernel) ⟨Nat.le_of_ble_eq_true rfl, Nat.le_of_ble_eq_true rfl⟩) ⟨fun a U g mk q => ⟨q.1, q.2.1, va_K.moved (u := U) (U := U.calling g mk a) (Vm.Alike.refl U.vm) q.2.2⟩, fun U hU hW => ⟨rfl, by rw [hU]; exact hPc, va_K.moved hW.alike hK⟩⟩ rfl rfl hl.1 rfl (lv_room (Nat.le_of_ble_eq_true rfl)) dX2_addEntriesTo_28 ⟨Nat.le_of_ble_eq_true rfl, Nat.le_of_ble_eq_true rfl⟩) (fun r hw => ?_)
      have hw := hw.symm; subst hw
      refine lv_if_eq (tgt := 44) hx hb dX2_addEntriesTo_31 (by decide) (fun c_31 => ?_) (fun c_31 => ?_)
      · have hf := (if_pos c_31).symm.trans hf
        refine lv_iload hx hb dX2_addEntriesTo_44 (lv_at hl 0 rfl) ?_
        have hPc := hP.sub (ws' := []) [] rfl
        refine vp_callSi (W.runS (As := [.int (v_codes i5_8.toNatClampNeg)]) (rest := []) ⟨hx, hb, hml, hown, hts⟩ (c_X2_isDigit l dC dI cI cJ cZ cO (v_codes i5_8.toNatClampNeg) _ rfl) (va_cwS 1 hts gX2_addEntriesTo_X2_isDigit rfl rfl rfl (by decide +kernel) ⟨Nat.le_of_ble_eq_true rfl, Nat.le_of_ble_eq_true rfl⟩) ⟨fun a U g mk q => ⟨q.1, q.2.1, va_K.moved (u := U) (U := U.calling g mk a) (Vm.Alike.refl U.vm) q.2.2⟩, fun U hU hW => ⟨rfl, by rw [hU]; exact hPc, va_K.moved hW.alike hK⟩⟩ rfl rfl hl.1 rfl (lv_room (Nat.le_of_ble_eq_true rfl)) dX2_addEntriesTo_46 ⟨Nat.le_of_ble_eq_true rfl, Nat.le_of_ble_eq_true rfl⟩) (fun r hw => ?_)
        have hw := hw.symm; subst hw
        refine lv_if_eq (tgt := 68) hx hb dX2_addEntriesTo_49 (by decide) (fun c_49 => ?_) (fun c_49 => ?_)
        · have hf := (if_pos c_49).symm.trans hf
          refine lv_iload hx hb dX2_addEntriesTo_68 (lv_at hl 0 rfl) ?_
          refine lv_bipush (v := 44) hx hb dX2_addEntriesTo_70 (by decide) ?_
          refine lv_icmp_ne (tgt := 92) hx hb dX2_addEntriesTo_72 (by decide) (fun c_72 => ?_) (fun c_72 => ?_)
          · have hf := (if_neg c_72).symm.trans hf
            refine lv_iinc (v := (i5_8 + 1)) (lv' := [(5, .int (i5_8 + 1)), (6, .int (v_codes i5_8.toNatClampNeg)), (4, .int i4_8), (2, .long j2_8), (0, .ref a_o), (1, .ref a_x1)]) hx hb dX2_addEntriesTo_92 hl (k := 1) rfl rfl (by decide) rfl (fun ls hl => ?_)
            refine lv_goto (tgt := 8) hx hb dX2_addEntriesTo_95 (by decide) ?_
            exact ih (i5_8 + 1) i4_8 j2_8 v_x1_entries_8 v_x1_lines_8 v_x1_words_8 _ _ ls hf (hP.sub [0, 1, 2, 3, 4] rfl) (hD.sub [0, 1, 2, 3, 4] (by decide) rfl) hS (lv_sub hl [0, 2, 3, 4, 5] rfl)
          have hf := (if_pos c_72).symm.trans hf
          refine lv_aload_n hx hb dX2_addEntriesTo_75 rfl (lv_at hl 5 rfl) ?_
          refine lv_lload_n hx hb dX2_addEntriesTo_76 rfl (lv_at hl 3 rfl) ?_
          refine lv_iload hx hb dX2_addEntriesTo_77 (lv_at hl 2 rfl) ?_
          obtain ⟨r_79, hu_79, hf⟩ := bd_some hf
          have hPc := hP.sub (ws' := [(a_x1, .inr (1, [.ref a_x1_settings, .ref a_x1_lines, .ref a_x1_words, .int v_x1_entries_8])), (a_x1_lines, .inl (cI, 30, .inl v_x1_lines_8)), (a_x1_words, .inl (cJ, 30, .inr (.inl v_x1_words_8)))]) [2, 3, 4] rfl
          have hDc := hD.sub (ws' := [(a_x1, .inr (1, [.ref a_x1_settings, .ref a_x1_lines, .ref a_x1_words, .int v_x1_entries_8])), (a_x1_lines, .inl (cI, 30, .inl v_x1_lines_8)), (a_x1_words, .inl (cJ, 30, .inr (.inl v_x1_words_8)))]) [2, 3, 4] (by decide) rfl
          have hFc := va_free (wc := [(a_x1, .inr (1, [.ref a_x1_settings, .ref a_x1_lines, .ref a_x1_words, .int v_x1_entries_8])), (a_x1_lines, .inl (cI, 30, .inl v_x1_lines_8)), (a_x1_words, .inl (cJ, 30, .inr (.inl v_x1_words_8)))]) hD hS hA [2, 3, 4] rfl
          refine va_calli (va_runV (As := [.long j2_8, .int i4_8]) (rest := []) ⟨hx, hb, hml, hown, hts⟩ (c_X1_tell l dC dI cI cJ cZ cO a_x1 a_x1_settings a_x1_lines a_x1_words v_x1_entries_8 v_x1_lines_8 v_x1_words_8 j2_8 i4_8 H.size _ hu_79) (cwV 2 hts gX2_addEntriesTo_X1_tell rfl rfl rfl (by decide +kernel) ⟨Nat.le_of_ble_eq_true rfl, Nat.le_of_ble_eq_true rfl⟩) ⟨fun a U g mk q => by obtain ⟨q0, q1, qP, qK, qD⟩ := q; exact ⟨q0, q1, qP, va_K.moved (u := U) (U := U.calling g mk a) (Vm.Alike.refl U.vm) qK, qD⟩, va_recv hK hPc (ci := 1) (q0 := 0) rfl rfl, fun U hU hW => ⟨rfl, by rw [hU], by rw [hU]; exact hPc, va_K.moved hW.alike hK, hDc.weaken (fun _ _ _ _ => trivial)⟩⟩ rfl rfl hl.1 rfl (lv_room (Nat.le_of_ble_eq_true rfl)) dX2_addEntriesTo_79 ⟨Nat.le_of_ble_eq_true rfl, Nat.le_of_ble_eq_true rfl⟩) hS (fun q _ h => hFc q h) hFc (fun r u t H1 locs ht hvm hw hB hz1 hk1 hS => ?_)
          have hw1 := hw.1.symm; have hw2 := hw.2.symm; subst hw1; subst hw2
          obtain ⟨hP1, hK1, hD1⟩ := hB
          rw [ht] at hP1
          obtain ⟨hP, hD⟩ := va_join (wr := [(a_o, .inr (2, [.ref a_codes, .int v_length])), (a_codes, .inl (cI, 60, .inl v_codes))]) (w1 := [(a_x1, .inr (1, [.ref a_x1_settings, .ref a_x1_lines, .ref a_x1_words, .int r_79.2.1])), (a_x1_lines, .inl (cI, 30, .inl r_79.2.2.1)), (a_x1_words, .inl (cJ, 30, .inr (.inl r_79.2.2.2)))]) hP hD [2, 3, 4] [0, 1] rfl rfl (by decide) (by decide) hk1 hFc hP1 hD1
          generalize H1 = H at hP hS ⊢
          have hP : va_P (dC, dI) vwCl [(a_o, .inr (2, [.ref a_codes, .int v_length])), (a_codes, .inl (cI, 60, .inl v_codes)), (a_x1, .inr (1, [.ref a_x1_settings, .ref a_x1_lines, .ref a_x1_words, .int r_79.2.1])), (a_x1_lines, .inl (cI, 30, .inl r_79.2.2.1)), (a_x1_words, .inl (cJ, 30, .inr (.inl r_79.2.2.2)))] H := hP
          have hD : va_D A [(a_o, .inr (2, [.ref a_codes, .int v_length])), (a_codes, .inl (cI, 60, .inl v_codes)), (a_x1, .inr (1, [.ref a_x1_settings, .ref a_x1_lines, .ref a_x1_words, .int r_79.2.1])), (a_x1_lines, .inl (cI, 30, .inl r_79.2.2.1)), (a_x1_words, .inl (cJ, 30, .inr (.inl r_79.2.2.2)))] := hD
          refine lv_if_ne (tgt := 87) hx hb dX2_addEntriesTo_82 (by decide) (fun c_82 => ?_) (fun c_82 => ?_)
          · have hf := (if_neg c_82).symm.trans hf
            refine lv_lconst (v := 0) hx hb dX2_addEntriesTo_87 (by decide) ?_
            refine lv_lstore_n (lv' := [(2, .long 0), (6, .int (v_codes i5_8.toNatClampNeg)), (5, .int i5_8), (4, .int i4_8), (0, .ref a_o), (1, .ref a_x1)]) hx hb dX2_addEntriesTo_88 rfl hl (by decide) rfl (fun ls hl => ?_)
            refine lv_iconst (v := 0) hx hb dX2_addEntriesTo_89 (by decide) ?_
            refine lv_istore (lv' := [(4, .int 0), (2, .long 0), (6, .int (v_codes i5_8.toNatClampNeg)), (5, .int i5_8), (0, .ref a_o), (1, .ref a_x1)]) hx hb dX2_addEntriesTo_90 hl (by decide) rfl (fun ls hl => ?_)
            refine lv_iinc (v := (i5_8 + 1)) (lv' := [(5, .int (i5_8 + 1)), (4, .int 0), (2, .long 0), (6, .int (v_codes i5_8.toNatClampNeg)), (0, .ref a_o), (1, .ref a_x1)]) hx hb dX2_addEntriesTo_92 hl (k := 3) rfl rfl (by decide) rfl (fun ls hl => ?_)
            refine lv_goto (tgt := 8) hx hb dX2_addEntriesTo_95 (by decide) ?_
            exact ih (i5_8 + 1) 0 0 r_79.2.1 r_79.2.2.1 r_79.2.2.2 _ _ ls hf (hP.sub [0, 1, 2, 3, 4] rfl) (hD.sub [0, 1, 2, 3, 4] (by decide) rfl) hS (lv_sub hl [0, 1, 2, 4, 5] rfl)
          have hf := (if_pos c_82).symm.trans hf
          refine lv_iconst (v := 0) hx hb dX2_addEntriesTo_85 (by decide) ?_
          have hP9 := hP.sub (ws' := [(a_o, .inr (2, [.ref a_codes, .int v_length])), (a_codes, .inl (cI, 60, .inl v_codes)), (a_x1, .inr (1, [.ref a_x1_settings, .ref a_x1_lines, .ref a_x1_words, .int r_79.2.1])), (a_x1_lines, .inl (cI, 30, .inl r_79.2.2.1)), (a_x1_words, .inl (cJ, 30, .inr (.inl r_79.2.2.2)))]) [0, 1, 2, 3, 4] rfl
          have hD9 := hD.sub (ws' := [(a_o, .inr (2, [.ref a_codes, .int v_length])), (a_codes, .inl (cI, 60, .inl v_codes)), (a_x1, .inr (1, [.ref a_x1_settings, .ref a_x1_lines, .ref a_x1_words, .int r_79.2.1])), (a_x1_lines, .inl (cI, 30, .inl r_79.2.2.1)), (a_x1_words, .inl (cJ, 30, .inr (.inl r_79.2.2.2)))]) [0, 1, 2, 3, 4] (by decide) rfl
          have hq := (Option.some.inj hf); have hq1 := congrArg Prod.fst hq; have hq2 := congrArg Prod.snd hq
          rw [hQ]; exact W.zret (v := 0) hx hb hr rfl (fun t ht hW => ⟨⟨0, (r_79.2.1, r_79.2.2.1, r_79.2.2.2), rfl, ⟨hq1, hq2⟩, by rw [ht]; exact hP9, va_K.moved hW.alike hK, hD9⟩, hS.F ht⟩) hS.2.2 dX2_addEntriesTo_86
        have hf := (if_neg c_49).symm.trans hf
        refine lv_bipush (v := 10) hx hb dX2_addEntriesTo_52 (by decide) ?_
        refine lv_iload hx hb dX2_addEntriesTo_54 (lv_at hl 2 rfl) ?_
        refine lv_imul hx hb dX2_addEntriesTo_56 ?_
        refine lv_iload hx hb dX2_addEntriesTo_57 (lv_at hl 0 rfl) ?_
        refine lv_iadd hx hb dX2_addEntriesTo_59 ?_
        refine lv_bipush (v := 48) hx hb dX2_addEntriesTo_60 (by decide) ?_
        refine lv_isub hx hb dX2_addEntriesTo_62 ?_
        refine lv_istore (lv' := [(4, .int (((10 * i4_8) + (v_codes i5_8.toNatClampNeg)) - 48)), (6, .int (v_codes i5_8.toNatClampNeg)), (5, .int i5_8), (2, .long j2_8), (0, .ref a_o), (1, .ref a_x1)]) hx hb dX2_addEntriesTo_63 hl (by decide) rfl (fun ls hl => ?_)
        refine lv_goto (tgt := 92) hx hb dX2_addEntriesTo_65 (by decide) ?_
        refine lv_iinc (v := (i5_8 + 1)) (lv' := [(5, .int (i5_8 + 1)), (4, .int (((10 * i4_8) + (v_codes i5_8.toNatClampNeg)) - 48)), (6, .int (v_codes i5_8.toNatClampNeg)), (2, .long j2_8), (0, .ref a_o), (1, .ref a_x1)]) hx hb dX2_addEntriesTo_92 hl (k := 2) rfl rfl (by decide) rfl (fun ls hl => ?_)
        refine lv_goto (tgt := 8) hx hb dX2_addEntriesTo_95 (by decide) ?_
        exact ih (i5_8 + 1) (((10 * i4_8) + (v_codes i5_8.toNatClampNeg)) - 48) j2_8 v_x1_entries_8 v_x1_lines_8 v_x1_words_8 _ _ ls hf (hP.sub [0, 1, 2, 3, 4] rfl) (hD.sub [0, 1, 2, 3, 4] (by decide) rfl) hS (lv_sub hl [0, 1, 3, 4, 5] rfl)
      have hf := (if_neg c_31).symm.trans hf
      refine lv_lload_n hx hb dX2_addEntriesTo_34 rfl (lv_at hl 3 rfl) ?_
      refine lv_iload hx hb dX2_addEntriesTo_35 (lv_at hl 0 rfl) ?_
      have hPc := hP.sub (ws' := []) [] rfl
      refine vp_callSl (W.runS (As := [.long j2_8, .int (v_codes i5_8.toNatClampNeg)]) (rest := []) ⟨hx, hb, hml, hown, hts⟩ (c_X4_longer l dC dI cI cJ cZ cO j2_8 (v_codes i5_8.toNatClampNeg) _ rfl) (va_cwS 2 hts gX2_addEntriesTo_X4_longer rfl rfl rfl (by decide +kernel) ⟨Nat.le_of_ble_eq_true rfl, Nat.le_of_ble_eq_true rfl⟩) ⟨fun a U g mk q => ⟨q.1, q.2.1, va_K.moved (u := U) (U := U.calling g mk a) (Vm.Alike.refl U.vm) q.2.2⟩, fun U hU hW => ⟨rfl, by rw [hU]; exact hPc, va_K.moved hW.alike hK⟩⟩ rfl rfl hl.1 rfl (lv_room (Nat.le_of_ble_eq_true rfl)) dX2_addEntriesTo_37 ⟨Nat.le_of_ble_eq_true rfl, Nat.le_of_ble_eq_true rfl⟩) (fun r hw => ?_)
      have hw := hw.symm; subst hw
      refine lv_lstore_n (lv' := [(2, .long (f_X4_longer j2_8 (v_codes i5_8.toNatClampNeg))), (6, .int (v_codes i5_8.toNatClampNeg)), (5, .int i5_8), (4, .int i4_8), (0, .ref a_o), (1, .ref a_x1)]) hx hb dX2_addEntriesTo_40 rfl hl (by decide) rfl (fun ls hl => ?_)
      refine lv_goto (tgt := 92) hx hb dX2_addEntriesTo_41 (by decide) ?_
      refine lv_iinc (v := (i5_8 + 1)) (lv' := [(5, .int (i5_8 + 1)), (2, .long (f_X4_longer j2_8 (v_codes i5_8.toNatClampNeg))), (6, .int (v_codes i5_8.toNatClampNeg)), (4, .int i4_8), (0, .ref a_o), (1, .ref a_x1)]) hx hb dX2_addEntriesTo_92 hl (k := 2) rfl rfl (by decide) rfl (fun ls hl => ?_)
      refine lv_goto (tgt := 8) hx hb dX2_addEntriesTo_95 (by decide) ?_
      exact ih (i5_8 + 1) i4_8 (f_X4_longer j2_8 (v_codes i5_8.toNatClampNeg)) v_x1_entries_8 v_x1_lines_8 v_x1_words_8 _ _ ls hf (hP.sub [0, 1, 2, 3, 4] rfl) (hD.sub [0, 1, 2, 3, 4] (by decide) rfl) hS (lv_sub hl [0, 3, 1, 4, 5] rfl)
  exact lp_8 _ hk_8 FU 0 0 0 v_x1_entries v_x1_lines v_x1_words _ _ ls hf (hP.sub [0, 1, 2, 3, 4] rfl) (hD.sub [0, 1, 2, 3, 4] (by decide) rfl) hS (lv_sub hl [0, 1, 2, 3, 4] rfl)
