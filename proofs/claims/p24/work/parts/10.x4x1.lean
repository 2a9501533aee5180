abbrev rm_X4_letters : Room := { frames := 0, cells := 0, slots := 0, locals := 0 }
set_option maxHeartbeats 4000000 in
set_option maxRecDepth 100000 in
theorem c_X4_letters (l : Launch) (dC : Nat → ClassId) (dI : Nat → Nat → Nat) (cI cJ cZ cO : ClassId) (j_0 : Int64) (res : Int32) (hf : f_X4_letters j_0 = res) : Met l yX4_letters wsX4_letters rm_X4_letters (va_Pc [.long j_0] (fun U => va_P (dC, dI) vwCl [] U.heap ∧ va_K (dC, dI) vwCl [(cI, .int), (cJ, .long), (cZ, .boolean), (cO, .object RX1)] U)) (vp_Si (fun r => r = res)) 0 0 (fun _ => False) := by
  refine Met.ofW (cc := cX4_letters) (maxL := 2) (ret := (some .int)) (by decide) rfl ?_
  intro p e s m args below meth c s₁ B hml hv
  obtain ⟨rfl, hP, hK⟩ := hv
  have hx := B.exec
  have hb := B.bytes
  have hr := B.returns
  have hts := atoms_spec (ws := wsX4_letters) B.pre
  have hown : s.vm.findClass RX4 = some m.cls := findClass_of_methodNamed B.named
  have hlocks := B.notSynchronized
  have hw0 := hts (.constantLong RX4 9 (255)) (by decide +kernel)
  have hl := lv_entry ([.long j_0]) (n := 2) (Nat.le_of_ble_eq_true rfl)
  rw [lg_entry_eq]
  generalize (lg_sl ([.long j_0]) ++ List.replicate (2 - (lg_sl ([.long j_0])).length) Slot.unset).toArray = ls at hl ⊢
  have hl : lv_has ls 2 [(0, .long j_0)] := hl
  refine W_gen (fun Q hQ => ?_)
  unfold f_X4_letters at hf
  refine lv_lload_n hx hb dX4_letters_0 rfl (lv_at hl 0 rfl) ?_
  refine lv_ldc2 (v := 255) hx hb hown hw0 dX4_letters_1 ?_
  refine lv_land hx hb dX4_letters_4 ?_
  refine lv_l2i (v := (j_0 &&& 255).toInt32) hx hb dX4_letters_5 rfl ?_
  rw [hQ]; exact W.iret (v := (j_0 &&& 255).toInt32) hx hb hr (fun t ht hW => ⟨(j_0 &&& 255).toInt32, rfl, hf, ht⟩) (fun _ h => absurd h List.not_mem_nil) dX4_letters_6
abbrev rm_X4_shiftOf : Room := { frames := 0, cells := 0, slots := 0, locals := 0 }
set_option maxHeartbeats 4000000 in
set_option maxRecDepth 100000 in
theorem c_X4_shiftOf (l : Launch) (dC : Nat → ClassId) (dI : Nat → Nat → Nat) (cI cJ cZ cO : ClassId) (i_0 : Int32) (res : Int32) (hf : f_X4_shiftOf i_0 = res) : Met l yX4_shiftOf wsX4_shiftOf rm_X4_shiftOf (va_Pc [.int i_0] (fun U => va_P (dC, dI) vwCl [] U.heap ∧ va_K (dC, dI) vwCl [(cI, .int), (cJ, .long), (cZ, .boolean), (cO, .object RX1)] U)) (vp_Si (fun r => r = res)) 0 0 (fun _ => False) := by
  refine Met.ofW (cc := cX4_shiftOf) (maxL := 1) (ret := (some .int)) (by decide) rfl ?_
  intro p e s m args below meth c s₁ B hml hv
  obtain ⟨rfl, hP, hK⟩ := hv
  have hx := B.exec
  have hb := B.bytes
  have hr := B.returns
  have hts := atoms_spec (ws := wsX4_shiftOf) B.pre
  have hown : s.vm.findClass RX4 = some m.cls := findClass_of_methodNamed B.named
  have hlocks := B.notSynchronized
  have hl := lv_entry ([.int i_0]) (n := 1) (Nat.le_of_ble_eq_true rfl)
  rw [lg_entry_eq]
  generalize (lg_sl ([.int i_0]) ++ List.replicate (1 - (lg_sl ([.int i_0])).length) Slot.unset).toArray = ls at hl ⊢
  have hl : lv_has ls 1 [(0, .int i_0)] := hl
  refine W_gen (fun Q hQ => ?_)
  unfold f_X4_shiftOf at hf
  refine lv_bipush (v := 8) hx hb dX4_shiftOf_0 (by decide) ?_
  refine lv_bipush (v := 7) hx hb dX4_shiftOf_2 (by decide) ?_
  refine lv_iload_n hx hb dX4_shiftOf_4 rfl (lv_at hl 0 rfl) ?_
  refine lv_isub hx hb dX4_shiftOf_5 ?_
  refine lv_imul hx hb dX4_shiftOf_6 ?_
  rw [hQ]; exact W.iret (v := (8 * (7 - i_0))) hx hb hr (fun t ht hW => ⟨(8 * (7 - i_0)), rfl, hf, ht⟩) (fun _ h => absurd h List.not_mem_nil) dX4_shiftOf_7
abbrev rm_X4_code : Room := { frames := 1, cells := 0, slots := 0, locals := 21 }
set_option maxHeartbeats 4000000 in
set_option maxRecDepth 100000 in
theorem c_X4_code (l : Launch) (dC : Nat → ClassId) (dI : Nat → Nat → Nat) (cI cJ cZ cO : ClassId) (j_0 : Int64) (i_2 : Int32) (res : Int32) (hf : f_X4_code j_0 i_2 = res) : Met l yX4_code wsX4_code rm_X4_code (va_Pc [.long j_0, .int i_2] (fun U => va_P (dC, dI) vwCl [] U.heap ∧ va_K (dC, dI) vwCl [(cI, .int), (cJ, .long), (cZ, .boolean), (cO, .object RX1)] U)) (vp_Si (fun r => r = res)) 0 0 (fun _ => False) := by
  refine Met.ofW (cc := cX4_code) (maxL := 3) (ret := (some .int)) (by decide) rfl ?_
  intro p e s m args below meth c s₁ B hml hv
  obtain ⟨rfl, hP, hK⟩ := hv
  have hx := B.exec
  have hb := B.bytes
  have hr := B.returns
  have hts := atoms_spec (ws := wsX4_code) B.pre
  have hown : s.vm.findClass RX4 = some m.cls := findClass_of_methodNamed B.named
  have hlocks := B.notSynchronized
  have hl := lv_entry ([.long j_0, .int i_2]) (n := 3) (Nat.le_of_ble_eq_true rfl)
  rw [lg_entry_eq]
  generalize (lg_sl ([.long j_0, .int i_2]) ++ List.replicate (3 - (lg_sl ([.long j_0, .int i_2])).length) Slot.unset).toArray = ls at hl ⊢
  have hl : lv_has ls 3 [(0, .long j_0), (2, .int i_2)] := hl
  refine W_gen (fun Q hQ => ?_)
  unfold f_X4_code at hf
  refine lv_iload_n hx hb dX4_code_0 rfl (lv_at hl 1 rfl) ?_
  refine lv_if_lt (tgt := 26) hx hb dX4_code_1 (by decide) (fun c_1 => ?_) (fun c_1 => ?_)
  · have hf := (if_pos c_1).symm.trans hf
    refine lv_iconst (v := 0) hx hb dX4_code_26 (by decide) ?_
    rw [hQ]; exact W.iret (v := 0) hx hb hr (fun t ht hW => ⟨0, rfl, hf, ht⟩) (fun _ h => absurd h List.not_mem_nil) dX4_code_27
  have hf := (if_neg c_1).symm.trans hf
  refine lv_iload_n hx hb dX4_code_4 rfl (lv_at hl 1 rfl) ?_
  refine lv_lload_n hx hb dX4_code_5 rfl (lv_at hl 0 rfl) ?_
  have hPc := hP.sub (ws' := []) [] rfl
  refine vp_callSi (W.runS (As := [.long j_0]) (rest := [.int i_2]) ⟨hx, hb, hml, hown, hts⟩ (c_X4_letters l dC dI cI cJ cZ cO j_0 _ rfl) (va_cwS 1 hts gX4_code_X4_letters rfl rfl rfl (by decide +kernel) ⟨Nat.le_of_ble_eq_true rfl, Nat.le_of_ble_eq_true rfl⟩) ⟨fun a U g mk q => ⟨q.1, q.2.1, va_K.moved (u := U) (U := U.calling g mk a) (Vm.Alike.refl U.vm) q.2.2⟩, fun U hU hW => ⟨rfl, by rw [hU]; exact hPc, va_K.moved hW.alike hK⟩⟩ rfl rfl hl.1 rfl (lv_room (Nat.le_of_ble_eq_true rfl)) dX4_code_6 ⟨Nat.le_of_ble_eq_true rfl, Nat.le_of_ble_eq_true rfl⟩) (fun r hw => ?_)
  have hw := hw.symm; subst hw
  refine lv_icmp_ge (tgt := 26) hx hb dX4_code_9 (by decide) (fun c_9 => ?_) (fun c_9 => ?_)
  · have hf := (if_pos c_9).symm.trans hf
    refine lv_iconst (v := 0) hx hb dX4_code_26 (by decide) ?_
    rw [hQ]; exact W.iret (v := 0) hx hb hr (fun t ht hW => ⟨0, rfl, hf, ht⟩) (fun _ h => absurd h List.not_mem_nil) dX4_code_27
  have hf := (if_neg c_9).symm.trans hf
  refine lv_lload_n hx hb dX4_code_12 rfl (lv_at hl 0 rfl) ?_
  refine lv_iload_n hx hb dX4_code_13 rfl (lv_at hl 1 rfl) ?_
  have hPc := hP.sub (ws' := []) [] rfl
  refine vp_callSi (W.runS (As := [.int i_2]) (rest := [.long j_0]) ⟨hx, hb, hml, hown, hts⟩ (c_X4_shiftOf l dC dI cI cJ cZ cO i_2 _ rfl) (va_cwS 1 hts gX4_code_X4_shiftOf rfl rfl rfl (by decide +kernel) ⟨Nat.le_of_ble_eq_true rfl, Nat.le_of_ble_eq_true rfl⟩) ⟨fun a U g mk q => ⟨q.1, q.2.1, va_K.moved (u := U) (U := U.calling g mk a) (Vm.Alike.refl U.vm) q.2.2⟩, fun U hU hW => ⟨rfl, by rw [hU]; exact hPc, va_K.moved hW.alike hK⟩⟩ rfl rfl hl.1 rfl (lv_room (Nat.le_of_ble_eq_true rfl)) dX4_code_14 ⟨Nat.le_of_ble_eq_true rfl, Nat.le_of_ble_eq_true rfl⟩) (fun r hw => ?_)
  have hw := hw.symm; subst hw
  refine lv_lushr (v := (ushrL j_0 (f_X4_shiftOf i_2))) hx hb dX4_code_17 rfl ?_
  refine lv_l2i (v := (ushrL j_0 (f_X4_shiftOf i_2)).toInt32) hx hb dX4_code_18 rfl ?_
  refine lv_sipush (v := 255) hx hb dX4_code_19 (by decide) ?_
  refine lv_iand hx hb dX4_code_22 ?_
  refine lv_goto (tgt := 27) hx hb dX4_code_23 (by decide) ?_
  rw [hQ]; exact W.iret (v := ((ushrL j_0 (f_X4_shiftOf i_2)).toInt32 &&& 255)) hx hb hr (fun t ht hW => ⟨((ushrL j_0 (f_X4_shiftOf i_2)).toInt32 &&& 255), rfl, hf, ht⟩) (fun _ h => absurd h List.not_mem_nil) dX4_code_27
abbrev rm_X4_longer : Room := { frames := 1, cells := 0, slots := 0, locals := 21 }
set_option maxHeartbeats 4000000 in
set_option maxRecDepth 100000 in
theorem c_X4_longer (l : Launch) (dC : Nat → ClassId) (dI : Nat → Nat → Nat) (cI cJ cZ cO : ClassId) (j_0 : Int64) (i_2 : Int32) (res : Int64) (hf : f_X4_longer j_0 i_2 = res) : Met l yX4_longer wsX4_longer rm_X4_longer (va_Pc [.long j_0, .int i_2] (fun U => va_P (dC, dI) vwCl [] U.heap ∧ va_K (dC, dI) vwCl [(cI, .int), (cJ, .long), (cZ, .boolean), (cO, .object RX1)] U)) (vp_Sl (fun r => r = res)) 0 0 (fun _ => False) := by
  refine Met.ofW (cc := cX4_longer) (maxL := 4) (ret := (some .long)) (by decide) rfl ?_
  intro p e s m args below meth c s₁ B hml hv
  obtain ⟨rfl, hP, hK⟩ := hv
  have hx := B.exec
  have hb := B.bytes
  have hr := B.returns
  have hts := atoms_spec (ws := wsX4_longer) B.pre
  have hown : s.vm.findClass RX4 = some m.cls := findClass_of_methodNamed B.named
  have hlocks := B.notSynchronized
  have hl := lv_entry ([.long j_0, .int i_2]) (n := 4) (Nat.le_of_ble_eq_true rfl)
  rw [lg_entry_eq]
  generalize (lg_sl ([.long j_0, .int i_2]) ++ List.replicate (4 - (lg_sl ([.long j_0, .int i_2])).length) Slot.unset).toArray = ls at hl ⊢
  have hl : lv_has ls 4 [(0, .long j_0), (2, .int i_2)] := hl
  refine W_gen (fun Q hQ => ?_)
  unfold f_X4_longer at hf
  refine lv_lload_n hx hb dX4_longer_0 rfl (lv_at hl 0 rfl) ?_
  have hPc := hP.sub (ws' := []) [] rfl
  refine vp_callSi (W.runS (As := [.long j_0]) (rest := []) ⟨hx, hb, hml, hown, hts⟩ (c_X4_letters l dC dI cI cJ cZ cO j_0 _ rfl) (va_cwS 1 hts gX4_longer_X4_letters rfl rfl rfl (by decide +kernel) ⟨Nat.le_of_ble_eq_true rfl, Nat.le_of_ble_eq_true rfl⟩) ⟨fun a U g mk q => ⟨q.1, q.2.1, va_K.moved (u := U) (U := U.calling g mk a) (Vm.Alike.refl U.vm) q.2.2⟩, fun U hU hW => ⟨rfl, by rw [hU]; exact hPc, va_K.moved hW.alike hK⟩⟩ rfl rfl hl.1 rfl (lv_room (Nat.le_of_ble_eq_true rfl)) dX4_longer_1 ⟨Nat.le_of_ble_eq_true rfl, Nat.le_of_ble_eq_true rfl⟩) (fun r hw => ?_)
  have hw := hw.symm; subst hw
  refine lv_istore_n (lv' := [(3, .int (f_X4_letters j_0)), (0, .long j_0), (2, .int i_2)]) hx hb dX4_longer_4 rfl hl (by decide) rfl (fun ls hl => ?_)
  refine lv_iload_n hx hb dX4_longer_5 rfl (lv_at hl 0 rfl) ?_
  refine lv_bipush (v := 7) hx hb dX4_longer_6 (by decide) ?_
  refine lv_icmp_ge (tgt := 25) hx hb dX4_longer_8 (by decide) (fun c_8 => ?_) (fun c_8 => ?_)
  · have hf := (if_pos c_8).symm.trans hf
    refine lv_lload_n hx hb dX4_longer_25 rfl (lv_at hl 1 rfl) ?_
    rw [hQ]; exact W.lret (v := j_0) hx hb hr (fun t ht hW => ⟨j_0, rfl, hf, ht⟩) (fun _ h => absurd h List.not_mem_nil) dX4_longer_26
  have hf := (if_neg c_8).symm.trans hf
  refine lv_lload_n hx hb dX4_longer_11 rfl (lv_at hl 1 rfl) ?_
  refine lv_iload_n hx hb dX4_longer_12 rfl (lv_at hl 2 rfl) ?_
  refine lv_i2l (v := i_2.toInt64) hx hb dX4_longer_13 rfl ?_
  refine lv_iload_n hx hb dX4_longer_14 rfl (lv_at hl 0 rfl) ?_
  have hPc := hP.sub (ws' := []) [] rfl
  refine vp_callSi (W.runS (As := [.int (f_X4_letters j_0)]) (rest := [.long i_2.toInt64, .long j_0]) ⟨hx, hb, hml, hown, hts⟩ (c_X4_shiftOf l dC dI cI cJ cZ cO (f_X4_letters j_0) _ rfl) (va_cwS 1 hts gX4_longer_X4_shiftOf rfl rfl rfl (by decide +kernel) ⟨Nat.le_of_ble_eq_true rfl, Nat.le_of_ble_eq_true rfl⟩) ⟨fun a U g mk q => ⟨q.1, q.2.1, va_K.moved (u := U) (U := U.calling g mk a) (Vm.Alike.refl U.vm) q.2.2⟩, fun U hU hW => ⟨rfl, by rw [hU]; exact hPc, va_K.moved hW.alike hK⟩⟩ rfl rfl hl.1 rfl (lv_room (Nat.le_of_ble_eq_true rfl)) dX4_longer_15 ⟨Nat.le_of_ble_eq_true rfl, Nat.le_of_ble_eq_true rfl⟩) (fun r hw => ?_)
  have hw := hw.symm; subst hw
  refine lv_lshl (v := (shlL i_2.toInt64 (f_X4_shiftOf (f_X4_letters j_0)))) hx hb dX4_longer_18 rfl ?_
  refine lv_lor hx hb dX4_longer_19 ?_
  refine lv_lconst (v := 1) hx hb dX4_longer_20 (by decide) ?_
  refine lv_ladd hx hb dX4_longer_21 ?_
  refine lv_goto (tgt := 26) hx hb dX4_longer_22 (by decide) ?_
  rw [hQ]; exact W.lret (v := ((j_0 ||| (shlL i_2.toInt64 (f_X4_shiftOf (f_X4_letters j_0)))) + 1)) hx hb hr (fun t ht hW => ⟨((j_0 ||| (shlL i_2.toInt64 (f_X4_shiftOf (f_X4_letters j_0)))) + 1), rfl, hf, ht⟩) (fun _ h => absurd h List.not_mem_nil) dX4_longer_26
abbrev rm_X1_hasEntry : Room := { frames := 0, cells := 0, slots := 0, locals := 0 }
set_option maxHeartbeats 4000000 in
set_option maxRecDepth 100000 in
theorem c_X1_hasEntry (l : Launch) (dC : Nat → ClassId) (dI : Nat → Nat → Nat) (cI cJ cZ cO : ClassId) (a_o : Nat) (a_settings : Nat) (a_lines : Nat) (a_words : Nat) (v_entries : Int32) (i_1 : Int32) (res : Int32) (hf : f_X1_hasEntry v_entries i_1 = res) : Met l yX1_hasEntry wsX1_hasEntry rm_X1_hasEntry (va_Pc [.ref a_o, .int i_1] (fun U => va_P (dC, dI) vwCl [(a_o, .inr (1, [.ref a_settings, .ref a_lines, .ref a_words, .int v_entries]))] U.heap ∧ va_K (dC, dI) vwCl [(cI, .int), (cJ, .long), (cZ, .boolean), (cO, .object RX1)] U)) (vp_Si (fun r => r = res)) 0 0 (fun _ => False) := by
  refine Met.ofW (cc := cX1_hasEntry) (maxL := 2) (ret := (some .boolean)) (by decide) rfl ?_
  intro p e s m args below meth c s₁ B hml hv
  obtain ⟨rfl, hP, hK⟩ := hv
  have hx := B.exec
  have hb := B.bytes
  have hr := B.returns
  have hts := atoms_spec (ws := wsX1_hasEntry) B.pre
  have hown : s.vm.findClass RX1 = some m.cls := findClass_of_methodNamed B.named
  have hlocks := B.notSynchronized
  have hinX1 : ∀ w ∈ u_ws RX1 TX1 4, w ∈ wsX1_hasEntry := by decide +kernel
  have hw0 := hts (.fieldLink RX1 25 "RunningHeads$Lexicon" "entries" "I") (by decide +kernel)
  have hl := lv_entry ([.ref a_o, .int i_1]) (n := 2) (Nat.le_of_ble_eq_true rfl)
  rw [lg_entry_eq]
  generalize (lg_sl ([.ref a_o, .int i_1]) ++ List.replicate (2 - (lg_sl ([.ref a_o, .int i_1])).length) Slot.unset).toArray = ls at hl ⊢
  have hl : lv_has ls 2 [(0, .ref a_o), (1, .int i_1)] := hl
  refine W_gen (fun Q hQ => ?_)
  unfold f_X1_hasEntry at hf
  refine lv_iload_n hx hb dX1_hasEntry_0 rfl (lv_at hl 1 rfl) ?_
  refine lv_if_lt (tgt := 16) hx hb dX1_hasEntry_1 (by decide) (fun c_1 => ?_) (fun c_1 => ?_)
  · have hf := (if_pos c_1).symm.trans hf
    refine lv_iconst (v := 0) hx hb dX1_hasEntry_16 (by decide) ?_
    rw [hQ]; exact W.zret (v := 0) hx hb hr rfl (fun t ht hW => ⟨0, rfl, hf, ht⟩) (fun _ h => absurd h List.not_mem_nil) dX1_hasEntry_17
  have hf := (if_neg c_1).symm.trans hf
  refine lv_iload_n hx hb dX1_hasEntry_4 rfl (lv_at hl 1 rfl) ?_
  refine lv_aload_n hx hb dX1_hasEntry_5 rfl (lv_at hl 0 rfl) ?_
  refine va_get (D := (dC, dI)) (ci := 1) (v := .int v_entries) (C := RX1) (T := TX1) (N := 4) hx hb hts hinX1 hown hK hP 0 rfl rfl 3 (by decide) hw0 (fun _ h9 => h9) rfl dX1_hasEntry_6 ?_
  refine lv_icmp_ge (tgt := 16) hx hb dX1_hasEntry_9 (by decide) (fun c_9 => ?_) (fun c_9 => ?_)
  · have hf := (if_pos c_9).symm.trans hf
    refine lv_iconst (v := 0) hx hb dX1_hasEntry_16 (by decide) ?_
    rw [hQ]; exact W.zret (v := 0) hx hb hr rfl (fun t ht hW => ⟨0, rfl, hf, ht⟩) (fun _ h => absurd h List.not_mem_nil) dX1_hasEntry_17
  have hf := (if_neg c_9).symm.trans hf
  refine lv_iconst (v := 1) hx hb dX1_hasEntry_12 (by decide) ?_
  refine lv_goto (tgt := 17) hx hb dX1_hasEntry_13 (by decide) ?_
  rw [hQ]; exact W.zret (v := 1) hx hb hr rfl (fun t ht hW => ⟨1, rfl, hf, ht⟩) (fun _ h => absurd h List.not_mem_nil) dX1_hasEntry_17
abbrev rm_X1_wordOf : Room := { frames := 1, cells := 0, slots := 0, locals := 21 }
set_option maxHeartbeats 4000000 in
set_option maxRecDepth 100000 in
theorem c_X1_wordOf (l : Launch) (dC : Nat → ClassId) (dI : Nat → Nat → Nat) (cI cJ cZ cO : ClassId) (a_o : Nat) (a_settings : Nat) (a_lines : Nat) (a_words : Nat) (v_entries : Int32) (v_words : Nat → Int64) (i_1 : Int32) (res : Int64) (hf : f_X1_wordOf v_entries v_words i_1 = some res) : Met l yX1_wordOf wsX1_wordOf rm_X1_wordOf (va_Pc [.ref a_o, .int i_1] (fun U => va_P (dC, dI) vwCl [(a_o, .inr (1, [.ref a_settings, .ref a_lines, .ref a_words, .int v_entries])), (a_words, .inl (cJ, 30, .inr (.inl v_words)))] U.heap ∧ va_K (dC, dI) vwCl [(cI, .int), (cJ, .long), (cZ, .boolean), (cO, .object RX1)] U)) (vp_Sl (fun r => r = res)) 0 0 (fun _ => False) := by
  refine Met.ofW (cc := cX1_wordOf) (maxL := 2) (ret := (some .long)) (by decide) rfl ?_
  intro p e s m args below meth c s₁ B hml hv
  obtain ⟨rfl, hP, hK⟩ := hv
  have hx := B.exec
  have hb := B.bytes
  have hr := B.returns
  have hts := atoms_spec (ws := wsX1_wordOf) B.pre
  have hown : s.vm.findClass RX1 = some m.cls := findClass_of_methodNamed B.named
  have hlocks := B.notSynchronized
  have hinX1 : ∀ w ∈ u_ws RX1 TX1 4, w ∈ wsX1_wordOf := by decide +kernel
  have hw0 := hts (.fieldLink RX1 21 "RunningHeads$Lexicon" "words" "[J") (by decide +kernel)
  have hl := lv_entry ([.ref a_o, .int i_1]) (n := 2) (Nat.le_of_ble_eq_true rfl)
  rw [lg_entry_eq]
  generalize (lg_sl ([.ref a_o, .int i_1]) ++ List.replicate (2 - (lg_sl ([.ref a_o, .int i_1])).length) Slot.unset).toArray = ls at hl ⊢
  have hl : lv_has ls 2 [(0, .ref a_o), (1, .int i_1)] := hl
  refine W_gen (fun Q hQ => ?_)
  unfold f_X1_wordOf at hf
  refine lv_aload_n hx hb dX1_wordOf_0 rfl (lv_at hl 0 rfl) ?_
  refine lv_iload_n hx hb dX1_wordOf_1 rfl (lv_at hl 1 rfl) ?_
  have hPc := hP.sub (ws' := [(a_o, .inr (1, [.ref a_settings, .ref a_lines, .ref a_words, .int v_entries]))]) [0] rfl
  refine vp_callSi (W.runV (As := [.int i_1]) (rest := []) ⟨hx, hb, hml, hown, hts⟩ (c_X1_hasEntry l dC dI cI cJ cZ cO a_o a_settings a_lines a_words v_entries i_1 _ rfl) (cwV 1 hts gX1_wordOf_X1_hasEntry rfl rfl rfl (by decide +kernel) ⟨Nat.le_of_ble_eq_true rfl, Nat.le_of_ble_eq_true rfl⟩) ⟨fun a U g mk q => ⟨q.1, q.2.1, va_K.moved (u := U) (U := U.calling g mk a) (Vm.Alike.refl U.vm) q.2.2⟩, va_recv hK hPc (ci := 1) (q0 := 0) rfl rfl, fun U hU hW => ⟨rfl, by rw [hU]; exact hPc, va_K.moved hW.alike hK⟩⟩ rfl rfl hl.1 rfl (lv_room (Nat.le_of_ble_eq_true rfl)) dX1_wordOf_2 ⟨Nat.le_of_ble_eq_true rfl, Nat.le_of_ble_eq_true rfl⟩) (fun r hw => ?_)
  have hw := hw.symm; subst hw
  refine lv_if_eq (tgt := 17) hx hb dX1_wordOf_5 (by decide) (fun c_5 => ?_) (fun c_5 => ?_)
  · have hf := (if_pos c_5).symm.trans hf
    refine lv_lconst (v := 0) hx hb dX1_wordOf_17 (by decide) ?_
    rw [hQ]; exact W.lret (v := 0) hx hb hr (fun t ht hW => ⟨0, rfl, (Option.some.inj hf), ht⟩) (fun _ h => absurd h List.not_mem_nil) dX1_wordOf_18
  have hf := (if_neg c_5).symm.trans hf
  refine lv_aload_n hx hb dX1_wordOf_8 rfl (lv_at hl 0 rfl) ?_
  refine va_get (D := (dC, dI)) (ci := 1) (v := .ref a_words) (C := RX1) (T := TX1) (N := 4) hx hb hts hinX1 hown hK hP 0 rfl rfl 2 (by decide) hw0 (fun _ h9 => h9) rfl dX1_wordOf_9 ?_
  refine lv_iload_n hx hb dX1_wordOf_12 rfl (lv_at hl 1 rfl) ?_
  obtain ⟨g_13, hf⟩ := gd_some hf
  refine va_lald hx hb hK hP 1 1 rfl rfl (xin_vp g_13) dX1_wordOf_13 ?_
  refine lv_goto (tgt := 18) hx hb dX1_wordOf_14 (by decide) ?_
  rw [hQ]; exact W.lret (v := (v_words i_1.toNatClampNeg)) hx hb hr (fun t ht hW => ⟨(v_words i_1.toNatClampNeg), rfl, (Option.some.inj hf), ht⟩) (fun _ h => absurd h List.not_mem_nil) dX1_wordOf_18
abbrev rm_X1_linesOfAll : Room := { frames := 0, cells := 0, slots := 0, locals := 0 }
set_option maxHeartbeats 4000000 in
set_option maxRecDepth 100000 in
theorem c_X1_linesOfAll (l : Launch) (dC : Nat → ClassId) (dI : Nat → Nat → Nat) (cI cJ cZ cO : ClassId) (a_o : Nat) (a_settings : Nat) (a_lines : Nat) (a_words : Nat) (v_entries : Int32) (v_lines : Nat → Int32) (res : Int32) (hf : f_X1_linesOfAll v_entries v_lines = some res) : Met l yX1_linesOfAll wsX1_linesOfAll rm_X1_linesOfAll (va_Pc [.ref a_o] (fun U => va_P (dC, dI) vwCl [(a_o, .inr (1, [.ref a_settings, .ref a_lines, .ref a_words, .int v_entries])), (a_lines, .inl (cI, 30, .inl v_lines))] U.heap ∧ va_K (dC, dI) vwCl [(cI, .int), (cJ, .long), (cZ, .boolean), (cO, .object RX1)] U)) (vp_Si (fun r => r = res)) 0 0 (fun _ => False) := by
  refine Met.ofW (cc := cX1_linesOfAll) (maxL := 3) (ret := (some .int)) (by decide) rfl ?_
  intro p e s m args below meth c s₁ B hml hv
  obtain ⟨rfl, hP, hK⟩ := hv
  have hx := B.exec
  have hb := B.bytes
  have hr := B.returns
  have hts := atoms_spec (ws := wsX1_linesOfAll) B.pre
  have hown : s.vm.findClass RX1 = some m.cls := findClass_of_methodNamed B.named
  have hlocks := B.notSynchronized
  have hinX1 : ∀ w ∈ u_ws RX1 TX1 4, w ∈ wsX1_linesOfAll := by decide +kernel
  have hw0 := hts (.fieldLink RX1 25 "RunningHeads$Lexicon" "entries" "I") (by decide +kernel)
  have hw1 := hts (.fieldLink RX1 18 "RunningHeads$Lexicon" "lines" "[I") (by decide +kernel)
  have hl := lv_entry ([.ref a_o]) (n := 3) (Nat.le_of_ble_eq_true rfl)
  rw [lg_entry_eq]
  generalize (lg_sl ([.ref a_o]) ++ List.replicate (3 - (lg_sl ([.ref a_o])).length) Slot.unset).toArray = ls at hl ⊢
  have hl : lv_has ls 3 [(0, .ref a_o)] := hl
  refine W_gen (fun Q hQ => ?_)
  unfold f_X1_linesOfAll at hf
  refine lv_iconst (v := 0) hx hb dX1_linesOfAll_0 (by decide) ?_
  refine lv_istore_n (lv' := [(1, .int 0), (0, .ref a_o)]) hx hb dX1_linesOfAll_1 rfl hl (by decide) rfl (fun ls hl => ?_)
  refine lv_iconst (v := 0) hx hb dX1_linesOfAll_2 (by decide) ?_
  refine lv_istore_n (lv' := [(2, .int 0), (1, .int 0), (0, .ref a_o)]) hx hb dX1_linesOfAll_3 rfl hl (by decide) rfl (fun ls hl => ?_)
  have hk_4 : ∀ (i2_4 : Int32) (i1_4 : Int32) (ls : Array Slot) (hf : (some i1_4) = some res) (hl : lv_has ls 3 [(1, .int i1_4)]), W p l e (headSpec wsX1_linesOfAll rm_X1_linesOfAll).room s m ([.ref a_o] : List Value).toArray below meth c s.heap [] 0 0 Q (F0 m 27 ls []) := by
    intro i2_4 i1_4 ls hf hl
    refine lv_iload_n hx hb dX1_linesOfAll_27 rfl (lv_at hl 0 rfl) ?_
    rw [hQ]; exact W.iret (v := i1_4) hx hb hr (fun t ht hW => ⟨i1_4, rfl, (Option.some.inj hf), ht⟩) (fun _ h => absurd h List.not_mem_nil) dX1_linesOfAll_28
  have lp_4 : ∀ (K : Int32 → Int32 → Option (Int32)) (hk : ∀ (i2_4 : Int32) (i1_4 : Int32) (ls : Array Slot) (hf : K i2_4 i1_4 = some res) (hl : lv_has ls 3 [(1, .int i1_4)]), W p l e (headSpec wsX1_linesOfAll rm_X1_linesOfAll).room s m ([.ref a_o] : List Value).toArray below meth c s.heap [] 0 0 Q (F0 m 27 ls [])) (n : Nat) (i2_4 : Int32) (i1_4 : Int32) (ls : Array Slot) (hf : L_X1_linesOfAll_4 K v_entries v_lines n i2_4 i1_4 = some res) (hl : lv_has ls 3 [(2, .int i2_4), (1, .int i1_4), (0, .ref a_o)]), W p l e (headSpec wsX1_linesOfAll rm_X1_linesOfAll).room s m ([.ref a_o] : List Value).toArray below meth c s.heap [] 0 0 Q (F0 m 4 ls []) := by
    intro K hk n
    induction n with
    | zero => intro i2_4 i1_4 ls hf hl; exact absurd ((L_X1_linesOfAll_4_0 _ _ _ _ _).symm.trans hf) (by simp)
    | succ n ih =>
      intro i2_4 i1_4 ls hf hl
      have hf := (L_X1_linesOfAll_4_s _ _ _ _ _ _).symm.trans hf
      refine lv_iload_n hx hb dX1_linesOfAll_4 rfl (lv_at hl 0 rfl) ?_
      refine lv_aload_n hx hb dX1_linesOfAll_5 rfl (lv_at hl 2 rfl) ?_
      refine va_get (D := (dC, dI)) (ci := 1) (v := .int v_entries) (C := RX1) (T := TX1) (N := 4) hx hb hts hinX1 hown hK hP 0 rfl rfl 3 (by decide) hw0 (fun _ h9 => h9) rfl dX1_linesOfAll_6 ?_
      refine lv_icmp_ge (tgt := 27) hx hb dX1_linesOfAll_9 (by decide) (fun c_9 => ?_) (fun c_9 => ?_)
      · have hf := (if_pos c_9).symm.trans hf
        exact hk i2_4 i1_4 ls hf (lv_sub hl [1] rfl)
      have hf := (if_neg c_9).symm.trans hf
      refine lv_iload_n hx hb dX1_linesOfAll_12 rfl (lv_at hl 1 rfl) ?_
      refine lv_aload_n hx hb dX1_linesOfAll_13 rfl (lv_at hl 2 rfl) ?_
      refine va_get (D := (dC, dI)) (ci := 1) (v := .ref a_lines) (C := RX1) (T := TX1) (N := 4) hx hb hts hinX1 hown hK hP 0 rfl rfl 1 (by decide) hw1 (fun _ h9 => h9) rfl dX1_linesOfAll_14 ?_
      refine lv_iload_n hx hb dX1_linesOfAll_17 rfl (lv_at hl 0 rfl) ?_
      obtain ⟨g_18, hf⟩ := gd_some hf
      refine va_iald hx hb hK hP 1 0 rfl rfl (xin_vp g_18) dX1_linesOfAll_18 ?_
      refine lv_iadd hx hb dX1_linesOfAll_19 ?_
      refine lv_istore_n (lv' := [(1, .int (i1_4 + (v_lines i2_4.toNatClampNeg))), (2, .int i2_4), (0, .ref a_o)]) hx hb dX1_linesOfAll_20 rfl hl (by decide) rfl (fun ls hl => ?_)
      refine lv_iinc (v := (i2_4 + 1)) (lv' := [(2, .int (i2_4 + 1)), (1, .int (i1_4 + (v_lines i2_4.toNatClampNeg))), (0, .ref a_o)]) hx hb dX1_linesOfAll_21 hl (k := 1) rfl rfl (by decide) rfl (fun ls hl => ?_)
      refine lv_goto (tgt := 4) hx hb dX1_linesOfAll_24 (by decide) ?_
      exact ih (i2_4 + 1) (i1_4 + (v_lines i2_4.toNatClampNeg)) ls hf (lv_sub hl [0, 1, 2] rfl)
  exact lp_4 _ hk_4 FU 0 0 ls hf (lv_sub hl [0, 1, 2] rfl)
abbrev rm_X1_placeOf : Room := { frames := 0, cells := 0, slots := 0, locals := 0 }
set_option maxHeartbeats 4000000 in
set_option maxRecDepth 100000 in
theorem c_X1_placeOf (l : Launch) (dC : Nat → ClassId) (dI : Nat → Nat → Nat) (cI cJ cZ cO : ClassId) (a_o : Nat) (a_settings : Nat) (a_lines : Nat) (a_words : Nat) (v_entries : Int32) (v_words : Nat → Int64) (j_1 : Int64) (res : Int32) (hf : f_X1_placeOf v_entries v_words j_1 = some res) : Met l yX1_placeOf wsX1_placeOf rm_X1_placeOf (va_Pc [.ref a_o, .long j_1] (fun U => va_P (dC, dI) vwCl [(a_o, .inr (1, [.ref a_settings, .ref a_lines, .ref a_words, .int v_entries])), (a_words, .inl (cJ, 30, .inr (.inl v_words)))] U.heap ∧ va_K (dC, dI) vwCl [(cI, .int), (cJ, .long), (cZ, .boolean), (cO, .object RX1)] U)) (vp_Si (fun r => r = res)) 0 0 (fun _ => False) := by
  refine Met.ofW (cc := cX1_placeOf) (maxL := 4) (ret := (some .int)) (by decide) rfl ?_
  intro p e s m args below meth c s₁ B hml hv
  obtain ⟨rfl, hP, hK⟩ := hv
  have hx := B.exec
  have hb := B.bytes
  have hr := B.returns
  have hts := atoms_spec (ws := wsX1_placeOf) B.pre
  have hown : s.vm.findClass RX1 = some m.cls := findClass_of_methodNamed B.named
  have hlocks := B.notSynchronized
  have hinX1 : ∀ w ∈ u_ws RX1 TX1 4, w ∈ wsX1_placeOf := by decide +kernel
  have hw0 := hts (.fieldLink RX1 25 "RunningHeads$Lexicon" "entries" "I") (by decide +kernel)
  have hw1 := hts (.fieldLink RX1 21 "RunningHeads$Lexicon" "words" "[J") (by decide +kernel)
  have hl := lv_entry ([.ref a_o, .long j_1]) (n := 4) (Nat.le_of_ble_eq_true rfl)
  rw [lg_entry_eq]
  generalize (lg_sl ([.ref a_o, .long j_1]) ++ List.replicate (4 - (lg_sl ([.ref a_o, .long j_1])).length) Slot.unset).toArray = ls at hl ⊢
  have hl : lv_has ls 4 [(0, .ref a_o), (1, .long j_1)] := hl
  refine W_gen (fun Q hQ => ?_)
  unfold f_X1_placeOf at hf
  refine lv_iconst (v := 0) hx hb dX1_placeOf_0 (by decide) ?_
  refine lv_istore_n (lv' := [(3, .int 0), (0, .ref a_o), (1, .long j_1)]) hx hb dX1_placeOf_1 rfl hl (by decide) rfl (fun ls hl => ?_)
  have hk_2 : ∀ (i3_2 : Int32) (ls : Array Slot) (hf : (some v_entries) = some res) (hl : lv_has ls 4 [(0, .ref a_o)]), W p l e (headSpec wsX1_placeOf rm_X1_placeOf).room s m ([.ref a_o, .long j_1] : List Value).toArray below meth c s.heap [] 0 0 Q (F0 m 29 ls []) := by
    intro i3_2 ls hf hl
    refine lv_aload_n hx hb dX1_placeOf_29 rfl (lv_at hl 0 rfl) ?_
    refine va_get (D := (dC, dI)) (ci := 1) (v := .int v_entries) (C := RX1) (T := TX1) (N := 4) hx hb hts hinX1 hown hK hP 0 rfl rfl 3 (by decide) hw0 (fun _ h9 => h9) rfl dX1_placeOf_30 ?_
    rw [hQ]; exact W.iret (v := v_entries) hx hb hr (fun t ht hW => ⟨v_entries, rfl, (Option.some.inj hf), ht⟩) (fun _ h => absurd h List.not_mem_nil) dX1_placeOf_33
  have lp_2 : ∀ (K : Int32 → Option (Int32)) (hk : ∀ (i3_2 : Int32) (ls : Array Slot) (hf : K i3_2 = some res) (hl : lv_has ls 4 [(0, .ref a_o)]), W p l e (headSpec wsX1_placeOf rm_X1_placeOf).room s m ([.ref a_o, .long j_1] : List Value).toArray below meth c s.heap [] 0 0 Q (F0 m 29 ls [])) (n : Nat) (i3_2 : Int32) (ls : Array Slot) (hf : L_X1_placeOf_2 K j_1 v_entries v_words n i3_2 = some res) (hl : lv_has ls 4 [(3, .int i3_2), (0, .ref a_o), (1, .long j_1)]), W p l e (headSpec wsX1_placeOf rm_X1_placeOf).room s m ([.ref a_o, .long j_1] : List Value).toArray below meth c s.heap [] 0 0 Q (F0 m 2 ls []) := by
    intro K hk n
    induction n with
    | zero => intro i3_2 ls hf hl; exact absurd ((L_X1_placeOf_2_0 _ _ _ _ _).symm.trans hf) (by simp)
    | succ n ih =>
      intro i3_2 ls hf hl
      have hf := (L_X1_placeOf_2_s _ _ _ _ _ _).symm.trans hf
      refine lv_iload_n hx hb dX1_placeOf_2 rfl (lv_at hl 0 rfl) ?_
      refine lv_aload_n hx hb dX1_placeOf_3 rfl (lv_at hl 1 rfl) ?_
      refine va_get (D := (dC, dI)) (ci := 1) (v := .int v_entries) (C := RX1) (T := TX1) (N := 4) hx hb hts hinX1 hown hK hP 0 rfl rfl 3 (by decide) hw0 (fun _ h9 => h9) rfl dX1_placeOf_4 ?_
      refine lv_icmp_ge (tgt := 29) hx hb dX1_placeOf_7 (by decide) (fun c_7 => ?_) (fun c_7 => ?_)
      · have hf := (if_pos c_7).symm.trans hf
        exact hk i3_2 ls hf (lv_sub hl [1] rfl)
      have hf := (if_neg c_7).symm.trans hf
      refine lv_aload_n hx hb dX1_placeOf_10 rfl (lv_at hl 1 rfl) ?_
      refine va_get (D := (dC, dI)) (ci := 1) (v := .ref a_words) (C := RX1) (T := TX1) (N := 4) hx hb hts hinX1 hown hK hP 0 rfl rfl 2 (by decide) hw1 (fun _ h9 => h9) rfl dX1_placeOf_11 ?_
      refine lv_iload_n hx hb dX1_placeOf_14 rfl (lv_at hl 0 rfl) ?_
      obtain ⟨g_15, hf⟩ := gd_some hf
      refine va_lald hx hb hK hP 1 1 rfl rfl (xin_vp g_15) dX1_placeOf_15 ?_
      refine lv_lload_n hx hb dX1_placeOf_16 rfl (lv_at hl 2 rfl) ?_
      refine W.lcmp hx hb dX1_placeOf_17 ?_
      refine lv_if_lt (tgt := 23) hx hb dX1_placeOf_18 (by decide) (fun c_18 => ?_) (fun c_18 => ?_)
      · have hf := (if_pos ((lg_cmp_lt _ _).mp c_18)).symm.trans hf
        refine lv_iinc (v := (i3_2 + 1)) (lv' := [(3, .int (i3_2 + 1)), (0, .ref a_o), (1, .long j_1)]) hx hb dX1_placeOf_23 hl (k := 0) rfl rfl (by decide) rfl (fun ls hl => ?_)
        refine lv_goto (tgt := 2) hx hb dX1_placeOf_26 (by decide) ?_
        exact ih (i3_2 + 1) ls hf (lv_sub hl [0, 1, 2] rfl)
      have hf := (if_neg (fun h => c_18 ((lg_cmp_lt _ _).mpr h))).symm.trans hf
      refine lv_iload_n hx hb dX1_placeOf_21 rfl (lv_at hl 0 rfl) ?_
      rw [hQ]; exact W.iret (v := i3_2) hx hb hr (fun t ht hW => ⟨i3_2, rfl, (Option.some.inj hf), ht⟩) (fun _ h => absurd h List.not_mem_nil) dX1_placeOf_22
  exact lp_2 _ hk_2 FU 0 ls hf (lv_sub hl [0, 1, 2] rfl)
abbrev rm_X1_numberOf : Room := { frames := 1, cells := 0, slots := 0, locals := 23 }
set_option maxHeartbeats 4000000 in
set_option maxRecDepth 100000 in
theorem c_X1_numberOf (l : Launch) (dC : Nat → ClassId) (dI : Nat → Nat → Nat) (cI cJ cZ cO : ClassId) (a_o : Nat) (a_settings : Nat) (a_lines : Nat) (a_words : Nat) (v_entries : Int32) (v_words : Nat → Int64) (j_1 : Int64) (res : Int32) (hf : f_X1_numberOf v_entries v_words j_1 = some res) : Met l yX1_numberOf wsX1_numberOf rm_X1_numberOf (va_Pc [.ref a_o, .long j_1] (fun U => va_P (dC, dI) vwCl [(a_o, .inr (1, [.ref a_settings, .ref a_lines, .ref a_words, .int v_entries])), (a_words, .inl (cJ, 30, .inr (.inl v_words)))] U.heap ∧ va_K (dC, dI) vwCl [(cI, .int), (cJ, .long), (cZ, .boolean), (cO, .object RX1)] U)) (vp_Si (fun r => r = res)) 0 0 (fun _ => False) := by
  refine Met.ofW (cc := cX1_numberOf) (maxL := 4) (ret := (some .int)) (by decide) rfl ?_
  intro p e s m args below meth c s₁ B hml hv
  obtain ⟨rfl, hP, hK⟩ := hv
  have hx := B.exec
  have hb := B.bytes
  have hr := B.returns
  have hts := atoms_spec (ws := wsX1_numberOf) B.pre
  have hown : s.vm.findClass RX1 = some m.cls := findClass_of_methodNamed B.named
  have hlocks := B.notSynchronized
  have hinX1 : ∀ w ∈ u_ws RX1 TX1 4, w ∈ wsX1_numberOf := by decide +kernel
  have hw0 := hts (.fieldLink RX1 21 "RunningHeads$Lexicon" "words" "[J") (by decide +kernel)
  have hl := lv_entry ([.ref a_o, .long j_1]) (n := 4) (Nat.le_of_ble_eq_true rfl)
  rw [lg_entry_eq]
  generalize (lg_sl ([.ref a_o, .long j_1]) ++ List.replicate (4 - (lg_sl ([.ref a_o, .long j_1])).length) Slot.unset).toArray = ls at hl ⊢
  have hl : lv_has ls 4 [(0, .ref a_o), (1, .long j_1)] := hl
  refine W_gen (fun Q hQ => ?_)
  unfold f_X1_numberOf at hf
  refine lv_aload_n hx hb dX1_numberOf_0 rfl (lv_at hl 0 rfl) ?_
  refine lv_lload_n hx hb dX1_numberOf_1 rfl (lv_at hl 1 rfl) ?_
  obtain ⟨r_2, hu_2, hf⟩ := bd_some hf
  have hPc := hP.sub (ws' := [(a_o, .inr (1, [.ref a_settings, .ref a_lines, .ref a_words, .int v_entries])), (a_words, .inl (cJ, 30, .inr (.inl v_words)))]) [0, 1] rfl
  refine vp_callSi (W.runV (As := [.long j_1]) (rest := []) ⟨hx, hb, hml, hown, hts⟩ (c_X1_placeOf l dC dI cI cJ cZ cO a_o a_settings a_lines a_words v_entries v_words j_1 _ hu_2) (cwV 1 hts gX1_numberOf_X1_placeOf rfl rfl rfl (by decide +kernel) ⟨Nat.le_of_ble_eq_true rfl, Nat.le_of_ble_eq_true rfl⟩) ⟨fun a U g mk q => ⟨q.1, q.2.1, va_K.moved (u := U) (U := U.calling g mk a) (Vm.Alike.refl U.vm) q.2.2⟩, va_recv hK hPc (ci := 1) (q0 := 0) rfl rfl, fun U hU hW => ⟨rfl, by rw [hU]; exact hPc, va_K.moved hW.alike hK⟩⟩ rfl rfl hl.1 rfl (lv_room (Nat.le_of_ble_eq_true rfl)) dX1_numberOf_2 ⟨Nat.le_of_ble_eq_true rfl, Nat.le_of_ble_eq_true rfl⟩) (fun r hw => ?_)
  have hw := hw.symm; subst hw
  refine lv_istore_n (lv' := [(3, .int r_2), (0, .ref a_o), (1, .long j_1)]) hx hb dX1_numberOf_5 rfl hl (by decide) rfl (fun ls hl => ?_)
  refine lv_aload_n hx hb dX1_numberOf_6 rfl (lv_at hl 1 rfl) ?_
  refine lv_iload_n hx hb dX1_numberOf_7 rfl (lv_at hl 0 rfl) ?_
  have hPc := hP.sub (ws' := [(a_o, .inr (1, [.ref a_settings, .ref a_lines, .ref a_words, .int v_entries]))]) [0] rfl
  refine vp_callSi (W.runV (As := [.int r_2]) (rest := []) ⟨hx, hb, hml, hown, hts⟩ (c_X1_hasEntry l dC dI cI cJ cZ cO a_o a_settings a_lines a_words v_entries r_2 _ rfl) (cwV 1 hts gX1_numberOf_X1_hasEntry rfl rfl rfl (by decide +kernel) ⟨Nat.le_of_ble_eq_true rfl, Nat.le_of_ble_eq_true rfl⟩) ⟨fun a U g mk q => ⟨q.1, q.2.1, va_K.moved (u := U) (U := U.calling g mk a) (Vm.Alike.refl U.vm) q.2.2⟩, va_recv hK hPc (ci := 1) (q0 := 0) rfl rfl, fun U hU hW => ⟨rfl, by rw [hU]; exact hPc, va_K.moved hW.alike hK⟩⟩ rfl rfl hl.1 rfl (lv_room (Nat.le_of_ble_eq_true rfl)) dX1_numberOf_8 ⟨Nat.le_of_ble_eq_true rfl, Nat.le_of_ble_eq_true rfl⟩) (fun r hw => ?_)
  have hw := hw.symm; subst hw
  refine lv_if_eq (tgt := 29) hx hb dX1_numberOf_11 (by decide) (fun c_11 => ?_) (fun c_11 => ?_)
  · have hf := (if_pos c_11).symm.trans hf
    refine lv_bipush (v := (-6)) hx hb dX1_numberOf_29 (by decide) ?_
    rw [hQ]; exact W.iret (v := (-6)) hx hb hr (fun t ht hW => ⟨(-6), rfl, (Option.some.inj hf), ht⟩) (fun _ h => absurd h List.not_mem_nil) dX1_numberOf_31
  have hf := (if_neg c_11).symm.trans hf
  refine lv_aload_n hx hb dX1_numberOf_14 rfl (lv_at hl 1 rfl) ?_
  refine va_get (D := (dC, dI)) (ci := 1) (v := .ref a_words) (C := RX1) (T := TX1) (N := 4) hx hb hts hinX1 hown hK hP 0 rfl rfl 2 (by decide) hw0 (fun _ h9 => h9) rfl dX1_numberOf_15 ?_
  refine lv_iload_n hx hb dX1_numberOf_18 rfl (lv_at hl 0 rfl) ?_
  obtain ⟨g_19, hf⟩ := gd_some hf
  refine va_lald hx hb hK hP 1 1 rfl rfl (xin_vp g_19) dX1_numberOf_19 ?_
  refine lv_lload_n hx hb dX1_numberOf_20 rfl (lv_at hl 2 rfl) ?_
  refine W.lcmp hx hb dX1_numberOf_21 ?_
  refine lv_if_ne (tgt := 29) hx hb dX1_numberOf_22 (by decide) (fun c_22 => ?_) (fun c_22 => ?_)
  · have hf := (if_neg (fun h => c_22 ((lg_cmp_eq _ _).mpr h))).symm.trans hf
    refine lv_bipush (v := (-6)) hx hb dX1_numberOf_29 (by decide) ?_
    rw [hQ]; exact W.iret (v := (-6)) hx hb hr (fun t ht hW => ⟨(-6), rfl, (Option.some.inj hf), ht⟩) (fun _ h => absurd h List.not_mem_nil) dX1_numberOf_31
  have hf := (if_pos ((lg_cmp_eq _ _).mp c_22)).symm.trans hf
  refine lv_iload_n hx hb dX1_numberOf_25 rfl (lv_at hl 0 rfl) ?_
  refine lv_goto (tgt := 31) hx hb dX1_numberOf_26 (by decide) ?_
  rw [hQ]; exact W.iret (v := r_2) hx hb hr (fun t ht hW => ⟨r_2, rfl, (Option.some.inj hf), ht⟩) (fun _ h => absurd h List.not_mem_nil) dX1_numberOf_31
abbrev rm_X1_makePlaceAt : Room := { frames := 0, cells := 0, slots := 0, locals := 0 }
set_option maxHeartbeats 4000000 in
set_option maxRecDepth 100000 in
theorem c_X1_makePlaceAt (l : Launch) (dC : Nat → ClassId) (dI : Nat → Nat → Nat) (cI cJ cZ cO : ClassId) (a_o : Nat) (a_settings : Nat) (a_lines : Nat) (a_words : Nat) (v_entries : Int32) (v_lines : Nat → Int32) (v_words : Nat → Int64) (i_1 : Int32) (sz : Nat) (res : Int32 × (Nat → Int32) × (Nat → Int64)) (hf : f_X1_makePlaceAt v_entries v_lines v_words i_1 = some res) : Met l yX1_makePlaceAt wsX1_makePlaceAt rm_X1_makePlaceAt (va_Pc [.ref a_o, .int i_1] (fun U => U.heap.size = sz ∧ va_P (dC, dI) vwCl [(a_o, .inr (1, [.ref a_settings, .ref a_lines, .ref a_words, .int v_entries])), (a_lines, .inl (cI, 30, .inl v_lines)), (a_words, .inl (cJ, 30, .inr (.inl v_words)))] U.heap ∧ va_K (dC, dI) vwCl [(cI, .int), (cJ, .long), (cZ, .boolean), (cO, .object RX1)] U ∧ va_D (fun _ => True) [(a_o, .inr (1, [.ref a_settings, .ref a_lines, .ref a_words, .int v_entries])), (a_lines, .inl (cI, 30, .inl v_lines)), (a_words, .inl (cJ, 30, .inr (.inl v_words)))])) (va_Qv (fun u : Int32 × (Nat → Int32) × (Nat → Int64) => u = res) (fun u t => va_P (dC, dI) vwCl [(a_o, .inr (1, [.ref a_settings, .ref a_lines, .ref a_words, .int u.1])), (a_lines, .inl (cI, 30, .inl u.2.1)), (a_words, .inl (cJ, 30, .inr (.inl u.2.2)))] t.heap ∧ va_K (dC, dI) vwCl [(cI, .int), (cJ, .long), (cZ, .boolean), (cO, .object RX1)] t ∧ va_D (va_A [(a_o, .inr (1, [.ref a_settings, .ref a_lines, .ref a_words, .int v_entries])), (a_lines, .inl (cI, 30, .inl v_lines)), (a_words, .inl (cJ, 30, .inr (.inl v_words)))] sz) [(a_o, .inr (1, [.ref a_settings, .ref a_lines, .ref a_words, .int u.1])), (a_lines, .inl (cI, 30, .inl u.2.1)), (a_words, .inl (cJ, 30, .inr (.inl u.2.2)))]) (va_A [(a_o, .inr (1, [.ref a_settings, .ref a_lines, .ref a_words, .int v_entries])), (a_lines, .inl (cI, 30, .inl v_lines)), (a_words, .inl (cJ, 30, .inr (.inl v_words)))] sz)) 0 0 (va_A [(a_o, .inr (1, [.ref a_settings, .ref a_lines, .ref a_words, .int v_entries])), (a_lines, .inl (cI, 30, .inl v_lines)), (a_words, .inl (cJ, 30, .inr (.inl v_words)))] sz) := by
  refine Met.ofW (cc := cX1_makePlaceAt) (maxL := 3) (ret := none) (by decide) rfl ?_
  intro p e s m args below meth c s₁ B hml hv
  obtain ⟨rfl, hsz, hP, hK, hD0⟩ := hv
  have hx := B.exec
  have hb := B.bytes
  have hr := B.returns
  have hts := atoms_spec (ws := wsX1_makePlaceAt) B.pre
  have hown : s.vm.findClass RX1 = some m.cls := findClass_of_methodNamed B.named
  have hlocks := B.notSynchronized
  have hinX1 : ∀ w ∈ u_ws RX1 TX1 4, w ∈ wsX1_makePlaceAt := by decide +kernel
  have hw0 := hts (.fieldLink RX1 25 "RunningHeads$Lexicon" "entries" "I") (by decide +kernel)
  have hw1 := hts (.fieldLink RX1 21 "RunningHeads$Lexicon" "words" "[J") (by decide +kernel)
  have hw2 := hts (.fieldLink RX1 18 "RunningHeads$Lexicon" "lines" "[I") (by decide +kernel)
  have hl := lv_entry ([.ref a_o, .int i_1]) (n := 3) (Nat.le_of_ble_eq_true rfl)
  rw [lg_entry_eq]
  generalize (lg_sl ([.ref a_o, .int i_1]) ++ List.replicate (3 - (lg_sl ([.ref a_o, .int i_1])).length) Slot.unset).toArray = ls at hl ⊢
  have hl : lv_has ls 3 [(0, .ref a_o), (1, .int i_1)] := hl
  subst hsz
  have hD := hD0.self (sz := s.heap.size)
  generalize hAe : va_A [(a_o, .inr (1, [.ref a_settings, .ref a_lines, .ref a_words, .int v_entries])), (a_lines, .inl (cI, 30, .inl v_lines)), (a_words, .inl (cJ, 30, .inr (.inl v_words)))] s.heap.size = A at hD ⊢
  have hA : ∀ q : Nat, s.heap.size ≤ q → A q := fun q h => by rw [← hAe]; exact Or.inr h
  refine W_gen (fun Q hQ => ?_)
  refine W_start (A := A) hP (fun H locs hP hS => ?_)
  unfold f_X1_makePlaceAt at hf
  refine lv_aload_n hx hb dX1_makePlaceAt_0 rfl (lv_at hl 0 rfl) ?_
  refine va_get (D := (dC, dI)) (ci := 1) (v := .int v_entries) (C := RX1) (T := TX1) (N := 4) hx hb hts hinX1 hown hK hP 0 rfl rfl 3 (by decide) hw0 (fun _ h9 => h9) rfl dX1_makePlaceAt_1 ?_
  refine lv_istore_n (lv' := [(2, .int v_entries), (0, .ref a_o), (1, .int i_1)]) hx hb dX1_makePlaceAt_4 rfl hl (by decide) rfl (fun ls hl => ?_)
  have hk_5 : ∀ (i2_5 : Int32) (v_lines_5 : Nat → Int32) (v_words_5 : Nat → Int64) (H : Heap) (locs : List Loc) (ls : Array Slot) (hf : (some ((v_entries + 1), v_lines_5, v_words_5)) = some res) (hP : va_P (dC, dI) vwCl [(a_o, .inr (1, [.ref a_settings, .ref a_lines, .ref a_words, .int v_entries])), (a_lines, .inl (cI, 30, .inl v_lines_5)), (a_words, .inl (cJ, 30, .inr (.inl v_words_5)))] H) (hD : va_D A [(a_o, .inr (1, [.ref a_settings, .ref a_lines, .ref a_words, .int v_entries])), (a_lines, .inl (cI, 30, .inl v_lines_5)), (a_words, .inl (cJ, 30, .inr (.inl v_words_5)))]) (hS : va_S A s.heap H locs) (hl : lv_has ls 3 [(0, .ref a_o)]), W p l e (headSpec wsX1_makePlaceAt rm_X1_makePlaceAt).room s m ([.ref a_o, .int i_1] : List Value).toArray below meth c H locs 0 0 Q (F0 m 44 ls []) := by
    intro i2_5 v_lines_5 v_words_5 H locs ls hf hP hD hS hl
    refine lv_aload_n hx hb dX1_makePlaceAt_44 rfl (lv_at hl 0 rfl) ?_
    refine lv_dup hx hb dX1_makePlaceAt_45 rfl ?_
    refine va_get (D := (dC, dI)) (ci := 1) (v := .int v_entries) (C := RX1) (T := TX1) (N := 4) hx hb hts hinX1 hown hK hP 0 rfl rfl 3 (by decide) hw0 (fun _ h9 => h9) rfl dX1_makePlaceAt_46 ?_
    refine lv_iconst (v := 1) hx hb dX1_makePlaceAt_49 (by decide) ?_
    refine lv_iadd hx hb dX1_makePlaceAt_50 ?_
    refine va_put (D := (dC, dI)) (ci := 1) (v := .int (v_entries + 1)) (ty := .int) (C := RX1) (T := TX1) (N := 4) hx hb hts hinX1 tyX1 tyX1_ok nmX1 hown hK hP hD hS 0 rfl rfl 3 (by decide) hw0 (fun _ h9 => h9) rfl (by decide +kernel) rfl rfl (Nat.le_of_ble_eq_true rfl) dX1_makePlaceAt_51 (fun H locs hP hD hS => ?_)
    have hP : va_P (dC, dI) vwCl [(a_o, .inr (1, [.ref a_settings, .ref a_lines, .ref a_words, .int (v_entries + 1)])), (a_lines, .inl (cI, 30, .inl v_lines_5)), (a_words, .inl (cJ, 30, .inr (.inl v_words_5)))] H := hP
    have hD : va_D A [(a_o, .inr (1, [.ref a_settings, .ref a_lines, .ref a_words, .int (v_entries + 1)])), (a_lines, .inl (cI, 30, .inl v_lines_5)), (a_words, .inl (cJ, 30, .inr (.inl v_words_5)))] := hD
    have hP9 := hP.sub (ws' := [(a_o, .inr (1, [.ref a_settings, .ref a_lines, .ref a_words, .int (v_entries + 1)])), (a_lines, .inl (cI, 30, .inl v_lines_5)), (a_words, .inl (cJ, 30, .inr (.inl v_words_5)))]) [0, 1, 2] rfl
    have hD9 := hD.sub (ws' := [(a_o, .inr (1, [.ref a_settings, .ref a_lines, .ref a_words, .int (v_entries + 1)])), (a_lines, .inl (cI, 30, .inl v_lines_5)), (a_words, .inl (cJ, 30, .inr (.inl v_words_5)))]) [0, 1, 2] (by decide) rfl
    rw [hQ]; exact W.vret hx hb hr (fun t ht hW => ⟨⟨((v_entries + 1), v_lines_5, v_words_5), rfl, (Option.some.inj hf), by rw [ht]; exact hP9, va_K.moved hW.alike hK, hD9⟩, hS.F ht⟩) hS.2.2 dX1_makePlaceAt_54
  have lp_5 : ∀ (K : Int32 → (Nat → Int32) → (Nat → Int64) → Option (Int32 × (Nat → Int32) × (Nat → Int64))) (hk : ∀ (i2_5 : Int32) (v_lines_5 : Nat → Int32) (v_words_5 : Nat → Int64) (H : Heap) (locs : List Loc) (ls : Array Slot) (hf : K i2_5 v_lines_5 v_words_5 = some res) (hP : va_P (dC, dI) vwCl [(a_o, .inr (1, [.ref a_settings, .ref a_lines, .ref a_words, .int v_entries])), (a_lines, .inl (cI, 30, .inl v_lines_5)), (a_words, .inl (cJ, 30, .inr (.inl v_words_5)))] H) (hD : va_D A [(a_o, .inr (1, [.ref a_settings, .ref a_lines, .ref a_words, .int v_entries])), (a_lines, .inl (cI, 30, .inl v_lines_5)), (a_words, .inl (cJ, 30, .inr (.inl v_words_5)))]) (hS : va_S A s.heap H locs) (hl : lv_has ls 3 [(0, .ref a_o)]), W p l e (headSpec wsX1_makePlaceAt rm_X1_makePlaceAt).room s m ([.ref a_o, .int i_1] : List Value).toArray below meth c H locs 0 0 Q (F0 m 44 ls [])) (n : Nat) (i2_5 : Int32) (v_lines_5 : Nat → Int32) (v_words_5 : Nat → Int64) (H : Heap) (locs : List Loc) (ls : Array Slot) (hf : L_X1_makePlaceAt_5 K i_1 n i2_5 v_lines_5 v_words_5 = some res) (hP : va_P (dC, dI) vwCl [(a_o, .inr (1, [.ref a_settings, .ref a_lines, .ref a_words, .int v_entries])), (a_lines, .inl (cI, 30, .inl v_lines_5)), (a_words, .inl (cJ, 30, .inr (.inl v_words_5)))] H) (hD : va_D A [(a_o, .inr (1, [.ref a_settings, .ref a_lines, .ref a_words, .int v_entries])), (a_lines, .inl (cI, 30, .inl v_lines_5)), (a_words, .inl (cJ, 30, .inr (.inl v_words_5)))]) (hS : va_S A s.heap H locs) (hl : lv_has ls 3 [(2, .int i2_5), (0, .ref a_o), (1, .int i_1)]), W p l e (headSpec wsX1_makePlaceAt rm_X1_makePlaceAt).room s m ([.ref a_o, .int i_1] : List Value).toArray below meth c H locs 0 0 Q (F0 m 5 ls []) := by
    intro K hk n
    induction n with
    | zero => intro i2_5 v_lines_5 v_words_5 H locs ls hf hP hD hS hl; exact absurd ((L_X1_makePlaceAt_5_0 _ _ _ _ _).symm.trans hf) (by simp)
    | succ n ih =>
      intro i2_5 v_lines_5 v_words_5 H locs ls hf hP hD hS hl
      have hf := (L_X1_makePlaceAt_5_s _ _ _ _ _ _).symm.trans hf
      refine lv_iload_n hx hb dX1_makePlaceAt_5 rfl (lv_at hl 0 rfl) ?_
      refine lv_iload_n hx hb dX1_makePlaceAt_6 rfl (lv_at hl 2 rfl) ?_
      refine lv_icmp_le (tgt := 44) hx hb dX1_makePlaceAt_7 (by decide) (fun c_7 => ?_) (fun c_7 => ?_)
      · have hf := (if_pos c_7).symm.trans hf
        exact hk i2_5 v_lines_5 v_words_5 _ _ ls hf (hP.sub [0, 1, 2] rfl) (hD.sub [0, 1, 2] (by decide) rfl) hS (lv_sub hl [1] rfl)
      have hf := (if_neg c_7).symm.trans hf
      refine lv_aload_n hx hb dX1_makePlaceAt_10 rfl (lv_at hl 1 rfl) ?_
      refine va_get (D := (dC, dI)) (ci := 1) (v := .ref a_words) (C := RX1) (T := TX1) (N := 4) hx hb hts hinX1 hown hK hP 0 rfl rfl 2 (by decide) hw1 (fun _ h9 => h9) rfl dX1_makePlaceAt_11 ?_
      refine lv_iload_n hx hb dX1_makePlaceAt_14 rfl (lv_at hl 0 rfl) ?_
      refine lv_aload_n hx hb dX1_makePlaceAt_15 rfl (lv_at hl 1 rfl) ?_
      refine va_get (D := (dC, dI)) (ci := 1) (v := .ref a_words) (C := RX1) (T := TX1) (N := 4) hx hb hts hinX1 hown hK hP 0 rfl rfl 2 (by decide) hw1 (fun _ h9 => h9) rfl dX1_makePlaceAt_16 ?_
      refine lv_iload_n hx hb dX1_makePlaceAt_19 rfl (lv_at hl 0 rfl) ?_
      refine lv_iconst (v := 1) hx hb dX1_makePlaceAt_20 (by decide) ?_
      refine lv_isub hx hb dX1_makePlaceAt_21 ?_
      obtain ⟨g_22, hf⟩ := gd_some hf
      refine va_lald hx hb hK hP 2 1 rfl rfl (xin_vp g_22) dX1_makePlaceAt_22 ?_
      obtain ⟨g_23, hf⟩ := gd_some hf
      refine va_last hx hb hK hP hD hS 2 1 rfl rfl (xin_vp g_23) dX1_makePlaceAt_23 (fun H locs hP hD hS => ?_)
      have hP : va_P (dC, dI) vwCl [(a_o, .inr (1, [.ref a_settings, .ref a_lines, .ref a_words, .int v_entries])), (a_lines, .inl (cI, 30, .inl v_lines_5)), (a_words, .inl (cJ, 30, .inr (.inl (vp_updL v_words_5 i2_5.toNatClampNeg (v_words_5 (i2_5 - 1).toNatClampNeg)))))] H := hP
      have hD : va_D A [(a_o, .inr (1, [.ref a_settings, .ref a_lines, .ref a_words, .int v_entries])), (a_lines, .inl (cI, 30, .inl v_lines_5)), (a_words, .inl (cJ, 30, .inr (.inl (vp_updL v_words_5 i2_5.toNatClampNeg (v_words_5 (i2_5 - 1).toNatClampNeg)))))] := hD
      refine lv_aload_n hx hb dX1_makePlaceAt_24 rfl (lv_at hl 1 rfl) ?_
      refine va_get (D := (dC, dI)) (ci := 1) (v := .ref a_lines) (C := RX1) (T := TX1) (N := 4) hx hb hts hinX1 hown hK hP 0 rfl rfl 1 (by decide) hw2 (fun _ h9 => h9) rfl dX1_makePlaceAt_25 ?_
      refine lv_iload_n hx hb dX1_makePlaceAt_28 rfl (lv_at hl 0 rfl) ?_
      refine lv_aload_n hx hb dX1_makePlaceAt_29 rfl (lv_at hl 1 rfl) ?_
      refine va_get (D := (dC, dI)) (ci := 1) (v := .ref a_lines) (C := RX1) (T := TX1) (N := 4) hx hb hts hinX1 hown hK hP 0 rfl rfl 1 (by decide) hw2 (fun _ h9 => h9) rfl dX1_makePlaceAt_30 ?_
      refine lv_iload_n hx hb dX1_makePlaceAt_33 rfl (lv_at hl 0 rfl) ?_
      refine lv_iconst (v := 1) hx hb dX1_makePlaceAt_34 (by decide) ?_
      refine lv_isub hx hb dX1_makePlaceAt_35 ?_
      obtain ⟨g_36, hf⟩ := gd_some hf
      refine va_iald hx hb hK hP 1 0 rfl rfl (xin_vp g_36) dX1_makePlaceAt_36 ?_
      obtain ⟨g_37, hf⟩ := gd_some hf
      refine va_iast hx hb hK hP hD hS 1 0 rfl rfl (xin_vp g_37) dX1_makePlaceAt_37 (fun H locs hP hD hS => ?_)
      have hP : va_P (dC, dI) vwCl [(a_o, .inr (1, [.ref a_settings, .ref a_lines, .ref a_words, .int v_entries])), (a_lines, .inl (cI, 30, .inl (upd v_lines_5 i2_5.toNatClampNeg (v_lines_5 (i2_5 - 1).toNatClampNeg)))), (a_words, .inl (cJ, 30, .inr (.inl (vp_updL v_words_5 i2_5.toNatClampNeg (v_words_5 (i2_5 - 1).toNatClampNeg)))))] H := hP
      have hD : va_D A [(a_o, .inr (1, [.ref a_settings, .ref a_lines, .ref a_words, .int v_entries])), (a_lines, .inl (cI, 30, .inl (upd v_lines_5 i2_5.toNatClampNeg (v_lines_5 (i2_5 - 1).toNatClampNeg)))), (a_words, .inl (cJ, 30, .inr (.inl (vp_updL v_words_5 i2_5.toNatClampNeg (v_words_5 (i2_5 - 1).toNatClampNeg)))))] := hD
      refine lv_iinc (v := (i2_5 + (-1))) (lv' := [(2, .int (i2_5 + (-1))), (0, .ref a_o), (1, .int i_1)]) hx hb dX1_makePlaceAt_38 hl (k := 0) rfl rfl (by decide) rfl (fun ls hl => ?_)
      refine lv_goto (tgt := 5) hx hb dX1_makePlaceAt_41 (by decide) ?_
      exact ih (i2_5 + (-1)) (upd v_lines_5 i2_5.toNatClampNeg (v_lines_5 (i2_5 - 1).toNatClampNeg)) (vp_updL v_words_5 i2_5.toNatClampNeg (v_words_5 (i2_5 - 1).toNatClampNeg)) _ _ ls hf (hP.sub [0, 1, 2] rfl) (hD.sub [0, 1, 2] (by decide) rfl) hS (lv_sub hl [0, 1, 2] rfl)
  exact lp_5 _ hk_5 FU v_entries v_lines v_words _ _ ls hf (hP.sub [0, 1, 2] rfl) (hD.sub [0, 1, 2] (by decide) rfl) hS (lv_sub hl [0, 1, 2] rfl)
abbrev rm_X1_tell : Room := { frames := 1, cells := 0, slots := 0, locals := 23 }
set_option maxHeartbeats 4000000 in
set_option maxRecDepth 100000 in
theorem c_X1_tell (l : Launch) (dC : Nat → ClassId) (dI : Nat → Nat → Nat) (cI cJ cZ cO : ClassId) (a_o : Nat) (a_settings : Nat) (a_lines : Nat) (a_words : Nat) (v_entries : Int32) (v_lines : Nat → Int32) (v_words : Nat → Int64) (j_1 : Int64) (i_3 : Int32) (sz : Nat) (res : Int32 × Int32 × (Nat → Int32) × (Nat → Int64)) (hf : f_X1_tell v_entries v_lines v_words j_1 i_3 = some res) : Met l yX1_tell wsX1_tell rm_X1_tell (va_Pc [.ref a_o, .long j_1, .int i_3] (fun U => U.heap.size = sz ∧ va_P (dC, dI) vwCl [(a_o, .inr (1, [.ref a_settings, .ref a_lines, .ref a_words, .int v_entries])), (a_lines, .inl (cI, 30, .inl v_lines)), (a_words, .inl (cJ, 30, .inr (.inl v_words)))] U.heap ∧ va_K (dC, dI) vwCl [(cI, .int), (cJ, .long), (cZ, .boolean), (cO, .object RX1)] U ∧ va_D (fun _ => True) [(a_o, .inr (1, [.ref a_settings, .ref a_lines, .ref a_words, .int v_entries])), (a_lines, .inl (cI, 30, .inl v_lines)), (a_words, .inl (cJ, 30, .inr (.inl v_words)))])) (va_Qi (fun (r : Int32) (u : Int32 × (Nat → Int32) × (Nat → Int64)) => r = res.1 ∧ u = res.2) (fun u t => va_P (dC, dI) vwCl [(a_o, .inr (1, [.ref a_settings, .ref a_lines, .ref a_words, .int u.1])), (a_lines, .inl (cI, 30, .inl u.2.1)), (a_words, .inl (cJ, 30, .inr (.inl u.2.2)))] t.heap ∧ va_K (dC, dI) vwCl [(cI, .int), (cJ, .long), (cZ, .boolean), (cO, .object RX1)] t ∧ va_D (va_A [(a_o, .inr (1, [.ref a_settings, .ref a_lines, .ref a_words, .int v_entries])), (a_lines, .inl (cI, 30, .inl v_lines)), (a_words, .inl (cJ, 30, .inr (.inl v_words)))] sz) [(a_o, .inr (1, [.ref a_settings, .ref a_lines, .ref a_words, .int u.1])), (a_lines, .inl (cI, 30, .inl u.2.1)), (a_words, .inl (cJ, 30, .inr (.inl u.2.2)))]) (va_A [(a_o, .inr (1, [.ref a_settings, .ref a_lines, .ref a_words, .int v_entries])), (a_lines, .inl (cI, 30, .inl v_lines)), (a_words, .inl (cJ, 30, .inr (.inl v_words)))] sz)) 0 0 (va_A [(a_o, .inr (1, [.ref a_settings, .ref a_lines, .ref a_words, .int v_entries])), (a_lines, .inl (cI, 30, .inl v_lines)), (a_words, .inl (cJ, 30, .inr (.inl v_words)))] sz) := by
  refine Met.ofW (cc := cX1_tell) (maxL := 5) (ret := (some .boolean)) (by decide) rfl ?_
  intro p e s m args below meth c s₁ B hml hv
  obtain ⟨rfl, hsz, hP, hK, hD0⟩ := hv
  have hx := B.exec
  have hb := B.bytes
  have hr := B.returns
  have hts := atoms_spec (ws := wsX1_tell) B.pre
  have hown : s.vm.findClass RX1 = some m.cls := findClass_of_methodNamed B.named
  have hlocks := B.notSynchronized
  have hinX1 : ∀ w ∈ u_ws RX1 TX1 4, w ∈ wsX1_tell := by decide +kernel
  have hw0 := hts (.fieldLink RX1 18 "RunningHeads$Lexicon" "lines" "[I") (by decide +kernel)
  have hw1 := hts (.fieldLink RX1 25 "RunningHeads$Lexicon" "entries" "I") (by decide +kernel)
  have hw2 := hts (.fieldLink RX1 21 "RunningHeads$Lexicon" "words" "[J") (by decide +kernel)
  have hl := lv_entry ([.ref a_o, .long j_1, .int i_3]) (n := 5) (Nat.le_of_ble_eq_true rfl)
  rw [lg_entry_eq]
  generalize (lg_sl ([.ref a_o, .long j_1, .int i_3]) ++ List.replicate (5 - (lg_sl ([.ref a_o, .long j_1, .int i_3])).length) Slot.unset).toArray = ls at hl ⊢
  have hl : lv_has ls 5 [(0, .ref a_o), (1, .long j_1), (3, .int i_3)] := hl
  subst hsz
  have hD := hD0.self (sz := s.heap.size)
  generalize hAe : va_A [(a_o, .inr (1, [.ref a_settings, .ref a_lines, .ref a_words, .int v_entries])), (a_lines, .inl (cI, 30, .inl v_lines)), (a_words, .inl (cJ, 30, .inr (.inl v_words)))] s.heap.size = A at hD ⊢
  have hA : ∀ q : Nat, s.heap.size ≤ q → A q := fun q h => by rw [← hAe]; exact Or.inr h
  refine W_gen (fun Q hQ => ?_)
  refine W_start (A := A) hP (fun H locs hP hS => ?_)
  unfold f_X1_tell at hf
  refine lv_aload_n hx hb dX1_tell_0 rfl (lv_at hl 0 rfl) ?_
  refine lv_lload_n hx hb dX1_tell_1 rfl (lv_at hl 1 rfl) ?_
  obtain ⟨r_2, hu_2, hf⟩ := bd_some hf
  have hPc := hP.sub (ws' := [(a_o, .inr (1, [.ref a_settings, .ref a_lines, .ref a_words, .int v_entries])), (a_words, .inl (cJ, 30, .inr (.inl v_words)))]) [0, 2] rfl
  refine vp_callSi (W.runV (As := [.long j_1]) (rest := []) ⟨hx, hb, hml, hown, hts⟩ (c_X1_placeOf l dC dI cI cJ cZ cO a_o a_settings a_lines a_words v_entries v_words j_1 _ hu_2) (cwV 1 hts gX1_tell_X1_placeOf rfl rfl rfl (by decide +kernel) ⟨Nat.le_of_ble_eq_true rfl, Nat.le_of_ble_eq_true rfl⟩) ⟨fun a U g mk q => ⟨q.1, q.2.1, va_K.moved (u := U) (U := U.calling g mk a) (Vm.Alike.refl U.vm) q.2.2⟩, va_recv hK hPc (ci := 1) (q0 := 0) rfl rfl, fun U hU hW => ⟨rfl, by rw [hU]; exact hPc, va_K.moved hW.alike hK⟩⟩ rfl rfl hl.1 rfl (lv_room (Nat.le_of_ble_eq_true rfl)) dX1_tell_2 ⟨Nat.le_of_ble_eq_true rfl, Nat.le_of_ble_eq_true rfl⟩) (fun r hw => ?_)
  have hw := hw.symm; subst hw
  refine lv_istore (lv' := [(4, .int r_2), (0, .ref a_o), (1, .long j_1), (3, .int i_3)]) hx hb dX1_tell_5 hl (by decide) rfl (fun ls hl => ?_)
  refine lv_aload_n hx hb dX1_tell_7 rfl (lv_at hl 1 rfl) ?_
  refine lv_iload hx hb dX1_tell_8 (lv_at hl 0 rfl) ?_
  have hPc := hP.sub (ws' := [(a_o, .inr (1, [.ref a_settings, .ref a_lines, .ref a_words, .int v_entries]))]) [0] rfl
  refine vp_callSi (W.runV (As := [.int r_2]) (rest := []) ⟨hx, hb, hml, hown, hts⟩ (c_X1_hasEntry l dC dI cI cJ cZ cO a_o a_settings a_lines a_words v_entries r_2 _ rfl) (cwV 1 hts gX1_tell_X1_hasEntry rfl rfl rfl (by decide +kernel) ⟨Nat.le_of_ble_eq_true rfl, Nat.le_of_ble_eq_true rfl⟩) ⟨fun a U g mk q => ⟨q.1, q.2.1, va_K.moved (u := U) (U := U.calling g mk a) (Vm.Alike.refl U.vm) q.2.2⟩, va_recv hK hPc (ci := 1) (q0 := 0) rfl rfl, fun U hU hW => ⟨rfl, by rw [hU]; exact hPc, va_K.moved hW.alike hK⟩⟩ rfl rfl hl.1 rfl (lv_room (Nat.le_of_ble_eq_true rfl)) dX1_tell_10 ⟨Nat.le_of_ble_eq_true rfl, Nat.le_of_ble_eq_true rfl⟩) (fun r hw => ?_)
  have hw := hw.symm; subst hw
  have jp_53 : ∀ (v_entries_53 : Int32) (v_lines_53 : Nat → Int32) (v_words_53 : Nat → Int64) (H : Heap) (locs : List Loc) (ls : Array Slot) (hf : J_X1_tell_53 i_3 r_2 v_entries_53 v_lines_53 v_words_53 = some res) (hP : va_P (dC, dI) vwCl [(a_o, .inr (1, [.ref a_settings, .ref a_lines, .ref a_words, .int v_entries_53])), (a_lines, .inl (cI, 30, .inl v_lines_53)), (a_words, .inl (cJ, 30, .inr (.inl v_words_53)))] H) (hD : va_D A [(a_o, .inr (1, [.ref a_settings, .ref a_lines, .ref a_words, .int v_entries_53])), (a_lines, .inl (cI, 30, .inl v_lines_53)), (a_words, .inl (cJ, 30, .inr (.inl v_words_53)))]) (hS : va_S A s.heap H locs) (hl : lv_has ls 5 [(4, .int r_2), (0, .ref a_o), (3, .int i_3)]), W p l e (headSpec wsX1_tell rm_X1_tell).room s m ([.ref a_o, .long j_1, .int i_3] : List Value).toArray below meth c H locs 0 0 Q (F0 m 53 ls []) := by
    intro v_entries_53 v_lines_53 v_words_53 H locs ls hf hP hD hS hl
    unfold J_X1_tell_53 at hf
    refine lv_aload_n hx hb dX1_tell_53 rfl (lv_at hl 1 rfl) ?_
    refine va_get (D := (dC, dI)) (ci := 1) (v := .ref a_lines) (C := RX1) (T := TX1) (N := 4) hx hb hts hinX1 hown hK hP 0 rfl rfl 1 (by decide) hw0 (fun _ h9 => h9) rfl dX1_tell_54 ?_
    refine lv_iload hx hb dX1_tell_57 (lv_at hl 0 rfl) ?_
    refine lv_iload_n hx hb dX1_tell_59 rfl (lv_at hl 2 rfl) ?_
    obtain ⟨g_60, hf⟩ := gd_some hf
    refine va_iast hx hb hK hP hD hS 1 0 rfl rfl (xin_vp g_60) dX1_tell_60 (fun H locs hP hD hS => ?_)
    have hP : va_P (dC, dI) vwCl [(a_o, .inr (1, [.ref a_settings, .ref a_lines, .ref a_words, .int v_entries_53])), (a_lines, .inl (cI, 30, .inl (upd v_lines_53 r_2.toNatClampNeg i_3))), (a_words, .inl (cJ, 30, .inr (.inl v_words_53)))] H := hP
    have hD : va_D A [(a_o, .inr (1, [.ref a_settings, .ref a_lines, .ref a_words, .int v_entries_53])), (a_lines, .inl (cI, 30, .inl (upd v_lines_53 r_2.toNatClampNeg i_3))), (a_words, .inl (cJ, 30, .inr (.inl v_words_53)))] := hD
    refine lv_iconst (v := 1) hx hb dX1_tell_61 (by decide) ?_
    have hP9 := hP.sub (ws' := [(a_o, .inr (1, [.ref a_settings, .ref a_lines, .ref a_words, .int v_entries_53])), (a_lines, .inl (cI, 30, .inl (upd v_lines_53 r_2.toNatClampNeg i_3))), (a_words, .inl (cJ, 30, .inr (.inl v_words_53)))]) [0, 1, 2] rfl
    have hD9 := hD.sub (ws' := [(a_o, .inr (1, [.ref a_settings, .ref a_lines, .ref a_words, .int v_entries_53])), (a_lines, .inl (cI, 30, .inl (upd v_lines_53 r_2.toNatClampNeg i_3))), (a_words, .inl (cJ, 30, .inr (.inl v_words_53)))]) [0, 1, 2] (by decide) rfl
    rw [hQ]; exact W.zret (v := 1) hx hb hr rfl (fun t ht hW => ⟨⟨1, (v_entries_53, (upd v_lines_53 r_2.toNatClampNeg i_3), v_words_53), rfl, ⟨congrArg Prod.fst (Option.some.inj hf), congrArg Prod.snd (Option.some.inj hf)⟩, by rw [ht]; exact hP9, va_K.moved hW.alike hK, hD9⟩, hS.F ht⟩) hS.2.2 dX1_tell_62
  have jp_28 : ∀ (H : Heap) (locs : List Loc) (ls : Array Slot) (hf : J_X1_tell_28 j_1 i_3 v_entries v_lines v_words r_2 = some res) (hP : va_P (dC, dI) vwCl [(a_o, .inr (1, [.ref a_settings, .ref a_lines, .ref a_words, .int v_entries])), (a_lines, .inl (cI, 30, .inl v_lines)), (a_words, .inl (cJ, 30, .inr (.inl v_words)))] H) (hD : va_D A [(a_o, .inr (1, [.ref a_settings, .ref a_lines, .ref a_words, .int v_entries])), (a_lines, .inl (cI, 30, .inl v_lines)), (a_words, .inl (cJ, 30, .inr (.inl v_words)))]) (hS : va_S A s.heap H locs) (hl : lv_has ls 5 [(4, .int r_2), (0, .ref a_o), (1, .long j_1), (3, .int i_3)]), W p l e (headSpec wsX1_tell rm_X1_tell).room s m ([.ref a_o, .long j_1, .int i_3] : List Value).toArray below meth c H locs 0 0 Q (F0 m 28 ls []) := by
    intro H locs ls hf hP hD hS hl
    unfold J_X1_tell_28 at hf
    refine lv_aload_n hx hb dX1_tell_28 rfl (lv_at hl 1 rfl) ?_
    refine va_get (D := (dC, dI)) (ci := 1) (v := .int v_entries) (C := RX1) (T := TX1) (N := 4) hx hb hts hinX1 hown hK hP 0 rfl rfl 3 (by decide) hw1 (fun _ h9 => h9) rfl dX1_tell_29 ?_
    refine lv_bipush (v := 30) hx hb dX1_tell_32 (by decide) ?_
    refine lv_icmp_lt (tgt := 39) hx hb dX1_tell_34 (by decide) (fun c_34 => ?_) (fun c_34 => ?_)
    · have hf := (if_pos c_34).symm.trans hf
      refine lv_aload_n hx hb dX1_tell_39 rfl (lv_at hl 1 rfl) ?_
      refine lv_iload hx hb dX1_tell_40 (lv_at hl 0 rfl) ?_
      obtain ⟨r_42, hu_42, hf⟩ := bd_some hf
      have hPc := hP.sub (ws' := [(a_o, .inr (1, [.ref a_settings, .ref a_lines, .ref a_words, .int v_entries])), (a_lines, .inl (cI, 30, .inl v_lines)), (a_words, .inl (cJ, 30, .inr (.inl v_words)))]) [0, 1, 2] rfl
      have hDc := hD.sub (ws' := [(a_o, .inr (1, [.ref a_settings, .ref a_lines, .ref a_words, .int v_entries])), (a_lines, .inl (cI, 30, .inl v_lines)), (a_words, .inl (cJ, 30, .inr (.inl v_words)))]) [0, 1, 2] (by decide) rfl
      have hFc := va_free (wc := [(a_o, .inr (1, [.ref a_settings, .ref a_lines, .ref a_words, .int v_entries])), (a_lines, .inl (cI, 30, .inl v_lines)), (a_words, .inl (cJ, 30, .inr (.inl v_words)))]) hD hS hA [0, 1, 2] rfl
      refine va_callv (va_runV (As := [.int r_2]) (rest := []) ⟨hx, hb, hml, hown, hts⟩ (c_X1_makePlaceAt l dC dI cI cJ cZ cO a_o a_settings a_lines a_words v_entries v_lines v_words r_2 H.size _ hu_42) (cwV 1 hts gX1_tell_X1_makePlaceAt rfl rfl rfl (by decide +kernel) ⟨Nat.le_of_ble_eq_true rfl, Nat.le_of_ble_eq_true rfl⟩) ⟨fun a U g mk q => by obtain ⟨q0, q1, qP, qK, qD⟩ := q; exact ⟨q0, q1, qP, va_K.moved (u := U) (U := U.calling g mk a) (Vm.Alike.refl U.vm) qK, qD⟩, va_recv hK hPc (ci := 1) (q0 := 0) rfl rfl, fun U hU hW => ⟨rfl, by rw [hU], by rw [hU]; exact hPc, va_K.moved hW.alike hK, hDc.weaken (fun _ _ _ _ => trivial)⟩⟩ rfl rfl hl.1 rfl (lv_room (Nat.le_of_ble_eq_true rfl)) dX1_tell_42 ⟨Nat.le_of_ble_eq_true rfl, Nat.le_of_ble_eq_true rfl⟩) hS (fun q _ h => hFc q h) hFc (fun u t H1 locs ht hvm hw hB hz1 hk1 hS => ?_)
      have hw := hw.symm; subst hw
      obtain ⟨hP1, hK1, hD1⟩ := hB
      rw [ht] at hP1
      obtain ⟨hP, hD⟩ := va_join (wr := []) (w1 := [(a_o, .inr (1, [.ref a_settings, .ref a_lines, .ref a_words, .int r_42.1])), (a_lines, .inl (cI, 30, .inl r_42.2.1)), (a_words, .inl (cJ, 30, .inr (.inl r_42.2.2)))]) hP hD [0, 1, 2] [] rfl rfl (by decide) (by decide) hk1 hFc hP1 hD1
      generalize H1 = H at hP hS ⊢
      have hP : va_P (dC, dI) vwCl [(a_o, .inr (1, [.ref a_settings, .ref a_lines, .ref a_words, .int r_42.1])), (a_lines, .inl (cI, 30, .inl r_42.2.1)), (a_words, .inl (cJ, 30, .inr (.inl r_42.2.2)))] H := hP
      have hD : va_D A [(a_o, .inr (1, [.ref a_settings, .ref a_lines, .ref a_words, .int r_42.1])), (a_lines, .inl (cI, 30, .inl r_42.2.1)), (a_words, .inl (cJ, 30, .inr (.inl r_42.2.2)))] := hD
      refine lv_aload_n hx hb dX1_tell_45 rfl (lv_at hl 1 rfl) ?_
      refine va_get (D := (dC, dI)) (ci := 1) (v := .ref a_words) (C := RX1) (T := TX1) (N := 4) hx hb hts hinX1 hown hK hP 0 rfl rfl 2 (by decide) hw2 (fun _ h9 => h9) rfl dX1_tell_46 ?_
      refine lv_iload hx hb dX1_tell_49 (lv_at hl 0 rfl) ?_
      refine lv_lload_n hx hb dX1_tell_51 rfl (lv_at hl 2 rfl) ?_
      obtain ⟨g_52, hf⟩ := gd_some hf
      refine va_last hx hb hK hP hD hS 2 1 rfl rfl (xin_vp g_52) dX1_tell_52 (fun H locs hP hD hS => ?_)
      have hP : va_P (dC, dI) vwCl [(a_o, .inr (1, [.ref a_settings, .ref a_lines, .ref a_words, .int r_42.1])), (a_lines, .inl (cI, 30, .inl r_42.2.1)), (a_words, .inl (cJ, 30, .inr (.inl (vp_updL r_42.2.2 r_2.toNatClampNeg j_1))))] H := hP
      have hD : va_D A [(a_o, .inr (1, [.ref a_settings, .ref a_lines, .ref a_words, .int r_42.1])), (a_lines, .inl (cI, 30, .inl r_42.2.1)), (a_words, .inl (cJ, 30, .inr (.inl (vp_updL r_42.2.2 r_2.toNatClampNeg j_1))))] := hD
      exact jp_53 r_42.1 r_42.2.1 (vp_updL r_42.2.2 r_2.toNatClampNeg j_1) _ _ ls hf (hP.sub [0, 1, 2] rfl) (hD.sub [0, 1, 2] (by decide) rfl) hS (lv_sub hl [0, 1, 3] rfl)
    have hf := (if_neg c_34).symm.trans hf
    refine lv_iconst (v := 0) hx hb dX1_tell_37 (by decide) ?_
    have hP9 := hP.sub (ws' := [(a_o, .inr (1, [.ref a_settings, .ref a_lines, .ref a_words, .int v_entries])), (a_lines, .inl (cI, 30, .inl v_lines)), (a_words, .inl (cJ, 30, .inr (.inl v_words)))]) [0, 1, 2] rfl
    have hD9 := hD.sub (ws' := [(a_o, .inr (1, [.ref a_settings, .ref a_lines, .ref a_words, .int v_entries])), (a_lines, .inl (cI, 30, .inl v_lines)), (a_words, .inl (cJ, 30, .inr (.inl v_words)))]) [0, 1, 2] (by decide) rfl
    rw [hQ]; exact W.zret (v := 0) hx hb hr rfl (fun t ht hW => ⟨⟨0, (v_entries, v_lines, v_words), rfl, ⟨congrArg Prod.fst (Option.some.inj hf), congrArg Prod.snd (Option.some.inj hf)⟩, by rw [ht]; exact hP9, va_K.moved hW.alike hK, hD9⟩, hS.F ht⟩) hS.2.2 dX1_tell_38
  refine lv_if_eq (tgt := 28) hx hb dX1_tell_13 (by decide) (fun c_13 => ?_) (fun c_13 => ?_)
  · have hf := (if_pos c_13).symm.trans hf
    exact jp_28 _ _ ls hf (hP.sub [0, 1, 2] rfl) (hD.sub [0, 1, 2] (by decide) rfl) hS (lv_sub hl [0, 1, 2, 3] rfl)
  have hf := (if_neg c_13).symm.trans hf
  refine lv_aload_n hx hb dX1_tell_16 rfl (lv_at hl 1 rfl) ?_
  refine va_get (D := (dC, dI)) (ci := 1) (v := .ref a_words) (C := RX1) (T := TX1) (N := 4) hx hb hts hinX1 hown hK hP 0 rfl rfl 2 (by decide) hw2 (fun _ h9 => h9) rfl dX1_tell_17 ?_
  refine lv_iload hx hb dX1_tell_20 (lv_at hl 0 rfl) ?_
  obtain ⟨g_22, hf⟩ := gd_some hf
  refine va_lald hx hb hK hP 2 1 rfl rfl (xin_vp g_22) dX1_tell_22 ?_
  refine lv_lload_n hx hb dX1_tell_23 rfl (lv_at hl 2 rfl) ?_
  refine W.lcmp hx hb dX1_tell_24 ?_
  refine lv_if_eq (tgt := 53) hx hb dX1_tell_25 (by decide) (fun c_25 => ?_) (fun c_25 => ?_)
  · have hf := (if_pos ((lg_cmp_eq _ _).mp c_25)).symm.trans hf
    exact jp_53 v_entries v_lines v_words _ _ ls hf (hP.sub [0, 1, 2] rfl) (hD.sub [0, 1, 2] (by decide) rfl) hS (lv_sub hl [0, 1, 3] rfl)
  have hf := (if_neg (fun h => c_25 ((lg_cmp_eq _ _).mpr h))).symm.trans hf
  exact jp_28 _ _ ls hf (hP.sub [0, 1, 2] rfl) (hD.sub [0, 1, 2] (by decide) rfl) hS (lv_sub hl [0, 1, 2, 3] rfl)
abbrev rm_X1_takeOut : Room := { frames := 1, cells := 0, slots := 0, locals := 21 }
set_option maxHeartbeats 4000000 in
set_option maxRecDepth 100000 in
theorem c_X1_takeOut (l : Launch) (dC : Nat → ClassId) (dI : Nat → Nat → Nat) (cI cJ cZ cO : ClassId) (a_o : Nat) (a_settings : Nat) (a_lines : Nat) (a_words : Nat) (v_entries : Int32) (v_lines : Nat → Int32) (v_words : Nat → Int64) (i_1 : Int32) (sz : Nat) (res : Int32 × (Nat → Int32) × (Nat → Int64)) (hf : f_X1_takeOut v_entries v_lines v_words i_1 = some res) : Met l yX1_takeOut wsX1_takeOut rm_X1_takeOut (va_Pc [.ref a_o, .int i_1] (fun U => U.heap.size = sz ∧ va_P (dC, dI) vwCl [(a_o, .inr (1, [.ref a_settings, .ref a_lines, .ref a_words, .int v_entries])), (a_lines, .inl (cI, 30, .inl v_lines)), (a_words, .inl (cJ, 30, .inr (.inl v_words)))] U.heap ∧ va_K (dC, dI) vwCl [(cI, .int), (cJ, .long), (cZ, .boolean), (cO, .object RX1)] U ∧ va_D (fun _ => True) [(a_o, .inr (1, [.ref a_settings, .ref a_lines, .ref a_words, .int v_entries])), (a_lines, .inl (cI, 30, .inl v_lines)), (a_words, .inl (cJ, 30, .inr (.inl v_words)))])) (va_Qv (fun u : Int32 × (Nat → Int32) × (Nat → Int64) => u = res) (fun u t => va_P (dC, dI) vwCl [(a_o, .inr (1, [.ref a_settings, .ref a_lines, .ref a_words, .int u.1])), (a_lines, .inl (cI, 30, .inl u.2.1)), (a_words, .inl (cJ, 30, .inr (.inl u.2.2)))] t.heap ∧ va_K (dC, dI) vwCl [(cI, .int), (cJ, .long), (cZ, .boolean), (cO, .object RX1)] t ∧ va_D (va_A [(a_o, .inr (1, [.ref a_settings, .ref a_lines, .ref a_words, .int v_entries])), (a_lines, .inl (cI, 30, .inl v_lines)), (a_words, .inl (cJ, 30, .inr (.inl v_words)))] sz) [(a_o, .inr (1, [.ref a_settings, .ref a_lines, .ref a_words, .int u.1])), (a_lines, .inl (cI, 30, .inl u.2.1)), (a_words, .inl (cJ, 30, .inr (.inl u.2.2)))]) (va_A [(a_o, .inr (1, [.ref a_settings, .ref a_lines, .ref a_words, .int v_entries])), (a_lines, .inl (cI, 30, .inl v_lines)), (a_words, .inl (cJ, 30, .inr (.inl v_words)))] sz)) 0 0 (va_A [(a_o, .inr (1, [.ref a_settings, .ref a_lines, .ref a_words, .int v_entries])), (a_lines, .inl (cI, 30, .inl v_lines)), (a_words, .inl (cJ, 30, .inr (.inl v_words)))] sz) := by
  refine Met.ofW (cc := cX1_takeOut) (maxL := 3) (ret := none) (by decide) rfl ?_
  intro p e s m args below meth c s₁ B hml hv
  obtain ⟨rfl, hsz, hP, hK, hD0⟩ := hv
  have hx := B.exec
  have hb := B.bytes
  have hr := B.returns
  have hts := atoms_spec (ws := wsX1_takeOut) B.pre
  have hown : s.vm.findClass RX1 = some m.cls := findClass_of_methodNamed B.named
  have hlocks := B.notSynchronized
  have hinX1 : ∀ w ∈ u_ws RX1 TX1 4, w ∈ wsX1_takeOut := by decide +kernel
  have hw0 := hts (.fieldLink RX1 25 "RunningHeads$Lexicon" "entries" "I") (by decide +kernel)
  have hw1 := hts (.fieldLink RX1 21 "RunningHeads$Lexicon" "words" "[J") (by decide +kernel)
  have hw2 := hts (.fieldLink RX1 18 "RunningHeads$Lexicon" "lines" "[I") (by decide +kernel)
  have hl := lv_entry ([.ref a_o, .int i_1]) (n := 3) (Nat.le_of_ble_eq_true rfl)
  rw [lg_entry_eq]
  generalize (lg_sl ([.ref a_o, .int i_1]) ++ List.replicate (3 - (lg_sl ([.ref a_o, .int i_1])).length) Slot.unset).toArray = ls at hl ⊢
  have hl : lv_has ls 3 [(0, .ref a_o), (1, .int i_1)] := hl
  subst hsz
  have hD := hD0.self (sz := s.heap.size)
  generalize hAe : va_A [(a_o, .inr (1, [.ref a_settings, .ref a_lines, .ref a_words, .int v_entries])), (a_lines, .inl (cI, 30, .inl v_lines)), (a_words, .inl (cJ, 30, .inr (.inl v_words)))] s.heap.size = A at hD ⊢
  have hA : ∀ q : Nat, s.heap.size ≤ q → A q := fun q h => by rw [← hAe]; exact Or.inr h
  refine W_gen (fun Q hQ => ?_)
  refine W_start (A := A) hP (fun H locs hP hS => ?_)
  unfold f_X1_takeOut at hf
  refine lv_aload_n hx hb dX1_takeOut_0 rfl (lv_at hl 0 rfl) ?_
  refine lv_iload_n hx hb dX1_takeOut_1 rfl (lv_at hl 1 rfl) ?_
  have hPc := hP.sub (ws' := [(a_o, .inr (1, [.ref a_settings, .ref a_lines, .ref a_words, .int v_entries]))]) [0] rfl
  refine vp_callSi (W.runV (As := [.int i_1]) (rest := []) ⟨hx, hb, hml, hown, hts⟩ (c_X1_hasEntry l dC dI cI cJ cZ cO a_o a_settings a_lines a_words v_entries i_1 _ rfl) (cwV 1 hts gX1_takeOut_X1_hasEntry rfl rfl rfl (by decide +kernel) ⟨Nat.le_of_ble_eq_true rfl, Nat.le_of_ble_eq_true rfl⟩) ⟨fun a U g mk q => ⟨q.1, q.2.1, va_K.moved (u := U) (U := U.calling g mk a) (Vm.Alike.refl U.vm) q.2.2⟩, va_recv hK hPc (ci := 1) (q0 := 0) rfl rfl, fun U hU hW => ⟨rfl, by rw [hU]; exact hPc, va_K.moved hW.alike hK⟩⟩ rfl rfl hl.1 rfl (lv_room (Nat.le_of_ble_eq_true rfl)) dX1_takeOut_2 ⟨Nat.le_of_ble_eq_true rfl, Nat.le_of_ble_eq_true rfl⟩) (fun r hw => ?_)
  have hw := hw.symm; subst hw
  refine lv_if_ne (tgt := 9) hx hb dX1_takeOut_5 (by decide) (fun c_5 => ?_) (fun c_5 => ?_)
  · have hf := (if_neg c_5).symm.trans hf
    refine lv_iload_n hx hb dX1_takeOut_9 rfl (lv_at hl 1 rfl) ?_
    refine lv_iconst (v := 1) hx hb dX1_takeOut_10 (by decide) ?_
    refine lv_iadd hx hb dX1_takeOut_11 ?_
    refine lv_istore_n (lv' := [(2, .int (i_1 + 1)), (0, .ref a_o), (1, .int i_1)]) hx hb dX1_takeOut_12 rfl hl (by decide) rfl (fun ls hl => ?_)
    have hk_13 : ∀ (i2_13 : Int32) (v_lines_13 : Nat → Int32) (v_words_13 : Nat → Int64) (H : Heap) (locs : List Loc) (ls : Array Slot) (hf : (some ((v_entries - 1), v_lines_13, v_words_13)) = some res) (hP : va_P (dC, dI) vwCl [(a_o, .inr (1, [.ref a_settings, .ref a_lines, .ref a_words, .int v_entries])), (a_lines, .inl (cI, 30, .inl v_lines_13)), (a_words, .inl (cJ, 30, .inr (.inl v_words_13)))] H) (hD : va_D A [(a_o, .inr (1, [.ref a_settings, .ref a_lines, .ref a_words, .int v_entries])), (a_lines, .inl (cI, 30, .inl v_lines_13)), (a_words, .inl (cJ, 30, .inr (.inl v_words_13)))]) (hS : va_S A s.heap H locs) (hl : lv_has ls 3 [(0, .ref a_o)]), W p l e (headSpec wsX1_takeOut rm_X1_takeOut).room s m ([.ref a_o, .int i_1] : List Value).toArray below meth c H locs 0 0 Q (F0 m 55 ls []) := by
      intro i2_13 v_lines_13 v_words_13 H locs ls hf hP hD hS hl
      refine lv_aload_n hx hb dX1_takeOut_55 rfl (lv_at hl 0 rfl) ?_
      refine lv_dup hx hb dX1_takeOut_56 rfl ?_
      refine va_get (D := (dC, dI)) (ci := 1) (v := .int v_entries) (C := RX1) (T := TX1) (N := 4) hx hb hts hinX1 hown hK hP 0 rfl rfl 3 (by decide) hw0 (fun _ h9 => h9) rfl dX1_takeOut_57 ?_
      refine lv_iconst (v := 1) hx hb dX1_takeOut_60 (by decide) ?_
      refine lv_isub hx hb dX1_takeOut_61 ?_
      refine va_put (D := (dC, dI)) (ci := 1) (v := .int (v_entries - 1)) (ty := .int) (C := RX1) (T := TX1) (N := 4) hx hb hts hinX1 tyX1 tyX1_ok nmX1 hown hK hP hD hS 0 rfl rfl 3 (by decide) hw0 (fun _ h9 => h9) rfl (by decide +kernel) rfl rfl (Nat.le_of_ble_eq_true rfl) dX1_takeOut_62 (fun H locs hP hD hS => ?_)
      have hP : va_P (dC, dI) vwCl [(a_o, .inr (1, [.ref a_settings, .ref a_lines, .ref a_words, .int (v_entries - 1)])), (a_lines, .inl (cI, 30, .inl v_lines_13)), (a_words, .inl (cJ, 30, .inr (.inl v_words_13)))] H := hP
      have hD : va_D A [(a_o, .inr (1, [.ref a_settings, .ref a_lines, .ref a_words, .int (v_entries - 1)])), (a_lines, .inl (cI, 30, .inl v_lines_13)), (a_words, .inl (cJ, 30, .inr (.inl v_words_13)))] := hD
      have hP9 := hP.sub (ws' := [(a_o, .inr (1, [.ref a_settings, .ref a_lines, .ref a_words, .int (v_entries - 1)])), (a_lines, .inl (cI, 30, .inl v_lines_13)), (a_words, .inl (cJ, 30, .inr (.inl v_words_13)))]) [0, 1, 2] rfl
      have hD9 := hD.sub (ws' := [(a_o, .inr (1, [.ref a_settings, .ref a_lines, .ref a_words, .int (v_entries - 1)])), (a_lines, .inl (cI, 30, .inl v_lines_13)), (a_words, .inl (cJ, 30, .inr (.inl v_words_13)))]) [0, 1, 2] (by decide) rfl
      rw [hQ]; exact W.vret hx hb hr (fun t ht hW => ⟨⟨((v_entries - 1), v_lines_13, v_words_13), rfl, (Option.some.inj hf), by rw [ht]; exact hP9, va_K.moved hW.alike hK, hD9⟩, hS.F ht⟩) hS.2.2 dX1_takeOut_65
    have lp_13 : ∀ (K : Int32 → (Nat → Int32) → (Nat → Int64) → Option (Int32 × (Nat → Int32) × (Nat → Int64))) (hk : ∀ (i2_13 : Int32) (v_lines_13 : Nat → Int32) (v_words_13 : Nat → Int64) (H : Heap) (locs : List Loc) (ls : Array Slot) (hf : K i2_13 v_lines_13 v_words_13 = some res) (hP : va_P (dC, dI) vwCl [(a_o, .inr (1, [.ref a_settings, .ref a_lines, .ref a_words, .int v_entries])), (a_lines, .inl (cI, 30, .inl v_lines_13)), (a_words, .inl (cJ, 30, .inr (.inl v_words_13)))] H) (hD : va_D A [(a_o, .inr (1, [.ref a_settings, .ref a_lines, .ref a_words, .int v_entries])), (a_lines, .inl (cI, 30, .inl v_lines_13)), (a_words, .inl (cJ, 30, .inr (.inl v_words_13)))]) (hS : va_S A s.heap H locs) (hl : lv_has ls 3 [(0, .ref a_o)]), W p l e (headSpec wsX1_takeOut rm_X1_takeOut).room s m ([.ref a_o, .int i_1] : List Value).toArray below meth c H locs 0 0 Q (F0 m 55 ls [])) (n : Nat) (i2_13 : Int32) (v_lines_13 : Nat → Int32) (v_words_13 : Nat → Int64) (H : Heap) (locs : List Loc) (ls : Array Slot) (hf : L_X1_takeOut_13 K v_entries n i2_13 v_lines_13 v_words_13 = some res) (hP : va_P (dC, dI) vwCl [(a_o, .inr (1, [.ref a_settings, .ref a_lines, .ref a_words, .int v_entries])), (a_lines, .inl (cI, 30, .inl v_lines_13)), (a_words, .inl (cJ, 30, .inr (.inl v_words_13)))] H) (hD : va_D A [(a_o, .inr (1, [.ref a_settings, .ref a_lines, .ref a_words, .int v_entries])), (a_lines, .inl (cI, 30, .inl v_lines_13)), (a_words, .inl (cJ, 30, .inr (.inl v_words_13)))]) (hS : va_S A s.heap H locs) (hl : lv_has ls 3 [(2, .int i2_13), (0, .ref a_o)]), W p l e (headSpec wsX1_takeOut rm_X1_takeOut).room s m ([.ref a_o, .int i_1] : List Value).toArray below meth c H locs 0 0 Q (F0 m 13 ls []) := by
      intro K hk n
      induction n with
      | zero => intro i2_13 v_lines_13 v_words_13 H locs ls hf hP hD hS hl; exact absurd ((L_X1_takeOut_13_0 _ _ _ _ _).symm.trans hf) (by simp)
      | succ n ih =>
        intro i2_13 v_lines_13 v_words_13 H locs ls hf hP hD hS hl
        have hf := (L_X1_takeOut_13_s _ _ _ _ _ _).symm.trans hf
        refine lv_iload_n hx hb dX1_takeOut_13 rfl (lv_at hl 0 rfl) ?_
        refine lv_aload_n hx hb dX1_takeOut_14 rfl (lv_at hl 1 rfl) ?_
        refine va_get (D := (dC, dI)) (ci := 1) (v := .int v_entries) (C := RX1) (T := TX1) (N := 4) hx hb hts hinX1 hown hK hP 0 rfl rfl 3 (by decide) hw0 (fun _ h9 => h9) rfl dX1_takeOut_15 ?_
        refine lv_icmp_ge (tgt := 55) hx hb dX1_takeOut_18 (by decide) (fun c_18 => ?_) (fun c_18 => ?_)
        · have hf := (if_pos c_18).symm.trans hf
          exact hk i2_13 v_lines_13 v_words_13 _ _ ls hf (hP.sub [0, 1, 2] rfl) (hD.sub [0, 1, 2] (by decide) rfl) hS (lv_sub hl [1] rfl)
        have hf := (if_neg c_18).symm.trans hf
        refine lv_aload_n hx hb dX1_takeOut_21 rfl (lv_at hl 1 rfl) ?_
        refine va_get (D := (dC, dI)) (ci := 1) (v := .ref a_words) (C := RX1) (T := TX1) (N := 4) hx hb hts hinX1 hown hK hP 0 rfl rfl 2 (by decide) hw1 (fun _ h9 => h9) rfl dX1_takeOut_22 ?_
        refine lv_iload_n hx hb dX1_takeOut_25 rfl (lv_at hl 0 rfl) ?_
        refine lv_iconst (v := 1) hx hb dX1_takeOut_26 (by decide) ?_
        refine lv_isub hx hb dX1_takeOut_27 ?_
        refine lv_aload_n hx hb dX1_takeOut_28 rfl (lv_at hl 1 rfl) ?_
        refine va_get (D := (dC, dI)) (ci := 1) (v := .ref a_words) (C := RX1) (T := TX1) (N := 4) hx hb hts hinX1 hown hK hP 0 rfl rfl 2 (by decide) hw1 (fun _ h9 => h9) rfl dX1_takeOut_29 ?_
        refine lv_iload_n hx hb dX1_takeOut_32 rfl (lv_at hl 0 rfl) ?_
        obtain ⟨g_33, hf⟩ := gd_some hf
        refine va_lald hx hb hK hP 2 1 rfl rfl (xin_vp g_33) dX1_takeOut_33 ?_
        obtain ⟨g_34, hf⟩ := gd_some hf
        refine va_last hx hb hK hP hD hS 2 1 rfl rfl (xin_vp g_34) dX1_takeOut_34 (fun H locs hP hD hS => ?_)
        have hP : va_P (dC, dI) vwCl [(a_o, .inr (1, [.ref a_settings, .ref a_lines, .ref a_words, .int v_entries])), (a_lines, .inl (cI, 30, .inl v_lines_13)), (a_words, .inl (cJ, 30, .inr (.inl (vp_updL v_words_13 (i2_13 - 1).toNatClampNeg (v_words_13 i2_13.toNatClampNeg)))))] H := hP
        have hD : va_D A [(a_o, .inr (1, [.ref a_settings, .ref a_lines, .ref a_words, .int v_entries])), (a_lines, .inl (cI, 30, .inl v_lines_13)), (a_words, .inl (cJ, 30, .inr (.inl (vp_updL v_words_13 (i2_13 - 1).toNatClampNeg (v_words_13 i2_13.toNatClampNeg)))))] := hD
        refine lv_aload_n hx hb dX1_takeOut_35 rfl (lv_at hl 1 rfl) ?_
        refine va_get (D := (dC, dI)) (ci := 1) (v := .ref a_lines) (C := RX1) (T := TX1) (N := 4) hx hb hts hinX1 hown hK hP 0 rfl rfl 1 (by decide) hw2 (fun _ h9 => h9) rfl dX1_takeOut_36 ?_
        refine lv_iload_n hx hb dX1_takeOut_39 rfl (lv_at hl 0 rfl) ?_
        refine lv_iconst (v := 1) hx hb dX1_takeOut_40 (by decide) ?_
        refine lv_isub hx hb dX1_takeOut_41 ?_
        refine lv_aload_n hx hb dX1_takeOut_42 rfl (lv_at hl 1 rfl) ?_
        refine va_get (D := (dC, dI)) (ci := 1) (v := .ref a_lines) (C := RX1) (T := TX1) (N := 4) hx hb hts hinX1 hown hK hP 0 rfl rfl 1 (by decide) hw2 (fun _ h9 => h9) rfl dX1_takeOut_43 ?_
        refine lv_iload_n hx hb dX1_takeOut_46 rfl (lv_at hl 0 rfl) ?_
        obtain ⟨g_47, hf⟩ := gd_some hf
        refine va_iald hx hb hK hP 1 0 rfl rfl (xin_vp g_47) dX1_takeOut_47 ?_
        obtain ⟨g_48, hf⟩ := gd_some hf
        refine va_iast hx hb hK hP hD hS 1 0 rfl rfl (xin_vp g_48) dX1_takeOut_48 (fun H locs hP hD hS => ?_)
        have hP : va_P (dC, dI) vwCl [(a_o, .inr (1, [.ref a_settings, .ref a_lines, .ref a_words, .int v_entries])), (a_lines, .inl (cI, 30, .inl (upd v_lines_13 (i2_13 - 1).toNatClampNeg (v_lines_13 i2_13.toNatClampNeg)))), (a_words, .inl (cJ, 30, .inr (.inl (vp_updL v_words_13 (i2_13 - 1).toNatClampNeg (v_words_13 i2_13.toNatClampNeg)))))] H := hP
        have hD : va_D A [(a_o, .inr (1, [.ref a_settings, .ref a_lines, .ref a_words, .int v_entries])), (a_lines, .inl (cI, 30, .inl (upd v_lines_13 (i2_13 - 1).toNatClampNeg (v_lines_13 i2_13.toNatClampNeg)))), (a_words, .inl (cJ, 30, .inr (.inl (vp_updL v_words_13 (i2_13 - 1).toNatClampNeg (v_words_13 i2_13.toNatClampNeg)))))] := hD
        refine lv_iinc (v := (i2_13 + 1)) (lv' := [(2, .int (i2_13 + 1)), (0, .ref a_o)]) hx hb dX1_takeOut_49 hl (k := 0) rfl rfl (by decide) rfl (fun ls hl => ?_)
        refine lv_goto (tgt := 13) hx hb dX1_takeOut_52 (by decide) ?_
        exact ih (i2_13 + 1) (upd v_lines_13 (i2_13 - 1).toNatClampNeg (v_lines_13 i2_13.toNatClampNeg)) (vp_updL v_words_13 (i2_13 - 1).toNatClampNeg (v_words_13 i2_13.toNatClampNeg)) _ _ ls hf (hP.sub [0, 1, 2] rfl) (hD.sub [0, 1, 2] (by decide) rfl) hS (lv_sub hl [0, 1] rfl)
    exact lp_13 _ hk_13 FU (i_1 + 1) v_lines v_words _ _ ls hf (hP.sub [0, 1, 2] rfl) (hD.sub [0, 1, 2] (by decide) rfl) hS (lv_sub hl [0, 1] rfl)
  have hf := (if_pos c_5).symm.trans hf
  have hP9 := hP.sub (ws' := [(a_o, .inr (1, [.ref a_settings, .ref a_lines, .ref a_words, .int v_entries])), (a_lines, .inl (cI, 30, .inl v_lines)), (a_words, .inl (cJ, 30, .inr (.inl v_words)))]) [0, 1, 2] rfl
  have hD9 := hD.sub (ws' := [(a_o, .inr (1, [.ref a_settings, .ref a_lines, .ref a_words, .int v_entries])), (a_lines, .inl (cI, 30, .inl v_lines)), (a_words, .inl (cJ, 30, .inr (.inl v_words)))]) [0, 1, 2] (by decide) rfl
  rw [hQ]; exact W.vret hx hb hr (fun t ht hW => ⟨⟨(v_entries, v_lines, v_words), rfl, (Option.some.inj hf), by rw [ht]; exact hP9, va_K.moved hW.alike hK, hD9⟩, hS.F ht⟩) hS.2.2 dX1_takeOut_8
abbrev rm_X1_copyOf : Room := { frames := 0, cells := 0, slots := 0, locals := 0 }
set_option maxHeartbeats 4000000 in
set_option maxRecDepth 100000 in
theorem c_X1_copyOf (l : Launch) (dC : Nat → ClassId) (dI : Nat → Nat → Nat) (cI cJ cZ cO : ClassId) (a_o : Nat) (a_settings : Nat) (a_lines : Nat) (a_words : Nat) (v_entries : Int32) (v_settings : Nat → Int32) (v_lines : Nat → Int32) (v_words : Nat → Int64) (a_x1 : Nat) (a_x1_settings : Nat) (a_x1_lines : Nat) (a_x1_words : Nat) (v_x1_entries : Int32) (v_x1_settings : Nat → Int32) (v_x1_lines : Nat → Int32) (v_x1_words : Nat → Int64) (sz : Nat) (res : Int32 × (Nat → Int32) × (Nat → Int32) × (Nat → Int64)) (hf : f_X1_copyOf v_settings v_lines v_words v_x1_entries v_x1_settings v_x1_lines v_x1_words = some res) : Met l yX1_copyOf wsX1_copyOf rm_X1_copyOf (va_Pc [.ref a_o, .ref a_x1] (fun U => U.heap.size = sz ∧ va_P (dC, dI) vwCl [(a_o, .inr (1, [.ref a_settings, .ref a_lines, .ref a_words, .int v_entries])), (a_settings, .inl (cI, 3, .inl v_settings)), (a_lines, .inl (cI, 30, .inl v_lines)), (a_words, .inl (cJ, 30, .inr (.inl v_words))), (a_x1, .inr (1, [.ref a_x1_settings, .ref a_x1_lines, .ref a_x1_words, .int v_x1_entries])), (a_x1_settings, .inl (cI, 3, .inl v_x1_settings)), (a_x1_lines, .inl (cI, 30, .inl v_x1_lines)), (a_x1_words, .inl (cJ, 30, .inr (.inl v_x1_words)))] U.heap ∧ va_K (dC, dI) vwCl [(cI, .int), (cJ, .long), (cZ, .boolean), (cO, .object RX1)] U ∧ va_D (fun _ => True) [(a_o, .inr (1, [.ref a_settings, .ref a_lines, .ref a_words, .int v_entries])), (a_settings, .inl (cI, 3, .inl v_settings)), (a_lines, .inl (cI, 30, .inl v_lines)), (a_words, .inl (cJ, 30, .inr (.inl v_words))), (a_x1, .inr (1, [.ref a_x1_settings, .ref a_x1_lines, .ref a_x1_words, .int v_x1_entries])), (a_x1_settings, .inl (cI, 3, .inl v_x1_settings)), (a_x1_lines, .inl (cI, 30, .inl v_x1_lines)), (a_x1_words, .inl (cJ, 30, .inr (.inl v_x1_words)))])) (va_Qv (fun u : Int32 × (Nat → Int32) × (Nat → Int32) × (Nat → Int64) => u = res) (fun u t => va_P (dC, dI) vwCl [(a_o, .inr (1, [.ref a_settings, .ref a_lines, .ref a_words, .int u.1])), (a_settings, .inl (cI, 3, .inl u.2.1)), (a_lines, .inl (cI, 30, .inl u.2.2.1)), (a_words, .inl (cJ, 30, .inr (.inl u.2.2.2))), (a_x1, .inr (1, [.ref a_x1_settings, .ref a_x1_lines, .ref a_x1_words, .int v_x1_entries])), (a_x1_settings, .inl (cI, 3, .inl v_x1_settings)), (a_x1_lines, .inl (cI, 30, .inl v_x1_lines)), (a_x1_words, .inl (cJ, 30, .inr (.inl v_x1_words)))] t.heap ∧ va_K (dC, dI) vwCl [(cI, .int), (cJ, .long), (cZ, .boolean), (cO, .object RX1)] t ∧ va_D (va_A [(a_o, .inr (1, [.ref a_settings, .ref a_lines, .ref a_words, .int v_entries])), (a_settings, .inl (cI, 3, .inl v_settings)), (a_lines, .inl (cI, 30, .inl v_lines)), (a_words, .inl (cJ, 30, .inr (.inl v_words))), (a_x1, .inr (1, [.ref a_x1_settings, .ref a_x1_lines, .ref a_x1_words, .int v_x1_entries])), (a_x1_settings, .inl (cI, 3, .inl v_x1_settings)), (a_x1_lines, .inl (cI, 30, .inl v_x1_lines)), (a_x1_words, .inl (cJ, 30, .inr (.inl v_x1_words)))] sz) [(a_o, .inr (1, [.ref a_settings, .ref a_lines, .ref a_words, .int u.1])), (a_settings, .inl (cI, 3, .inl u.2.1)), (a_lines, .inl (cI, 30, .inl u.2.2.1)), (a_words, .inl (cJ, 30, .inr (.inl u.2.2.2))), (a_x1, .inr (1, [.ref a_x1_settings, .ref a_x1_lines, .ref a_x1_words, .int v_x1_entries])), (a_x1_settings, .inl (cI, 3, .inl v_x1_settings)), (a_x1_lines, .inl (cI, 30, .inl v_x1_lines)), (a_x1_words, .inl (cJ, 30, .inr (.inl v_x1_words)))]) (va_A [(a_o, .inr (1, [.ref a_settings, .ref a_lines, .ref a_words, .int v_entries])), (a_settings, .inl (cI, 3, .inl v_settings)), (a_lines, .inl (cI, 30, .inl v_lines)), (a_words, .inl (cJ, 30, .inr (.inl v_words))), (a_x1, .inr (1, [.ref a_x1_settings, .ref a_x1_lines, .ref a_x1_words, .int v_x1_entries])), (a_x1_settings, .inl (cI, 3, .inl v_x1_settings)), (a_x1_lines, .inl (cI, 30, .inl v_x1_lines)), (a_x1_words, .inl (cJ, 30, .inr (.inl v_x1_words)))] sz)) 0 0 (va_A [(a_o, .inr (1, [.ref a_settings, .ref a_lines, .ref a_words, .int v_entries])), (a_settings, .inl (cI, 3, .inl v_settings)), (a_lines, .inl (cI, 30, .inl v_lines)), (a_words, .inl (cJ, 30, .inr (.inl v_words))), (a_x1, .inr (1, [.ref a_x1_settings, .ref a_x1_lines, .ref a_x1_words, .int v_x1_entries])), (a_x1_settings, .inl (cI, 3, .inl v_x1_settings)), (a_x1_lines, .inl (cI, 30, .inl v_x1_lines)), (a_x1_words, .inl (cJ, 30, .inr (.inl v_x1_words)))] sz) := by
  refine Met.ofW (cc := cX1_copyOf) (maxL := 3) (ret := none) (by decide) rfl ?_
  intro p e s m args below meth c s₁ B hml hv
  obtain ⟨rfl, hsz, hP, hK, hD0⟩ := hv
  have hx := B.exec
  have hb := B.bytes
  have hr := B.returns
  have hts := atoms_spec (ws := wsX1_copyOf) B.pre
  have hown : s.vm.findClass RX1 = some m.cls := findClass_of_methodNamed B.named
  have hlocks := B.notSynchronized
  have hinX1 : ∀ w ∈ u_ws RX1 TX1 4, w ∈ wsX1_copyOf := by decide +kernel
  have hw0 := hts (.fieldLink RX1 13 "RunningHeads$Lexicon" "settings" "[I") (by decide +kernel)
  have hw1 := hts (.fieldLink RX1 25 "RunningHeads$Lexicon" "entries" "I") (by decide +kernel)
  have hw2 := hts (.fieldLink RX1 18 "RunningHeads$Lexicon" "lines" "[I") (by decide +kernel)
  have hw3 := hts (.fieldLink RX1 21 "RunningHeads$Lexicon" "words" "[J") (by decide +kernel)
  have hl := lv_entry ([.ref a_o, .ref a_x1]) (n := 3) (Nat.le_of_ble_eq_true rfl)
  rw [lg_entry_eq]
  generalize (lg_sl ([.ref a_o, .ref a_x1]) ++ List.replicate (3 - (lg_sl ([.ref a_o, .ref a_x1])).length) Slot.unset).toArray = ls at hl ⊢
  have hl : lv_has ls 3 [(0, .ref a_o), (1, .ref a_x1)] := hl
  subst hsz
  have hD := hD0.self (sz := s.heap.size)
  generalize hAe : va_A [(a_o, .inr (1, [.ref a_settings, .ref a_lines, .ref a_words, .int v_entries])), (a_settings, .inl (cI, 3, .inl v_settings)), (a_lines, .inl (cI, 30, .inl v_lines)), (a_words, .inl (cJ, 30, .inr (.inl v_words))), (a_x1, .inr (1, [.ref a_x1_settings, .ref a_x1_lines, .ref a_x1_words, .int v_x1_entries])), (a_x1_settings, .inl (cI, 3, .inl v_x1_settings)), (a_x1_lines, .inl (cI, 30, .inl v_x1_lines)), (a_x1_words, .inl (cJ, 30, .inr (.inl v_x1_words)))] s.heap.size = A at hD ⊢
  have hA : ∀ q : Nat, s.heap.size ≤ q → A q := fun q h => by rw [← hAe]; exact Or.inr h
  refine W_gen (fun Q hQ => ?_)
  refine W_start (A := A) hP (fun H locs hP hS => ?_)
  unfold f_X1_copyOf at hf
  refine lv_iconst (v := 0) hx hb dX1_copyOf_0 (by decide) ?_
  refine lv_istore_n (lv' := [(2, .int 0), (0, .ref a_o), (1, .ref a_x1)]) hx hb dX1_copyOf_1 rfl hl (by decide) rfl (fun ls hl => ?_)
  have hk_2 : ∀ (i2_2 : Int32) (v_settings_2 : Nat → Int32) (H : Heap) (locs : List Loc) (ls : Array Slot) (hf : (L_X1_copyOf_27 (fun (i2_27 : Int32) (v_lines_27 : Nat → Int32) (v_words_27 : Nat → Int64) => some (v_x1_entries, v_settings_2, v_lines_27, v_words_27)) v_x1_entries v_x1_lines v_x1_words FU 0 v_lines v_words) = some res) (hP : va_P (dC, dI) vwCl [(a_o, .inr (1, [.ref a_settings, .ref a_lines, .ref a_words, .int v_entries])), (a_settings, .inl (cI, 3, .inl v_settings_2)), (a_lines, .inl (cI, 30, .inl v_lines)), (a_words, .inl (cJ, 30, .inr (.inl v_words))), (a_x1, .inr (1, [.ref a_x1_settings, .ref a_x1_lines, .ref a_x1_words, .int v_x1_entries])), (a_x1_settings, .inl (cI, 3, .inl v_x1_settings)), (a_x1_lines, .inl (cI, 30, .inl v_x1_lines)), (a_x1_words, .inl (cJ, 30, .inr (.inl v_x1_words)))] H) (hD : va_D A [(a_o, .inr (1, [.ref a_settings, .ref a_lines, .ref a_words, .int v_entries])), (a_settings, .inl (cI, 3, .inl v_settings_2)), (a_lines, .inl (cI, 30, .inl v_lines)), (a_words, .inl (cJ, 30, .inr (.inl v_words))), (a_x1, .inr (1, [.ref a_x1_settings, .ref a_x1_lines, .ref a_x1_words, .int v_x1_entries])), (a_x1_settings, .inl (cI, 3, .inl v_x1_settings)), (a_x1_lines, .inl (cI, 30, .inl v_x1_lines)), (a_x1_words, .inl (cJ, 30, .inr (.inl v_x1_words)))]) (hS : va_S A s.heap H locs) (hl : lv_has ls 3 [(0, .ref a_o), (1, .ref a_x1)]), W p l e (headSpec wsX1_copyOf rm_X1_copyOf).room s m ([.ref a_o, .ref a_x1] : List Value).toArray below meth c H locs 0 0 Q (F0 m 25 ls []) := by
    intro i2_2 v_settings_2 H locs ls hf hP hD hS hl
    refine lv_iconst (v := 0) hx hb dX1_copyOf_25 (by decide) ?_
    refine lv_istore_n (lv' := [(2, .int 0), (0, .ref a_o), (1, .ref a_x1)]) hx hb dX1_copyOf_26 rfl hl (by decide) rfl (fun ls hl => ?_)
    have hk_27 : ∀ (i2_27 : Int32) (v_lines_27 : Nat → Int32) (v_words_27 : Nat → Int64) (H : Heap) (locs : List Loc) (ls : Array Slot) (hf : (some (v_x1_entries, v_settings_2, v_lines_27, v_words_27)) = some res) (hP : va_P (dC, dI) vwCl [(a_o, .inr (1, [.ref a_settings, .ref a_lines, .ref a_words, .int v_entries])), (a_settings, .inl (cI, 3, .inl v_settings_2)), (a_lines, .inl (cI, 30, .inl v_lines_27)), (a_words, .inl (cJ, 30, .inr (.inl v_words_27))), (a_x1, .inr (1, [.ref a_x1_settings, .ref a_x1_lines, .ref a_x1_words, .int v_x1_entries])), (a_x1_settings, .inl (cI, 3, .inl v_x1_settings)), (a_x1_lines, .inl (cI, 30, .inl v_x1_lines)), (a_x1_words, .inl (cJ, 30, .inr (.inl v_x1_words)))] H) (hD : va_D A [(a_o, .inr (1, [.ref a_settings, .ref a_lines, .ref a_words, .int v_entries])), (a_settings, .inl (cI, 3, .inl v_settings_2)), (a_lines, .inl (cI, 30, .inl v_lines_27)), (a_words, .inl (cJ, 30, .inr (.inl v_words_27))), (a_x1, .inr (1, [.ref a_x1_settings, .ref a_x1_lines, .ref a_x1_words, .int v_x1_entries])), (a_x1_settings, .inl (cI, 3, .inl v_x1_settings)), (a_x1_lines, .inl (cI, 30, .inl v_x1_lines)), (a_x1_words, .inl (cJ, 30, .inr (.inl v_x1_words)))]) (hS : va_S A s.heap H locs) (hl : lv_has ls 3 [(0, .ref a_o), (1, .ref a_x1)]), W p l e (headSpec wsX1_copyOf rm_X1_copyOf).room s m ([.ref a_o, .ref a_x1] : List Value).toArray below meth c H locs 0 0 Q (F0 m 65 ls []) := by
      intro i2_27 v_lines_27 v_words_27 H locs ls hf hP hD hS hl
      refine lv_aload_n hx hb dX1_copyOf_65 rfl (lv_at hl 0 rfl) ?_
      refine lv_aload_n hx hb dX1_copyOf_66 rfl (lv_at hl 1 rfl) ?_
      refine va_get (D := (dC, dI)) (ci := 1) (v := .int v_x1_entries) (C := RX1) (T := TX1) (N := 4) hx hb hts hinX1 hown hK hP 4 rfl rfl 3 (by decide) hw1 (fun _ h9 => h9) rfl dX1_copyOf_67 ?_
      refine va_put (D := (dC, dI)) (ci := 1) (v := .int v_x1_entries) (ty := .int) (C := RX1) (T := TX1) (N := 4) hx hb hts hinX1 tyX1 tyX1_ok nmX1 hown hK hP hD hS 0 rfl rfl 3 (by decide) hw1 (fun _ h9 => h9) rfl (by decide +kernel) rfl rfl (Nat.le_of_ble_eq_true rfl) dX1_copyOf_70 (fun H locs hP hD hS => ?_)
      have hP : va_P (dC, dI) vwCl [(a_o, .inr (1, [.ref a_settings, .ref a_lines, .ref a_words, .int v_x1_entries])), (a_settings, .inl (cI, 3, .inl v_settings_2)), (a_lines, .inl (cI, 30, .inl v_lines_27)), (a_words, .inl (cJ, 30, .inr (.inl v_words_27))), (a_x1, .inr (1, [.ref a_x1_settings, .ref a_x1_lines, .ref a_x1_words, .int v_x1_entries])), (a_x1_settings, .inl (cI, 3, .inl v_x1_settings)), (a_x1_lines, .inl (cI, 30, .inl v_x1_lines)), (a_x1_words, .inl (cJ, 30, .inr (.inl v_x1_words)))] H := hP
      have hD : va_D A [(a_o, .inr (1, [.ref a_settings, .ref a_lines, .ref a_words, .int v_x1_entries])), (a_settings, .inl (cI, 3, .inl v_settings_2)), (a_lines, .inl (cI, 30, .inl v_lines_27)), (a_words, .inl (cJ, 30, .inr (.inl v_words_27))), (a_x1, .inr (1, [.ref a_x1_settings, .ref a_x1_lines, .ref a_x1_words, .int v_x1_entries])), (a_x1_settings, .inl (cI, 3, .inl v_x1_settings)), (a_x1_lines, .inl (cI, 30, .inl v_x1_lines)), (a_x1_words, .inl (cJ, 30, .inr (.inl v_x1_words)))] := hD
      have hP9 := hP.sub (ws' := [(a_o, .inr (1, [.ref a_settings, .ref a_lines, .ref a_words, .int v_x1_entries])), (a_settings, .inl (cI, 3, .inl v_settings_2)), (a_lines, .inl (cI, 30, .inl v_lines_27)), (a_words, .inl (cJ, 30, .inr (.inl v_words_27))), (a_x1, .inr (1, [.ref a_x1_settings, .ref a_x1_lines, .ref a_x1_words, .int v_x1_entries])), (a_x1_settings, .inl (cI, 3, .inl v_x1_settings)), (a_x1_lines, .inl (cI, 30, .inl v_x1_lines)), (a_x1_words, .inl (cJ, 30, .inr (.inl v_x1_words)))]) [0, 1, 2, 3, 4, 5, 6, 7] rfl
      have hD9 := hD.sub (ws' := [(a_o, .inr (1, [.ref a_settings, .ref a_lines, .ref a_words, .int v_x1_entries])), (a_settings, .inl (cI, 3, .inl v_settings_2)), (a_lines, .inl (cI, 30, .inl v_lines_27)), (a_words, .inl (cJ, 30, .inr (.inl v_words_27))), (a_x1, .inr (1, [.ref a_x1_settings, .ref a_x1_lines, .ref a_x1_words, .int v_x1_entries])), (a_x1_settings, .inl (cI, 3, .inl v_x1_settings)), (a_x1_lines, .inl (cI, 30, .inl v_x1_lines)), (a_x1_words, .inl (cJ, 30, .inr (.inl v_x1_words)))]) [0, 1, 2, 3, 4, 5, 6, 7] (by decide) rfl
      rw [hQ]; exact W.vret hx hb hr (fun t ht hW => ⟨⟨(v_x1_entries, v_settings_2, v_lines_27, v_words_27), rfl, (Option.some.inj hf), by rw [ht]; exact hP9, va_K.moved hW.alike hK, hD9⟩, hS.F ht⟩) hS.2.2 dX1_copyOf_73
    have lp_27 : ∀ (K : Int32 → (Nat → Int32) → (Nat → Int64) → Option (Int32 × (Nat → Int32) × (Nat → Int32) × (Nat → Int64))) (hk : ∀ (i2_27 : Int32) (v_lines_27 : Nat → Int32) (v_words_27 : Nat → Int64) (H : Heap) (locs : List Loc) (ls : Array Slot) (hf : K i2_27 v_lines_27 v_words_27 = some res) (hP : va_P (dC, dI) vwCl [(a_o, .inr (1, [.ref a_settings, .ref a_lines, .ref a_words, .int v_entries])), (a_settings, .inl (cI, 3, .inl v_settings_2)), (a_lines, .inl (cI, 30, .inl v_lines_27)), (a_words, .inl (cJ, 30, .inr (.inl v_words_27))), (a_x1, .inr (1, [.ref a_x1_settings, .ref a_x1_lines, .ref a_x1_words, .int v_x1_entries])), (a_x1_settings, .inl (cI, 3, .inl v_x1_settings)), (a_x1_lines, .inl (cI, 30, .inl v_x1_lines)), (a_x1_words, .inl (cJ, 30, .inr (.inl v_x1_words)))] H) (hD : va_D A [(a_o, .inr (1, [.ref a_settings, .ref a_lines, .ref a_words, .int v_entries])), (a_settings, .inl (cI, 3, .inl v_settings_2)), (a_lines, .inl (cI, 30, .inl v_lines_27)), (a_words, .inl (cJ, 30, .inr (.inl v_words_27))), (a_x1, .inr (1, [.ref a_x1_settings, .ref a_x1_lines, .ref a_x1_words, .int v_x1_entries])), (a_x1_settings, .inl (cI, 3, .inl v_x1_settings)), (a_x1_lines, .inl (cI, 30, .inl v_x1_lines)), (a_x1_words, .inl (cJ, 30, .inr (.inl v_x1_words)))]) (hS : va_S A s.heap H locs) (hl : lv_has ls 3 [(0, .ref a_o), (1, .ref a_x1)]), W p l e (headSpec wsX1_copyOf rm_X1_copyOf).room s m ([.ref a_o, .ref a_x1] : List Value).toArray below meth c H locs 0 0 Q (F0 m 65 ls [])) (n : Nat) (i2_27 : Int32) (v_lines_27 : Nat → Int32) (v_words_27 : Nat → Int64) (H : Heap) (locs : List Loc) (ls : Array Slot) (hf : L_X1_copyOf_27 K v_x1_entries v_x1_lines v_x1_words n i2_27 v_lines_27 v_words_27 = some res) (hP : va_P (dC, dI) vwCl [(a_o, .inr (1, [.ref a_settings, .ref a_lines, .ref a_words, .int v_entries])), (a_settings, .inl (cI, 3, .inl v_settings_2)), (a_lines, .inl (cI, 30, .inl v_lines_27)), (a_words, .inl (cJ, 30, .inr (.inl v_words_27))), (a_x1, .inr (1, [.ref a_x1_settings, .ref a_x1_lines, .ref a_x1_words, .int v_x1_entries])), (a_x1_settings, .inl (cI, 3, .inl v_x1_settings)), (a_x1_lines, .inl (cI, 30, .inl v_x1_lines)), (a_x1_words, .inl (cJ, 30, .inr (.inl v_x1_words)))] H) (hD : va_D A [(a_o, .inr (1, [.ref a_settings, .ref a_lines, .ref a_words, .int v_entries])), (a_settings, .inl (cI, 3, .inl v_settings_2)), (a_lines, .inl (cI, 30, .inl v_lines_27)), (a_words, .inl (cJ, 30, .inr (.inl v_words_27))), (a_x1, .inr (1, [.ref a_x1_settings, .ref a_x1_lines, .ref a_x1_words, .int v_x1_entries])), (a_x1_settings, .inl (cI, 3, .inl v_x1_settings)), (a_x1_lines, .inl (cI, 30, .inl v_x1_lines)), (a_x1_words, .inl (cJ, 30, .inr (.inl v_x1_words)))]) (hS : va_S A s.heap H locs) (hl : lv_has ls 3 [(2, .int i2_27), (0, .ref a_o), (1, .ref a_x1)]), W p l e (headSpec wsX1_copyOf rm_X1_copyOf).room s m ([.ref a_o, .ref a_x1] : List Value).toArray below meth c H locs 0 0 Q (F0 m 27 ls []) := by
      intro K hk n
      induction n with
      | zero => intro i2_27 v_lines_27 v_words_27 H locs ls hf hP hD hS hl; exact absurd ((L_X1_copyOf_27_0 _ _ _ _ _ _ _).symm.trans hf) (by simp)
      | succ n ih =>
        intro i2_27 v_lines_27 v_words_27 H locs ls hf hP hD hS hl
        have hf := (L_X1_copyOf_27_s _ _ _ _ _ _ _ _).symm.trans hf
        refine lv_iload_n hx hb dX1_copyOf_27 rfl (lv_at hl 0 rfl) ?_
        refine lv_aload_n hx hb dX1_copyOf_28 rfl (lv_at hl 2 rfl) ?_
        refine va_get (D := (dC, dI)) (ci := 1) (v := .int v_x1_entries) (C := RX1) (T := TX1) (N := 4) hx hb hts hinX1 hown hK hP 4 rfl rfl 3 (by decide) hw1 (fun _ h9 => h9) rfl dX1_copyOf_29 ?_
        refine lv_icmp_ge (tgt := 65) hx hb dX1_copyOf_32 (by decide) (fun c_32 => ?_) (fun c_32 => ?_)
        · have hf := (if_pos c_32).symm.trans hf
          exact hk i2_27 v_lines_27 v_words_27 _ _ ls hf (hP.sub [0, 1, 2, 3, 4, 5, 6, 7] rfl) (hD.sub [0, 1, 2, 3, 4, 5, 6, 7] (by decide) rfl) hS (lv_sub hl [1, 2] rfl)
        have hf := (if_neg c_32).symm.trans hf
        refine lv_aload_n hx hb dX1_copyOf_35 rfl (lv_at hl 1 rfl) ?_
        refine va_get (D := (dC, dI)) (ci := 1) (v := .ref a_lines) (C := RX1) (T := TX1) (N := 4) hx hb hts hinX1 hown hK hP 0 rfl rfl 1 (by decide) hw2 (fun _ h9 => h9) rfl dX1_copyOf_36 ?_
        refine lv_iload_n hx hb dX1_copyOf_39 rfl (lv_at hl 0 rfl) ?_
        refine lv_aload_n hx hb dX1_copyOf_40 rfl (lv_at hl 2 rfl) ?_
        refine va_get (D := (dC, dI)) (ci := 1) (v := .ref a_x1_lines) (C := RX1) (T := TX1) (N := 4) hx hb hts hinX1 hown hK hP 4 rfl rfl 1 (by decide) hw2 (fun _ h9 => h9) rfl dX1_copyOf_41 ?_
        refine lv_iload_n hx hb dX1_copyOf_44 rfl (lv_at hl 0 rfl) ?_
        obtain ⟨g_45, hf⟩ := gd_some hf
        refine va_iald hx hb hK hP 6 0 rfl rfl (xin_vp g_45) dX1_copyOf_45 ?_
        obtain ⟨g_46, hf⟩ := gd_some hf
        refine va_iast hx hb hK hP hD hS 2 0 rfl rfl (xin_vp g_46) dX1_copyOf_46 (fun H locs hP hD hS => ?_)
        have hP : va_P (dC, dI) vwCl [(a_o, .inr (1, [.ref a_settings, .ref a_lines, .ref a_words, .int v_entries])), (a_settings, .inl (cI, 3, .inl v_settings_2)), (a_lines, .inl (cI, 30, .inl (upd v_lines_27 i2_27.toNatClampNeg (v_x1_lines i2_27.toNatClampNeg)))), (a_words, .inl (cJ, 30, .inr (.inl v_words_27))), (a_x1, .inr (1, [.ref a_x1_settings, .ref a_x1_lines, .ref a_x1_words, .int v_x1_entries])), (a_x1_settings, .inl (cI, 3, .inl v_x1_settings)), (a_x1_lines, .inl (cI, 30, .inl v_x1_lines)), (a_x1_words, .inl (cJ, 30, .inr (.inl v_x1_words)))] H := hP
        have hD : va_D A [(a_o, .inr (1, [.ref a_settings, .ref a_lines, .ref a_words, .int v_entries])), (a_settings, .inl (cI, 3, .inl v_settings_2)), (a_lines, .inl (cI, 30, .inl (upd v_lines_27 i2_27.toNatClampNeg (v_x1_lines i2_27.toNatClampNeg)))), (a_words, .inl (cJ, 30, .inr (.inl v_words_27))), (a_x1, .inr (1, [.ref a_x1_settings, .ref a_x1_lines, .ref a_x1_words, .int v_x1_entries])), (a_x1_settings, .inl (cI, 3, .inl v_x1_settings)), (a_x1_lines, .inl (cI, 30, .inl v_x1_lines)), (a_x1_words, .inl (cJ, 30, .inr (.inl v_x1_words)))] := hD
        refine lv_aload_n hx hb dX1_copyOf_47 rfl (lv_at hl 1 rfl) ?_
        refine va_get (D := (dC, dI)) (ci := 1) (v := .ref a_words) (C := RX1) (T := TX1) (N := 4) hx hb hts hinX1 hown hK hP 0 rfl rfl 2 (by decide) hw3 (fun _ h9 => h9) rfl dX1_copyOf_48 ?_
        refine lv_iload_n hx hb dX1_copyOf_51 rfl (lv_at hl 0 rfl) ?_
        refine lv_aload_n hx hb dX1_copyOf_52 rfl (lv_at hl 2 rfl) ?_
        refine va_get (D := (dC, dI)) (ci := 1) (v := .ref a_x1_words) (C := RX1) (T := TX1) (N := 4) hx hb hts hinX1 hown hK hP 4 rfl rfl 2 (by decide) hw3 (fun _ h9 => h9) rfl dX1_copyOf_53 ?_
        refine lv_iload_n hx hb dX1_copyOf_56 rfl (lv_at hl 0 rfl) ?_
        obtain ⟨g_57, hf⟩ := gd_some hf
        refine va_lald hx hb hK hP 7 1 rfl rfl (xin_vp g_57) dX1_copyOf_57 ?_
        obtain ⟨g_58, hf⟩ := gd_some hf
        refine va_last hx hb hK hP hD hS 3 1 rfl rfl (xin_vp g_58) dX1_copyOf_58 (fun H locs hP hD hS => ?_)
        have hP : va_P (dC, dI) vwCl [(a_o, .inr (1, [.ref a_settings, .ref a_lines, .ref a_words, .int v_entries])), (a_settings, .inl (cI, 3, .inl v_settings_2)), (a_lines, .inl (cI, 30, .inl (upd v_lines_27 i2_27.toNatClampNeg (v_x1_lines i2_27.toNatClampNeg)))), (a_words, .inl (cJ, 30, .inr (.inl (vp_updL v_words_27 i2_27.toNatClampNeg (v_x1_words i2_27.toNatClampNeg))))), (a_x1, .inr (1, [.ref a_x1_settings, .ref a_x1_lines, .ref a_x1_words, .int v_x1_entries])), (a_x1_settings, .inl (cI, 3, .inl v_x1_settings)), (a_x1_lines, .inl (cI, 30, .inl v_x1_lines)), (a_x1_words, .inl (cJ, 30, .inr (.inl v_x1_words)))] H := hP
        have hD : va_D A [(a_o, .inr (1, [.ref a_settings, .ref a_lines, .ref a_words, .int v_entries])), (a_settings, .inl (cI, 3, .inl v_settings_2)), (a_lines, .inl (cI, 30, .inl (upd v_lines_27 i2_27.toNatClampNeg (v_x1_lines i2_27.toNatClampNeg)))), (a_words, .inl (cJ, 30, .inr (.inl (vp_updL v_words_27 i2_27.toNatClampNeg (v_x1_words i2_27.toNatClampNeg))))), (a_x1, .inr (1, [.ref a_x1_settings, .ref a_x1_lines, .ref a_x1_words, .int v_x1_entries])), (a_x1_settings, .inl (cI, 3, .inl v_x1_settings)), (a_x1_lines, .inl (cI, 30, .inl v_x1_lines)), (a_x1_words, .inl (cJ, 30, .inr (.inl v_x1_words)))] := hD
        refine lv_iinc (v := (i2_27 + 1)) (lv' := [(2, .int (i2_27 + 1)), (0, .ref a_o), (1, .ref a_x1)]) hx hb dX1_copyOf_59 hl (k := 0) rfl rfl (by decide) rfl (fun ls hl => ?_)
        refine lv_goto (tgt := 27) hx hb dX1_copyOf_62 (by decide) ?_
        exact ih (i2_27 + 1) (upd v_lines_27 i2_27.toNatClampNeg (v_x1_lines i2_27.toNatClampNeg)) (vp_updL v_words_27 i2_27.toNatClampNeg (v_x1_words i2_27.toNatClampNeg)) _ _ ls hf (hP.sub [0, 1, 2, 3, 4, 5, 6, 7] rfl) (hD.sub [0, 1, 2, 3, 4, 5, 6, 7] (by decide) rfl) hS (lv_sub hl [0, 1, 2] rfl)
    exact lp_27 _ hk_27 FU 0 v_lines v_words _ _ ls hf (hP.sub [0, 1, 2, 3, 4, 5, 6, 7] rfl) (hD.sub [0, 1, 2, 3, 4, 5, 6, 7] (by decide) rfl) hS (lv_sub hl [0, 1, 2] rfl)
  have lp_2 : ∀ (K : Int32 → (Nat → Int32) → Option (Int32 × (Nat → Int32) × (Nat → Int32) × (Nat → Int64))) (hk : ∀ (i2_2 : Int32) (v_settings_2 : Nat → Int32) (H : Heap) (locs : List Loc) (ls : Array Slot) (hf : K i2_2 v_settings_2 = some res) (hP : va_P (dC, dI) vwCl [(a_o, .inr (1, [.ref a_settings, .ref a_lines, .ref a_words, .int v_entries])), (a_settings, .inl (cI, 3, .inl v_settings_2)), (a_lines, .inl (cI, 30, .inl v_lines)), (a_words, .inl (cJ, 30, .inr (.inl v_words))), (a_x1, .inr (1, [.ref a_x1_settings, .ref a_x1_lines, .ref a_x1_words, .int v_x1_entries])), (a_x1_settings, .inl (cI, 3, .inl v_x1_settings)), (a_x1_lines, .inl (cI, 30, .inl v_x1_lines)), (a_x1_words, .inl (cJ, 30, .inr (.inl v_x1_words)))] H) (hD : va_D A [(a_o, .inr (1, [.ref a_settings, .ref a_lines, .ref a_words, .int v_entries])), (a_settings, .inl (cI, 3, .inl v_settings_2)), (a_lines, .inl (cI, 30, .inl v_lines)), (a_words, .inl (cJ, 30, .inr (.inl v_words))), (a_x1, .inr (1, [.ref a_x1_settings, .ref a_x1_lines, .ref a_x1_words, .int v_x1_entries])), (a_x1_settings, .inl (cI, 3, .inl v_x1_settings)), (a_x1_lines, .inl (cI, 30, .inl v_x1_lines)), (a_x1_words, .inl (cJ, 30, .inr (.inl v_x1_words)))]) (hS : va_S A s.heap H locs) (hl : lv_has ls 3 [(0, .ref a_o), (1, .ref a_x1)]), W p l e (headSpec wsX1_copyOf rm_X1_copyOf).room s m ([.ref a_o, .ref a_x1] : List Value).toArray below meth c H locs 0 0 Q (F0 m 25 ls [])) (n : Nat) (i2_2 : Int32) (v_settings_2 : Nat → Int32) (H : Heap) (locs : List Loc) (ls : Array Slot) (hf : L_X1_copyOf_2 K v_x1_settings n i2_2 v_settings_2 = some res) (hP : va_P (dC, dI) vwCl [(a_o, .inr (1, [.ref a_settings, .ref a_lines, .ref a_words, .int v_entries])), (a_settings, .inl (cI, 3, .inl v_settings_2)), (a_lines, .inl (cI, 30, .inl v_lines)), (a_words, .inl (cJ, 30, .inr (.inl v_words))), (a_x1, .inr (1, [.ref a_x1_settings, .ref a_x1_lines, .ref a_x1_words, .int v_x1_entries])), (a_x1_settings, .inl (cI, 3, .inl v_x1_settings)), (a_x1_lines, .inl (cI, 30, .inl v_x1_lines)), (a_x1_words, .inl (cJ, 30, .inr (.inl v_x1_words)))] H) (hD : va_D A [(a_o, .inr (1, [.ref a_settings, .ref a_lines, .ref a_words, .int v_entries])), (a_settings, .inl (cI, 3, .inl v_settings_2)), (a_lines, .inl (cI, 30, .inl v_lines)), (a_words, .inl (cJ, 30, .inr (.inl v_words))), (a_x1, .inr (1, [.ref a_x1_settings, .ref a_x1_lines, .ref a_x1_words, .int v_x1_entries])), (a_x1_settings, .inl (cI, 3, .inl v_x1_settings)), (a_x1_lines, .inl (cI, 30, .inl v_x1_lines)), (a_x1_words, .inl (cJ, 30, .inr (.inl v_x1_words)))]) (hS : va_S A s.heap H locs) (hl : lv_has ls 3 [(2, .int i2_2), (0, .ref a_o), (1, .ref a_x1)]), W p l e (headSpec wsX1_copyOf rm_X1_copyOf).room s m ([.ref a_o, .ref a_x1] : List Value).toArray below meth c H locs 0 0 Q (F0 m 2 ls []) := by
    intro K hk n
    induction n with
    | zero => intro i2_2 v_settings_2 H locs ls hf hP hD hS hl; exact absurd ((L_X1_copyOf_2_0 _ _ _ _).symm.trans hf) (by simp)
    | succ n ih =>
      intro i2_2 v_settings_2 H locs ls hf hP hD hS hl
      have hf := (L_X1_copyOf_2_s _ _ _ _ _).symm.trans hf
      refine lv_iload_n hx hb dX1_copyOf_2 rfl (lv_at hl 0 rfl) ?_
      refine lv_iconst (v := 3) hx hb dX1_copyOf_3 (by decide) ?_
      refine lv_icmp_ge (tgt := 25) hx hb dX1_copyOf_4 (by decide) (fun c_4 => ?_) (fun c_4 => ?_)
      · have hf := (if_pos c_4).symm.trans hf
        exact hk i2_2 v_settings_2 _ _ ls hf (hP.sub [0, 1, 2, 3, 4, 5, 6, 7] rfl) (hD.sub [0, 1, 2, 3, 4, 5, 6, 7] (by decide) rfl) hS (lv_sub hl [1, 2] rfl)
      have hf := (if_neg c_4).symm.trans hf
      refine lv_aload_n hx hb dX1_copyOf_7 rfl (lv_at hl 1 rfl) ?_
      refine va_get (D := (dC, dI)) (ci := 1) (v := .ref a_settings) (C := RX1) (T := TX1) (N := 4) hx hb hts hinX1 hown hK hP 0 rfl rfl 0 (by decide) hw0 (fun _ h9 => h9) rfl dX1_copyOf_8 ?_
      refine lv_iload_n hx hb dX1_copyOf_11 rfl (lv_at hl 0 rfl) ?_
      refine lv_aload_n hx hb dX1_copyOf_12 rfl (lv_at hl 2 rfl) ?_
      refine va_get (D := (dC, dI)) (ci := 1) (v := .ref a_x1_settings) (C := RX1) (T := TX1) (N := 4) hx hb hts hinX1 hown hK hP 4 rfl rfl 0 (by decide) hw0 (fun _ h9 => h9) rfl dX1_copyOf_13 ?_
      refine lv_iload_n hx hb dX1_copyOf_16 rfl (lv_at hl 0 rfl) ?_
      obtain ⟨g_17, hf⟩ := gd_some hf
      refine va_iald hx hb hK hP 5 0 rfl rfl (xin_vp g_17) dX1_copyOf_17 ?_
      obtain ⟨g_18, hf⟩ := gd_some hf
      refine va_iast hx hb hK hP hD hS 1 0 rfl rfl (xin_vp g_18) dX1_copyOf_18 (fun H locs hP hD hS => ?_)
      have hP : va_P (dC, dI) vwCl [(a_o, .inr (1, [.ref a_settings, .ref a_lines, .ref a_words, .int v_entries])), (a_settings, .inl (cI, 3, .inl (upd v_settings_2 i2_2.toNatClampNeg (v_x1_settings i2_2.toNatClampNeg)))), (a_lines, .inl (cI, 30, .inl v_lines)), (a_words, .inl (cJ, 30, .inr (.inl v_words))), (a_x1, .inr (1, [.ref a_x1_settings, .ref a_x1_lines, .ref a_x1_words, .int v_x1_entries])), (a_x1_settings, .inl (cI, 3, .inl v_x1_settings)), (a_x1_lines, .inl (cI, 30, .inl v_x1_lines)), (a_x1_words, .inl (cJ, 30, .inr (.inl v_x1_words)))] H := hP
      have hD : va_D A [(a_o, .inr (1, [.ref a_settings, .ref a_lines, .ref a_words, .int v_entries])), (a_settings, .inl (cI, 3, .inl (upd v_settings_2 i2_2.toNatClampNeg (v_x1_settings i2_2.toNatClampNeg)))), (a_lines, .inl (cI, 30, .inl v_lines)), (a_words, .inl (cJ, 30, .inr (.inl v_words))), (a_x1, .inr (1, [.ref a_x1_settings, .ref a_x1_lines, .ref a_x1_words, .int v_x1_entries])), (a_x1_settings, .inl (cI, 3, .inl v_x1_settings)), (a_x1_lines, .inl (cI, 30, .inl v_x1_lines)), (a_x1_words, .inl (cJ, 30, .inr (.inl v_x1_words)))] := hD
      refine lv_iinc (v := (i2_2 + 1)) (lv' := [(2, .int (i2_2 + 1)), (0, .ref a_o), (1, .ref a_x1)]) hx hb dX1_copyOf_19 hl (k := 0) rfl rfl (by decide) rfl (fun ls hl => ?_)
      refine lv_goto (tgt := 2) hx hb dX1_copyOf_22 (by decide) ?_
      exact ih (i2_2 + 1) (upd v_settings_2 i2_2.toNatClampNeg (v_x1_settings i2_2.toNatClampNeg)) _ _ ls hf (hP.sub [0, 1, 2, 3, 4, 5, 6, 7] rfl) (hD.sub [0, 1, 2, 3, 4, 5, 6, 7] (by decide) rfl) hS (lv_sub hl [0, 1, 2] rfl)
  exact lp_2 _ hk_2 FU 0 v_settings _ _ ls hf (hP.sub [0, 1, 2, 3, 4, 5, 6, 7] rfl) (hD.sub [0, 1, 2, 3, 4, 5, 6, 7] (by decide) rfl) hS (lv_sub hl [0, 1, 2] rfl)
