/-! walks: L_act -/
abbrev rm_L_act : Room := { frames := 7, cells := 0, slots := 0, locals := 164 }
set_option maxHeartbeats 4000000 in
set_option maxRecDepth 100000 in
theorem c_L_act (l : Launch) (dC : Nat → ClassId) (dI : Nat → Nat → Nat) (cI cJ cZ cO : ClassId) (tL tH tF h0 a_o : Nat) (M : ObjT) (i_1 : Int32) (i_2 : Int32) (res : Int32 × ObjT) (hf : f_L_act M i_1 i_2 = some res) : Met l yL_act wsL_act rm_L_act (obP dC dI cI cJ cZ cO tL tH tF h0 a_o M [.ref a_o, .int i_1, .int i_2]) (obQi dC dI cI cJ cZ cO h0 a_o res.1 res.2) 0 0 (oA0 h0) := by
  refine Met.ofW (cc := cL_act) (maxL := 12) (ret := (some .int)) (by decide) rfl ?_
  intro p e s m args below meth c s₁ B hml hv
  obtain ⟨rfl, hO, hK, hST, hz⟩ := hv
  have hx := B.exec
  have hb := B.bytes
  have hr := B.returns
  have hts := atoms_spec (ws := wsL_act) B.pre
  have hown : s.vm.findClass RL = some m.cls := findClass_of_methodNamed B.named
  have hlocks := B.notSynchronized
  have hw0 := hts (.constantLong RL 92 (58)) (by decide +kernel)
  have hl := lv_entry ([.ref a_o, .int i_1, .int i_2]) (n := 12) (Nat.le_of_ble_eq_true rfl)
  rw [lg_entry_eq]
  generalize (lg_sl ([.ref a_o, .int i_1, .int i_2]) ++ List.replicate (12 - (lg_sl ([.ref a_o, .int i_1, .int i_2])).length) Slot.unset).toArray = ls at hl ⊢
  have hl : lv_has ls 12 [(0, .ref a_o), (1, .int i_1), (2, .int i_2)] := hl
  refine W_gen (fun Q hQ => ?_)
  refine ob_start hO (fun H locs hO hS => ?_)
  unfold f_L_act at hf
  refine lv_iload_n hx hb dL_act_0 rfl (lv_at hl 1 rfl) ?_
  refine lv_bipush (v := 12) hx hb dL_act_1 (by decide) ?_
  refine lv_irem hx hb dL_act_3 (by decide) ?_
  refine lv_rei (x' := (remI i_1 12)) rfl ?_
  refine lv_istore_n (lv' := [(3, .int (remI i_1 12)), (0, .ref a_o), (1, .int i_1), (2, .int i_2)]) hx hb dL_act_4 rfl hl (by decide) rfl (fun ls hl => ?_)
  refine lv_aload_n hx hb dL_act_5 rfl (lv_at hl 1 rfl) ?_
  refine lv_iconst (v := 3) hx hb dL_act_6 (by decide) ?_
  refine ob_calli (va_runV (As := [.int 3]) (rest := []) ⟨hx, hb, hml, hown, hts⟩ (a_X5_count l dC dI cI cJ cZ cO tL tH tF h0 a_o M 3 ) (cwV 1 hts gL_act_X5_count rfl rfl rfl (by decide +kernel) ⟨Nat.le_of_ble_eq_true rfl, Nat.le_of_ble_eq_true rfl⟩) (ob_preV hK hST hz hS hO) rfl rfl hl.1 rfl (lv_room (Nat.le_of_ble_eq_true rfl)) dL_act_7 ⟨Nat.le_of_ble_eq_true rfl, Nat.le_of_ble_eq_true rfl⟩) hS (fun H locs hO hS => ?_)
  refine lv_istore (lv' := [(4, .int (aCount M 3)), (3, .int (remI i_1 12)), (0, .ref a_o), (1, .int i_1), (2, .int i_2)]) hx hb dL_act_10 hl (by decide) rfl (fun ls hl => ?_)
  refine lv_aload_n hx hb dL_act_12 rfl (lv_at hl 2 rfl) ?_
  refine lv_bipush (v := 6) hx hb dL_act_13 (by decide) ?_
  refine ob_calli (va_runV (As := [.int 6]) (rest := []) ⟨hx, hb, hml, hown, hts⟩ (a_X5_count l dC dI cI cJ cZ cO tL tH tF h0 a_o M 6 ) (cwV 1 hts gL_act_X5_count rfl rfl rfl (by decide +kernel) ⟨Nat.le_of_ble_eq_true rfl, Nat.le_of_ble_eq_true rfl⟩) (ob_preV hK hST hz hS hO) rfl rfl hl.1 rfl (lv_room (Nat.le_of_ble_eq_true rfl)) dL_act_15 ⟨Nat.le_of_ble_eq_true rfl, Nat.le_of_ble_eq_true rfl⟩) hS (fun H locs hO hS => ?_)
  refine lv_istore (lv' := [(5, .int (aCount M 6)), (4, .int (aCount M 3)), (3, .int (remI i_1 12)), (0, .ref a_o), (1, .int i_1), (2, .int i_2)]) hx hb dL_act_18 hl (by decide) rfl (fun ls hl => ?_)
  refine lv_iload hx hb dL_act_20 (lv_at hl 1 rfl) ?_
  have jp_33 : ∀ (s0_33 : Int32) (H : Heap) (locs : List Loc) (ls : Array Slot) (hf : J_L_act_33 i_1 i_2 M s0_33 = some res) (hO : OBJ dC dI cI cJ cZ cO h0 a_o M H) (hS : va_S (oA0 h0) s.heap H locs) (hl : lv_has ls 12 [(5, .int (aCount M 6)), (4, .int (aCount M 3)), (3, .int (remI i_1 12)), (0, .ref a_o), (1, .int i_1), (2, .int i_2)]), W p l e (headSpec wsL_act rm_L_act).room s m ([.ref a_o, .int i_1, .int i_2] : List Value).toArray below meth c H locs 0 0 Q (F0 m 33 ls [.int s0_33]) := by
    intro s0_33 H locs ls hf hO hS hl
    unfold J_L_act_33 at hf
    refine lv_istore (lv' := [(6, .int s0_33), (5, .int (aCount M 6)), (4, .int (aCount M 3)), (3, .int (remI i_1 12)), (0, .ref a_o), (1, .int i_1), (2, .int i_2)]) hx hb dL_act_33 hl (by decide) rfl (fun ls hl => ?_)
    refine lv_iload_n hx hb dL_act_35 rfl (lv_at hl 3 rfl) ?_
    refine lv_bipush (v := 6) hx hb dL_act_36 (by decide) ?_
    refine lv_icmp_ge (tgt := 246) hx hb dL_act_38 (by decide) (fun c_38 => ?_) (fun c_38 => ?_)
    · have hf := (if_pos c_38).symm.trans hf
      refine lv_iload_n hx hb dL_act_246 rfl (lv_at hl 3 rfl) ?_
      refine lv_bipush (v := 6) hx hb dL_act_247 (by decide) ?_
      refine lv_icmp_ne (tgt := 343) hx hb dL_act_249 (by decide) (fun c_249 => ?_) (fun c_249 => ?_)
      · have hf := (if_neg c_249).symm.trans hf
        refine lv_iload_n hx hb dL_act_343 rfl (lv_at hl 3 rfl) ?_
        refine lv_bipush (v := 7) hx hb dL_act_344 (by decide) ?_
        refine lv_icmp_ne (tgt := 435) hx hb dL_act_346 (by decide) (fun c_346 => ?_) (fun c_346 => ?_)
        · have hf := (if_neg c_346).symm.trans hf
          refine lv_iload_n hx hb dL_act_435 rfl (lv_at hl 3 rfl) ?_
          refine lv_bipush (v := 8) hx hb dL_act_436 (by decide) ?_
          refine lv_icmp_ne (tgt := 565) hx hb dL_act_438 (by decide) (fun c_438 => ?_) (fun c_438 => ?_)
          · have hf := (if_neg c_438).symm.trans hf
            refine lv_iload_n hx hb dL_act_565 rfl (lv_at hl 3 rfl) ?_
            refine lv_bipush (v := 9) hx hb dL_act_566 (by decide) ?_
            refine lv_icmp_ne (tgt := 727) hx hb dL_act_568 (by decide) (fun c_568 => ?_) (fun c_568 => ?_)
            · have hf := (if_neg c_568).symm.trans hf
              refine lv_iload_n hx hb dL_act_727 rfl (lv_at hl 6 rfl) ?_
              refine lv_iconst (v := 3) hx hb dL_act_728 (by decide) ?_
              refine lv_irem hx hb dL_act_729 (by decide) ?_
              refine lv_rei (x' := (remI i_2 3)) rfl ?_
              refine lv_istore (lv' := [(7, .int (remI i_2 3)), (6, .int s0_33), (5, .int (aCount M 6)), (4, .int (aCount M 3)), (3, .int (remI i_1 12)), (0, .ref a_o), (1, .int i_1), (2, .int i_2)]) hx hb dL_act_730 hl (by decide) rfl (fun ls hl => ?_)
              refine lv_aload_n hx hb dL_act_732 rfl (lv_at hl 5 rfl) ?_
              refine lv_iload hx hb dL_act_733 (lv_at hl 0 rfl) ?_
              refine ob_calli (va_runV (As := [.int (remI i_2 3)]) (rest := []) ⟨hx, hb, hml, hown, hts⟩ (a_X5_count l dC dI cI cJ cZ cO tL tH tF h0 a_o M (remI i_2 3) ) (cwV 1 hts gL_act_X5_count rfl rfl rfl (by decide +kernel) ⟨Nat.le_of_ble_eq_true rfl, Nat.le_of_ble_eq_true rfl⟩) (ob_preV hK hST hz hS hO) rfl rfl hl.1 rfl (lv_room (Nat.le_of_ble_eq_true rfl)) dL_act_735 ⟨Nat.le_of_ble_eq_true rfl, Nat.le_of_ble_eq_true rfl⟩) hS (fun H locs hO hS => ?_)
              refine lv_istore (lv' := [(8, .int (aCount M (remI i_2 3))), (7, .int (remI i_2 3)), (6, .int s0_33), (5, .int (aCount M 6)), (4, .int (aCount M 3)), (3, .int (remI i_1 12)), (0, .ref a_o), (1, .int i_1), (2, .int i_2)]) hx hb dL_act_738 hl (by decide) rfl (fun ls hl => ?_)
              refine lv_iload hx hb dL_act_740 (lv_at hl 1 rfl) ?_
              have jp_781 : ∀ (s0_781 : Int32) (H : Heap) (locs : List Loc) (ls : Array Slot) (hf : J_L_act_781 i_2 M s0_781 = some res) (hO : OBJ dC dI cI cJ cZ cO h0 a_o M H) (hS : va_S (oA0 h0) s.heap H locs) (hl : lv_has ls 12 [(8, .int (aCount M (remI i_2 3))), (7, .int (remI i_2 3)), (5, .int (aCount M 6)), (0, .ref a_o)]), W p l e (headSpec wsL_act rm_L_act).room s m ([.ref a_o, .int i_1, .int i_2] : List Value).toArray below meth c H locs 0 0 Q (F0 m 781 ls [.int s0_781]) := by
                intro s0_781 H locs ls hf hO hS hl
                unfold J_L_act_781 at hf
                refine lv_istore (lv' := [(9, .int s0_781), (8, .int (aCount M (remI i_2 3))), (7, .int (remI i_2 3)), (5, .int (aCount M 6)), (0, .ref a_o)]) hx hb dL_act_781 hl (by decide) rfl (fun ls hl => ?_)
                refine lv_aload_n hx hb dL_act_783 rfl (lv_at hl 4 rfl) ?_
                refine lv_iload hx hb dL_act_784 (lv_at hl 2 rfl) ?_
                refine lv_iload hx hb dL_act_786 (lv_at hl 0 rfl) ?_
                refine ob_calli (va_runV (As := [.int (remI i_2 3), .int s0_781]) (rest := []) ⟨hx, hb, hml, hown, hts⟩ (a_X5_ifSet l dC dI cI cJ cZ cO tL tH tF h0 a_o M (remI i_2 3) s0_781 ) (cwV 2 hts gL_act_X5_ifSet rfl rfl rfl (by decide +kernel) ⟨Nat.le_of_ble_eq_true rfl, Nat.le_of_ble_eq_true rfl⟩) (ob_preV hK hST hz hS hO) rfl rfl hl.1 rfl (lv_room (Nat.le_of_ble_eq_true rfl)) dL_act_788 ⟨Nat.le_of_ble_eq_true rfl, Nat.le_of_ble_eq_true rfl⟩) hS (fun H locs hO hS => ?_)
                refine lv_istore (lv' := [(10, .int (aIfSet M (remI i_2 3) s0_781)), (9, .int s0_781), (8, .int (aCount M (remI i_2 3))), (7, .int (remI i_2 3)), (5, .int (aCount M 6)), (0, .ref a_o)]) hx hb dL_act_791 hl (by decide) rfl (fun ls hl => ?_)
                refine lv_aload_n hx hb dL_act_793 rfl (lv_at hl 5 rfl) ?_
                refine lv_iload hx hb dL_act_794 (lv_at hl 3 rfl) ?_
                refine lv_iload hx hb dL_act_796 (lv_at hl 1 rfl) ?_
                obtain ⟨r_798, hu_798, hf⟩ := bd_some hf
                refine ob_calli (va_runV (As := [.int (remI i_2 3), .int s0_781]) (rest := []) ⟨hx, hb, hml, hown, hts⟩ (a_X5_set l dC dI cI cJ cZ cO tL tH tF h0 a_o M (remI i_2 3) s0_781  hu_798) (cwV 2 hts gL_act_X5_set rfl rfl rfl (by decide +kernel) ⟨Nat.le_of_ble_eq_true rfl, Nat.le_of_ble_eq_true rfl⟩) (ob_preV hK hST hz hS hO) rfl rfl hl.1 rfl (lv_room (Nat.le_of_ble_eq_true rfl)) dL_act_798 ⟨Nat.le_of_ble_eq_true rfl, Nat.le_of_ble_eq_true rfl⟩) hS (fun H locs hO hS => ?_)
                refine lv_iload hx hb dL_act_801 (lv_at hl 2 rfl) ?_
                refine lv_icmp_ne (tgt := 842) hx hb dL_act_803 (by decide) (fun c_803 => ?_) (fun c_803 => ?_)
                · have hf := (if_neg c_803).symm.trans hf
                  refine lv_bipush (v := (-9)) hx hb dL_act_842 (by decide) ?_
                  have hq := Option.some.inj hf
                  rw [hQ]; exact W.iret (v := (-9)) hx hb hr (fun t ht hW => ⟨⟨(-9), r_798.2, rfl, ⟨by rw [← hq], by rw [← hq]⟩, by dsimp only; rw [ht]; exact hO⟩, hS.F ht⟩) hS.2.2 dL_act_844
                have hf := (if_pos c_803).symm.trans hf
                refine lv_aload_n hx hb dL_act_806 rfl (lv_at hl 5 rfl) ?_
                refine lv_iload hx hb dL_act_807 (lv_at hl 3 rfl) ?_
                refine ob_calli (va_runV (As := [.int (remI i_2 3)]) (rest := []) ⟨hx, hb, hml, hown, hts⟩ (a_X5_count l dC dI cI cJ cZ cO tL tH tF h0 a_o r_798.2 (remI i_2 3) ) (cwV 1 hts gL_act_X5_count rfl rfl rfl (by decide +kernel) ⟨Nat.le_of_ble_eq_true rfl, Nat.le_of_ble_eq_true rfl⟩) (ob_preV hK hST hz hS hO) rfl rfl hl.1 rfl (lv_room (Nat.le_of_ble_eq_true rfl)) dL_act_809 ⟨Nat.le_of_ble_eq_true rfl, Nat.le_of_ble_eq_true rfl⟩) hS (fun H locs hO hS => ?_)
                refine lv_iload hx hb dL_act_812 (lv_at hl 1 rfl) ?_
                refine lv_icmp_ne (tgt := 842) hx hb dL_act_814 (by decide) (fun c_814 => ?_) (fun c_814 => ?_)
                · have hf := (if_neg c_814).symm.trans hf
                  refine lv_bipush (v := (-9)) hx hb dL_act_842 (by decide) ?_
                  have hq := Option.some.inj hf
                  rw [hQ]; exact W.iret (v := (-9)) hx hb hr (fun t ht hW => ⟨⟨(-9), r_798.2, rfl, ⟨by rw [← hq], by rw [← hq]⟩, by dsimp only; rw [ht]; exact hO⟩, hS.F ht⟩) hS.2.2 dL_act_844
                have hf := (if_pos c_814).symm.trans hf
                refine lv_aload_n hx hb dL_act_817 rfl (lv_at hl 5 rfl) ?_
                refine lv_iconst (v := 4) hx hb dL_act_818 (by decide) ?_
                refine ob_calli (va_runV (As := [.int 4]) (rest := []) ⟨hx, hb, hml, hown, hts⟩ (a_X5_count l dC dI cI cJ cZ cO tL tH tF h0 a_o r_798.2 4 ) (cwV 1 hts gL_act_X5_count rfl rfl rfl (by decide +kernel) ⟨Nat.le_of_ble_eq_true rfl, Nat.le_of_ble_eq_true rfl⟩) (ob_preV hK hST hz hS hO) rfl rfl hl.1 rfl (lv_room (Nat.le_of_ble_eq_true rfl)) dL_act_819 ⟨Nat.le_of_ble_eq_true rfl, Nat.le_of_ble_eq_true rfl⟩) hS (fun H locs hO hS => ?_)
                refine lv_iload hx hb dL_act_822 (lv_at hl 0 rfl) ?_
                refine lv_icmp_ne (tgt := 842) hx hb dL_act_824 (by decide) (fun c_824 => ?_) (fun c_824 => ?_)
                · have hf := (if_neg c_824).symm.trans hf
                  refine lv_bipush (v := (-9)) hx hb dL_act_842 (by decide) ?_
                  have hq := Option.some.inj hf
                  rw [hQ]; exact W.iret (v := (-9)) hx hb hr (fun t ht hW => ⟨⟨(-9), r_798.2, rfl, ⟨by rw [← hq], by rw [← hq]⟩, by dsimp only; rw [ht]; exact hO⟩, hS.F ht⟩) hS.2.2 dL_act_844
                have hf := (if_pos c_824).symm.trans hf
                refine lv_aload_n hx hb dL_act_827 rfl (lv_at hl 5 rfl) ?_
                refine lv_bipush (v := 6) hx hb dL_act_828 (by decide) ?_
                refine ob_calli (va_runV (As := [.int 6]) (rest := []) ⟨hx, hb, hml, hown, hts⟩ (a_X5_count l dC dI cI cJ cZ cO tL tH tF h0 a_o r_798.2 6 ) (cwV 1 hts gL_act_X5_count rfl rfl rfl (by decide +kernel) ⟨Nat.le_of_ble_eq_true rfl, Nat.le_of_ble_eq_true rfl⟩) (ob_preV hK hST hz hS hO) rfl rfl hl.1 rfl (lv_room (Nat.le_of_ble_eq_true rfl)) dL_act_830 ⟨Nat.le_of_ble_eq_true rfl, Nat.le_of_ble_eq_true rfl⟩) hS (fun H locs hO hS => ?_)
                refine lv_iload hx hb dL_act_833 (lv_at hl 4 rfl) ?_
                refine lv_icmp_ne (tgt := 842) hx hb dL_act_835 (by decide) (fun c_835 => ?_) (fun c_835 => ?_)
                · have hf := (if_neg c_835).symm.trans hf
                  refine lv_bipush (v := (-9)) hx hb dL_act_842 (by decide) ?_
                  have hq := Option.some.inj hf
                  rw [hQ]; exact W.iret (v := (-9)) hx hb hr (fun t ht hW => ⟨⟨(-9), r_798.2, rfl, ⟨by rw [← hq], by rw [← hq]⟩, by dsimp only; rw [ht]; exact hO⟩, hS.F ht⟩) hS.2.2 dL_act_844
                have hf := (if_pos c_835).symm.trans hf
                refine lv_iconst (v := 1) hx hb dL_act_838 (by decide) ?_
                refine lv_goto (tgt := 844) hx hb dL_act_839 (by decide) ?_
                have hq := Option.some.inj hf
                rw [hQ]; exact W.iret (v := 1) hx hb hr (fun t ht hW => ⟨⟨1, r_798.2, rfl, ⟨by rw [← hq], by rw [← hq]⟩, by dsimp only; rw [ht]; exact hO⟩, hS.F ht⟩) hS.2.2 dL_act_844
              refine lv_if_ne (tgt := 757) hx hb dL_act_742 (by decide) (fun c_742 => ?_) (fun c_742 => ?_)
              · have hf := (if_neg c_742).symm.trans hf
                refine lv_iload hx hb dL_act_757 (lv_at hl 1 rfl) ?_
                refine lv_iconst (v := 1) hx hb dL_act_759 (by decide) ?_
                refine lv_icmp_ne (tgt := 774) hx hb dL_act_760 (by decide) (fun c_760 => ?_) (fun c_760 => ?_)
                · have hf := (if_neg c_760).symm.trans hf
                  refine lv_iconst (v := 1) hx hb dL_act_774 (by decide) ?_
                  refine lv_iload_n hx hb dL_act_775 rfl (lv_at hl 8 rfl) ?_
                  refine lv_iconst (v := 3) hx hb dL_act_776 (by decide) ?_
                  refine lv_idiv hx hb dL_act_777 (by decide) ?_
                  refine lv_iconst (v := 3) hx hb dL_act_778 (by decide) ?_
                  refine lv_irem hx hb dL_act_779 (by decide) ?_
                  refine lv_rei (x' := (remI (i_2 / 3) 3)) rfl ?_
                  refine lv_iadd hx hb dL_act_780 ?_
                  exact jp_781 (1 + (remI (i_2 / 3) 3)) _ _ ls hf hO hS (lv_sub hl [0, 1, 3, 6] rfl)
                have hf := (if_pos c_760).symm.trans hf
                refine lv_iconst (v := 4) hx hb dL_act_763 (by decide) ?_
                refine lv_iload_n hx hb dL_act_764 rfl (lv_at hl 8 rfl) ?_
                refine lv_iconst (v := 3) hx hb dL_act_765 (by decide) ?_
                refine lv_idiv hx hb dL_act_766 (by decide) ?_
                refine lv_bipush (v := 27) hx hb dL_act_767 (by decide) ?_
                refine lv_irem hx hb dL_act_769 (by decide) ?_
                refine lv_rei (x' := (remI (i_2 / 3) 27)) rfl ?_
                refine lv_iadd hx hb dL_act_770 ?_
                refine lv_goto (tgt := 781) hx hb dL_act_771 (by decide) ?_
                exact jp_781 (4 + (remI (i_2 / 3) 27)) _ _ ls hf hO hS (lv_sub hl [0, 1, 3, 6] rfl)
              have hf := (if_pos c_742).symm.trans hf
              refine lv_bipush (v := 6) hx hb dL_act_745 (by decide) ?_
              refine lv_iload_n hx hb dL_act_747 rfl (lv_at hl 8 rfl) ?_
              refine lv_iconst (v := 3) hx hb dL_act_748 (by decide) ?_
              refine lv_idiv hx hb dL_act_749 (by decide) ?_
              refine lv_bipush (v := 35) hx hb dL_act_750 (by decide) ?_
              refine lv_irem hx hb dL_act_752 (by decide) ?_
              refine lv_rei (x' := (remI (i_2 / 3) 35)) rfl ?_
              refine lv_iadd hx hb dL_act_753 ?_
              refine lv_goto (tgt := 781) hx hb dL_act_754 (by decide) ?_
              exact jp_781 (6 + (remI (i_2 / 3) 35)) _ _ ls hf hO hS (lv_sub hl [0, 1, 3, 6] rfl)
            have hf := (if_pos c_568).symm.trans hf
            refine lv_aload_n hx hb dL_act_571 rfl (lv_at hl 4 rfl) ?_
            refine lv_iload_n hx hb dL_act_572 rfl (lv_at hl 5 rfl) ?_
            refine lv_bipush (v := 12) hx hb dL_act_573 (by decide) ?_
            refine lv_idiv hx hb dL_act_575 (by decide) ?_
            obtain ⟨r_576, hu_576, hf⟩ := bd_some hf
            refine ob_calli (va_runS (As := [.ref a_o, .int (i_1 / 12)]) (rest := []) ⟨hx, hb, hml, hown, hts⟩ (c_L_word l dC dI cI cJ cZ cO tL tH tF h0 a_o M (i_1 / 12) _ hu_576) (va_cwS 2 hts gL_act_L_word rfl rfl rfl (by decide +kernel) ⟨Nat.le_of_ble_eq_true rfl, Nat.le_of_ble_eq_true rfl⟩) (ob_preS hK hST hz hS hO) rfl rfl hl.1 rfl (lv_room (Nat.le_of_ble_eq_true rfl)) dL_act_576 ⟨Nat.le_of_ble_eq_true rfl, Nat.le_of_ble_eq_true rfl⟩) hS (fun H locs hO hS => ?_)
            refine lv_istore (lv' := [(7, .int r_576.1), (6, .int s0_33), (5, .int (aCount M 6)), (4, .int (aCount M 3)), (3, .int (remI i_1 12)), (0, .ref a_o), (1, .int i_1), (2, .int i_2)]) hx hb dL_act_579 hl (by decide) rfl (fun ls hl => ?_)
            refine lv_aload_n hx hb dL_act_581 rfl (lv_at hl 5 rfl) ?_
            refine ob_calli (va_runV (As := []) (rest := []) ⟨hx, hb, hml, hown, hts⟩ (a_X5_find l dC dI cI cJ cZ cO tL tH tF h0 a_o r_576.2 ) (cwV 0 hts gL_act_X5_find rfl rfl rfl (by decide +kernel) ⟨Nat.le_of_ble_eq_true rfl, Nat.le_of_ble_eq_true rfl⟩) (ob_preV hK hST hz hS hO) rfl rfl hl.1 rfl (lv_room (Nat.le_of_ble_eq_true rfl)) dL_act_582 ⟨Nat.le_of_ble_eq_true rfl, Nat.le_of_ble_eq_true rfl⟩) hS (fun H locs hO hS => ?_)
            refine lv_istore (lv' := [(8, .int (aFind r_576.2)), (7, .int r_576.1), (6, .int s0_33), (5, .int (aCount M 6)), (4, .int (aCount M 3)), (3, .int (remI i_1 12)), (0, .ref a_o), (1, .int i_1), (2, .int i_2)]) hx hb dL_act_585 hl (by decide) rfl (fun ls hl => ?_)
            refine lv_iload hx hb dL_act_587 (lv_at hl 4 rfl) ?_
            have jp_603 : ∀ (s0_603 : Int32) (H : Heap) (locs : List Loc) (ls : Array Slot) (hf : J_L_act_603 i_1 M s0_33 r_576 s0_603 = some res) (hO : OBJ dC dI cI cJ cZ cO h0 a_o r_576.2 H) (hS : va_S (oA0 h0) s.heap H locs) (hl : lv_has ls 12 [(8, .int (aFind r_576.2)), (7, .int r_576.1), (6, .int s0_33), (5, .int (aCount M 6)), (4, .int (aCount M 3)), (0, .ref a_o), (1, .int i_1)]), W p l e (headSpec wsL_act rm_L_act).room s m ([.ref a_o, .int i_1, .int i_2] : List Value).toArray below meth c H locs 0 0 Q (F0 m 603 ls [.int s0_603]) := by
              intro s0_603 H locs ls hf hO hS hl
              unfold J_L_act_603 at hf
              refine lv_istore (lv' := [(9, .int s0_603), (8, .int (aFind r_576.2)), (7, .int r_576.1), (6, .int s0_33), (5, .int (aCount M 6)), (4, .int (aCount M 3)), (0, .ref a_o), (1, .int i_1)]) hx hb dL_act_603 hl (by decide) rfl (fun ls hl => ?_)
              refine lv_aload_n hx hb dL_act_605 rfl (lv_at hl 6 rfl) ?_
              refine lv_iload hx hb dL_act_606 (lv_at hl 3 rfl) ?_
              obtain ⟨r_608, hu_608, hf⟩ := bd_some hf
              refine ob_calli (va_runV (As := [.int s0_33]) (rest := []) ⟨hx, hb, hml, hown, hts⟩ (a_X5_rename l dC dI cI cJ cZ cO tL tH tF h0 a_o r_576.2 s0_33  hu_608) (cwV 1 hts gL_act_X5_rename rfl rfl rfl (by decide +kernel) ⟨Nat.le_of_ble_eq_true rfl, Nat.le_of_ble_eq_true rfl⟩) (ob_preV hK hST hz hS hO) rfl rfl hl.1 rfl (lv_room (Nat.le_of_ble_eq_true rfl)) dL_act_608 ⟨Nat.le_of_ble_eq_true rfl, Nat.le_of_ble_eq_true rfl⟩) hS (fun H locs hO hS => ?_)
              refine lv_istore (lv' := [(10, .int r_608.1), (9, .int s0_603), (8, .int (aFind r_576.2)), (7, .int r_576.1), (6, .int s0_33), (5, .int (aCount M 6)), (4, .int (aCount M 3)), (0, .ref a_o), (1, .int i_1)]) hx hb dL_act_611 hl (by decide) rfl (fun ls hl => ?_)
              refine lv_iload hx hb dL_act_613 (lv_at hl 6 rfl) ?_
              have jp_630 : ∀ (H : Heap) (locs : List Loc) (ls : Array Slot) (hf : J_L_act_630 M r_576 r_608 = some res) (hO : OBJ dC dI cI cJ cZ cO h0 a_o r_608.2 H) (hS : va_S (oA0 h0) s.heap H locs) (hl : lv_has ls 12 [(10, .int r_608.1), (7, .int r_576.1), (4, .int (aCount M 3))]), W p l e (headSpec wsL_act rm_L_act).room s m ([.ref a_o, .int i_1, .int i_2] : List Value).toArray below meth c H locs 0 0 Q (F0 m 630 ls []) := by
                intro H locs ls hf hO hS hl
                unfold J_L_act_630 at hf
                refine lv_iload hx hb dL_act_630 (lv_at hl 1 rfl) ?_
                refine lv_if_eq (tgt := 655) hx hb dL_act_632 (by decide) (fun c_632 => ?_) (fun c_632 => ?_)
                · have hf := (if_pos c_632).symm.trans hf
                  refine lv_bipush (v := (-9)) hx hb dL_act_655 (by decide) ?_
                  have hq := Option.some.inj hf
                  rw [hQ]; exact W.iret (v := (-9)) hx hb hr (fun t ht hW => ⟨⟨(-9), r_608.2, rfl, ⟨by rw [← hq], by rw [← hq]⟩, by dsimp only; rw [ht]; exact hO⟩, hS.F ht⟩) hS.2.2 dL_act_657
                have hf := (if_neg c_632).symm.trans hf
                refine lv_iload hx hb dL_act_635 (lv_at hl 0 rfl) ?_
                refine lv_iload hx hb dL_act_637 (lv_at hl 2 rfl) ?_
                have jp_648 : ∀ (s0_648 : Int32) (H : Heap) (locs : List Loc) (ls : Array Slot) (hf : J_L_act_648 r_608 s0_648 = some res) (hO : OBJ dC dI cI cJ cZ cO h0 a_o r_608.2 H) (hS : va_S (oA0 h0) s.heap H locs) (hl : lv_has ls 12 []), W p l e (headSpec wsL_act rm_L_act).room s m ([.ref a_o, .int i_1, .int i_2] : List Value).toArray below meth c H locs 0 0 Q (F0 m 648 ls [.int s0_648, .int r_608.1]) := by
                  intro s0_648 H locs ls hf hO hS hl
                  unfold J_L_act_648 at hf
                  refine lv_icmp_ne (tgt := 655) hx hb dL_act_648 (by decide) (fun c_648 => ?_) (fun c_648 => ?_)
                  · have hf := (if_neg c_648).symm.trans hf
                    refine lv_bipush (v := (-9)) hx hb dL_act_655 (by decide) ?_
                    have hq := Option.some.inj hf
                    rw [hQ]; exact W.iret (v := (-9)) hx hb hr (fun t ht hW => ⟨⟨(-9), r_608.2, rfl, ⟨by rw [← hq], by rw [← hq]⟩, by dsimp only; rw [ht]; exact hO⟩, hS.F ht⟩) hS.2.2 dL_act_657
                  have hf := (if_pos c_648).symm.trans hf
                  refine lv_iconst (v := 0) hx hb dL_act_651 (by decide) ?_
                  refine lv_goto (tgt := 657) hx hb dL_act_652 (by decide) ?_
                  have hq := Option.some.inj hf
                  rw [hQ]; exact W.iret (v := 0) hx hb hr (fun t ht hW => ⟨⟨0, r_608.2, rfl, ⟨by rw [← hq], by rw [← hq]⟩, by dsimp only; rw [ht]; exact hO⟩, hS.F ht⟩) hS.2.2 dL_act_657
                refine lv_if_ne (tgt := 646) hx hb dL_act_639 (by decide) (fun c_639 => ?_) (fun c_639 => ?_)
                · have hf := (if_neg c_639).symm.trans hf
                  refine lv_bipush (v := (-5)) hx hb dL_act_646 (by decide) ?_
                  exact jp_648 (-5) _ _ ls hf hO hS (lv_sub hl [] rfl)
                have hf := (if_pos c_639).symm.trans hf
                refine lv_iconst (v := (-1)) hx hb dL_act_642 (by decide) ?_
                refine lv_goto (tgt := 648) hx hb dL_act_643 (by decide) ?_
                exact jp_648 (-1) _ _ ls hf hO hS (lv_sub hl [] rfl)
              refine lv_if_eq (tgt := 630) hx hb dL_act_615 (by decide) (fun c_615 => ?_) (fun c_615 => ?_)
              · have hf := (if_pos c_615).symm.trans hf
                exact jp_630 _ _ ls hf hO hS (lv_sub hl [0, 3, 6] rfl)
              have hf := (if_neg c_615).symm.trans hf
              refine lv_iload hx hb dL_act_618 (lv_at hl 2 rfl) ?_
              have jp_658 : ∀ (H : Heap) (locs : List Loc) (ls : Array Slot) (hf : J_L_act_658 i_1 M r_576 s0_603 r_608 = some res) (hO : OBJ dC dI cI cJ cZ cO h0 a_o r_608.2 H) (hS : va_S (oA0 h0) s.heap H locs) (hl : lv_has ls 12 [(10, .int r_608.1), (9, .int s0_603), (7, .int r_576.1), (5, .int (aCount M 6)), (0, .ref a_o), (1, .int i_1)]), W p l e (headSpec wsL_act rm_L_act).room s m ([.ref a_o, .int i_1, .int i_2] : List Value).toArray below meth c H locs 0 0 Q (F0 m 658 ls []) := by
                intro H locs ls hf hO hS hl
                unfold J_L_act_658 at hf
                refine lv_iload hx hb dL_act_658 (lv_at hl 2 rfl) ?_
                refine lv_if_eq (tgt := 724) hx hb dL_act_660 (by decide) (fun c_660 => ?_) (fun c_660 => ?_)
                · have hf := (if_pos c_660).symm.trans hf
                  refine lv_bipush (v := (-9)) hx hb dL_act_724 (by decide) ?_
                  have hq := Option.some.inj hf
                  rw [hQ]; exact W.iret (v := (-9)) hx hb hr (fun t ht hW => ⟨⟨(-9), r_608.2, rfl, ⟨by rw [← hq], by rw [← hq]⟩, by dsimp only; rw [ht]; exact hO⟩, hS.F ht⟩) hS.2.2 dL_act_726
                have hf := (if_neg c_660).symm.trans hf
                refine lv_iload hx hb dL_act_663 (lv_at hl 0 rfl) ?_
                refine lv_if_lt (tgt := 724) hx hb dL_act_665 (by decide) (fun c_665 => ?_) (fun c_665 => ?_)
                · have hf := (if_pos c_665).symm.trans hf
                  refine lv_bipush (v := (-9)) hx hb dL_act_724 (by decide) ?_
                  have hq := Option.some.inj hf
                  rw [hQ]; exact W.iret (v := (-9)) hx hb hr (fun t ht hW => ⟨⟨(-9), r_608.2, rfl, ⟨by rw [← hq], by rw [← hq]⟩, by dsimp only; rw [ht]; exact hO⟩, hS.F ht⟩) hS.2.2 dL_act_726
                have hf := (if_neg c_665).symm.trans hf
                refine lv_aload_n hx hb dL_act_668 rfl (lv_at hl 4 rfl) ?_
                refine lv_iload hx hb dL_act_669 (lv_at hl 0 rfl) ?_
                refine lv_iconst (v := 0) hx hb dL_act_671 (by decide) ?_
                refine ob_calli (va_runV (As := [.int r_608.1, .int 0]) (rest := []) ⟨hx, hb, hml, hown, hts⟩ (a_X5_entry l dC dI cI cJ cZ cO tL tH tF h0 a_o r_608.2 r_608.1 0 ) (cwV 2 hts gL_act_X5_entry rfl rfl rfl (by decide +kernel) ⟨Nat.le_of_ble_eq_true rfl, Nat.le_of_ble_eq_true rfl⟩) (ob_preV hK hST hz hS hO) rfl rfl hl.1 rfl (lv_room (Nat.le_of_ble_eq_true rfl)) dL_act_672 ⟨Nat.le_of_ble_eq_true rfl, Nat.le_of_ble_eq_true rfl⟩) hS (fun H locs hO hS => ?_)
                refine lv_iload hx hb dL_act_675 (lv_at hl 1 rfl) ?_
                refine lv_icmp_ne (tgt := 724) hx hb dL_act_677 (by decide) (fun c_677 => ?_) (fun c_677 => ?_)
                · have hf := (if_neg c_677).symm.trans hf
                  refine lv_bipush (v := (-9)) hx hb dL_act_724 (by decide) ?_
                  have hq := Option.some.inj hf
                  rw [hQ]; exact W.iret (v := (-9)) hx hb hr (fun t ht hW => ⟨⟨(-9), r_608.2, rfl, ⟨by rw [← hq], by rw [← hq]⟩, by dsimp only; rw [ht]; exact hO⟩, hS.F ht⟩) hS.2.2 dL_act_726
                have hf := (if_pos c_677).symm.trans hf
                refine lv_aload_n hx hb dL_act_680 rfl (lv_at hl 4 rfl) ?_
                refine lv_bipush (v := 13) hx hb dL_act_681 (by decide) ?_
                refine ob_calli (va_runV (As := [.int 13]) (rest := []) ⟨hx, hb, hml, hown, hts⟩ (a_X5_count l dC dI cI cJ cZ cO tL tH tF h0 a_o r_608.2 13 ) (cwV 1 hts gL_act_X5_count rfl rfl rfl (by decide +kernel) ⟨Nat.le_of_ble_eq_true rfl, Nat.le_of_ble_eq_true rfl⟩) (ob_preV hK hST hz hS hO) rfl rfl hl.1 rfl (lv_room (Nat.le_of_ble_eq_true rfl)) dL_act_683 ⟨Nat.le_of_ble_eq_true rfl, Nat.le_of_ble_eq_true rfl⟩) hS (fun H locs hO hS => ?_)
                refine lv_if_ne (tgt := 724) hx hb dL_act_686 (by decide) (fun c_686 => ?_) (fun c_686 => ?_)
                · have hf := (if_neg c_686).symm.trans hf
                  refine lv_bipush (v := (-9)) hx hb dL_act_724 (by decide) ?_
                  have hq := Option.some.inj hf
                  rw [hQ]; exact W.iret (v := (-9)) hx hb hr (fun t ht hW => ⟨⟨(-9), r_608.2, rfl, ⟨by rw [← hq], by rw [← hq]⟩, by dsimp only; rw [ht]; exact hO⟩, hS.F ht⟩) hS.2.2 dL_act_726
                have hf := (if_pos c_686).symm.trans hf
                refine lv_aload_n hx hb dL_act_689 rfl (lv_at hl 4 rfl) ?_
                refine lv_bipush (v := 6) hx hb dL_act_690 (by decide) ?_
                refine ob_calli (va_runV (As := [.int 6]) (rest := []) ⟨hx, hb, hml, hown, hts⟩ (a_X5_count l dC dI cI cJ cZ cO tL tH tF h0 a_o r_608.2 6 ) (cwV 1 hts gL_act_X5_count rfl rfl rfl (by decide +kernel) ⟨Nat.le_of_ble_eq_true rfl, Nat.le_of_ble_eq_true rfl⟩) (ob_preV hK hST hz hS hO) rfl rfl hl.1 rfl (lv_room (Nat.le_of_ble_eq_true rfl)) dL_act_692 ⟨Nat.le_of_ble_eq_true rfl, Nat.le_of_ble_eq_true rfl⟩) hS (fun H locs hO hS => ?_)
                refine lv_iload hx hb dL_act_695 (lv_at hl 3 rfl) ?_
                refine lv_icmp_ne (tgt := 724) hx hb dL_act_697 (by decide) (fun c_697 => ?_) (fun c_697 => ?_)
                · have hf := (if_neg c_697).symm.trans hf
                  refine lv_bipush (v := (-9)) hx hb dL_act_724 (by decide) ?_
                  have hq := Option.some.inj hf
                  rw [hQ]; exact W.iret (v := (-9)) hx hb hr (fun t ht hW => ⟨⟨(-9), r_608.2, rfl, ⟨by rw [← hq], by rw [← hq]⟩, by dsimp only; rw [ht]; exact hO⟩, hS.F ht⟩) hS.2.2 dL_act_726
                have hf := (if_pos c_697).symm.trans hf
                refine lv_aload_n hx hb dL_act_700 rfl (lv_at hl 4 rfl) ?_
                refine lv_iload_n hx hb dL_act_701 rfl (lv_at hl 5 rfl) ?_
                refine lv_bipush (v := 12) hx hb dL_act_702 (by decide) ?_
                refine lv_idiv hx hb dL_act_704 (by decide) ?_
                obtain ⟨r_705, hu_705, hf⟩ := bd_some hf
                refine ob_calli (va_runS (As := [.ref a_o, .int (i_1 / 12)]) (rest := []) ⟨hx, hb, hml, hown, hts⟩ (c_L_word l dC dI cI cJ cZ cO tL tH tF h0 a_o r_608.2 (i_1 / 12) _ hu_705) (va_cwS 2 hts gL_act_L_word rfl rfl rfl (by decide +kernel) ⟨Nat.le_of_ble_eq_true rfl, Nat.le_of_ble_eq_true rfl⟩) (ob_preS hK hST hz hS hO) rfl rfl hl.1 rfl (lv_room (Nat.le_of_ble_eq_true rfl)) dL_act_705 ⟨Nat.le_of_ble_eq_true rfl, Nat.le_of_ble_eq_true rfl⟩) hS (fun H locs hO hS => ?_)
                refine lv_if_eq (tgt := 724) hx hb dL_act_708 (by decide) (fun c_708 => ?_) (fun c_708 => ?_)
                · have hf := (if_pos c_708).symm.trans hf
                  refine lv_bipush (v := (-9)) hx hb dL_act_724 (by decide) ?_
                  have hq := Option.some.inj hf
                  rw [hQ]; exact W.iret (v := (-9)) hx hb hr (fun t ht hW => ⟨⟨(-9), r_705.2, rfl, ⟨by rw [← hq], by rw [← hq]⟩, by dsimp only; rw [ht]; exact hO⟩, hS.F ht⟩) hS.2.2 dL_act_726
                have hf := (if_neg c_708).symm.trans hf
                refine lv_aload_n hx hb dL_act_711 rfl (lv_at hl 4 rfl) ?_
                refine ob_calli (va_runV (As := []) (rest := []) ⟨hx, hb, hml, hown, hts⟩ (a_X5_find l dC dI cI cJ cZ cO tL tH tF h0 a_o r_705.2 ) (cwV 0 hts gL_act_X5_find rfl rfl rfl (by decide +kernel) ⟨Nat.le_of_ble_eq_true rfl, Nat.le_of_ble_eq_true rfl⟩) (ob_preV hK hST hz hS hO) rfl rfl hl.1 rfl (lv_room (Nat.le_of_ble_eq_true rfl)) dL_act_712 ⟨Nat.le_of_ble_eq_true rfl, Nat.le_of_ble_eq_true rfl⟩) hS (fun H locs hO hS => ?_)
                refine lv_iload hx hb dL_act_715 (lv_at hl 0 rfl) ?_
                refine lv_icmp_ne (tgt := 724) hx hb dL_act_717 (by decide) (fun c_717 => ?_) (fun c_717 => ?_)
                · have hf := (if_neg c_717).symm.trans hf
                  refine lv_bipush (v := (-9)) hx hb dL_act_724 (by decide) ?_
                  have hq := Option.some.inj hf
                  rw [hQ]; exact W.iret (v := (-9)) hx hb hr (fun t ht hW => ⟨⟨(-9), r_705.2, rfl, ⟨by rw [← hq], by rw [← hq]⟩, by dsimp only; rw [ht]; exact hO⟩, hS.F ht⟩) hS.2.2 dL_act_726
                have hf := (if_pos c_717).symm.trans hf
                refine lv_iconst (v := 1) hx hb dL_act_720 (by decide) ?_
                refine lv_goto (tgt := 726) hx hb dL_act_721 (by decide) ?_
                have hq := Option.some.inj hf
                rw [hQ]; exact W.iret (v := 1) hx hb hr (fun t ht hW => ⟨⟨1, r_705.2, rfl, ⟨by rw [← hq], by rw [← hq]⟩, by dsimp only; rw [ht]; exact hO⟩, hS.F ht⟩) hS.2.2 dL_act_726
              refine lv_if_lt (tgt := 658) hx hb dL_act_620 (by decide) (fun c_620 => ?_) (fun c_620 => ?_)
              · have hf := (if_pos c_620).symm.trans hf
                exact jp_658 _ _ ls hf hO hS (lv_sub hl [0, 1, 3, 5, 7, 8] rfl)
              have hf := (if_neg c_620).symm.trans hf
              refine lv_iload hx hb dL_act_623 (lv_at hl 2 rfl) ?_
              refine lv_iload hx hb dL_act_625 (lv_at hl 4 rfl) ?_
              refine lv_icmp_eq (tgt := 658) hx hb dL_act_627 (by decide) (fun c_627 => ?_) (fun c_627 => ?_)
              · have hf := (if_pos c_627).symm.trans hf
                exact jp_658 _ _ ls hf hO hS (lv_sub hl [0, 1, 3, 5, 7, 8] rfl)
              have hf := (if_neg c_627).symm.trans hf
              exact jp_630 _ _ ls hf hO hS (lv_sub hl [0, 3, 6] rfl)
            refine lv_if_ne (tgt := 596) hx hb dL_act_589 (by decide) (fun c_589 => ?_) (fun c_589 => ?_)
            · have hf := (if_neg c_589).symm.trans hf
              refine lv_aload_n hx hb dL_act_596 rfl (lv_at hl 6 rfl) ?_
              refine lv_iload hx hb dL_act_597 (lv_at hl 2 rfl) ?_
              refine lv_iconst (v := 0) hx hb dL_act_599 (by decide) ?_
              refine ob_calli (va_runV (As := [.int s0_33, .int 0]) (rest := []) ⟨hx, hb, hml, hown, hts⟩ (a_X5_entry l dC dI cI cJ cZ cO tL tH tF h0 a_o r_576.2 s0_33 0 ) (cwV 2 hts gL_act_X5_entry rfl rfl rfl (by decide +kernel) ⟨Nat.le_of_ble_eq_true rfl, Nat.le_of_ble_eq_true rfl⟩) (ob_preV hK hST hz hS hO) rfl rfl hl.1 rfl (lv_room (Nat.le_of_ble_eq_true rfl)) dL_act_600 ⟨Nat.le_of_ble_eq_true rfl, Nat.le_of_ble_eq_true rfl⟩) hS (fun H locs hO hS => ?_)
              exact jp_603 (aEntry r_576.2 s0_33 0) _ _ ls hf hO hS (lv_sub hl [0, 1, 2, 3, 4, 6, 7] rfl)
            have hf := (if_pos c_589).symm.trans hf
            refine lv_iconst (v := 0) hx hb dL_act_592 (by decide) ?_
            refine lv_goto (tgt := 603) hx hb dL_act_593 (by decide) ?_
            exact jp_603 0 _ _ ls hf hO hS (lv_sub hl [0, 1, 2, 3, 4, 6, 7] rfl)
          have hf := (if_pos c_438).symm.trans hf
          refine lv_iload hx hb dL_act_441 (lv_at hl 0 rfl) ?_
          refine lv_iconst (v := 1) hx hb dL_act_443 (by decide) ?_
          refine lv_iadd hx hb dL_act_444 ?_
          refine lv_iload hx hb dL_act_445 (lv_at hl 2 rfl) ?_
          have jp_471 : ∀ (s0_471 : Int32) (H : Heap) (locs : List Loc) (ls : Array Slot) (hf : J_L_act_471 M s0_33 s0_471 = some res) (hO : OBJ dC dI cI cJ cZ cO h0 a_o M H) (hS : va_S (oA0 h0) s.heap H locs) (hl : lv_has ls 12 [(6, .int s0_33), (5, .int (aCount M 6)), (4, .int (aCount M 3)), (0, .ref a_o)]), W p l e (headSpec wsL_act rm_L_act).room s m ([.ref a_o, .int i_1, .int i_2] : List Value).toArray below meth c H locs 0 0 Q (F0 m 471 ls [.int s0_471]) := by
            intro s0_471 H locs ls hf hO hS hl
            unfold J_L_act_471 at hf
            refine lv_istore (lv' := [(7, .int s0_471), (6, .int s0_33), (5, .int (aCount M 6)), (4, .int (aCount M 3)), (0, .ref a_o)]) hx hb dL_act_471 hl (by decide) rfl (fun ls hl => ?_)
            refine lv_aload_n hx hb dL_act_473 rfl (lv_at hl 4 rfl) ?_
            refine lv_iload hx hb dL_act_474 (lv_at hl 1 rfl) ?_
            obtain ⟨r_476, hu_476, hf⟩ := bd_some hf
            refine ob_calli (va_runV (As := [.int s0_33]) (rest := []) ⟨hx, hb, hml, hown, hts⟩ (a_X5_join l dC dI cI cJ cZ cO tL tH tF h0 a_o M s0_33  hu_476) (cwV 1 hts gL_act_X5_join rfl rfl rfl (by decide +kernel) ⟨Nat.le_of_ble_eq_true rfl, Nat.le_of_ble_eq_true rfl⟩) (ob_preV hK hST hz hS hO) rfl rfl hl.1 rfl (lv_room (Nat.le_of_ble_eq_true rfl)) dL_act_476 ⟨Nat.le_of_ble_eq_true rfl, Nat.le_of_ble_eq_true rfl⟩) hS (fun H locs hO hS => ?_)
            refine lv_istore (lv' := [(8, .int r_476.1), (7, .int s0_471), (6, .int s0_33), (5, .int (aCount M 6)), (4, .int (aCount M 3)), (0, .ref a_o)]) hx hb dL_act_479 hl (by decide) rfl (fun ls hl => ?_)
            refine lv_iload hx hb dL_act_481 (lv_at hl 1 rfl) ?_
            have jp_493 : ∀ (H : Heap) (locs : List Loc) (ls : Array Slot) (hf : J_L_act_493 s0_471 r_476 = some res) (hO : OBJ dC dI cI cJ cZ cO h0 a_o r_476.2 H) (hS : va_S (oA0 h0) s.heap H locs) (hl : lv_has ls 12 [(8, .int r_476.1), (7, .int s0_471)]), W p l e (headSpec wsL_act rm_L_act).room s m ([.ref a_o, .int i_1, .int i_2] : List Value).toArray below meth c H locs 0 0 Q (F0 m 493 ls []) := by
              intro H locs ls hf hO hS hl
              unfold J_L_act_493 at hf
              refine lv_iload hx hb dL_act_493 (lv_at hl 0 rfl) ?_
              refine lv_iload hx hb dL_act_495 (lv_at hl 1 rfl) ?_
              have jp_506 : ∀ (s0_506 : Int32) (H : Heap) (locs : List Loc) (ls : Array Slot) (hf : J_L_act_506 r_476 s0_506 = some res) (hO : OBJ dC dI cI cJ cZ cO h0 a_o r_476.2 H) (hS : va_S (oA0 h0) s.heap H locs) (hl : lv_has ls 12 []), W p l e (headSpec wsL_act rm_L_act).room s m ([.ref a_o, .int i_1, .int i_2] : List Value).toArray below meth c H locs 0 0 Q (F0 m 506 ls [.int s0_506, .int r_476.1]) := by
                intro s0_506 H locs ls hf hO hS hl
                unfold J_L_act_506 at hf
                refine lv_icmp_ne (tgt := 513) hx hb dL_act_506 (by decide) (fun c_506 => ?_) (fun c_506 => ?_)
                · have hf := (if_neg c_506).symm.trans hf
                  refine lv_bipush (v := (-9)) hx hb dL_act_513 (by decide) ?_
                  have hq := Option.some.inj hf
                  rw [hQ]; exact W.iret (v := (-9)) hx hb hr (fun t ht hW => ⟨⟨(-9), r_476.2, rfl, ⟨by rw [← hq], by rw [← hq]⟩, by dsimp only; rw [ht]; exact hO⟩, hS.F ht⟩) hS.2.2 dL_act_515
                have hf := (if_pos c_506).symm.trans hf
                refine lv_iconst (v := 0) hx hb dL_act_509 (by decide) ?_
                refine lv_goto (tgt := 515) hx hb dL_act_510 (by decide) ?_
                have hq := Option.some.inj hf
                rw [hQ]; exact W.iret (v := 0) hx hb hr (fun t ht hW => ⟨⟨0, r_476.2, rfl, ⟨by rw [← hq], by rw [← hq]⟩, by dsimp only; rw [ht]; exact hO⟩, hS.F ht⟩) hS.2.2 dL_act_515
              refine lv_if_ne (tgt := 504) hx hb dL_act_497 (by decide) (fun c_497 => ?_) (fun c_497 => ?_)
              · have hf := (if_neg c_497).symm.trans hf
                refine lv_bipush (v := (-4)) hx hb dL_act_504 (by decide) ?_
                exact jp_506 (-4) _ _ ls hf hO hS (lv_sub hl [] rfl)
              have hf := (if_pos c_497).symm.trans hf
              refine lv_iconst (v := (-1)) hx hb dL_act_500 (by decide) ?_
              refine lv_goto (tgt := 506) hx hb dL_act_501 (by decide) ?_
              exact jp_506 (-1) _ _ ls hf hO hS (lv_sub hl [] rfl)
            refine lv_if_eq (tgt := 493) hx hb dL_act_483 (by decide) (fun c_483 => ?_) (fun c_483 => ?_)
            · have hf := (if_pos c_483).symm.trans hf
              exact jp_493 _ _ ls hf hO hS (lv_sub hl [0, 1] rfl)
            have hf := (if_neg c_483).symm.trans hf
            refine lv_iload hx hb dL_act_486 (lv_at hl 1 rfl) ?_
            refine lv_bipush (v := 40) hx hb dL_act_488 (by decide) ?_
            refine lv_icmp_le (tgt := 516) hx hb dL_act_490 (by decide) (fun c_490 => ?_) (fun c_490 => ?_)
            · have hf := (if_pos c_490).symm.trans hf
              refine lv_iload hx hb dL_act_516 (lv_at hl 0 rfl) ?_
              refine lv_iload hx hb dL_act_518 (lv_at hl 1 rfl) ?_
              refine lv_icmp_ne (tgt := 562) hx hb dL_act_520 (by decide) (fun c_520 => ?_) (fun c_520 => ?_)
              · have hf := (if_neg c_520).symm.trans hf
                refine lv_bipush (v := (-9)) hx hb dL_act_562 (by decide) ?_
                have hq := Option.some.inj hf
                rw [hQ]; exact W.iret (v := (-9)) hx hb hr (fun t ht hW => ⟨⟨(-9), r_476.2, rfl, ⟨by rw [← hq], by rw [← hq]⟩, by dsimp only; rw [ht]; exact hO⟩, hS.F ht⟩) hS.2.2 dL_act_564
              have hf := (if_pos c_520).symm.trans hf
              refine lv_aload_n hx hb dL_act_523 rfl (lv_at hl 5 rfl) ?_
              refine lv_iconst (v := 3) hx hb dL_act_524 (by decide) ?_
              refine ob_calli (va_runV (As := [.int 3]) (rest := []) ⟨hx, hb, hml, hown, hts⟩ (a_X5_count l dC dI cI cJ cZ cO tL tH tF h0 a_o r_476.2 3 ) (cwV 1 hts gL_act_X5_count rfl rfl rfl (by decide +kernel) ⟨Nat.le_of_ble_eq_true rfl, Nat.le_of_ble_eq_true rfl⟩) (ob_preV hK hST hz hS hO) rfl rfl hl.1 rfl (lv_room (Nat.le_of_ble_eq_true rfl)) dL_act_525 ⟨Nat.le_of_ble_eq_true rfl, Nat.le_of_ble_eq_true rfl⟩) hS (fun H locs hO hS => ?_)
              refine lv_iload hx hb dL_act_528 (lv_at hl 4 rfl) ?_
              refine lv_iconst (v := 1) hx hb dL_act_530 (by decide) ?_
              refine lv_isub hx hb dL_act_531 ?_
              refine lv_icmp_ne (tgt := 562) hx hb dL_act_532 (by decide) (fun c_532 => ?_) (fun c_532 => ?_)
              · have hf := (if_neg c_532).symm.trans hf
                refine lv_bipush (v := (-9)) hx hb dL_act_562 (by decide) ?_
                have hq := Option.some.inj hf
                rw [hQ]; exact W.iret (v := (-9)) hx hb hr (fun t ht hW => ⟨⟨(-9), r_476.2, rfl, ⟨by rw [← hq], by rw [← hq]⟩, by dsimp only; rw [ht]; exact hO⟩, hS.F ht⟩) hS.2.2 dL_act_564
              have hf := (if_pos c_532).symm.trans hf
              refine lv_aload_n hx hb dL_act_535 rfl (lv_at hl 5 rfl) ?_
              refine lv_bipush (v := 6) hx hb dL_act_536 (by decide) ?_
              refine ob_calli (va_runV (As := [.int 6]) (rest := []) ⟨hx, hb, hml, hown, hts⟩ (a_X5_count l dC dI cI cJ cZ cO tL tH tF h0 a_o r_476.2 6 ) (cwV 1 hts gL_act_X5_count rfl rfl rfl (by decide +kernel) ⟨Nat.le_of_ble_eq_true rfl, Nat.le_of_ble_eq_true rfl⟩) (ob_preV hK hST hz hS hO) rfl rfl hl.1 rfl (lv_room (Nat.le_of_ble_eq_true rfl)) dL_act_538 ⟨Nat.le_of_ble_eq_true rfl, Nat.le_of_ble_eq_true rfl⟩) hS (fun H locs hO hS => ?_)
              refine lv_iload hx hb dL_act_541 (lv_at hl 3 rfl) ?_
              refine lv_icmp_ne (tgt := 562) hx hb dL_act_543 (by decide) (fun c_543 => ?_) (fun c_543 => ?_)
              · have hf := (if_neg c_543).symm.trans hf
                refine lv_bipush (v := (-9)) hx hb dL_act_562 (by decide) ?_
                have hq := Option.some.inj hf
                rw [hQ]; exact W.iret (v := (-9)) hx hb hr (fun t ht hW => ⟨⟨(-9), r_476.2, rfl, ⟨by rw [← hq], by rw [← hq]⟩, by dsimp only; rw [ht]; exact hO⟩, hS.F ht⟩) hS.2.2 dL_act_564
              have hf := (if_pos c_543).symm.trans hf
              refine lv_aload_n hx hb dL_act_546 rfl (lv_at hl 5 rfl) ?_
              refine lv_iload hx hb dL_act_547 (lv_at hl 2 rfl) ?_
              refine lv_iconst (v := 0) hx hb dL_act_549 (by decide) ?_
              refine ob_calli (va_runV (As := [.int s0_33, .int 0]) (rest := []) ⟨hx, hb, hml, hown, hts⟩ (a_X5_entry l dC dI cI cJ cZ cO tL tH tF h0 a_o r_476.2 s0_33 0 ) (cwV 2 hts gL_act_X5_entry rfl rfl rfl (by decide +kernel) ⟨Nat.le_of_ble_eq_true rfl, Nat.le_of_ble_eq_true rfl⟩) (ob_preV hK hST hz hS hO) rfl rfl hl.1 rfl (lv_room (Nat.le_of_ble_eq_true rfl)) dL_act_550 ⟨Nat.le_of_ble_eq_true rfl, Nat.le_of_ble_eq_true rfl⟩) hS (fun H locs hO hS => ?_)
              refine lv_iload hx hb dL_act_553 (lv_at hl 1 rfl) ?_
              refine lv_icmp_ne (tgt := 562) hx hb dL_act_555 (by decide) (fun c_555 => ?_) (fun c_555 => ?_)
              · have hf := (if_neg c_555).symm.trans hf
                refine lv_bipush (v := (-9)) hx hb dL_act_562 (by decide) ?_
                have hq := Option.some.inj hf
                rw [hQ]; exact W.iret (v := (-9)) hx hb hr (fun t ht hW => ⟨⟨(-9), r_476.2, rfl, ⟨by rw [← hq], by rw [← hq]⟩, by dsimp only; rw [ht]; exact hO⟩, hS.F ht⟩) hS.2.2 dL_act_564
              have hf := (if_pos c_555).symm.trans hf
              refine lv_iconst (v := 1) hx hb dL_act_558 (by decide) ?_
              refine lv_goto (tgt := 564) hx hb dL_act_559 (by decide) ?_
              have hq := Option.some.inj hf
              rw [hQ]; exact W.iret (v := 1) hx hb hr (fun t ht hW => ⟨⟨1, r_476.2, rfl, ⟨by rw [← hq], by rw [← hq]⟩, by dsimp only; rw [ht]; exact hO⟩, hS.F ht⟩) hS.2.2 dL_act_564
            have hf := (if_neg c_490).symm.trans hf
            exact jp_493 _ _ ls hf hO hS (lv_sub hl [0, 1] rfl)
          refine lv_icmp_ge (tgt := 470) hx hb dL_act_447 (by decide) (fun c_447 => ?_) (fun c_447 => ?_)
          · have hf := (if_pos c_447).symm.trans hf
            refine lv_iconst (v := 0) hx hb dL_act_470 (by decide) ?_
            exact jp_471 0 _ _ ls hf hO hS (lv_sub hl [0, 1, 2, 4] rfl)
          have hf := (if_neg c_447).symm.trans hf
          refine lv_aload_n hx hb dL_act_450 rfl (lv_at hl 4 rfl) ?_
          refine lv_iload hx hb dL_act_451 (lv_at hl 0 rfl) ?_
          refine lv_iconst (v := 0) hx hb dL_act_453 (by decide) ?_
          refine ob_calli (va_runV (As := [.int s0_33, .int 0]) (rest := []) ⟨hx, hb, hml, hown, hts⟩ (a_X5_entry l dC dI cI cJ cZ cO tL tH tF h0 a_o M s0_33 0 ) (cwV 2 hts gL_act_X5_entry rfl rfl rfl (by decide +kernel) ⟨Nat.le_of_ble_eq_true rfl, Nat.le_of_ble_eq_true rfl⟩) (ob_preV hK hST hz hS hO) rfl rfl hl.1 rfl (lv_room (Nat.le_of_ble_eq_true rfl)) dL_act_454 ⟨Nat.le_of_ble_eq_true rfl, Nat.le_of_ble_eq_true rfl⟩) hS (fun H locs hO hS => ?_)
          refine lv_aload_n hx hb dL_act_457 rfl (lv_at hl 4 rfl) ?_
          refine lv_iload hx hb dL_act_458 (lv_at hl 0 rfl) ?_
          refine lv_iconst (v := 1) hx hb dL_act_460 (by decide) ?_
          refine lv_iadd hx hb dL_act_461 ?_
          refine lv_iconst (v := 0) hx hb dL_act_462 (by decide) ?_
          refine ob_calli (va_runV (As := [.int (s0_33 + 1), .int 0]) (rest := [.int (aEntry M s0_33 0)]) ⟨hx, hb, hml, hown, hts⟩ (a_X5_entry l dC dI cI cJ cZ cO tL tH tF h0 a_o M (s0_33 + 1) 0 ) (cwV 2 hts gL_act_X5_entry rfl rfl rfl (by decide +kernel) ⟨Nat.le_of_ble_eq_true rfl, Nat.le_of_ble_eq_true rfl⟩) (ob_preV hK hST hz hS hO) rfl rfl hl.1 rfl (lv_room (Nat.le_of_ble_eq_true rfl)) dL_act_463 ⟨Nat.le_of_ble_eq_true rfl, Nat.le_of_ble_eq_true rfl⟩) hS (fun H locs hO hS => ?_)
          refine lv_iadd hx hb dL_act_466 ?_
          refine lv_goto (tgt := 471) hx hb dL_act_467 (by decide) ?_
          exact jp_471 ((aEntry M s0_33 0) + (aEntry M (s0_33 + 1) 0)) _ _ ls hf hO hS (lv_sub hl [0, 1, 2, 4] rfl)
        have hf := (if_pos c_346).symm.trans hf
        refine lv_iload hx hb dL_act_349 (lv_at hl 2 rfl) ?_
        have jp_365 : ∀ (s0_365 : Int32) (H : Heap) (locs : List Loc) (ls : Array Slot) (hf : J_L_act_365 M s0_33 s0_365 = some res) (hO : OBJ dC dI cI cJ cZ cO h0 a_o M H) (hS : va_S (oA0 h0) s.heap H locs) (hl : lv_has ls 12 [(6, .int s0_33), (5, .int (aCount M 6)), (4, .int (aCount M 3)), (0, .ref a_o)]), W p l e (headSpec wsL_act rm_L_act).room s m ([.ref a_o, .int i_1, .int i_2] : List Value).toArray below meth c H locs 0 0 Q (F0 m 365 ls [.int s0_365]) := by
          intro s0_365 H locs ls hf hO hS hl
          unfold J_L_act_365 at hf
          refine lv_istore (lv' := [(7, .int s0_365), (6, .int s0_33), (5, .int (aCount M 6)), (4, .int (aCount M 3)), (0, .ref a_o)]) hx hb dL_act_365 hl (by decide) rfl (fun ls hl => ?_)
          refine lv_aload_n hx hb dL_act_367 rfl (lv_at hl 4 rfl) ?_
          refine lv_iload hx hb dL_act_368 (lv_at hl 1 rfl) ?_
          obtain ⟨r_370, hu_370, hf⟩ := bd_some hf
          refine ob_calli (va_runV (As := [.int s0_33]) (rest := []) ⟨hx, hb, hml, hown, hts⟩ (a_X5_drop l dC dI cI cJ cZ cO tL tH tF h0 a_o M s0_33  hu_370) (cwV 1 hts gL_act_X5_drop rfl rfl rfl (by decide +kernel) ⟨Nat.le_of_ble_eq_true rfl, Nat.le_of_ble_eq_true rfl⟩) (ob_preV hK hST hz hS hO) rfl rfl hl.1 rfl (lv_room (Nat.le_of_ble_eq_true rfl)) dL_act_370 ⟨Nat.le_of_ble_eq_true rfl, Nat.le_of_ble_eq_true rfl⟩) hS (fun H locs hO hS => ?_)
          refine lv_istore (lv' := [(8, .int r_370.1), (7, .int s0_365), (6, .int s0_33), (5, .int (aCount M 6)), (4, .int (aCount M 3)), (0, .ref a_o)]) hx hb dL_act_373 hl (by decide) rfl (fun ls hl => ?_)
          refine lv_iload hx hb dL_act_375 (lv_at hl 4 rfl) ?_
          refine lv_if_ne (tgt := 395) hx hb dL_act_377 (by decide) (fun c_377 => ?_) (fun c_377 => ?_)
          · have hf := (if_neg c_377).symm.trans hf
            refine lv_iload hx hb dL_act_395 (lv_at hl 0 rfl) ?_
            refine lv_iload hx hb dL_act_397 (lv_at hl 1 rfl) ?_
            refine lv_icmp_ne (tgt := 432) hx hb dL_act_399 (by decide) (fun c_399 => ?_) (fun c_399 => ?_)
            · have hf := (if_neg c_399).symm.trans hf
              refine lv_bipush (v := (-9)) hx hb dL_act_432 (by decide) ?_
              have hq := Option.some.inj hf
              rw [hQ]; exact W.iret (v := (-9)) hx hb hr (fun t ht hW => ⟨⟨(-9), r_370.2, rfl, ⟨by rw [← hq], by rw [← hq]⟩, by dsimp only; rw [ht]; exact hO⟩, hS.F ht⟩) hS.2.2 dL_act_434
            have hf := (if_pos c_399).symm.trans hf
            refine lv_aload_n hx hb dL_act_402 rfl (lv_at hl 5 rfl) ?_
            refine lv_iconst (v := 3) hx hb dL_act_403 (by decide) ?_
            refine ob_calli (va_runV (As := [.int 3]) (rest := []) ⟨hx, hb, hml, hown, hts⟩ (a_X5_count l dC dI cI cJ cZ cO tL tH tF h0 a_o r_370.2 3 ) (cwV 1 hts gL_act_X5_count rfl rfl rfl (by decide +kernel) ⟨Nat.le_of_ble_eq_true rfl, Nat.le_of_ble_eq_true rfl⟩) (ob_preV hK hST hz hS hO) rfl rfl hl.1 rfl (lv_room (Nat.le_of_ble_eq_true rfl)) dL_act_404 ⟨Nat.le_of_ble_eq_true rfl, Nat.le_of_ble_eq_true rfl⟩) hS (fun H locs hO hS => ?_)
            refine lv_iload hx hb dL_act_407 (lv_at hl 4 rfl) ?_
            refine lv_iconst (v := 1) hx hb dL_act_409 (by decide) ?_
            refine lv_isub hx hb dL_act_410 ?_
            refine lv_icmp_ne (tgt := 432) hx hb dL_act_411 (by decide) (fun c_411 => ?_) (fun c_411 => ?_)
            · have hf := (if_neg c_411).symm.trans hf
              refine lv_bipush (v := (-9)) hx hb dL_act_432 (by decide) ?_
              have hq := Option.some.inj hf
              rw [hQ]; exact W.iret (v := (-9)) hx hb hr (fun t ht hW => ⟨⟨(-9), r_370.2, rfl, ⟨by rw [← hq], by rw [← hq]⟩, by dsimp only; rw [ht]; exact hO⟩, hS.F ht⟩) hS.2.2 dL_act_434
            have hf := (if_pos c_411).symm.trans hf
            refine lv_aload_n hx hb dL_act_414 rfl (lv_at hl 5 rfl) ?_
            refine lv_bipush (v := 6) hx hb dL_act_415 (by decide) ?_
            refine ob_calli (va_runV (As := [.int 6]) (rest := []) ⟨hx, hb, hml, hown, hts⟩ (a_X5_count l dC dI cI cJ cZ cO tL tH tF h0 a_o r_370.2 6 ) (cwV 1 hts gL_act_X5_count rfl rfl rfl (by decide +kernel) ⟨Nat.le_of_ble_eq_true rfl, Nat.le_of_ble_eq_true rfl⟩) (ob_preV hK hST hz hS hO) rfl rfl hl.1 rfl (lv_room (Nat.le_of_ble_eq_true rfl)) dL_act_417 ⟨Nat.le_of_ble_eq_true rfl, Nat.le_of_ble_eq_true rfl⟩) hS (fun H locs hO hS => ?_)
            refine lv_iload hx hb dL_act_420 (lv_at hl 3 rfl) ?_
            refine lv_iload hx hb dL_act_422 (lv_at hl 1 rfl) ?_
            refine lv_isub hx hb dL_act_424 ?_
            refine lv_icmp_ne (tgt := 432) hx hb dL_act_425 (by decide) (fun c_425 => ?_) (fun c_425 => ?_)
            · have hf := (if_neg c_425).symm.trans hf
              refine lv_bipush (v := (-9)) hx hb dL_act_432 (by decide) ?_
              have hq := Option.some.inj hf
              rw [hQ]; exact W.iret (v := (-9)) hx hb hr (fun t ht hW => ⟨⟨(-9), r_370.2, rfl, ⟨by rw [← hq], by rw [← hq]⟩, by dsimp only; rw [ht]; exact hO⟩, hS.F ht⟩) hS.2.2 dL_act_434
            have hf := (if_pos c_425).symm.trans hf
            refine lv_iconst (v := 1) hx hb dL_act_428 (by decide) ?_
            refine lv_goto (tgt := 434) hx hb dL_act_429 (by decide) ?_
            have hq := Option.some.inj hf
            rw [hQ]; exact W.iret (v := 1) hx hb hr (fun t ht hW => ⟨⟨1, r_370.2, rfl, ⟨by rw [← hq], by rw [← hq]⟩, by dsimp only; rw [ht]; exact hO⟩, hS.F ht⟩) hS.2.2 dL_act_434
          have hf := (if_pos c_377).symm.trans hf
          refine lv_iload hx hb dL_act_380 (lv_at hl 0 rfl) ?_
          refine lv_iconst (v := (-1)) hx hb dL_act_382 (by decide) ?_
          refine lv_icmp_ne (tgt := 390) hx hb dL_act_383 (by decide) (fun c_383 => ?_) (fun c_383 => ?_)
          · have hf := (if_neg c_383).symm.trans hf
            refine lv_bipush (v := (-9)) hx hb dL_act_390 (by decide) ?_
            refine lv_goto (tgt := 434) hx hb dL_act_392 (by decide) ?_
            have hq := Option.some.inj hf
            rw [hQ]; exact W.iret (v := (-9)) hx hb hr (fun t ht hW => ⟨⟨(-9), r_370.2, rfl, ⟨by rw [← hq], by rw [← hq]⟩, by dsimp only; rw [ht]; exact hO⟩, hS.F ht⟩) hS.2.2 dL_act_434
          have hf := (if_pos c_383).symm.trans hf
          refine lv_iconst (v := 0) hx hb dL_act_386 (by decide) ?_
          refine lv_goto (tgt := 434) hx hb dL_act_387 (by decide) ?_
          have hq := Option.some.inj hf
          rw [hQ]; exact W.iret (v := 0) hx hb hr (fun t ht hW => ⟨⟨0, r_370.2, rfl, ⟨by rw [← hq], by rw [← hq]⟩, by dsimp only; rw [ht]; exact hO⟩, hS.F ht⟩) hS.2.2 dL_act_434
        refine lv_if_ne (tgt := 358) hx hb dL_act_351 (by decide) (fun c_351 => ?_) (fun c_351 => ?_)
        · have hf := (if_neg c_351).symm.trans hf
          refine lv_aload_n hx hb dL_act_358 rfl (lv_at hl 4 rfl) ?_
          refine lv_iload hx hb dL_act_359 (lv_at hl 0 rfl) ?_
          refine lv_iconst (v := 0) hx hb dL_act_361 (by decide) ?_
          refine ob_calli (va_runV (As := [.int s0_33, .int 0]) (rest := []) ⟨hx, hb, hml, hown, hts⟩ (a_X5_entry l dC dI cI cJ cZ cO tL tH tF h0 a_o M s0_33 0 ) (cwV 2 hts gL_act_X5_entry rfl rfl rfl (by decide +kernel) ⟨Nat.le_of_ble_eq_true rfl, Nat.le_of_ble_eq_true rfl⟩) (ob_preV hK hST hz hS hO) rfl rfl hl.1 rfl (lv_room (Nat.le_of_ble_eq_true rfl)) dL_act_362 ⟨Nat.le_of_ble_eq_true rfl, Nat.le_of_ble_eq_true rfl⟩) hS (fun H locs hO hS => ?_)
          exact jp_365 (aEntry M s0_33 0) _ _ ls hf hO hS (lv_sub hl [0, 1, 2, 4] rfl)
        have hf := (if_pos c_351).symm.trans hf
        refine lv_iconst (v := 0) hx hb dL_act_354 (by decide) ?_
        refine lv_goto (tgt := 365) hx hb dL_act_355 (by decide) ?_
        exact jp_365 0 _ _ ls hf hO hS (lv_sub hl [0, 1, 2, 4] rfl)
      have hf := (if_pos c_249).symm.trans hf
      refine lv_iload hx hb dL_act_252 (lv_at hl 2 rfl) ?_
      have jp_268 : ∀ (s0_268 : Int32) (H : Heap) (locs : List Loc) (ls : Array Slot) (hf : J_L_act_268 i_2 M s0_33 s0_268 = some res) (hO : OBJ dC dI cI cJ cZ cO h0 a_o M H) (hS : va_S (oA0 h0) s.heap H locs) (hl : lv_has ls 12 [(6, .int s0_33), (5, .int (aCount M 6)), (4, .int (aCount M 3)), (0, .ref a_o), (2, .int i_2)]), W p l e (headSpec wsL_act rm_L_act).room s m ([.ref a_o, .int i_1, .int i_2] : List Value).toArray below meth c H locs 0 0 Q (F0 m 268 ls [.int s0_268]) := by
        intro s0_268 H locs ls hf hO hS hl
        unfold J_L_act_268 at hf
        refine lv_istore (lv' := [(7, .int s0_268), (6, .int s0_33), (5, .int (aCount M 6)), (4, .int (aCount M 3)), (0, .ref a_o), (2, .int i_2)]) hx hb dL_act_268 hl (by decide) rfl (fun ls hl => ?_)
        refine lv_aload_n hx hb dL_act_270 rfl (lv_at hl 4 rfl) ?_
        refine lv_iload hx hb dL_act_271 (lv_at hl 1 rfl) ?_
        refine lv_iconst (v := 1) hx hb dL_act_273 (by decide) ?_
        refine lv_iload_n hx hb dL_act_274 rfl (lv_at hl 5 rfl) ?_
        refine lv_iconst (v := 3) hx hb dL_act_275 (by decide) ?_
        refine lv_idiv hx hb dL_act_276 (by decide) ?_
        refine lv_bipush (v := 40) hx hb dL_act_277 (by decide) ?_
        refine lv_irem hx hb dL_act_279 (by decide) ?_
        refine lv_rei (x' := (remI (i_2 / 3) 40)) rfl ?_
        refine lv_iadd hx hb dL_act_280 ?_
        obtain ⟨r_281, hu_281, hf⟩ := bd_some hf
        refine ob_calli (va_runV (As := [.int s0_33, .int (1 + (remI (i_2 / 3) 40))]) (rest := []) ⟨hx, hb, hml, hown, hts⟩ (a_X5_change l dC dI cI cJ cZ cO tL tH tF h0 a_o M s0_33 (1 + (remI (i_2 / 3) 40))  hu_281) (cwV 2 hts gL_act_X5_change rfl rfl rfl (by decide +kernel) ⟨Nat.le_of_ble_eq_true rfl, Nat.le_of_ble_eq_true rfl⟩) (ob_preV hK hST hz hS hO) rfl rfl hl.1 rfl (lv_room (Nat.le_of_ble_eq_true rfl)) dL_act_281 ⟨Nat.le_of_ble_eq_true rfl, Nat.le_of_ble_eq_true rfl⟩) hS (fun H locs hO hS => ?_)
        refine lv_istore (lv' := [(8, .int r_281.1), (7, .int s0_268), (6, .int s0_33), (5, .int (aCount M 6)), (4, .int (aCount M 3)), (0, .ref a_o), (2, .int i_2)]) hx hb dL_act_284 hl (by decide) rfl (fun ls hl => ?_)
        refine lv_iload hx hb dL_act_286 (lv_at hl 4 rfl) ?_
        refine lv_if_ne (tgt := 306) hx hb dL_act_288 (by decide) (fun c_288 => ?_) (fun c_288 => ?_)
        · have hf := (if_neg c_288).symm.trans hf
          refine lv_iload hx hb dL_act_306 (lv_at hl 0 rfl) ?_
          refine lv_iload hx hb dL_act_308 (lv_at hl 1 rfl) ?_
          refine lv_icmp_ne (tgt := 340) hx hb dL_act_310 (by decide) (fun c_310 => ?_) (fun c_310 => ?_)
          · have hf := (if_neg c_310).symm.trans hf
            refine lv_bipush (v := (-9)) hx hb dL_act_340 (by decide) ?_
            have hq := Option.some.inj hf
            rw [hQ]; exact W.iret (v := (-9)) hx hb hr (fun t ht hW => ⟨⟨(-9), r_281.2, rfl, ⟨by rw [← hq], by rw [← hq]⟩, by dsimp only; rw [ht]; exact hO⟩, hS.F ht⟩) hS.2.2 dL_act_342
          have hf := (if_pos c_310).symm.trans hf
          refine lv_aload_n hx hb dL_act_313 rfl (lv_at hl 5 rfl) ?_
          refine lv_bipush (v := 6) hx hb dL_act_314 (by decide) ?_
          refine ob_calli (va_runV (As := [.int 6]) (rest := []) ⟨hx, hb, hml, hown, hts⟩ (a_X5_count l dC dI cI cJ cZ cO tL tH tF h0 a_o r_281.2 6 ) (cwV 1 hts gL_act_X5_count rfl rfl rfl (by decide +kernel) ⟨Nat.le_of_ble_eq_true rfl, Nat.le_of_ble_eq_true rfl⟩) (ob_preV hK hST hz hS hO) rfl rfl hl.1 rfl (lv_room (Nat.le_of_ble_eq_true rfl)) dL_act_316 ⟨Nat.le_of_ble_eq_true rfl, Nat.le_of_ble_eq_true rfl⟩) hS (fun H locs hO hS => ?_)
          refine lv_iload hx hb dL_act_319 (lv_at hl 3 rfl) ?_
          refine lv_iload hx hb dL_act_321 (lv_at hl 1 rfl) ?_
          refine lv_isub hx hb dL_act_323 ?_
          refine lv_iconst (v := 1) hx hb dL_act_324 (by decide) ?_
          refine lv_iadd hx hb dL_act_325 ?_
          refine lv_iload_n hx hb dL_act_326 rfl (lv_at hl 6 rfl) ?_
          refine lv_iconst (v := 3) hx hb dL_act_327 (by decide) ?_
          refine lv_idiv hx hb dL_act_328 (by decide) ?_
          refine lv_bipush (v := 40) hx hb dL_act_329 (by decide) ?_
          refine lv_irem hx hb dL_act_331 (by decide) ?_
          refine lv_rei (x' := (remI (i_2 / 3) 40)) rfl ?_
          refine lv_iadd hx hb dL_act_332 ?_
          refine lv_icmp_ne (tgt := 340) hx hb dL_act_333 (by decide) (fun c_333 => ?_) (fun c_333 => ?_)
          · have hf := (if_neg c_333).symm.trans hf
            refine lv_bipush (v := (-9)) hx hb dL_act_340 (by decide) ?_
            have hq := Option.some.inj hf
            rw [hQ]; exact W.iret (v := (-9)) hx hb hr (fun t ht hW => ⟨⟨(-9), r_281.2, rfl, ⟨by rw [← hq], by rw [← hq]⟩, by dsimp only; rw [ht]; exact hO⟩, hS.F ht⟩) hS.2.2 dL_act_342
          have hf := (if_pos c_333).symm.trans hf
          refine lv_iconst (v := 1) hx hb dL_act_336 (by decide) ?_
          refine lv_goto (tgt := 342) hx hb dL_act_337 (by decide) ?_
          have hq := Option.some.inj hf
          rw [hQ]; exact W.iret (v := 1) hx hb hr (fun t ht hW => ⟨⟨1, r_281.2, rfl, ⟨by rw [← hq], by rw [← hq]⟩, by dsimp only; rw [ht]; exact hO⟩, hS.F ht⟩) hS.2.2 dL_act_342
        have hf := (if_pos c_288).symm.trans hf
        refine lv_iload hx hb dL_act_291 (lv_at hl 0 rfl) ?_
        refine lv_iconst (v := (-1)) hx hb dL_act_293 (by decide) ?_
        refine lv_icmp_ne (tgt := 301) hx hb dL_act_294 (by decide) (fun c_294 => ?_) (fun c_294 => ?_)
        · have hf := (if_neg c_294).symm.trans hf
          refine lv_bipush (v := (-9)) hx hb dL_act_301 (by decide) ?_
          refine lv_goto (tgt := 342) hx hb dL_act_303 (by decide) ?_
          have hq := Option.some.inj hf
          rw [hQ]; exact W.iret (v := (-9)) hx hb hr (fun t ht hW => ⟨⟨(-9), r_281.2, rfl, ⟨by rw [← hq], by rw [← hq]⟩, by dsimp only; rw [ht]; exact hO⟩, hS.F ht⟩) hS.2.2 dL_act_342
        have hf := (if_pos c_294).symm.trans hf
        refine lv_iconst (v := 0) hx hb dL_act_297 (by decide) ?_
        refine lv_goto (tgt := 342) hx hb dL_act_298 (by decide) ?_
        have hq := Option.some.inj hf
        rw [hQ]; exact W.iret (v := 0) hx hb hr (fun t ht hW => ⟨⟨0, r_281.2, rfl, ⟨by rw [← hq], by rw [← hq]⟩, by dsimp only; rw [ht]; exact hO⟩, hS.F ht⟩) hS.2.2 dL_act_342
      refine lv_if_ne (tgt := 261) hx hb dL_act_254 (by decide) (fun c_254 => ?_) (fun c_254 => ?_)
      · have hf := (if_neg c_254).symm.trans hf
        refine lv_aload_n hx hb dL_act_261 rfl (lv_at hl 4 rfl) ?_
        refine lv_iload hx hb dL_act_262 (lv_at hl 0 rfl) ?_
        refine lv_iconst (v := 0) hx hb dL_act_264 (by decide) ?_
        refine ob_calli (va_runV (As := [.int s0_33, .int 0]) (rest := []) ⟨hx, hb, hml, hown, hts⟩ (a_X5_entry l dC dI cI cJ cZ cO tL tH tF h0 a_o M s0_33 0 ) (cwV 2 hts gL_act_X5_entry rfl rfl rfl (by decide +kernel) ⟨Nat.le_of_ble_eq_true rfl, Nat.le_of_ble_eq_true rfl⟩) (ob_preV hK hST hz hS hO) rfl rfl hl.1 rfl (lv_room (Nat.le_of_ble_eq_true rfl)) dL_act_265 ⟨Nat.le_of_ble_eq_true rfl, Nat.le_of_ble_eq_true rfl⟩) hS (fun H locs hO hS => ?_)
        exact jp_268 (aEntry M s0_33 0) _ _ ls hf hO hS (lv_sub hl [0, 1, 2, 4, 6] rfl)
      have hf := (if_pos c_254).symm.trans hf
      refine lv_iconst (v := 0) hx hb dL_act_257 (by decide) ?_
      refine lv_goto (tgt := 268) hx hb dL_act_258 (by decide) ?_
      exact jp_268 0 _ _ ls hf hO hS (lv_sub hl [0, 1, 2, 4, 6] rfl)
    have hf := (if_neg c_38).symm.trans hf
    refine lv_iconst (v := 1) hx hb dL_act_41 (by decide) ?_
    refine lv_iload_n hx hb dL_act_42 rfl (lv_at hl 6 rfl) ?_
    refine lv_bipush (v := 40) hx hb dL_act_43 (by decide) ?_
    refine lv_irem hx hb dL_act_45 (by decide) ?_
    refine lv_rei (x' := (remI i_2 40)) rfl ?_
    refine lv_iadd hx hb dL_act_46 ?_
    refine lv_istore (lv' := [(7, .int (1 + (remI i_2 40))), (6, .int s0_33), (5, .int (aCount M 6)), (4, .int (aCount M 3)), (3, .int (remI i_1 12)), (0, .ref a_o), (1, .int i_1), (2, .int i_2)]) hx hb dL_act_47 hl (by decide) rfl (fun ls hl => ?_)
    refine lv_aload_n hx hb dL_act_49 rfl (lv_at hl 5 rfl) ?_
    refine lv_iload_n hx hb dL_act_50 rfl (lv_at hl 6 rfl) ?_
    refine lv_bipush (v := 12) hx hb dL_act_51 (by decide) ?_
    refine lv_idiv hx hb dL_act_53 (by decide) ?_
    obtain ⟨r_54, hu_54, hf⟩ := bd_some hf
    refine ob_calli (va_runS (As := [.ref a_o, .int (i_1 / 12)]) (rest := []) ⟨hx, hb, hml, hown, hts⟩ (c_L_word l dC dI cI cJ cZ cO tL tH tF h0 a_o M (i_1 / 12) _ hu_54) (va_cwS 2 hts gL_act_L_word rfl rfl rfl (by decide +kernel) ⟨Nat.le_of_ble_eq_true rfl, Nat.le_of_ble_eq_true rfl⟩) (ob_preS hK hST hz hS hO) rfl rfl hl.1 rfl (lv_room (Nat.le_of_ble_eq_true rfl)) dL_act_54 ⟨Nat.le_of_ble_eq_true rfl, Nat.le_of_ble_eq_true rfl⟩) hS (fun H locs hO hS => ?_)
    refine lv_istore (lv' := [(8, .int r_54.1), (7, .int (1 + (remI i_2 40))), (6, .int s0_33), (5, .int (aCount M 6)), (4, .int (aCount M 3)), (3, .int (remI i_1 12)), (0, .ref a_o), (1, .int i_1), (2, .int i_2)]) hx hb dL_act_57 hl (by decide) rfl (fun ls hl => ?_)
    refine lv_aload_n hx hb dL_act_59 rfl (lv_at hl 6 rfl) ?_
    refine ob_calli (va_runV (As := []) (rest := []) ⟨hx, hb, hml, hown, hts⟩ (a_X5_find l dC dI cI cJ cZ cO tL tH tF h0 a_o r_54.2 ) (cwV 0 hts gL_act_X5_find rfl rfl rfl (by decide +kernel) ⟨Nat.le_of_ble_eq_true rfl, Nat.le_of_ble_eq_true rfl⟩) (ob_preV hK hST hz hS hO) rfl rfl hl.1 rfl (lv_room (Nat.le_of_ble_eq_true rfl)) dL_act_60 ⟨Nat.le_of_ble_eq_true rfl, Nat.le_of_ble_eq_true rfl⟩) hS (fun H locs hO hS => ?_)
    refine lv_istore (lv' := [(9, .int (aFind r_54.2)), (8, .int r_54.1), (7, .int (1 + (remI i_2 40))), (6, .int s0_33), (5, .int (aCount M 6)), (4, .int (aCount M 3)), (3, .int (remI i_1 12)), (0, .ref a_o), (1, .int i_1), (2, .int i_2)]) hx hb dL_act_63 hl (by decide) rfl (fun ls hl => ?_)
    refine lv_iload hx hb dL_act_65 (lv_at hl 0 rfl) ?_
    have jp_81 : ∀ (s0_81 : Int32) (H : Heap) (locs : List Loc) (ls : Array Slot) (hf : J_L_act_81 i_2 M r_54 s0_81 = some res) (hO : OBJ dC dI cI cJ cZ cO h0 a_o r_54.2 H) (hS : va_S (oA0 h0) s.heap H locs) (hl : lv_has ls 12 [(9, .int (aFind r_54.2)), (8, .int r_54.1), (7, .int (1 + (remI i_2 40))), (5, .int (aCount M 6)), (4, .int (aCount M 3)), (0, .ref a_o)]), W p l e (headSpec wsL_act rm_L_act).room s m ([.ref a_o, .int i_1, .int i_2] : List Value).toArray below meth c H locs 0 0 Q (F0 m 81 ls [.int s0_81]) := by
      intro s0_81 H locs ls hf hO hS hl
      unfold J_L_act_81 at hf
      refine lv_istore (lv' := [(10, .int s0_81), (9, .int (aFind r_54.2)), (8, .int r_54.1), (7, .int (1 + (remI i_2 40))), (5, .int (aCount M 6)), (4, .int (aCount M 3)), (0, .ref a_o)]) hx hb dL_act_81 hl (by decide) rfl (fun ls hl => ?_)
      refine lv_iload hx hb dL_act_83 (lv_at hl 2 rfl) ?_
      have jp_142 : ∀ (M_142 : ObjT) (s0_142 : Int32) (H : Heap) (locs : List Loc) (ls : Array Slot) (hf : J_L_act_142 i_2 M r_54 s0_81 M_142 s0_142 = some res) (hO : OBJ dC dI cI cJ cZ cO h0 a_o M_142 H) (hS : va_S (oA0 h0) s.heap H locs) (hl : lv_has ls 12 [(10, .int s0_81), (9, .int (aFind r_54.2)), (7, .int (1 + (remI i_2 40))), (5, .int (aCount M 6)), (4, .int (aCount M 3)), (0, .ref a_o)]), W p l e (headSpec wsL_act rm_L_act).room s m ([.ref a_o, .int i_1, .int i_2] : List Value).toArray below meth c H locs 0 0 Q (F0 m 142 ls [.int s0_142]) := by
        intro M_142 s0_142 H locs ls hf hO hS hl
        unfold J_L_act_142 at hf
        refine lv_istore (lv' := [(8, .int s0_142), (10, .int s0_81), (9, .int (aFind r_54.2)), (7, .int (1 + (remI i_2 40))), (5, .int (aCount M 6)), (4, .int (aCount M 3)), (0, .ref a_o)]) hx hb dL_act_142 hl (by decide) rfl (fun ls hl => ?_)
        refine lv_iload hx hb dL_act_144 (lv_at hl 0 rfl) ?_
        have jp_157 : ∀ (M_157 : ObjT) (s0_157 : Int32) (H : Heap) (locs : List Loc) (ls : Array Slot) (hf : J_L_act_157 i_2 M r_54 s0_81 M_157 s0_157 = some res) (hO : OBJ dC dI cI cJ cZ cO h0 a_o M_157 H) (hS : va_S (oA0 h0) s.heap H locs) (hl : lv_has ls 12 [(10, .int s0_81), (9, .int (aFind r_54.2)), (7, .int (1 + (remI i_2 40))), (5, .int (aCount M 6)), (4, .int (aCount M 3)), (0, .ref a_o)]), W p l e (headSpec wsL_act rm_L_act).room s m ([.ref a_o, .int i_1, .int i_2] : List Value).toArray below meth c H locs 0 0 Q (F0 m 157 ls [.int s0_157]) := by
          intro M_157 s0_157 H locs ls hf hO hS hl
          unfold J_L_act_157 at hf
          refine lv_istore (lv' := [(11, .int s0_157), (10, .int s0_81), (9, .int (aFind r_54.2)), (7, .int (1 + (remI i_2 40))), (5, .int (aCount M 6)), (4, .int (aCount M 3)), (0, .ref a_o)]) hx hb dL_act_157 hl (by decide) rfl (fun ls hl => ?_)
          refine lv_iload hx hb dL_act_159 (lv_at hl 2 rfl) ?_
          have jp_194 : ∀ (H : Heap) (locs : List Loc) (ls : Array Slot) (hf : J_L_act_194 i_2 M r_54 s0_81 M_157 s0_157 = some res) (hO : OBJ dC dI cI cJ cZ cO h0 a_o M_157 H) (hS : va_S (oA0 h0) s.heap H locs) (hl : lv_has ls 12 [(11, .int s0_157), (10, .int s0_81), (9, .int (aFind r_54.2)), (7, .int (1 + (remI i_2 40))), (5, .int (aCount M 6)), (4, .int (aCount M 3)), (0, .ref a_o)]), W p l e (headSpec wsL_act rm_L_act).room s m ([.ref a_o, .int i_1, .int i_2] : List Value).toArray below meth c H locs 0 0 Q (F0 m 194 ls []) := by
            intro H locs ls hf hO hS hl
            unfold J_L_act_194 at hf
            refine lv_iload hx hb dL_act_194 (lv_at hl 0 rfl) ?_
            refine lv_iload hx hb dL_act_196 (lv_at hl 2 rfl) ?_
            have jp_210 : ∀ (s0_210 : Int32) (H : Heap) (locs : List Loc) (ls : Array Slot) (hf : J_L_act_210 i_2 M s0_81 M_157 s0_157 s0_210 = some res) (hO : OBJ dC dI cI cJ cZ cO h0 a_o M_157 H) (hS : va_S (oA0 h0) s.heap H locs) (hl : lv_has ls 12 [(10, .int s0_81), (7, .int (1 + (remI i_2 40))), (5, .int (aCount M 6)), (0, .ref a_o)]), W p l e (headSpec wsL_act rm_L_act).room s m ([.ref a_o, .int i_1, .int i_2] : List Value).toArray below meth c H locs 0 0 Q (F0 m 210 ls [.int s0_210, .int s0_157]) := by
              intro s0_210 H locs ls hf hO hS hl
              unfold J_L_act_210 at hf
              refine lv_icmp_ne (tgt := 243) hx hb dL_act_210 (by decide) (fun c_210 => ?_) (fun c_210 => ?_)
              · have hf := (if_neg c_210).symm.trans hf
                refine lv_bipush (v := (-9)) hx hb dL_act_243 (by decide) ?_
                have hq := Option.some.inj hf
                rw [hQ]; exact W.iret (v := (-9)) hx hb hr (fun t ht hW => ⟨⟨(-9), M_157, rfl, ⟨by rw [← hq], by rw [← hq]⟩, by dsimp only; rw [ht]; exact hO⟩, hS.F ht⟩) hS.2.2 dL_act_245
              have hf := (if_pos c_210).symm.trans hf
              refine lv_aload_n hx hb dL_act_213 rfl (lv_at hl 3 rfl) ?_
              refine lv_bipush (v := 6) hx hb dL_act_214 (by decide) ?_
              refine ob_calli (va_runV (As := [.int 6]) (rest := []) ⟨hx, hb, hml, hown, hts⟩ (a_X5_count l dC dI cI cJ cZ cO tL tH tF h0 a_o M_157 6 ) (cwV 1 hts gL_act_X5_count rfl rfl rfl (by decide +kernel) ⟨Nat.le_of_ble_eq_true rfl, Nat.le_of_ble_eq_true rfl⟩) (ob_preV hK hST hz hS hO) rfl rfl hl.1 rfl (lv_room (Nat.le_of_ble_eq_true rfl)) dL_act_216 ⟨Nat.le_of_ble_eq_true rfl, Nat.le_of_ble_eq_true rfl⟩) hS (fun H locs hO hS => ?_)
              refine lv_iload hx hb dL_act_219 (lv_at hl 2 rfl) ?_
              refine lv_iload hx hb dL_act_221 (lv_at hl 1 rfl) ?_
              refine lv_iadd hx hb dL_act_223 ?_
              refine lv_iload hx hb dL_act_224 (lv_at hl 0 rfl) ?_
              refine lv_isub hx hb dL_act_226 ?_
              refine lv_icmp_ne (tgt := 243) hx hb dL_act_227 (by decide) (fun c_227 => ?_) (fun c_227 => ?_)
              · have hf := (if_neg c_227).symm.trans hf
                refine lv_bipush (v := (-9)) hx hb dL_act_243 (by decide) ?_
                have hq := Option.some.inj hf
                rw [hQ]; exact W.iret (v := (-9)) hx hb hr (fun t ht hW => ⟨⟨(-9), M_157, rfl, ⟨by rw [← hq], by rw [← hq]⟩, by dsimp only; rw [ht]; exact hO⟩, hS.F ht⟩) hS.2.2 dL_act_245
              have hf := (if_pos c_227).symm.trans hf
              refine lv_aload_n hx hb dL_act_230 rfl (lv_at hl 3 rfl) ?_
              refine lv_bipush (v := 13) hx hb dL_act_231 (by decide) ?_
              refine ob_calli (va_runV (As := [.int 13]) (rest := []) ⟨hx, hb, hml, hown, hts⟩ (a_X5_count l dC dI cI cJ cZ cO tL tH tF h0 a_o M_157 13 ) (cwV 1 hts gL_act_X5_count rfl rfl rfl (by decide +kernel) ⟨Nat.le_of_ble_eq_true rfl, Nat.le_of_ble_eq_true rfl⟩) (ob_preV hK hST hz hS hO) rfl rfl hl.1 rfl (lv_room (Nat.le_of_ble_eq_true rfl)) dL_act_233 ⟨Nat.le_of_ble_eq_true rfl, Nat.le_of_ble_eq_true rfl⟩) hS (fun H locs hO hS => ?_)
              refine lv_if_ne (tgt := 243) hx hb dL_act_236 (by decide) (fun c_236 => ?_) (fun c_236 => ?_)
              · have hf := (if_neg c_236).symm.trans hf
                refine lv_bipush (v := (-9)) hx hb dL_act_243 (by decide) ?_
                have hq := Option.some.inj hf
                rw [hQ]; exact W.iret (v := (-9)) hx hb hr (fun t ht hW => ⟨⟨(-9), M_157, rfl, ⟨by rw [← hq], by rw [← hq]⟩, by dsimp only; rw [ht]; exact hO⟩, hS.F ht⟩) hS.2.2 dL_act_245
              have hf := (if_pos c_236).symm.trans hf
              refine lv_iconst (v := 1) hx hb dL_act_239 (by decide) ?_
              refine lv_goto (tgt := 245) hx hb dL_act_240 (by decide) ?_
              have hq := Option.some.inj hf
              rw [hQ]; exact W.iret (v := 1) hx hb hr (fun t ht hW => ⟨⟨1, M_157, rfl, ⟨by rw [← hq], by rw [← hq]⟩, by dsimp only; rw [ht]; exact hO⟩, hS.F ht⟩) hS.2.2 dL_act_245
            refine lv_if_ge (tgt := 208) hx hb dL_act_198 (by decide) (fun c_198 => ?_) (fun c_198 => ?_)
            · have hf := (if_pos c_198).symm.trans hf
              refine lv_iload hx hb dL_act_208 (lv_at hl 5 rfl) ?_
              exact jp_210 (aCount M 3) _ _ ls hf hO hS (lv_sub hl [1, 3, 4, 6] rfl)
            have hf := (if_neg c_198).symm.trans hf
            refine lv_iload hx hb dL_act_201 (lv_at hl 5 rfl) ?_
            refine lv_iconst (v := 1) hx hb dL_act_203 (by decide) ?_
            refine lv_iadd hx hb dL_act_204 ?_
            refine lv_goto (tgt := 210) hx hb dL_act_205 (by decide) ?_
            exact jp_210 ((aCount M 3) + 1) _ _ ls hf hO hS (lv_sub hl [1, 3, 4, 6] rfl)
          refine lv_if_ge (tgt := 194) hx hb dL_act_161 (by decide) (fun c_161 => ?_) (fun c_161 => ?_)
          · have hf := (if_pos c_161).symm.trans hf
            exact jp_194 _ _ ls hf hO hS (lv_sub hl [0, 1, 2, 3, 4, 5, 6] rfl)
          have hf := (if_neg c_161).symm.trans hf
          refine lv_iload hx hb dL_act_164 (lv_at hl 5 rfl) ?_
          refine lv_bipush (v := 30) hx hb dL_act_166 (by decide) ?_
          refine lv_icmp_ne (tgt := 194) hx hb dL_act_168 (by decide) (fun c_168 => ?_) (fun c_168 => ?_)
          · have hf := (if_neg c_168).symm.trans hf
            exact jp_194 _ _ ls hf hO hS (lv_sub hl [0, 1, 2, 3, 4, 5, 6] rfl)
          have hf := (if_pos c_168).symm.trans hf
          refine lv_iload hx hb dL_act_171 (lv_at hl 0 rfl) ?_
          refine lv_bipush (v := (-4)) hx hb dL_act_173 (by decide) ?_
          refine lv_icmp_ne (tgt := 191) hx hb dL_act_175 (by decide) (fun c_175 => ?_) (fun c_175 => ?_)
          · have hf := (if_neg c_175).symm.trans hf
            refine lv_bipush (v := (-9)) hx hb dL_act_191 (by decide) ?_
            have hq := Option.some.inj hf
            rw [hQ]; exact W.iret (v := (-9)) hx hb hr (fun t ht hW => ⟨⟨(-9), M_157, rfl, ⟨by rw [← hq], by rw [← hq]⟩, by dsimp only; rw [ht]; exact hO⟩, hS.F ht⟩) hS.2.2 dL_act_193
          have hf := (if_pos c_175).symm.trans hf
          refine lv_aload_n hx hb dL_act_178 rfl (lv_at hl 6 rfl) ?_
          refine lv_bipush (v := 13) hx hb dL_act_179 (by decide) ?_
          refine ob_calli (va_runV (As := [.int 13]) (rest := []) ⟨hx, hb, hml, hown, hts⟩ (a_X5_count l dC dI cI cJ cZ cO tL tH tF h0 a_o M_157 13 ) (cwV 1 hts gL_act_X5_count rfl rfl rfl (by decide +kernel) ⟨Nat.le_of_ble_eq_true rfl, Nat.le_of_ble_eq_true rfl⟩) (ob_preV hK hST hz hS hO) rfl rfl hl.1 rfl (lv_room (Nat.le_of_ble_eq_true rfl)) dL_act_181 ⟨Nat.le_of_ble_eq_true rfl, Nat.le_of_ble_eq_true rfl⟩) hS (fun H locs hO hS => ?_)
          refine lv_if_le (tgt := 191) hx hb dL_act_184 (by decide) (fun c_184 => ?_) (fun c_184 => ?_)
          · have hf := (if_pos c_184).symm.trans hf
            refine lv_bipush (v := (-9)) hx hb dL_act_191 (by decide) ?_
            have hq := Option.some.inj hf
            rw [hQ]; exact W.iret (v := (-9)) hx hb hr (fun t ht hW => ⟨⟨(-9), M_157, rfl, ⟨by rw [← hq], by rw [← hq]⟩, by dsimp only; rw [ht]; exact hO⟩, hS.F ht⟩) hS.2.2 dL_act_193
          have hf := (if_neg c_184).symm.trans hf
          refine lv_iconst (v := 0) hx hb dL_act_187 (by decide) ?_
          refine lv_goto (tgt := 193) hx hb dL_act_188 (by decide) ?_
          have hq := Option.some.inj hf
          rw [hQ]; exact W.iret (v := 0) hx hb hr (fun t ht hW => ⟨⟨0, M_157, rfl, ⟨by rw [← hq], by rw [← hq]⟩, by dsimp only; rw [ht]; exact hO⟩, hS.F ht⟩) hS.2.2 dL_act_193
        refine lv_if_eq (tgt := 156) hx hb dL_act_146 (by decide) (fun c_146 => ?_) (fun c_146 => ?_)
        · have hf := (if_pos c_146).symm.trans hf
          refine lv_iconst (v := 0) hx hb dL_act_156 (by decide) ?_
          exact jp_157 M_142 0 _ _ ls hf hO hS (lv_sub hl [1, 2, 3, 4, 5, 6] rfl)
        have hf := (if_neg c_146).symm.trans hf
        refine lv_aload_n hx hb dL_act_149 rfl (lv_at hl 6 rfl) ?_
        obtain ⟨r_150, hu_150, hf⟩ := bd_some hf
        refine ob_calli (va_runV (As := []) (rest := []) ⟨hx, hb, hml, hown, hts⟩ (a_X5_read l dC dI cI cJ cZ cO tL tH tF h0 a_o M_142  hu_150) (cwV 0 hts gL_act_X5_read rfl rfl rfl (by decide +kernel) ⟨Nat.le_of_ble_eq_true rfl, Nat.le_of_ble_eq_true rfl⟩) (ob_preV hK hST hz hS hO) rfl rfl hl.1 rfl (lv_room (Nat.le_of_ble_eq_true rfl)) dL_act_150 ⟨Nat.le_of_ble_eq_true rfl, Nat.le_of_ble_eq_true rfl⟩) hS (fun H locs hO hS => ?_)
        refine lv_goto (tgt := 157) hx hb dL_act_153 (by decide) ?_
        exact jp_157 r_150.2 r_150.1 _ _ ls hf hO hS (lv_sub hl [1, 2, 3, 4, 5, 6] rfl)
      have jp_141 : ∀ (M_141 : ObjT) (H : Heap) (locs : List Loc) (ls : Array Slot) (hf : J_L_act_141 i_2 M r_54 s0_81 M_141 = some res) (hO : OBJ dC dI cI cJ cZ cO h0 a_o M_141 H) (hS : va_S (oA0 h0) s.heap H locs) (hl : lv_has ls 12 [(10, .int s0_81), (9, .int (aFind r_54.2)), (7, .int (1 + (remI i_2 40))), (5, .int (aCount M 6)), (4, .int (aCount M 3)), (0, .ref a_o)]), W p l e (headSpec wsL_act rm_L_act).room s m ([.ref a_o, .int i_1, .int i_2] : List Value).toArray below meth c H locs 0 0 Q (F0 m 141 ls []) := by
        intro M_141 H locs ls hf hO hS hl
        unfold J_L_act_141 at hf
        refine lv_iconst (v := 0) hx hb dL_act_141 (by decide) ?_
        exact jp_142 M_141 0 _ _ ls hf hO hS (lv_sub hl [0, 1, 2, 3, 4, 5] rfl)
      refine lv_if_eq (tgt := 141) hx hb dL_act_85 (by decide) (fun c_85 => ?_) (fun c_85 => ?_)
      · have hf := (if_pos c_85).symm.trans hf
        exact jp_141 r_54.2 _ _ ls hf hO hS (lv_sub hl [0, 1, 3, 4, 5, 6] rfl)
      have hf := (if_neg c_85).symm.trans hf
      refine lv_aload_n hx hb dL_act_88 rfl (lv_at hl 6 rfl) ?_
      refine lv_ldc2 (v := 58) hx hb hown hw0 dL_act_89 ?_
      obtain ⟨r_92, hu_92, hf⟩ := bd_some hf
      refine ob_calli (va_runV (As := [.long 58]) (rest := []) ⟨hx, hb, hml, hown, hts⟩ (a_X5_put l dC dI cI cJ cZ cO tL tH tF h0 a_o r_54.2 58  hu_92) (cwV 1 hts gL_act_X5_put rfl rfl rfl (by decide +kernel) ⟨Nat.le_of_ble_eq_true rfl, Nat.le_of_ble_eq_true rfl⟩) (ob_preV hK hST hz hS hO) rfl rfl hl.1 rfl (lv_room (Nat.le_of_ble_eq_true rfl)) dL_act_92 ⟨Nat.le_of_ble_eq_true rfl, Nat.le_of_ble_eq_true rfl⟩) hS (fun H locs hO hS => ?_)
      refine lv_if_le (tgt := 141) hx hb dL_act_95 (by decide) (fun c_95 => ?_) (fun c_95 => ?_)
      · have hf := (if_pos c_95).symm.trans hf
        exact jp_141 r_92.2 _ _ ls hf hO hS (lv_sub hl [0, 1, 3, 4, 5, 6] rfl)
      have hf := (if_neg c_95).symm.trans hf
      refine lv_iload hx hb dL_act_98 (lv_at hl 3 rfl) ?_
      refine lv_bipush (v := 10) hx hb dL_act_100 (by decide) ?_
      have jp_121 : ∀ (M_121 : ObjT) (H : Heap) (locs : List Loc) (ls : Array Slot) (hf : J_L_act_121 i_2 M r_54 s0_81 M_121 = some res) (hO : OBJ dC dI cI cJ cZ cO h0 a_o M_121 H) (hS : va_S (oA0 h0) s.heap H locs) (hl : lv_has ls 12 [(10, .int s0_81), (9, .int (aFind r_54.2)), (7, .int (1 + (remI i_2 40))), (5, .int (aCount M 6)), (4, .int (aCount M 3)), (0, .ref a_o)]), W p l e (headSpec wsL_act rm_L_act).room s m ([.ref a_o, .int i_1, .int i_2] : List Value).toArray below meth c H locs 0 0 Q (F0 m 121 ls []) := by
        intro M_121 H locs ls hf hO hS hl
        unfold J_L_act_121 at hf
        refine lv_aload_n hx hb dL_act_121 rfl (lv_at hl 5 rfl) ?_
        refine lv_bipush (v := 48) hx hb dL_act_122 (by decide) ?_
        refine lv_iload hx hb dL_act_124 (lv_at hl 2 rfl) ?_
        refine lv_bipush (v := 10) hx hb dL_act_126 (by decide) ?_
        refine lv_irem hx hb dL_act_128 (by decide) ?_
        refine lv_rei (x' := (remI (1 + (remI i_2 40)) 10)) rfl ?_
        refine lv_iadd hx hb dL_act_129 ?_
        refine lv_i2l (v := ((48 + (remI (1 + (remI i_2 40)) 10))).toInt64) hx hb dL_act_130 rfl ?_
        obtain ⟨r_131, hu_131, hf⟩ := bd_some hf
        refine ob_calli (va_runV (As := [.long (((48 + (remI (1 + (remI i_2 40)) 10))).toInt64)]) (rest := []) ⟨hx, hb, hml, hown, hts⟩ (a_X5_put l dC dI cI cJ cZ cO tL tH tF h0 a_o M_121 (((48 + (remI (1 + (remI i_2 40)) 10))).toInt64)  hu_131) (cwV 1 hts gL_act_X5_put rfl rfl rfl (by decide +kernel) ⟨Nat.le_of_ble_eq_true rfl, Nat.le_of_ble_eq_true rfl⟩) (ob_preV hK hST hz hS hO) rfl rfl hl.1 rfl (lv_room (Nat.le_of_ble_eq_true rfl)) dL_act_131 ⟨Nat.le_of_ble_eq_true rfl, Nat.le_of_ble_eq_true rfl⟩) hS (fun H locs hO hS => ?_)
        refine lv_if_le (tgt := 141) hx hb dL_act_134 (by decide) (fun c_134 => ?_) (fun c_134 => ?_)
        · have hf := (if_pos c_134).symm.trans hf
          exact jp_141 r_131.2 _ _ ls hf hO hS (lv_sub hl [0, 1, 2, 3, 4, 5] rfl)
        have hf := (if_neg c_134).symm.trans hf
        refine lv_iconst (v := 1) hx hb dL_act_137 (by decide) ?_
        refine lv_goto (tgt := 142) hx hb dL_act_138 (by decide) ?_
        exact jp_142 r_131.2 1 _ _ ls hf hO hS (lv_sub hl [0, 1, 2, 3, 4, 5] rfl)
      refine lv_icmp_lt (tgt := 121) hx hb dL_act_102 (by decide) (fun c_102 => ?_) (fun c_102 => ?_)
      · have hf := (if_pos c_102).symm.trans hf
        exact jp_121 r_92.2 _ _ ls hf hO hS (lv_sub hl [0, 1, 3, 4, 5, 6] rfl)
      have hf := (if_neg c_102).symm.trans hf
      refine lv_aload_n hx hb dL_act_105 rfl (lv_at hl 6 rfl) ?_
      refine lv_bipush (v := 48) hx hb dL_act_106 (by decide) ?_
      refine lv_iload hx hb dL_act_108 (lv_at hl 3 rfl) ?_
      refine lv_bipush (v := 10) hx hb dL_act_110 (by decide) ?_
      refine lv_idiv hx hb dL_act_112 (by decide) ?_
      refine lv_iadd hx hb dL_act_113 ?_
      refine lv_i2l (v := ((48 + ((1 + (remI i_2 40)) / 10))).toInt64) hx hb dL_act_114 rfl ?_
      obtain ⟨r_115, hu_115, hf⟩ := bd_some hf
      refine ob_calli (va_runV (As := [.long (((48 + ((1 + (remI i_2 40)) / 10))).toInt64)]) (rest := []) ⟨hx, hb, hml, hown, hts⟩ (a_X5_put l dC dI cI cJ cZ cO tL tH tF h0 a_o r_92.2 (((48 + ((1 + (remI i_2 40)) / 10))).toInt64)  hu_115) (cwV 1 hts gL_act_X5_put rfl rfl rfl (by decide +kernel) ⟨Nat.le_of_ble_eq_true rfl, Nat.le_of_ble_eq_true rfl⟩) (ob_preV hK hST hz hS hO) rfl rfl hl.1 rfl (lv_room (Nat.le_of_ble_eq_true rfl)) dL_act_115 ⟨Nat.le_of_ble_eq_true rfl, Nat.le_of_ble_eq_true rfl⟩) hS (fun H locs hO hS => ?_)
      refine lv_if_le (tgt := 141) hx hb dL_act_118 (by decide) (fun c_118 => ?_) (fun c_118 => ?_)
      · have hf := (if_pos c_118).symm.trans hf
        exact jp_141 r_115.2 _ _ ls hf hO hS (lv_sub hl [0, 1, 3, 4, 5, 6] rfl)
      have hf := (if_neg c_118).symm.trans hf
      exact jp_121 r_115.2 _ _ ls hf hO hS (lv_sub hl [0, 1, 3, 4, 5, 6] rfl)
    refine lv_if_ge (tgt := 74) hx hb dL_act_67 (by decide) (fun c_67 => ?_) (fun c_67 => ?_)
    · have hf := (if_pos c_67).symm.trans hf
      refine lv_aload_n hx hb dL_act_74 rfl (lv_at hl 7 rfl) ?_
      refine lv_iload hx hb dL_act_75 (lv_at hl 0 rfl) ?_
      refine lv_iconst (v := 0) hx hb dL_act_77 (by decide) ?_
      refine ob_calli (va_runV (As := [.int (aFind r_54.2), .int 0]) (rest := []) ⟨hx, hb, hml, hown, hts⟩ (a_X5_entry l dC dI cI cJ cZ cO tL tH tF h0 a_o r_54.2 (aFind r_54.2) 0 ) (cwV 2 hts gL_act_X5_entry rfl rfl rfl (by decide +kernel) ⟨Nat.le_of_ble_eq_true rfl, Nat.le_of_ble_eq_true rfl⟩) (ob_preV hK hST hz hS hO) rfl rfl hl.1 rfl (lv_room (Nat.le_of_ble_eq_true rfl)) dL_act_78 ⟨Nat.le_of_ble_eq_true rfl, Nat.le_of_ble_eq_true rfl⟩) hS (fun H locs hO hS => ?_)
      exact jp_81 (aEntry r_54.2 (aFind r_54.2) 0) _ _ ls hf hO hS (lv_sub hl [0, 1, 2, 4, 5, 7] rfl)
    have hf := (if_neg c_67).symm.trans hf
    refine lv_iconst (v := 0) hx hb dL_act_70 (by decide) ?_
    refine lv_goto (tgt := 81) hx hb dL_act_71 (by decide) ?_
    exact jp_81 0 _ _ ls hf hO hS (lv_sub hl [0, 1, 2, 4, 5, 7] rfl)
  refine lv_if_ne (tgt := 29) hx hb dL_act_22 (by decide) (fun c_22 => ?_) (fun c_22 => ?_)
  · have hf := (if_neg c_22).symm.trans hf
    refine lv_iload_n hx hb dL_act_29 rfl (lv_at hl 5 rfl) ?_
    refine lv_iload hx hb dL_act_30 (lv_at hl 1 rfl) ?_
    obtain ⟨g_32, hf⟩ := gd_some hf
    refine lv_irem hx hb dL_act_32 (nz_of32 g_32) ?_
    refine lv_rei (x' := (remI i_2 (aCount M 3))) rfl ?_
    exact jp_33 (remI i_2 (aCount M 3)) _ _ ls hf hO hS (lv_sub hl [0, 1, 2, 3, 4, 5] rfl)
  have hf := (if_pos c_22).symm.trans hf
  refine lv_iconst (v := 0) hx hb dL_act_25 (by decide) ?_
  refine lv_goto (tgt := 33) hx hb dL_act_26 (by decide) ?_
  exact jp_33 0 _ _ ls hf hO hS (lv_sub hl [0, 1, 2, 3, 4, 5] rfl)
