/-! walks: L_isLaid -/
abbrev rm_L_isLaid : Room := { frames := 4, cells := 0, slots := 0, locals := 91 }
set_option maxHeartbeats 4000000 in
set_option maxRecDepth 100000 in
theorem c_L_isLaid (l : Launch) (dC : Nat → ClassId) (dI : Nat → Nat → Nat) (cI cJ cZ cO : ClassId) (tL tH tF h0 a_o : Nat) (M : ObjT) (res : Int32) (hf : f_L_isLaid M = some res) : Met l yL_isLaid wsL_isLaid rm_L_isLaid (obP dC dI cI cJ cZ cO tL tH tF h0 a_o M [.ref a_o]) (obQi dC dI cI cJ cZ cO h0 a_o res M) 0 0 (oA0 h0) := by
  refine Met.ofW (cc := cL_isLaid) (maxL := 14) (ret := (some .boolean)) (by decide) rfl ?_
  intro p e s m args below meth c s₁ B hml hv
  obtain ⟨rfl, hO, hK, hST, hz⟩ := hv
  have hx := B.exec
  have hb := B.bytes
  have hr := B.returns
  have hts := atoms_spec (ws := wsL_isLaid) B.pre
  have hown : s.vm.findClass RL = some m.cls := findClass_of_methodNamed B.named
  have hlocks := B.notSynchronized
  have hl := lv_entry ([.ref a_o]) (n := 14) (Nat.le_of_ble_eq_true rfl)
  rw [lg_entry_eq]
  generalize (lg_sl ([.ref a_o]) ++ List.replicate (14 - (lg_sl ([.ref a_o])).length) Slot.unset).toArray = ls at hl ⊢
  have hl : lv_has ls 14 [(0, .ref a_o)] := hl
  refine W_gen (fun Q hQ => ?_)
  refine ob_start hO (fun H locs hO hS => ?_)
  unfold f_L_isLaid at hf
  refine lv_aload_n hx hb dL_isLaid_0 rfl (lv_at hl 0 rfl) ?_
  refine lv_iconst (v := 4) hx hb dL_isLaid_1 (by decide) ?_
  refine ob_calli (va_runV (As := [.int 4]) (rest := []) ⟨hx, hb, hml, hown, hts⟩ (a_X5_count l dC dI cI cJ cZ cO tL tH tF h0 a_o M 4 ) (cwV 1 hts gL_isLaid_X5_count rfl rfl rfl (by decide +kernel) ⟨Nat.le_of_ble_eq_true rfl, Nat.le_of_ble_eq_true rfl⟩) (ob_preV hK hST hz hS hO) rfl rfl hl.1 rfl (lv_room (Nat.le_of_ble_eq_true rfl)) dL_isLaid_2 ⟨Nat.le_of_ble_eq_true rfl, Nat.le_of_ble_eq_true rfl⟩) hS (fun H locs hO hS => ?_)
  refine lv_istore_n (lv' := [(1, .int (aCount M 4)), (0, .ref a_o)]) hx hb dL_isLaid_5 rfl hl (by decide) rfl (fun ls hl => ?_)
  refine lv_iconst (v := 0) hx hb dL_isLaid_6 (by decide) ?_
  refine lv_istore_n (lv' := [(2, .int 0), (1, .int (aCount M 4)), (0, .ref a_o)]) hx hb dL_isLaid_7 rfl hl (by decide) rfl (fun ls hl => ?_)
  refine lv_iconst (v := 0) hx hb dL_isLaid_8 (by decide) ?_
  refine lv_istore_n (lv' := [(3, .int 0), (2, .int 0), (1, .int (aCount M 4)), (0, .ref a_o)]) hx hb dL_isLaid_9 rfl hl (by decide) rfl (fun ls hl => ?_)
  refine lv_iconst (v := 0) hx hb dL_isLaid_10 (by decide) ?_
  refine lv_istore (lv' := [(4, .int 0), (3, .int 0), (2, .int 0), (1, .int (aCount M 4)), (0, .ref a_o)]) hx hb dL_isLaid_11 hl (by decide) rfl (fun ls hl => ?_)
  refine lv_iconst (v := 0) hx hb dL_isLaid_13 (by decide) ?_
  refine lv_istore (lv' := [(5, .int 0), (4, .int 0), (3, .int 0), (2, .int 0), (1, .int (aCount M 4)), (0, .ref a_o)]) hx hb dL_isLaid_14 hl (by decide) rfl (fun ls hl => ?_)
  refine lv_iconst (v := 0) hx hb dL_isLaid_16 (by decide) ?_
  refine lv_istore (lv' := [(6, .int 0), (5, .int 0), (4, .int 0), (3, .int 0), (2, .int 0), (1, .int (aCount M 4)), (0, .ref a_o)]) hx hb dL_isLaid_17 hl (by decide) rfl (fun ls hl => ?_)
  refine lv_iconst (v := 1) hx hb dL_isLaid_19 (by decide) ?_
  refine lv_istore (lv' := [(7, .int 1), (6, .int 0), (5, .int 0), (4, .int 0), (3, .int 0), (2, .int 0), (1, .int (aCount M 4)), (0, .ref a_o)]) hx hb dL_isLaid_20 hl (by decide) rfl (fun ls hl => ?_)
  refine lv_aload_n hx hb dL_isLaid_22 rfl (lv_at hl 7 rfl) ?_
  refine lv_iconst (v := 5) hx hb dL_isLaid_23 (by decide) ?_
  refine ob_calli (va_runV (As := [.int 5]) (rest := []) ⟨hx, hb, hml, hown, hts⟩ (a_X5_count l dC dI cI cJ cZ cO tL tH tF h0 a_o M 5 ) (cwV 1 hts gL_isLaid_X5_count rfl rfl rfl (by decide +kernel) ⟨Nat.le_of_ble_eq_true rfl, Nat.le_of_ble_eq_true rfl⟩) (ob_preV hK hST hz hS hO) rfl rfl hl.1 rfl (lv_room (Nat.le_of_ble_eq_true rfl)) dL_isLaid_24 ⟨Nat.le_of_ble_eq_true rfl, Nat.le_of_ble_eq_true rfl⟩) hS (fun H locs hO hS => ?_)
  refine lv_iload_n hx hb dL_isLaid_27 rfl (lv_at hl 6 rfl) ?_
  refine lv_iconst (v := 1) hx hb dL_isLaid_28 (by decide) ?_
  refine lv_iadd hx hb dL_isLaid_29 ?_
  refine lv_iconst (v := 2) hx hb dL_isLaid_30 (by decide) ?_
  refine lv_idiv hx hb dL_isLaid_31 (by decide) ?_
  have jp_85 : ∀ (s0_85 : Int32) (H : Heap) (locs : List Loc) (ls : Array Slot) (hf : J_L_isLaid_85 M s0_85 = some res) (hO : OBJ dC dI cI cJ cZ cO h0 a_o M H) (hS : va_S (oA0 h0) s.heap H locs) (hl : lv_has ls 14 [(7, .int 1), (6, .int 0), (5, .int 0), (4, .int 0), (3, .int 0), (2, .int 0), (1, .int (aCount M 4)), (0, .ref a_o)]), W p l e (headSpec wsL_isLaid rm_L_isLaid).room s m ([.ref a_o] : List Value).toArray below meth c H locs 0 0 Q (F0 m 85 ls [.int s0_85]) := by
    intro s0_85 H locs ls hf hO hS hl
    unfold J_L_isLaid_85 at hf
    refine lv_istore (lv' := [(8, .int s0_85), (7, .int 1), (6, .int 0), (5, .int 0), (4, .int 0), (3, .int 0), (2, .int 0), (1, .int (aCount M 4)), (0, .ref a_o)]) hx hb dL_isLaid_85 hl (by decide) rfl (fun ls hl => ?_)
    refine lv_iconst (v := 0) hx hb dL_isLaid_87 (by decide) ?_
    refine lv_istore (lv' := [(9, .int 0), (8, .int s0_85), (7, .int 1), (6, .int 0), (5, .int 0), (4, .int 0), (3, .int 0), (2, .int 0), (1, .int (aCount M 4)), (0, .ref a_o)]) hx hb dL_isLaid_88 hl (by decide) rfl (fun ls hl => ?_)
    have hk_90 : ∀ (i9_90 : Int32) (i8_90 : Int32) (i7_90 : Int32) (i6_90 : Int32) (i5_90 : Int32) (i4_90 : Int32) (i3_90 : Int32) (i2_90 : Int32) (H : Heap) (locs : List Loc) (ls : Array Slot) (hf : (if i8_90 = 0 then (some 0) else (if i2_90 = (aCount M 6) then (if i3_90 = (aCount M 7) then (if i4_90 = (aCount M 3) then (if i5_90 = (aCount M 10) then (if i6_90 = (aCount M 12) then (if i7_90 = (aCount M 9) then (if i7_90 = 1 then (some 1) else (if (aCount M 8) = 10 then (some 1) else (some 0))) else (some 0)) else (some 0)) else (some 0)) else (some 0)) else (some 0)) else (some 0))) = some res) (hO : OBJ dC dI cI cJ cZ cO h0 a_o M H) (hS : va_S (oA0 h0) s.heap H locs) (hl : lv_has ls 14 [(8, .int i8_90), (7, .int i7_90), (6, .int i6_90), (5, .int i5_90), (4, .int i4_90), (3, .int i3_90), (2, .int i2_90), (0, .ref a_o)]), W p l e (headSpec wsL_isLaid rm_L_isLaid).room s m ([.ref a_o] : List Value).toArray below meth c H locs 0 0 Q (F0 m 523 ls []) := by
      intro i9_90 i8_90 i7_90 i6_90 i5_90 i4_90 i3_90 i2_90 H locs ls hf hO hS hl
      refine lv_iload hx hb dL_isLaid_523 (lv_at hl 0 rfl) ?_
      refine lv_if_eq (tgt := 612) hx hb dL_isLaid_525 (by decide) (fun c_525 => ?_) (fun c_525 => ?_)
      · have hf := (if_pos c_525).symm.trans hf
        refine lv_iconst (v := 0) hx hb dL_isLaid_612 (by decide) ?_
        have hq := Option.some.inj hf
        rw [hQ]; exact W.zret (v := 0) hx hb hr rfl (fun t ht hW => ⟨⟨0, M, rfl, ⟨hq, rfl⟩, by dsimp only; rw [ht]; exact hO⟩, hS.F ht⟩) hS.2.2 dL_isLaid_613
      have hf := (if_neg c_525).symm.trans hf
      refine lv_iload_n hx hb dL_isLaid_528 rfl (lv_at hl 6 rfl) ?_
      refine lv_aload_n hx hb dL_isLaid_529 rfl (lv_at hl 7 rfl) ?_
      refine lv_bipush (v := 6) hx hb dL_isLaid_530 (by decide) ?_
      refine ob_calli (va_runV (As := [.int 6]) (rest := [.int i2_90]) ⟨hx, hb, hml, hown, hts⟩ (a_X5_count l dC dI cI cJ cZ cO tL tH tF h0 a_o M 6 ) (cwV 1 hts gL_isLaid_X5_count rfl rfl rfl (by decide +kernel) ⟨Nat.le_of_ble_eq_true rfl, Nat.le_of_ble_eq_true rfl⟩) (ob_preV hK hST hz hS hO) rfl rfl hl.1 rfl (lv_room (Nat.le_of_ble_eq_true rfl)) dL_isLaid_532 ⟨Nat.le_of_ble_eq_true rfl, Nat.le_of_ble_eq_true rfl⟩) hS (fun H locs hO hS => ?_)
      refine lv_icmp_ne (tgt := 612) hx hb dL_isLaid_535 (by decide) (fun c_535 => ?_) (fun c_535 => ?_)
      · have hf := (if_neg c_535).symm.trans hf
        refine lv_iconst (v := 0) hx hb dL_isLaid_612 (by decide) ?_
        have hq := Option.some.inj hf
        rw [hQ]; exact W.zret (v := 0) hx hb hr rfl (fun t ht hW => ⟨⟨0, M, rfl, ⟨hq, rfl⟩, by dsimp only; rw [ht]; exact hO⟩, hS.F ht⟩) hS.2.2 dL_isLaid_613
      have hf := (if_pos c_535).symm.trans hf
      refine lv_iload_n hx hb dL_isLaid_538 rfl (lv_at hl 5 rfl) ?_
      refine lv_aload_n hx hb dL_isLaid_539 rfl (lv_at hl 7 rfl) ?_
      refine lv_bipush (v := 7) hx hb dL_isLaid_540 (by decide) ?_
      refine ob_calli (va_runV (As := [.int 7]) (rest := [.int i3_90]) ⟨hx, hb, hml, hown, hts⟩ (a_X5_count l dC dI cI cJ cZ cO tL tH tF h0 a_o M 7 ) (cwV 1 hts gL_isLaid_X5_count rfl rfl rfl (by decide +kernel) ⟨Nat.le_of_ble_eq_true rfl, Nat.le_of_ble_eq_true rfl⟩) (ob_preV hK hST hz hS hO) rfl rfl hl.1 rfl (lv_room (Nat.le_of_ble_eq_true rfl)) dL_isLaid_542 ⟨Nat.le_of_ble_eq_true rfl, Nat.le_of_ble_eq_true rfl⟩) hS (fun H locs hO hS => ?_)
      refine lv_icmp_ne (tgt := 612) hx hb dL_isLaid_545 (by decide) (fun c_545 => ?_) (fun c_545 => ?_)
      · have hf := (if_neg c_545).symm.trans hf
        refine lv_iconst (v := 0) hx hb dL_isLaid_612 (by decide) ?_
        have hq := Option.some.inj hf
        rw [hQ]; exact W.zret (v := 0) hx hb hr rfl (fun t ht hW => ⟨⟨0, M, rfl, ⟨hq, rfl⟩, by dsimp only; rw [ht]; exact hO⟩, hS.F ht⟩) hS.2.2 dL_isLaid_613
      have hf := (if_pos c_545).symm.trans hf
      refine lv_iload hx hb dL_isLaid_548 (lv_at hl 4 rfl) ?_
      refine lv_aload_n hx hb dL_isLaid_550 rfl (lv_at hl 7 rfl) ?_
      refine lv_iconst (v := 3) hx hb dL_isLaid_551 (by decide) ?_
      refine ob_calli (va_runV (As := [.int 3]) (rest := [.int i4_90]) ⟨hx, hb, hml, hown, hts⟩ (a_X5_count l dC dI cI cJ cZ cO tL tH tF h0 a_o M 3 ) (cwV 1 hts gL_isLaid_X5_count rfl rfl rfl (by decide +kernel) ⟨Nat.le_of_ble_eq_true rfl, Nat.le_of_ble_eq_true rfl⟩) (ob_preV hK hST hz hS hO) rfl rfl hl.1 rfl (lv_room (Nat.le_of_ble_eq_true rfl)) dL_isLaid_552 ⟨Nat.le_of_ble_eq_true rfl, Nat.le_of_ble_eq_true rfl⟩) hS (fun H locs hO hS => ?_)
      refine lv_icmp_ne (tgt := 612) hx hb dL_isLaid_555 (by decide) (fun c_555 => ?_) (fun c_555 => ?_)
      · have hf := (if_neg c_555).symm.trans hf
        refine lv_iconst (v := 0) hx hb dL_isLaid_612 (by decide) ?_
        have hq := Option.some.inj hf
        rw [hQ]; exact W.zret (v := 0) hx hb hr rfl (fun t ht hW => ⟨⟨0, M, rfl, ⟨hq, rfl⟩, by dsimp only; rw [ht]; exact hO⟩, hS.F ht⟩) hS.2.2 dL_isLaid_613
      have hf := (if_pos c_555).symm.trans hf
      refine lv_iload hx hb dL_isLaid_558 (lv_at hl 3 rfl) ?_
      refine lv_aload_n hx hb dL_isLaid_560 rfl (lv_at hl 7 rfl) ?_
      refine lv_bipush (v := 10) hx hb dL_isLaid_561 (by decide) ?_
      refine ob_calli (va_runV (As := [.int 10]) (rest := [.int i5_90]) ⟨hx, hb, hml, hown, hts⟩ (a_X5_count l dC dI cI cJ cZ cO tL tH tF h0 a_o M 10 ) (cwV 1 hts gL_isLaid_X5_count rfl rfl rfl (by decide +kernel) ⟨Nat.le_of_ble_eq_true rfl, Nat.le_of_ble_eq_true rfl⟩) (ob_preV hK hST hz hS hO) rfl rfl hl.1 rfl (lv_room (Nat.le_of_ble_eq_true rfl)) dL_isLaid_563 ⟨Nat.le_of_ble_eq_true rfl, Nat.le_of_ble_eq_true rfl⟩) hS (fun H locs hO hS => ?_)
      refine lv_icmp_ne (tgt := 612) hx hb dL_isLaid_566 (by decide) (fun c_566 => ?_) (fun c_566 => ?_)
      · have hf := (if_neg c_566).symm.trans hf
        refine lv_iconst (v := 0) hx hb dL_isLaid_612 (by decide) ?_
        have hq := Option.some.inj hf
        rw [hQ]; exact W.zret (v := 0) hx hb hr rfl (fun t ht hW => ⟨⟨0, M, rfl, ⟨hq, rfl⟩, by dsimp only; rw [ht]; exact hO⟩, hS.F ht⟩) hS.2.2 dL_isLaid_613
      have hf := (if_pos c_566).symm.trans hf
      refine lv_iload hx hb dL_isLaid_569 (lv_at hl 2 rfl) ?_
      refine lv_aload_n hx hb dL_isLaid_571 rfl (lv_at hl 7 rfl) ?_
      refine lv_bipush (v := 12) hx hb dL_isLaid_572 (by decide) ?_
      refine ob_calli (va_runV (As := [.int 12]) (rest := [.int i6_90]) ⟨hx, hb, hml, hown, hts⟩ (a_X5_count l dC dI cI cJ cZ cO tL tH tF h0 a_o M 12 ) (cwV 1 hts gL_isLaid_X5_count rfl rfl rfl (by decide +kernel) ⟨Nat.le_of_ble_eq_true rfl, Nat.le_of_ble_eq_true rfl⟩) (ob_preV hK hST hz hS hO) rfl rfl hl.1 rfl (lv_room (Nat.le_of_ble_eq_true rfl)) dL_isLaid_574 ⟨Nat.le_of_ble_eq_true rfl, Nat.le_of_ble_eq_true rfl⟩) hS (fun H locs hO hS => ?_)
      refine lv_icmp_ne (tgt := 612) hx hb dL_isLaid_577 (by decide) (fun c_577 => ?_) (fun c_577 => ?_)
      · have hf := (if_neg c_577).symm.trans hf
        refine lv_iconst (v := 0) hx hb dL_isLaid_612 (by decide) ?_
        have hq := Option.some.inj hf
        rw [hQ]; exact W.zret (v := 0) hx hb hr rfl (fun t ht hW => ⟨⟨0, M, rfl, ⟨hq, rfl⟩, by dsimp only; rw [ht]; exact hO⟩, hS.F ht⟩) hS.2.2 dL_isLaid_613
      have hf := (if_pos c_577).symm.trans hf
      refine lv_iload hx hb dL_isLaid_580 (lv_at hl 1 rfl) ?_
      refine lv_aload_n hx hb dL_isLaid_582 rfl (lv_at hl 7 rfl) ?_
      refine lv_bipush (v := 9) hx hb dL_isLaid_583 (by decide) ?_
      refine ob_calli (va_runV (As := [.int 9]) (rest := [.int i7_90]) ⟨hx, hb, hml, hown, hts⟩ (a_X5_count l dC dI cI cJ cZ cO tL tH tF h0 a_o M 9 ) (cwV 1 hts gL_isLaid_X5_count rfl rfl rfl (by decide +kernel) ⟨Nat.le_of_ble_eq_true rfl, Nat.le_of_ble_eq_true rfl⟩) (ob_preV hK hST hz hS hO) rfl rfl hl.1 rfl (lv_room (Nat.le_of_ble_eq_true rfl)) dL_isLaid_585 ⟨Nat.le_of_ble_eq_true rfl, Nat.le_of_ble_eq_true rfl⟩) hS (fun H locs hO hS => ?_)
      refine lv_icmp_ne (tgt := 612) hx hb dL_isLaid_588 (by decide) (fun c_588 => ?_) (fun c_588 => ?_)
      · have hf := (if_neg c_588).symm.trans hf
        refine lv_iconst (v := 0) hx hb dL_isLaid_612 (by decide) ?_
        have hq := Option.some.inj hf
        rw [hQ]; exact W.zret (v := 0) hx hb hr rfl (fun t ht hW => ⟨⟨0, M, rfl, ⟨hq, rfl⟩, by dsimp only; rw [ht]; exact hO⟩, hS.F ht⟩) hS.2.2 dL_isLaid_613
      have hf := (if_pos c_588).symm.trans hf
      refine lv_iload hx hb dL_isLaid_591 (lv_at hl 1 rfl) ?_
      refine lv_iconst (v := 1) hx hb dL_isLaid_593 (by decide) ?_
      refine lv_icmp_eq (tgt := 608) hx hb dL_isLaid_594 (by decide) (fun c_594 => ?_) (fun c_594 => ?_)
      · have hf := (if_pos c_594).symm.trans hf
        refine lv_iconst (v := 1) hx hb dL_isLaid_608 (by decide) ?_
        refine lv_goto (tgt := 613) hx hb dL_isLaid_609 (by decide) ?_
        have hq := Option.some.inj hf
        rw [hQ]; exact W.zret (v := 1) hx hb hr rfl (fun t ht hW => ⟨⟨1, M, rfl, ⟨hq, rfl⟩, by dsimp only; rw [ht]; exact hO⟩, hS.F ht⟩) hS.2.2 dL_isLaid_613
      have hf := (if_neg c_594).symm.trans hf
      refine lv_aload_n hx hb dL_isLaid_597 rfl (lv_at hl 7 rfl) ?_
      refine lv_bipush (v := 8) hx hb dL_isLaid_598 (by decide) ?_
      refine ob_calli (va_runV (As := [.int 8]) (rest := []) ⟨hx, hb, hml, hown, hts⟩ (a_X5_count l dC dI cI cJ cZ cO tL tH tF h0 a_o M 8 ) (cwV 1 hts gL_isLaid_X5_count rfl rfl rfl (by decide +kernel) ⟨Nat.le_of_ble_eq_true rfl, Nat.le_of_ble_eq_true rfl⟩) (ob_preV hK hST hz hS hO) rfl rfl hl.1 rfl (lv_room (Nat.le_of_ble_eq_true rfl)) dL_isLaid_600 ⟨Nat.le_of_ble_eq_true rfl, Nat.le_of_ble_eq_true rfl⟩) hS (fun H locs hO hS => ?_)
      refine lv_bipush (v := 10) hx hb dL_isLaid_603 (by decide) ?_
      refine lv_icmp_ne (tgt := 612) hx hb dL_isLaid_605 (by decide) (fun c_605 => ?_) (fun c_605 => ?_)
      · have hf := (if_neg c_605).symm.trans hf
        refine lv_iconst (v := 0) hx hb dL_isLaid_612 (by decide) ?_
        have hq := Option.some.inj hf
        rw [hQ]; exact W.zret (v := 0) hx hb hr rfl (fun t ht hW => ⟨⟨0, M, rfl, ⟨hq, rfl⟩, by dsimp only; rw [ht]; exact hO⟩, hS.F ht⟩) hS.2.2 dL_isLaid_613
      have hf := (if_pos c_605).symm.trans hf
      refine lv_iconst (v := 1) hx hb dL_isLaid_608 (by decide) ?_
      refine lv_goto (tgt := 613) hx hb dL_isLaid_609 (by decide) ?_
      have hq := Option.some.inj hf
      rw [hQ]; exact W.zret (v := 1) hx hb hr rfl (fun t ht hW => ⟨⟨1, M, rfl, ⟨hq, rfl⟩, by dsimp only; rw [ht]; exact hO⟩, hS.F ht⟩) hS.2.2 dL_isLaid_613
    have lp_90 : ∀ (i1_90 : Int32) (K : Int32 → Int32 → Int32 → Int32 → Int32 → Int32 → Int32 → Int32 → Option (Int32)) (hk : ∀ (i9_90 : Int32) (i8_90 : Int32) (i7_90 : Int32) (i6_90 : Int32) (i5_90 : Int32) (i4_90 : Int32) (i3_90 : Int32) (i2_90 : Int32) (H : Heap) (locs : List Loc) (ls : Array Slot) (hf : K i9_90 i8_90 i7_90 i6_90 i5_90 i4_90 i3_90 i2_90 = some res) (hO : OBJ dC dI cI cJ cZ cO h0 a_o M H) (hS : va_S (oA0 h0) s.heap H locs) (hl : lv_has ls 14 [(8, .int i8_90), (7, .int i7_90), (6, .int i6_90), (5, .int i5_90), (4, .int i4_90), (3, .int i3_90), (2, .int i2_90), (0, .ref a_o)]), W p l e (headSpec wsL_isLaid rm_L_isLaid).room s m ([.ref a_o] : List Value).toArray below meth c H locs 0 0 Q (F0 m 523 ls [])) (n : Nat) (i9_90 : Int32) (i8_90 : Int32) (i7_90 : Int32) (i6_90 : Int32) (i5_90 : Int32) (i4_90 : Int32) (i3_90 : Int32) (i2_90 : Int32) (H : Heap) (locs : List Loc) (ls : Array Slot) (hf : L_L_isLaid_90 K M i1_90 n i9_90 i8_90 i7_90 i6_90 i5_90 i4_90 i3_90 i2_90 = some res) (hO : OBJ dC dI cI cJ cZ cO h0 a_o M H) (hS : va_S (oA0 h0) s.heap H locs) (hl : lv_has ls 14 [(9, .int i9_90), (8, .int i8_90), (7, .int i7_90), (6, .int i6_90), (5, .int i5_90), (4, .int i4_90), (3, .int i3_90), (2, .int i2_90), (1, .int i1_90), (0, .ref a_o)]), W p l e (headSpec wsL_isLaid rm_L_isLaid).room s m ([.ref a_o] : List Value).toArray below meth c H locs 0 0 Q (F0 m 90 ls []) := by
      intro i1_90 K hk n
      induction n with
      | zero => intro i9_90 i8_90 i7_90 i6_90 i5_90 i4_90 i3_90 i2_90 H locs ls hf hO hS hl; exact absurd ((L_L_isLaid_90_0 _ _ _ _ _ _ _ _ _ _ _).symm.trans hf) (by simp)
      | succ n ih =>
        intro i9_90 i8_90 i7_90 i6_90 i5_90 i4_90 i3_90 i2_90 H locs ls hf hO hS hl
        have hf := (L_L_isLaid_90_s _ _ _ _ _ _ _ _ _ _ _ _).symm.trans hf
        refine lv_iload hx hb dL_isLaid_90 (lv_at hl 0 rfl) ?_
        refine lv_iload_n hx hb dL_isLaid_92 rfl (lv_at hl 8 rfl) ?_
        refine lv_icmp_ge (tgt := 523) hx hb dL_isLaid_93 (by decide) (fun c_93 => ?_) (fun c_93 => ?_)
        · have hf := (if_pos c_93).symm.trans hf
          exact hk i9_90 i8_90 i7_90 i6_90 i5_90 i4_90 i3_90 i2_90 _ _ ls hf hO hS (lv_sub hl [1, 2, 3, 4, 5, 6, 7, 9] rfl)
        have hf := (if_neg c_93).symm.trans hf
        refine lv_iload hx hb dL_isLaid_96 (lv_at hl 1 rfl) ?_
        refine lv_if_eq (tgt := 523) hx hb dL_isLaid_98 (by decide) (fun c_98 => ?_) (fun c_98 => ?_)
        · have hf := (if_pos c_98).symm.trans hf
          exact hk i9_90 i8_90 i7_90 i6_90 i5_90 i4_90 i3_90 i2_90 _ _ ls hf hO hS (lv_sub hl [1, 2, 3, 4, 5, 6, 7, 9] rfl)
        have hf := (if_neg c_98).symm.trans hf
        refine lv_aload_n hx hb dL_isLaid_101 rfl (lv_at hl 9 rfl) ?_
        refine lv_iload hx hb dL_isLaid_102 (lv_at hl 0 rfl) ?_
        refine lv_iconst (v := 0) hx hb dL_isLaid_104 (by decide) ?_
        refine ob_calli (va_runV (As := [.int i9_90, .int 0]) (rest := []) ⟨hx, hb, hml, hown, hts⟩ (a_X5_page l dC dI cI cJ cZ cO tL tH tF h0 a_o M i9_90 0 ) (cwV 2 hts gL_isLaid_X5_page rfl rfl rfl (by decide +kernel) ⟨Nat.le_of_ble_eq_true rfl, Nat.le_of_ble_eq_true rfl⟩) (ob_preV hK hST hz hS hO) rfl rfl hl.1 rfl (lv_room (Nat.le_of_ble_eq_true rfl)) dL_isLaid_105 ⟨Nat.le_of_ble_eq_true rfl, Nat.le_of_ble_eq_true rfl⟩) hS (fun H locs hO hS => ?_)
        refine lv_istore (lv' := [(10, .int (aPage M i9_90 0)), (9, .int i9_90), (8, .int i8_90), (7, .int i7_90), (6, .int i6_90), (5, .int i5_90), (4, .int i4_90), (3, .int i3_90), (2, .int i2_90), (1, .int i1_90), (0, .ref a_o)]) hx hb dL_isLaid_108 hl (by decide) rfl (fun ls hl => ?_)
        refine lv_aload_n hx hb dL_isLaid_110 rfl (lv_at hl 10 rfl) ?_
        refine lv_iload hx hb dL_isLaid_111 (lv_at hl 1 rfl) ?_
        refine lv_iconst (v := 1) hx hb dL_isLaid_113 (by decide) ?_
        refine ob_calli (va_runV (As := [.int i9_90, .int 1]) (rest := []) ⟨hx, hb, hml, hown, hts⟩ (a_X5_page l dC dI cI cJ cZ cO tL tH tF h0 a_o M i9_90 1 ) (cwV 2 hts gL_isLaid_X5_page rfl rfl rfl (by decide +kernel) ⟨Nat.le_of_ble_eq_true rfl, Nat.le_of_ble_eq_true rfl⟩) (ob_preV hK hST hz hS hO) rfl rfl hl.1 rfl (lv_room (Nat.le_of_ble_eq_true rfl)) dL_isLaid_114 ⟨Nat.le_of_ble_eq_true rfl, Nat.le_of_ble_eq_true rfl⟩) hS (fun H locs hO hS => ?_)
        refine lv_istore (lv' := [(11, .int (aPage M i9_90 1)), (10, .int (aPage M i9_90 0)), (9, .int i9_90), (8, .int i8_90), (7, .int i7_90), (6, .int i6_90), (5, .int i5_90), (4, .int i4_90), (3, .int i3_90), (2, .int i2_90), (1, .int i1_90), (0, .ref a_o)]) hx hb dL_isLaid_117 hl (by decide) rfl (fun ls hl => ?_)
        refine lv_aload_n hx hb dL_isLaid_119 rfl (lv_at hl 11 rfl) ?_
        refine lv_iload hx hb dL_isLaid_120 (lv_at hl 2 rfl) ?_
        refine lv_iconst (v := 5) hx hb dL_isLaid_122 (by decide) ?_
        refine ob_calli (va_runV (As := [.int i9_90, .int 5]) (rest := []) ⟨hx, hb, hml, hown, hts⟩ (a_X5_page l dC dI cI cJ cZ cO tL tH tF h0 a_o M i9_90 5 ) (cwV 2 hts gL_isLaid_X5_page rfl rfl rfl (by decide +kernel) ⟨Nat.le_of_ble_eq_true rfl, Nat.le_of_ble_eq_true rfl⟩) (ob_preV hK hST hz hS hO) rfl rfl hl.1 rfl (lv_room (Nat.le_of_ble_eq_true rfl)) dL_isLaid_123 ⟨Nat.le_of_ble_eq_true rfl, Nat.le_of_ble_eq_true rfl⟩) hS (fun H locs hO hS => ?_)
        refine lv_istore (lv' := [(12, .int (aPage M i9_90 5)), (11, .int (aPage M i9_90 1)), (10, .int (aPage M i9_90 0)), (9, .int i9_90), (8, .int i8_90), (7, .int i7_90), (6, .int i6_90), (5, .int i5_90), (4, .int i4_90), (3, .int i3_90), (2, .int i2_90), (1, .int i1_90), (0, .ref a_o)]) hx hb dL_isLaid_126 hl (by decide) rfl (fun ls hl => ?_)
        refine lv_aload_n hx hb dL_isLaid_128 rfl (lv_at hl 12 rfl) ?_
        refine lv_iload hx hb dL_isLaid_129 (lv_at hl 3 rfl) ?_
        refine lv_bipush (v := 6) hx hb dL_isLaid_131 (by decide) ?_
        refine ob_calli (va_runV (As := [.int i9_90, .int 6]) (rest := []) ⟨hx, hb, hml, hown, hts⟩ (a_X5_page l dC dI cI cJ cZ cO tL tH tF h0 a_o M i9_90 6 ) (cwV 2 hts gL_isLaid_X5_page rfl rfl rfl (by decide +kernel) ⟨Nat.le_of_ble_eq_true rfl, Nat.le_of_ble_eq_true rfl⟩) (ob_preV hK hST hz hS hO) rfl rfl hl.1 rfl (lv_room (Nat.le_of_ble_eq_true rfl)) dL_isLaid_133 ⟨Nat.le_of_ble_eq_true rfl, Nat.le_of_ble_eq_true rfl⟩) hS (fun H locs hO hS => ?_)
        refine lv_istore (lv' := [(13, .int (aPage M i9_90 6)), (12, .int (aPage M i9_90 5)), (11, .int (aPage M i9_90 1)), (10, .int (aPage M i9_90 0)), (9, .int i9_90), (8, .int i8_90), (7, .int i7_90), (6, .int i6_90), (5, .int i5_90), (4, .int i4_90), (3, .int i3_90), (2, .int i2_90), (1, .int i1_90), (0, .ref a_o)]) hx hb dL_isLaid_136 hl (by decide) rfl (fun ls hl => ?_)
        refine lv_iload_n hx hb dL_isLaid_138 rfl (lv_at hl 11 rfl) ?_
        refine lv_aload_n hx hb dL_isLaid_139 rfl (lv_at hl 13 rfl) ?_
        refine lv_iload hx hb dL_isLaid_140 (lv_at hl 4 rfl) ?_
        refine lv_iconst (v := 3) hx hb dL_isLaid_142 (by decide) ?_
        refine ob_calli (va_runV (As := [.int i9_90, .int 3]) (rest := [.int i2_90]) ⟨hx, hb, hml, hown, hts⟩ (a_X5_page l dC dI cI cJ cZ cO tL tH tF h0 a_o M i9_90 3 ) (cwV 2 hts gL_isLaid_X5_page rfl rfl rfl (by decide +kernel) ⟨Nat.le_of_ble_eq_true rfl, Nat.le_of_ble_eq_true rfl⟩) (ob_preV hK hST hz hS hO) rfl rfl hl.1 rfl (lv_room (Nat.le_of_ble_eq_true rfl)) dL_isLaid_143 ⟨Nat.le_of_ble_eq_true rfl, Nat.le_of_ble_eq_true rfl⟩) hS (fun H locs hO hS => ?_)
        refine lv_iadd hx hb dL_isLaid_146 ?_
        refine lv_istore_n (lv' := [(2, .int (i2_90 + (aPage M i9_90 3))), (13, .int (aPage M i9_90 6)), (12, .int (aPage M i9_90 5)), (11, .int (aPage M i9_90 1)), (10, .int (aPage M i9_90 0)), (9, .int i9_90), (8, .int i8_90), (7, .int i7_90), (6, .int i6_90), (5, .int i5_90), (4, .int i4_90), (3, .int i3_90), (1, .int i1_90), (0, .ref a_o)]) hx hb dL_isLaid_147 rfl hl (by decide) rfl (fun ls hl => ?_)
        refine lv_iload_n hx hb dL_isLaid_148 rfl (lv_at hl 11 rfl) ?_
        refine lv_aload_n hx hb dL_isLaid_149 rfl (lv_at hl 13 rfl) ?_
        refine lv_iload hx hb dL_isLaid_150 (lv_at hl 5 rfl) ?_
        refine lv_iconst (v := 4) hx hb dL_isLaid_152 (by decide) ?_
        refine ob_calli (va_runV (As := [.int i9_90, .int 4]) (rest := [.int i3_90]) ⟨hx, hb, hml, hown, hts⟩ (a_X5_page l dC dI cI cJ cZ cO tL tH tF h0 a_o M i9_90 4 ) (cwV 2 hts gL_isLaid_X5_page rfl rfl rfl (by decide +kernel) ⟨Nat.le_of_ble_eq_true rfl, Nat.le_of_ble_eq_true rfl⟩) (ob_preV hK hST hz hS hO) rfl rfl hl.1 rfl (lv_room (Nat.le_of_ble_eq_true rfl)) dL_isLaid_153 ⟨Nat.le_of_ble_eq_true rfl, Nat.le_of_ble_eq_true rfl⟩) hS (fun H locs hO hS => ?_)
        refine lv_iadd hx hb dL_isLaid_156 ?_
        refine lv_istore_n (lv' := [(3, .int (i3_90 + (aPage M i9_90 4))), (2, .int (i2_90 + (aPage M i9_90 3))), (13, .int (aPage M i9_90 6)), (12, .int (aPage M i9_90 5)), (11, .int (aPage M i9_90 1)), (10, .int (aPage M i9_90 0)), (9, .int i9_90), (8, .int i8_90), (7, .int i7_90), (6, .int i6_90), (5, .int i5_90), (4, .int i4_90), (1, .int i1_90), (0, .ref a_o)]) hx hb dL_isLaid_157 rfl hl (by decide) rfl (fun ls hl => ?_)
        refine lv_iload hx hb dL_isLaid_158 (lv_at hl 11 rfl) ?_
        refine lv_aload_n hx hb dL_isLaid_160 rfl (lv_at hl 13 rfl) ?_
        refine lv_iload hx hb dL_isLaid_161 (lv_at hl 6 rfl) ?_
        refine lv_iconst (v := 2) hx hb dL_isLaid_163 (by decide) ?_
        refine ob_calli (va_runV (As := [.int i9_90, .int 2]) (rest := [.int i4_90]) ⟨hx, hb, hml, hown, hts⟩ (a_X5_page l dC dI cI cJ cZ cO tL tH tF h0 a_o M i9_90 2 ) (cwV 2 hts gL_isLaid_X5_page rfl rfl rfl (by decide +kernel) ⟨Nat.le_of_ble_eq_true rfl, Nat.le_of_ble_eq_true rfl⟩) (ob_preV hK hST hz hS hO) rfl rfl hl.1 rfl (lv_room (Nat.le_of_ble_eq_true rfl)) dL_isLaid_164 ⟨Nat.le_of_ble_eq_true rfl, Nat.le_of_ble_eq_true rfl⟩) hS (fun H locs hO hS => ?_)
        refine lv_iadd hx hb dL_isLaid_167 ?_
        refine lv_istore (lv' := [(4, .int (i4_90 + (aPage M i9_90 2))), (3, .int (i3_90 + (aPage M i9_90 4))), (2, .int (i2_90 + (aPage M i9_90 3))), (13, .int (aPage M i9_90 6)), (12, .int (aPage M i9_90 5)), (11, .int (aPage M i9_90 1)), (10, .int (aPage M i9_90 0)), (9, .int i9_90), (8, .int i8_90), (7, .int i7_90), (6, .int i6_90), (5, .int i5_90), (1, .int i1_90), (0, .ref a_o)]) hx hb dL_isLaid_168 hl (by decide) rfl (fun ls hl => ?_)
        refine lv_iload hx hb dL_isLaid_170 (lv_at hl 11 rfl) ?_
        refine lv_aload_n hx hb dL_isLaid_172 rfl (lv_at hl 13 rfl) ?_
        refine lv_iload hx hb dL_isLaid_173 (lv_at hl 7 rfl) ?_
        refine lv_iconst (v := 2) hx hb dL_isLaid_175 (by decide) ?_
        refine ob_calli (va_runV (As := [.int i9_90, .int 2]) (rest := [.int i5_90]) ⟨hx, hb, hml, hown, hts⟩ (a_X5_page l dC dI cI cJ cZ cO tL tH tF h0 a_o M i9_90 2 ) (cwV 2 hts gL_isLaid_X5_page rfl rfl rfl (by decide +kernel) ⟨Nat.le_of_ble_eq_true rfl, Nat.le_of_ble_eq_true rfl⟩) (ob_preV hK hST hz hS hO) rfl rfl hl.1 rfl (lv_room (Nat.le_of_ble_eq_true rfl)) dL_isLaid_176 ⟨Nat.le_of_ble_eq_true rfl, Nat.le_of_ble_eq_true rfl⟩) hS (fun H locs hO hS => ?_)
        have jp_187 : ∀ (s0_187 : Int32) (H : Heap) (locs : List Loc) (ls : Array Slot) (hf : J_L_isLaid_187 (fun (i9_90 : Int32) (i8_90 : Int32) (i7_90 : Int32) (i6_90 : Int32) (i5_90 : Int32) (i4_90 : Int32) (i3_90 : Int32) (i2_90 : Int32) => L_L_isLaid_90 K M i1_90 n i9_90 i8_90 i7_90 i6_90 i5_90 i4_90 i3_90 i2_90) M i9_90 i7_90 i6_90 i5_90 i4_90 i3_90 i2_90 s0_187 = some res) (hO : OBJ dC dI cI cJ cZ cO h0 a_o M H) (hS : va_S (oA0 h0) s.heap H locs) (hl : lv_has ls 14 [(4, .int (i4_90 + (aPage M i9_90 2))), (3, .int (i3_90 + (aPage M i9_90 4))), (2, .int (i2_90 + (aPage M i9_90 3))), (13, .int (aPage M i9_90 6)), (12, .int (aPage M i9_90 5)), (11, .int (aPage M i9_90 1)), (10, .int (aPage M i9_90 0)), (9, .int i9_90), (7, .int i7_90), (6, .int i6_90), (1, .int i1_90), (0, .ref a_o)]), W p l e (headSpec wsL_isLaid rm_L_isLaid).room s m ([.ref a_o] : List Value).toArray below meth c H locs 0 0 Q (F0 m 187 ls [.int s0_187, .int i5_90]) := by
          intro s0_187 H locs ls hf hO hS hl
          unfold J_L_isLaid_187 at hf
          refine lv_iadd hx hb dL_isLaid_187 ?_
          refine lv_istore (lv' := [(5, .int (i5_90 + s0_187)), (4, .int (i4_90 + (aPage M i9_90 2))), (3, .int (i3_90 + (aPage M i9_90 4))), (2, .int (i2_90 + (aPage M i9_90 3))), (13, .int (aPage M i9_90 6)), (12, .int (aPage M i9_90 5)), (11, .int (aPage M i9_90 1)), (10, .int (aPage M i9_90 0)), (9, .int i9_90), (7, .int i7_90), (6, .int i6_90), (1, .int i1_90), (0, .ref a_o)]) hx hb dL_isLaid_188 hl (by decide) rfl (fun ls hl => ?_)
          refine lv_iload hx hb dL_isLaid_190 (lv_at hl 10 rfl) ?_
          refine lv_iload hx hb dL_isLaid_192 (lv_at hl 5 rfl) ?_
          refine lv_iconst (v := 2) hx hb dL_isLaid_194 (by decide) ?_
          have jp_203 : ∀ (s0_203 : Int32) (H : Heap) (locs : List Loc) (ls : Array Slot) (hf : J_L_isLaid_203 (fun (i9_90 : Int32) (i8_90 : Int32) (i7_90 : Int32) (i6_90 : Int32) (i5_90 : Int32) (i4_90 : Int32) (i3_90 : Int32) (i2_90 : Int32) => L_L_isLaid_90 K M i1_90 n i9_90 i8_90 i7_90 i6_90 i5_90 i4_90 i3_90 i2_90) M i9_90 i7_90 i6_90 i5_90 i4_90 i3_90 i2_90 s0_187 s0_203 = some res) (hO : OBJ dC dI cI cJ cZ cO h0 a_o M H) (hS : va_S (oA0 h0) s.heap H locs) (hl : lv_has ls 14 [(5, .int (i5_90 + s0_187)), (4, .int (i4_90 + (aPage M i9_90 2))), (3, .int (i3_90 + (aPage M i9_90 4))), (2, .int (i2_90 + (aPage M i9_90 3))), (13, .int (aPage M i9_90 6)), (12, .int (aPage M i9_90 5)), (11, .int (aPage M i9_90 1)), (10, .int (aPage M i9_90 0)), (9, .int i9_90), (7, .int i7_90), (1, .int i1_90), (0, .ref a_o)]), W p l e (headSpec wsL_isLaid rm_L_isLaid).room s m ([.ref a_o] : List Value).toArray below meth c H locs 0 0 Q (F0 m 203 ls [.int s0_203, .int i6_90]) := by
            intro s0_203 H locs ls hf hO hS hl
            unfold J_L_isLaid_203 at hf
            refine lv_iadd hx hb dL_isLaid_203 ?_
            refine lv_istore (lv' := [(6, .int (i6_90 + s0_203)), (5, .int (i5_90 + s0_187)), (4, .int (i4_90 + (aPage M i9_90 2))), (3, .int (i3_90 + (aPage M i9_90 4))), (2, .int (i2_90 + (aPage M i9_90 3))), (13, .int (aPage M i9_90 6)), (12, .int (aPage M i9_90 5)), (11, .int (aPage M i9_90 1)), (10, .int (aPage M i9_90 0)), (9, .int i9_90), (7, .int i7_90), (1, .int i1_90), (0, .ref a_o)]) hx hb dL_isLaid_204 hl (by decide) rfl (fun ls hl => ?_)
            refine lv_iload hx hb dL_isLaid_206 (lv_at hl 5 rfl) ?_
            refine lv_aload_n hx hb dL_isLaid_208 rfl (lv_at hl 12 rfl) ?_
            refine lv_iconst (v := 1) hx hb dL_isLaid_209 (by decide) ?_
            refine ob_calli (va_runV (As := [.int 1]) (rest := [.int (aPage M i9_90 6)]) ⟨hx, hb, hml, hown, hts⟩ (a_X5_count l dC dI cI cJ cZ cO tL tH tF h0 a_o M 1 ) (cwV 1 hts gL_isLaid_X5_count rfl rfl rfl (by decide +kernel) ⟨Nat.le_of_ble_eq_true rfl, Nat.le_of_ble_eq_true rfl⟩) (ob_preV hK hST hz hS hO) rfl rfl hl.1 rfl (lv_room (Nat.le_of_ble_eq_true rfl)) dL_isLaid_210 ⟨Nat.le_of_ble_eq_true rfl, Nat.le_of_ble_eq_true rfl⟩) hS (fun H locs hO hS => ?_)
            have jp_221 : ∀ (s0_221 : Int32) (H : Heap) (locs : List Loc) (ls : Array Slot) (hf : J_L_isLaid_221 (fun (i9_90 : Int32) (i8_90 : Int32) (i7_90 : Int32) (i6_90 : Int32) (i5_90 : Int32) (i4_90 : Int32) (i3_90 : Int32) (i2_90 : Int32) => L_L_isLaid_90 K M i1_90 n i9_90 i8_90 i7_90 i6_90 i5_90 i4_90 i3_90 i2_90) M i9_90 i7_90 i6_90 i5_90 i4_90 i3_90 i2_90 s0_187 s0_203 s0_221 = some res) (hO : OBJ dC dI cI cJ cZ cO h0 a_o M H) (hS : va_S (oA0 h0) s.heap H locs) (hl : lv_has ls 14 [(6, .int (i6_90 + s0_203)), (5, .int (i5_90 + s0_187)), (4, .int (i4_90 + (aPage M i9_90 2))), (3, .int (i3_90 + (aPage M i9_90 4))), (2, .int (i2_90 + (aPage M i9_90 3))), (13, .int (aPage M i9_90 6)), (12, .int (aPage M i9_90 5)), (11, .int (aPage M i9_90 1)), (10, .int (aPage M i9_90 0)), (9, .int i9_90), (7, .int i7_90), (1, .int i1_90), (0, .ref a_o)]), W p l e (headSpec wsL_isLaid rm_L_isLaid).room s m ([.ref a_o] : List Value).toArray below meth c H locs 0 0 Q (F0 m 221 ls [.int s0_221]) := by
              intro s0_221 H locs ls hf hO hS hl
              unfold J_L_isLaid_221 at hf
              refine lv_iload hx hb dL_isLaid_221 (lv_at hl 6 rfl) ?_
              have jp_232 : ∀ (s0_232 : Int32) (H : Heap) (locs : List Loc) (ls : Array Slot) (hf : J_L_isLaid_232 (fun (i9_90 : Int32) (i8_90 : Int32) (i7_90 : Int32) (i6_90 : Int32) (i5_90 : Int32) (i4_90 : Int32) (i3_90 : Int32) (i2_90 : Int32) => L_L_isLaid_90 K M i1_90 n i9_90 i8_90 i7_90 i6_90 i5_90 i4_90 i3_90 i2_90) M i9_90 i6_90 i5_90 i4_90 i3_90 i2_90 s0_187 s0_203 s0_232 = some res) (hO : OBJ dC dI cI cJ cZ cO h0 a_o M H) (hS : va_S (oA0 h0) s.heap H locs) (hl : lv_has ls 14 [(6, .int (i6_90 + s0_203)), (5, .int (i5_90 + s0_187)), (4, .int (i4_90 + (aPage M i9_90 2))), (3, .int (i3_90 + (aPage M i9_90 4))), (2, .int (i2_90 + (aPage M i9_90 3))), (13, .int (aPage M i9_90 6)), (12, .int (aPage M i9_90 5)), (11, .int (aPage M i9_90 1)), (10, .int (aPage M i9_90 0)), (9, .int i9_90), (1, .int i1_90), (0, .ref a_o)]), W p l e (headSpec wsL_isLaid rm_L_isLaid).room s m ([.ref a_o] : List Value).toArray below meth c H locs 0 0 Q (F0 m 232 ls [.int s0_232]) := by
                intro s0_232 H locs ls hf hO hS hl
                unfold J_L_isLaid_232 at hf
                refine lv_istore (lv' := [(7, .int s0_232), (6, .int (i6_90 + s0_203)), (5, .int (i5_90 + s0_187)), (4, .int (i4_90 + (aPage M i9_90 2))), (3, .int (i3_90 + (aPage M i9_90 4))), (2, .int (i2_90 + (aPage M i9_90 3))), (13, .int (aPage M i9_90 6)), (12, .int (aPage M i9_90 5)), (11, .int (aPage M i9_90 1)), (10, .int (aPage M i9_90 0)), (9, .int i9_90), (1, .int i1_90), (0, .ref a_o)]) hx hb dL_isLaid_232 hl (by decide) rfl (fun ls hl => ?_)
                refine lv_iload hx hb dL_isLaid_234 (lv_at hl 9 rfl) ?_
                refine lv_iload hx hb dL_isLaid_236 (lv_at hl 8 rfl) ?_
                have jp_420 : ∀ (s0_420 : Int32) (H : Heap) (locs : List Loc) (ls : Array Slot) (hf : J_L_isLaid_420 (fun (i9_90 : Int32) (i8_90 : Int32) (i7_90 : Int32) (i6_90 : Int32) (i5_90 : Int32) (i4_90 : Int32) (i3_90 : Int32) (i2_90 : Int32) => L_L_isLaid_90 K M i1_90 n i9_90 i8_90 i7_90 i6_90 i5_90 i4_90 i3_90 i2_90) M i9_90 i6_90 i5_90 i4_90 i3_90 i2_90 s0_187 s0_203 s0_232 s0_420 = some res) (hO : OBJ dC dI cI cJ cZ cO h0 a_o M H) (hS : va_S (oA0 h0) s.heap H locs) (hl : lv_has ls 14 [(7, .int s0_232), (6, .int (i6_90 + s0_203)), (5, .int (i5_90 + s0_187)), (4, .int (i4_90 + (aPage M i9_90 2))), (3, .int (i3_90 + (aPage M i9_90 4))), (2, .int (i2_90 + (aPage M i9_90 3))), (11, .int (aPage M i9_90 1)), (10, .int (aPage M i9_90 0)), (9, .int i9_90), (1, .int i1_90), (0, .ref a_o)]), W p l e (headSpec wsL_isLaid rm_L_isLaid).room s m ([.ref a_o] : List Value).toArray below meth c H locs 0 0 Q (F0 m 420 ls [.int s0_420]) := by
                  intro s0_420 H locs ls hf hO hS hl
                  unfold J_L_isLaid_420 at hf
                  refine lv_istore (lv' := [(8, .int s0_420), (7, .int s0_232), (6, .int (i6_90 + s0_203)), (5, .int (i5_90 + s0_187)), (4, .int (i4_90 + (aPage M i9_90 2))), (3, .int (i3_90 + (aPage M i9_90 4))), (2, .int (i2_90 + (aPage M i9_90 3))), (11, .int (aPage M i9_90 1)), (10, .int (aPage M i9_90 0)), (9, .int i9_90), (1, .int i1_90), (0, .ref a_o)]) hx hb dL_isLaid_420 hl (by decide) rfl (fun ls hl => ?_)
                  refine lv_iload hx hb dL_isLaid_422 (lv_at hl 0 rfl) ?_
                  refine lv_if_eq (tgt := 514) hx hb dL_isLaid_424 (by decide) (fun c_424 => ?_) (fun c_424 => ?_)
                  · have hf := (if_pos c_424).symm.trans hf
                    refine lv_iconst (v := 0) hx hb dL_isLaid_514 (by decide) ?_
                    refine lv_istore (lv' := [(8, .int 0), (7, .int s0_232), (6, .int (i6_90 + s0_203)), (5, .int (i5_90 + s0_187)), (4, .int (i4_90 + (aPage M i9_90 2))), (3, .int (i3_90 + (aPage M i9_90 4))), (2, .int (i2_90 + (aPage M i9_90 3))), (11, .int (aPage M i9_90 1)), (10, .int (aPage M i9_90 0)), (9, .int i9_90), (1, .int i1_90), (0, .ref a_o)]) hx hb dL_isLaid_515 hl (by decide) rfl (fun ls hl => ?_)
                    refine lv_iinc (v := (i9_90 + 1)) (lv' := [(9, .int (i9_90 + 1)), (8, .int 0), (7, .int s0_232), (6, .int (i6_90 + s0_203)), (5, .int (i5_90 + s0_187)), (4, .int (i4_90 + (aPage M i9_90 2))), (3, .int (i3_90 + (aPage M i9_90 4))), (2, .int (i2_90 + (aPage M i9_90 3))), (11, .int (aPage M i9_90 1)), (10, .int (aPage M i9_90 0)), (1, .int i1_90), (0, .ref a_o)]) hx hb dL_isLaid_517 hl (k := 9) rfl rfl (by decide) rfl (fun ls hl => ?_)
                    refine lv_goto (tgt := 90) hx hb dL_isLaid_520 (by decide) ?_
                    exact ih (i9_90 + 1) 0 s0_232 (i6_90 + s0_203) (i5_90 + s0_187) (i4_90 + (aPage M i9_90 2)) (i3_90 + (aPage M i9_90 4)) (i2_90 + (aPage M i9_90 3)) _ _ ls hf hO hS (lv_sub hl [0, 1, 2, 3, 4, 5, 6, 7, 10, 11] rfl)
                  have hf := (if_neg c_424).symm.trans hf
                  refine lv_aload_n hx hb dL_isLaid_427 rfl (lv_at hl 11 rfl) ?_
                  refine lv_iload hx hb dL_isLaid_428 (lv_at hl 8 rfl) ?_
                  refine lv_iconst (v := 1) hx hb dL_isLaid_430 (by decide) ?_
                  refine ob_calli (va_runV (As := [.int (aPage M i9_90 0), .int 1]) (rest := []) ⟨hx, hb, hml, hown, hts⟩ (a_X5_entry l dC dI cI cJ cZ cO tL tH tF h0 a_o M (aPage M i9_90 0) 1 ) (cwV 2 hts gL_isLaid_X5_entry rfl rfl rfl (by decide +kernel) ⟨Nat.le_of_ble_eq_true rfl, Nat.le_of_ble_eq_true rfl⟩) (ob_preV hK hST hz hS hO) rfl rfl hl.1 rfl (lv_room (Nat.le_of_ble_eq_true rfl)) dL_isLaid_431 ⟨Nat.le_of_ble_eq_true rfl, Nat.le_of_ble_eq_true rfl⟩) hS (fun H locs hO hS => ?_)
                  refine lv_iload hx hb dL_isLaid_434 (lv_at hl 9 rfl) ?_
                  refine lv_icmp_gt (tgt := 514) hx hb dL_isLaid_436 (by decide) (fun c_436 => ?_) (fun c_436 => ?_)
                  · have hf := (if_pos c_436).symm.trans hf
                    refine lv_iconst (v := 0) hx hb dL_isLaid_514 (by decide) ?_
                    refine lv_istore (lv' := [(8, .int 0), (7, .int s0_232), (6, .int (i6_90 + s0_203)), (5, .int (i5_90 + s0_187)), (4, .int (i4_90 + (aPage M i9_90 2))), (3, .int (i3_90 + (aPage M i9_90 4))), (2, .int (i2_90 + (aPage M i9_90 3))), (11, .int (aPage M i9_90 1)), (10, .int (aPage M i9_90 0)), (9, .int i9_90), (1, .int i1_90), (0, .ref a_o)]) hx hb dL_isLaid_515 hl (by decide) rfl (fun ls hl => ?_)
                    refine lv_iinc (v := (i9_90 + 1)) (lv' := [(9, .int (i9_90 + 1)), (8, .int 0), (7, .int s0_232), (6, .int (i6_90 + s0_203)), (5, .int (i5_90 + s0_187)), (4, .int (i4_90 + (aPage M i9_90 2))), (3, .int (i3_90 + (aPage M i9_90 4))), (2, .int (i2_90 + (aPage M i9_90 3))), (11, .int (aPage M i9_90 1)), (10, .int (aPage M i9_90 0)), (1, .int i1_90), (0, .ref a_o)]) hx hb dL_isLaid_517 hl (k := 9) rfl rfl (by decide) rfl (fun ls hl => ?_)
                    refine lv_goto (tgt := 90) hx hb dL_isLaid_520 (by decide) ?_
                    exact ih (i9_90 + 1) 0 s0_232 (i6_90 + s0_203) (i5_90 + s0_187) (i4_90 + (aPage M i9_90 2)) (i3_90 + (aPage M i9_90 4)) (i2_90 + (aPage M i9_90 3)) _ _ ls hf hO hS (lv_sub hl [0, 1, 2, 3, 4, 5, 6, 7, 10, 11] rfl)
                  have hf := (if_neg c_436).symm.trans hf
                  refine lv_aload_n hx hb dL_isLaid_439 rfl (lv_at hl 11 rfl) ?_
                  refine lv_iload hx hb dL_isLaid_440 (lv_at hl 8 rfl) ?_
                  refine lv_iconst (v := 3) hx hb dL_isLaid_442 (by decide) ?_
                  refine ob_calli (va_runV (As := [.int (aPage M i9_90 0), .int 3]) (rest := []) ⟨hx, hb, hml, hown, hts⟩ (a_X5_entry l dC dI cI cJ cZ cO tL tH tF h0 a_o M (aPage M i9_90 0) 3 ) (cwV 2 hts gL_isLaid_X5_entry rfl rfl rfl (by decide +kernel) ⟨Nat.le_of_ble_eq_true rfl, Nat.le_of_ble_eq_true rfl⟩) (ob_preV hK hST hz hS hO) rfl rfl hl.1 rfl (lv_room (Nat.le_of_ble_eq_true rfl)) dL_isLaid_443 ⟨Nat.le_of_ble_eq_true rfl, Nat.le_of_ble_eq_true rfl⟩) hS (fun H locs hO hS => ?_)
                  refine lv_iload hx hb dL_isLaid_446 (lv_at hl 9 rfl) ?_
                  refine lv_icmp_lt (tgt := 514) hx hb dL_isLaid_448 (by decide) (fun c_448 => ?_) (fun c_448 => ?_)
                  · have hf := (if_pos c_448).symm.trans hf
                    refine lv_iconst (v := 0) hx hb dL_isLaid_514 (by decide) ?_
                    refine lv_istore (lv' := [(8, .int 0), (7, .int s0_232), (6, .int (i6_90 + s0_203)), (5, .int (i5_90 + s0_187)), (4, .int (i4_90 + (aPage M i9_90 2))), (3, .int (i3_90 + (aPage M i9_90 4))), (2, .int (i2_90 + (aPage M i9_90 3))), (11, .int (aPage M i9_90 1)), (10, .int (aPage M i9_90 0)), (9, .int i9_90), (1, .int i1_90), (0, .ref a_o)]) hx hb dL_isLaid_515 hl (by decide) rfl (fun ls hl => ?_)
                    refine lv_iinc (v := (i9_90 + 1)) (lv' := [(9, .int (i9_90 + 1)), (8, .int 0), (7, .int s0_232), (6, .int (i6_90 + s0_203)), (5, .int (i5_90 + s0_187)), (4, .int (i4_90 + (aPage M i9_90 2))), (3, .int (i3_90 + (aPage M i9_90 4))), (2, .int (i2_90 + (aPage M i9_90 3))), (11, .int (aPage M i9_90 1)), (10, .int (aPage M i9_90 0)), (1, .int i1_90), (0, .ref a_o)]) hx hb dL_isLaid_517 hl (k := 9) rfl rfl (by decide) rfl (fun ls hl => ?_)
                    refine lv_goto (tgt := 90) hx hb dL_isLaid_520 (by decide) ?_
                    exact ih (i9_90 + 1) 0 s0_232 (i6_90 + s0_203) (i5_90 + s0_187) (i4_90 + (aPage M i9_90 2)) (i3_90 + (aPage M i9_90 4)) (i2_90 + (aPage M i9_90 3)) _ _ ls hf hO hS (lv_sub hl [0, 1, 2, 3, 4, 5, 6, 7, 10, 11] rfl)
                  have hf := (if_neg c_448).symm.trans hf
                  refine lv_aload_n hx hb dL_isLaid_451 rfl (lv_at hl 11 rfl) ?_
                  refine lv_iload hx hb dL_isLaid_452 (lv_at hl 7 rfl) ?_
                  refine lv_iconst (v := 1) hx hb dL_isLaid_454 (by decide) ?_
                  refine ob_calli (va_runV (As := [.int (aPage M i9_90 1), .int 1]) (rest := []) ⟨hx, hb, hml, hown, hts⟩ (a_X5_entry l dC dI cI cJ cZ cO tL tH tF h0 a_o M (aPage M i9_90 1) 1 ) (cwV 2 hts gL_isLaid_X5_entry rfl rfl rfl (by decide +kernel) ⟨Nat.le_of_ble_eq_true rfl, Nat.le_of_ble_eq_true rfl⟩) (ob_preV hK hST hz hS hO) rfl rfl hl.1 rfl (lv_room (Nat.le_of_ble_eq_true rfl)) dL_isLaid_455 ⟨Nat.le_of_ble_eq_true rfl, Nat.le_of_ble_eq_true rfl⟩) hS (fun H locs hO hS => ?_)
                  refine lv_iload hx hb dL_isLaid_458 (lv_at hl 9 rfl) ?_
                  refine lv_icmp_gt (tgt := 514) hx hb dL_isLaid_460 (by decide) (fun c_460 => ?_) (fun c_460 => ?_)
                  · have hf := (if_pos c_460).symm.trans hf
                    refine lv_iconst (v := 0) hx hb dL_isLaid_514 (by decide) ?_
                    refine lv_istore (lv' := [(8, .int 0), (7, .int s0_232), (6, .int (i6_90 + s0_203)), (5, .int (i5_90 + s0_187)), (4, .int (i4_90 + (aPage M i9_90 2))), (3, .int (i3_90 + (aPage M i9_90 4))), (2, .int (i2_90 + (aPage M i9_90 3))), (11, .int (aPage M i9_90 1)), (10, .int (aPage M i9_90 0)), (9, .int i9_90), (1, .int i1_90), (0, .ref a_o)]) hx hb dL_isLaid_515 hl (by decide) rfl (fun ls hl => ?_)
                    refine lv_iinc (v := (i9_90 + 1)) (lv' := [(9, .int (i9_90 + 1)), (8, .int 0), (7, .int s0_232), (6, .int (i6_90 + s0_203)), (5, .int (i5_90 + s0_187)), (4, .int (i4_90 + (aPage M i9_90 2))), (3, .int (i3_90 + (aPage M i9_90 4))), (2, .int (i2_90 + (aPage M i9_90 3))), (11, .int (aPage M i9_90 1)), (10, .int (aPage M i9_90 0)), (1, .int i1_90), (0, .ref a_o)]) hx hb dL_isLaid_517 hl (k := 9) rfl rfl (by decide) rfl (fun ls hl => ?_)
                    refine lv_goto (tgt := 90) hx hb dL_isLaid_520 (by decide) ?_
                    exact ih (i9_90 + 1) 0 s0_232 (i6_90 + s0_203) (i5_90 + s0_187) (i4_90 + (aPage M i9_90 2)) (i3_90 + (aPage M i9_90 4)) (i2_90 + (aPage M i9_90 3)) _ _ ls hf hO hS (lv_sub hl [0, 1, 2, 3, 4, 5, 6, 7, 10, 11] rfl)
                  have hf := (if_neg c_460).symm.trans hf
                  refine lv_aload_n hx hb dL_isLaid_463 rfl (lv_at hl 11 rfl) ?_
                  refine lv_iload hx hb dL_isLaid_464 (lv_at hl 7 rfl) ?_
                  refine lv_iconst (v := 3) hx hb dL_isLaid_466 (by decide) ?_
                  refine ob_calli (va_runV (As := [.int (aPage M i9_90 1), .int 3]) (rest := []) ⟨hx, hb, hml, hown, hts⟩ (a_X5_entry l dC dI cI cJ cZ cO tL tH tF h0 a_o M (aPage M i9_90 1) 3 ) (cwV 2 hts gL_isLaid_X5_entry rfl rfl rfl (by decide +kernel) ⟨Nat.le_of_ble_eq_true rfl, Nat.le_of_ble_eq_true rfl⟩) (ob_preV hK hST hz hS hO) rfl rfl hl.1 rfl (lv_room (Nat.le_of_ble_eq_true rfl)) dL_isLaid_467 ⟨Nat.le_of_ble_eq_true rfl, Nat.le_of_ble_eq_true rfl⟩) hS (fun H locs hO hS => ?_)
                  refine lv_iload hx hb dL_isLaid_470 (lv_at hl 9 rfl) ?_
                  refine lv_icmp_lt (tgt := 514) hx hb dL_isLaid_472 (by decide) (fun c_472 => ?_) (fun c_472 => ?_)
                  · have hf := (if_pos c_472).symm.trans hf
                    refine lv_iconst (v := 0) hx hb dL_isLaid_514 (by decide) ?_
                    refine lv_istore (lv' := [(8, .int 0), (7, .int s0_232), (6, .int (i6_90 + s0_203)), (5, .int (i5_90 + s0_187)), (4, .int (i4_90 + (aPage M i9_90 2))), (3, .int (i3_90 + (aPage M i9_90 4))), (2, .int (i2_90 + (aPage M i9_90 3))), (11, .int (aPage M i9_90 1)), (10, .int (aPage M i9_90 0)), (9, .int i9_90), (1, .int i1_90), (0, .ref a_o)]) hx hb dL_isLaid_515 hl (by decide) rfl (fun ls hl => ?_)
                    refine lv_iinc (v := (i9_90 + 1)) (lv' := [(9, .int (i9_90 + 1)), (8, .int 0), (7, .int s0_232), (6, .int (i6_90 + s0_203)), (5, .int (i5_90 + s0_187)), (4, .int (i4_90 + (aPage M i9_90 2))), (3, .int (i3_90 + (aPage M i9_90 4))), (2, .int (i2_90 + (aPage M i9_90 3))), (11, .int (aPage M i9_90 1)), (10, .int (aPage M i9_90 0)), (1, .int i1_90), (0, .ref a_o)]) hx hb dL_isLaid_517 hl (k := 9) rfl rfl (by decide) rfl (fun ls hl => ?_)
                    refine lv_goto (tgt := 90) hx hb dL_isLaid_520 (by decide) ?_
                    exact ih (i9_90 + 1) 0 s0_232 (i6_90 + s0_203) (i5_90 + s0_187) (i4_90 + (aPage M i9_90 2)) (i3_90 + (aPage M i9_90 4)) (i2_90 + (aPage M i9_90 3)) _ _ ls hf hO hS (lv_sub hl [0, 1, 2, 3, 4, 5, 6, 7, 10, 11] rfl)
                  have hf := (if_neg c_472).symm.trans hf
                  refine lv_iload hx hb dL_isLaid_475 (lv_at hl 9 rfl) ?_
                  refine lv_if_eq (tgt := 510) hx hb dL_isLaid_477 (by decide) (fun c_477 => ?_) (fun c_477 => ?_)
                  · have hf := (if_pos c_477).symm.trans hf
                    refine lv_iconst (v := 1) hx hb dL_isLaid_510 (by decide) ?_
                    refine lv_goto (tgt := 515) hx hb dL_isLaid_511 (by decide) ?_
                    refine lv_istore (lv' := [(8, .int 1), (7, .int s0_232), (6, .int (i6_90 + s0_203)), (5, .int (i5_90 + s0_187)), (4, .int (i4_90 + (aPage M i9_90 2))), (3, .int (i3_90 + (aPage M i9_90 4))), (2, .int (i2_90 + (aPage M i9_90 3))), (11, .int (aPage M i9_90 1)), (10, .int (aPage M i9_90 0)), (9, .int i9_90), (1, .int i1_90), (0, .ref a_o)]) hx hb dL_isLaid_515 hl (by decide) rfl (fun ls hl => ?_)
                    refine lv_iinc (v := (i9_90 + 1)) (lv' := [(9, .int (i9_90 + 1)), (8, .int 1), (7, .int s0_232), (6, .int (i6_90 + s0_203)), (5, .int (i5_90 + s0_187)), (4, .int (i4_90 + (aPage M i9_90 2))), (3, .int (i3_90 + (aPage M i9_90 4))), (2, .int (i2_90 + (aPage M i9_90 3))), (11, .int (aPage M i9_90 1)), (10, .int (aPage M i9_90 0)), (1, .int i1_90), (0, .ref a_o)]) hx hb dL_isLaid_517 hl (k := 9) rfl rfl (by decide) rfl (fun ls hl => ?_)
                    refine lv_goto (tgt := 90) hx hb dL_isLaid_520 (by decide) ?_
                    exact ih (i9_90 + 1) 1 s0_232 (i6_90 + s0_203) (i5_90 + s0_187) (i4_90 + (aPage M i9_90 2)) (i3_90 + (aPage M i9_90 4)) (i2_90 + (aPage M i9_90 3)) _ _ ls hf hO hS (lv_sub hl [0, 1, 2, 3, 4, 5, 6, 7, 10, 11] rfl)
                  have hf := (if_neg c_477).symm.trans hf
                  refine lv_iload hx hb dL_isLaid_480 (lv_at hl 8 rfl) ?_
                  refine lv_aload_n hx hb dL_isLaid_482 rfl (lv_at hl 11 rfl) ?_
                  refine lv_iload hx hb dL_isLaid_483 (lv_at hl 9 rfl) ?_
                  refine lv_iconst (v := 1) hx hb dL_isLaid_485 (by decide) ?_
                  refine lv_isub hx hb dL_isLaid_486 ?_
                  refine lv_iconst (v := 1) hx hb dL_isLaid_487 (by decide) ?_
                  refine ob_calli (va_runV (As := [.int (i9_90 - 1), .int 1]) (rest := [.int (aPage M i9_90 0)]) ⟨hx, hb, hml, hown, hts⟩ (a_X5_page l dC dI cI cJ cZ cO tL tH tF h0 a_o M (i9_90 - 1) 1 ) (cwV 2 hts gL_isLaid_X5_page rfl rfl rfl (by decide +kernel) ⟨Nat.le_of_ble_eq_true rfl, Nat.le_of_ble_eq_true rfl⟩) (ob_preV hK hST hz hS hO) rfl rfl hl.1 rfl (lv_room (Nat.le_of_ble_eq_true rfl)) dL_isLaid_488 ⟨Nat.le_of_ble_eq_true rfl, Nat.le_of_ble_eq_true rfl⟩) hS (fun H locs hO hS => ?_)
                  refine lv_icmp_eq (tgt := 510) hx hb dL_isLaid_491 (by decide) (fun c_491 => ?_) (fun c_491 => ?_)
                  · have hf := (if_pos c_491).symm.trans hf
                    refine lv_iconst (v := 1) hx hb dL_isLaid_510 (by decide) ?_
                    refine lv_goto (tgt := 515) hx hb dL_isLaid_511 (by decide) ?_
                    refine lv_istore (lv' := [(8, .int 1), (7, .int s0_232), (6, .int (i6_90 + s0_203)), (5, .int (i5_90 + s0_187)), (4, .int (i4_90 + (aPage M i9_90 2))), (3, .int (i3_90 + (aPage M i9_90 4))), (2, .int (i2_90 + (aPage M i9_90 3))), (11, .int (aPage M i9_90 1)), (10, .int (aPage M i9_90 0)), (9, .int i9_90), (1, .int i1_90), (0, .ref a_o)]) hx hb dL_isLaid_515 hl (by decide) rfl (fun ls hl => ?_)
                    refine lv_iinc (v := (i9_90 + 1)) (lv' := [(9, .int (i9_90 + 1)), (8, .int 1), (7, .int s0_232), (6, .int (i6_90 + s0_203)), (5, .int (i5_90 + s0_187)), (4, .int (i4_90 + (aPage M i9_90 2))), (3, .int (i3_90 + (aPage M i9_90 4))), (2, .int (i2_90 + (aPage M i9_90 3))), (11, .int (aPage M i9_90 1)), (10, .int (aPage M i9_90 0)), (1, .int i1_90), (0, .ref a_o)]) hx hb dL_isLaid_517 hl (k := 9) rfl rfl (by decide) rfl (fun ls hl => ?_)
                    refine lv_goto (tgt := 90) hx hb dL_isLaid_520 (by decide) ?_
                    exact ih (i9_90 + 1) 1 s0_232 (i6_90 + s0_203) (i5_90 + s0_187) (i4_90 + (aPage M i9_90 2)) (i3_90 + (aPage M i9_90 4)) (i2_90 + (aPage M i9_90 3)) _ _ ls hf hO hS (lv_sub hl [0, 1, 2, 3, 4, 5, 6, 7, 10, 11] rfl)
                  have hf := (if_neg c_491).symm.trans hf
                  refine lv_iload hx hb dL_isLaid_494 (lv_at hl 8 rfl) ?_
                  refine lv_aload_n hx hb dL_isLaid_496 rfl (lv_at hl 11 rfl) ?_
                  refine lv_iload hx hb dL_isLaid_497 (lv_at hl 9 rfl) ?_
                  refine lv_iconst (v := 1) hx hb dL_isLaid_499 (by decide) ?_
                  refine lv_isub hx hb dL_isLaid_500 ?_
                  refine lv_iconst (v := 1) hx hb dL_isLaid_501 (by decide) ?_
                  refine ob_calli (va_runV (As := [.int (i9_90 - 1), .int 1]) (rest := [.int (aPage M i9_90 0)]) ⟨hx, hb, hml, hown, hts⟩ (a_X5_page l dC dI cI cJ cZ cO tL tH tF h0 a_o M (i9_90 - 1) 1 ) (cwV 2 hts gL_isLaid_X5_page rfl rfl rfl (by decide +kernel) ⟨Nat.le_of_ble_eq_true rfl, Nat.le_of_ble_eq_true rfl⟩) (ob_preV hK hST hz hS hO) rfl rfl hl.1 rfl (lv_room (Nat.le_of_ble_eq_true rfl)) dL_isLaid_502 ⟨Nat.le_of_ble_eq_true rfl, Nat.le_of_ble_eq_true rfl⟩) hS (fun H locs hO hS => ?_)
                  refine lv_iconst (v := 1) hx hb dL_isLaid_505 (by decide) ?_
                  refine lv_iadd hx hb dL_isLaid_506 ?_
                  refine lv_icmp_ne (tgt := 514) hx hb dL_isLaid_507 (by decide) (fun c_507 => ?_) (fun c_507 => ?_)
                  · have hf := (if_neg c_507).symm.trans hf
                    refine lv_iconst (v := 0) hx hb dL_isLaid_514 (by decide) ?_
                    refine lv_istore (lv' := [(8, .int 0), (7, .int s0_232), (6, .int (i6_90 + s0_203)), (5, .int (i5_90 + s0_187)), (4, .int (i4_90 + (aPage M i9_90 2))), (3, .int (i3_90 + (aPage M i9_90 4))), (2, .int (i2_90 + (aPage M i9_90 3))), (11, .int (aPage M i9_90 1)), (10, .int (aPage M i9_90 0)), (9, .int i9_90), (1, .int i1_90), (0, .ref a_o)]) hx hb dL_isLaid_515 hl (by decide) rfl (fun ls hl => ?_)
                    refine lv_iinc (v := (i9_90 + 1)) (lv' := [(9, .int (i9_90 + 1)), (8, .int 0), (7, .int s0_232), (6, .int (i6_90 + s0_203)), (5, .int (i5_90 + s0_187)), (4, .int (i4_90 + (aPage M i9_90 2))), (3, .int (i3_90 + (aPage M i9_90 4))), (2, .int (i2_90 + (aPage M i9_90 3))), (11, .int (aPage M i9_90 1)), (10, .int (aPage M i9_90 0)), (1, .int i1_90), (0, .ref a_o)]) hx hb dL_isLaid_517 hl (k := 9) rfl rfl (by decide) rfl (fun ls hl => ?_)
                    refine lv_goto (tgt := 90) hx hb dL_isLaid_520 (by decide) ?_
                    exact ih (i9_90 + 1) 0 s0_232 (i6_90 + s0_203) (i5_90 + s0_187) (i4_90 + (aPage M i9_90 2)) (i3_90 + (aPage M i9_90 4)) (i2_90 + (aPage M i9_90 3)) _ _ ls hf hO hS (lv_sub hl [0, 1, 2, 3, 4, 5, 6, 7, 10, 11] rfl)
                  have hf := (if_pos c_507).symm.trans hf
                  refine lv_iconst (v := 1) hx hb dL_isLaid_510 (by decide) ?_
                  refine lv_goto (tgt := 515) hx hb dL_isLaid_511 (by decide) ?_
                  refine lv_istore (lv' := [(8, .int 1), (7, .int s0_232), (6, .int (i6_90 + s0_203)), (5, .int (i5_90 + s0_187)), (4, .int (i4_90 + (aPage M i9_90 2))), (3, .int (i3_90 + (aPage M i9_90 4))), (2, .int (i2_90 + (aPage M i9_90 3))), (11, .int (aPage M i9_90 1)), (10, .int (aPage M i9_90 0)), (9, .int i9_90), (1, .int i1_90), (0, .ref a_o)]) hx hb dL_isLaid_515 hl (by decide) rfl (fun ls hl => ?_)
                  refine lv_iinc (v := (i9_90 + 1)) (lv' := [(9, .int (i9_90 + 1)), (8, .int 1), (7, .int s0_232), (6, .int (i6_90 + s0_203)), (5, .int (i5_90 + s0_187)), (4, .int (i4_90 + (aPage M i9_90 2))), (3, .int (i3_90 + (aPage M i9_90 4))), (2, .int (i2_90 + (aPage M i9_90 3))), (11, .int (aPage M i9_90 1)), (10, .int (aPage M i9_90 0)), (1, .int i1_90), (0, .ref a_o)]) hx hb dL_isLaid_517 hl (k := 9) rfl rfl (by decide) rfl (fun ls hl => ?_)
                  refine lv_goto (tgt := 90) hx hb dL_isLaid_520 (by decide) ?_
                  exact ih (i9_90 + 1) 1 s0_232 (i6_90 + s0_203) (i5_90 + s0_187) (i4_90 + (aPage M i9_90 2)) (i3_90 + (aPage M i9_90 4)) (i2_90 + (aPage M i9_90 3)) _ _ ls hf hO hS (lv_sub hl [0, 1, 2, 3, 4, 5, 6, 7, 10, 11] rfl)
                have jp_419 : ∀ (H : Heap) (locs : List Loc) (ls : Array Slot) (hf : J_L_isLaid_419 (fun (i9_90 : Int32) (i8_90 : Int32) (i7_90 : Int32) (i6_90 : Int32) (i5_90 : Int32) (i4_90 : Int32) (i3_90 : Int32) (i2_90 : Int32) => L_L_isLaid_90 K M i1_90 n i9_90 i8_90 i7_90 i6_90 i5_90 i4_90 i3_90 i2_90) M i9_90 i6_90 i5_90 i4_90 i3_90 i2_90 s0_187 s0_203 s0_232 = some res) (hO : OBJ dC dI cI cJ cZ cO h0 a_o M H) (hS : va_S (oA0 h0) s.heap H locs) (hl : lv_has ls 14 [(7, .int s0_232), (6, .int (i6_90 + s0_203)), (5, .int (i5_90 + s0_187)), (4, .int (i4_90 + (aPage M i9_90 2))), (3, .int (i3_90 + (aPage M i9_90 4))), (2, .int (i2_90 + (aPage M i9_90 3))), (11, .int (aPage M i9_90 1)), (10, .int (aPage M i9_90 0)), (9, .int i9_90), (1, .int i1_90), (0, .ref a_o)]), W p l e (headSpec wsL_isLaid rm_L_isLaid).room s m ([.ref a_o] : List Value).toArray below meth c H locs 0 0 Q (F0 m 419 ls []) := by
                  intro H locs ls hf hO hS hl
                  unfold J_L_isLaid_419 at hf
                  refine lv_iconst (v := 0) hx hb dL_isLaid_419 (by decide) ?_
                  exact jp_420 0 _ _ ls hf hO hS (lv_sub hl [0, 1, 2, 3, 4, 5, 6, 7, 8, 9, 10] rfl)
                refine lv_icmp_gt (tgt := 419) hx hb dL_isLaid_238 (by decide) (fun c_238 => ?_) (fun c_238 => ?_)
                · have hf := (if_pos c_238).symm.trans hf
                  exact jp_419 _ _ ls hf hO hS (lv_sub hl [0, 1, 2, 3, 4, 5, 8, 9, 10, 11, 12] rfl)
                have hf := (if_neg c_238).symm.trans hf
                refine lv_iload hx hb dL_isLaid_241 (lv_at hl 9 rfl) ?_
                refine lv_if_lt (tgt := 419) hx hb dL_isLaid_243 (by decide) (fun c_243 => ?_) (fun c_243 => ?_)
                · have hf := (if_pos c_243).symm.trans hf
                  exact jp_419 _ _ ls hf hO hS (lv_sub hl [0, 1, 2, 3, 4, 5, 8, 9, 10, 11, 12] rfl)
                have hf := (if_neg c_243).symm.trans hf
                refine lv_iload hx hb dL_isLaid_246 (lv_at hl 7 rfl) ?_
                refine lv_if_le (tgt := 419) hx hb dL_isLaid_248 (by decide) (fun c_248 => ?_) (fun c_248 => ?_)
                · have hf := (if_pos c_248).symm.trans hf
                  exact jp_419 _ _ ls hf hO hS (lv_sub hl [0, 1, 2, 3, 4, 5, 8, 9, 10, 11, 12] rfl)
                have hf := (if_neg c_248).symm.trans hf
                refine lv_iload hx hb dL_isLaid_251 (lv_at hl 7 rfl) ?_
                refine lv_iconst (v := 3) hx hb dL_isLaid_253 (by decide) ?_
                refine lv_icmp_ge (tgt := 419) hx hb dL_isLaid_254 (by decide) (fun c_254 => ?_) (fun c_254 => ?_)
                · have hf := (if_pos c_254).symm.trans hf
                  exact jp_419 _ _ ls hf hO hS (lv_sub hl [0, 1, 2, 3, 4, 5, 8, 9, 10, 11, 12] rfl)
                have hf := (if_neg c_254).symm.trans hf
                refine lv_aload_n hx hb dL_isLaid_257 rfl (lv_at hl 12 rfl) ?_
                refine lv_iload hx hb dL_isLaid_258 (lv_at hl 10 rfl) ?_
                refine lv_iconst (v := 3) hx hb dL_isLaid_260 (by decide) ?_
                refine ob_calli (va_runV (As := [.int i9_90, .int 3]) (rest := []) ⟨hx, hb, hml, hown, hts⟩ (a_X5_page l dC dI cI cJ cZ cO tL tH tF h0 a_o M i9_90 3 ) (cwV 2 hts gL_isLaid_X5_page rfl rfl rfl (by decide +kernel) ⟨Nat.le_of_ble_eq_true rfl, Nat.le_of_ble_eq_true rfl⟩) (ob_preV hK hST hz hS hO) rfl rfl hl.1 rfl (lv_room (Nat.le_of_ble_eq_true rfl)) dL_isLaid_261 ⟨Nat.le_of_ble_eq_true rfl, Nat.le_of_ble_eq_true rfl⟩) hS (fun H locs hO hS => ?_)
                refine lv_if_le (tgt := 419) hx hb dL_isLaid_264 (by decide) (fun c_264 => ?_) (fun c_264 => ?_)
                · have hf := (if_pos c_264).symm.trans hf
                  exact jp_419 _ _ ls hf hO hS (lv_sub hl [0, 1, 2, 3, 4, 5, 8, 9, 10, 11, 12] rfl)
                have hf := (if_neg c_264).symm.trans hf
                refine lv_aload_n hx hb dL_isLaid_267 rfl (lv_at hl 12 rfl) ?_
                refine lv_iload hx hb dL_isLaid_268 (lv_at hl 10 rfl) ?_
                refine lv_iconst (v := 4) hx hb dL_isLaid_270 (by decide) ?_
                refine ob_calli (va_runV (As := [.int i9_90, .int 4]) (rest := []) ⟨hx, hb, hml, hown, hts⟩ (a_X5_page l dC dI cI cJ cZ cO tL tH tF h0 a_o M i9_90 4 ) (cwV 2 hts gL_isLaid_X5_page rfl rfl rfl (by decide +kernel) ⟨Nat.le_of_ble_eq_true rfl, Nat.le_of_ble_eq_true rfl⟩) (ob_preV hK hST hz hS hO) rfl rfl hl.1 rfl (lv_room (Nat.le_of_ble_eq_true rfl)) dL_isLaid_271 ⟨Nat.le_of_ble_eq_true rfl, Nat.le_of_ble_eq_true rfl⟩) hS (fun H locs hO hS => ?_)
                refine lv_if_lt (tgt := 419) hx hb dL_isLaid_274 (by decide) (fun c_274 => ?_) (fun c_274 => ?_)
                · have hf := (if_pos c_274).symm.trans hf
                  exact jp_419 _ _ ls hf hO hS (lv_sub hl [0, 1, 2, 3, 4, 5, 8, 9, 10, 11, 12] rfl)
                have hf := (if_neg c_274).symm.trans hf
                refine lv_aload_n hx hb dL_isLaid_277 rfl (lv_at hl 12 rfl) ?_
                refine lv_iload hx hb dL_isLaid_278 (lv_at hl 10 rfl) ?_
                refine lv_iconst (v := 3) hx hb dL_isLaid_280 (by decide) ?_
                refine ob_calli (va_runV (As := [.int i9_90, .int 3]) (rest := []) ⟨hx, hb, hml, hown, hts⟩ (a_X5_page l dC dI cI cJ cZ cO tL tH tF h0 a_o M i9_90 3 ) (cwV 2 hts gL_isLaid_X5_page rfl rfl rfl (by decide +kernel) ⟨Nat.le_of_ble_eq_true rfl, Nat.le_of_ble_eq_true rfl⟩) (ob_preV hK hST hz hS hO) rfl rfl hl.1 rfl (lv_room (Nat.le_of_ble_eq_true rfl)) dL_isLaid_281 ⟨Nat.le_of_ble_eq_true rfl, Nat.le_of_ble_eq_true rfl⟩) hS (fun H locs hO hS => ?_)
                refine lv_aload_n hx hb dL_isLaid_284 rfl (lv_at hl 12 rfl) ?_
                refine lv_iload hx hb dL_isLaid_285 (lv_at hl 10 rfl) ?_
                refine lv_iconst (v := 4) hx hb dL_isLaid_287 (by decide) ?_
                refine ob_calli (va_runV (As := [.int i9_90, .int 4]) (rest := [.int (aPage M i9_90 3)]) ⟨hx, hb, hml, hown, hts⟩ (a_X5_page l dC dI cI cJ cZ cO tL tH tF h0 a_o M i9_90 4 ) (cwV 2 hts gL_isLaid_X5_page rfl rfl rfl (by decide +kernel) ⟨Nat.le_of_ble_eq_true rfl, Nat.le_of_ble_eq_true rfl⟩) (ob_preV hK hST hz hS hO) rfl rfl hl.1 rfl (lv_room (Nat.le_of_ble_eq_true rfl)) dL_isLaid_288 ⟨Nat.le_of_ble_eq_true rfl, Nat.le_of_ble_eq_true rfl⟩) hS (fun H locs hO hS => ?_)
                refine lv_iadd hx hb dL_isLaid_291 ?_
                refine lv_iload hx hb dL_isLaid_292 (lv_at hl 7 rfl) ?_
                refine lv_iadd hx hb dL_isLaid_294 ?_
                refine lv_aload_n hx hb dL_isLaid_295 rfl (lv_at hl 12 rfl) ?_
                refine lv_iconst (v := 0) hx hb dL_isLaid_296 (by decide) ?_
                refine ob_calli (va_runV (As := [.int 0]) (rest := [.int (((aPage M i9_90 3) + (aPage M i9_90 4)) + (aPage M i9_90 5))]) ⟨hx, hb, hml, hown, hts⟩ (a_X5_count l dC dI cI cJ cZ cO tL tH tF h0 a_o M 0 ) (cwV 1 hts gL_isLaid_X5_count rfl rfl rfl (by decide +kernel) ⟨Nat.le_of_ble_eq_true rfl, Nat.le_of_ble_eq_true rfl⟩) (ob_preV hK hST hz hS hO) rfl rfl hl.1 rfl (lv_room (Nat.le_of_ble_eq_true rfl)) dL_isLaid_297 ⟨Nat.le_of_ble_eq_true rfl, Nat.le_of_ble_eq_true rfl⟩) hS (fun H locs hO hS => ?_)
                refine lv_icmp_ne (tgt := 419) hx hb dL_isLaid_300 (by decide) (fun c_300 => ?_) (fun c_300 => ?_)
                · have hf := (if_neg c_300).symm.trans hf
                  exact jp_419 _ _ ls hf hO hS (lv_sub hl [0, 1, 2, 3, 4, 5, 8, 9, 10, 11, 12] rfl)
                have hf := (if_pos c_300).symm.trans hf
                refine lv_iload hx hb dL_isLaid_303 (lv_at hl 6 rfl) ?_
                refine lv_aload_n hx hb dL_isLaid_305 rfl (lv_at hl 12 rfl) ?_
                refine lv_iload hx hb dL_isLaid_306 (lv_at hl 9 rfl) ?_
                refine lv_iconst (v := 5) hx hb dL_isLaid_308 (by decide) ?_
                refine ob_calli (va_runV (As := [.int (aPage M i9_90 0), .int 5]) (rest := [.int (aPage M i9_90 6)]) ⟨hx, hb, hml, hown, hts⟩ (a_X5_entry l dC dI cI cJ cZ cO tL tH tF h0 a_o M (aPage M i9_90 0) 5 ) (cwV 2 hts gL_isLaid_X5_entry rfl rfl rfl (by decide +kernel) ⟨Nat.le_of_ble_eq_true rfl, Nat.le_of_ble_eq_true rfl⟩) (ob_preV hK hST hz hS hO) rfl rfl hl.1 rfl (lv_room (Nat.le_of_ble_eq_true rfl)) dL_isLaid_309 ⟨Nat.le_of_ble_eq_true rfl, Nat.le_of_ble_eq_true rfl⟩) hS (fun H locs hO hS => ?_)
                refine lv_iload hx hb dL_isLaid_312 (lv_at hl 9 rfl) ?_
                refine lv_iload hx hb dL_isLaid_314 (lv_at hl 8 rfl) ?_
                have jp_332 : ∀ (s0_332 : Int32) (H : Heap) (locs : List Loc) (ls : Array Slot) (hf : J_L_isLaid_332 (fun (i9_90 : Int32) (i8_90 : Int32) (i7_90 : Int32) (i6_90 : Int32) (i5_90 : Int32) (i4_90 : Int32) (i3_90 : Int32) (i2_90 : Int32) => L_L_isLaid_90 K M i1_90 n i9_90 i8_90 i7_90 i6_90 i5_90 i4_90 i3_90 i2_90) M i9_90 i6_90 i5_90 i4_90 i3_90 i2_90 s0_187 s0_203 s0_232 s0_332 = some res) (hO : OBJ dC dI cI cJ cZ cO h0 a_o M H) (hS : va_S (oA0 h0) s.heap H locs) (hl : lv_has ls 14 [(7, .int s0_232), (6, .int (i6_90 + s0_203)), (5, .int (i5_90 + s0_187)), (4, .int (i4_90 + (aPage M i9_90 2))), (3, .int (i3_90 + (aPage M i9_90 4))), (2, .int (i2_90 + (aPage M i9_90 3))), (13, .int (aPage M i9_90 6)), (11, .int (aPage M i9_90 1)), (10, .int (aPage M i9_90 0)), (9, .int i9_90), (1, .int i1_90), (0, .ref a_o)]), W p l e (headSpec wsL_isLaid rm_L_isLaid).room s m ([.ref a_o] : List Value).toArray below meth c H locs 0 0 Q (F0 m 332 ls [.int s0_332, .int (aEntry M (aPage M i9_90 0) 5), .int (aPage M i9_90 6)]) := by
                  intro s0_332 H locs ls hf hO hS hl
                  unfold J_L_isLaid_332 at hf
                  refine lv_iadd hx hb dL_isLaid_332 ?_
                  refine lv_icmp_ne (tgt := 419) hx hb dL_isLaid_333 (by decide) (fun c_333 => ?_) (fun c_333 => ?_)
                  · have hf := (if_neg c_333).symm.trans hf
                    exact jp_419 _ _ ls hf hO hS (lv_sub hl [0, 1, 2, 3, 4, 5, 7, 8, 9, 10, 11] rfl)
                  have hf := (if_pos c_333).symm.trans hf
                  refine lv_aload_n hx hb dL_isLaid_336 rfl (lv_at hl 11 rfl) ?_
                  refine lv_iload hx hb dL_isLaid_337 (lv_at hl 9 rfl) ?_
                  refine lv_bipush (v := 7) hx hb dL_isLaid_339 (by decide) ?_
                  refine ob_calli (va_runV (As := [.int i9_90, .int 7]) (rest := []) ⟨hx, hb, hml, hown, hts⟩ (a_X5_page l dC dI cI cJ cZ cO tL tH tF h0 a_o M i9_90 7 ) (cwV 2 hts gL_isLaid_X5_page rfl rfl rfl (by decide +kernel) ⟨Nat.le_of_ble_eq_true rfl, Nat.le_of_ble_eq_true rfl⟩) (ob_preV hK hST hz hS hO) rfl rfl hl.1 rfl (lv_room (Nat.le_of_ble_eq_true rfl)) dL_isLaid_341 ⟨Nat.le_of_ble_eq_true rfl, Nat.le_of_ble_eq_true rfl⟩) hS (fun H locs hO hS => ?_)
                  refine lv_aload_n hx hb dL_isLaid_344 rfl (lv_at hl 11 rfl) ?_
                  refine lv_iload hx hb dL_isLaid_345 (lv_at hl 8 rfl) ?_
                  refine lv_bipush (v := 6) hx hb dL_isLaid_347 (by decide) ?_
                  refine ob_calli (va_runV (As := [.int (aPage M i9_90 0), .int 6]) (rest := [.int (aPage M i9_90 7)]) ⟨hx, hb, hml, hown, hts⟩ (a_X5_entry l dC dI cI cJ cZ cO tL tH tF h0 a_o M (aPage M i9_90 0) 6 ) (cwV 2 hts gL_isLaid_X5_entry rfl rfl rfl (by decide +kernel) ⟨Nat.le_of_ble_eq_true rfl, Nat.le_of_ble_eq_true rfl⟩) (ob_preV hK hST hz hS hO) rfl rfl hl.1 rfl (lv_room (Nat.le_of_ble_eq_true rfl)) dL_isLaid_349 ⟨Nat.le_of_ble_eq_true rfl, Nat.le_of_ble_eq_true rfl⟩) hS (fun H locs hO hS => ?_)
                  refine lv_icmp_ne (tgt := 419) hx hb dL_isLaid_352 (by decide) (fun c_352 => ?_) (fun c_352 => ?_)
                  · have hf := (if_neg c_352).symm.trans hf
                    exact jp_419 _ _ ls hf hO hS (lv_sub hl [0, 1, 2, 3, 4, 5, 7, 8, 9, 10, 11] rfl)
                  have hf := (if_pos c_352).symm.trans hf
                  refine lv_aload_n hx hb dL_isLaid_355 rfl (lv_at hl 11 rfl) ?_
                  refine lv_iload hx hb dL_isLaid_356 (lv_at hl 9 rfl) ?_
                  refine lv_bipush (v := 6) hx hb dL_isLaid_358 (by decide) ?_
                  refine lv_iload hx hb dL_isLaid_360 (lv_at hl 6 rfl) ?_
                  refine lv_iadd hx hb dL_isLaid_362 ?_
                  refine ob_calli (va_runV (As := [.int i9_90, .int (6 + (aPage M i9_90 6))]) (rest := []) ⟨hx, hb, hml, hown, hts⟩ (a_X5_page l dC dI cI cJ cZ cO tL tH tF h0 a_o M i9_90 (6 + (aPage M i9_90 6)) ) (cwV 2 hts gL_isLaid_X5_page rfl rfl rfl (by decide +kernel) ⟨Nat.le_of_ble_eq_true rfl, Nat.le_of_ble_eq_true rfl⟩) (ob_preV hK hST hz hS hO) rfl rfl hl.1 rfl (lv_room (Nat.le_of_ble_eq_true rfl)) dL_isLaid_363 ⟨Nat.le_of_ble_eq_true rfl, Nat.le_of_ble_eq_true rfl⟩) hS (fun H locs hO hS => ?_)
                  refine lv_aload_n hx hb dL_isLaid_366 rfl (lv_at hl 11 rfl) ?_
                  refine lv_iload hx hb dL_isLaid_367 (lv_at hl 7 rfl) ?_
                  refine lv_iconst (v := 5) hx hb dL_isLaid_369 (by decide) ?_
                  refine lv_aload_n hx hb dL_isLaid_370 rfl (lv_at hl 11 rfl) ?_
                  refine lv_iload hx hb dL_isLaid_371 (lv_at hl 7 rfl) ?_
                  refine lv_iconst (v := 5) hx hb dL_isLaid_373 (by decide) ?_
                  refine ob_calli (va_runV (As := [.int (aPage M i9_90 1), .int 5]) (rest := [.int 5, .int (aPage M i9_90 1), .ref a_o, .int (aPage M i9_90 (6 + (aPage M i9_90 6)))]) ⟨hx, hb, hml, hown, hts⟩ (a_X5_entry l dC dI cI cJ cZ cO tL tH tF h0 a_o M (aPage M i9_90 1) 5 ) (cwV 2 hts gL_isLaid_X5_entry rfl rfl rfl (by decide +kernel) ⟨Nat.le_of_ble_eq_true rfl, Nat.le_of_ble_eq_true rfl⟩) (ob_preV hK hST hz hS hO) rfl rfl hl.1 rfl (lv_room (Nat.le_of_ble_eq_true rfl)) dL_isLaid_374 ⟨Nat.le_of_ble_eq_true rfl, Nat.le_of_ble_eq_true rfl⟩) hS (fun H locs hO hS => ?_)
                  refine lv_iadd hx hb dL_isLaid_377 ?_
                  refine ob_calli (va_runV (As := [.int (aPage M i9_90 1), .int (5 + (aEntry M (aPage M i9_90 1) 5))]) (rest := [.int (aPage M i9_90 (6 + (aPage M i9_90 6)))]) ⟨hx, hb, hml, hown, hts⟩ (a_X5_entry l dC dI cI cJ cZ cO tL tH tF h0 a_o M (aPage M i9_90 1) (5 + (aEntry M (aPage M i9_90 1) 5)) ) (cwV 2 hts gL_isLaid_X5_entry rfl rfl rfl (by decide +kernel) ⟨Nat.le_of_ble_eq_true rfl, Nat.le_of_ble_eq_true rfl⟩) (ob_preV hK hST hz hS hO) rfl rfl hl.1 rfl (lv_room (Nat.le_of_ble_eq_true rfl)) dL_isLaid_378 ⟨Nat.le_of_ble_eq_true rfl, Nat.le_of_ble_eq_true rfl⟩) hS (fun H locs hO hS => ?_)
                  refine lv_icmp_ne (tgt := 419) hx hb dL_isLaid_381 (by decide) (fun c_381 => ?_) (fun c_381 => ?_)
                  · have hf := (if_neg c_381).symm.trans hf
                    exact jp_419 _ _ ls hf hO hS (lv_sub hl [0, 1, 2, 3, 4, 5, 7, 8, 9, 10, 11] rfl)
                  have hf := (if_pos c_381).symm.trans hf
                  refine lv_aload_n hx hb dL_isLaid_384 rfl (lv_at hl 11 rfl) ?_
                  refine lv_iload hx hb dL_isLaid_385 (lv_at hl 9 rfl) ?_
                  refine lv_bipush (v := 7) hx hb dL_isLaid_387 (by decide) ?_
                  refine lv_iload hx hb dL_isLaid_389 (lv_at hl 6 rfl) ?_
                  refine lv_iadd hx hb dL_isLaid_391 ?_
                  refine ob_calli (va_runV (As := [.int i9_90, .int (7 + (aPage M i9_90 6))]) (rest := []) ⟨hx, hb, hml, hown, hts⟩ (a_X5_page l dC dI cI cJ cZ cO tL tH tF h0 a_o M i9_90 (7 + (aPage M i9_90 6)) ) (cwV 2 hts gL_isLaid_X5_page rfl rfl rfl (by decide +kernel) ⟨Nat.le_of_ble_eq_true rfl, Nat.le_of_ble_eq_true rfl⟩) (ob_preV hK hST hz hS hO) rfl rfl hl.1 rfl (lv_room (Nat.le_of_ble_eq_true rfl)) dL_isLaid_392 ⟨Nat.le_of_ble_eq_true rfl, Nat.le_of_ble_eq_true rfl⟩) hS (fun H locs hO hS => ?_)
                  refine lv_bipush (v := (-6)) hx hb dL_isLaid_395 (by decide) ?_
                  refine lv_icmp_ne (tgt := 419) hx hb dL_isLaid_397 (by decide) (fun c_397 => ?_) (fun c_397 => ?_)
                  · have hf := (if_neg c_397).symm.trans hf
                    exact jp_419 _ _ ls hf hO hS (lv_sub hl [0, 1, 2, 3, 4, 5, 7, 8, 9, 10, 11] rfl)
                  have hf := (if_pos c_397).symm.trans hf
                  refine lv_aload_n hx hb dL_isLaid_400 rfl (lv_at hl 11 rfl) ?_
                  refine lv_iload hx hb dL_isLaid_401 (lv_at hl 9 rfl) ?_
                  refine lv_iconst (v := 2) hx hb dL_isLaid_403 (by decide) ?_
                  refine ob_calli (va_runV (As := [.int i9_90, .int 2]) (rest := []) ⟨hx, hb, hml, hown, hts⟩ (a_X5_page l dC dI cI cJ cZ cO tL tH tF h0 a_o M i9_90 2 ) (cwV 2 hts gL_isLaid_X5_page rfl rfl rfl (by decide +kernel) ⟨Nat.le_of_ble_eq_true rfl, Nat.le_of_ble_eq_true rfl⟩) (ob_preV hK hST hz hS hO) rfl rfl hl.1 rfl (lv_room (Nat.le_of_ble_eq_true rfl)) dL_isLaid_404 ⟨Nat.le_of_ble_eq_true rfl, Nat.le_of_ble_eq_true rfl⟩) hS (fun H locs hO hS => ?_)
                  refine lv_iload hx hb dL_isLaid_407 (lv_at hl 7 rfl) ?_
                  refine lv_iload hx hb dL_isLaid_409 (lv_at hl 8 rfl) ?_
                  refine lv_isub hx hb dL_isLaid_411 ?_
                  refine lv_icmp_lt (tgt := 419) hx hb dL_isLaid_412 (by decide) (fun c_412 => ?_) (fun c_412 => ?_)
                  · have hf := (if_pos c_412).symm.trans hf
                    exact jp_419 _ _ ls hf hO hS (lv_sub hl [0, 1, 2, 3, 4, 5, 7, 8, 9, 10, 11] rfl)
                  have hf := (if_neg c_412).symm.trans hf
                  refine lv_iconst (v := 1) hx hb dL_isLaid_415 (by decide) ?_
                  refine lv_goto (tgt := 420) hx hb dL_isLaid_416 (by decide) ?_
                  exact jp_420 1 _ _ ls hf hO hS (lv_sub hl [0, 1, 2, 3, 4, 5, 7, 8, 9, 10, 11] rfl)
                refine lv_icmp_ne (tgt := 323) hx hb dL_isLaid_316 (by decide) (fun c_316 => ?_) (fun c_316 => ?_)
                · have hf := (if_neg c_316).symm.trans hf
                  refine lv_iconst (v := 1) hx hb dL_isLaid_323 (by decide) ?_
                  refine lv_aload_n hx hb dL_isLaid_324 rfl (lv_at hl 12 rfl) ?_
                  refine lv_iload hx hb dL_isLaid_325 (lv_at hl 8 rfl) ?_
                  refine lv_iconst (v := 5) hx hb dL_isLaid_327 (by decide) ?_
                  refine ob_calli (va_runV (As := [.int (aPage M i9_90 1), .int 5]) (rest := [.int 1, .int (aEntry M (aPage M i9_90 0) 5), .int (aPage M i9_90 6)]) ⟨hx, hb, hml, hown, hts⟩ (a_X5_entry l dC dI cI cJ cZ cO tL tH tF h0 a_o M (aPage M i9_90 1) 5 ) (cwV 2 hts gL_isLaid_X5_entry rfl rfl rfl (by decide +kernel) ⟨Nat.le_of_ble_eq_true rfl, Nat.le_of_ble_eq_true rfl⟩) (ob_preV hK hST hz hS hO) rfl rfl hl.1 rfl (lv_room (Nat.le_of_ble_eq_true rfl)) dL_isLaid_328 ⟨Nat.le_of_ble_eq_true rfl, Nat.le_of_ble_eq_true rfl⟩) hS (fun H locs hO hS => ?_)
                  refine lv_iadd hx hb dL_isLaid_331 ?_
                  exact jp_332 (1 + (aEntry M (aPage M i9_90 1) 5)) _ _ ls hf hO hS (lv_sub hl [0, 1, 2, 3, 4, 5, 6, 8, 9, 10, 11, 12] rfl)
                have hf := (if_pos c_316).symm.trans hf
                refine lv_iconst (v := 0) hx hb dL_isLaid_319 (by decide) ?_
                refine lv_goto (tgt := 332) hx hb dL_isLaid_320 (by decide) ?_
                exact jp_332 0 _ _ ls hf hO hS (lv_sub hl [0, 1, 2, 3, 4, 5, 6, 8, 9, 10, 11, 12] rfl)
              refine lv_icmp_ne (tgt := 231) hx hb dL_isLaid_223 (by decide) (fun c_223 => ?_) (fun c_223 => ?_)
              · have hf := (if_neg c_223).symm.trans hf
                refine lv_iconst (v := 0) hx hb dL_isLaid_231 (by decide) ?_
                exact jp_232 0 _ _ ls hf hO hS (lv_sub hl [0, 1, 2, 3, 4, 5, 6, 7, 8, 9, 11, 12] rfl)
              have hf := (if_pos c_223).symm.trans hf
              refine lv_iload hx hb dL_isLaid_226 (lv_at hl 10 rfl) ?_
              refine lv_goto (tgt := 232) hx hb dL_isLaid_228 (by decide) ?_
              exact jp_232 i7_90 _ _ ls hf hO hS (lv_sub hl [0, 1, 2, 3, 4, 5, 6, 7, 8, 9, 11, 12] rfl)
            refine lv_icmp_le (tgt := 220) hx hb dL_isLaid_213 (by decide) (fun c_213 => ?_) (fun c_213 => ?_)
            · have hf := (if_pos c_213).symm.trans hf
              refine lv_iconst (v := 1) hx hb dL_isLaid_220 (by decide) ?_
              exact jp_221 1 _ _ ls hf hO hS (lv_sub hl [0, 1, 2, 3, 4, 5, 6, 7, 8, 9, 10, 11, 12] rfl)
            have hf := (if_neg c_213).symm.trans hf
            refine lv_iconst (v := 2) hx hb dL_isLaid_216 (by decide) ?_
            refine lv_goto (tgt := 221) hx hb dL_isLaid_217 (by decide) ?_
            exact jp_221 2 _ _ ls hf hO hS (lv_sub hl [0, 1, 2, 3, 4, 5, 6, 7, 8, 9, 10, 11, 12] rfl)
          refine lv_icmp_ne (tgt := 202) hx hb dL_isLaid_195 (by decide) (fun c_195 => ?_) (fun c_195 => ?_)
          · have hf := (if_neg c_195).symm.trans hf
            refine lv_iconst (v := 0) hx hb dL_isLaid_202 (by decide) ?_
            exact jp_203 0 _ _ ls hf hO hS (lv_sub hl [0, 1, 2, 3, 4, 5, 6, 7, 8, 9, 11, 12] rfl)
          have hf := (if_pos c_195).symm.trans hf
          refine lv_iconst (v := 1) hx hb dL_isLaid_198 (by decide) ?_
          refine lv_goto (tgt := 203) hx hb dL_isLaid_199 (by decide) ?_
          exact jp_203 1 _ _ ls hf hO hS (lv_sub hl [0, 1, 2, 3, 4, 5, 6, 7, 8, 9, 11, 12] rfl)
        refine lv_if_ne (tgt := 186) hx hb dL_isLaid_179 (by decide) (fun c_179 => ?_) (fun c_179 => ?_)
        · have hf := (if_neg c_179).symm.trans hf
          refine lv_iconst (v := 0) hx hb dL_isLaid_186 (by decide) ?_
          exact jp_187 0 _ _ ls hf hO hS (lv_sub hl [0, 1, 2, 3, 4, 5, 6, 7, 9, 10, 12, 13] rfl)
        have hf := (if_pos c_179).symm.trans hf
        refine lv_iconst (v := 1) hx hb dL_isLaid_182 (by decide) ?_
        refine lv_goto (tgt := 187) hx hb dL_isLaid_183 (by decide) ?_
        exact jp_187 1 _ _ ls hf hO hS (lv_sub hl [0, 1, 2, 3, 4, 5, 6, 7, 9, 10, 12, 13] rfl)
    exact lp_90 (aCount M 4) _ hk_90 FU 0 s0_85 1 0 0 0 0 0 _ _ ls hf hO hS (lv_sub hl [0, 1, 2, 3, 4, 5, 6, 7, 8, 9] rfl)
  have jp_84 : ∀ (H : Heap) (locs : List Loc) (ls : Array Slot) (hf : J_L_isLaid_84 M = some res) (hO : OBJ dC dI cI cJ cZ cO h0 a_o M H) (hS : va_S (oA0 h0) s.heap H locs) (hl : lv_has ls 14 [(7, .int 1), (6, .int 0), (5, .int 0), (4, .int 0), (3, .int 0), (2, .int 0), (1, .int (aCount M 4)), (0, .ref a_o)]), W p l e (headSpec wsL_isLaid rm_L_isLaid).room s m ([.ref a_o] : List Value).toArray below meth c H locs 0 0 Q (F0 m 84 ls []) := by
    intro H locs ls hf hO hS hl
    unfold J_L_isLaid_84 at hf
    refine lv_iconst (v := 0) hx hb dL_isLaid_84 (by decide) ?_
    exact jp_85 0 _ _ ls hf hO hS (lv_sub hl [0, 1, 2, 3, 4, 5, 6, 7] rfl)
  refine lv_icmp_ne (tgt := 84) hx hb dL_isLaid_32 (by decide) (fun c_32 => ?_) (fun c_32 => ?_)
  · have hf := (if_neg c_32).symm.trans hf
    exact jp_84 _ _ ls hf hO hS (lv_sub hl [0, 1, 2, 3, 4, 5, 6, 7] rfl)
  have hf := (if_pos c_32).symm.trans hf
  refine lv_iload_n hx hb dL_isLaid_35 rfl (lv_at hl 6 rfl) ?_
  have jp_44 : ∀ (s0_44 : Int32) (H : Heap) (locs : List Loc) (ls : Array Slot) (hf : J_L_isLaid_44 M s0_44 = some res) (hO : OBJ dC dI cI cJ cZ cO h0 a_o M H) (hS : va_S (oA0 h0) s.heap H locs) (hl : lv_has ls 14 [(7, .int 1), (6, .int 0), (5, .int 0), (4, .int 0), (3, .int 0), (2, .int 0), (1, .int (aCount M 4)), (0, .ref a_o)]), W p l e (headSpec wsL_isLaid rm_L_isLaid).room s m ([.ref a_o] : List Value).toArray below meth c H locs 0 0 Q (F0 m 44 ls [.int s0_44]) := by
    intro s0_44 H locs ls hf hO hS hl
    unfold J_L_isLaid_44 at hf
    refine lv_aload_n hx hb dL_isLaid_44 rfl (lv_at hl 7 rfl) ?_
    refine lv_iconst (v := 3) hx hb dL_isLaid_45 (by decide) ?_
    refine ob_calli (va_runV (As := [.int 3]) (rest := [.int s0_44]) ⟨hx, hb, hml, hown, hts⟩ (a_X5_count l dC dI cI cJ cZ cO tL tH tF h0 a_o M 3 ) (cwV 1 hts gL_isLaid_X5_count rfl rfl rfl (by decide +kernel) ⟨Nat.le_of_ble_eq_true rfl, Nat.le_of_ble_eq_true rfl⟩) (ob_preV hK hST hz hS hO) rfl rfl hl.1 rfl (lv_room (Nat.le_of_ble_eq_true rfl)) dL_isLaid_46 ⟨Nat.le_of_ble_eq_true rfl, Nat.le_of_ble_eq_true rfl⟩) hS (fun H locs hO hS => ?_)
    have jp_57 : ∀ (s0_57 : Int32) (H : Heap) (locs : List Loc) (ls : Array Slot) (hf : J_L_isLaid_57 M s0_44 s0_57 = some res) (hO : OBJ dC dI cI cJ cZ cO h0 a_o M H) (hS : va_S (oA0 h0) s.heap H locs) (hl : lv_has ls 14 [(7, .int 1), (6, .int 0), (5, .int 0), (4, .int 0), (3, .int 0), (2, .int 0), (1, .int (aCount M 4)), (0, .ref a_o)]), W p l e (headSpec wsL_isLaid rm_L_isLaid).room s m ([.ref a_o] : List Value).toArray below meth c H locs 0 0 Q (F0 m 57 ls [.int s0_57, .int s0_44]) := by
      intro s0_57 H locs ls hf hO hS hl
      unfold J_L_isLaid_57 at hf
      refine lv_icmp_ne (tgt := 84) hx hb dL_isLaid_57 (by decide) (fun c_57 => ?_) (fun c_57 => ?_)
      · have hf := (if_neg c_57).symm.trans hf
        exact jp_84 _ _ ls hf hO hS (lv_sub hl [0, 1, 2, 3, 4, 5, 6, 7] rfl)
      have hf := (if_pos c_57).symm.trans hf
      refine lv_aload_n hx hb dL_isLaid_60 rfl (lv_at hl 7 rfl) ?_
      refine lv_bipush (v := 8) hx hb dL_isLaid_61 (by decide) ?_
      refine ob_calli (va_runV (As := [.int 8]) (rest := []) ⟨hx, hb, hml, hown, hts⟩ (a_X5_count l dC dI cI cJ cZ cO tL tH tF h0 a_o M 8 ) (cwV 1 hts gL_isLaid_X5_count rfl rfl rfl (by decide +kernel) ⟨Nat.le_of_ble_eq_true rfl, Nat.le_of_ble_eq_true rfl⟩) (ob_preV hK hST hz hS hO) rfl rfl hl.1 rfl (lv_room (Nat.le_of_ble_eq_true rfl)) dL_isLaid_63 ⟨Nat.le_of_ble_eq_true rfl, Nat.le_of_ble_eq_true rfl⟩) hS (fun H locs hO hS => ?_)
      refine lv_if_le (tgt := 84) hx hb dL_isLaid_66 (by decide) (fun c_66 => ?_) (fun c_66 => ?_)
      · have hf := (if_pos c_66).symm.trans hf
        exact jp_84 _ _ ls hf hO hS (lv_sub hl [0, 1, 2, 3, 4, 5, 6, 7] rfl)
      have hf := (if_neg c_66).symm.trans hf
      refine lv_aload_n hx hb dL_isLaid_69 rfl (lv_at hl 7 rfl) ?_
      refine lv_bipush (v := 8) hx hb dL_isLaid_70 (by decide) ?_
      refine ob_calli (va_runV (As := [.int 8]) (rest := []) ⟨hx, hb, hml, hown, hts⟩ (a_X5_count l dC dI cI cJ cZ cO tL tH tF h0 a_o M 8 ) (cwV 1 hts gL_isLaid_X5_count rfl rfl rfl (by decide +kernel) ⟨Nat.le_of_ble_eq_true rfl, Nat.le_of_ble_eq_true rfl⟩) (ob_preV hK hST hz hS hO) rfl rfl hl.1 rfl (lv_room (Nat.le_of_ble_eq_true rfl)) dL_isLaid_72 ⟨Nat.le_of_ble_eq_true rfl, Nat.le_of_ble_eq_true rfl⟩) hS (fun H locs hO hS => ?_)
      refine lv_bipush (v := 11) hx hb dL_isLaid_75 (by decide) ?_
      refine lv_icmp_ge (tgt := 84) hx hb dL_isLaid_77 (by decide) (fun c_77 => ?_) (fun c_77 => ?_)
      · have hf := (if_pos c_77).symm.trans hf
        exact jp_84 _ _ ls hf hO hS (lv_sub hl [0, 1, 2, 3, 4, 5, 6, 7] rfl)
      have hf := (if_neg c_77).symm.trans hf
      refine lv_iconst (v := 1) hx hb dL_isLaid_80 (by decide) ?_
      refine lv_goto (tgt := 85) hx hb dL_isLaid_81 (by decide) ?_
      exact jp_85 1 _ _ ls hf hO hS (lv_sub hl [0, 1, 2, 3, 4, 5, 6, 7] rfl)
    refine lv_if_ne (tgt := 56) hx hb dL_isLaid_49 (by decide) (fun c_49 => ?_) (fun c_49 => ?_)
    · have hf := (if_neg c_49).symm.trans hf
      refine lv_iconst (v := 0) hx hb dL_isLaid_56 (by decide) ?_
      exact jp_57 0 _ _ ls hf hO hS (lv_sub hl [0, 1, 2, 3, 4, 5, 6, 7] rfl)
    have hf := (if_pos c_49).symm.trans hf
    refine lv_iconst (v := 1) hx hb dL_isLaid_52 (by decide) ?_
    refine lv_goto (tgt := 57) hx hb dL_isLaid_53 (by decide) ?_
    exact jp_57 1 _ _ ls hf hO hS (lv_sub hl [0, 1, 2, 3, 4, 5, 6, 7] rfl)
  refine lv_if_ne (tgt := 43) hx hb dL_isLaid_36 (by decide) (fun c_36 => ?_) (fun c_36 => ?_)
  · have hf := (if_neg c_36).symm.trans hf
    refine lv_iconst (v := 0) hx hb dL_isLaid_43 (by decide) ?_
    exact jp_44 0 _ _ ls hf hO hS (lv_sub hl [0, 1, 2, 3, 4, 5, 6, 7] rfl)
  have hf := (if_pos c_36).symm.trans hf
  refine lv_iconst (v := 1) hx hb dL_isLaid_39 (by decide) ?_
  refine lv_goto (tgt := 44) hx hb dL_isLaid_40 (by decide) ?_
  exact jp_44 1 _ _ ls hf hO hS (lv_sub hl [0, 1, 2, 3, 4, 5, 6, 7] rfl)
