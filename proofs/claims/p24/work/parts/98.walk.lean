/-! the walk of the law's body -/
set_option maxHeartbeats 8000000 in
set_option maxRecDepth 100000 in
theorem law_walk {p : Program} {e : Env} {s : State} {m : MethodId} {below : List Frame} {meth : Method} {c : Code} (l : Launch) {b nL : Nat} {xs : Nat → Int32} (hL : nL ≤ 260) (C0 : lw_At p s m meth c b nL xs) {dC : Nat → ClassId} {dI : Nat → Nat → Nat} {cI cJ cZ cO : ClassId} {tL tH tF h0 a_o : Nat} (hh0 : h0 = s.heap.size) (hK : va_K (dC, dI) vwCl [(cI, .int), (cJ, .long), (cZ, .boolean), (cO, .object RX1)] s) (hST : stA tL tH tF (oA0 h0) s s.heap) (M : ObjT) (res : Int32) (hres : res = 1) (hf : f_L_law M nL xs = some res) (H : Heap) (locs : List Loc) (ls : Array Slot) (hO : OBJ dC dI cI cJ cZ cO h0 a_o M H) (hS : va_S (oA0 h0) s.heap H locs) (hl : lv_has ls 14 [(1, .ref a_o), (0, .ref b)]) : W p l e room_1 s m #[Value.ref b] below meth c H locs 600000 7302250 (lw_Z below #[Value.ref b] s) (F0 m 8 ls []) := by
  obtain ⟨hx, hb, hr, hml, hown, hts0, hX, hbl, hlocks, hgv⟩ := id C0
  have hts : ∀ w ∈ wsL_law, w.before #[Value.ref b] s = true := fun w hw => hts0 w (wsL_law_in w hw)
  have hz : h0 ≤ s.heap.size := Nat.le_of_eq hh0
  have hbA : ¬ oA0 h0 b := fun h => absurd hbl (Nat.not_lt.mpr (by rw [← hh0]; exact h))
  refine W_gen (fun Q hQ => ?_)
  unfold f_L_law at hf
  refine lv_aload_n hx hb dL_law_8 rfl (lv_at hl 0 rfl) ?_
  obtain ⟨r_9, hu_9, hf⟩ := bd_some hf
  refine ob_calli (va_runV (As := []) (rest := []) ⟨hx, hb, hml, hown, hts⟩ (a_X5_undo l dC dI cI cJ cZ cO tL tH tF h0 a_o M  hu_9) (cwV 0 hts gL_law_X5_undo rfl rfl rfl (by decide +kernel) ⟨Nat.le_of_ble_eq_true rfl, Nat.le_of_ble_eq_true rfl⟩) (ob_preV hK hST hz hS hO) rfl rfl hl.1 rfl (lv_room (Nat.le_of_ble_eq_true rfl)) dL_law_9 ⟨Nat.le_of_ble_eq_true rfl, Nat.le_of_ble_eq_true rfl⟩) hS (fun H locs hO hS => ?_)
  refine lv_bipush (v := (-5)) hx hb dL_law_12 (by decide) ?_
  have jp_115 : ∀ (M_115 : ObjT) (s0_115 : Int32) (H : Heap) (locs : List Loc) (ls : Array Slot) (hf : J_L_law_115 nL xs M_115 s0_115 = some res) (hO : OBJ dC dI cI cJ cZ cO h0 a_o M_115 H) (hS : va_S (oA0 h0) s.heap H locs) (hl : lv_has ls 14 [(1, .ref a_o), (0, .ref b)]), W p l e room_1 s m #[Value.ref b] below meth c H locs 600000 7302250 Q (F0 m 115 ls [.int s0_115]) := by
    intro M_115 s0_115 H locs ls hf hO hS hl
    unfold J_L_law_115 at hf
    refine lv_istore_n (lv' := [(2, .int s0_115), (1, .ref a_o), (0, .ref b)]) hx hb dL_law_115 rfl hl (by decide) rfl (fun ls hl => ?_)
    refine lv_iconst (v := 0) hx hb dL_law_116 (by decide) ?_
    refine lv_istore_n (lv' := [(3, .int 0), (2, .int s0_115), (1, .ref a_o), (0, .ref b)]) hx hb dL_law_117 rfl hl (by decide) rfl (fun ls hl => ?_)
    have hk_118 : ∀ (i3_118 : Int32) (i2_118 : Int32) (M_118 : ObjT) (H : Heap) (locs : List Loc) (ls : Array Slot) (hf : (if i2_118 = 0 then (some 0) else (Option.bind (some (aRestore M_118 1)) (fun (r_405 : Int32 × ObjT) => if r_405.1 = 0 then (if (aCount r_405.2 4) = 0 then (Option.bind (some (aUndo r_405.2)) (fun (r_420 : Int32 × ObjT) => if r_420.1 < 0 then (some 0) else (Option.bind (f_L_isLaid r_420.2) (fun (r_427 : Int32) => if r_427 = 0 then (some 0) else (some 1))))) else (some 0)) else (some 0)))) = some res) (hO : OBJ dC dI cI cJ cZ cO h0 a_o M_118 H) (hS : va_S (oA0 h0) s.heap H locs) (hl : lv_has ls 14 [(2, .int i2_118), (1, .ref a_o)]), W p l e room_1 s m #[Value.ref b] below meth c H locs 600000 7302250 Q (F0 m 399 ls []) := by
      intro i3_118 i2_118 M_118 H locs ls hf hO hS hl
      refine lv_iload_n hx hb dL_law_399 rfl (lv_at hl 0 rfl) ?_
      refine lv_if_eq (tgt := 437) hx hb dL_law_400 (by decide) (fun c_400 => ?_) (fun c_400 => ?_)
      · have hf := (if_pos c_400).symm.trans hf
        refine lv_iconst (v := 0) hx hb dL_law_437 (by decide) ?_
        have hq := Option.some.inj hf
        exact absurd (hq.trans hres) (by decide)
      have hf := (if_neg c_400).symm.trans hf
      refine lv_aload_n hx hb dL_law_403 rfl (lv_at hl 1 rfl) ?_
      refine lv_iconst (v := 1) hx hb dL_law_404 (by decide) ?_
      obtain ⟨r_405, hu_405, hf⟩ := bd_some hf
      refine ob_calli (va_runV (As := [.int 1]) (rest := []) ⟨hx, hb, hml, hown, hts⟩ (a_X5_restore l dC dI cI cJ cZ cO tL tH tF h0 a_o M_118 1  hu_405) (cwV 1 hts gL_law_X5_restore rfl rfl rfl (by decide +kernel) ⟨Nat.le_of_ble_eq_true rfl, Nat.le_of_ble_eq_true rfl⟩) (ob_preV hK hST hz hS hO) rfl rfl hl.1 rfl (lv_room (Nat.le_of_ble_eq_true rfl)) dL_law_405 ⟨Nat.le_of_ble_eq_true rfl, Nat.le_of_ble_eq_true rfl⟩) hS (fun H locs hO hS => ?_)
      refine lv_if_ne (tgt := 437) hx hb dL_law_408 (by decide) (fun c_408 => ?_) (fun c_408 => ?_)
      · have hf := (if_neg c_408).symm.trans hf
        refine lv_iconst (v := 0) hx hb dL_law_437 (by decide) ?_
        have hq := Option.some.inj hf
        exact absurd (hq.trans hres) (by decide)
      have hf := (if_pos c_408).symm.trans hf
      refine lv_aload_n hx hb dL_law_411 rfl (lv_at hl 1 rfl) ?_
      refine lv_iconst (v := 4) hx hb dL_law_412 (by decide) ?_
      refine ob_calli (va_runV (As := [.int 4]) (rest := []) ⟨hx, hb, hml, hown, hts⟩ (a_X5_count l dC dI cI cJ cZ cO tL tH tF h0 a_o r_405.2 4 ) (cwV 1 hts gL_law_X5_count rfl rfl rfl (by decide +kernel) ⟨Nat.le_of_ble_eq_true rfl, Nat.le_of_ble_eq_true rfl⟩) (ob_preV hK hST hz hS hO) rfl rfl hl.1 rfl (lv_room (Nat.le_of_ble_eq_true rfl)) dL_law_413 ⟨Nat.le_of_ble_eq_true rfl, Nat.le_of_ble_eq_true rfl⟩) hS (fun H locs hO hS => ?_)
      refine lv_if_ne (tgt := 437) hx hb dL_law_416 (by decide) (fun c_416 => ?_) (fun c_416 => ?_)
      · have hf := (if_neg c_416).symm.trans hf
        refine lv_iconst (v := 0) hx hb dL_law_437 (by decide) ?_
        have hq := Option.some.inj hf
        exact absurd (hq.trans hres) (by decide)
      have hf := (if_pos c_416).symm.trans hf
      refine lv_aload_n hx hb dL_law_419 rfl (lv_at hl 1 rfl) ?_
      obtain ⟨r_420, hu_420, hf⟩ := bd_some hf
      refine ob_calli (va_runV (As := []) (rest := []) ⟨hx, hb, hml, hown, hts⟩ (a_X5_undo l dC dI cI cJ cZ cO tL tH tF h0 a_o r_405.2  hu_420) (cwV 0 hts gL_law_X5_undo rfl rfl rfl (by decide +kernel) ⟨Nat.le_of_ble_eq_true rfl, Nat.le_of_ble_eq_true rfl⟩) (ob_preV hK hST hz hS hO) rfl rfl hl.1 rfl (lv_room (Nat.le_of_ble_eq_true rfl)) dL_law_420 ⟨Nat.le_of_ble_eq_true rfl, Nat.le_of_ble_eq_true rfl⟩) hS (fun H locs hO hS => ?_)
      refine lv_if_lt (tgt := 437) hx hb dL_law_423 (by decide) (fun c_423 => ?_) (fun c_423 => ?_)
      · have hf := (if_pos c_423).symm.trans hf
        refine lv_iconst (v := 0) hx hb dL_law_437 (by decide) ?_
        have hq := Option.some.inj hf
        exact absurd (hq.trans hres) (by decide)
      have hf := (if_neg c_423).symm.trans hf
      refine lv_aload_n hx hb dL_law_426 rfl (lv_at hl 1 rfl) ?_
      obtain ⟨r_427, hu_427, hf⟩ := bd_some hf
      refine ob_calli (va_runS (As := [.ref a_o]) (rest := []) ⟨hx, hb, hml, hown, hts⟩ (c_L_isLaid l dC dI cI cJ cZ cO tL tH tF h0 a_o r_420.2 _ hu_427) (va_cwS 1 hts gL_law_L_isLaid rfl rfl rfl (by decide +kernel) ⟨Nat.le_of_ble_eq_true rfl, Nat.le_of_ble_eq_true rfl⟩) (ob_preS hK hST hz hS hO) rfl rfl hl.1 rfl (lv_room (Nat.le_of_ble_eq_true rfl)) dL_law_427 ⟨Nat.le_of_ble_eq_true rfl, Nat.le_of_ble_eq_true rfl⟩) hS (fun H locs hO hS => ?_)
      refine lv_if_eq (tgt := 437) hx hb dL_law_430 (by decide) (fun c_430 => ?_) (fun c_430 => ?_)
      · have hf := (if_pos c_430).symm.trans hf
        refine lv_iconst (v := 0) hx hb dL_law_437 (by decide) ?_
        have hq := Option.some.inj hf
        exact absurd (hq.trans hres) (by decide)
      have hf := (if_neg c_430).symm.trans hf
      refine lv_iconst (v := 1) hx hb dL_law_433 (by decide) ?_
      refine lv_goto (tgt := 438) hx hb dL_law_434 (by decide) ?_
      have hq := Option.some.inj hf
      rw [hQ]
      refine va_forget (fun q hq => by rw [← hh0]; exact hS.2.2 q hq) ?_
      exact lw_ret hx hb hr hlocks dL_law_438
    have lp_118 : ∀ (K : Int32 → Int32 → ObjT → Option (Int32)) (hk : ∀ (i3_118 : Int32) (i2_118 : Int32) (M_118 : ObjT) (H : Heap) (locs : List Loc) (ls : Array Slot) (hf : K i3_118 i2_118 M_118 = some res) (hO : OBJ dC dI cI cJ cZ cO h0 a_o M_118 H) (hS : va_S (oA0 h0) s.heap H locs) (hl : lv_has ls 14 [(2, .int i2_118), (1, .ref a_o)]), W p l e room_1 s m #[Value.ref b] below meth c H locs 600000 7302250 Q (F0 m 399 ls [])) (n : Nat) (i3_118 : Int32) (i2_118 : Int32) (M_118 : ObjT) (H : Heap) (locs : List Loc) (ls : Array Slot) (hf : L_L_law_118 K nL xs n i3_118 i2_118 M_118 = some res) (hO : OBJ dC dI cI cJ cZ cO h0 a_o M_118 H) (hS : va_S (oA0 h0) s.heap H locs) (hl : lv_has ls 14 [(3, .int i3_118), (2, .int i2_118), (1, .ref a_o), (0, .ref b)]), W p l e room_1 s m #[Value.ref b] below meth c H locs 600000 7302250 Q (F0 m 118 ls []) := by
      intro K hk n
      induction n with
      | zero => intro i3_118 i2_118 M_118 H locs ls hf hO hS hl; exact absurd ((L_L_law_118_0 _ _ _ _ _ _).symm.trans hf) (by simp)
      | succ n ih =>
        intro i3_118 i2_118 M_118 H locs ls hf hO hS hl
        have hf := (L_L_law_118_s _ _ _ _ _ _ _).symm.trans hf
        refine lv_iload_n hx hb dL_law_118 rfl (lv_at hl 0 rfl) ?_
        refine lv_bipush (v := 40) hx hb dL_law_119 (by decide) ?_
        refine lv_icmp_ge (tgt := 399) hx hb dL_law_121 (by decide) (fun c_121 => ?_) (fun c_121 => ?_)
        · have hf := (if_pos c_121).symm.trans hf
          exact hk i3_118 i2_118 M_118 _ _ ls hf hO hS (lv_sub hl [1, 2] rfl)
        have hf := (if_neg c_121).symm.trans hf
        refine lv_iload_n hx hb dL_law_124 rfl (lv_at hl 1 rfl) ?_
        refine lv_if_eq (tgt := 399) hx hb dL_law_125 (by decide) (fun c_125 => ?_) (fun c_125 => ?_)
        · have hf := (if_pos c_125).symm.trans hf
          exact hk i3_118 i2_118 M_118 _ _ ls hf hO hS (lv_sub hl [1, 2] rfl)
        have hf := (if_neg c_125).symm.trans hf
        refine lv_aload_n hx hb dL_law_128 rfl (lv_at hl 3 rfl) ?_
        refine lv_iconst (v := 2) hx hb dL_law_129 (by decide) ?_
        refine lv_iload_n hx hb dL_law_130 rfl (lv_at hl 0 rfl) ?_
        refine lv_imul hx hb dL_law_131 ?_
        obtain ⟨g_132, hf⟩ := gd_some hf
        refine ob_calli (va_runS (As := [.ref b, .int (2 * i3_118)]) (rest := []) ⟨hx, hb, hml, hown, hts⟩ (c_L_cell l dC dI cI cJ cZ cO h0 a_o b nL M_118 (2 * i3_118) xs hL (of_decide_eq_true g_132)) (va_cwS 2 hts gL_law_L_cell rfl rfl rfl (by decide +kernel) ⟨Nat.le_of_ble_eq_true rfl, Nat.le_of_ble_eq_true rfl⟩) (ob_preC hX hbl hbA hS hO) rfl rfl hl.1 rfl (lv_room (Nat.le_of_ble_eq_true rfl)) dL_law_132 ⟨Nat.le_of_ble_eq_true rfl, Nat.le_of_ble_eq_true rfl⟩) hS (fun H locs hO hS => ?_)
        refine lv_istore (lv' := [(4, .int (cellF nL xs (2 * i3_118))), (3, .int i3_118), (2, .int i2_118), (1, .ref a_o), (0, .ref b)]) hx hb dL_law_135 hl (by decide) rfl (fun ls hl => ?_)
        refine lv_aload_n hx hb dL_law_137 rfl (lv_at hl 4 rfl) ?_
        refine lv_iconst (v := 2) hx hb dL_law_138 (by decide) ?_
        refine lv_iload_n hx hb dL_law_139 rfl (lv_at hl 1 rfl) ?_
        refine lv_imul hx hb dL_law_140 ?_
        refine lv_iconst (v := 1) hx hb dL_law_141 (by decide) ?_
        refine lv_iadd hx hb dL_law_142 ?_
        obtain ⟨g_143, hf⟩ := gd_some hf
        refine ob_calli (va_runS (As := [.ref b, .int ((2 * i3_118) + 1)]) (rest := []) ⟨hx, hb, hml, hown, hts⟩ (c_L_cell l dC dI cI cJ cZ cO h0 a_o b nL M_118 ((2 * i3_118) + 1) xs hL (of_decide_eq_true g_143)) (va_cwS 2 hts gL_law_L_cell rfl rfl rfl (by decide +kernel) ⟨Nat.le_of_ble_eq_true rfl, Nat.le_of_ble_eq_true rfl⟩) (ob_preC hX hbl hbA hS hO) rfl rfl hl.1 rfl (lv_room (Nat.le_of_ble_eq_true rfl)) dL_law_143 ⟨Nat.le_of_ble_eq_true rfl, Nat.le_of_ble_eq_true rfl⟩) hS (fun H locs hO hS => ?_)
        refine lv_istore (lv' := [(5, .int (cellF nL xs ((2 * i3_118) + 1))), (4, .int (cellF nL xs (2 * i3_118))), (3, .int i3_118), (2, .int i2_118), (1, .ref a_o), (0, .ref b)]) hx hb dL_law_146 hl (by decide) rfl (fun ls hl => ?_)
        refine lv_aload_n hx hb dL_law_148 rfl (lv_at hl 4 rfl) ?_
        obtain ⟨r_149, hu_149, hf⟩ := bd_some hf
        refine ob_calll (va_runS (As := [.ref a_o]) (rest := []) ⟨hx, hb, hml, hown, hts⟩ (c_L_seen l dC dI cI cJ cZ cO tL tH tF h0 a_o M_118 _ hu_149) (va_cwS 1 hts gL_law_L_seen rfl rfl rfl (by decide +kernel) ⟨Nat.le_of_ble_eq_true rfl, Nat.le_of_ble_eq_true rfl⟩) (ob_preS hK hST hz hS hO) rfl rfl hl.1 rfl (lv_room (Nat.le_of_ble_eq_true rfl)) dL_law_149 ⟨Nat.le_of_ble_eq_true rfl, Nat.le_of_ble_eq_true rfl⟩) hS (fun H locs hO hS => ?_)
        refine lv_lstore (lv' := [(6, .long r_149), (5, .int (cellF nL xs ((2 * i3_118) + 1))), (4, .int (cellF nL xs (2 * i3_118))), (3, .int i3_118), (2, .int i2_118), (1, .ref a_o), (0, .ref b)]) hx hb dL_law_152 hl (by decide) rfl (fun ls hl => ?_)
        refine lv_aload_n hx hb dL_law_154 rfl (lv_at hl 5 rfl) ?_
        refine lv_bipush (v := 14) hx hb dL_law_155 (by decide) ?_
        refine ob_calli (va_runV (As := [.int 14]) (rest := []) ⟨hx, hb, hml, hown, hts⟩ (a_X5_count l dC dI cI cJ cZ cO tL tH tF h0 a_o M_118 14 ) (cwV 1 hts gL_law_X5_count rfl rfl rfl (by decide +kernel) ⟨Nat.le_of_ble_eq_true rfl, Nat.le_of_ble_eq_true rfl⟩) (ob_preV hK hST hz hS hO) rfl rfl hl.1 rfl (lv_room (Nat.le_of_ble_eq_true rfl)) dL_law_157 ⟨Nat.le_of_ble_eq_true rfl, Nat.le_of_ble_eq_true rfl⟩) hS (fun H locs hO hS => ?_)
        refine lv_istore (lv' := [(8, .int (aCount M_118 14)), (6, .long r_149), (5, .int (cellF nL xs ((2 * i3_118) + 1))), (4, .int (cellF nL xs (2 * i3_118))), (3, .int i3_118), (2, .int i2_118), (1, .ref a_o), (0, .ref b)]) hx hb dL_law_160 hl (by decide) rfl (fun ls hl => ?_)
        refine lv_aload_n hx hb dL_law_162 rfl (lv_at hl 6 rfl) ?_
        refine lv_iload hx hb dL_law_163 (lv_at hl 3 rfl) ?_
        refine lv_iload hx hb dL_law_165 (lv_at hl 2 rfl) ?_
        obtain ⟨r_167, hu_167, hf⟩ := bd_some hf
        refine ob_calli (va_runS (As := [.ref a_o, .int (cellF nL xs (2 * i3_118)), .int (cellF nL xs ((2 * i3_118) + 1))]) (rest := []) ⟨hx, hb, hml, hown, hts⟩ (c_L_act l dC dI cI cJ cZ cO tL tH tF h0 a_o M_118 (cellF nL xs (2 * i3_118)) (cellF nL xs ((2 * i3_118) + 1)) _ hu_167) (va_cwS 3 hts gL_law_L_act rfl rfl rfl (by decide +kernel) ⟨Nat.le_of_ble_eq_true rfl, Nat.le_of_ble_eq_true rfl⟩) (ob_preS hK hST hz hS hO) rfl rfl hl.1 rfl (lv_room (Nat.le_of_ble_eq_true rfl)) dL_law_167 ⟨Nat.le_of_ble_eq_true rfl, Nat.le_of_ble_eq_true rfl⟩) hS (fun H locs hO hS => ?_)
        refine lv_istore (lv' := [(9, .int r_167.1), (8, .int (aCount M_118 14)), (6, .long r_149), (5, .int (cellF nL xs ((2 * i3_118) + 1))), (4, .int (cellF nL xs (2 * i3_118))), (3, .int i3_118), (2, .int i2_118), (1, .ref a_o), (0, .ref b)]) hx hb dL_law_170 hl (by decide) rfl (fun ls hl => ?_)
        refine lv_aload_n hx hb dL_law_172 rfl (lv_at hl 7 rfl) ?_
        refine lv_bipush (v := 14) hx hb dL_law_173 (by decide) ?_
        refine ob_calli (va_runV (As := [.int 14]) (rest := []) ⟨hx, hb, hml, hown, hts⟩ (a_X5_count l dC dI cI cJ cZ cO tL tH tF h0 a_o r_167.2 14 ) (cwV 1 hts gL_law_X5_count rfl rfl rfl (by decide +kernel) ⟨Nat.le_of_ble_eq_true rfl, Nat.le_of_ble_eq_true rfl⟩) (ob_preV hK hST hz hS hO) rfl rfl hl.1 rfl (lv_room (Nat.le_of_ble_eq_true rfl)) dL_law_175 ⟨Nat.le_of_ble_eq_true rfl, Nat.le_of_ble_eq_true rfl⟩) hS (fun H locs hO hS => ?_)
        refine lv_istore (lv' := [(10, .int (aCount r_167.2 14)), (9, .int r_167.1), (8, .int (aCount M_118 14)), (6, .long r_149), (5, .int (cellF nL xs ((2 * i3_118) + 1))), (4, .int (cellF nL xs (2 * i3_118))), (3, .int i3_118), (2, .int i2_118), (1, .ref a_o), (0, .ref b)]) hx hb dL_law_178 hl (by decide) rfl (fun ls hl => ?_)
        refine lv_iload hx hb dL_law_180 (lv_at hl 1 rfl) ?_
        have jp_293 : ∀ (M_293 : ObjT) (s0_293 : Int32) (H : Heap) (locs : List Loc) (ls : Array Slot) (hf : J_L_law_293 (fun (i3_118 : Int32) (i2_118 : Int32) (M_118 : ObjT) => L_L_law_118 K nL xs n i3_118 i2_118 M_118) nL xs i3_118 M_118 r_149 r_167 M_293 s0_293 = some res) (hO : OBJ dC dI cI cJ cZ cO h0 a_o M_293 H) (hS : va_S (oA0 h0) s.heap H locs) (hl : lv_has ls 14 [(9, .int r_167.1), (8, .int (aCount M_118 14)), (6, .long r_149), (4, .int (cellF nL xs (2 * i3_118))), (3, .int i3_118), (1, .ref a_o), (0, .ref b)]), W p l e room_1 s m #[Value.ref b] below meth c H locs 600000 7302250 Q (F0 m 293 ls [.int s0_293]) := by
          intro M_293 s0_293 H locs ls hf hO hS hl
          unfold J_L_law_293 at hf
          refine lv_istore_n (lv' := [(2, .int s0_293), (9, .int r_167.1), (8, .int (aCount M_118 14)), (6, .long r_149), (4, .int (cellF nL xs (2 * i3_118))), (3, .int i3_118), (1, .ref a_o), (0, .ref b)]) hx hb dL_law_293 rfl hl (by decide) rfl (fun ls hl => ?_)
          refine lv_iload_n hx hb dL_law_294 rfl (lv_at hl 0 rfl) ?_
          refine lv_if_eq (tgt := 393) hx hb dL_law_295 (by decide) (fun c_295 => ?_) (fun c_295 => ?_)
          · have hf := (if_pos c_295).symm.trans hf
            refine lv_iinc (v := (i3_118 + 1)) (lv' := [(3, .int (i3_118 + 1)), (2, .int s0_293), (9, .int r_167.1), (8, .int (aCount M_118 14)), (6, .long r_149), (4, .int (cellF nL xs (2 * i3_118))), (1, .ref a_o), (0, .ref b)]) hx hb dL_law_393 hl (k := 5) rfl rfl (by decide) rfl (fun ls hl => ?_)
            refine lv_goto (tgt := 118) hx hb dL_law_396 (by decide) ?_
            exact ih (i3_118 + 1) s0_293 M_293 _ _ ls hf hO hS (lv_sub hl [0, 1, 6, 7] rfl)
          have hf := (if_neg c_295).symm.trans hf
          refine lv_iload hx hb dL_law_298 (lv_at hl 1 rfl) ?_
          refine lv_iconst (v := 1) hx hb dL_law_300 (by decide) ?_
          refine lv_icmp_ne (tgt := 393) hx hb dL_law_301 (by decide) (fun c_301 => ?_) (fun c_301 => ?_)
          · have hf := (if_neg c_301).symm.trans hf
            refine lv_iinc (v := (i3_118 + 1)) (lv' := [(3, .int (i3_118 + 1)), (2, .int s0_293), (9, .int r_167.1), (8, .int (aCount M_118 14)), (6, .long r_149), (4, .int (cellF nL xs (2 * i3_118))), (1, .ref a_o), (0, .ref b)]) hx hb dL_law_393 hl (k := 5) rfl rfl (by decide) rfl (fun ls hl => ?_)
            refine lv_goto (tgt := 118) hx hb dL_law_396 (by decide) ?_
            exact ih (i3_118 + 1) s0_293 M_293 _ _ ls hf hO hS (lv_sub hl [0, 1, 6, 7] rfl)
          have hf := (if_pos c_301).symm.trans hf
          refine lv_iload hx hb dL_law_304 (lv_at hl 4 rfl) ?_
          refine lv_bipush (v := 13) hx hb dL_law_306 (by decide) ?_
          refine lv_idiv hx hb dL_law_308 (by decide) ?_
          refine lv_iconst (v := 3) hx hb dL_law_309 (by decide) ?_
          refine lv_irem hx hb dL_law_310 (by decide) ?_
          refine lv_rei (x' := (remI ((cellF nL xs (2 * i3_118)) / 13) 3)) rfl ?_
          refine lv_if_ne (tgt := 393) hx hb dL_law_311 (by decide) (fun c_311 => ?_) (fun c_311 => ?_)
          · have hf := (if_neg c_311).symm.trans hf
            refine lv_iinc (v := (i3_118 + 1)) (lv' := [(3, .int (i3_118 + 1)), (2, .int s0_293), (9, .int r_167.1), (8, .int (aCount M_118 14)), (6, .long r_149), (4, .int (cellF nL xs (2 * i3_118))), (1, .ref a_o), (0, .ref b)]) hx hb dL_law_393 hl (k := 5) rfl rfl (by decide) rfl (fun ls hl => ?_)
            refine lv_goto (tgt := 118) hx hb dL_law_396 (by decide) ?_
            exact ih (i3_118 + 1) s0_293 M_293 _ _ ls hf hO hS (lv_sub hl [0, 1, 6, 7] rfl)
          have hf := (if_pos c_311).symm.trans hf
          refine lv_aload_n hx hb dL_law_314 rfl (lv_at hl 6 rfl) ?_
          obtain ⟨r_315, hu_315, hf⟩ := bd_some hf
          refine ob_calll (va_runS (As := [.ref a_o]) (rest := []) ⟨hx, hb, hml, hown, hts⟩ (c_L_seen l dC dI cI cJ cZ cO tL tH tF h0 a_o M_293 _ hu_315) (va_cwS 1 hts gL_law_L_seen rfl rfl rfl (by decide +kernel) ⟨Nat.le_of_ble_eq_true rfl, Nat.le_of_ble_eq_true rfl⟩) (ob_preS hK hST hz hS hO) rfl rfl hl.1 rfl (lv_room (Nat.le_of_ble_eq_true rfl)) dL_law_315 ⟨Nat.le_of_ble_eq_true rfl, Nat.le_of_ble_eq_true rfl⟩) hS (fun H locs hO hS => ?_)
          refine lv_lstore (lv' := [(11, .long r_315), (2, .int s0_293), (9, .int r_167.1), (8, .int (aCount M_118 14)), (6, .long r_149), (4, .int (cellF nL xs (2 * i3_118))), (3, .int i3_118), (1, .ref a_o), (0, .ref b)]) hx hb dL_law_318 hl (by decide) rfl (fun ls hl => ?_)
          refine lv_aload_n hx hb dL_law_320 rfl (lv_at hl 7 rfl) ?_
          refine lv_iconst (v := 3) hx hb dL_law_321 (by decide) ?_
          refine ob_calli (va_runV (As := [.int 3]) (rest := []) ⟨hx, hb, hml, hown, hts⟩ (a_X5_count l dC dI cI cJ cZ cO tL tH tF h0 a_o M_293 3 ) (cwV 1 hts gL_law_X5_count rfl rfl rfl (by decide +kernel) ⟨Nat.le_of_ble_eq_true rfl, Nat.le_of_ble_eq_true rfl⟩) (ob_preV hK hST hz hS hO) rfl rfl hl.1 rfl (lv_room (Nat.le_of_ble_eq_true rfl)) dL_law_322 ⟨Nat.le_of_ble_eq_true rfl, Nat.le_of_ble_eq_true rfl⟩) hS (fun H locs hO hS => ?_)
          refine lv_istore (lv' := [(13, .int (aCount M_293 3)), (11, .long r_315), (2, .int s0_293), (9, .int r_167.1), (8, .int (aCount M_118 14)), (6, .long r_149), (4, .int (cellF nL xs (2 * i3_118))), (3, .int i3_118), (1, .ref a_o), (0, .ref b)]) hx hb dL_law_325 hl (by decide) rfl (fun ls hl => ?_)
          refine lv_aload_n hx hb dL_law_327 rfl (lv_at hl 8 rfl) ?_
          refine lv_iconst (v := 0) hx hb dL_law_328 (by decide) ?_
          obtain ⟨r_329, hu_329, hf⟩ := bd_some hf
          refine ob_calli (va_runV (As := [.int 0]) (rest := []) ⟨hx, hb, hml, hown, hts⟩ (a_X5_save l dC dI cI cJ cZ cO tL tH tF h0 a_o M_293 0  hu_329) (cwV 1 hts gL_law_X5_save rfl rfl rfl (by decide +kernel) ⟨Nat.le_of_ble_eq_true rfl, Nat.le_of_ble_eq_true rfl⟩) (ob_preV hK hST hz hS hO) rfl rfl hl.1 rfl (lv_room (Nat.le_of_ble_eq_true rfl)) dL_law_329 ⟨Nat.le_of_ble_eq_true rfl, Nat.le_of_ble_eq_true rfl⟩) hS (fun H locs hO hS => ?_)
          refine lv_iload hx hb dL_law_332 (lv_at hl 0 rfl) ?_
          refine lv_icmp_ne (tgt := 391) hx hb dL_law_334 (by decide) (fun c_334 => ?_) (fun c_334 => ?_)
          · have hf := (if_neg c_334).symm.trans hf
            refine lv_iconst (v := 0) hx hb dL_law_391 (by decide) ?_
            refine lv_istore_n (lv' := [(2, .int 0), (13, .int (aCount M_293 3)), (11, .long r_315), (9, .int r_167.1), (8, .int (aCount M_118 14)), (6, .long r_149), (4, .int (cellF nL xs (2 * i3_118))), (3, .int i3_118), (1, .ref a_o), (0, .ref b)]) hx hb dL_law_392 rfl hl (by decide) rfl (fun ls hl => ?_)
            refine lv_iinc (v := (i3_118 + 1)) (lv' := [(3, .int (i3_118 + 1)), (2, .int 0), (13, .int (aCount M_293 3)), (11, .long r_315), (9, .int r_167.1), (8, .int (aCount M_118 14)), (6, .long r_149), (4, .int (cellF nL xs (2 * i3_118))), (1, .ref a_o), (0, .ref b)]) hx hb dL_law_393 hl (k := 7) rfl rfl (by decide) rfl (fun ls hl => ?_)
            refine lv_goto (tgt := 118) hx hb dL_law_396 (by decide) ?_
            exact ih (i3_118 + 1) 0 r_329.2 _ _ ls hf hO hS (lv_sub hl [0, 1, 8, 9] rfl)
          have hf := (if_pos c_334).symm.trans hf
          refine lv_aload_n hx hb dL_law_337 rfl (lv_at hl 8 rfl) ?_
          obtain ⟨r_338, hu_338, hf⟩ := bd_some hf
          refine ob_calli (va_runV (As := []) (rest := []) ⟨hx, hb, hml, hown, hts⟩ (a_X5_undo l dC dI cI cJ cZ cO tL tH tF h0 a_o r_329.2  hu_338) (cwV 0 hts gL_law_X5_undo rfl rfl rfl (by decide +kernel) ⟨Nat.le_of_ble_eq_true rfl, Nat.le_of_ble_eq_true rfl⟩) (ob_preV hK hST hz hS hO) rfl rfl hl.1 rfl (lv_room (Nat.le_of_ble_eq_true rfl)) dL_law_338 ⟨Nat.le_of_ble_eq_true rfl, Nat.le_of_ble_eq_true rfl⟩) hS (fun H locs hO hS => ?_)
          refine lv_iload hx hb dL_law_341 (lv_at hl 4 rfl) ?_
          refine lv_bipush (v := 6) hx hb dL_law_343 (by decide) ?_
          have jp_354 : ∀ (s0_354 : Int32) (H : Heap) (locs : List Loc) (ls : Array Slot) (hf : J_L_law_354 (fun (i3_118 : Int32) (i2_118 : Int32) (M_118 : ObjT) => L_L_law_118 K nL xs n i3_118 i2_118 M_118) i3_118 r_149 M_293 r_315 r_338 s0_354 = some res) (hO : OBJ dC dI cI cJ cZ cO h0 a_o r_338.2 H) (hS : va_S (oA0 h0) s.heap H locs) (hl : lv_has ls 14 [(13, .int (aCount M_293 3)), (11, .long r_315), (6, .long r_149), (3, .int i3_118), (1, .ref a_o), (0, .ref b)]), W p l e room_1 s m #[Value.ref b] below meth c H locs 600000 7302250 Q (F0 m 354 ls [.int s0_354, .int r_338.1]) := by
            intro s0_354 H locs ls hf hO hS hl
            unfold J_L_law_354 at hf
            refine lv_icmp_ne (tgt := 391) hx hb dL_law_354 (by decide) (fun c_354 => ?_) (fun c_354 => ?_)
            · have hf := (if_neg c_354).symm.trans hf
              refine lv_iconst (v := 0) hx hb dL_law_391 (by decide) ?_
              refine lv_istore_n (lv' := [(2, .int 0), (13, .int (aCount M_293 3)), (11, .long r_315), (6, .long r_149), (3, .int i3_118), (1, .ref a_o), (0, .ref b)]) hx hb dL_law_392 rfl hl (by decide) rfl (fun ls hl => ?_)
              refine lv_iinc (v := (i3_118 + 1)) (lv' := [(3, .int (i3_118 + 1)), (2, .int 0), (13, .int (aCount M_293 3)), (11, .long r_315), (6, .long r_149), (1, .ref a_o), (0, .ref b)]) hx hb dL_law_393 hl (k := 4) rfl rfl (by decide) rfl (fun ls hl => ?_)
              refine lv_goto (tgt := 118) hx hb dL_law_396 (by decide) ?_
              exact ih (i3_118 + 1) 0 r_338.2 _ _ ls hf hO hS (lv_sub hl [0, 1, 5, 6] rfl)
            have hf := (if_pos c_354).symm.trans hf
            refine lv_aload_n hx hb dL_law_357 rfl (lv_at hl 4 rfl) ?_
            obtain ⟨r_358, hu_358, hf⟩ := bd_some hf
            refine ob_calll (va_runS (As := [.ref a_o]) (rest := []) ⟨hx, hb, hml, hown, hts⟩ (c_L_seen l dC dI cI cJ cZ cO tL tH tF h0 a_o r_338.2 _ hu_358) (va_cwS 1 hts gL_law_L_seen rfl rfl rfl (by decide +kernel) ⟨Nat.le_of_ble_eq_true rfl, Nat.le_of_ble_eq_true rfl⟩) (ob_preS hK hST hz hS hO) rfl rfl hl.1 rfl (lv_room (Nat.le_of_ble_eq_true rfl)) dL_law_358 ⟨Nat.le_of_ble_eq_true rfl, Nat.le_of_ble_eq_true rfl⟩) hS (fun H locs hO hS => ?_)
            refine lv_lload hx hb dL_law_361 (lv_at hl 2 rfl) ?_
            refine W.lcmp hx hb dL_law_363 ?_
            refine lv_if_ne (tgt := 391) hx hb dL_law_364 (by decide) (fun c_364 => ?_) (fun c_364 => ?_)
            · have hf := (if_neg (fun h => c_364 ((lg_cmp_eq _ _).mpr h))).symm.trans hf
              refine lv_iconst (v := 0) hx hb dL_law_391 (by decide) ?_
              refine lv_istore_n (lv' := [(2, .int 0), (13, .int (aCount M_293 3)), (11, .long r_315), (6, .long r_149), (3, .int i3_118), (1, .ref a_o), (0, .ref b)]) hx hb dL_law_392 rfl hl (by decide) rfl (fun ls hl => ?_)
              refine lv_iinc (v := (i3_118 + 1)) (lv' := [(3, .int (i3_118 + 1)), (2, .int 0), (13, .int (aCount M_293 3)), (11, .long r_315), (6, .long r_149), (1, .ref a_o), (0, .ref b)]) hx hb dL_law_393 hl (k := 4) rfl rfl (by decide) rfl (fun ls hl => ?_)
              refine lv_goto (tgt := 118) hx hb dL_law_396 (by decide) ?_
              exact ih (i3_118 + 1) 0 r_338.2 _ _ ls hf hO hS (lv_sub hl [0, 1, 5, 6] rfl)
            have hf := (if_pos ((lg_cmp_eq _ _).mp c_364)).symm.trans hf
            refine lv_aload_n hx hb dL_law_367 rfl (lv_at hl 4 rfl) ?_
            refine lv_iconst (v := 0) hx hb dL_law_368 (by decide) ?_
            obtain ⟨r_369, hu_369, hf⟩ := bd_some hf
            refine ob_calli (va_runV (As := [.int 0]) (rest := []) ⟨hx, hb, hml, hown, hts⟩ (a_X5_restore l dC dI cI cJ cZ cO tL tH tF h0 a_o r_338.2 0  hu_369) (cwV 1 hts gL_law_X5_restore rfl rfl rfl (by decide +kernel) ⟨Nat.le_of_ble_eq_true rfl, Nat.le_of_ble_eq_true rfl⟩) (ob_preV hK hST hz hS hO) rfl rfl hl.1 rfl (lv_room (Nat.le_of_ble_eq_true rfl)) dL_law_369 ⟨Nat.le_of_ble_eq_true rfl, Nat.le_of_ble_eq_true rfl⟩) hS (fun H locs hO hS => ?_)
            refine lv_iload hx hb dL_law_372 (lv_at hl 0 rfl) ?_
            refine lv_icmp_ne (tgt := 391) hx hb dL_law_374 (by decide) (fun c_374 => ?_) (fun c_374 => ?_)
            · have hf := (if_neg c_374).symm.trans hf
              refine lv_iconst (v := 0) hx hb dL_law_391 (by decide) ?_
              refine lv_istore_n (lv' := [(2, .int 0), (13, .int (aCount M_293 3)), (11, .long r_315), (6, .long r_149), (3, .int i3_118), (1, .ref a_o), (0, .ref b)]) hx hb dL_law_392 rfl hl (by decide) rfl (fun ls hl => ?_)
              refine lv_iinc (v := (i3_118 + 1)) (lv' := [(3, .int (i3_118 + 1)), (2, .int 0), (13, .int (aCount M_293 3)), (11, .long r_315), (6, .long r_149), (1, .ref a_o), (0, .ref b)]) hx hb dL_law_393 hl (k := 4) rfl rfl (by decide) rfl (fun ls hl => ?_)
              refine lv_goto (tgt := 118) hx hb dL_law_396 (by decide) ?_
              exact ih (i3_118 + 1) 0 r_369.2 _ _ ls hf hO hS (lv_sub hl [0, 1, 5, 6] rfl)
            have hf := (if_pos c_374).symm.trans hf
            refine lv_aload_n hx hb dL_law_377 rfl (lv_at hl 4 rfl) ?_
            obtain ⟨r_378, hu_378, hf⟩ := bd_some hf
            refine ob_calll (va_runS (As := [.ref a_o]) (rest := []) ⟨hx, hb, hml, hown, hts⟩ (c_L_seen l dC dI cI cJ cZ cO tL tH tF h0 a_o r_369.2 _ hu_378) (va_cwS 1 hts gL_law_L_seen rfl rfl rfl (by decide +kernel) ⟨Nat.le_of_ble_eq_true rfl, Nat.le_of_ble_eq_true rfl⟩) (ob_preS hK hST hz hS hO) rfl rfl hl.1 rfl (lv_room (Nat.le_of_ble_eq_true rfl)) dL_law_378 ⟨Nat.le_of_ble_eq_true rfl, Nat.le_of_ble_eq_true rfl⟩) hS (fun H locs hO hS => ?_)
            refine lv_lload hx hb dL_law_381 (lv_at hl 1 rfl) ?_
            refine W.lcmp hx hb dL_law_383 ?_
            refine lv_if_ne (tgt := 391) hx hb dL_law_384 (by decide) (fun c_384 => ?_) (fun c_384 => ?_)
            · have hf := (if_neg (fun h => c_384 ((lg_cmp_eq _ _).mpr h))).symm.trans hf
              refine lv_iconst (v := 0) hx hb dL_law_391 (by decide) ?_
              refine lv_istore_n (lv' := [(2, .int 0), (13, .int (aCount M_293 3)), (11, .long r_315), (6, .long r_149), (3, .int i3_118), (1, .ref a_o), (0, .ref b)]) hx hb dL_law_392 rfl hl (by decide) rfl (fun ls hl => ?_)
              refine lv_iinc (v := (i3_118 + 1)) (lv' := [(3, .int (i3_118 + 1)), (2, .int 0), (13, .int (aCount M_293 3)), (11, .long r_315), (6, .long r_149), (1, .ref a_o), (0, .ref b)]) hx hb dL_law_393 hl (k := 4) rfl rfl (by decide) rfl (fun ls hl => ?_)
              refine lv_goto (tgt := 118) hx hb dL_law_396 (by decide) ?_
              exact ih (i3_118 + 1) 0 r_369.2 _ _ ls hf hO hS (lv_sub hl [0, 1, 5, 6] rfl)
            have hf := (if_pos ((lg_cmp_eq _ _).mp c_384)).symm.trans hf
            refine lv_iconst (v := 1) hx hb dL_law_387 (by decide) ?_
            refine lv_goto (tgt := 392) hx hb dL_law_388 (by decide) ?_
            refine lv_istore_n (lv' := [(2, .int 1), (13, .int (aCount M_293 3)), (11, .long r_315), (6, .long r_149), (3, .int i3_118), (1, .ref a_o), (0, .ref b)]) hx hb dL_law_392 rfl hl (by decide) rfl (fun ls hl => ?_)
            refine lv_iinc (v := (i3_118 + 1)) (lv' := [(3, .int (i3_118 + 1)), (2, .int 1), (13, .int (aCount M_293 3)), (11, .long r_315), (6, .long r_149), (1, .ref a_o), (0, .ref b)]) hx hb dL_law_393 hl (k := 4) rfl rfl (by decide) rfl (fun ls hl => ?_)
            refine lv_goto (tgt := 118) hx hb dL_law_396 (by decide) ?_
            exact ih (i3_118 + 1) 1 r_369.2 _ _ ls hf hO hS (lv_sub hl [0, 1, 5, 6] rfl)
          refine lv_icmp_ge (tgt := 353) hx hb dL_law_345 (by decide) (fun c_345 => ?_) (fun c_345 => ?_)
          · have hf := (if_pos c_345).symm.trans hf
            refine lv_iconst (v := 5) hx hb dL_law_353 (by decide) ?_
            exact jp_354 5 _ _ ls hf hO hS (lv_sub hl [0, 1, 5, 7, 8, 9] rfl)
          have hf := (if_neg c_345).symm.trans hf
          refine lv_iload hx hb dL_law_348 (lv_at hl 4 rfl) ?_
          refine lv_goto (tgt := 354) hx hb dL_law_350 (by decide) ?_
          exact jp_354 (aCount M_118 14) _ _ ls hf hO hS (lv_sub hl [0, 1, 5, 7, 8, 9] rfl)
        have jp_292 : ∀ (M_292 : ObjT) (H : Heap) (locs : List Loc) (ls : Array Slot) (hf : J_L_law_292 (fun (i3_118 : Int32) (i2_118 : Int32) (M_118 : ObjT) => L_L_law_118 K nL xs n i3_118 i2_118 M_118) nL xs i3_118 M_118 r_149 r_167 M_292 = some res) (hO : OBJ dC dI cI cJ cZ cO h0 a_o M_292 H) (hS : va_S (oA0 h0) s.heap H locs) (hl : lv_has ls 14 [(9, .int r_167.1), (8, .int (aCount M_118 14)), (6, .long r_149), (4, .int (cellF nL xs (2 * i3_118))), (3, .int i3_118), (1, .ref a_o), (0, .ref b)]), W p l e room_1 s m #[Value.ref b] below meth c H locs 600000 7302250 Q (F0 m 292 ls []) := by
          intro M_292 H locs ls hf hO hS hl
          unfold J_L_law_292 at hf
          refine lv_iconst (v := 0) hx hb dL_law_292 (by decide) ?_
          exact jp_293 M_292 0 _ _ ls hf hO hS (lv_sub hl [0, 1, 2, 3, 4, 5, 6] rfl)
        refine lv_if_lt (tgt := 292) hx hb dL_law_182 (by decide) (fun c_182 => ?_) (fun c_182 => ?_)
        · have hf := (if_pos c_182).symm.trans hf
          exact jp_292 r_167.2 _ _ ls hf hO hS (lv_sub hl [1, 2, 3, 5, 6, 8, 9] rfl)
        have hf := (if_neg c_182).symm.trans hf
        refine lv_iload hx hb dL_law_185 (lv_at hl 1 rfl) ?_
        have jp_231 : ∀ (H : Heap) (locs : List Loc) (ls : Array Slot) (hf : J_L_law_231 (fun (i3_118 : Int32) (i2_118 : Int32) (M_118 : ObjT) => L_L_law_118 K nL xs n i3_118 i2_118 M_118) nL xs i3_118 M_118 r_149 r_167 = some res) (hO : OBJ dC dI cI cJ cZ cO h0 a_o r_167.2 H) (hS : va_S (oA0 h0) s.heap H locs) (hl : lv_has ls 14 [(9, .int r_167.1), (8, .int (aCount M_118 14)), (6, .long r_149), (5, .int (cellF nL xs ((2 * i3_118) + 1))), (4, .int (cellF nL xs (2 * i3_118))), (3, .int i3_118), (1, .ref a_o), (0, .ref b)]), W p l e room_1 s m #[Value.ref b] below meth c H locs 600000 7302250 Q (F0 m 231 ls []) := by
          intro H locs ls hf hO hS hl
          unfold J_L_law_231 at hf
          refine lv_aload_n hx hb dL_law_231 rfl (lv_at hl 6 rfl) ?_
          obtain ⟨r_232, hu_232, hf⟩ := bd_some hf
          refine ob_calli (va_runS (As := [.ref a_o]) (rest := []) ⟨hx, hb, hml, hown, hts⟩ (c_L_isOrdered l dC dI cI cJ cZ cO tL tH tF h0 a_o r_167.2 _ hu_232) (va_cwS 1 hts gL_law_L_isOrdered rfl rfl rfl (by decide +kernel) ⟨Nat.le_of_ble_eq_true rfl, Nat.le_of_ble_eq_true rfl⟩) (ob_preS hK hST hz hS hO) rfl rfl hl.1 rfl (lv_room (Nat.le_of_ble_eq_true rfl)) dL_law_232 ⟨Nat.le_of_ble_eq_true rfl, Nat.le_of_ble_eq_true rfl⟩) hS (fun H locs hO hS => ?_)
          refine lv_if_eq (tgt := 292) hx hb dL_law_235 (by decide) (fun c_235 => ?_) (fun c_235 => ?_)
          · have hf := (if_pos c_235).symm.trans hf
            exact jp_292 r_167.2 _ _ ls hf hO hS (lv_sub hl [0, 1, 2, 4, 5, 6, 7] rfl)
          have hf := (if_neg c_235).symm.trans hf
          refine lv_aload_n hx hb dL_law_238 rfl (lv_at hl 6 rfl) ?_
          obtain ⟨r_239, hu_239, hf⟩ := bd_some hf
          refine ob_calli (va_runS (As := [.ref a_o]) (rest := []) ⟨hx, hb, hml, hown, hts⟩ (c_L_isLaid l dC dI cI cJ cZ cO tL tH tF h0 a_o r_167.2 _ hu_239) (va_cwS 1 hts gL_law_L_isLaid rfl rfl rfl (by decide +kernel) ⟨Nat.le_of_ble_eq_true rfl, Nat.le_of_ble_eq_true rfl⟩) (ob_preS hK hST hz hS hO) rfl rfl hl.1 rfl (lv_room (Nat.le_of_ble_eq_true rfl)) dL_law_239 ⟨Nat.le_of_ble_eq_true rfl, Nat.le_of_ble_eq_true rfl⟩) hS (fun H locs hO hS => ?_)
          refine lv_if_eq (tgt := 292) hx hb dL_law_242 (by decide) (fun c_242 => ?_) (fun c_242 => ?_)
          · have hf := (if_pos c_242).symm.trans hf
            exact jp_292 r_167.2 _ _ ls hf hO hS (lv_sub hl [0, 1, 2, 4, 5, 6, 7] rfl)
          have hf := (if_neg c_242).symm.trans hf
          refine lv_aload_n hx hb dL_law_245 rfl (lv_at hl 6 rfl) ?_
          refine lv_iconst (v := 3) hx hb dL_law_246 (by decide) ?_
          refine ob_calli (va_runV (As := [.int 3]) (rest := []) ⟨hx, hb, hml, hown, hts⟩ (a_X5_count l dC dI cI cJ cZ cO tL tH tF h0 a_o r_167.2 3 ) (cwV 1 hts gL_law_X5_count rfl rfl rfl (by decide +kernel) ⟨Nat.le_of_ble_eq_true rfl, Nat.le_of_ble_eq_true rfl⟩) (ob_preV hK hST hz hS hO) rfl rfl hl.1 rfl (lv_room (Nat.le_of_ble_eq_true rfl)) dL_law_247 ⟨Nat.le_of_ble_eq_true rfl, Nat.le_of_ble_eq_true rfl⟩) hS (fun H locs hO hS => ?_)
          have jp_268 : ∀ (H : Heap) (locs : List Loc) (ls : Array Slot) (hf : J_L_law_268 (fun (i3_118 : Int32) (i2_118 : Int32) (M_118 : ObjT) => L_L_law_118 K nL xs n i3_118 i2_118 M_118) nL xs i3_118 M_118 r_149 r_167 = some res) (hO : OBJ dC dI cI cJ cZ cO h0 a_o r_167.2 H) (hS : va_S (oA0 h0) s.heap H locs) (hl : lv_has ls 14 [(9, .int r_167.1), (8, .int (aCount M_118 14)), (6, .long r_149), (4, .int (cellF nL xs (2 * i3_118))), (3, .int i3_118), (1, .ref a_o), (0, .ref b)]), W p l e room_1 s m #[Value.ref b] below meth c H locs 600000 7302250 Q (F0 m 268 ls []) := by
            intro H locs ls hf hO hS hl
            unfold J_L_law_268 at hf
            refine lv_iload_n hx hb dL_law_268 rfl (lv_at hl 4 rfl) ?_
            refine lv_bipush (v := 6) hx hb dL_law_269 (by decide) ?_
            refine lv_irem hx hb dL_law_271 (by decide) ?_
            refine lv_rei (x' := (remI i3_118 6)) rfl ?_
            refine lv_iconst (v := 5) hx hb dL_law_272 (by decide) ?_
            have jp_288 : ∀ (M_288 : ObjT) (H : Heap) (locs : List Loc) (ls : Array Slot) (hf : J_L_law_288 (fun (i3_118 : Int32) (i2_118 : Int32) (M_118 : ObjT) => L_L_law_118 K nL xs n i3_118 i2_118 M_118) nL xs i3_118 M_118 r_149 r_167 M_288 = some res) (hO : OBJ dC dI cI cJ cZ cO h0 a_o M_288 H) (hS : va_S (oA0 h0) s.heap H locs) (hl : lv_has ls 14 [(9, .int r_167.1), (8, .int (aCount M_118 14)), (6, .long r_149), (4, .int (cellF nL xs (2 * i3_118))), (3, .int i3_118), (1, .ref a_o), (0, .ref b)]), W p l e room_1 s m #[Value.ref b] below meth c H locs 600000 7302250 Q (F0 m 288 ls []) := by
              intro M_288 H locs ls hf hO hS hl
              unfold J_L_law_288 at hf
              refine lv_iconst (v := 1) hx hb dL_law_288 (by decide) ?_
              refine lv_goto (tgt := 293) hx hb dL_law_289 (by decide) ?_
              exact jp_293 M_288 1 _ _ ls hf hO hS (lv_sub hl [0, 1, 2, 3, 4, 5, 6] rfl)
            refine lv_icmp_ne (tgt := 288) hx hb dL_law_273 (by decide) (fun c_273 => ?_) (fun c_273 => ?_)
            · have hf := (if_neg c_273).symm.trans hf
              exact jp_288 r_167.2 _ _ ls hf hO hS (lv_sub hl [0, 1, 2, 3, 4, 5, 6] rfl)
            have hf := (if_pos c_273).symm.trans hf
            refine lv_aload_n hx hb dL_law_276 rfl (lv_at hl 5 rfl) ?_
            refine lv_iload hx hb dL_law_277 (lv_at hl 3 rfl) ?_
            refine lv_bipush (v := 6) hx hb dL_law_279 (by decide) ?_
            refine lv_idiv hx hb dL_law_281 (by decide) ?_
            obtain ⟨r_282, hu_282, hf⟩ := bd_some hf
            refine ob_calli (va_runS (As := [.ref a_o, .int ((cellF nL xs (2 * i3_118)) / 6)]) (rest := []) ⟨hx, hb, hml, hown, hts⟩ (c_L_refuses l dC dI cI cJ cZ cO tL tH tF h0 a_o r_167.2 ((cellF nL xs (2 * i3_118)) / 6) _ hu_282) (va_cwS 2 hts gL_law_L_refuses rfl rfl rfl (by decide +kernel) ⟨Nat.le_of_ble_eq_true rfl, Nat.le_of_ble_eq_true rfl⟩) (ob_preS hK hST hz hS hO) rfl rfl hl.1 rfl (lv_room (Nat.le_of_ble_eq_true rfl)) dL_law_282 ⟨Nat.le_of_ble_eq_true rfl, Nat.le_of_ble_eq_true rfl⟩) hS (fun H locs hO hS => ?_)
            refine lv_if_eq (tgt := 292) hx hb dL_law_285 (by decide) (fun c_285 => ?_) (fun c_285 => ?_)
            · have hf := (if_pos c_285).symm.trans hf
              exact jp_292 r_282.2 _ _ ls hf hO hS (lv_sub hl [0, 1, 2, 3, 4, 5, 6] rfl)
            have hf := (if_neg c_285).symm.trans hf
            exact jp_288 r_282.2 _ _ ls hf hO hS (lv_sub hl [0, 1, 2, 3, 4, 5, 6] rfl)
          refine lv_if_eq (tgt := 268) hx hb dL_law_250 (by decide) (fun c_250 => ?_) (fun c_250 => ?_)
          · have hf := (if_pos c_250).symm.trans hf
            exact jp_268 _ _ ls hf hO hS (lv_sub hl [0, 1, 2, 4, 5, 6, 7] rfl)
          have hf := (if_neg c_250).symm.trans hf
          refine lv_aload_n hx hb dL_law_253 rfl (lv_at hl 6 rfl) ?_
          refine lv_iload hx hb dL_law_254 (lv_at hl 3 rfl) ?_
          refine lv_aload_n hx hb dL_law_256 rfl (lv_at hl 6 rfl) ?_
          refine lv_iconst (v := 3) hx hb dL_law_257 (by decide) ?_
          refine ob_calli (va_runV (As := [.int 3]) (rest := [.int (cellF nL xs ((2 * i3_118) + 1)), .ref a_o]) ⟨hx, hb, hml, hown, hts⟩ (a_X5_count l dC dI cI cJ cZ cO tL tH tF h0 a_o r_167.2 3 ) (cwV 1 hts gL_law_X5_count rfl rfl rfl (by decide +kernel) ⟨Nat.le_of_ble_eq_true rfl, Nat.le_of_ble_eq_true rfl⟩) (ob_preV hK hST hz hS hO) rfl rfl hl.1 rfl (lv_room (Nat.le_of_ble_eq_true rfl)) dL_law_258 ⟨Nat.le_of_ble_eq_true rfl, Nat.le_of_ble_eq_true rfl⟩) hS (fun H locs hO hS => ?_)
          obtain ⟨g_261, hf⟩ := gd_some hf
          refine lv_irem hx hb dL_law_261 (nz_of32 g_261) ?_
          refine lv_rei (x' := (remI (cellF nL xs ((2 * i3_118) + 1)) (aCount r_167.2 3))) rfl ?_
          obtain ⟨r_262, hu_262, hf⟩ := bd_some hf
          refine ob_calli (va_runS (As := [.ref a_o, .int (remI (cellF nL xs ((2 * i3_118) + 1)) (aCount r_167.2 3))]) (rest := []) ⟨hx, hb, hml, hown, hts⟩ (c_L_isKept l dC dI cI cJ cZ cO tL tH tF h0 a_o r_167.2 (remI (cellF nL xs ((2 * i3_118) + 1)) (aCount r_167.2 3)) _ hu_262) (va_cwS 2 hts gL_law_L_isKept rfl rfl rfl (by decide +kernel) ⟨Nat.le_of_ble_eq_true rfl, Nat.le_of_ble_eq_true rfl⟩) (ob_preS hK hST hz hS hO) rfl rfl hl.1 rfl (lv_room (Nat.le_of_ble_eq_true rfl)) dL_law_262 ⟨Nat.le_of_ble_eq_true rfl, Nat.le_of_ble_eq_true rfl⟩) hS (fun H locs hO hS => ?_)
          refine lv_if_eq (tgt := 292) hx hb dL_law_265 (by decide) (fun c_265 => ?_) (fun c_265 => ?_)
          · have hf := (if_pos c_265).symm.trans hf
            exact jp_292 r_167.2 _ _ ls hf hO hS (lv_sub hl [0, 1, 2, 4, 5, 6, 7] rfl)
          have hf := (if_neg c_265).symm.trans hf
          exact jp_268 _ _ ls hf hO hS (lv_sub hl [0, 1, 2, 4, 5, 6, 7] rfl)
        refine lv_if_ne (tgt := 210) hx hb dL_law_187 (by decide) (fun c_187 => ?_) (fun c_187 => ?_)
        · have hf := (if_neg c_187).symm.trans hf
          refine lv_iload hx hb dL_law_210 (lv_at hl 0 rfl) ?_
          refine lv_iload hx hb dL_law_212 (lv_at hl 2 rfl) ?_
          refine lv_bipush (v := 6) hx hb dL_law_214 (by decide) ?_
          have jp_228 : ∀ (s0_228 : Int32) (H : Heap) (locs : List Loc) (ls : Array Slot) (hf : J_L_law_228 (fun (i3_118 : Int32) (i2_118 : Int32) (M_118 : ObjT) => L_L_law_118 K nL xs n i3_118 i2_118 M_118) nL xs i3_118 M_118 r_149 r_167 s0_228 = some res) (hO : OBJ dC dI cI cJ cZ cO h0 a_o r_167.2 H) (hS : va_S (oA0 h0) s.heap H locs) (hl : lv_has ls 14 [(9, .int r_167.1), (8, .int (aCount M_118 14)), (6, .long r_149), (5, .int (cellF nL xs ((2 * i3_118) + 1))), (4, .int (cellF nL xs (2 * i3_118))), (3, .int i3_118), (1, .ref a_o), (0, .ref b)]), W p l e room_1 s m #[Value.ref b] below meth c H locs 600000 7302250 Q (F0 m 228 ls [.int s0_228, .int (aCount r_167.2 14)]) := by
            intro s0_228 H locs ls hf hO hS hl
            unfold J_L_law_228 at hf
            refine lv_icmp_ne (tgt := 292) hx hb dL_law_228 (by decide) (fun c_228 => ?_) (fun c_228 => ?_)
            · have hf := (if_neg c_228).symm.trans hf
              exact jp_292 r_167.2 _ _ ls hf hO hS (lv_sub hl [0, 1, 2, 4, 5, 6, 7] rfl)
            have hf := (if_pos c_228).symm.trans hf
            exact jp_231 _ _ ls hf hO hS (lv_sub hl [0, 1, 2, 3, 4, 5, 6, 7] rfl)
          refine lv_icmp_ge (tgt := 226) hx hb dL_law_216 (by decide) (fun c_216 => ?_) (fun c_216 => ?_)
          · have hf := (if_pos c_216).symm.trans hf
            refine lv_bipush (v := 6) hx hb dL_law_226 (by decide) ?_
            exact jp_228 6 _ _ ls hf hO hS (lv_sub hl [1, 2, 3, 4, 5, 6, 8, 9] rfl)
          have hf := (if_neg c_216).symm.trans hf
          refine lv_iload hx hb dL_law_219 (lv_at hl 2 rfl) ?_
          refine lv_iconst (v := 1) hx hb dL_law_221 (by decide) ?_
          refine lv_iadd hx hb dL_law_222 ?_
          refine lv_goto (tgt := 228) hx hb dL_law_223 (by decide) ?_
          exact jp_228 ((aCount M_118 14) + 1) _ _ ls hf hO hS (lv_sub hl [1, 2, 3, 4, 5, 6, 8, 9] rfl)
        have hf := (if_pos c_187).symm.trans hf
        refine lv_iload hx hb dL_law_190 (lv_at hl 0 rfl) ?_
        refine lv_iload hx hb dL_law_192 (lv_at hl 2 rfl) ?_
        refine lv_icmp_ne (tgt := 292) hx hb dL_law_194 (by decide) (fun c_194 => ?_) (fun c_194 => ?_)
        · have hf := (if_neg c_194).symm.trans hf
          exact jp_292 r_167.2 _ _ ls hf hO hS (lv_sub hl [1, 2, 3, 5, 6, 8, 9] rfl)
        have hf := (if_pos c_194).symm.trans hf
        refine lv_aload_n hx hb dL_law_197 rfl (lv_at hl 8 rfl) ?_
        obtain ⟨r_198, hu_198, hf⟩ := bd_some hf
        refine ob_calll (va_runS (As := [.ref a_o]) (rest := []) ⟨hx, hb, hml, hown, hts⟩ (c_L_seen l dC dI cI cJ cZ cO tL tH tF h0 a_o r_167.2 _ hu_198) (va_cwS 1 hts gL_law_L_seen rfl rfl rfl (by decide +kernel) ⟨Nat.le_of_ble_eq_true rfl, Nat.le_of_ble_eq_true rfl⟩) (ob_preS hK hST hz hS hO) rfl rfl hl.1 rfl (lv_room (Nat.le_of_ble_eq_true rfl)) dL_law_198 ⟨Nat.le_of_ble_eq_true rfl, Nat.le_of_ble_eq_true rfl⟩) hS (fun H locs hO hS => ?_)
        refine lv_lload hx hb dL_law_201 (lv_at hl 3 rfl) ?_
        refine W.lcmp hx hb dL_law_203 ?_
        refine lv_if_ne (tgt := 292) hx hb dL_law_204 (by decide) (fun c_204 => ?_) (fun c_204 => ?_)
        · have hf := (if_neg (fun h => c_204 ((lg_cmp_eq _ _).mpr h))).symm.trans hf
          exact jp_292 r_167.2 _ _ ls hf hO hS (lv_sub hl [1, 2, 3, 5, 6, 8, 9] rfl)
        have hf := (if_pos ((lg_cmp_eq _ _).mp c_204)).symm.trans hf
        refine lv_goto (tgt := 231) hx hb dL_law_207 (by decide) ?_
        exact jp_231 _ _ ls hf hO hS (lv_sub hl [1, 2, 3, 4, 5, 6, 8, 9] rfl)
    exact lp_118 _ hk_118 FU 0 s0_115 M_115 _ _ ls hf hO hS (lv_sub hl [0, 1, 2, 3] rfl)
  have jp_114 : ∀ (M_114 : ObjT) (H : Heap) (locs : List Loc) (ls : Array Slot) (hf : J_L_law_114 nL xs M_114 = some res) (hO : OBJ dC dI cI cJ cZ cO h0 a_o M_114 H) (hS : va_S (oA0 h0) s.heap H locs) (hl : lv_has ls 14 [(1, .ref a_o), (0, .ref b)]), W p l e room_1 s m #[Value.ref b] below meth c H locs 600000 7302250 Q (F0 m 114 ls []) := by
    intro M_114 H locs ls hf hO hS hl
    unfold J_L_law_114 at hf
    refine lv_iconst (v := 0) hx hb dL_law_114 (by decide) ?_
    exact jp_115 M_114 0 _ _ ls hf hO hS (lv_sub hl [0, 1] rfl)
  refine lv_icmp_ne (tgt := 114) hx hb dL_law_14 (by decide) (fun c_14 => ?_) (fun c_14 => ?_)
  · have hf := (if_neg c_14).symm.trans hf
    exact jp_114 r_9.2 _ _ ls hf hO hS (lv_sub hl [0, 1] rfl)
  have hf := (if_pos c_14).symm.trans hf
  refine lv_aload_n hx hb dL_law_17 rfl (lv_at hl 0 rfl) ?_
  refine lv_iconst (v := 0) hx hb dL_law_18 (by decide) ?_
  obtain ⟨r_19, hu_19, hf⟩ := bd_some hf
  refine ob_calli (va_runV (As := [.int 0]) (rest := []) ⟨hx, hb, hml, hown, hts⟩ (a_X5_restore l dC dI cI cJ cZ cO tL tH tF h0 a_o r_9.2 0  hu_19) (cwV 1 hts gL_law_X5_restore rfl rfl rfl (by decide +kernel) ⟨Nat.le_of_ble_eq_true rfl, Nat.le_of_ble_eq_true rfl⟩) (ob_preV hK hST hz hS hO) rfl rfl hl.1 rfl (lv_room (Nat.le_of_ble_eq_true rfl)) dL_law_19 ⟨Nat.le_of_ble_eq_true rfl, Nat.le_of_ble_eq_true rfl⟩) hS (fun H locs hO hS => ?_)
  refine lv_bipush (v := (-5)) hx hb dL_law_22 (by decide) ?_
  refine lv_icmp_ne (tgt := 114) hx hb dL_law_24 (by decide) (fun c_24 => ?_) (fun c_24 => ?_)
  · have hf := (if_neg c_24).symm.trans hf
    exact jp_114 r_19.2 _ _ ls hf hO hS (lv_sub hl [0, 1] rfl)
  have hf := (if_pos c_24).symm.trans hf
  refine lv_aload_n hx hb dL_law_27 rfl (lv_at hl 0 rfl) ?_
  refine lv_iconst (v := 1) hx hb dL_law_28 (by decide) ?_
  obtain ⟨r_29, hu_29, hf⟩ := bd_some hf
  refine ob_calli (va_runV (As := [.int 1]) (rest := []) ⟨hx, hb, hml, hown, hts⟩ (a_X5_restore l dC dI cI cJ cZ cO tL tH tF h0 a_o r_19.2 1  hu_29) (cwV 1 hts gL_law_X5_restore rfl rfl rfl (by decide +kernel) ⟨Nat.le_of_ble_eq_true rfl, Nat.le_of_ble_eq_true rfl⟩) (ob_preV hK hST hz hS hO) rfl rfl hl.1 rfl (lv_room (Nat.le_of_ble_eq_true rfl)) dL_law_29 ⟨Nat.le_of_ble_eq_true rfl, Nat.le_of_ble_eq_true rfl⟩) hS (fun H locs hO hS => ?_)
  refine lv_bipush (v := (-5)) hx hb dL_law_32 (by decide) ?_
  refine lv_icmp_ne (tgt := 114) hx hb dL_law_34 (by decide) (fun c_34 => ?_) (fun c_34 => ?_)
  · have hf := (if_neg c_34).symm.trans hf
    exact jp_114 r_29.2 _ _ ls hf hO hS (lv_sub hl [0, 1] rfl)
  have hf := (if_pos c_34).symm.trans hf
  refine lv_aload_n hx hb dL_law_37 rfl (lv_at hl 0 rfl) ?_
  refine lv_iconst (v := 0) hx hb dL_law_38 (by decide) ?_
  refine ob_calli (va_runV (As := [.int 0]) (rest := []) ⟨hx, hb, hml, hown, hts⟩ (a_X5_count l dC dI cI cJ cZ cO tL tH tF h0 a_o r_29.2 0 ) (cwV 1 hts gL_law_X5_count rfl rfl rfl (by decide +kernel) ⟨Nat.le_of_ble_eq_true rfl, Nat.le_of_ble_eq_true rfl⟩) (ob_preV hK hST hz hS hO) rfl rfl hl.1 rfl (lv_room (Nat.le_of_ble_eq_true rfl)) dL_law_39 ⟨Nat.le_of_ble_eq_true rfl, Nat.le_of_ble_eq_true rfl⟩) hS (fun H locs hO hS => ?_)
  refine lv_bipush (v := 12) hx hb dL_law_42 (by decide) ?_
  refine lv_icmp_ne (tgt := 114) hx hb dL_law_44 (by decide) (fun c_44 => ?_) (fun c_44 => ?_)
  · have hf := (if_neg c_44).symm.trans hf
    exact jp_114 r_29.2 _ _ ls hf hO hS (lv_sub hl [0, 1] rfl)
  have hf := (if_pos c_44).symm.trans hf
  refine lv_aload_n hx hb dL_law_47 rfl (lv_at hl 0 rfl) ?_
  refine lv_iconst (v := 1) hx hb dL_law_48 (by decide) ?_
  refine ob_calli (va_runV (As := [.int 1]) (rest := []) ⟨hx, hb, hml, hown, hts⟩ (a_X5_count l dC dI cI cJ cZ cO tL tH tF h0 a_o r_29.2 1 ) (cwV 1 hts gL_law_X5_count rfl rfl rfl (by decide +kernel) ⟨Nat.le_of_ble_eq_true rfl, Nat.le_of_ble_eq_true rfl⟩) (ob_preV hK hST hz hS hO) rfl rfl hl.1 rfl (lv_room (Nat.le_of_ble_eq_true rfl)) dL_law_49 ⟨Nat.le_of_ble_eq_true rfl, Nat.le_of_ble_eq_true rfl⟩) hS (fun H locs hO hS => ?_)
  refine lv_bipush (v := 12) hx hb dL_law_52 (by decide) ?_
  refine lv_icmp_ne (tgt := 114) hx hb dL_law_54 (by decide) (fun c_54 => ?_) (fun c_54 => ?_)
  · have hf := (if_neg c_54).symm.trans hf
    exact jp_114 r_29.2 _ _ ls hf hO hS (lv_sub hl [0, 1] rfl)
  have hf := (if_pos c_54).symm.trans hf
  refine lv_aload_n hx hb dL_law_57 rfl (lv_at hl 0 rfl) ?_
  refine lv_iconst (v := 2) hx hb dL_law_58 (by decide) ?_
  refine ob_calli (va_runV (As := [.int 2]) (rest := []) ⟨hx, hb, hml, hown, hts⟩ (a_X5_count l dC dI cI cJ cZ cO tL tH tF h0 a_o r_29.2 2 ) (cwV 1 hts gL_law_X5_count rfl rfl rfl (by decide +kernel) ⟨Nat.le_of_ble_eq_true rfl, Nat.le_of_ble_eq_true rfl⟩) (ob_preV hK hST hz hS hO) rfl rfl hl.1 rfl (lv_room (Nat.le_of_ble_eq_true rfl)) dL_law_59 ⟨Nat.le_of_ble_eq_true rfl, Nat.le_of_ble_eq_true rfl⟩) hS (fun H locs hO hS => ?_)
  refine lv_iconst (v := 2) hx hb dL_law_62 (by decide) ?_
  refine lv_icmp_ne (tgt := 114) hx hb dL_law_63 (by decide) (fun c_63 => ?_) (fun c_63 => ?_)
  · have hf := (if_neg c_63).symm.trans hf
    exact jp_114 r_29.2 _ _ ls hf hO hS (lv_sub hl [0, 1] rfl)
  have hf := (if_pos c_63).symm.trans hf
  refine lv_aload_n hx hb dL_law_66 rfl (lv_at hl 0 rfl) ?_
  refine lv_bipush (v := 8) hx hb dL_law_67 (by decide) ?_
  refine ob_calli (va_runV (As := [.int 8]) (rest := []) ⟨hx, hb, hml, hown, hts⟩ (a_X5_count l dC dI cI cJ cZ cO tL tH tF h0 a_o r_29.2 8 ) (cwV 1 hts gL_law_X5_count rfl rfl rfl (by decide +kernel) ⟨Nat.le_of_ble_eq_true rfl, Nat.le_of_ble_eq_true rfl⟩) (ob_preV hK hST hz hS hO) rfl rfl hl.1 rfl (lv_room (Nat.le_of_ble_eq_true rfl)) dL_law_69 ⟨Nat.le_of_ble_eq_true rfl, Nat.le_of_ble_eq_true rfl⟩) hS (fun H locs hO hS => ?_)
  refine lv_iconst (v := 1) hx hb dL_law_72 (by decide) ?_
  refine lv_icmp_ne (tgt := 114) hx hb dL_law_73 (by decide) (fun c_73 => ?_) (fun c_73 => ?_)
  · have hf := (if_neg c_73).symm.trans hf
    exact jp_114 r_29.2 _ _ ls hf hO hS (lv_sub hl [0, 1] rfl)
  have hf := (if_pos c_73).symm.trans hf
  refine lv_aload_n hx hb dL_law_76 rfl (lv_at hl 0 rfl) ?_
  refine lv_bipush (v := 9) hx hb dL_law_77 (by decide) ?_
  refine ob_calli (va_runV (As := [.int 9]) (rest := []) ⟨hx, hb, hml, hown, hts⟩ (a_X5_count l dC dI cI cJ cZ cO tL tH tF h0 a_o r_29.2 9 ) (cwV 1 hts gL_law_X5_count rfl rfl rfl (by decide +kernel) ⟨Nat.le_of_ble_eq_true rfl, Nat.le_of_ble_eq_true rfl⟩) (ob_preV hK hST hz hS hO) rfl rfl hl.1 rfl (lv_room (Nat.le_of_ble_eq_true rfl)) dL_law_79 ⟨Nat.le_of_ble_eq_true rfl, Nat.le_of_ble_eq_true rfl⟩) hS (fun H locs hO hS => ?_)
  refine lv_iconst (v := 1) hx hb dL_law_82 (by decide) ?_
  refine lv_icmp_ne (tgt := 114) hx hb dL_law_83 (by decide) (fun c_83 => ?_) (fun c_83 => ?_)
  · have hf := (if_neg c_83).symm.trans hf
    exact jp_114 r_29.2 _ _ ls hf hO hS (lv_sub hl [0, 1] rfl)
  have hf := (if_pos c_83).symm.trans hf
  refine lv_aload_n hx hb dL_law_86 rfl (lv_at hl 0 rfl) ?_
  refine lv_iconst (v := 0) hx hb dL_law_87 (by decide) ?_
  obtain ⟨r_88, hu_88, hf⟩ := bd_some hf
  refine ob_calli (va_runS (As := [.ref a_o, .int 0]) (rest := []) ⟨hx, hb, hml, hown, hts⟩ (c_L_refuses l dC dI cI cJ cZ cO tL tH tF h0 a_o r_29.2 0 _ hu_88) (va_cwS 2 hts gL_law_L_refuses rfl rfl rfl (by decide +kernel) ⟨Nat.le_of_ble_eq_true rfl, Nat.le_of_ble_eq_true rfl⟩) (ob_preS hK hST hz hS hO) rfl rfl hl.1 rfl (lv_room (Nat.le_of_ble_eq_true rfl)) dL_law_88 ⟨Nat.le_of_ble_eq_true rfl, Nat.le_of_ble_eq_true rfl⟩) hS (fun H locs hO hS => ?_)
  refine lv_if_eq (tgt := 114) hx hb dL_law_91 (by decide) (fun c_91 => ?_) (fun c_91 => ?_)
  · have hf := (if_pos c_91).symm.trans hf
    exact jp_114 r_88.2 _ _ ls hf hO hS (lv_sub hl [0, 1] rfl)
  have hf := (if_neg c_91).symm.trans hf
  refine lv_aload_n hx hb dL_law_94 rfl (lv_at hl 0 rfl) ?_
  refine lv_iconst (v := 1) hx hb dL_law_95 (by decide) ?_
  obtain ⟨r_96, hu_96, hf⟩ := bd_some hf
  refine ob_calli (va_runS (As := [.ref a_o, .int 1]) (rest := []) ⟨hx, hb, hml, hown, hts⟩ (c_L_refuses l dC dI cI cJ cZ cO tL tH tF h0 a_o r_88.2 1 _ hu_96) (va_cwS 2 hts gL_law_L_refuses rfl rfl rfl (by decide +kernel) ⟨Nat.le_of_ble_eq_true rfl, Nat.le_of_ble_eq_true rfl⟩) (ob_preS hK hST hz hS hO) rfl rfl hl.1 rfl (lv_room (Nat.le_of_ble_eq_true rfl)) dL_law_96 ⟨Nat.le_of_ble_eq_true rfl, Nat.le_of_ble_eq_true rfl⟩) hS (fun H locs hO hS => ?_)
  refine lv_if_eq (tgt := 114) hx hb dL_law_99 (by decide) (fun c_99 => ?_) (fun c_99 => ?_)
  · have hf := (if_pos c_99).symm.trans hf
    exact jp_114 r_96.2 _ _ ls hf hO hS (lv_sub hl [0, 1] rfl)
  have hf := (if_neg c_99).symm.trans hf
  refine lv_aload_n hx hb dL_law_102 rfl (lv_at hl 0 rfl) ?_
  refine lv_iconst (v := 1) hx hb dL_law_103 (by decide) ?_
  obtain ⟨r_104, hu_104, hf⟩ := bd_some hf
  refine ob_calli (va_runV (As := [.int 1]) (rest := []) ⟨hx, hb, hml, hown, hts⟩ (a_X5_save l dC dI cI cJ cZ cO tL tH tF h0 a_o r_96.2 1  hu_104) (cwV 1 hts gL_law_X5_save rfl rfl rfl (by decide +kernel) ⟨Nat.le_of_ble_eq_true rfl, Nat.le_of_ble_eq_true rfl⟩) (ob_preV hK hST hz hS hO) rfl rfl hl.1 rfl (lv_room (Nat.le_of_ble_eq_true rfl)) dL_law_104 ⟨Nat.le_of_ble_eq_true rfl, Nat.le_of_ble_eq_true rfl⟩) hS (fun H locs hO hS => ?_)
  refine lv_if_ne (tgt := 114) hx hb dL_law_107 (by decide) (fun c_107 => ?_) (fun c_107 => ?_)
  · have hf := (if_neg c_107).symm.trans hf
    exact jp_114 r_104.2 _ _ ls hf hO hS (lv_sub hl [0, 1] rfl)
  have hf := (if_pos c_107).symm.trans hf
  refine lv_iconst (v := 1) hx hb dL_law_110 (by decide) ?_
  refine lv_goto (tgt := 115) hx hb dL_law_111 (by decide) ?_
  exact jp_115 r_104.2 1 _ _ ls hf hO hS (lv_sub hl [0, 1] rfl)
