/-! walks: L_refusesAny L_refuses L_word -/
abbrev rm_L_refusesAny : Room := { frames := 7, cells := 0, slots := 0, locals := 165 }
set_option maxHeartbeats 4000000 in
set_option maxRecDepth 100000 in
theorem c_L_refusesAny (l : Launch) (dC : Nat → ClassId) (dI : Nat → Nat → Nat) (cI cJ cZ cO : ClassId) (tL tH tF h0 a_o : Nat) (M : ObjT) (i_1 : Int32) (res : Int32 × ObjT) (hf : f_L_refusesAny M i_1 = some res) : Met l yL_refusesAny wsL_refusesAny rm_L_refusesAny (obP dC dI cI cJ cZ cO tL tH tF h0 a_o M [.ref a_o, .int i_1]) (obQi dC dI cI cJ cZ cO h0 a_o res.1 res.2) 0 0 (oA0 h0) := by
  refine Met.ofW (cc := cL_refusesAny) (maxL := 4) (ret := (some .boolean)) (by decide) rfl ?_
  intro p e s m args below meth c s₁ B hml hv
  obtain ⟨rfl, hO, hK, hST, hz⟩ := hv
  have hx := B.exec
  have hb := B.bytes
  have hr := B.returns
  have hts := atoms_spec (ws := wsL_refusesAny) B.pre
  have hown : s.vm.findClass RL = some m.cls := findClass_of_methodNamed B.named
  have hlocks := B.notSynchronized
  have hw0 := hts (.constantLong RL 50 (6371893)) (by decide +kernel)
  have hl := lv_entry ([.ref a_o, .int i_1]) (n := 4) (Nat.le_of_ble_eq_true rfl)
  rw [lg_entry_eq]
  generalize (lg_sl ([.ref a_o, .int i_1]) ++ List.replicate (4 - (lg_sl ([.ref a_o, .int i_1])).length) Slot.unset).toArray = ls at hl ⊢
  have hl : lv_has ls 4 [(0, .ref a_o), (1, .int i_1)] := hl
  refine W_gen (fun Q hQ => ?_)
  refine ob_start hO (fun H locs hO hS => ?_)
  unfold f_L_refusesAny at hf
  refine lv_iload_n hx hb dL_refusesAny_0 rfl (lv_at hl 1 rfl) ?_
  refine lv_iconst (v := 2) hx hb dL_refusesAny_1 (by decide) ?_
  refine lv_irem hx hb dL_refusesAny_2 (by decide) ?_
  refine lv_rei (x' := (remI i_1 2)) rfl ?_
  have jp_25 : ∀ (s0_25 : Int32) (H : Heap) (locs : List Loc) (ls : Array Slot) (hf : J_L_refusesAny_25 i_1 M s0_25 = some res) (hO : OBJ dC dI cI cJ cZ cO h0 a_o M H) (hS : va_S (oA0 h0) s.heap H locs) (hl : lv_has ls 4 [(0, .ref a_o), (1, .int i_1)]), W p l e (headSpec wsL_refusesAny rm_L_refusesAny).room s m ([.ref a_o, .int i_1] : List Value).toArray below meth c H locs 0 0 Q (F0 m 25 ls [.int s0_25]) := by
    intro s0_25 H locs ls hf hO hS hl
    unfold J_L_refusesAny_25 at hf
    refine lv_istore_n (lv' := [(2, .int s0_25), (0, .ref a_o), (1, .int i_1)]) hx hb dL_refusesAny_25 rfl hl (by decide) rfl (fun ls hl => ?_)
    refine lv_aload_n hx hb dL_refusesAny_26 rfl (lv_at hl 1 rfl) ?_
    refine lv_iload_n hx hb dL_refusesAny_27 rfl (lv_at hl 2 rfl) ?_
    refine lv_iconst (v := 2) hx hb dL_refusesAny_28 (by decide) ?_
    refine lv_irem hx hb dL_refusesAny_29 (by decide) ?_
    refine lv_rei (x' := (remI i_1 2)) rfl ?_
    have jp_38 : ∀ (s0_38 : Int32) (H : Heap) (locs : List Loc) (ls : Array Slot) (hf : J_L_refusesAny_38 i_1 M s0_25 s0_38 = some res) (hO : OBJ dC dI cI cJ cZ cO h0 a_o M H) (hS : va_S (oA0 h0) s.heap H locs) (hl : lv_has ls 4 [(2, .int s0_25), (0, .ref a_o), (1, .int i_1)]), W p l e (headSpec wsL_refusesAny rm_L_refusesAny).room s m ([.ref a_o, .int i_1] : List Value).toArray below meth c H locs 0 0 Q (F0 m 38 ls [.int s0_38, .ref a_o]) := by
      intro s0_38 H locs ls hf hO hS hl
      unfold J_L_refusesAny_38 at hf
      refine lv_bipush (v := 6) hx hb dL_refusesAny_38 (by decide) ?_
      obtain ⟨r_40, hu_40, hf⟩ := bd_some hf
      refine ob_calli (va_runV (As := [.int s0_38, .int 6]) (rest := []) ⟨hx, hb, hml, hown, hts⟩ (a_X5_set l dC dI cI cJ cZ cO tL tH tF h0 a_o M s0_38 6  hu_40) (cwV 2 hts gL_refusesAny_X5_set rfl rfl rfl (by decide +kernel) ⟨Nat.le_of_ble_eq_true rfl, Nat.le_of_ble_eq_true rfl⟩) (ob_preV hK hST hz hS hO) rfl rfl hl.1 rfl (lv_room (Nat.le_of_ble_eq_true rfl)) dL_refusesAny_40 ⟨Nat.le_of_ble_eq_true rfl, Nat.le_of_ble_eq_true rfl⟩) hS (fun H locs hO hS => ?_)
      refine lv_bipush (v := (-2)) hx hb dL_refusesAny_43 (by decide) ?_
      have jp_290 : ∀ (M_290 : ObjT) (s0_290 : Int32) (H : Heap) (locs : List Loc) (ls : Array Slot) (hf : J_L_refusesAny_290 i_1 s0_25 M_290 s0_290 = some res) (hO : OBJ dC dI cI cJ cZ cO h0 a_o M_290 H) (hS : va_S (oA0 h0) s.heap H locs) (hl : lv_has ls 4 [(2, .int s0_25), (0, .ref a_o), (1, .int i_1)]), W p l e (headSpec wsL_refusesAny rm_L_refusesAny).room s m ([.ref a_o, .int i_1] : List Value).toArray below meth c H locs 0 0 Q (F0 m 290 ls [.int s0_290]) := by
        intro M_290 s0_290 H locs ls hf hO hS hl
        unfold J_L_refusesAny_290 at hf
        refine lv_istore_n (lv' := [(3, .int s0_290), (2, .int s0_25), (0, .ref a_o), (1, .int i_1)]) hx hb dL_refusesAny_290 rfl hl (by decide) rfl (fun ls hl => ?_)
        refine lv_iload_n hx hb dL_refusesAny_291 rfl (lv_at hl 0 rfl) ?_
        refine lv_if_eq (tgt := 557) hx hb dL_refusesAny_292 (by decide) (fun c_292 => ?_) (fun c_292 => ?_)
        · have hf := (if_pos c_292).symm.trans hf
          refine lv_iconst (v := 0) hx hb dL_refusesAny_557 (by decide) ?_
          refine lv_istore_n (lv' := [(3, .int 0), (2, .int s0_25), (0, .ref a_o), (1, .int i_1)]) hx hb dL_refusesAny_558 rfl hl (by decide) rfl (fun ls hl => ?_)
          refine lv_iload_n hx hb dL_refusesAny_559 rfl (lv_at hl 0 rfl) ?_
          have hq := Option.some.inj hf
          rw [hQ]; exact W.zret (v := 0) hx hb hr rfl (fun t ht hW => ⟨⟨0, M_290, rfl, ⟨by rw [← hq], by rw [← hq]⟩, by dsimp only; rw [ht]; exact hO⟩, hS.F ht⟩) hS.2.2 dL_refusesAny_560
        have hf := (if_neg c_292).symm.trans hf
        refine lv_aload_n hx hb dL_refusesAny_295 rfl (lv_at hl 2 rfl) ?_
        refine lv_iload_n hx hb dL_refusesAny_296 rfl (lv_at hl 1 rfl) ?_
        refine lv_iconst (v := (-1)) hx hb dL_refusesAny_297 (by decide) ?_
        refine ob_calli (va_runV (As := [.int s0_25, .int (-1)]) (rest := []) ⟨hx, hb, hml, hown, hts⟩ (a_X5_entry l dC dI cI cJ cZ cO tL tH tF h0 a_o M_290 s0_25 (-1) ) (cwV 2 hts gL_refusesAny_X5_entry rfl rfl rfl (by decide +kernel) ⟨Nat.le_of_ble_eq_true rfl, Nat.le_of_ble_eq_true rfl⟩) (ob_preV hK hST hz hS hO) rfl rfl hl.1 rfl (lv_room (Nat.le_of_ble_eq_true rfl)) dL_refusesAny_298 ⟨Nat.le_of_ble_eq_true rfl, Nat.le_of_ble_eq_true rfl⟩) hS (fun H locs hO hS => ?_)
        refine lv_iconst (v := (-1)) hx hb dL_refusesAny_301 (by decide) ?_
        refine lv_icmp_ne (tgt := 557) hx hb dL_refusesAny_302 (by decide) (fun c_302 => ?_) (fun c_302 => ?_)
        · have hf := (if_neg c_302).symm.trans hf
          refine lv_iconst (v := 0) hx hb dL_refusesAny_557 (by decide) ?_
          refine lv_istore_n (lv' := [(3, .int 0), (2, .int s0_25), (0, .ref a_o), (1, .int i_1)]) hx hb dL_refusesAny_558 rfl hl (by decide) rfl (fun ls hl => ?_)
          refine lv_iload_n hx hb dL_refusesAny_559 rfl (lv_at hl 0 rfl) ?_
          have hq := Option.some.inj hf
          rw [hQ]; exact W.zret (v := 0) hx hb hr rfl (fun t ht hW => ⟨⟨0, M_290, rfl, ⟨by rw [← hq], by rw [← hq]⟩, by dsimp only; rw [ht]; exact hO⟩, hS.F ht⟩) hS.2.2 dL_refusesAny_560
        have hf := (if_pos c_302).symm.trans hf
        refine lv_aload_n hx hb dL_refusesAny_305 rfl (lv_at hl 2 rfl) ?_
        refine lv_aload_n hx hb dL_refusesAny_306 rfl (lv_at hl 2 rfl) ?_
        refine lv_iconst (v := 4) hx hb dL_refusesAny_307 (by decide) ?_
        refine ob_calli (va_runV (As := [.int 4]) (rest := [.ref a_o]) ⟨hx, hb, hml, hown, hts⟩ (a_X5_count l dC dI cI cJ cZ cO tL tH tF h0 a_o M_290 4 ) (cwV 1 hts gL_refusesAny_X5_count rfl rfl rfl (by decide +kernel) ⟨Nat.le_of_ble_eq_true rfl, Nat.le_of_ble_eq_true rfl⟩) (ob_preV hK hST hz hS hO) rfl rfl hl.1 rfl (lv_room (Nat.le_of_ble_eq_true rfl)) dL_refusesAny_308 ⟨Nat.le_of_ble_eq_true rfl, Nat.le_of_ble_eq_true rfl⟩) hS (fun H locs hO hS => ?_)
        refine lv_iconst (v := (-1)) hx hb dL_refusesAny_311 (by decide) ?_
        refine ob_calli (va_runV (As := [.int (aCount M_290 4), .int (-1)]) (rest := []) ⟨hx, hb, hml, hown, hts⟩ (a_X5_page l dC dI cI cJ cZ cO tL tH tF h0 a_o M_290 (aCount M_290 4) (-1) ) (cwV 2 hts gL_refusesAny_X5_page rfl rfl rfl (by decide +kernel) ⟨Nat.le_of_ble_eq_true rfl, Nat.le_of_ble_eq_true rfl⟩) (ob_preV hK hST hz hS hO) rfl rfl hl.1 rfl (lv_room (Nat.le_of_ble_eq_true rfl)) dL_refusesAny_312 ⟨Nat.le_of_ble_eq_true rfl, Nat.le_of_ble_eq_true rfl⟩) hS (fun H locs hO hS => ?_)
        refine lv_iconst (v := (-1)) hx hb dL_refusesAny_315 (by decide) ?_
        refine lv_icmp_ne (tgt := 557) hx hb dL_refusesAny_316 (by decide) (fun c_316 => ?_) (fun c_316 => ?_)
        · have hf := (if_neg c_316).symm.trans hf
          refine lv_iconst (v := 0) hx hb dL_refusesAny_557 (by decide) ?_
          refine lv_istore_n (lv' := [(3, .int 0), (2, .int s0_25), (0, .ref a_o), (1, .int i_1)]) hx hb dL_refusesAny_558 rfl hl (by decide) rfl (fun ls hl => ?_)
          refine lv_iload_n hx hb dL_refusesAny_559 rfl (lv_at hl 0 rfl) ?_
          have hq := Option.some.inj hf
          rw [hQ]; exact W.zret (v := 0) hx hb hr rfl (fun t ht hW => ⟨⟨0, M_290, rfl, ⟨by rw [← hq], by rw [← hq]⟩, by dsimp only; rw [ht]; exact hO⟩, hS.F ht⟩) hS.2.2 dL_refusesAny_560
        have hf := (if_pos c_316).symm.trans hf
        refine lv_aload_n hx hb dL_refusesAny_319 rfl (lv_at hl 2 rfl) ?_
        refine lv_iconst (v := (-1)) hx hb dL_refusesAny_320 (by decide) ?_
        refine lv_iconst (v := 0) hx hb dL_refusesAny_321 (by decide) ?_
        refine ob_calli (va_runV (As := [.int (-1), .int 0]) (rest := []) ⟨hx, hb, hml, hown, hts⟩ (a_X5_page l dC dI cI cJ cZ cO tL tH tF h0 a_o M_290 (-1) 0 ) (cwV 2 hts gL_refusesAny_X5_page rfl rfl rfl (by decide +kernel) ⟨Nat.le_of_ble_eq_true rfl, Nat.le_of_ble_eq_true rfl⟩) (ob_preV hK hST hz hS hO) rfl rfl hl.1 rfl (lv_room (Nat.le_of_ble_eq_true rfl)) dL_refusesAny_322 ⟨Nat.le_of_ble_eq_true rfl, Nat.le_of_ble_eq_true rfl⟩) hS (fun H locs hO hS => ?_)
        refine lv_iconst (v := (-1)) hx hb dL_refusesAny_325 (by decide) ?_
        refine lv_icmp_ne (tgt := 557) hx hb dL_refusesAny_326 (by decide) (fun c_326 => ?_) (fun c_326 => ?_)
        · have hf := (if_neg c_326).symm.trans hf
          refine lv_iconst (v := 0) hx hb dL_refusesAny_557 (by decide) ?_
          refine lv_istore_n (lv' := [(3, .int 0), (2, .int s0_25), (0, .ref a_o), (1, .int i_1)]) hx hb dL_refusesAny_558 rfl hl (by decide) rfl (fun ls hl => ?_)
          refine lv_iload_n hx hb dL_refusesAny_559 rfl (lv_at hl 0 rfl) ?_
          have hq := Option.some.inj hf
          rw [hQ]; exact W.zret (v := 0) hx hb hr rfl (fun t ht hW => ⟨⟨0, M_290, rfl, ⟨by rw [← hq], by rw [← hq]⟩, by dsimp only; rw [ht]; exact hO⟩, hS.F ht⟩) hS.2.2 dL_refusesAny_560
        have hf := (if_pos c_326).symm.trans hf
        refine lv_aload_n hx hb dL_refusesAny_329 rfl (lv_at hl 2 rfl) ?_
        refine lv_aload_n hx hb dL_refusesAny_330 rfl (lv_at hl 2 rfl) ?_
        refine lv_iconst (v := 5) hx hb dL_refusesAny_331 (by decide) ?_
        refine ob_calli (va_runV (As := [.int 5]) (rest := [.ref a_o]) ⟨hx, hb, hml, hown, hts⟩ (a_X5_count l dC dI cI cJ cZ cO tL tH tF h0 a_o M_290 5 ) (cwV 1 hts gL_refusesAny_X5_count rfl rfl rfl (by decide +kernel) ⟨Nat.le_of_ble_eq_true rfl, Nat.le_of_ble_eq_true rfl⟩) (ob_preV hK hST hz hS hO) rfl rfl hl.1 rfl (lv_room (Nat.le_of_ble_eq_true rfl)) dL_refusesAny_332 ⟨Nat.le_of_ble_eq_true rfl, Nat.le_of_ble_eq_true rfl⟩) hS (fun H locs hO hS => ?_)
        refine lv_iload_n hx hb dL_refusesAny_335 rfl (lv_at hl 3 rfl) ?_
        refine lv_iconst (v := 2) hx hb dL_refusesAny_336 (by decide) ?_
        refine lv_irem hx hb dL_refusesAny_337 (by decide) ?_
        refine lv_rei (x' := (remI i_1 2)) rfl ?_
        have jp_346 : ∀ (s0_346 : Int32) (H : Heap) (locs : List Loc) (ls : Array Slot) (hf : J_L_refusesAny_346 i_1 M_290 s0_346 = some res) (hO : OBJ dC dI cI cJ cZ cO h0 a_o M_290 H) (hS : va_S (oA0 h0) s.heap H locs) (hl : lv_has ls 4 [(0, .ref a_o), (1, .int i_1)]), W p l e (headSpec wsL_refusesAny rm_L_refusesAny).room s m ([.ref a_o, .int i_1] : List Value).toArray below meth c H locs 0 0 Q (F0 m 346 ls [.int s0_346, .int (aCount M_290 5), .ref a_o]) := by
          intro s0_346 H locs ls hf hO hS hl
          unfold J_L_refusesAny_346 at hf
          obtain ⟨r_346, hu_346, hf⟩ := bd_some hf
          refine ob_calli (va_runV (As := [.int (aCount M_290 5), .int s0_346]) (rest := []) ⟨hx, hb, hml, hown, hts⟩ (a_X5_fold l dC dI cI cJ cZ cO tL tH tF h0 a_o M_290 (aCount M_290 5) s0_346  hu_346) (cwV 2 hts gL_refusesAny_X5_fold rfl rfl rfl (by decide +kernel) ⟨Nat.le_of_ble_eq_true rfl, Nat.le_of_ble_eq_true rfl⟩) (ob_preV hK hST hz hS hO) rfl rfl hl.1 rfl (lv_room (Nat.le_of_ble_eq_true rfl)) dL_refusesAny_346 ⟨Nat.le_of_ble_eq_true rfl, Nat.le_of_ble_eq_true rfl⟩) hS (fun H locs hO hS => ?_)
          refine lv_iconst (v := (-1)) hx hb dL_refusesAny_349 (by decide) ?_
          refine lv_icmp_ne (tgt := 557) hx hb dL_refusesAny_350 (by decide) (fun c_350 => ?_) (fun c_350 => ?_)
          · have hf := (if_neg c_350).symm.trans hf
            refine lv_iconst (v := 0) hx hb dL_refusesAny_557 (by decide) ?_
            refine lv_istore_n (lv' := [(3, .int 0), (0, .ref a_o), (1, .int i_1)]) hx hb dL_refusesAny_558 rfl hl (by decide) rfl (fun ls hl => ?_)
            refine lv_iload_n hx hb dL_refusesAny_559 rfl (lv_at hl 0 rfl) ?_
            have hq := Option.some.inj hf
            rw [hQ]; exact W.zret (v := 0) hx hb hr rfl (fun t ht hW => ⟨⟨0, M_290, rfl, ⟨by rw [← hq], by rw [← hq]⟩, by dsimp only; rw [ht]; exact hO⟩, hS.F ht⟩) hS.2.2 dL_refusesAny_560
          have hf := (if_pos c_350).symm.trans hf
          refine lv_aload_n hx hb dL_refusesAny_353 rfl (lv_at hl 0 rfl) ?_
          refine lv_iconst (v := (-1)) hx hb dL_refusesAny_354 (by decide) ?_
          refine lv_iconst (v := 1) hx hb dL_refusesAny_355 (by decide) ?_
          obtain ⟨r_356, hu_356, hf⟩ := bd_some hf
          refine ob_calli (va_runV (As := [.int (-1), .int 1]) (rest := []) ⟨hx, hb, hml, hown, hts⟩ (a_X5_fold l dC dI cI cJ cZ cO tL tH tF h0 a_o M_290 (-1) 1  hu_356) (cwV 2 hts gL_refusesAny_X5_fold rfl rfl rfl (by decide +kernel) ⟨Nat.le_of_ble_eq_true rfl, Nat.le_of_ble_eq_true rfl⟩) (ob_preV hK hST hz hS hO) rfl rfl hl.1 rfl (lv_room (Nat.le_of_ble_eq_true rfl)) dL_refusesAny_356 ⟨Nat.le_of_ble_eq_true rfl, Nat.le_of_ble_eq_true rfl⟩) hS (fun H locs hO hS => ?_)
          refine lv_iconst (v := (-1)) hx hb dL_refusesAny_359 (by decide) ?_
          refine lv_icmp_ne (tgt := 557) hx hb dL_refusesAny_360 (by decide) (fun c_360 => ?_) (fun c_360 => ?_)
          · have hf := (if_neg c_360).symm.trans hf
            refine lv_iconst (v := 0) hx hb dL_refusesAny_557 (by decide) ?_
            refine lv_istore_n (lv' := [(3, .int 0), (0, .ref a_o), (1, .int i_1)]) hx hb dL_refusesAny_558 rfl hl (by decide) rfl (fun ls hl => ?_)
            refine lv_iload_n hx hb dL_refusesAny_559 rfl (lv_at hl 0 rfl) ?_
            have hq := Option.some.inj hf
            rw [hQ]; exact W.zret (v := 0) hx hb hr rfl (fun t ht hW => ⟨⟨0, M_290, rfl, ⟨by rw [← hq], by rw [← hq]⟩, by dsimp only; rw [ht]; exact hO⟩, hS.F ht⟩) hS.2.2 dL_refusesAny_560
          have hf := (if_pos c_360).symm.trans hf
          refine lv_aload_n hx hb dL_refusesAny_363 rfl (lv_at hl 0 rfl) ?_
          refine lv_iload_n hx hb dL_refusesAny_364 rfl (lv_at hl 1 rfl) ?_
          refine lv_iconst (v := 2) hx hb dL_refusesAny_365 (by decide) ?_
          refine lv_irem hx hb dL_refusesAny_366 (by decide) ?_
          refine lv_rei (x' := (remI i_1 2)) rfl ?_
          have jp_376 : ∀ (s0_376 : Int32) (H : Heap) (locs : List Loc) (ls : Array Slot) (hf : J_L_refusesAny_376 i_1 M_290 s0_376 = some res) (hO : OBJ dC dI cI cJ cZ cO h0 a_o M_290 H) (hS : va_S (oA0 h0) s.heap H locs) (hl : lv_has ls 4 [(0, .ref a_o), (1, .int i_1)]), W p l e (headSpec wsL_refusesAny rm_L_refusesAny).room s m ([.ref a_o, .int i_1] : List Value).toArray below meth c H locs 0 0 Q (F0 m 376 ls [.int s0_376, .ref a_o]) := by
            intro s0_376 H locs ls hf hO hS hl
            unfold J_L_refusesAny_376 at hf
            refine ob_calli (va_runV (As := [.int s0_376]) (rest := []) ⟨hx, hb, hml, hown, hts⟩ (a_X5_count l dC dI cI cJ cZ cO tL tH tF h0 a_o M_290 s0_376 ) (cwV 1 hts gL_refusesAny_X5_count rfl rfl rfl (by decide +kernel) ⟨Nat.le_of_ble_eq_true rfl, Nat.le_of_ble_eq_true rfl⟩) (ob_preV hK hST hz hS hO) rfl rfl hl.1 rfl (lv_room (Nat.le_of_ble_eq_true rfl)) dL_refusesAny_376 ⟨Nat.le_of_ble_eq_true rfl, Nat.le_of_ble_eq_true rfl⟩) hS (fun H locs hO hS => ?_)
            refine lv_bipush (v := (-2)) hx hb dL_refusesAny_379 (by decide) ?_
            refine lv_icmp_ne (tgt := 557) hx hb dL_refusesAny_381 (by decide) (fun c_381 => ?_) (fun c_381 => ?_)
            · have hf := (if_neg c_381).symm.trans hf
              refine lv_iconst (v := 0) hx hb dL_refusesAny_557 (by decide) ?_
              refine lv_istore_n (lv' := [(3, .int 0), (0, .ref a_o), (1, .int i_1)]) hx hb dL_refusesAny_558 rfl hl (by decide) rfl (fun ls hl => ?_)
              refine lv_iload_n hx hb dL_refusesAny_559 rfl (lv_at hl 0 rfl) ?_
              have hq := Option.some.inj hf
              rw [hQ]; exact W.zret (v := 0) hx hb hr rfl (fun t ht hW => ⟨⟨0, M_290, rfl, ⟨by rw [← hq], by rw [← hq]⟩, by dsimp only; rw [ht]; exact hO⟩, hS.F ht⟩) hS.2.2 dL_refusesAny_560
            have hf := (if_pos c_381).symm.trans hf
            refine lv_aload_n hx hb dL_refusesAny_384 rfl (lv_at hl 0 rfl) ?_
            refine lv_iload_n hx hb dL_refusesAny_385 rfl (lv_at hl 1 rfl) ?_
            refine lv_iconst (v := 2) hx hb dL_refusesAny_386 (by decide) ?_
            refine lv_irem hx hb dL_refusesAny_387 (by decide) ?_
            refine lv_rei (x' := (remI i_1 2)) rfl ?_
            have jp_396 : ∀ (s0_396 : Int32) (H : Heap) (locs : List Loc) (ls : Array Slot) (hf : J_L_refusesAny_396 i_1 M_290 s0_396 = some res) (hO : OBJ dC dI cI cJ cZ cO h0 a_o M_290 H) (hS : va_S (oA0 h0) s.heap H locs) (hl : lv_has ls 4 [(0, .ref a_o), (1, .int i_1)]), W p l e (headSpec wsL_refusesAny rm_L_refusesAny).room s m ([.ref a_o, .int i_1] : List Value).toArray below meth c H locs 0 0 Q (F0 m 396 ls [.int s0_396, .ref a_o]) := by
              intro s0_396 H locs ls hf hO hS hl
              unfold J_L_refusesAny_396 at hf
              refine lv_bipush (v := 6) hx hb dL_refusesAny_396 (by decide) ?_
              refine ob_calli (va_runV (As := [.int s0_396, .int 6]) (rest := []) ⟨hx, hb, hml, hown, hts⟩ (a_X5_ifSet l dC dI cI cJ cZ cO tL tH tF h0 a_o M_290 s0_396 6 ) (cwV 2 hts gL_refusesAny_X5_ifSet rfl rfl rfl (by decide +kernel) ⟨Nat.le_of_ble_eq_true rfl, Nat.le_of_ble_eq_true rfl⟩) (ob_preV hK hST hz hS hO) rfl rfl hl.1 rfl (lv_room (Nat.le_of_ble_eq_true rfl)) dL_refusesAny_398 ⟨Nat.le_of_ble_eq_true rfl, Nat.le_of_ble_eq_true rfl⟩) hS (fun H locs hO hS => ?_)
              refine lv_bipush (v := (-2)) hx hb dL_refusesAny_401 (by decide) ?_
              refine lv_icmp_ne (tgt := 557) hx hb dL_refusesAny_403 (by decide) (fun c_403 => ?_) (fun c_403 => ?_)
              · have hf := (if_neg c_403).symm.trans hf
                refine lv_iconst (v := 0) hx hb dL_refusesAny_557 (by decide) ?_
                refine lv_istore_n (lv' := [(3, .int 0), (0, .ref a_o), (1, .int i_1)]) hx hb dL_refusesAny_558 rfl hl (by decide) rfl (fun ls hl => ?_)
                refine lv_iload_n hx hb dL_refusesAny_559 rfl (lv_at hl 0 rfl) ?_
                have hq := Option.some.inj hf
                rw [hQ]; exact W.zret (v := 0) hx hb hr rfl (fun t ht hW => ⟨⟨0, M_290, rfl, ⟨by rw [← hq], by rw [← hq]⟩, by dsimp only; rw [ht]; exact hO⟩, hS.F ht⟩) hS.2.2 dL_refusesAny_560
              have hf := (if_pos c_403).symm.trans hf
              refine lv_aload_n hx hb dL_refusesAny_406 rfl (lv_at hl 0 rfl) ?_
              refine lv_iconst (v := 0) hx hb dL_refusesAny_407 (by decide) ?_
              refine lv_iload_n hx hb dL_refusesAny_408 rfl (lv_at hl 1 rfl) ?_
              refine lv_iconst (v := 2) hx hb dL_refusesAny_409 (by decide) ?_
              refine lv_irem hx hb dL_refusesAny_410 (by decide) ?_
              refine lv_rei (x' := (remI i_1 2)) rfl ?_
              have jp_420 : ∀ (s0_420 : Int32) (H : Heap) (locs : List Loc) (ls : Array Slot) (hf : J_L_refusesAny_420 i_1 M_290 s0_420 = some res) (hO : OBJ dC dI cI cJ cZ cO h0 a_o M_290 H) (hS : va_S (oA0 h0) s.heap H locs) (hl : lv_has ls 4 [(0, .ref a_o), (1, .int i_1)]), W p l e (headSpec wsL_refusesAny rm_L_refusesAny).room s m ([.ref a_o, .int i_1] : List Value).toArray below meth c H locs 0 0 Q (F0 m 420 ls [.int s0_420, .int 0, .ref a_o]) := by
                intro s0_420 H locs ls hf hO hS hl
                unfold J_L_refusesAny_420 at hf
                refine ob_calli (va_runV (As := [.int 0, .int s0_420]) (rest := []) ⟨hx, hb, hml, hown, hts⟩ (a_X5_ifSet l dC dI cI cJ cZ cO tL tH tF h0 a_o M_290 0 s0_420 ) (cwV 2 hts gL_refusesAny_X5_ifSet rfl rfl rfl (by decide +kernel) ⟨Nat.le_of_ble_eq_true rfl, Nat.le_of_ble_eq_true rfl⟩) (ob_preV hK hST hz hS hO) rfl rfl hl.1 rfl (lv_room (Nat.le_of_ble_eq_true rfl)) dL_refusesAny_420 ⟨Nat.le_of_ble_eq_true rfl, Nat.le_of_ble_eq_true rfl⟩) hS (fun H locs hO hS => ?_)
                refine lv_bipush (v := (-2)) hx hb dL_refusesAny_423 (by decide) ?_
                refine lv_icmp_ne (tgt := 557) hx hb dL_refusesAny_425 (by decide) (fun c_425 => ?_) (fun c_425 => ?_)
                · have hf := (if_neg c_425).symm.trans hf
                  refine lv_iconst (v := 0) hx hb dL_refusesAny_557 (by decide) ?_
                  refine lv_istore_n (lv' := [(3, .int 0), (0, .ref a_o), (1, .int i_1)]) hx hb dL_refusesAny_558 rfl hl (by decide) rfl (fun ls hl => ?_)
                  refine lv_iload_n hx hb dL_refusesAny_559 rfl (lv_at hl 0 rfl) ?_
                  have hq := Option.some.inj hf
                  rw [hQ]; exact W.zret (v := 0) hx hb hr rfl (fun t ht hW => ⟨⟨0, M_290, rfl, ⟨by rw [← hq], by rw [← hq]⟩, by dsimp only; rw [ht]; exact hO⟩, hS.F ht⟩) hS.2.2 dL_refusesAny_560
                have hf := (if_pos c_425).symm.trans hf
                refine lv_aload_n hx hb dL_refusesAny_428 rfl (lv_at hl 0 rfl) ?_
                refine lv_iconst (v := 1) hx hb dL_refusesAny_429 (by decide) ?_
                refine lv_iload_n hx hb dL_refusesAny_430 rfl (lv_at hl 1 rfl) ?_
                refine lv_iconst (v := 2) hx hb dL_refusesAny_431 (by decide) ?_
                refine lv_irem hx hb dL_refusesAny_432 (by decide) ?_
                refine lv_rei (x' := (remI i_1 2)) rfl ?_
                have jp_442 : ∀ (s0_442 : Int32) (H : Heap) (locs : List Loc) (ls : Array Slot) (hf : J_L_refusesAny_442 i_1 M_290 s0_442 = some res) (hO : OBJ dC dI cI cJ cZ cO h0 a_o M_290 H) (hS : va_S (oA0 h0) s.heap H locs) (hl : lv_has ls 4 [(0, .ref a_o), (1, .int i_1)]), W p l e (headSpec wsL_refusesAny rm_L_refusesAny).room s m ([.ref a_o, .int i_1] : List Value).toArray below meth c H locs 0 0 Q (F0 m 442 ls [.int s0_442, .int 1, .ref a_o]) := by
                  intro s0_442 H locs ls hf hO hS hl
                  unfold J_L_refusesAny_442 at hf
                  refine ob_calli (va_runV (As := [.int 1, .int s0_442]) (rest := []) ⟨hx, hb, hml, hown, hts⟩ (a_X5_ifSet l dC dI cI cJ cZ cO tL tH tF h0 a_o M_290 1 s0_442 ) (cwV 2 hts gL_refusesAny_X5_ifSet rfl rfl rfl (by decide +kernel) ⟨Nat.le_of_ble_eq_true rfl, Nat.le_of_ble_eq_true rfl⟩) (ob_preV hK hST hz hS hO) rfl rfl hl.1 rfl (lv_room (Nat.le_of_ble_eq_true rfl)) dL_refusesAny_442 ⟨Nat.le_of_ble_eq_true rfl, Nat.le_of_ble_eq_true rfl⟩) hS (fun H locs hO hS => ?_)
                  refine lv_bipush (v := (-2)) hx hb dL_refusesAny_445 (by decide) ?_
                  refine lv_icmp_ne (tgt := 557) hx hb dL_refusesAny_447 (by decide) (fun c_447 => ?_) (fun c_447 => ?_)
                  · have hf := (if_neg c_447).symm.trans hf
                    refine lv_iconst (v := 0) hx hb dL_refusesAny_557 (by decide) ?_
                    refine lv_istore_n (lv' := [(3, .int 0), (0, .ref a_o), (1, .int i_1)]) hx hb dL_refusesAny_558 rfl hl (by decide) rfl (fun ls hl => ?_)
                    refine lv_iload_n hx hb dL_refusesAny_559 rfl (lv_at hl 0 rfl) ?_
                    have hq := Option.some.inj hf
                    rw [hQ]; exact W.zret (v := 0) hx hb hr rfl (fun t ht hW => ⟨⟨0, M_290, rfl, ⟨by rw [← hq], by rw [← hq]⟩, by dsimp only; rw [ht]; exact hO⟩, hS.F ht⟩) hS.2.2 dL_refusesAny_560
                  have hf := (if_pos c_447).symm.trans hf
                  refine lv_aload_n hx hb dL_refusesAny_450 rfl (lv_at hl 0 rfl) ?_
                  refine lv_iconst (v := 2) hx hb dL_refusesAny_451 (by decide) ?_
                  refine lv_iload_n hx hb dL_refusesAny_452 rfl (lv_at hl 1 rfl) ?_
                  refine lv_iconst (v := 2) hx hb dL_refusesAny_453 (by decide) ?_
                  refine lv_irem hx hb dL_refusesAny_454 (by decide) ?_
                  refine lv_rei (x' := (remI i_1 2)) rfl ?_
                  have jp_463 : ∀ (s0_463 : Int32) (H : Heap) (locs : List Loc) (ls : Array Slot) (hf : J_L_refusesAny_463 i_1 M_290 s0_463 = some res) (hO : OBJ dC dI cI cJ cZ cO h0 a_o M_290 H) (hS : va_S (oA0 h0) s.heap H locs) (hl : lv_has ls 4 [(0, .ref a_o), (1, .int i_1)]), W p l e (headSpec wsL_refusesAny rm_L_refusesAny).room s m ([.ref a_o, .int i_1] : List Value).toArray below meth c H locs 0 0 Q (F0 m 463 ls [.int s0_463, .int 2, .ref a_o]) := by
                    intro s0_463 H locs ls hf hO hS hl
                    unfold J_L_refusesAny_463 at hf
                    refine ob_calli (va_runV (As := [.int 2, .int s0_463]) (rest := []) ⟨hx, hb, hml, hown, hts⟩ (a_X5_ifSet l dC dI cI cJ cZ cO tL tH tF h0 a_o M_290 2 s0_463 ) (cwV 2 hts gL_refusesAny_X5_ifSet rfl rfl rfl (by decide +kernel) ⟨Nat.le_of_ble_eq_true rfl, Nat.le_of_ble_eq_true rfl⟩) (ob_preV hK hST hz hS hO) rfl rfl hl.1 rfl (lv_room (Nat.le_of_ble_eq_true rfl)) dL_refusesAny_463 ⟨Nat.le_of_ble_eq_true rfl, Nat.le_of_ble_eq_true rfl⟩) hS (fun H locs hO hS => ?_)
                    refine lv_bipush (v := (-2)) hx hb dL_refusesAny_466 (by decide) ?_
                    refine lv_icmp_ne (tgt := 557) hx hb dL_refusesAny_468 (by decide) (fun c_468 => ?_) (fun c_468 => ?_)
                    · have hf := (if_neg c_468).symm.trans hf
                      refine lv_iconst (v := 0) hx hb dL_refusesAny_557 (by decide) ?_
                      refine lv_istore_n (lv' := [(3, .int 0), (0, .ref a_o), (1, .int i_1)]) hx hb dL_refusesAny_558 rfl hl (by decide) rfl (fun ls hl => ?_)
                      refine lv_iload_n hx hb dL_refusesAny_559 rfl (lv_at hl 0 rfl) ?_
                      have hq := Option.some.inj hf
                      rw [hQ]; exact W.zret (v := 0) hx hb hr rfl (fun t ht hW => ⟨⟨0, M_290, rfl, ⟨by rw [← hq], by rw [← hq]⟩, by dsimp only; rw [ht]; exact hO⟩, hS.F ht⟩) hS.2.2 dL_refusesAny_560
                    have hf := (if_pos c_468).symm.trans hf
                    refine lv_aload_n hx hb dL_refusesAny_471 rfl (lv_at hl 0 rfl) ?_
                    refine lv_iload_n hx hb dL_refusesAny_472 rfl (lv_at hl 1 rfl) ?_
                    refine lv_iconst (v := 2) hx hb dL_refusesAny_473 (by decide) ?_
                    refine lv_irem hx hb dL_refusesAny_474 (by decide) ?_
                    refine lv_rei (x' := (remI i_1 2)) rfl ?_
                    have jp_485 : ∀ (s0_485 : Int32) (H : Heap) (locs : List Loc) (ls : Array Slot) (hf : J_L_refusesAny_485 i_1 M_290 s0_485 = some res) (hO : OBJ dC dI cI cJ cZ cO h0 a_o M_290 H) (hS : va_S (oA0 h0) s.heap H locs) (hl : lv_has ls 4 [(0, .ref a_o), (1, .int i_1)]), W p l e (headSpec wsL_refusesAny rm_L_refusesAny).room s m ([.ref a_o, .int i_1] : List Value).toArray below meth c H locs 0 0 Q (F0 m 485 ls [.int s0_485, .ref a_o]) := by
                      intro s0_485 H locs ls hf hO hS hl
                      unfold J_L_refusesAny_485 at hf
                      obtain ⟨r_485, hu_485, hf⟩ := bd_some hf
                      refine ob_calli (va_runV (As := [.int s0_485]) (rest := []) ⟨hx, hb, hml, hown, hts⟩ (a_X5_leastLines l dC dI cI cJ cZ cO tL tH tF h0 a_o M_290 s0_485  hu_485) (cwV 1 hts gL_refusesAny_X5_leastLines rfl rfl rfl (by decide +kernel) ⟨Nat.le_of_ble_eq_true rfl, Nat.le_of_ble_eq_true rfl⟩) (ob_preV hK hST hz hS hO) rfl rfl hl.1 rfl (lv_room (Nat.le_of_ble_eq_true rfl)) dL_refusesAny_485 ⟨Nat.le_of_ble_eq_true rfl, Nat.le_of_ble_eq_true rfl⟩) hS (fun H locs hO hS => ?_)
                      refine lv_bipush (v := (-2)) hx hb dL_refusesAny_488 (by decide) ?_
                      refine lv_icmp_ne (tgt := 557) hx hb dL_refusesAny_490 (by decide) (fun c_490 => ?_) (fun c_490 => ?_)
                      · have hf := (if_neg c_490).symm.trans hf
                        refine lv_iconst (v := 0) hx hb dL_refusesAny_557 (by decide) ?_
                        refine lv_istore_n (lv' := [(3, .int 0), (0, .ref a_o), (1, .int i_1)]) hx hb dL_refusesAny_558 rfl hl (by decide) rfl (fun ls hl => ?_)
                        refine lv_iload_n hx hb dL_refusesAny_559 rfl (lv_at hl 0 rfl) ?_
                        have hq := Option.some.inj hf
                        rw [hQ]; exact W.zret (v := 0) hx hb hr rfl (fun t ht hW => ⟨⟨0, M_290, rfl, ⟨by rw [← hq], by rw [← hq]⟩, by dsimp only; rw [ht]; exact hO⟩, hS.F ht⟩) hS.2.2 dL_refusesAny_560
                      have hf := (if_pos c_490).symm.trans hf
                      refine lv_aload_n hx hb dL_refusesAny_493 rfl (lv_at hl 0 rfl) ?_
                      refine lv_iload_n hx hb dL_refusesAny_494 rfl (lv_at hl 1 rfl) ?_
                      refine lv_iconst (v := 2) hx hb dL_refusesAny_495 (by decide) ?_
                      refine lv_irem hx hb dL_refusesAny_496 (by decide) ?_
                      refine lv_rei (x' := (remI i_1 2)) rfl ?_
                      have jp_505 : ∀ (s0_505 : Int32) (H : Heap) (locs : List Loc) (ls : Array Slot) (hf : J_L_refusesAny_505 i_1 M_290 s0_505 = some res) (hO : OBJ dC dI cI cJ cZ cO h0 a_o M_290 H) (hS : va_S (oA0 h0) s.heap H locs) (hl : lv_has ls 4 [(0, .ref a_o), (1, .int i_1)]), W p l e (headSpec wsL_refusesAny rm_L_refusesAny).room s m ([.ref a_o, .int i_1] : List Value).toArray below meth c H locs 0 0 Q (F0 m 505 ls [.int s0_505, .ref a_o]) := by
                        intro s0_505 H locs ls hf hO hS hl
                        unfold J_L_refusesAny_505 at hf
                        obtain ⟨r_505, hu_505, hf⟩ := bd_some hf
                        refine ob_calli (va_runV (As := [.int s0_505]) (rest := []) ⟨hx, hb, hml, hown, hts⟩ (a_X5_bestLines l dC dI cI cJ cZ cO tL tH tF h0 a_o M_290 s0_505  hu_505) (cwV 1 hts gL_refusesAny_X5_bestLines rfl rfl rfl (by decide +kernel) ⟨Nat.le_of_ble_eq_true rfl, Nat.le_of_ble_eq_true rfl⟩) (ob_preV hK hST hz hS hO) rfl rfl hl.1 rfl (lv_room (Nat.le_of_ble_eq_true rfl)) dL_refusesAny_505 ⟨Nat.le_of_ble_eq_true rfl, Nat.le_of_ble_eq_true rfl⟩) hS (fun H locs hO hS => ?_)
                        refine lv_bipush (v := (-2)) hx hb dL_refusesAny_508 (by decide) ?_
                        refine lv_icmp_ne (tgt := 557) hx hb dL_refusesAny_510 (by decide) (fun c_510 => ?_) (fun c_510 => ?_)
                        · have hf := (if_neg c_510).symm.trans hf
                          refine lv_iconst (v := 0) hx hb dL_refusesAny_557 (by decide) ?_
                          refine lv_istore_n (lv' := [(3, .int 0), (0, .ref a_o), (1, .int i_1)]) hx hb dL_refusesAny_558 rfl hl (by decide) rfl (fun ls hl => ?_)
                          refine lv_iload_n hx hb dL_refusesAny_559 rfl (lv_at hl 0 rfl) ?_
                          have hq := Option.some.inj hf
                          rw [hQ]; exact W.zret (v := 0) hx hb hr rfl (fun t ht hW => ⟨⟨0, M_290, rfl, ⟨by rw [← hq], by rw [← hq]⟩, by dsimp only; rw [ht]; exact hO⟩, hS.F ht⟩) hS.2.2 dL_refusesAny_560
                        have hf := (if_pos c_510).symm.trans hf
                        refine lv_aload_n hx hb dL_refusesAny_513 rfl (lv_at hl 0 rfl) ?_
                        refine lv_iload_n hx hb dL_refusesAny_514 rfl (lv_at hl 1 rfl) ?_
                        refine lv_iconst (v := 2) hx hb dL_refusesAny_515 (by decide) ?_
                        refine lv_irem hx hb dL_refusesAny_516 (by decide) ?_
                        refine lv_rei (x' := (remI i_1 2)) rfl ?_
                        have jp_525 : ∀ (s0_525 : Int32) (H : Heap) (locs : List Loc) (ls : Array Slot) (hf : J_L_refusesAny_525 i_1 M_290 s0_525 = some res) (hO : OBJ dC dI cI cJ cZ cO h0 a_o M_290 H) (hS : va_S (oA0 h0) s.heap H locs) (hl : lv_has ls 4 [(0, .ref a_o), (1, .int i_1)]), W p l e (headSpec wsL_refusesAny rm_L_refusesAny).room s m ([.ref a_o, .int i_1] : List Value).toArray below meth c H locs 0 0 Q (F0 m 525 ls [.int s0_525, .ref a_o]) := by
                          intro s0_525 H locs ls hf hO hS hl
                          unfold J_L_refusesAny_525 at hf
                          obtain ⟨r_525, hu_525, hf⟩ := bd_some hf
                          refine ob_calli (va_runV (As := [.int s0_525]) (rest := []) ⟨hx, hb, hml, hown, hts⟩ (a_X5_save l dC dI cI cJ cZ cO tL tH tF h0 a_o M_290 s0_525  hu_525) (cwV 1 hts gL_refusesAny_X5_save rfl rfl rfl (by decide +kernel) ⟨Nat.le_of_ble_eq_true rfl, Nat.le_of_ble_eq_true rfl⟩) (ob_preV hK hST hz hS hO) rfl rfl hl.1 rfl (lv_room (Nat.le_of_ble_eq_true rfl)) dL_refusesAny_525 ⟨Nat.le_of_ble_eq_true rfl, Nat.le_of_ble_eq_true rfl⟩) hS (fun H locs hO hS => ?_)
                          refine lv_bipush (v := (-2)) hx hb dL_refusesAny_528 (by decide) ?_
                          refine lv_icmp_ne (tgt := 557) hx hb dL_refusesAny_530 (by decide) (fun c_530 => ?_) (fun c_530 => ?_)
                          · have hf := (if_neg c_530).symm.trans hf
                            refine lv_iconst (v := 0) hx hb dL_refusesAny_557 (by decide) ?_
                            refine lv_istore_n (lv' := [(3, .int 0), (0, .ref a_o), (1, .int i_1)]) hx hb dL_refusesAny_558 rfl hl (by decide) rfl (fun ls hl => ?_)
                            refine lv_iload_n hx hb dL_refusesAny_559 rfl (lv_at hl 0 rfl) ?_
                            have hq := Option.some.inj hf
                            rw [hQ]; exact W.zret (v := 0) hx hb hr rfl (fun t ht hW => ⟨⟨0, r_525.2, rfl, ⟨by rw [← hq], by rw [← hq]⟩, by dsimp only; rw [ht]; exact hO⟩, hS.F ht⟩) hS.2.2 dL_refusesAny_560
                          have hf := (if_pos c_530).symm.trans hf
                          refine lv_aload_n hx hb dL_refusesAny_533 rfl (lv_at hl 0 rfl) ?_
                          refine lv_iload_n hx hb dL_refusesAny_534 rfl (lv_at hl 1 rfl) ?_
                          refine lv_iconst (v := 2) hx hb dL_refusesAny_535 (by decide) ?_
                          refine lv_irem hx hb dL_refusesAny_536 (by decide) ?_
                          refine lv_rei (x' := (remI i_1 2)) rfl ?_
                          have jp_545 : ∀ (s0_545 : Int32) (H : Heap) (locs : List Loc) (ls : Array Slot) (hf : J_L_refusesAny_545 r_525 s0_545 = some res) (hO : OBJ dC dI cI cJ cZ cO h0 a_o r_525.2 H) (hS : va_S (oA0 h0) s.heap H locs) (hl : lv_has ls 4 []), W p l e (headSpec wsL_refusesAny rm_L_refusesAny).room s m ([.ref a_o, .int i_1] : List Value).toArray below meth c H locs 0 0 Q (F0 m 545 ls [.int s0_545, .ref a_o]) := by
                            intro s0_545 H locs ls hf hO hS hl
                            unfold J_L_refusesAny_545 at hf
                            obtain ⟨r_545, hu_545, hf⟩ := bd_some hf
                            refine ob_calli (va_runV (As := [.int s0_545]) (rest := []) ⟨hx, hb, hml, hown, hts⟩ (a_X5_restore l dC dI cI cJ cZ cO tL tH tF h0 a_o r_525.2 s0_545  hu_545) (cwV 1 hts gL_refusesAny_X5_restore rfl rfl rfl (by decide +kernel) ⟨Nat.le_of_ble_eq_true rfl, Nat.le_of_ble_eq_true rfl⟩) (ob_preV hK hST hz hS hO) rfl rfl hl.1 rfl (lv_room (Nat.le_of_ble_eq_true rfl)) dL_refusesAny_545 ⟨Nat.le_of_ble_eq_true rfl, Nat.le_of_ble_eq_true rfl⟩) hS (fun H locs hO hS => ?_)
                            refine lv_bipush (v := (-2)) hx hb dL_refusesAny_548 (by decide) ?_
                            refine lv_icmp_ne (tgt := 557) hx hb dL_refusesAny_550 (by decide) (fun c_550 => ?_) (fun c_550 => ?_)
                            · have hf := (if_neg c_550).symm.trans hf
                              refine lv_iconst (v := 0) hx hb dL_refusesAny_557 (by decide) ?_
                              refine lv_istore_n (lv' := [(3, .int 0)]) hx hb dL_refusesAny_558 rfl hl (by decide) rfl (fun ls hl => ?_)
                              refine lv_iload_n hx hb dL_refusesAny_559 rfl (lv_at hl 0 rfl) ?_
                              have hq := Option.some.inj hf
                              rw [hQ]; exact W.zret (v := 0) hx hb hr rfl (fun t ht hW => ⟨⟨0, r_545.2, rfl, ⟨by rw [← hq], by rw [← hq]⟩, by dsimp only; rw [ht]; exact hO⟩, hS.F ht⟩) hS.2.2 dL_refusesAny_560
                            have hf := (if_pos c_550).symm.trans hf
                            refine lv_iconst (v := 1) hx hb dL_refusesAny_553 (by decide) ?_
                            refine lv_goto (tgt := 558) hx hb dL_refusesAny_554 (by decide) ?_
                            refine lv_istore_n (lv' := [(3, .int 1)]) hx hb dL_refusesAny_558 rfl hl (by decide) rfl (fun ls hl => ?_)
                            refine lv_iload_n hx hb dL_refusesAny_559 rfl (lv_at hl 0 rfl) ?_
                            have hq := Option.some.inj hf
                            rw [hQ]; exact W.zret (v := 1) hx hb hr rfl (fun t ht hW => ⟨⟨1, r_545.2, rfl, ⟨by rw [← hq], by rw [← hq]⟩, by dsimp only; rw [ht]; exact hO⟩, hS.F ht⟩) hS.2.2 dL_refusesAny_560
                          refine lv_if_ne (tgt := 544) hx hb dL_refusesAny_537 (by decide) (fun c_537 => ?_) (fun c_537 => ?_)
                          · have hf := (if_neg c_537).symm.trans hf
                            refine lv_iconst (v := 2) hx hb dL_refusesAny_544 (by decide) ?_
                            exact jp_545 2 _ _ ls hf hO hS (lv_sub hl [] rfl)
                          have hf := (if_pos c_537).symm.trans hf
                          refine lv_iconst (v := (-1)) hx hb dL_refusesAny_540 (by decide) ?_
                          refine lv_goto (tgt := 545) hx hb dL_refusesAny_541 (by decide) ?_
                          exact jp_545 (-1) _ _ ls hf hO hS (lv_sub hl [] rfl)
                        refine lv_if_ne (tgt := 524) hx hb dL_refusesAny_517 (by decide) (fun c_517 => ?_) (fun c_517 => ?_)
                        · have hf := (if_neg c_517).symm.trans hf
                          refine lv_iconst (v := 2) hx hb dL_refusesAny_524 (by decide) ?_
                          exact jp_525 2 _ _ ls hf hO hS (lv_sub hl [0, 1] rfl)
                        have hf := (if_pos c_517).symm.trans hf
                        refine lv_iconst (v := (-1)) hx hb dL_refusesAny_520 (by decide) ?_
                        refine lv_goto (tgt := 525) hx hb dL_refusesAny_521 (by decide) ?_
                        exact jp_525 (-1) _ _ ls hf hO hS (lv_sub hl [0, 1] rfl)
                      refine lv_if_ne (tgt := 504) hx hb dL_refusesAny_497 (by decide) (fun c_497 => ?_) (fun c_497 => ?_)
                      · have hf := (if_neg c_497).symm.trans hf
                        refine lv_iconst (v := 2) hx hb dL_refusesAny_504 (by decide) ?_
                        exact jp_505 2 _ _ ls hf hO hS (lv_sub hl [0, 1] rfl)
                      have hf := (if_pos c_497).symm.trans hf
                      refine lv_iconst (v := (-1)) hx hb dL_refusesAny_500 (by decide) ?_
                      refine lv_goto (tgt := 505) hx hb dL_refusesAny_501 (by decide) ?_
                      exact jp_505 (-1) _ _ ls hf hO hS (lv_sub hl [0, 1] rfl)
                    refine lv_if_ne (tgt := 482) hx hb dL_refusesAny_475 (by decide) (fun c_475 => ?_) (fun c_475 => ?_)
                    · have hf := (if_neg c_475).symm.trans hf
                      refine lv_sipush (v := 201) hx hb dL_refusesAny_482 (by decide) ?_
                      exact jp_485 201 _ _ ls hf hO hS (lv_sub hl [0, 1] rfl)
                    have hf := (if_pos c_475).symm.trans hf
                    refine lv_iconst (v := 0) hx hb dL_refusesAny_478 (by decide) ?_
                    refine lv_goto (tgt := 485) hx hb dL_refusesAny_479 (by decide) ?_
                    exact jp_485 0 _ _ ls hf hO hS (lv_sub hl [0, 1] rfl)
                  refine lv_if_ne (tgt := 462) hx hb dL_refusesAny_455 (by decide) (fun c_455 => ?_) (fun c_455 => ?_)
                  · have hf := (if_neg c_455).symm.trans hf
                    refine lv_iconst (v := 4) hx hb dL_refusesAny_462 (by decide) ?_
                    exact jp_463 4 _ _ ls hf hO hS (lv_sub hl [0, 1] rfl)
                  have hf := (if_pos c_455).symm.trans hf
                  refine lv_iconst (v := 0) hx hb dL_refusesAny_458 (by decide) ?_
                  refine lv_goto (tgt := 463) hx hb dL_refusesAny_459 (by decide) ?_
                  exact jp_463 0 _ _ ls hf hO hS (lv_sub hl [0, 1] rfl)
                refine lv_if_ne (tgt := 440) hx hb dL_refusesAny_433 (by decide) (fun c_433 => ?_) (fun c_433 => ?_)
                · have hf := (if_neg c_433).symm.trans hf
                  refine lv_bipush (v := 31) hx hb dL_refusesAny_440 (by decide) ?_
                  exact jp_442 31 _ _ ls hf hO hS (lv_sub hl [0, 1] rfl)
                have hf := (if_pos c_433).symm.trans hf
                refine lv_iconst (v := 3) hx hb dL_refusesAny_436 (by decide) ?_
                refine lv_goto (tgt := 442) hx hb dL_refusesAny_437 (by decide) ?_
                exact jp_442 3 _ _ ls hf hO hS (lv_sub hl [0, 1] rfl)
              refine lv_if_ne (tgt := 418) hx hb dL_refusesAny_411 (by decide) (fun c_411 => ?_) (fun c_411 => ?_)
              · have hf := (if_neg c_411).symm.trans hf
                refine lv_bipush (v := 41) hx hb dL_refusesAny_418 (by decide) ?_
                exact jp_420 41 _ _ ls hf hO hS (lv_sub hl [0, 1] rfl)
              have hf := (if_pos c_411).symm.trans hf
              refine lv_iconst (v := 5) hx hb dL_refusesAny_414 (by decide) ?_
              refine lv_goto (tgt := 420) hx hb dL_refusesAny_415 (by decide) ?_
              exact jp_420 5 _ _ ls hf hO hS (lv_sub hl [0, 1] rfl)
            refine lv_if_ne (tgt := 395) hx hb dL_refusesAny_388 (by decide) (fun c_388 => ?_) (fun c_388 => ?_)
            · have hf := (if_neg c_388).symm.trans hf
              refine lv_iconst (v := 3) hx hb dL_refusesAny_395 (by decide) ?_
              exact jp_396 3 _ _ ls hf hO hS (lv_sub hl [0, 1] rfl)
            have hf := (if_pos c_388).symm.trans hf
            refine lv_iconst (v := (-1)) hx hb dL_refusesAny_391 (by decide) ?_
            refine lv_goto (tgt := 396) hx hb dL_refusesAny_392 (by decide) ?_
            exact jp_396 (-1) _ _ ls hf hO hS (lv_sub hl [0, 1] rfl)
          refine lv_if_ne (tgt := 374) hx hb dL_refusesAny_367 (by decide) (fun c_367 => ?_) (fun c_367 => ?_)
          · have hf := (if_neg c_367).symm.trans hf
            refine lv_bipush (v := 15) hx hb dL_refusesAny_374 (by decide) ?_
            exact jp_376 15 _ _ ls hf hO hS (lv_sub hl [0, 1] rfl)
          have hf := (if_pos c_367).symm.trans hf
          refine lv_iconst (v := (-1)) hx hb dL_refusesAny_370 (by decide) ?_
          refine lv_goto (tgt := 376) hx hb dL_refusesAny_371 (by decide) ?_
          exact jp_376 (-1) _ _ ls hf hO hS (lv_sub hl [0, 1] rfl)
        refine lv_if_ne (tgt := 345) hx hb dL_refusesAny_338 (by decide) (fun c_338 => ?_) (fun c_338 => ?_)
        · have hf := (if_neg c_338).symm.trans hf
          refine lv_iconst (v := 0) hx hb dL_refusesAny_345 (by decide) ?_
          exact jp_346 0 _ _ ls hf hO hS (lv_sub hl [2, 3] rfl)
        have hf := (if_pos c_338).symm.trans hf
        refine lv_iconst (v := 1) hx hb dL_refusesAny_341 (by decide) ?_
        refine lv_goto (tgt := 346) hx hb dL_refusesAny_342 (by decide) ?_
        exact jp_346 1 _ _ ls hf hO hS (lv_sub hl [2, 3] rfl)
      have jp_289 : ∀ (M_289 : ObjT) (H : Heap) (locs : List Loc) (ls : Array Slot) (hf : J_L_refusesAny_289 i_1 s0_25 M_289 = some res) (hO : OBJ dC dI cI cJ cZ cO h0 a_o M_289 H) (hS : va_S (oA0 h0) s.heap H locs) (hl : lv_has ls 4 [(2, .int s0_25), (0, .ref a_o), (1, .int i_1)]), W p l e (headSpec wsL_refusesAny rm_L_refusesAny).room s m ([.ref a_o, .int i_1] : List Value).toArray below meth c H locs 0 0 Q (F0 m 289 ls []) := by
        intro M_289 H locs ls hf hO hS hl
        unfold J_L_refusesAny_289 at hf
        refine lv_iconst (v := 0) hx hb dL_refusesAny_289 (by decide) ?_
        exact jp_290 M_289 0 _ _ ls hf hO hS (lv_sub hl [0, 1, 2] rfl)
      refine lv_icmp_ne (tgt := 289) hx hb dL_refusesAny_45 (by decide) (fun c_45 => ?_) (fun c_45 => ?_)
      · have hf := (if_neg c_45).symm.trans hf
        exact jp_289 r_40.2 _ _ ls hf hO hS (lv_sub hl [0, 1, 2] rfl)
      have hf := (if_pos c_45).symm.trans hf
      refine lv_aload_n hx hb dL_refusesAny_48 rfl (lv_at hl 1 rfl) ?_
      refine lv_iconst (v := 0) hx hb dL_refusesAny_49 (by decide) ?_
      refine lv_iload_n hx hb dL_refusesAny_50 rfl (lv_at hl 2 rfl) ?_
      refine lv_iconst (v := 2) hx hb dL_refusesAny_51 (by decide) ?_
      refine lv_irem hx hb dL_refusesAny_52 (by decide) ?_
      refine lv_rei (x' := (remI i_1 2)) rfl ?_
      have jp_62 : ∀ (s0_62 : Int32) (H : Heap) (locs : List Loc) (ls : Array Slot) (hf : J_L_refusesAny_62 i_1 s0_25 r_40 s0_62 = some res) (hO : OBJ dC dI cI cJ cZ cO h0 a_o r_40.2 H) (hS : va_S (oA0 h0) s.heap H locs) (hl : lv_has ls 4 [(2, .int s0_25), (0, .ref a_o), (1, .int i_1)]), W p l e (headSpec wsL_refusesAny rm_L_refusesAny).room s m ([.ref a_o, .int i_1] : List Value).toArray below meth c H locs 0 0 Q (F0 m 62 ls [.int s0_62, .int 0, .ref a_o]) := by
        intro s0_62 H locs ls hf hO hS hl
        unfold J_L_refusesAny_62 at hf
        obtain ⟨r_62, hu_62, hf⟩ := bd_some hf
        refine ob_calli (va_runV (As := [.int 0, .int s0_62]) (rest := []) ⟨hx, hb, hml, hown, hts⟩ (a_X5_set l dC dI cI cJ cZ cO tL tH tF h0 a_o r_40.2 0 s0_62  hu_62) (cwV 2 hts gL_refusesAny_X5_set rfl rfl rfl (by decide +kernel) ⟨Nat.le_of_ble_eq_true rfl, Nat.le_of_ble_eq_true rfl⟩) (ob_preV hK hST hz hS hO) rfl rfl hl.1 rfl (lv_room (Nat.le_of_ble_eq_true rfl)) dL_refusesAny_62 ⟨Nat.le_of_ble_eq_true rfl, Nat.le_of_ble_eq_true rfl⟩) hS (fun H locs hO hS => ?_)
        refine lv_bipush (v := (-2)) hx hb dL_refusesAny_65 (by decide) ?_
        refine lv_icmp_ne (tgt := 289) hx hb dL_refusesAny_67 (by decide) (fun c_67 => ?_) (fun c_67 => ?_)
        · have hf := (if_neg c_67).symm.trans hf
          exact jp_289 r_62.2 _ _ ls hf hO hS (lv_sub hl [0, 1, 2] rfl)
        have hf := (if_pos c_67).symm.trans hf
        refine lv_aload_n hx hb dL_refusesAny_70 rfl (lv_at hl 1 rfl) ?_
        refine lv_iconst (v := 1) hx hb dL_refusesAny_71 (by decide) ?_
        refine lv_iload_n hx hb dL_refusesAny_72 rfl (lv_at hl 2 rfl) ?_
        refine lv_iconst (v := 2) hx hb dL_refusesAny_73 (by decide) ?_
        refine lv_irem hx hb dL_refusesAny_74 (by decide) ?_
        refine lv_rei (x' := (remI i_1 2)) rfl ?_
        have jp_84 : ∀ (s0_84 : Int32) (H : Heap) (locs : List Loc) (ls : Array Slot) (hf : J_L_refusesAny_84 i_1 s0_25 r_62 s0_84 = some res) (hO : OBJ dC dI cI cJ cZ cO h0 a_o r_62.2 H) (hS : va_S (oA0 h0) s.heap H locs) (hl : lv_has ls 4 [(2, .int s0_25), (0, .ref a_o), (1, .int i_1)]), W p l e (headSpec wsL_refusesAny rm_L_refusesAny).room s m ([.ref a_o, .int i_1] : List Value).toArray below meth c H locs 0 0 Q (F0 m 84 ls [.int s0_84, .int 1, .ref a_o]) := by
          intro s0_84 H locs ls hf hO hS hl
          unfold J_L_refusesAny_84 at hf
          obtain ⟨r_84, hu_84, hf⟩ := bd_some hf
          refine ob_calli (va_runV (As := [.int 1, .int s0_84]) (rest := []) ⟨hx, hb, hml, hown, hts⟩ (a_X5_set l dC dI cI cJ cZ cO tL tH tF h0 a_o r_62.2 1 s0_84  hu_84) (cwV 2 hts gL_refusesAny_X5_set rfl rfl rfl (by decide +kernel) ⟨Nat.le_of_ble_eq_true rfl, Nat.le_of_ble_eq_true rfl⟩) (ob_preV hK hST hz hS hO) rfl rfl hl.1 rfl (lv_room (Nat.le_of_ble_eq_true rfl)) dL_refusesAny_84 ⟨Nat.le_of_ble_eq_true rfl, Nat.le_of_ble_eq_true rfl⟩) hS (fun H locs hO hS => ?_)
          refine lv_bipush (v := (-2)) hx hb dL_refusesAny_87 (by decide) ?_
          refine lv_icmp_ne (tgt := 289) hx hb dL_refusesAny_89 (by decide) (fun c_89 => ?_) (fun c_89 => ?_)
          · have hf := (if_neg c_89).symm.trans hf
            exact jp_289 r_84.2 _ _ ls hf hO hS (lv_sub hl [0, 1, 2] rfl)
          have hf := (if_pos c_89).symm.trans hf
          refine lv_aload_n hx hb dL_refusesAny_92 rfl (lv_at hl 1 rfl) ?_
          refine lv_iconst (v := 2) hx hb dL_refusesAny_93 (by decide) ?_
          refine lv_iload_n hx hb dL_refusesAny_94 rfl (lv_at hl 2 rfl) ?_
          refine lv_iconst (v := 2) hx hb dL_refusesAny_95 (by decide) ?_
          refine lv_irem hx hb dL_refusesAny_96 (by decide) ?_
          refine lv_rei (x' := (remI i_1 2)) rfl ?_
          have jp_105 : ∀ (s0_105 : Int32) (H : Heap) (locs : List Loc) (ls : Array Slot) (hf : J_L_refusesAny_105 i_1 s0_25 r_84 s0_105 = some res) (hO : OBJ dC dI cI cJ cZ cO h0 a_o r_84.2 H) (hS : va_S (oA0 h0) s.heap H locs) (hl : lv_has ls 4 [(2, .int s0_25), (0, .ref a_o), (1, .int i_1)]), W p l e (headSpec wsL_refusesAny rm_L_refusesAny).room s m ([.ref a_o, .int i_1] : List Value).toArray below meth c H locs 0 0 Q (F0 m 105 ls [.int s0_105, .int 2, .ref a_o]) := by
            intro s0_105 H locs ls hf hO hS hl
            unfold J_L_refusesAny_105 at hf
            obtain ⟨r_105, hu_105, hf⟩ := bd_some hf
            refine ob_calli (va_runV (As := [.int 2, .int s0_105]) (rest := []) ⟨hx, hb, hml, hown, hts⟩ (a_X5_set l dC dI cI cJ cZ cO tL tH tF h0 a_o r_84.2 2 s0_105  hu_105) (cwV 2 hts gL_refusesAny_X5_set rfl rfl rfl (by decide +kernel) ⟨Nat.le_of_ble_eq_true rfl, Nat.le_of_ble_eq_true rfl⟩) (ob_preV hK hST hz hS hO) rfl rfl hl.1 rfl (lv_room (Nat.le_of_ble_eq_true rfl)) dL_refusesAny_105 ⟨Nat.le_of_ble_eq_true rfl, Nat.le_of_ble_eq_true rfl⟩) hS (fun H locs hO hS => ?_)
            refine lv_bipush (v := (-2)) hx hb dL_refusesAny_108 (by decide) ?_
            refine lv_icmp_ne (tgt := 289) hx hb dL_refusesAny_110 (by decide) (fun c_110 => ?_) (fun c_110 => ?_)
            · have hf := (if_neg c_110).symm.trans hf
              exact jp_289 r_105.2 _ _ ls hf hO hS (lv_sub hl [0, 1, 2] rfl)
            have hf := (if_pos c_110).symm.trans hf
            refine lv_aload_n hx hb dL_refusesAny_113 rfl (lv_at hl 1 rfl) ?_
            refine lv_iload_n hx hb dL_refusesAny_114 rfl (lv_at hl 0 rfl) ?_
            refine lv_bipush (v := 99) hx hb dL_refusesAny_115 (by decide) ?_
            obtain ⟨r_117, hu_117, hf⟩ := bd_some hf
            refine ob_calli (va_runV (As := [.int s0_25, .int 99]) (rest := []) ⟨hx, hb, hml, hown, hts⟩ (a_X5_change l dC dI cI cJ cZ cO tL tH tF h0 a_o r_105.2 s0_25 99  hu_117) (cwV 2 hts gL_refusesAny_X5_change rfl rfl rfl (by decide +kernel) ⟨Nat.le_of_ble_eq_true rfl, Nat.le_of_ble_eq_true rfl⟩) (ob_preV hK hST hz hS hO) rfl rfl hl.1 rfl (lv_room (Nat.le_of_ble_eq_true rfl)) dL_refusesAny_117 ⟨Nat.le_of_ble_eq_true rfl, Nat.le_of_ble_eq_true rfl⟩) hS (fun H locs hO hS => ?_)
            refine lv_iconst (v := (-1)) hx hb dL_refusesAny_120 (by decide) ?_
            refine lv_icmp_ne (tgt := 289) hx hb dL_refusesAny_121 (by decide) (fun c_121 => ?_) (fun c_121 => ?_)
            · have hf := (if_neg c_121).symm.trans hf
              exact jp_289 r_117.2 _ _ ls hf hO hS (lv_sub hl [0, 1, 2] rfl)
            have hf := (if_pos c_121).symm.trans hf
            refine lv_aload_n hx hb dL_refusesAny_124 rfl (lv_at hl 1 rfl) ?_
            refine lv_iconst (v := 3) hx hb dL_refusesAny_125 (by decide) ?_
            refine ob_calli (va_runV (As := [.int 3]) (rest := []) ⟨hx, hb, hml, hown, hts⟩ (a_X5_count l dC dI cI cJ cZ cO tL tH tF h0 a_o r_117.2 3 ) (cwV 1 hts gL_refusesAny_X5_count rfl rfl rfl (by decide +kernel) ⟨Nat.le_of_ble_eq_true rfl, Nat.le_of_ble_eq_true rfl⟩) (ob_preV hK hST hz hS hO) rfl rfl hl.1 rfl (lv_room (Nat.le_of_ble_eq_true rfl)) dL_refusesAny_126 ⟨Nat.le_of_ble_eq_true rfl, Nat.le_of_ble_eq_true rfl⟩) hS (fun H locs hO hS => ?_)
            have jp_154 : ∀ (M_154 : ObjT) (H : Heap) (locs : List Loc) (ls : Array Slot) (hf : J_L_refusesAny_154 i_1 s0_25 M_154 = some res) (hO : OBJ dC dI cI cJ cZ cO h0 a_o M_154 H) (hS : va_S (oA0 h0) s.heap H locs) (hl : lv_has ls 4 [(2, .int s0_25), (0, .ref a_o), (1, .int i_1)]), W p l e (headSpec wsL_refusesAny rm_L_refusesAny).room s m ([.ref a_o, .int i_1] : List Value).toArray below meth c H locs 0 0 Q (F0 m 154 ls []) := by
              intro M_154 H locs ls hf hO hS hl
              unfold J_L_refusesAny_154 at hf
              refine lv_aload_n hx hb dL_refusesAny_154 rfl (lv_at hl 1 rfl) ?_
              refine lv_iload_n hx hb dL_refusesAny_155 rfl (lv_at hl 0 rfl) ?_
              obtain ⟨r_156, hu_156, hf⟩ := bd_some hf
              refine ob_calli (va_runV (As := [.int s0_25]) (rest := []) ⟨hx, hb, hml, hown, hts⟩ (a_X5_drop l dC dI cI cJ cZ cO tL tH tF h0 a_o M_154 s0_25  hu_156) (cwV 1 hts gL_refusesAny_X5_drop rfl rfl rfl (by decide +kernel) ⟨Nat.le_of_ble_eq_true rfl, Nat.le_of_ble_eq_true rfl⟩) (ob_preV hK hST hz hS hO) rfl rfl hl.1 rfl (lv_room (Nat.le_of_ble_eq_true rfl)) dL_refusesAny_156 ⟨Nat.le_of_ble_eq_true rfl, Nat.le_of_ble_eq_true rfl⟩) hS (fun H locs hO hS => ?_)
              refine lv_iconst (v := (-1)) hx hb dL_refusesAny_159 (by decide) ?_
              refine lv_icmp_ne (tgt := 289) hx hb dL_refusesAny_160 (by decide) (fun c_160 => ?_) (fun c_160 => ?_)
              · have hf := (if_neg c_160).symm.trans hf
                exact jp_289 r_156.2 _ _ ls hf hO hS (lv_sub hl [0, 1, 2] rfl)
              have hf := (if_pos c_160).symm.trans hf
              refine lv_aload_n hx hb dL_refusesAny_163 rfl (lv_at hl 1 rfl) ?_
              refine lv_iload_n hx hb dL_refusesAny_164 rfl (lv_at hl 0 rfl) ?_
              obtain ⟨r_165, hu_165, hf⟩ := bd_some hf
              refine ob_calli (va_runV (As := [.int s0_25]) (rest := []) ⟨hx, hb, hml, hown, hts⟩ (a_X5_join l dC dI cI cJ cZ cO tL tH tF h0 a_o r_156.2 s0_25  hu_165) (cwV 1 hts gL_refusesAny_X5_join rfl rfl rfl (by decide +kernel) ⟨Nat.le_of_ble_eq_true rfl, Nat.le_of_ble_eq_true rfl⟩) (ob_preV hK hST hz hS hO) rfl rfl hl.1 rfl (lv_room (Nat.le_of_ble_eq_true rfl)) dL_refusesAny_165 ⟨Nat.le_of_ble_eq_true rfl, Nat.le_of_ble_eq_true rfl⟩) hS (fun H locs hO hS => ?_)
              refine lv_iconst (v := (-1)) hx hb dL_refusesAny_168 (by decide) ?_
              refine lv_icmp_ne (tgt := 289) hx hb dL_refusesAny_169 (by decide) (fun c_169 => ?_) (fun c_169 => ?_)
              · have hf := (if_neg c_169).symm.trans hf
                exact jp_289 r_165.2 _ _ ls hf hO hS (lv_sub hl [0, 1, 2] rfl)
              have hf := (if_pos c_169).symm.trans hf
              refine lv_aload_n hx hb dL_refusesAny_172 rfl (lv_at hl 1 rfl) ?_
              refine lv_aload_n hx hb dL_refusesAny_173 rfl (lv_at hl 1 rfl) ?_
              refine lv_iconst (v := 3) hx hb dL_refusesAny_174 (by decide) ?_
              refine ob_calli (va_runV (As := [.int 3]) (rest := [.ref a_o]) ⟨hx, hb, hml, hown, hts⟩ (a_X5_count l dC dI cI cJ cZ cO tL tH tF h0 a_o r_165.2 3 ) (cwV 1 hts gL_refusesAny_X5_count rfl rfl rfl (by decide +kernel) ⟨Nat.le_of_ble_eq_true rfl, Nat.le_of_ble_eq_true rfl⟩) (ob_preV hK hST hz hS hO) rfl rfl hl.1 rfl (lv_room (Nat.le_of_ble_eq_true rfl)) dL_refusesAny_175 ⟨Nat.le_of_ble_eq_true rfl, Nat.le_of_ble_eq_true rfl⟩) hS (fun H locs hO hS => ?_)
              refine lv_iconst (v := 1) hx hb dL_refusesAny_178 (by decide) ?_
              refine lv_isub hx hb dL_refusesAny_179 ?_
              obtain ⟨r_180, hu_180, hf⟩ := bd_some hf
              refine ob_calli (va_runV (As := [.int ((aCount r_165.2 3) - 1)]) (rest := []) ⟨hx, hb, hml, hown, hts⟩ (a_X5_join l dC dI cI cJ cZ cO tL tH tF h0 a_o r_165.2 ((aCount r_165.2 3) - 1)  hu_180) (cwV 1 hts gL_refusesAny_X5_join rfl rfl rfl (by decide +kernel) ⟨Nat.le_of_ble_eq_true rfl, Nat.le_of_ble_eq_true rfl⟩) (ob_preV hK hST hz hS hO) rfl rfl hl.1 rfl (lv_room (Nat.le_of_ble_eq_true rfl)) dL_refusesAny_180 ⟨Nat.le_of_ble_eq_true rfl, Nat.le_of_ble_eq_true rfl⟩) hS (fun H locs hO hS => ?_)
              refine lv_iconst (v := (-1)) hx hb dL_refusesAny_183 (by decide) ?_
              refine lv_icmp_ne (tgt := 289) hx hb dL_refusesAny_184 (by decide) (fun c_184 => ?_) (fun c_184 => ?_)
              · have hf := (if_neg c_184).symm.trans hf
                exact jp_289 r_180.2 _ _ ls hf hO hS (lv_sub hl [0, 1, 2] rfl)
              have hf := (if_pos c_184).symm.trans hf
              refine lv_aload_n hx hb dL_refusesAny_187 rfl (lv_at hl 1 rfl) ?_
              obtain ⟨r_188, hu_188, hf⟩ := bd_some hf
              refine ob_calli (va_runV (As := []) (rest := []) ⟨hx, hb, hml, hown, hts⟩ (a_X5_wipe l dC dI cI cJ cZ cO tL tH tF h0 a_o r_180.2  hu_188) (cwV 0 hts gL_refusesAny_X5_wipe rfl rfl rfl (by decide +kernel) ⟨Nat.le_of_ble_eq_true rfl, Nat.le_of_ble_eq_true rfl⟩) (ob_preV hK hST hz hS hO) rfl rfl hl.1 rfl (lv_room (Nat.le_of_ble_eq_true rfl)) dL_refusesAny_188 ⟨Nat.le_of_ble_eq_true rfl, Nat.le_of_ble_eq_true rfl⟩) hS (fun H locs hO hS => ?_)
              refine lv_if_lt (tgt := 289) hx hb dL_refusesAny_191 (by decide) (fun c_191 => ?_) (fun c_191 => ?_)
              · have hf := (if_pos c_191).symm.trans hf
                exact jp_289 r_188.2 _ _ ls hf hO hS (lv_sub hl [0, 1, 2] rfl)
              have hf := (if_neg c_191).symm.trans hf
              refine lv_aload_n hx hb dL_refusesAny_194 rfl (lv_at hl 1 rfl) ?_
              obtain ⟨r_195, hu_195, hf⟩ := bd_some hf
              refine ob_calli (va_runV (As := []) (rest := []) ⟨hx, hb, hml, hown, hts⟩ (a_X5_read l dC dI cI cJ cZ cO tL tH tF h0 a_o r_188.2  hu_195) (cwV 0 hts gL_refusesAny_X5_read rfl rfl rfl (by decide +kernel) ⟨Nat.le_of_ble_eq_true rfl, Nat.le_of_ble_eq_true rfl⟩) (ob_preV hK hST hz hS hO) rfl rfl hl.1 rfl (lv_room (Nat.le_of_ble_eq_true rfl)) dL_refusesAny_195 ⟨Nat.le_of_ble_eq_true rfl, Nat.le_of_ble_eq_true rfl⟩) hS (fun H locs hO hS => ?_)
              refine lv_bipush (v := (-3)) hx hb dL_refusesAny_198 (by decide) ?_
              refine lv_icmp_ne (tgt := 289) hx hb dL_refusesAny_200 (by decide) (fun c_200 => ?_) (fun c_200 => ?_)
              · have hf := (if_neg c_200).symm.trans hf
                exact jp_289 r_195.2 _ _ ls hf hO hS (lv_sub hl [0, 1, 2] rfl)
              have hf := (if_pos c_200).symm.trans hf
              refine lv_aload_n hx hb dL_refusesAny_203 rfl (lv_at hl 1 rfl) ?_
              refine lv_iload_n hx hb dL_refusesAny_204 rfl (lv_at hl 0 rfl) ?_
              obtain ⟨r_205, hu_205, hf⟩ := bd_some hf
              refine ob_calli (va_runV (As := [.int s0_25]) (rest := []) ⟨hx, hb, hml, hown, hts⟩ (a_X5_rename l dC dI cI cJ cZ cO tL tH tF h0 a_o r_195.2 s0_25  hu_205) (cwV 1 hts gL_refusesAny_X5_rename rfl rfl rfl (by decide +kernel) ⟨Nat.le_of_ble_eq_true rfl, Nat.le_of_ble_eq_true rfl⟩) (ob_preV hK hST hz hS hO) rfl rfl hl.1 rfl (lv_room (Nat.le_of_ble_eq_true rfl)) dL_refusesAny_205 ⟨Nat.le_of_ble_eq_true rfl, Nat.le_of_ble_eq_true rfl⟩) hS (fun H locs hO hS => ?_)
              refine lv_iconst (v := (-1)) hx hb dL_refusesAny_208 (by decide) ?_
              refine lv_icmp_ne (tgt := 289) hx hb dL_refusesAny_209 (by decide) (fun c_209 => ?_) (fun c_209 => ?_)
              · have hf := (if_neg c_209).symm.trans hf
                exact jp_289 r_205.2 _ _ ls hf hO hS (lv_sub hl [0, 1, 2] rfl)
              have hf := (if_pos c_209).symm.trans hf
              refine lv_aload_n hx hb dL_refusesAny_212 rfl (lv_at hl 1 rfl) ?_
              refine lv_iconst (v := 3) hx hb dL_refusesAny_213 (by decide) ?_
              refine ob_calli (va_runV (As := [.int 3]) (rest := []) ⟨hx, hb, hml, hown, hts⟩ (a_X5_count l dC dI cI cJ cZ cO tL tH tF h0 a_o r_205.2 3 ) (cwV 1 hts gL_refusesAny_X5_count rfl rfl rfl (by decide +kernel) ⟨Nat.le_of_ble_eq_true rfl, Nat.le_of_ble_eq_true rfl⟩) (ob_preV hK hST hz hS hO) rfl rfl hl.1 rfl (lv_room (Nat.le_of_ble_eq_true rfl)) dL_refusesAny_214 ⟨Nat.le_of_ble_eq_true rfl, Nat.le_of_ble_eq_true rfl⟩) hS (fun H locs hO hS => ?_)
              have jp_230 : ∀ (M_230 : ObjT) (H : Heap) (locs : List Loc) (ls : Array Slot) (hf : J_L_refusesAny_230 i_1 s0_25 M_230 = some res) (hO : OBJ dC dI cI cJ cZ cO h0 a_o M_230 H) (hS : va_S (oA0 h0) s.heap H locs) (hl : lv_has ls 4 [(2, .int s0_25), (0, .ref a_o), (1, .int i_1)]), W p l e (headSpec wsL_refusesAny rm_L_refusesAny).room s m ([.ref a_o, .int i_1] : List Value).toArray below meth c H locs 0 0 Q (F0 m 230 ls []) := by
                intro M_230 H locs ls hf hO hS hl
                unfold J_L_refusesAny_230 at hf
                refine lv_aload_n hx hb dL_refusesAny_230 rfl (lv_at hl 1 rfl) ?_
                refine lv_ldc2 (v := 6371893) hx hb hown hw0 dL_refusesAny_231 ?_
                obtain ⟨r_234, hu_234, hf⟩ := bd_some hf
                refine ob_calli (va_runV (As := [.long 6371893]) (rest := []) ⟨hx, hb, hml, hown, hts⟩ (a_X5_put l dC dI cI cJ cZ cO tL tH tF h0 a_o M_230 6371893  hu_234) (cwV 1 hts gL_refusesAny_X5_put rfl rfl rfl (by decide +kernel) ⟨Nat.le_of_ble_eq_true rfl, Nat.le_of_ble_eq_true rfl⟩) (ob_preV hK hST hz hS hO) rfl rfl hl.1 rfl (lv_room (Nat.le_of_ble_eq_true rfl)) dL_refusesAny_234 ⟨Nat.le_of_ble_eq_true rfl, Nat.le_of_ble_eq_true rfl⟩) hS (fun H locs hO hS => ?_)
                refine lv_iconst (v := 3) hx hb dL_refusesAny_237 (by decide) ?_
                refine lv_icmp_ne (tgt := 289) hx hb dL_refusesAny_238 (by decide) (fun c_238 => ?_) (fun c_238 => ?_)
                · have hf := (if_neg c_238).symm.trans hf
                  exact jp_289 r_234.2 _ _ ls hf hO hS (lv_sub hl [0, 1, 2] rfl)
                have hf := (if_pos c_238).symm.trans hf
                refine lv_aload_n hx hb dL_refusesAny_241 rfl (lv_at hl 1 rfl) ?_
                refine lv_iconst (v := 3) hx hb dL_refusesAny_242 (by decide) ?_
                refine ob_calli (va_runV (As := [.int 3]) (rest := []) ⟨hx, hb, hml, hown, hts⟩ (a_X5_count l dC dI cI cJ cZ cO tL tH tF h0 a_o r_234.2 3 ) (cwV 1 hts gL_refusesAny_X5_count rfl rfl rfl (by decide +kernel) ⟨Nat.le_of_ble_eq_true rfl, Nat.le_of_ble_eq_true rfl⟩) (ob_preV hK hST hz hS hO) rfl rfl hl.1 rfl (lv_room (Nat.le_of_ble_eq_true rfl)) dL_refusesAny_243 ⟨Nat.le_of_ble_eq_true rfl, Nat.le_of_ble_eq_true rfl⟩) hS (fun H locs hO hS => ?_)
                have jp_259 : ∀ (M_259 : ObjT) (H : Heap) (locs : List Loc) (ls : Array Slot) (hf : J_L_refusesAny_259 i_1 s0_25 M_259 = some res) (hO : OBJ dC dI cI cJ cZ cO h0 a_o M_259 H) (hS : va_S (oA0 h0) s.heap H locs) (hl : lv_has ls 4 [(2, .int s0_25), (0, .ref a_o), (1, .int i_1)]), W p l e (headSpec wsL_refusesAny rm_L_refusesAny).room s m ([.ref a_o, .int i_1] : List Value).toArray below meth c H locs 0 0 Q (F0 m 259 ls []) := by
                  intro M_259 H locs ls hf hO hS hl
                  unfold J_L_refusesAny_259 at hf
                  refine lv_aload_n hx hb dL_refusesAny_259 rfl (lv_at hl 1 rfl) ?_
                  refine ob_calli (va_runV (As := []) (rest := []) ⟨hx, hb, hml, hown, hts⟩ (a_X5_find l dC dI cI cJ cZ cO tL tH tF h0 a_o M_259 ) (cwV 0 hts gL_refusesAny_X5_find rfl rfl rfl (by decide +kernel) ⟨Nat.le_of_ble_eq_true rfl, Nat.le_of_ble_eq_true rfl⟩) (ob_preV hK hST hz hS hO) rfl rfl hl.1 rfl (lv_room (Nat.le_of_ble_eq_true rfl)) dL_refusesAny_260 ⟨Nat.le_of_ble_eq_true rfl, Nat.le_of_ble_eq_true rfl⟩) hS (fun H locs hO hS => ?_)
                  refine lv_bipush (v := (-3)) hx hb dL_refusesAny_263 (by decide) ?_
                  refine lv_icmp_ne (tgt := 289) hx hb dL_refusesAny_265 (by decide) (fun c_265 => ?_) (fun c_265 => ?_)
                  · have hf := (if_neg c_265).symm.trans hf
                    exact jp_289 M_259 _ _ ls hf hO hS (lv_sub hl [0, 1, 2] rfl)
                  have hf := (if_pos c_265).symm.trans hf
                  refine lv_aload_n hx hb dL_refusesAny_268 rfl (lv_at hl 1 rfl) ?_
                  obtain ⟨r_269, hu_269, hf⟩ := bd_some hf
                  refine ob_calli (va_runV (As := []) (rest := []) ⟨hx, hb, hml, hown, hts⟩ (a_X5_lookFor l dC dI cI cJ cZ cO tL tH tF h0 a_o M_259  hu_269) (cwV 0 hts gL_refusesAny_X5_lookFor rfl rfl rfl (by decide +kernel) ⟨Nat.le_of_ble_eq_true rfl, Nat.le_of_ble_eq_true rfl⟩) (ob_preV hK hST hz hS hO) rfl rfl hl.1 rfl (lv_room (Nat.le_of_ble_eq_true rfl)) dL_refusesAny_269 ⟨Nat.le_of_ble_eq_true rfl, Nat.le_of_ble_eq_true rfl⟩) hS (fun H locs hO hS => ?_)
                  refine lv_bipush (v := (-3)) hx hb dL_refusesAny_272 (by decide) ?_
                  refine lv_icmp_ne (tgt := 289) hx hb dL_refusesAny_274 (by decide) (fun c_274 => ?_) (fun c_274 => ?_)
                  · have hf := (if_neg c_274).symm.trans hf
                    exact jp_289 M_259 _ _ ls hf hO hS (lv_sub hl [0, 1, 2] rfl)
                  have hf := (if_pos c_274).symm.trans hf
                  refine lv_aload_n hx hb dL_refusesAny_277 rfl (lv_at hl 1 rfl) ?_
                  obtain ⟨r_278, hu_278, hf⟩ := bd_some hf
                  refine ob_calli (va_runV (As := []) (rest := []) ⟨hx, hb, hml, hown, hts⟩ (a_X5_wipe l dC dI cI cJ cZ cO tL tH tF h0 a_o M_259  hu_278) (cwV 0 hts gL_refusesAny_X5_wipe rfl rfl rfl (by decide +kernel) ⟨Nat.le_of_ble_eq_true rfl, Nat.le_of_ble_eq_true rfl⟩) (ob_preV hK hST hz hS hO) rfl rfl hl.1 rfl (lv_room (Nat.le_of_ble_eq_true rfl)) dL_refusesAny_278 ⟨Nat.le_of_ble_eq_true rfl, Nat.le_of_ble_eq_true rfl⟩) hS (fun H locs hO hS => ?_)
                  refine lv_iconst (v := 3) hx hb dL_refusesAny_281 (by decide) ?_
                  refine lv_icmp_ne (tgt := 289) hx hb dL_refusesAny_282 (by decide) (fun c_282 => ?_) (fun c_282 => ?_)
                  · have hf := (if_neg c_282).symm.trans hf
                    exact jp_289 r_278.2 _ _ ls hf hO hS (lv_sub hl [0, 1, 2] rfl)
                  have hf := (if_pos c_282).symm.trans hf
                  refine lv_iconst (v := 1) hx hb dL_refusesAny_285 (by decide) ?_
                  refine lv_goto (tgt := 290) hx hb dL_refusesAny_286 (by decide) ?_
                  exact jp_290 r_278.2 1 _ _ ls hf hO hS (lv_sub hl [0, 1, 2] rfl)
                refine lv_if_eq (tgt := 259) hx hb dL_refusesAny_246 (by decide) (fun c_246 => ?_) (fun c_246 => ?_)
                · have hf := (if_pos c_246).symm.trans hf
                  exact jp_259 r_234.2 _ _ ls hf hO hS (lv_sub hl [0, 1, 2] rfl)
                have hf := (if_neg c_246).symm.trans hf
                refine lv_aload_n hx hb dL_refusesAny_249 rfl (lv_at hl 1 rfl) ?_
                refine lv_iconst (v := 0) hx hb dL_refusesAny_250 (by decide) ?_
                obtain ⟨r_251, hu_251, hf⟩ := bd_some hf
                refine ob_calli (va_runV (As := [.int 0]) (rest := []) ⟨hx, hb, hml, hown, hts⟩ (a_X5_rename l dC dI cI cJ cZ cO tL tH tF h0 a_o r_234.2 0  hu_251) (cwV 1 hts gL_refusesAny_X5_rename rfl rfl rfl (by decide +kernel) ⟨Nat.le_of_ble_eq_true rfl, Nat.le_of_ble_eq_true rfl⟩) (ob_preV hK hST hz hS hO) rfl rfl hl.1 rfl (lv_room (Nat.le_of_ble_eq_true rfl)) dL_refusesAny_251 ⟨Nat.le_of_ble_eq_true rfl, Nat.le_of_ble_eq_true rfl⟩) hS (fun H locs hO hS => ?_)
                refine lv_bipush (v := (-3)) hx hb dL_refusesAny_254 (by decide) ?_
                refine lv_icmp_ne (tgt := 289) hx hb dL_refusesAny_256 (by decide) (fun c_256 => ?_) (fun c_256 => ?_)
                · have hf := (if_neg c_256).symm.trans hf
                  exact jp_289 r_251.2 _ _ ls hf hO hS (lv_sub hl [0, 1, 2] rfl)
                have hf := (if_pos c_256).symm.trans hf
                exact jp_259 r_251.2 _ _ ls hf hO hS (lv_sub hl [0, 1, 2] rfl)
              refine lv_if_eq (tgt := 230) hx hb dL_refusesAny_217 (by decide) (fun c_217 => ?_) (fun c_217 => ?_)
              · have hf := (if_pos c_217).symm.trans hf
                exact jp_230 r_205.2 _ _ ls hf hO hS (lv_sub hl [0, 1, 2] rfl)
              have hf := (if_neg c_217).symm.trans hf
              refine lv_aload_n hx hb dL_refusesAny_220 rfl (lv_at hl 1 rfl) ?_
              refine lv_iconst (v := 0) hx hb dL_refusesAny_221 (by decide) ?_
              obtain ⟨r_222, hu_222, hf⟩ := bd_some hf
              refine ob_calli (va_runV (As := [.int 0]) (rest := []) ⟨hx, hb, hml, hown, hts⟩ (a_X5_rename l dC dI cI cJ cZ cO tL tH tF h0 a_o r_205.2 0  hu_222) (cwV 1 hts gL_refusesAny_X5_rename rfl rfl rfl (by decide +kernel) ⟨Nat.le_of_ble_eq_true rfl, Nat.le_of_ble_eq_true rfl⟩) (ob_preV hK hST hz hS hO) rfl rfl hl.1 rfl (lv_room (Nat.le_of_ble_eq_true rfl)) dL_refusesAny_222 ⟨Nat.le_of_ble_eq_true rfl, Nat.le_of_ble_eq_true rfl⟩) hS (fun H locs hO hS => ?_)
              refine lv_bipush (v := (-3)) hx hb dL_refusesAny_225 (by decide) ?_
              refine lv_icmp_ne (tgt := 289) hx hb dL_refusesAny_227 (by decide) (fun c_227 => ?_) (fun c_227 => ?_)
              · have hf := (if_neg c_227).symm.trans hf
                exact jp_289 r_222.2 _ _ ls hf hO hS (lv_sub hl [0, 1, 2] rfl)
              have hf := (if_pos c_227).symm.trans hf
              exact jp_230 r_222.2 _ _ ls hf hO hS (lv_sub hl [0, 1, 2] rfl)
            refine lv_if_eq (tgt := 154) hx hb dL_refusesAny_129 (by decide) (fun c_129 => ?_) (fun c_129 => ?_)
            · have hf := (if_pos c_129).symm.trans hf
              exact jp_154 r_117.2 _ _ ls hf hO hS (lv_sub hl [0, 1, 2] rfl)
            have hf := (if_neg c_129).symm.trans hf
            refine lv_aload_n hx hb dL_refusesAny_132 rfl (lv_at hl 1 rfl) ?_
            refine lv_iconst (v := 0) hx hb dL_refusesAny_133 (by decide) ?_
            refine lv_iload_n hx hb dL_refusesAny_134 rfl (lv_at hl 2 rfl) ?_
            refine lv_iconst (v := 2) hx hb dL_refusesAny_135 (by decide) ?_
            refine lv_irem hx hb dL_refusesAny_136 (by decide) ?_
            refine lv_rei (x' := (remI i_1 2)) rfl ?_
            have jp_146 : ∀ (s0_146 : Int32) (H : Heap) (locs : List Loc) (ls : Array Slot) (hf : J_L_refusesAny_146 i_1 s0_25 r_117 s0_146 = some res) (hO : OBJ dC dI cI cJ cZ cO h0 a_o r_117.2 H) (hS : va_S (oA0 h0) s.heap H locs) (hl : lv_has ls 4 [(2, .int s0_25), (0, .ref a_o), (1, .int i_1)]), W p l e (headSpec wsL_refusesAny rm_L_refusesAny).room s m ([.ref a_o, .int i_1] : List Value).toArray below meth c H locs 0 0 Q (F0 m 146 ls [.int s0_146, .int 0, .ref a_o]) := by
              intro s0_146 H locs ls hf hO hS hl
              unfold J_L_refusesAny_146 at hf
              obtain ⟨r_146, hu_146, hf⟩ := bd_some hf
              refine ob_calli (va_runV (As := [.int 0, .int s0_146]) (rest := []) ⟨hx, hb, hml, hown, hts⟩ (a_X5_change l dC dI cI cJ cZ cO tL tH tF h0 a_o r_117.2 0 s0_146  hu_146) (cwV 2 hts gL_refusesAny_X5_change rfl rfl rfl (by decide +kernel) ⟨Nat.le_of_ble_eq_true rfl, Nat.le_of_ble_eq_true rfl⟩) (ob_preV hK hST hz hS hO) rfl rfl hl.1 rfl (lv_room (Nat.le_of_ble_eq_true rfl)) dL_refusesAny_146 ⟨Nat.le_of_ble_eq_true rfl, Nat.le_of_ble_eq_true rfl⟩) hS (fun H locs hO hS => ?_)
              refine lv_bipush (v := (-2)) hx hb dL_refusesAny_149 (by decide) ?_
              refine lv_icmp_ne (tgt := 289) hx hb dL_refusesAny_151 (by decide) (fun c_151 => ?_) (fun c_151 => ?_)
              · have hf := (if_neg c_151).symm.trans hf
                exact jp_289 r_146.2 _ _ ls hf hO hS (lv_sub hl [0, 1, 2] rfl)
              have hf := (if_pos c_151).symm.trans hf
              exact jp_154 r_146.2 _ _ ls hf hO hS (lv_sub hl [0, 1, 2] rfl)
            refine lv_if_ne (tgt := 144) hx hb dL_refusesAny_137 (by decide) (fun c_137 => ?_) (fun c_137 => ?_)
            · have hf := (if_neg c_137).symm.trans hf
              refine lv_bipush (v := 41) hx hb dL_refusesAny_144 (by decide) ?_
              exact jp_146 41 _ _ ls hf hO hS (lv_sub hl [0, 1, 2] rfl)
            have hf := (if_pos c_137).symm.trans hf
            refine lv_iconst (v := 0) hx hb dL_refusesAny_140 (by decide) ?_
            refine lv_goto (tgt := 146) hx hb dL_refusesAny_141 (by decide) ?_
            exact jp_146 0 _ _ ls hf hO hS (lv_sub hl [0, 1, 2] rfl)
          refine lv_if_ne (tgt := 104) hx hb dL_refusesAny_97 (by decide) (fun c_97 => ?_) (fun c_97 => ?_)
          · have hf := (if_neg c_97).symm.trans hf
            refine lv_iconst (v := 4) hx hb dL_refusesAny_104 (by decide) ?_
            exact jp_105 4 _ _ ls hf hO hS (lv_sub hl [0, 1, 2] rfl)
          have hf := (if_pos c_97).symm.trans hf
          refine lv_iconst (v := 0) hx hb dL_refusesAny_100 (by decide) ?_
          refine lv_goto (tgt := 105) hx hb dL_refusesAny_101 (by decide) ?_
          exact jp_105 0 _ _ ls hf hO hS (lv_sub hl [0, 1, 2] rfl)
        refine lv_if_ne (tgt := 82) hx hb dL_refusesAny_75 (by decide) (fun c_75 => ?_) (fun c_75 => ?_)
        · have hf := (if_neg c_75).symm.trans hf
          refine lv_bipush (v := 31) hx hb dL_refusesAny_82 (by decide) ?_
          exact jp_84 31 _ _ ls hf hO hS (lv_sub hl [0, 1, 2] rfl)
        have hf := (if_pos c_75).symm.trans hf
        refine lv_iconst (v := 3) hx hb dL_refusesAny_78 (by decide) ?_
        refine lv_goto (tgt := 84) hx hb dL_refusesAny_79 (by decide) ?_
        exact jp_84 3 _ _ ls hf hO hS (lv_sub hl [0, 1, 2] rfl)
      refine lv_if_ne (tgt := 60) hx hb dL_refusesAny_53 (by decide) (fun c_53 => ?_) (fun c_53 => ?_)
      · have hf := (if_neg c_53).symm.trans hf
        refine lv_bipush (v := 41) hx hb dL_refusesAny_60 (by decide) ?_
        exact jp_62 41 _ _ ls hf hO hS (lv_sub hl [0, 1, 2] rfl)
      have hf := (if_pos c_53).symm.trans hf
      refine lv_iconst (v := 5) hx hb dL_refusesAny_56 (by decide) ?_
      refine lv_goto (tgt := 62) hx hb dL_refusesAny_57 (by decide) ?_
      exact jp_62 5 _ _ ls hf hO hS (lv_sub hl [0, 1, 2] rfl)
    refine lv_if_ne (tgt := 37) hx hb dL_refusesAny_30 (by decide) (fun c_30 => ?_) (fun c_30 => ?_)
    · have hf := (if_neg c_30).symm.trans hf
      refine lv_iconst (v := 3) hx hb dL_refusesAny_37 (by decide) ?_
      exact jp_38 3 _ _ ls hf hO hS (lv_sub hl [0, 1, 2] rfl)
    have hf := (if_pos c_30).symm.trans hf
    refine lv_iconst (v := (-1)) hx hb dL_refusesAny_33 (by decide) ?_
    refine lv_goto (tgt := 38) hx hb dL_refusesAny_34 (by decide) ?_
    exact jp_38 (-1) _ _ ls hf hO hS (lv_sub hl [0, 1, 2] rfl)
  refine lv_if_ne (tgt := 15) hx hb dL_refusesAny_3 (by decide) (fun c_3 => ?_) (fun c_3 => ?_)
  · have hf := (if_neg c_3).symm.trans hf
    refine lv_aload_n hx hb dL_refusesAny_15 rfl (lv_at hl 0 rfl) ?_
    refine lv_iconst (v := 3) hx hb dL_refusesAny_16 (by decide) ?_
    refine ob_calli (va_runV (As := [.int 3]) (rest := []) ⟨hx, hb, hml, hown, hts⟩ (a_X5_count l dC dI cI cJ cZ cO tL tH tF h0 a_o M 3 ) (cwV 1 hts gL_refusesAny_X5_count rfl rfl rfl (by decide +kernel) ⟨Nat.le_of_ble_eq_true rfl, Nat.le_of_ble_eq_true rfl⟩) (ob_preV hK hST hz hS hO) rfl rfl hl.1 rfl (lv_room (Nat.le_of_ble_eq_true rfl)) dL_refusesAny_17 ⟨Nat.le_of_ble_eq_true rfl, Nat.le_of_ble_eq_true rfl⟩) hS (fun H locs hO hS => ?_)
    refine lv_iload_n hx hb dL_refusesAny_20 rfl (lv_at hl 1 rfl) ?_
    refine lv_bipush (v := 99) hx hb dL_refusesAny_21 (by decide) ?_
    refine lv_irem hx hb dL_refusesAny_23 (by decide) ?_
    refine lv_rei (x' := (remI i_1 99)) rfl ?_
    refine lv_iadd hx hb dL_refusesAny_24 ?_
    exact jp_25 ((aCount M 3) + (remI i_1 99)) _ _ ls hf hO hS (lv_sub hl [0, 1] rfl)
  have hf := (if_pos c_3).symm.trans hf
  refine lv_iconst (v := (-1)) hx hb dL_refusesAny_6 (by decide) ?_
  refine lv_iload_n hx hb dL_refusesAny_7 rfl (lv_at hl 1 rfl) ?_
  refine lv_bipush (v := 99) hx hb dL_refusesAny_8 (by decide) ?_
  refine lv_irem hx hb dL_refusesAny_10 (by decide) ?_
  refine lv_rei (x' := (remI i_1 99)) rfl ?_
  refine lv_isub hx hb dL_refusesAny_11 ?_
  refine lv_goto (tgt := 25) hx hb dL_refusesAny_12 (by decide) ?_
  exact jp_25 ((-1) - (remI i_1 99)) _ _ ls hf hO hS (lv_sub hl [0, 1] rfl)
abbrev rm_L_refuses : Room := { frames := 8, cells := 0, slots := 0, locals := 188 }
set_option maxHeartbeats 4000000 in
set_option maxRecDepth 100000 in
theorem c_L_refuses (l : Launch) (dC : Nat → ClassId) (dI : Nat → Nat → Nat) (cI cJ cZ cO : ClassId) (tL tH tF h0 a_o : Nat) (M : ObjT) (i_1 : Int32) (res : Int32 × ObjT) (hf : f_L_refuses M i_1 = some res) : Met l yL_refuses wsL_refuses rm_L_refuses (obP dC dI cI cJ cZ cO tL tH tF h0 a_o M [.ref a_o, .int i_1]) (obQi dC dI cI cJ cZ cO h0 a_o res.1 res.2) 0 0 (oA0 h0) := by
  refine Met.ofW (cc := cL_refuses) (maxL := 5) (ret := (some .boolean)) (by decide) rfl ?_
  intro p e s m args below meth c s₁ B hml hv
  obtain ⟨rfl, hO, hK, hST, hz⟩ := hv
  have hx := B.exec
  have hb := B.bytes
  have hr := B.returns
  have hts := atoms_spec (ws := wsL_refuses) B.pre
  have hown : s.vm.findClass RL = some m.cls := findClass_of_methodNamed B.named
  have hlocks := B.notSynchronized
  have hl := lv_entry ([.ref a_o, .int i_1]) (n := 5) (Nat.le_of_ble_eq_true rfl)
  rw [lg_entry_eq]
  generalize (lg_sl ([.ref a_o, .int i_1]) ++ List.replicate (5 - (lg_sl ([.ref a_o, .int i_1])).length) Slot.unset).toArray = ls at hl ⊢
  have hl : lv_has ls 5 [(0, .ref a_o), (1, .int i_1)] := hl
  refine W_gen (fun Q hQ => ?_)
  refine ob_start hO (fun H locs hO hS => ?_)
  unfold f_L_refuses at hf
  refine lv_aload_n hx hb dL_refuses_0 rfl (lv_at hl 0 rfl) ?_
  obtain ⟨r_1, hu_1, hf⟩ := bd_some hf
  refine ob_calll (va_runS (As := [.ref a_o]) (rest := []) ⟨hx, hb, hml, hown, hts⟩ (c_L_seen l dC dI cI cJ cZ cO tL tH tF h0 a_o M _ hu_1) (va_cwS 1 hts gL_refuses_L_seen rfl rfl rfl (by decide +kernel) ⟨Nat.le_of_ble_eq_true rfl, Nat.le_of_ble_eq_true rfl⟩) (ob_preS hK hST hz hS hO) rfl rfl hl.1 rfl (lv_room (Nat.le_of_ble_eq_true rfl)) dL_refuses_1 ⟨Nat.le_of_ble_eq_true rfl, Nat.le_of_ble_eq_true rfl⟩) hS (fun H locs hO hS => ?_)
  refine lv_lstore_n (lv' := [(2, .long r_1), (0, .ref a_o), (1, .int i_1)]) hx hb dL_refuses_4 rfl hl (by decide) rfl (fun ls hl => ?_)
  refine lv_aload_n hx hb dL_refuses_5 rfl (lv_at hl 1 rfl) ?_
  refine lv_bipush (v := 14) hx hb dL_refuses_6 (by decide) ?_
  refine ob_calli (va_runV (As := [.int 14]) (rest := []) ⟨hx, hb, hml, hown, hts⟩ (a_X5_count l dC dI cI cJ cZ cO tL tH tF h0 a_o M 14 ) (cwV 1 hts gL_refuses_X5_count rfl rfl rfl (by decide +kernel) ⟨Nat.le_of_ble_eq_true rfl, Nat.le_of_ble_eq_true rfl⟩) (ob_preV hK hST hz hS hO) rfl rfl hl.1 rfl (lv_room (Nat.le_of_ble_eq_true rfl)) dL_refuses_8 ⟨Nat.le_of_ble_eq_true rfl, Nat.le_of_ble_eq_true rfl⟩) hS (fun H locs hO hS => ?_)
  refine lv_istore (lv' := [(4, .int (aCount M 14)), (2, .long r_1), (0, .ref a_o), (1, .int i_1)]) hx hb dL_refuses_11 hl (by decide) rfl (fun ls hl => ?_)
  refine lv_aload_n hx hb dL_refuses_13 rfl (lv_at hl 2 rfl) ?_
  refine lv_iload_n hx hb dL_refuses_14 rfl (lv_at hl 3 rfl) ?_
  obtain ⟨r_15, hu_15, hf⟩ := bd_some hf
  refine ob_calli (va_runS (As := [.ref a_o, .int i_1]) (rest := []) ⟨hx, hb, hml, hown, hts⟩ (c_L_refusesAny l dC dI cI cJ cZ cO tL tH tF h0 a_o M i_1 _ hu_15) (va_cwS 2 hts gL_refuses_L_refusesAny rfl rfl rfl (by decide +kernel) ⟨Nat.le_of_ble_eq_true rfl, Nat.le_of_ble_eq_true rfl⟩) (ob_preS hK hST hz hS hO) rfl rfl hl.1 rfl (lv_room (Nat.le_of_ble_eq_true rfl)) dL_refuses_15 ⟨Nat.le_of_ble_eq_true rfl, Nat.le_of_ble_eq_true rfl⟩) hS (fun H locs hO hS => ?_)
  refine lv_if_eq (tgt := 45) hx hb dL_refuses_18 (by decide) (fun c_18 => ?_) (fun c_18 => ?_)
  · have hf := (if_pos c_18).symm.trans hf
    refine lv_iconst (v := 0) hx hb dL_refuses_45 (by decide) ?_
    have hq := Option.some.inj hf
    rw [hQ]; exact W.zret (v := 0) hx hb hr rfl (fun t ht hW => ⟨⟨0, r_15.2, rfl, ⟨by rw [← hq], by rw [← hq]⟩, by dsimp only; rw [ht]; exact hO⟩, hS.F ht⟩) hS.2.2 dL_refuses_46
  have hf := (if_neg c_18).symm.trans hf
  refine lv_aload_n hx hb dL_refuses_21 rfl (lv_at hl 2 rfl) ?_
  obtain ⟨r_22, hu_22, hf⟩ := bd_some hf
  refine ob_calll (va_runS (As := [.ref a_o]) (rest := []) ⟨hx, hb, hml, hown, hts⟩ (c_L_seen l dC dI cI cJ cZ cO tL tH tF h0 a_o r_15.2 _ hu_22) (va_cwS 1 hts gL_refuses_L_seen rfl rfl rfl (by decide +kernel) ⟨Nat.le_of_ble_eq_true rfl, Nat.le_of_ble_eq_true rfl⟩) (ob_preS hK hST hz hS hO) rfl rfl hl.1 rfl (lv_room (Nat.le_of_ble_eq_true rfl)) dL_refuses_22 ⟨Nat.le_of_ble_eq_true rfl, Nat.le_of_ble_eq_true rfl⟩) hS (fun H locs hO hS => ?_)
  refine lv_lload_n hx hb dL_refuses_25 rfl (lv_at hl 1 rfl) ?_
  refine W.lcmp hx hb dL_refuses_26 ?_
  refine lv_if_ne (tgt := 45) hx hb dL_refuses_27 (by decide) (fun c_27 => ?_) (fun c_27 => ?_)
  · have hf := (if_neg (fun h => c_27 ((lg_cmp_eq _ _).mpr h))).symm.trans hf
    refine lv_iconst (v := 0) hx hb dL_refuses_45 (by decide) ?_
    have hq := Option.some.inj hf
    rw [hQ]; exact W.zret (v := 0) hx hb hr rfl (fun t ht hW => ⟨⟨0, r_15.2, rfl, ⟨by rw [← hq], by rw [← hq]⟩, by dsimp only; rw [ht]; exact hO⟩, hS.F ht⟩) hS.2.2 dL_refuses_46
  have hf := (if_pos ((lg_cmp_eq _ _).mp c_27)).symm.trans hf
  refine lv_aload_n hx hb dL_refuses_30 rfl (lv_at hl 2 rfl) ?_
  refine lv_bipush (v := 14) hx hb dL_refuses_31 (by decide) ?_
  refine ob_calli (va_runV (As := [.int 14]) (rest := []) ⟨hx, hb, hml, hown, hts⟩ (a_X5_count l dC dI cI cJ cZ cO tL tH tF h0 a_o r_15.2 14 ) (cwV 1 hts gL_refuses_X5_count rfl rfl rfl (by decide +kernel) ⟨Nat.le_of_ble_eq_true rfl, Nat.le_of_ble_eq_true rfl⟩) (ob_preV hK hST hz hS hO) rfl rfl hl.1 rfl (lv_room (Nat.le_of_ble_eq_true rfl)) dL_refuses_33 ⟨Nat.le_of_ble_eq_true rfl, Nat.le_of_ble_eq_true rfl⟩) hS (fun H locs hO hS => ?_)
  refine lv_iload hx hb dL_refuses_36 (lv_at hl 0 rfl) ?_
  refine lv_icmp_ne (tgt := 45) hx hb dL_refuses_38 (by decide) (fun c_38 => ?_) (fun c_38 => ?_)
  · have hf := (if_neg c_38).symm.trans hf
    refine lv_iconst (v := 0) hx hb dL_refuses_45 (by decide) ?_
    have hq := Option.some.inj hf
    rw [hQ]; exact W.zret (v := 0) hx hb hr rfl (fun t ht hW => ⟨⟨0, r_15.2, rfl, ⟨by rw [← hq], by rw [← hq]⟩, by dsimp only; rw [ht]; exact hO⟩, hS.F ht⟩) hS.2.2 dL_refuses_46
  have hf := (if_pos c_38).symm.trans hf
  refine lv_iconst (v := 1) hx hb dL_refuses_41 (by decide) ?_
  refine lv_goto (tgt := 46) hx hb dL_refuses_42 (by decide) ?_
  have hq := Option.some.inj hf
  rw [hQ]; exact W.zret (v := 1) hx hb hr rfl (fun t ht hW => ⟨⟨1, r_15.2, rfl, ⟨by rw [← hq], by rw [← hq]⟩, by dsimp only; rw [ht]; exact hO⟩, hS.F ht⟩) hS.2.2 dL_refuses_46
abbrev rm_L_word : Room := { frames := 2, cells := 0, slots := 0, locals := 50 }
set_option maxHeartbeats 4000000 in
set_option maxRecDepth 100000 in
theorem c_L_word (l : Launch) (dC : Nat → ClassId) (dI : Nat → Nat → Nat) (cI cJ cZ cO : ClassId) (tL tH tF h0 a_o : Nat) (M : ObjT) (i_1 : Int32) (res : Int32 × ObjT) (hf : f_L_word M i_1 = some res) : Met l yL_word wsL_word rm_L_word (obP dC dI cI cJ cZ cO tL tH tF h0 a_o M [.ref a_o, .int i_1]) (obQi dC dI cI cJ cZ cO h0 a_o res.1 res.2) 0 0 (oA0 h0) := by
  refine Met.ofW (cc := cL_word) (maxL := 4) (ret := (some .boolean)) (by decide) rfl ?_
  intro p e s m args below meth c s₁ B hml hv
  obtain ⟨rfl, hO, hK, hST, hz⟩ := hv
  have hx := B.exec
  have hb := B.bytes
  have hr := B.returns
  have hts := atoms_spec (ws := wsL_word) B.pre
  have hown : s.vm.findClass RL = some m.cls := findClass_of_methodNamed B.named
  have hlocks := B.notSynchronized
  have hl := lv_entry ([.ref a_o, .int i_1]) (n := 4) (Nat.le_of_ble_eq_true rfl)
  rw [lg_entry_eq]
  generalize (lg_sl ([.ref a_o, .int i_1]) ++ List.replicate (4 - (lg_sl ([.ref a_o, .int i_1])).length) Slot.unset).toArray = ls at hl ⊢
  have hl : lv_has ls 4 [(0, .ref a_o), (1, .int i_1)] := hl
  refine W_gen (fun Q hQ => ?_)
  refine ob_start hO (fun H locs hO hS => ?_)
  unfold f_L_word at hf
  refine lv_aload_n hx hb dL_word_0 rfl (lv_at hl 0 rfl) ?_
  obtain ⟨r_1, hu_1, hf⟩ := bd_some hf
  refine ob_calli (va_runV (As := []) (rest := []) ⟨hx, hb, hml, hown, hts⟩ (a_X5_wipe l dC dI cI cJ cZ cO tL tH tF h0 a_o M  hu_1) (cwV 0 hts gL_word_X5_wipe rfl rfl rfl (by decide +kernel) ⟨Nat.le_of_ble_eq_true rfl, Nat.le_of_ble_eq_true rfl⟩) (ob_preV hK hST hz hS hO) rfl rfl hl.1 rfl (lv_room (Nat.le_of_ble_eq_true rfl)) dL_word_1 ⟨Nat.le_of_ble_eq_true rfl, Nat.le_of_ble_eq_true rfl⟩) hS (fun H locs hO hS => ?_)
  have jp_12 : ∀ (s0_12 : Int32) (H : Heap) (locs : List Loc) (ls : Array Slot) (hf : J_L_word_12 i_1 r_1 s0_12 = some res) (hO : OBJ dC dI cI cJ cZ cO h0 a_o r_1.2 H) (hS : va_S (oA0 h0) s.heap H locs) (hl : lv_has ls 4 [(0, .ref a_o), (1, .int i_1)]), W p l e (headSpec wsL_word rm_L_word).room s m ([.ref a_o, .int i_1] : List Value).toArray below meth c H locs 0 0 Q (F0 m 12 ls [.int s0_12]) := by
    intro s0_12 H locs ls hf hO hS hl
    unfold J_L_word_12 at hf
    refine lv_istore_n (lv' := [(2, .int s0_12), (0, .ref a_o), (1, .int i_1)]) hx hb dL_word_12 rfl hl (by decide) rfl (fun ls hl => ?_)
    refine lv_iconst (v := 0) hx hb dL_word_13 (by decide) ?_
    refine lv_istore_n (lv' := [(3, .int 0), (2, .int s0_12), (0, .ref a_o), (1, .int i_1)]) hx hb dL_word_14 rfl hl (by decide) rfl (fun ls hl => ?_)
    have hk_15 : ∀ (i3_15 : Int32) (i2_15 : Int32) (M_15 : ObjT) (H : Heap) (locs : List Loc) (ls : Array Slot) (hf : (gd (isb i2_15) (some (i2_15, M_15))) = some res) (hO : OBJ dC dI cI cJ cZ cO h0 a_o M_15 H) (hS : va_S (oA0 h0) s.heap H locs) (hl : lv_has ls 4 [(2, .int i2_15)]), W p l e (headSpec wsL_word rm_L_word).room s m ([.ref a_o, .int i_1] : List Value).toArray below meth c H locs 0 0 Q (F0 m 85 ls []) := by
      intro i3_15 i2_15 M_15 H locs ls hf hO hS hl
      refine lv_iload_n hx hb dL_word_85 rfl (lv_at hl 0 rfl) ?_
      obtain ⟨g_86, hf⟩ := gd_some hf
      have hq := Option.some.inj hf
      rw [hQ]; exact W.zret (v := i2_15) hx hb hr (isb_nar g_86) (fun t ht hW => ⟨⟨i2_15, M_15, rfl, ⟨by rw [← hq], by rw [← hq]⟩, by dsimp only; rw [ht]; exact hO⟩, hS.F ht⟩) hS.2.2 dL_word_86
    have lp_15 : ∀ (K : Int32 → Int32 → ObjT → Option (Int32 × ObjT)) (hk : ∀ (i3_15 : Int32) (i2_15 : Int32) (M_15 : ObjT) (H : Heap) (locs : List Loc) (ls : Array Slot) (hf : K i3_15 i2_15 M_15 = some res) (hO : OBJ dC dI cI cJ cZ cO h0 a_o M_15 H) (hS : va_S (oA0 h0) s.heap H locs) (hl : lv_has ls 4 [(2, .int i2_15)]), W p l e (headSpec wsL_word rm_L_word).room s m ([.ref a_o, .int i_1] : List Value).toArray below meth c H locs 0 0 Q (F0 m 85 ls [])) (n : Nat) (i3_15 : Int32) (i2_15 : Int32) (M_15 : ObjT) (H : Heap) (locs : List Loc) (ls : Array Slot) (hf : L_L_word_15 K i_1 n i3_15 i2_15 M_15 = some res) (hO : OBJ dC dI cI cJ cZ cO h0 a_o M_15 H) (hS : va_S (oA0 h0) s.heap H locs) (hl : lv_has ls 4 [(3, .int i3_15), (2, .int i2_15), (0, .ref a_o), (1, .int i_1)]), W p l e (headSpec wsL_word rm_L_word).room s m ([.ref a_o, .int i_1] : List Value).toArray below meth c H locs 0 0 Q (F0 m 15 ls []) := by
      intro K hk n
      induction n with
      | zero => intro i3_15 i2_15 M_15 H locs ls hf hO hS hl; exact absurd ((L_L_word_15_0 _ _ _ _ _).symm.trans hf) (by simp)
      | succ n ih =>
        intro i3_15 i2_15 M_15 H locs ls hf hO hS hl
        have hf := (L_L_word_15_s _ _ _ _ _ _).symm.trans hf
        refine lv_iload_n hx hb dL_word_15 rfl (lv_at hl 0 rfl) ?_
        refine lv_iconst (v := 1) hx hb dL_word_16 (by decide) ?_
        refine lv_iload_n hx hb dL_word_17 rfl (lv_at hl 3 rfl) ?_
        refine lv_bipush (v := 7) hx hb dL_word_18 (by decide) ?_
        refine lv_irem hx hb dL_word_20 (by decide) ?_
        refine lv_rei (x' := (remI i_1 7)) rfl ?_
        refine lv_iadd hx hb dL_word_21 ?_
        refine lv_icmp_ge (tgt := 85) hx hb dL_word_22 (by decide) (fun c_22 => ?_) (fun c_22 => ?_)
        · have hf := (if_pos c_22).symm.trans hf
          exact hk i3_15 i2_15 M_15 _ _ ls hf hO hS (lv_sub hl [1] rfl)
        have hf := (if_neg c_22).symm.trans hf
        refine lv_iload_n hx hb dL_word_25 rfl (lv_at hl 1 rfl) ?_
        refine lv_if_eq (tgt := 85) hx hb dL_word_26 (by decide) (fun c_26 => ?_) (fun c_26 => ?_)
        · have hf := (if_pos c_26).symm.trans hf
          exact hk i3_15 i2_15 M_15 _ _ ls hf hO hS (lv_sub hl [1] rfl)
        have hf := (if_neg c_26).symm.trans hf
        refine lv_aload_n hx hb dL_word_29 rfl (lv_at hl 2 rfl) ?_
        refine lv_bipush (v := 97) hx hb dL_word_30 (by decide) ?_
        refine lv_iload_n hx hb dL_word_32 rfl (lv_at hl 3 rfl) ?_
        refine lv_iconst (v := 3) hx hb dL_word_33 (by decide) ?_
        refine lv_iconst (v := 2) hx hb dL_word_34 (by decide) ?_
        refine lv_iload_n hx hb dL_word_35 rfl (lv_at hl 0 rfl) ?_
        refine lv_imul hx hb dL_word_36 ?_
        refine lv_iadd hx hb dL_word_37 ?_
        refine lv_ishr hx hb dL_word_38 ?_
        refine lv_rei (x' := (shrI i_1 (3 + (2 * i3_15)))) rfl ?_
        refine lv_iconst (v := 4) hx hb dL_word_39 (by decide) ?_
        refine lv_irem hx hb dL_word_40 (by decide) ?_
        refine lv_rei (x' := (remI (shrI i_1 (3 + (2 * i3_15))) 4)) rfl ?_
        have jp_62 : ∀ (s0_62 : Int32) (H : Heap) (locs : List Loc) (ls : Array Slot) (hf : J_L_word_62 (fun (i3_15 : Int32) (i2_15 : Int32) (M_15 : ObjT) => L_L_word_15 K i_1 n i3_15 i2_15 M_15) i3_15 M_15 s0_62 = some res) (hO : OBJ dC dI cI cJ cZ cO h0 a_o M_15 H) (hS : va_S (oA0 h0) s.heap H locs) (hl : lv_has ls 4 [(3, .int i3_15), (0, .ref a_o), (1, .int i_1)]), W p l e (headSpec wsL_word rm_L_word).room s m ([.ref a_o, .int i_1] : List Value).toArray below meth c H locs 0 0 Q (F0 m 62 ls [.int s0_62, .int 97, .ref a_o]) := by
          intro s0_62 H locs ls hf hO hS hl
          unfold J_L_word_62 at hf
          refine lv_iadd hx hb dL_word_62 ?_
          refine lv_i2l (v := ((97 + s0_62)).toInt64) hx hb dL_word_63 rfl ?_
          obtain ⟨r_64, hu_64, hf⟩ := bd_some hf
          refine ob_calli (va_runV (As := [.long (((97 + s0_62)).toInt64)]) (rest := []) ⟨hx, hb, hml, hown, hts⟩ (a_X5_put l dC dI cI cJ cZ cO tL tH tF h0 a_o M_15 (((97 + s0_62)).toInt64)  hu_64) (cwV 1 hts gL_word_X5_put rfl rfl rfl (by decide +kernel) ⟨Nat.le_of_ble_eq_true rfl, Nat.le_of_ble_eq_true rfl⟩) (ob_preV hK hST hz hS hO) rfl rfl hl.1 rfl (lv_room (Nat.le_of_ble_eq_true rfl)) dL_word_64 ⟨Nat.le_of_ble_eq_true rfl, Nat.le_of_ble_eq_true rfl⟩) hS (fun H locs hO hS => ?_)
          refine lv_iload_n hx hb dL_word_67 rfl (lv_at hl 0 rfl) ?_
          refine lv_iconst (v := 1) hx hb dL_word_68 (by decide) ?_
          refine lv_iadd hx hb dL_word_69 ?_
          refine lv_icmp_ne (tgt := 77) hx hb dL_word_70 (by decide) (fun c_70 => ?_) (fun c_70 => ?_)
          · have hf := (if_neg c_70).symm.trans hf
            refine lv_iconst (v := 0) hx hb dL_word_77 (by decide) ?_
            refine lv_istore_n (lv' := [(2, .int 0), (3, .int i3_15), (0, .ref a_o), (1, .int i_1)]) hx hb dL_word_78 rfl hl (by decide) rfl (fun ls hl => ?_)
            refine lv_iinc (v := (i3_15 + 1)) (lv' := [(3, .int (i3_15 + 1)), (2, .int 0), (0, .ref a_o), (1, .int i_1)]) hx hb dL_word_79 hl (k := 1) rfl rfl (by decide) rfl (fun ls hl => ?_)
            refine lv_goto (tgt := 15) hx hb dL_word_82 (by decide) ?_
            exact ih (i3_15 + 1) 0 r_64.2 _ _ ls hf hO hS (lv_sub hl [0, 1, 2, 3] rfl)
          have hf := (if_pos c_70).symm.trans hf
          refine lv_iconst (v := 1) hx hb dL_word_73 (by decide) ?_
          refine lv_goto (tgt := 78) hx hb dL_word_74 (by decide) ?_
          refine lv_istore_n (lv' := [(2, .int 1), (3, .int i3_15), (0, .ref a_o), (1, .int i_1)]) hx hb dL_word_78 rfl hl (by decide) rfl (fun ls hl => ?_)
          refine lv_iinc (v := (i3_15 + 1)) (lv' := [(3, .int (i3_15 + 1)), (2, .int 1), (0, .ref a_o), (1, .int i_1)]) hx hb dL_word_79 hl (k := 1) rfl rfl (by decide) rfl (fun ls hl => ?_)
          refine lv_goto (tgt := 15) hx hb dL_word_82 (by decide) ?_
          exact ih (i3_15 + 1) 1 r_64.2 _ _ ls hf hO hS (lv_sub hl [0, 1, 2, 3] rfl)
        refine lv_if_ne (tgt := 55) hx hb dL_word_41 (by decide) (fun c_41 => ?_) (fun c_41 => ?_)
        · have hf := (if_neg c_41).symm.trans hf
          refine lv_iload_n hx hb dL_word_55 rfl (lv_at hl 3 rfl) ?_
          refine lv_iconst (v := 3) hx hb dL_word_56 (by decide) ?_
          refine lv_iload_n hx hb dL_word_57 rfl (lv_at hl 0 rfl) ?_
          refine lv_iadd hx hb dL_word_58 ?_
          refine lv_ishr hx hb dL_word_59 ?_
          refine lv_rei (x' := (shrI i_1 (3 + i3_15))) rfl ?_
          refine lv_iconst (v := 3) hx hb dL_word_60 (by decide) ?_
          refine lv_irem hx hb dL_word_61 (by decide) ?_
          refine lv_rei (x' := (remI (shrI i_1 (3 + i3_15)) 3)) rfl ?_
          exact jp_62 (remI (shrI i_1 (3 + i3_15)) 3) _ _ ls hf hO hS (lv_sub hl [0, 2, 3] rfl)
        have hf := (if_pos c_41).symm.trans hf
        refine lv_iload_n hx hb dL_word_44 rfl (lv_at hl 3 rfl) ?_
        refine lv_iconst (v := 5) hx hb dL_word_45 (by decide) ?_
        refine lv_iload_n hx hb dL_word_46 rfl (lv_at hl 0 rfl) ?_
        refine lv_iadd hx hb dL_word_47 ?_
        refine lv_ishr hx hb dL_word_48 ?_
        refine lv_rei (x' := (shrI i_1 (5 + i3_15))) rfl ?_
        refine lv_bipush (v := 26) hx hb dL_word_49 (by decide) ?_
        refine lv_irem hx hb dL_word_51 (by decide) ?_
        refine lv_rei (x' := (remI (shrI i_1 (5 + i3_15)) 26)) rfl ?_
        refine lv_goto (tgt := 62) hx hb dL_word_52 (by decide) ?_
        exact jp_62 (remI (shrI i_1 (5 + i3_15)) 26) _ _ ls hf hO hS (lv_sub hl [0, 2, 3] rfl)
    exact lp_15 _ hk_15 FU 0 s0_12 r_1.2 _ _ ls hf hO hS (lv_sub hl [0, 1, 2, 3] rfl)
  refine lv_if_lt (tgt := 11) hx hb dL_word_4 (by decide) (fun c_4 => ?_) (fun c_4 => ?_)
  · have hf := (if_pos c_4).symm.trans hf
    refine lv_iconst (v := 0) hx hb dL_word_11 (by decide) ?_
    exact jp_12 0 _ _ ls hf hO hS (lv_sub hl [0, 1] rfl)
  have hf := (if_neg c_4).symm.trans hf
  refine lv_iconst (v := 1) hx hb dL_word_7 (by decide) ?_
  refine lv_goto (tgt := 12) hx hb dL_word_8 (by decide) ?_
  exact jp_12 1 _ _ ls hf hO hS (lv_sub hl [0, 1] rfl)
