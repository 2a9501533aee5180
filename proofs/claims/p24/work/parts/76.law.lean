/-! walks: L_seen L_isOrdered L_isKept -/
abbrev rm_L_seen : Room := { frames := 4, cells := 0, slots := 0, locals := 86 }
set_option maxHeartbeats 4000000 in
set_option maxRecDepth 100000 in
theorem c_L_seen (l : Launch) (dC : Nat → ClassId) (dI : Nat → Nat → Nat) (cI cJ cZ cO : ClassId) (tL tH tF h0 a_o : Nat) (M : ObjT) (res : Int64) (hf : f_L_seen M = some res) : Met l yL_seen wsL_seen rm_L_seen (obP dC dI cI cJ cZ cO tL tH tF h0 a_o M [.ref a_o]) (obQl dC dI cI cJ cZ cO h0 a_o res M) 0 0 (oA0 h0) := by
  refine Met.ofW (cc := cL_seen) (maxL := 5) (ret := (some .long)) (by decide) rfl ?_
  intro p e s m args below meth c s₁ B hml hv
  obtain ⟨rfl, hO, hK, hST, hz⟩ := hv
  have hx := B.exec
  have hb := B.bytes
  have hr := B.returns
  have hts := atoms_spec (ws := wsL_seen) B.pre
  have hown : s.vm.findClass RL = some m.cls := findClass_of_methodNamed B.named
  have hlocks := B.notSynchronized
  have hw0 := hts (.constantLong RL 9 (97)) (by decide +kernel)
  have hw1 := hts (.constantLong RL 11 (31)) (by decide +kernel)
  have hl := lv_entry ([.ref a_o]) (n := 5) (Nat.le_of_ble_eq_true rfl)
  rw [lg_entry_eq]
  generalize (lg_sl ([.ref a_o]) ++ List.replicate (5 - (lg_sl ([.ref a_o])).length) Slot.unset).toArray = ls at hl ⊢
  have hl : lv_has ls 5 [(0, .ref a_o)] := hl
  refine W_gen (fun Q hQ => ?_)
  refine ob_start hO (fun H locs hO hS => ?_)
  unfold f_L_seen at hf
  refine lv_ldc2 (v := 97) hx hb hown hw0 dL_seen_0 ?_
  refine lv_lstore_n (lv' := [(1, .long 97), (0, .ref a_o)]) hx hb dL_seen_3 rfl hl (by decide) rfl (fun ls hl => ?_)
  refine lv_iconst (v := 0) hx hb dL_seen_4 (by decide) ?_
  refine lv_istore_n (lv' := [(3, .int 0), (1, .long 97), (0, .ref a_o)]) hx hb dL_seen_5 rfl hl (by decide) rfl (fun ls hl => ?_)
  have hk_6 : ∀ (i3_6 : Int32) (j1_6 : Int64) (H : Heap) (locs : List Loc) (ls : Array Slot) (hf : (L_L_seen_33 (fun (i3_33 : Int32) (j1_33 : Int64) => some j1_33) M FU 0 j1_6) = some res) (hO : OBJ dC dI cI cJ cZ cO h0 a_o M H) (hS : va_S (oA0 h0) s.heap H locs) (hl : lv_has ls 5 [(1, .long j1_6), (0, .ref a_o)]), W p l e (headSpec wsL_seen rm_L_seen).room s m ([.ref a_o] : List Value).toArray below meth c H locs 0 0 Q (F0 m 31 ls []) := by
    intro i3_6 j1_6 H locs ls hf hO hS hl
    refine lv_iconst (v := 0) hx hb dL_seen_31 (by decide) ?_
    refine lv_istore_n (lv' := [(3, .int 0), (1, .long j1_6), (0, .ref a_o)]) hx hb dL_seen_32 rfl hl (by decide) rfl (fun ls hl => ?_)
    have hk_33 : ∀ (i3_33 : Int32) (j1_33 : Int64) (H : Heap) (locs : List Loc) (ls : Array Slot) (hf : (some j1_33) = some res) (hO : OBJ dC dI cI cJ cZ cO h0 a_o M H) (hS : va_S (oA0 h0) s.heap H locs) (hl : lv_has ls 5 [(1, .long j1_33)]), W p l e (headSpec wsL_seen rm_L_seen).room s m ([.ref a_o] : List Value).toArray below meth c H locs 0 0 Q (F0 m 105 ls []) := by
      intro i3_33 j1_33 H locs ls hf hO hS hl
      refine lv_lload_n hx hb dL_seen_105 rfl (lv_at hl 0 rfl) ?_
      have hq := Option.some.inj hf
      rw [hQ]; exact W.lret (v := j1_33) hx hb hr (fun t ht hW => ⟨⟨j1_33, M, rfl, ⟨hq, rfl⟩, by dsimp only; rw [ht]; exact hO⟩, hS.F ht⟩) hS.2.2 dL_seen_106
    have lp_33 : ∀ (K : Int32 → Int64 → Option (Int64)) (hk : ∀ (i3_33 : Int32) (j1_33 : Int64) (H : Heap) (locs : List Loc) (ls : Array Slot) (hf : K i3_33 j1_33 = some res) (hO : OBJ dC dI cI cJ cZ cO h0 a_o M H) (hS : va_S (oA0 h0) s.heap H locs) (hl : lv_has ls 5 [(1, .long j1_33)]), W p l e (headSpec wsL_seen rm_L_seen).room s m ([.ref a_o] : List Value).toArray below meth c H locs 0 0 Q (F0 m 105 ls [])) (n : Nat) (i3_33 : Int32) (j1_33 : Int64) (H : Heap) (locs : List Loc) (ls : Array Slot) (hf : L_L_seen_33 K M n i3_33 j1_33 = some res) (hO : OBJ dC dI cI cJ cZ cO h0 a_o M H) (hS : va_S (oA0 h0) s.heap H locs) (hl : lv_has ls 5 [(3, .int i3_33), (1, .long j1_33), (0, .ref a_o)]), W p l e (headSpec wsL_seen rm_L_seen).room s m ([.ref a_o] : List Value).toArray below meth c H locs 0 0 Q (F0 m 33 ls []) := by
      intro K hk n
      induction n with
      | zero => intro i3_33 j1_33 H locs ls hf hO hS hl; exact absurd ((L_L_seen_33_0 _ _ _ _).symm.trans hf) (by simp)
      | succ n ih =>
        intro i3_33 j1_33 H locs ls hf hO hS hl
        have hf := (L_L_seen_33_s _ _ _ _ _).symm.trans hf
        refine lv_iload_n hx hb dL_seen_33 rfl (lv_at hl 0 rfl) ?_
        refine lv_aload_n hx hb dL_seen_34 rfl (lv_at hl 2 rfl) ?_
        refine lv_iconst (v := 3) hx hb dL_seen_35 (by decide) ?_
        refine ob_calli (va_runV (As := [.int 3]) (rest := [.int i3_33]) ⟨hx, hb, hml, hown, hts⟩ (a_X5_count l dC dI cI cJ cZ cO tL tH tF h0 a_o M 3 ) (cwV 1 hts gL_seen_X5_count rfl rfl rfl (by decide +kernel) ⟨Nat.le_of_ble_eq_true rfl, Nat.le_of_ble_eq_true rfl⟩) (ob_preV hK hST hz hS hO) rfl rfl hl.1 rfl (lv_room (Nat.le_of_ble_eq_true rfl)) dL_seen_36 ⟨Nat.le_of_ble_eq_true rfl, Nat.le_of_ble_eq_true rfl⟩) hS (fun H locs hO hS => ?_)
        refine lv_icmp_ge (tgt := 105) hx hb dL_seen_39 (by decide) (fun c_39 => ?_) (fun c_39 => ?_)
        · have hf := (if_pos c_39).symm.trans hf
          exact hk i3_33 j1_33 _ _ ls hf hO hS (lv_sub hl [1] rfl)
        have hf := (if_neg c_39).symm.trans hf
        refine lv_ldc2 (v := 31) hx hb hown hw1 dL_seen_42 ?_
        refine lv_ldc2 (v := 31) hx hb hown hw1 dL_seen_45 ?_
        refine lv_lload_n hx hb dL_seen_48 rfl (lv_at hl 1 rfl) ?_
        refine lv_lmul hx hb dL_seen_49 ?_
        refine lv_aload_n hx hb dL_seen_50 rfl (lv_at hl 2 rfl) ?_
        refine lv_iload_n hx hb dL_seen_51 rfl (lv_at hl 0 rfl) ?_
        refine lv_iconst (v := 0) hx hb dL_seen_52 (by decide) ?_
        refine ob_calli (va_runV (As := [.int i3_33, .int 0]) (rest := [.long (31 * j1_33), .long 31]) ⟨hx, hb, hml, hown, hts⟩ (a_X5_entry l dC dI cI cJ cZ cO tL tH tF h0 a_o M i3_33 0 ) (cwV 2 hts gL_seen_X5_entry rfl rfl rfl (by decide +kernel) ⟨Nat.le_of_ble_eq_true rfl, Nat.le_of_ble_eq_true rfl⟩) (ob_preV hK hST hz hS hO) rfl rfl hl.1 rfl (lv_room (Nat.le_of_ble_eq_true rfl)) dL_seen_53 ⟨Nat.le_of_ble_eq_true rfl, Nat.le_of_ble_eq_true rfl⟩) hS (fun H locs hO hS => ?_)
        refine lv_i2l (v := ((aEntry M i3_33 0)).toInt64) hx hb dL_seen_56 rfl ?_
        refine lv_ladd hx hb dL_seen_57 ?_
        refine lv_lmul hx hb dL_seen_58 ?_
        refine lv_aload_n hx hb dL_seen_59 rfl (lv_at hl 2 rfl) ?_
        refine lv_iload_n hx hb dL_seen_60 rfl (lv_at hl 0 rfl) ?_
        refine lv_iconst (v := 3) hx hb dL_seen_61 (by decide) ?_
        refine ob_calli (va_runV (As := [.int i3_33, .int 3]) (rest := [.long (31 * ((31 * j1_33) + ((aEntry M i3_33 0)).toInt64))]) ⟨hx, hb, hml, hown, hts⟩ (a_X5_entry l dC dI cI cJ cZ cO tL tH tF h0 a_o M i3_33 3 ) (cwV 2 hts gL_seen_X5_entry rfl rfl rfl (by decide +kernel) ⟨Nat.le_of_ble_eq_true rfl, Nat.le_of_ble_eq_true rfl⟩) (ob_preV hK hST hz hS hO) rfl rfl hl.1 rfl (lv_room (Nat.le_of_ble_eq_true rfl)) dL_seen_62 ⟨Nat.le_of_ble_eq_true rfl, Nat.le_of_ble_eq_true rfl⟩) hS (fun H locs hO hS => ?_)
        refine lv_i2l (v := ((aEntry M i3_33 3)).toInt64) hx hb dL_seen_65 rfl ?_
        refine lv_ladd hx hb dL_seen_66 ?_
        refine lv_lstore_n (lv' := [(1, .long ((31 * ((31 * j1_33) + ((aEntry M i3_33 0)).toInt64)) + ((aEntry M i3_33 3)).toInt64)), (3, .int i3_33), (0, .ref a_o)]) hx hb dL_seen_67 rfl hl (by decide) rfl (fun ls hl => ?_)
        refine lv_iconst (v := 5) hx hb dL_seen_68 (by decide) ?_
        refine lv_istore (lv' := [(4, .int 5), (1, .long ((31 * ((31 * j1_33) + ((aEntry M i3_33 0)).toInt64)) + ((aEntry M i3_33 3)).toInt64)), (3, .int i3_33), (0, .ref a_o)]) hx hb dL_seen_69 hl (by decide) rfl (fun ls hl => ?_)
        have hk_71 : ∀ (i4_71 : Int32) (j1_71 : Int64) (H : Heap) (locs : List Loc) (ls : Array Slot) (hf : (L_L_seen_33 K M n (i3_33 + 1) j1_71) = some res) (hO : OBJ dC dI cI cJ cZ cO h0 a_o M H) (hS : va_S (oA0 h0) s.heap H locs) (hl : lv_has ls 5 [(1, .long j1_71), (3, .int i3_33), (0, .ref a_o)]), W p l e (headSpec wsL_seen rm_L_seen).room s m ([.ref a_o] : List Value).toArray below meth c H locs 0 0 Q (F0 m 99 ls []) := by
          intro i4_71 j1_71 H locs ls hf hO hS hl
          refine lv_iinc (v := (i3_33 + 1)) (lv' := [(3, .int (i3_33 + 1)), (1, .long j1_71), (0, .ref a_o)]) hx hb dL_seen_99 hl (k := 1) rfl rfl (by decide) rfl (fun ls hl => ?_)
          refine lv_goto (tgt := 33) hx hb dL_seen_102 (by decide) ?_
          exact ih (i3_33 + 1) j1_71 _ _ ls hf hO hS (lv_sub hl [0, 1, 2] rfl)
        have lp_71 : ∀ (K : Int32 → Int64 → Option (Int64)) (hk : ∀ (i4_71 : Int32) (j1_71 : Int64) (H : Heap) (locs : List Loc) (ls : Array Slot) (hf : K i4_71 j1_71 = some res) (hO : OBJ dC dI cI cJ cZ cO h0 a_o M H) (hS : va_S (oA0 h0) s.heap H locs) (hl : lv_has ls 5 [(1, .long j1_71), (3, .int i3_33), (0, .ref a_o)]), W p l e (headSpec wsL_seen rm_L_seen).room s m ([.ref a_o] : List Value).toArray below meth c H locs 0 0 Q (F0 m 99 ls [])) (n : Nat) (i4_71 : Int32) (j1_71 : Int64) (H : Heap) (locs : List Loc) (ls : Array Slot) (hf : L_L_seen_71 K M i3_33 n i4_71 j1_71 = some res) (hO : OBJ dC dI cI cJ cZ cO h0 a_o M H) (hS : va_S (oA0 h0) s.heap H locs) (hl : lv_has ls 5 [(4, .int i4_71), (1, .long j1_71), (3, .int i3_33), (0, .ref a_o)]), W p l e (headSpec wsL_seen rm_L_seen).room s m ([.ref a_o] : List Value).toArray below meth c H locs 0 0 Q (F0 m 71 ls []) := by
          intro K hk n
          induction n with
          | zero => intro i4_71 j1_71 H locs ls hf hO hS hl; exact absurd ((L_L_seen_71_0 _ _ _ _ _).symm.trans hf) (by simp)
          | succ n ih =>
            intro i4_71 j1_71 H locs ls hf hO hS hl
            have hf := (L_L_seen_71_s _ _ _ _ _ _).symm.trans hf
            refine lv_iload hx hb dL_seen_71 (lv_at hl 0 rfl) ?_
            refine lv_bipush (v := 13) hx hb dL_seen_73 (by decide) ?_
            refine lv_icmp_ge (tgt := 99) hx hb dL_seen_75 (by decide) (fun c_75 => ?_) (fun c_75 => ?_)
            · have hf := (if_pos c_75).symm.trans hf
              exact hk i4_71 j1_71 _ _ ls hf hO hS (lv_sub hl [1, 2, 3] rfl)
            have hf := (if_neg c_75).symm.trans hf
            refine lv_ldc2 (v := 31) hx hb hown hw1 dL_seen_78 ?_
            refine lv_lload_n hx hb dL_seen_81 rfl (lv_at hl 1 rfl) ?_
            refine lv_lmul hx hb dL_seen_82 ?_
            refine lv_aload_n hx hb dL_seen_83 rfl (lv_at hl 3 rfl) ?_
            refine lv_iload_n hx hb dL_seen_84 rfl (lv_at hl 2 rfl) ?_
            refine lv_iload hx hb dL_seen_85 (lv_at hl 0 rfl) ?_
            refine ob_calli (va_runV (As := [.int i3_33, .int i4_71]) (rest := [.long (31 * j1_71)]) ⟨hx, hb, hml, hown, hts⟩ (a_X5_entry l dC dI cI cJ cZ cO tL tH tF h0 a_o M i3_33 i4_71 ) (cwV 2 hts gL_seen_X5_entry rfl rfl rfl (by decide +kernel) ⟨Nat.le_of_ble_eq_true rfl, Nat.le_of_ble_eq_true rfl⟩) (ob_preV hK hST hz hS hO) rfl rfl hl.1 rfl (lv_room (Nat.le_of_ble_eq_true rfl)) dL_seen_87 ⟨Nat.le_of_ble_eq_true rfl, Nat.le_of_ble_eq_true rfl⟩) hS (fun H locs hO hS => ?_)
            refine lv_i2l (v := ((aEntry M i3_33 i4_71)).toInt64) hx hb dL_seen_90 rfl ?_
            refine lv_ladd hx hb dL_seen_91 ?_
            refine lv_lstore_n (lv' := [(1, .long ((31 * j1_71) + ((aEntry M i3_33 i4_71)).toInt64)), (4, .int i4_71), (3, .int i3_33), (0, .ref a_o)]) hx hb dL_seen_92 rfl hl (by decide) rfl (fun ls hl => ?_)
            refine lv_iinc (v := (i4_71 + 1)) (lv' := [(4, .int (i4_71 + 1)), (1, .long ((31 * j1_71) + ((aEntry M i3_33 i4_71)).toInt64)), (3, .int i3_33), (0, .ref a_o)]) hx hb dL_seen_93 hl (k := 1) rfl rfl (by decide) rfl (fun ls hl => ?_)
            refine lv_goto (tgt := 71) hx hb dL_seen_96 (by decide) ?_
            exact ih (i4_71 + 1) ((31 * j1_71) + ((aEntry M i3_33 i4_71)).toInt64) _ _ ls hf hO hS (lv_sub hl [0, 1, 2, 3] rfl)
        exact lp_71 _ hk_71 FU 5 ((31 * ((31 * j1_33) + ((aEntry M i3_33 0)).toInt64)) + ((aEntry M i3_33 3)).toInt64) _ _ ls hf hO hS (lv_sub hl [0, 1, 2, 3] rfl)
    exact lp_33 _ hk_33 FU 0 j1_6 _ _ ls hf hO hS (lv_sub hl [0, 1, 2] rfl)
  have lp_6 : ∀ (K : Int32 → Int64 → Option (Int64)) (hk : ∀ (i3_6 : Int32) (j1_6 : Int64) (H : Heap) (locs : List Loc) (ls : Array Slot) (hf : K i3_6 j1_6 = some res) (hO : OBJ dC dI cI cJ cZ cO h0 a_o M H) (hS : va_S (oA0 h0) s.heap H locs) (hl : lv_has ls 5 [(1, .long j1_6), (0, .ref a_o)]), W p l e (headSpec wsL_seen rm_L_seen).room s m ([.ref a_o] : List Value).toArray below meth c H locs 0 0 Q (F0 m 31 ls [])) (n : Nat) (i3_6 : Int32) (j1_6 : Int64) (H : Heap) (locs : List Loc) (ls : Array Slot) (hf : L_L_seen_6 K M n i3_6 j1_6 = some res) (hO : OBJ dC dI cI cJ cZ cO h0 a_o M H) (hS : va_S (oA0 h0) s.heap H locs) (hl : lv_has ls 5 [(3, .int i3_6), (1, .long j1_6), (0, .ref a_o)]), W p l e (headSpec wsL_seen rm_L_seen).room s m ([.ref a_o] : List Value).toArray below meth c H locs 0 0 Q (F0 m 6 ls []) := by
    intro K hk n
    induction n with
    | zero => intro i3_6 j1_6 H locs ls hf hO hS hl; exact absurd ((L_L_seen_6_0 _ _ _ _).symm.trans hf) (by simp)
    | succ n ih =>
      intro i3_6 j1_6 H locs ls hf hO hS hl
      have hf := (L_L_seen_6_s _ _ _ _ _).symm.trans hf
      refine lv_iload_n hx hb dL_seen_6 rfl (lv_at hl 0 rfl) ?_
      refine lv_bipush (v := 13) hx hb dL_seen_7 (by decide) ?_
      refine lv_icmp_ge (tgt := 31) hx hb dL_seen_9 (by decide) (fun c_9 => ?_) (fun c_9 => ?_)
      · have hf := (if_pos c_9).symm.trans hf
        exact hk i3_6 j1_6 _ _ ls hf hO hS (lv_sub hl [1, 2] rfl)
      have hf := (if_neg c_9).symm.trans hf
      refine lv_ldc2 (v := 31) hx hb hown hw1 dL_seen_12 ?_
      refine lv_lload_n hx hb dL_seen_15 rfl (lv_at hl 1 rfl) ?_
      refine lv_lmul hx hb dL_seen_16 ?_
      refine lv_aload_n hx hb dL_seen_17 rfl (lv_at hl 2 rfl) ?_
      refine lv_iload_n hx hb dL_seen_18 rfl (lv_at hl 0 rfl) ?_
      refine ob_calli (va_runV (As := [.int i3_6]) (rest := [.long (31 * j1_6)]) ⟨hx, hb, hml, hown, hts⟩ (a_X5_count l dC dI cI cJ cZ cO tL tH tF h0 a_o M i3_6 ) (cwV 1 hts gL_seen_X5_count rfl rfl rfl (by decide +kernel) ⟨Nat.le_of_ble_eq_true rfl, Nat.le_of_ble_eq_true rfl⟩) (ob_preV hK hST hz hS hO) rfl rfl hl.1 rfl (lv_room (Nat.le_of_ble_eq_true rfl)) dL_seen_19 ⟨Nat.le_of_ble_eq_true rfl, Nat.le_of_ble_eq_true rfl⟩) hS (fun H locs hO hS => ?_)
      refine lv_i2l (v := ((aCount M i3_6)).toInt64) hx hb dL_seen_22 rfl ?_
      refine lv_ladd hx hb dL_seen_23 ?_
      refine lv_lstore_n (lv' := [(1, .long ((31 * j1_6) + ((aCount M i3_6)).toInt64)), (3, .int i3_6), (0, .ref a_o)]) hx hb dL_seen_24 rfl hl (by decide) rfl (fun ls hl => ?_)
      refine lv_iinc (v := (i3_6 + 1)) (lv' := [(3, .int (i3_6 + 1)), (1, .long ((31 * j1_6) + ((aCount M i3_6)).toInt64)), (0, .ref a_o)]) hx hb dL_seen_25 hl (k := 1) rfl rfl (by decide) rfl (fun ls hl => ?_)
      refine lv_goto (tgt := 6) hx hb dL_seen_28 (by decide) ?_
      exact ih (i3_6 + 1) ((31 * j1_6) + ((aCount M i3_6)).toInt64) _ _ ls hf hO hS (lv_sub hl [0, 1, 2] rfl)
  exact lp_6 _ hk_6 FU 0 97 _ _ ls hf hO hS (lv_sub hl [0, 1, 2] rfl)
abbrev rm_L_isOrdered : Room := { frames := 4, cells := 0, slots := 0, locals := 86 }
set_option maxHeartbeats 4000000 in
set_option maxRecDepth 100000 in
theorem c_L_isOrdered (l : Launch) (dC : Nat → ClassId) (dI : Nat → Nat → Nat) (cI cJ cZ cO : ClassId) (tL tH tF h0 a_o : Nat) (M : ObjT) (res : Int32) (hf : f_L_isOrdered M = some res) : Met l yL_isOrdered wsL_isOrdered rm_L_isOrdered (obP dC dI cI cJ cZ cO tL tH tF h0 a_o M [.ref a_o]) (obQi dC dI cI cJ cZ cO h0 a_o res M) 0 0 (oA0 h0) := by
  refine Met.ofW (cc := cL_isOrdered) (maxL := 4) (ret := (some .boolean)) (by decide) rfl ?_
  intro p e s m args below meth c s₁ B hml hv
  obtain ⟨rfl, hO, hK, hST, hz⟩ := hv
  have hx := B.exec
  have hb := B.bytes
  have hr := B.returns
  have hts := atoms_spec (ws := wsL_isOrdered) B.pre
  have hown : s.vm.findClass RL = some m.cls := findClass_of_methodNamed B.named
  have hlocks := B.notSynchronized
  have hl := lv_entry ([.ref a_o]) (n := 4) (Nat.le_of_ble_eq_true rfl)
  rw [lg_entry_eq]
  generalize (lg_sl ([.ref a_o]) ++ List.replicate (4 - (lg_sl ([.ref a_o])).length) Slot.unset).toArray = ls at hl ⊢
  have hl : lv_has ls 4 [(0, .ref a_o)] := hl
  refine W_gen (fun Q hQ => ?_)
  refine ob_start hO (fun H locs hO hS => ?_)
  unfold f_L_isOrdered at hf
  refine lv_iconst (v := 1) hx hb dL_isOrdered_0 (by decide) ?_
  refine lv_istore_n (lv' := [(1, .int 1), (0, .ref a_o)]) hx hb dL_isOrdered_1 rfl hl (by decide) rfl (fun ls hl => ?_)
  refine lv_iconst (v := 1) hx hb dL_isOrdered_2 (by decide) ?_
  refine lv_istore_n (lv' := [(2, .int 1), (1, .int 1), (0, .ref a_o)]) hx hb dL_isOrdered_3 rfl hl (by decide) rfl (fun ls hl => ?_)
  have hk_4 : ∀ (i2_4 : Int32) (i1_4 : Int32) (H : Heap) (locs : List Loc) (ls : Array Slot) (hf : (gd (isb i1_4) (some i1_4)) = some res) (hO : OBJ dC dI cI cJ cZ cO h0 a_o M H) (hS : va_S (oA0 h0) s.heap H locs) (hl : lv_has ls 4 [(1, .int i1_4)]), W p l e (headSpec wsL_isOrdered rm_L_isOrdered).room s m ([.ref a_o] : List Value).toArray below meth c H locs 0 0 Q (F0 m 120 ls []) := by
    intro i2_4 i1_4 H locs ls hf hO hS hl
    refine lv_iload_n hx hb dL_isOrdered_120 rfl (lv_at hl 0 rfl) ?_
    obtain ⟨g_121, hf⟩ := gd_some hf
    have hq := Option.some.inj hf
    rw [hQ]; exact W.zret (v := i1_4) hx hb hr (isb_nar g_121) (fun t ht hW => ⟨⟨i1_4, M, rfl, ⟨hq, rfl⟩, by dsimp only; rw [ht]; exact hO⟩, hS.F ht⟩) hS.2.2 dL_isOrdered_121
  have lp_4 : ∀ (K : Int32 → Int32 → Option (Int32)) (hk : ∀ (i2_4 : Int32) (i1_4 : Int32) (H : Heap) (locs : List Loc) (ls : Array Slot) (hf : K i2_4 i1_4 = some res) (hO : OBJ dC dI cI cJ cZ cO h0 a_o M H) (hS : va_S (oA0 h0) s.heap H locs) (hl : lv_has ls 4 [(1, .int i1_4)]), W p l e (headSpec wsL_isOrdered rm_L_isOrdered).room s m ([.ref a_o] : List Value).toArray below meth c H locs 0 0 Q (F0 m 120 ls [])) (n : Nat) (i2_4 : Int32) (i1_4 : Int32) (H : Heap) (locs : List Loc) (ls : Array Slot) (hf : L_L_isOrdered_4 K M n i2_4 i1_4 = some res) (hO : OBJ dC dI cI cJ cZ cO h0 a_o M H) (hS : va_S (oA0 h0) s.heap H locs) (hl : lv_has ls 4 [(2, .int i2_4), (1, .int i1_4), (0, .ref a_o)]), W p l e (headSpec wsL_isOrdered rm_L_isOrdered).room s m ([.ref a_o] : List Value).toArray below meth c H locs 0 0 Q (F0 m 4 ls []) := by
    intro K hk n
    induction n with
    | zero => intro i2_4 i1_4 H locs ls hf hO hS hl; exact absurd ((L_L_isOrdered_4_0 _ _ _ _).symm.trans hf) (by simp)
    | succ n ih =>
      intro i2_4 i1_4 H locs ls hf hO hS hl
      have hf := (L_L_isOrdered_4_s _ _ _ _ _).symm.trans hf
      refine lv_iload_n hx hb dL_isOrdered_4 rfl (lv_at hl 0 rfl) ?_
      refine lv_aload_n hx hb dL_isOrdered_5 rfl (lv_at hl 2 rfl) ?_
      refine lv_iconst (v := 3) hx hb dL_isOrdered_6 (by decide) ?_
      refine ob_calli (va_runV (As := [.int 3]) (rest := [.int i2_4]) ⟨hx, hb, hml, hown, hts⟩ (a_X5_count l dC dI cI cJ cZ cO tL tH tF h0 a_o M 3 ) (cwV 1 hts gL_isOrdered_X5_count rfl rfl rfl (by decide +kernel) ⟨Nat.le_of_ble_eq_true rfl, Nat.le_of_ble_eq_true rfl⟩) (ob_preV hK hST hz hS hO) rfl rfl hl.1 rfl (lv_room (Nat.le_of_ble_eq_true rfl)) dL_isOrdered_7 ⟨Nat.le_of_ble_eq_true rfl, Nat.le_of_ble_eq_true rfl⟩) hS (fun H locs hO hS => ?_)
      refine lv_icmp_ge (tgt := 120) hx hb dL_isOrdered_10 (by decide) (fun c_10 => ?_) (fun c_10 => ?_)
      · have hf := (if_pos c_10).symm.trans hf
        exact hk i2_4 i1_4 _ _ ls hf hO hS (lv_sub hl [1] rfl)
      have hf := (if_neg c_10).symm.trans hf
      refine lv_iload_n hx hb dL_isOrdered_13 rfl (lv_at hl 1 rfl) ?_
      refine lv_if_eq (tgt := 120) hx hb dL_isOrdered_14 (by decide) (fun c_14 => ?_) (fun c_14 => ?_)
      · have hf := (if_pos c_14).symm.trans hf
        exact hk i2_4 i1_4 _ _ ls hf hO hS (lv_sub hl [1] rfl)
      have hf := (if_neg c_14).symm.trans hf
      refine lv_bipush (v := 6) hx hb dL_isOrdered_17 (by decide) ?_
      refine lv_istore_n (lv' := [(3, .int 6), (2, .int i2_4), (1, .int i1_4), (0, .ref a_o)]) hx hb dL_isOrdered_19 rfl hl (by decide) rfl (fun ls hl => ?_)
      have hk_20 : ∀ (i3_20 : Int32) (H : Heap) (locs : List Loc) (ls : Array Slot) (hf : (if 13 ≤ i3_20 then (L_L_isOrdered_4 K M n (i2_4 + 1) 0) else (if (aEntry M i2_4 i3_20) ≤ (aEntry M (i2_4 - 1) i3_20) then (L_L_isOrdered_4 K M n (i2_4 + 1) 0) else (if (aEntry M i2_4 1) < (aEntry M (i2_4 - 1) 3) then (L_L_isOrdered_4 K M n (i2_4 + 1) 0) else (if ((aEntry M (i2_4 - 1) 3) + 1) < (aEntry M i2_4 1) then (L_L_isOrdered_4 K M n (i2_4 + 1) 0) else (L_L_isOrdered_4 K M n (i2_4 + 1) 1))))) = some res) (hO : OBJ dC dI cI cJ cZ cO h0 a_o M H) (hS : va_S (oA0 h0) s.heap H locs) (hl : lv_has ls 4 [(3, .int i3_20), (2, .int i2_4), (0, .ref a_o)]), W p l e (headSpec wsL_isOrdered rm_L_isOrdered).room s m ([.ref a_o] : List Value).toArray below meth c H locs 0 0 Q (F0 m 49 ls []) := by
        intro i3_20 H locs ls hf hO hS hl
        refine lv_iload_n hx hb dL_isOrdered_49 rfl (lv_at hl 0 rfl) ?_
        refine lv_bipush (v := 13) hx hb dL_isOrdered_50 (by decide) ?_
        refine lv_icmp_ge (tgt := 112) hx hb dL_isOrdered_52 (by decide) (fun c_52 => ?_) (fun c_52 => ?_)
        · have hf := (if_pos c_52).symm.trans hf
          refine lv_iconst (v := 0) hx hb dL_isOrdered_112 (by decide) ?_
          refine lv_istore_n (lv' := [(1, .int 0), (3, .int i3_20), (2, .int i2_4), (0, .ref a_o)]) hx hb dL_isOrdered_113 rfl hl (by decide) rfl (fun ls hl => ?_)
          refine lv_iinc (v := (i2_4 + 1)) (lv' := [(2, .int (i2_4 + 1)), (1, .int 0), (3, .int i3_20), (0, .ref a_o)]) hx hb dL_isOrdered_114 hl (k := 2) rfl rfl (by decide) rfl (fun ls hl => ?_)
          refine lv_goto (tgt := 4) hx hb dL_isOrdered_117 (by decide) ?_
          exact ih (i2_4 + 1) 0 _ _ ls hf hO hS (lv_sub hl [0, 1, 3] rfl)
        have hf := (if_neg c_52).symm.trans hf
        refine lv_aload_n hx hb dL_isOrdered_55 rfl (lv_at hl 2 rfl) ?_
        refine lv_iload_n hx hb dL_isOrdered_56 rfl (lv_at hl 1 rfl) ?_
        refine lv_iload_n hx hb dL_isOrdered_57 rfl (lv_at hl 0 rfl) ?_
        refine ob_calli (va_runV (As := [.int i2_4, .int i3_20]) (rest := []) ⟨hx, hb, hml, hown, hts⟩ (a_X5_entry l dC dI cI cJ cZ cO tL tH tF h0 a_o M i2_4 i3_20 ) (cwV 2 hts gL_isOrdered_X5_entry rfl rfl rfl (by decide +kernel) ⟨Nat.le_of_ble_eq_true rfl, Nat.le_of_ble_eq_true rfl⟩) (ob_preV hK hST hz hS hO) rfl rfl hl.1 rfl (lv_room (Nat.le_of_ble_eq_true rfl)) dL_isOrdered_58 ⟨Nat.le_of_ble_eq_true rfl, Nat.le_of_ble_eq_true rfl⟩) hS (fun H locs hO hS => ?_)
        refine lv_aload_n hx hb dL_isOrdered_61 rfl (lv_at hl 2 rfl) ?_
        refine lv_iload_n hx hb dL_isOrdered_62 rfl (lv_at hl 1 rfl) ?_
        refine lv_iconst (v := 1) hx hb dL_isOrdered_63 (by decide) ?_
        refine lv_isub hx hb dL_isOrdered_64 ?_
        refine lv_iload_n hx hb dL_isOrdered_65 rfl (lv_at hl 0 rfl) ?_
        refine ob_calli (va_runV (As := [.int (i2_4 - 1), .int i3_20]) (rest := [.int (aEntry M i2_4 i3_20)]) ⟨hx, hb, hml, hown, hts⟩ (a_X5_entry l dC dI cI cJ cZ cO tL tH tF h0 a_o M (i2_4 - 1) i3_20 ) (cwV 2 hts gL_isOrdered_X5_entry rfl rfl rfl (by decide +kernel) ⟨Nat.le_of_ble_eq_true rfl, Nat.le_of_ble_eq_true rfl⟩) (ob_preV hK hST hz hS hO) rfl rfl hl.1 rfl (lv_room (Nat.le_of_ble_eq_true rfl)) dL_isOrdered_66 ⟨Nat.le_of_ble_eq_true rfl, Nat.le_of_ble_eq_true rfl⟩) hS (fun H locs hO hS => ?_)
        refine lv_icmp_le (tgt := 112) hx hb dL_isOrdered_69 (by decide) (fun c_69 => ?_) (fun c_69 => ?_)
        · have hf := (if_pos c_69).symm.trans hf
          refine lv_iconst (v := 0) hx hb dL_isOrdered_112 (by decide) ?_
          refine lv_istore_n (lv' := [(1, .int 0), (3, .int i3_20), (2, .int i2_4), (0, .ref a_o)]) hx hb dL_isOrdered_113 rfl hl (by decide) rfl (fun ls hl => ?_)
          refine lv_iinc (v := (i2_4 + 1)) (lv' := [(2, .int (i2_4 + 1)), (1, .int 0), (3, .int i3_20), (0, .ref a_o)]) hx hb dL_isOrdered_114 hl (k := 2) rfl rfl (by decide) rfl (fun ls hl => ?_)
          refine lv_goto (tgt := 4) hx hb dL_isOrdered_117 (by decide) ?_
          exact ih (i2_4 + 1) 0 _ _ ls hf hO hS (lv_sub hl [0, 1, 3] rfl)
        have hf := (if_neg c_69).symm.trans hf
        refine lv_aload_n hx hb dL_isOrdered_72 rfl (lv_at hl 2 rfl) ?_
        refine lv_iload_n hx hb dL_isOrdered_73 rfl (lv_at hl 1 rfl) ?_
        refine lv_iconst (v := 1) hx hb dL_isOrdered_74 (by decide) ?_
        refine ob_calli (va_runV (As := [.int i2_4, .int 1]) (rest := []) ⟨hx, hb, hml, hown, hts⟩ (a_X5_entry l dC dI cI cJ cZ cO tL tH tF h0 a_o M i2_4 1 ) (cwV 2 hts gL_isOrdered_X5_entry rfl rfl rfl (by decide +kernel) ⟨Nat.le_of_ble_eq_true rfl, Nat.le_of_ble_eq_true rfl⟩) (ob_preV hK hST hz hS hO) rfl rfl hl.1 rfl (lv_room (Nat.le_of_ble_eq_true rfl)) dL_isOrdered_75 ⟨Nat.le_of_ble_eq_true rfl, Nat.le_of_ble_eq_true rfl⟩) hS (fun H locs hO hS => ?_)
        refine lv_aload_n hx hb dL_isOrdered_78 rfl (lv_at hl 2 rfl) ?_
        refine lv_iload_n hx hb dL_isOrdered_79 rfl (lv_at hl 1 rfl) ?_
        refine lv_iconst (v := 1) hx hb dL_isOrdered_80 (by decide) ?_
        refine lv_isub hx hb dL_isOrdered_81 ?_
        refine lv_iconst (v := 3) hx hb dL_isOrdered_82 (by decide) ?_
        refine ob_calli (va_runV (As := [.int (i2_4 - 1), .int 3]) (rest := [.int (aEntry M i2_4 1)]) ⟨hx, hb, hml, hown, hts⟩ (a_X5_entry l dC dI cI cJ cZ cO tL tH tF h0 a_o M (i2_4 - 1) 3 ) (cwV 2 hts gL_isOrdered_X5_entry rfl rfl rfl (by decide +kernel) ⟨Nat.le_of_ble_eq_true rfl, Nat.le_of_ble_eq_true rfl⟩) (ob_preV hK hST hz hS hO) rfl rfl hl.1 rfl (lv_room (Nat.le_of_ble_eq_true rfl)) dL_isOrdered_83 ⟨Nat.le_of_ble_eq_true rfl, Nat.le_of_ble_eq_true rfl⟩) hS (fun H locs hO hS => ?_)
        refine lv_icmp_lt (tgt := 112) hx hb dL_isOrdered_86 (by decide) (fun c_86 => ?_) (fun c_86 => ?_)
        · have hf := (if_pos c_86).symm.trans hf
          refine lv_iconst (v := 0) hx hb dL_isOrdered_112 (by decide) ?_
          refine lv_istore_n (lv' := [(1, .int 0), (3, .int i3_20), (2, .int i2_4), (0, .ref a_o)]) hx hb dL_isOrdered_113 rfl hl (by decide) rfl (fun ls hl => ?_)
          refine lv_iinc (v := (i2_4 + 1)) (lv' := [(2, .int (i2_4 + 1)), (1, .int 0), (3, .int i3_20), (0, .ref a_o)]) hx hb dL_isOrdered_114 hl (k := 2) rfl rfl (by decide) rfl (fun ls hl => ?_)
          refine lv_goto (tgt := 4) hx hb dL_isOrdered_117 (by decide) ?_
          exact ih (i2_4 + 1) 0 _ _ ls hf hO hS (lv_sub hl [0, 1, 3] rfl)
        have hf := (if_neg c_86).symm.trans hf
        refine lv_aload_n hx hb dL_isOrdered_89 rfl (lv_at hl 2 rfl) ?_
        refine lv_iload_n hx hb dL_isOrdered_90 rfl (lv_at hl 1 rfl) ?_
        refine lv_iconst (v := 1) hx hb dL_isOrdered_91 (by decide) ?_
        refine ob_calli (va_runV (As := [.int i2_4, .int 1]) (rest := []) ⟨hx, hb, hml, hown, hts⟩ (a_X5_entry l dC dI cI cJ cZ cO tL tH tF h0 a_o M i2_4 1 ) (cwV 2 hts gL_isOrdered_X5_entry rfl rfl rfl (by decide +kernel) ⟨Nat.le_of_ble_eq_true rfl, Nat.le_of_ble_eq_true rfl⟩) (ob_preV hK hST hz hS hO) rfl rfl hl.1 rfl (lv_room (Nat.le_of_ble_eq_true rfl)) dL_isOrdered_92 ⟨Nat.le_of_ble_eq_true rfl, Nat.le_of_ble_eq_true rfl⟩) hS (fun H locs hO hS => ?_)
        refine lv_aload_n hx hb dL_isOrdered_95 rfl (lv_at hl 2 rfl) ?_
        refine lv_iload_n hx hb dL_isOrdered_96 rfl (lv_at hl 1 rfl) ?_
        refine lv_iconst (v := 1) hx hb dL_isOrdered_97 (by decide) ?_
        refine lv_isub hx hb dL_isOrdered_98 ?_
        refine lv_iconst (v := 3) hx hb dL_isOrdered_99 (by decide) ?_
        refine ob_calli (va_runV (As := [.int (i2_4 - 1), .int 3]) (rest := [.int (aEntry M i2_4 1)]) ⟨hx, hb, hml, hown, hts⟩ (a_X5_entry l dC dI cI cJ cZ cO tL tH tF h0 a_o M (i2_4 - 1) 3 ) (cwV 2 hts gL_isOrdered_X5_entry rfl rfl rfl (by decide +kernel) ⟨Nat.le_of_ble_eq_true rfl, Nat.le_of_ble_eq_true rfl⟩) (ob_preV hK hST hz hS hO) rfl rfl hl.1 rfl (lv_room (Nat.le_of_ble_eq_true rfl)) dL_isOrdered_100 ⟨Nat.le_of_ble_eq_true rfl, Nat.le_of_ble_eq_true rfl⟩) hS (fun H locs hO hS => ?_)
        refine lv_iconst (v := 1) hx hb dL_isOrdered_103 (by decide) ?_
        refine lv_iadd hx hb dL_isOrdered_104 ?_
        refine lv_icmp_gt (tgt := 112) hx hb dL_isOrdered_105 (by decide) (fun c_105 => ?_) (fun c_105 => ?_)
        · have hf := (if_pos c_105).symm.trans hf
          refine lv_iconst (v := 0) hx hb dL_isOrdered_112 (by decide) ?_
          refine lv_istore_n (lv' := [(1, .int 0), (3, .int i3_20), (2, .int i2_4), (0, .ref a_o)]) hx hb dL_isOrdered_113 rfl hl (by decide) rfl (fun ls hl => ?_)
          refine lv_iinc (v := (i2_4 + 1)) (lv' := [(2, .int (i2_4 + 1)), (1, .int 0), (3, .int i3_20), (0, .ref a_o)]) hx hb dL_isOrdered_114 hl (k := 2) rfl rfl (by decide) rfl (fun ls hl => ?_)
          refine lv_goto (tgt := 4) hx hb dL_isOrdered_117 (by decide) ?_
          exact ih (i2_4 + 1) 0 _ _ ls hf hO hS (lv_sub hl [0, 1, 3] rfl)
        have hf := (if_neg c_105).symm.trans hf
        refine lv_iconst (v := 1) hx hb dL_isOrdered_108 (by decide) ?_
        refine lv_goto (tgt := 113) hx hb dL_isOrdered_109 (by decide) ?_
        refine lv_istore_n (lv' := [(1, .int 1), (3, .int i3_20), (2, .int i2_4), (0, .ref a_o)]) hx hb dL_isOrdered_113 rfl hl (by decide) rfl (fun ls hl => ?_)
        refine lv_iinc (v := (i2_4 + 1)) (lv' := [(2, .int (i2_4 + 1)), (1, .int 1), (3, .int i3_20), (0, .ref a_o)]) hx hb dL_isOrdered_114 hl (k := 2) rfl rfl (by decide) rfl (fun ls hl => ?_)
        refine lv_goto (tgt := 4) hx hb dL_isOrdered_117 (by decide) ?_
        exact ih (i2_4 + 1) 1 _ _ ls hf hO hS (lv_sub hl [0, 1, 3] rfl)
      have lp_20 : ∀ (K : Int32 → Option (Int32)) (hk : ∀ (i3_20 : Int32) (H : Heap) (locs : List Loc) (ls : Array Slot) (hf : K i3_20 = some res) (hO : OBJ dC dI cI cJ cZ cO h0 a_o M H) (hS : va_S (oA0 h0) s.heap H locs) (hl : lv_has ls 4 [(3, .int i3_20), (2, .int i2_4), (0, .ref a_o)]), W p l e (headSpec wsL_isOrdered rm_L_isOrdered).room s m ([.ref a_o] : List Value).toArray below meth c H locs 0 0 Q (F0 m 49 ls [])) (n : Nat) (i3_20 : Int32) (H : Heap) (locs : List Loc) (ls : Array Slot) (hf : L_L_isOrdered_20 K M i2_4 n i3_20 = some res) (hO : OBJ dC dI cI cJ cZ cO h0 a_o M H) (hS : va_S (oA0 h0) s.heap H locs) (hl : lv_has ls 4 [(3, .int i3_20), (2, .int i2_4), (0, .ref a_o)]), W p l e (headSpec wsL_isOrdered rm_L_isOrdered).room s m ([.ref a_o] : List Value).toArray below meth c H locs 0 0 Q (F0 m 20 ls []) := by
        intro K hk n
        induction n with
        | zero => intro i3_20 H locs ls hf hO hS hl; exact absurd ((L_L_isOrdered_20_0 _ _ _ _).symm.trans hf) (by simp)
        | succ n ih =>
          intro i3_20 H locs ls hf hO hS hl
          have hf := (L_L_isOrdered_20_s _ _ _ _ _).symm.trans hf
          refine lv_iload_n hx hb dL_isOrdered_20 rfl (lv_at hl 0 rfl) ?_
          refine lv_bipush (v := 13) hx hb dL_isOrdered_21 (by decide) ?_
          refine lv_icmp_ge (tgt := 49) hx hb dL_isOrdered_23 (by decide) (fun c_23 => ?_) (fun c_23 => ?_)
          · have hf := (if_pos c_23).symm.trans hf
            exact hk i3_20 _ _ ls hf hO hS (lv_sub hl [0, 1, 2] rfl)
          have hf := (if_neg c_23).symm.trans hf
          refine lv_aload_n hx hb dL_isOrdered_26 rfl (lv_at hl 2 rfl) ?_
          refine lv_iload_n hx hb dL_isOrdered_27 rfl (lv_at hl 1 rfl) ?_
          refine lv_iload_n hx hb dL_isOrdered_28 rfl (lv_at hl 0 rfl) ?_
          refine ob_calli (va_runV (As := [.int i2_4, .int i3_20]) (rest := []) ⟨hx, hb, hml, hown, hts⟩ (a_X5_entry l dC dI cI cJ cZ cO tL tH tF h0 a_o M i2_4 i3_20 ) (cwV 2 hts gL_isOrdered_X5_entry rfl rfl rfl (by decide +kernel) ⟨Nat.le_of_ble_eq_true rfl, Nat.le_of_ble_eq_true rfl⟩) (ob_preV hK hST hz hS hO) rfl rfl hl.1 rfl (lv_room (Nat.le_of_ble_eq_true rfl)) dL_isOrdered_29 ⟨Nat.le_of_ble_eq_true rfl, Nat.le_of_ble_eq_true rfl⟩) hS (fun H locs hO hS => ?_)
          refine lv_aload_n hx hb dL_isOrdered_32 rfl (lv_at hl 2 rfl) ?_
          refine lv_iload_n hx hb dL_isOrdered_33 rfl (lv_at hl 1 rfl) ?_
          refine lv_iconst (v := 1) hx hb dL_isOrdered_34 (by decide) ?_
          refine lv_isub hx hb dL_isOrdered_35 ?_
          refine lv_iload_n hx hb dL_isOrdered_36 rfl (lv_at hl 0 rfl) ?_
          refine ob_calli (va_runV (As := [.int (i2_4 - 1), .int i3_20]) (rest := [.int (aEntry M i2_4 i3_20)]) ⟨hx, hb, hml, hown, hts⟩ (a_X5_entry l dC dI cI cJ cZ cO tL tH tF h0 a_o M (i2_4 - 1) i3_20 ) (cwV 2 hts gL_isOrdered_X5_entry rfl rfl rfl (by decide +kernel) ⟨Nat.le_of_ble_eq_true rfl, Nat.le_of_ble_eq_true rfl⟩) (ob_preV hK hST hz hS hO) rfl rfl hl.1 rfl (lv_room (Nat.le_of_ble_eq_true rfl)) dL_isOrdered_37 ⟨Nat.le_of_ble_eq_true rfl, Nat.le_of_ble_eq_true rfl⟩) hS (fun H locs hO hS => ?_)
          refine lv_icmp_ne (tgt := 49) hx hb dL_isOrdered_40 (by decide) (fun c_40 => ?_) (fun c_40 => ?_)
          · have hf := (if_neg c_40).symm.trans hf
            exact hk i3_20 _ _ ls hf hO hS (lv_sub hl [0, 1, 2] rfl)
          have hf := (if_pos c_40).symm.trans hf
          refine lv_iinc (v := (i3_20 + 1)) (lv' := [(3, .int (i3_20 + 1)), (2, .int i2_4), (0, .ref a_o)]) hx hb dL_isOrdered_43 hl (k := 0) rfl rfl (by decide) rfl (fun ls hl => ?_)
          refine lv_goto (tgt := 20) hx hb dL_isOrdered_46 (by decide) ?_
          exact ih (i3_20 + 1) _ _ ls hf hO hS (lv_sub hl [0, 1, 2] rfl)
      exact lp_20 _ hk_20 FU 6 _ _ ls hf hO hS (lv_sub hl [0, 1, 3] rfl)
  exact lp_4 _ hk_4 FU 1 1 _ _ ls hf hO hS (lv_sub hl [0, 1, 2] rfl)
abbrev rm_L_isKept : Room := { frames := 4, cells := 0, slots := 0, locals := 91 }
set_option maxHeartbeats 4000000 in
set_option maxRecDepth 100000 in
theorem c_L_isKept (l : Launch) (dC : Nat → ClassId) (dI : Nat → Nat → Nat) (cI cJ cZ cO : ClassId) (tL tH tF h0 a_o : Nat) (M : ObjT) (i_1 : Int32) (res : Int32) (hf : f_L_isKept M i_1 = some res) : Met l yL_isKept wsL_isKept rm_L_isKept (obP dC dI cI cJ cZ cO tL tH tF h0 a_o M [.ref a_o, .int i_1]) (obQi dC dI cI cJ cZ cO h0 a_o res M) 0 0 (oA0 h0) := by
  refine Met.ofW (cc := cL_isKept) (maxL := 9) (ret := (some .boolean)) (by decide) rfl ?_
  intro p e s m args below meth c s₁ B hml hv
  obtain ⟨rfl, hO, hK, hST, hz⟩ := hv
  have hx := B.exec
  have hb := B.bytes
  have hr := B.returns
  have hts := atoms_spec (ws := wsL_isKept) B.pre
  have hown : s.vm.findClass RL = some m.cls := findClass_of_methodNamed B.named
  have hlocks := B.notSynchronized
  have hl := lv_entry ([.ref a_o, .int i_1]) (n := 9) (Nat.le_of_ble_eq_true rfl)
  rw [lg_entry_eq]
  generalize (lg_sl ([.ref a_o, .int i_1]) ++ List.replicate (9 - (lg_sl ([.ref a_o, .int i_1])).length) Slot.unset).toArray = ls at hl ⊢
  have hl : lv_has ls 9 [(0, .ref a_o), (1, .int i_1)] := hl
  refine W_gen (fun Q hQ => ?_)
  refine ob_start hO (fun H locs hO hS => ?_)
  unfold f_L_isKept at hf
  refine lv_aload_n hx hb dL_isKept_0 rfl (lv_at hl 0 rfl) ?_
  refine lv_iload_n hx hb dL_isKept_1 rfl (lv_at hl 1 rfl) ?_
  refine lv_iconst (v := 0) hx hb dL_isKept_2 (by decide) ?_
  refine ob_calli (va_runV (As := [.int i_1, .int 0]) (rest := []) ⟨hx, hb, hml, hown, hts⟩ (a_X5_entry l dC dI cI cJ cZ cO tL tH tF h0 a_o M i_1 0 ) (cwV 2 hts gL_isKept_X5_entry rfl rfl rfl (by decide +kernel) ⟨Nat.le_of_ble_eq_true rfl, Nat.le_of_ble_eq_true rfl⟩) (ob_preV hK hST hz hS hO) rfl rfl hl.1 rfl (lv_room (Nat.le_of_ble_eq_true rfl)) dL_isKept_3 ⟨Nat.le_of_ble_eq_true rfl, Nat.le_of_ble_eq_true rfl⟩) hS (fun H locs hO hS => ?_)
  refine lv_istore_n (lv' := [(2, .int (aEntry M i_1 0)), (0, .ref a_o), (1, .int i_1)]) hx hb dL_isKept_6 rfl hl (by decide) rfl (fun ls hl => ?_)
  refine lv_aload_n hx hb dL_isKept_7 rfl (lv_at hl 1 rfl) ?_
  refine lv_iconst (v := 2) hx hb dL_isKept_8 (by decide) ?_
  refine ob_calli (va_runV (As := [.int 2]) (rest := []) ⟨hx, hb, hml, hown, hts⟩ (a_X5_count l dC dI cI cJ cZ cO tL tH tF h0 a_o M 2 ) (cwV 1 hts gL_isKept_X5_count rfl rfl rfl (by decide +kernel) ⟨Nat.le_of_ble_eq_true rfl, Nat.le_of_ble_eq_true rfl⟩) (ob_preV hK hST hz hS hO) rfl rfl hl.1 rfl (lv_room (Nat.le_of_ble_eq_true rfl)) dL_isKept_9 ⟨Nat.le_of_ble_eq_true rfl, Nat.le_of_ble_eq_true rfl⟩) hS (fun H locs hO hS => ?_)
  refine lv_istore_n (lv' := [(3, .int (aCount M 2)), (2, .int (aEntry M i_1 0)), (0, .ref a_o), (1, .int i_1)]) hx hb dL_isKept_12 rfl hl (by decide) rfl (fun ls hl => ?_)
  refine lv_aload_n hx hb dL_isKept_13 rfl (lv_at hl 2 rfl) ?_
  refine lv_iload_n hx hb dL_isKept_14 rfl (lv_at hl 3 rfl) ?_
  refine lv_iconst (v := 1) hx hb dL_isKept_15 (by decide) ?_
  refine ob_calli (va_runV (As := [.int i_1, .int 1]) (rest := []) ⟨hx, hb, hml, hown, hts⟩ (a_X5_entry l dC dI cI cJ cZ cO tL tH tF h0 a_o M i_1 1 ) (cwV 2 hts gL_isKept_X5_entry rfl rfl rfl (by decide +kernel) ⟨Nat.le_of_ble_eq_true rfl, Nat.le_of_ble_eq_true rfl⟩) (ob_preV hK hST hz hS hO) rfl rfl hl.1 rfl (lv_room (Nat.le_of_ble_eq_true rfl)) dL_isKept_16 ⟨Nat.le_of_ble_eq_true rfl, Nat.le_of_ble_eq_true rfl⟩) hS (fun H locs hO hS => ?_)
  refine lv_istore (lv' := [(4, .int (aEntry M i_1 1)), (3, .int (aCount M 2)), (2, .int (aEntry M i_1 0)), (0, .ref a_o), (1, .int i_1)]) hx hb dL_isKept_19 hl (by decide) rfl (fun ls hl => ?_)
  refine lv_aload_n hx hb dL_isKept_21 rfl (lv_at hl 3 rfl) ?_
  refine lv_iload_n hx hb dL_isKept_22 rfl (lv_at hl 4 rfl) ?_
  refine lv_iconst (v := 3) hx hb dL_isKept_23 (by decide) ?_
  refine ob_calli (va_runV (As := [.int i_1, .int 3]) (rest := []) ⟨hx, hb, hml, hown, hts⟩ (a_X5_entry l dC dI cI cJ cZ cO tL tH tF h0 a_o M i_1 3 ) (cwV 2 hts gL_isKept_X5_entry rfl rfl rfl (by decide +kernel) ⟨Nat.le_of_ble_eq_true rfl, Nat.le_of_ble_eq_true rfl⟩) (ob_preV hK hST hz hS hO) rfl rfl hl.1 rfl (lv_room (Nat.le_of_ble_eq_true rfl)) dL_isKept_24 ⟨Nat.le_of_ble_eq_true rfl, Nat.le_of_ble_eq_true rfl⟩) hS (fun H locs hO hS => ?_)
  refine lv_istore (lv' := [(5, .int (aEntry M i_1 3)), (4, .int (aEntry M i_1 1)), (3, .int (aCount M 2)), (2, .int (aEntry M i_1 0)), (0, .ref a_o), (1, .int i_1)]) hx hb dL_isKept_27 hl (by decide) rfl (fun ls hl => ?_)
  refine lv_aload_n hx hb dL_isKept_29 rfl (lv_at hl 4 rfl) ?_
  refine lv_iload_n hx hb dL_isKept_30 rfl (lv_at hl 5 rfl) ?_
  refine lv_iconst (v := 2) hx hb dL_isKept_31 (by decide) ?_
  refine ob_calli (va_runV (As := [.int i_1, .int 2]) (rest := []) ⟨hx, hb, hml, hown, hts⟩ (a_X5_entry l dC dI cI cJ cZ cO tL tH tF h0 a_o M i_1 2 ) (cwV 2 hts gL_isKept_X5_entry rfl rfl rfl (by decide +kernel) ⟨Nat.le_of_ble_eq_true rfl, Nat.le_of_ble_eq_true rfl⟩) (ob_preV hK hST hz hS hO) rfl rfl hl.1 rfl (lv_room (Nat.le_of_ble_eq_true rfl)) dL_isKept_32 ⟨Nat.le_of_ble_eq_true rfl, Nat.le_of_ble_eq_true rfl⟩) hS (fun H locs hO hS => ?_)
  refine lv_istore (lv' := [(6, .int (aEntry M i_1 2)), (5, .int (aEntry M i_1 3)), (4, .int (aEntry M i_1 1)), (3, .int (aCount M 2)), (2, .int (aEntry M i_1 0)), (0, .ref a_o), (1, .int i_1)]) hx hb dL_isKept_35 hl (by decide) rfl (fun ls hl => ?_)
  refine lv_aload_n hx hb dL_isKept_37 rfl (lv_at hl 5 rfl) ?_
  refine lv_iload hx hb dL_isKept_38 (lv_at hl 2 rfl) ?_
  refine lv_iconst (v := 3) hx hb dL_isKept_40 (by decide) ?_
  refine ob_calli (va_runV (As := [.int (aEntry M i_1 1), .int 3]) (rest := []) ⟨hx, hb, hml, hown, hts⟩ (a_X5_page l dC dI cI cJ cZ cO tL tH tF h0 a_o M (aEntry M i_1 1) 3 ) (cwV 2 hts gL_isKept_X5_page rfl rfl rfl (by decide +kernel) ⟨Nat.le_of_ble_eq_true rfl, Nat.le_of_ble_eq_true rfl⟩) (ob_preV hK hST hz hS hO) rfl rfl hl.1 rfl (lv_room (Nat.le_of_ble_eq_true rfl)) dL_isKept_41 ⟨Nat.le_of_ble_eq_true rfl, Nat.le_of_ble_eq_true rfl⟩) hS (fun H locs hO hS => ?_)
  refine lv_iload hx hb dL_isKept_44 (lv_at hl 0 rfl) ?_
  refine lv_isub hx hb dL_isKept_46 ?_
  refine lv_istore (lv' := [(7, .int ((aPage M (aEntry M i_1 1) 3) - (aEntry M i_1 2))), (6, .int (aEntry M i_1 2)), (5, .int (aEntry M i_1 3)), (4, .int (aEntry M i_1 1)), (3, .int (aCount M 2)), (2, .int (aEntry M i_1 0)), (0, .ref a_o), (1, .int i_1)]) hx hb dL_isKept_47 hl (by decide) rfl (fun ls hl => ?_)
  refine lv_iload hx hb dL_isKept_49 (lv_at hl 1 rfl) ?_
  have jp_87 : ∀ (s0_87 : Int32) (H : Heap) (locs : List Loc) (ls : Array Slot) (hf : J_L_isKept_87 i_1 M s0_87 = some res) (hO : OBJ dC dI cI cJ cZ cO h0 a_o M H) (hS : va_S (oA0 h0) s.heap H locs) (hl : lv_has ls 9 [(7, .int ((aPage M (aEntry M i_1 1) 3) - (aEntry M i_1 2))), (6, .int (aEntry M i_1 2)), (5, .int (aEntry M i_1 3)), (4, .int (aEntry M i_1 1)), (3, .int (aCount M 2)), (2, .int (aEntry M i_1 0)), (0, .ref a_o), (1, .int i_1)]), W p l e (headSpec wsL_isKept rm_L_isKept).room s m ([.ref a_o, .int i_1] : List Value).toArray below meth c H locs 0 0 Q (F0 m 87 ls [.int s0_87]) := by
    intro s0_87 H locs ls hf hO hS hl
    unfold J_L_isKept_87 at hf
    refine lv_istore (lv' := [(8, .int s0_87), (7, .int ((aPage M (aEntry M i_1 1) 3) - (aEntry M i_1 2))), (6, .int (aEntry M i_1 2)), (5, .int (aEntry M i_1 3)), (4, .int (aEntry M i_1 1)), (3, .int (aCount M 2)), (2, .int (aEntry M i_1 0)), (0, .ref a_o), (1, .int i_1)]) hx hb dL_isKept_87 hl (by decide) rfl (fun ls hl => ?_)
    refine lv_iload hx hb dL_isKept_89 (lv_at hl 3 rfl) ?_
    refine lv_iload hx hb dL_isKept_91 (lv_at hl 4 rfl) ?_
    refine lv_icmp_ne (tgt := 113) hx hb dL_isKept_93 (by decide) (fun c_93 => ?_) (fun c_93 => ?_)
    · have hf := (if_neg c_93).symm.trans hf
      refine lv_iload hx hb dL_isKept_113 (lv_at hl 0 rfl) ?_
      refine lv_if_eq (tgt := 192) hx hb dL_isKept_115 (by decide) (fun c_115 => ?_) (fun c_115 => ?_)
      · have hf := (if_pos c_115).symm.trans hf
        refine lv_iconst (v := 0) hx hb dL_isKept_192 (by decide) ?_
        have hq := Option.some.inj hf
        rw [hQ]; exact W.zret (v := 0) hx hb hr rfl (fun t ht hW => ⟨⟨0, M, rfl, ⟨hq, rfl⟩, by dsimp only; rw [ht]; exact hO⟩, hS.F ht⟩) hS.2.2 dL_isKept_193
      have hf := (if_neg c_115).symm.trans hf
      refine lv_aload_n hx hb dL_isKept_118 rfl (lv_at hl 7 rfl) ?_
      refine lv_iload hx hb dL_isKept_119 (lv_at hl 4 rfl) ?_
      refine lv_iconst (v := 1) hx hb dL_isKept_121 (by decide) ?_
      refine ob_calli (va_runV (As := [.int (aEntry M i_1 1), .int 1]) (rest := []) ⟨hx, hb, hml, hown, hts⟩ (a_X5_page l dC dI cI cJ cZ cO tL tH tF h0 a_o M (aEntry M i_1 1) 1 ) (cwV 2 hts gL_isKept_X5_page rfl rfl rfl (by decide +kernel) ⟨Nat.le_of_ble_eq_true rfl, Nat.le_of_ble_eq_true rfl⟩) (ob_preV hK hST hz hS hO) rfl rfl hl.1 rfl (lv_room (Nat.le_of_ble_eq_true rfl)) dL_isKept_122 ⟨Nat.le_of_ble_eq_true rfl, Nat.le_of_ble_eq_true rfl⟩) hS (fun H locs hO hS => ?_)
      refine lv_iload_n hx hb dL_isKept_125 rfl (lv_at hl 8 rfl) ?_
      refine lv_icmp_ne (tgt := 192) hx hb dL_isKept_126 (by decide) (fun c_126 => ?_) (fun c_126 => ?_)
      · have hf := (if_neg c_126).symm.trans hf
        refine lv_iconst (v := 0) hx hb dL_isKept_192 (by decide) ?_
        have hq := Option.some.inj hf
        rw [hQ]; exact W.zret (v := 0) hx hb hr rfl (fun t ht hW => ⟨⟨0, M, rfl, ⟨hq, rfl⟩, by dsimp only; rw [ht]; exact hO⟩, hS.F ht⟩) hS.2.2 dL_isKept_193
      have hf := (if_pos c_126).symm.trans hf
      refine lv_iload hx hb dL_isKept_129 (lv_at hl 1 rfl) ?_
      refine lv_iload_n hx hb dL_isKept_131 rfl (lv_at hl 6 rfl) ?_
      refine lv_icmp_ge (tgt := 192) hx hb dL_isKept_132 (by decide) (fun c_132 => ?_) (fun c_132 => ?_)
      · have hf := (if_pos c_132).symm.trans hf
        refine lv_iconst (v := 0) hx hb dL_isKept_192 (by decide) ?_
        have hq := Option.some.inj hf
        rw [hQ]; exact W.zret (v := 0) hx hb hr rfl (fun t ht hW => ⟨⟨0, M, rfl, ⟨hq, rfl⟩, by dsimp only; rw [ht]; exact hO⟩, hS.F ht⟩) hS.2.2 dL_isKept_193
      have hf := (if_neg c_132).symm.trans hf
      refine lv_iload hx hb dL_isKept_135 (lv_at hl 1 rfl) ?_
      refine lv_iload_n hx hb dL_isKept_137 rfl (lv_at hl 5 rfl) ?_
      have jp_146 : ∀ (H : Heap) (locs : List Loc) (ls : Array Slot) (hf : J_L_isKept_146 i_1 M = some res) (hO : OBJ dC dI cI cJ cZ cO h0 a_o M H) (hS : va_S (oA0 h0) s.heap H locs) (hl : lv_has ls 9 [(7, .int ((aPage M (aEntry M i_1 1) 3) - (aEntry M i_1 2))), (6, .int (aEntry M i_1 2)), (4, .int (aEntry M i_1 1)), (3, .int (aCount M 2)), (2, .int (aEntry M i_1 0)), (0, .ref a_o)]), W p l e (headSpec wsL_isKept rm_L_isKept).room s m ([.ref a_o, .int i_1] : List Value).toArray below meth c H locs 0 0 Q (F0 m 146 ls []) := by
        intro H locs ls hf hO hS hl
        unfold J_L_isKept_146 at hf
        refine lv_iload_n hx hb dL_isKept_146 rfl (lv_at hl 4 rfl) ?_
        refine lv_iconst (v := 2) hx hb dL_isKept_147 (by decide) ?_
        refine lv_iload_n hx hb dL_isKept_148 rfl (lv_at hl 3 rfl) ?_
        refine lv_imul hx hb dL_isKept_149 ?_
        have jp_159 : ∀ (H : Heap) (locs : List Loc) (ls : Array Slot) (hf : J_L_isKept_159 i_1 M = some res) (hO : OBJ dC dI cI cJ cZ cO h0 a_o M H) (hS : va_S (oA0 h0) s.heap H locs) (hl : lv_has ls 9 [(7, .int ((aPage M (aEntry M i_1 1) 3) - (aEntry M i_1 2))), (6, .int (aEntry M i_1 2)), (4, .int (aEntry M i_1 1)), (0, .ref a_o)]), W p l e (headSpec wsL_isKept rm_L_isKept).room s m ([.ref a_o, .int i_1] : List Value).toArray below meth c H locs 0 0 Q (F0 m 159 ls []) := by
          intro H locs ls hf hO hS hl
          unfold J_L_isKept_159 at hf
          refine lv_iload hx hb dL_isKept_159 (lv_at hl 0 rfl) ?_
          refine lv_aload_n hx hb dL_isKept_161 rfl (lv_at hl 3 rfl) ?_
          refine lv_iload hx hb dL_isKept_162 (lv_at hl 2 rfl) ?_
          refine lv_iconst (v := 4) hx hb dL_isKept_164 (by decide) ?_
          refine ob_calli (va_runV (As := [.int (aEntry M i_1 1), .int 4]) (rest := [.int ((aPage M (aEntry M i_1 1) 3) - (aEntry M i_1 2))]) ⟨hx, hb, hml, hown, hts⟩ (a_X5_page l dC dI cI cJ cZ cO tL tH tF h0 a_o M (aEntry M i_1 1) 4 ) (cwV 2 hts gL_isKept_X5_page rfl rfl rfl (by decide +kernel) ⟨Nat.le_of_ble_eq_true rfl, Nat.le_of_ble_eq_true rfl⟩) (ob_preV hK hST hz hS hO) rfl rfl hl.1 rfl (lv_room (Nat.le_of_ble_eq_true rfl)) dL_isKept_165 ⟨Nat.le_of_ble_eq_true rfl, Nat.le_of_ble_eq_true rfl⟩) hS (fun H locs hO hS => ?_)
          refine lv_iadd hx hb dL_isKept_168 ?_
          refine lv_aload_n hx hb dL_isKept_169 rfl (lv_at hl 3 rfl) ?_
          refine lv_iconst (v := 0) hx hb dL_isKept_170 (by decide) ?_
          refine ob_calli (va_runV (As := [.int 0]) (rest := [.int (((aPage M (aEntry M i_1 1) 3) - (aEntry M i_1 2)) + (aPage M (aEntry M i_1 1) 4))]) ⟨hx, hb, hml, hown, hts⟩ (a_X5_count l dC dI cI cJ cZ cO tL tH tF h0 a_o M 0 ) (cwV 1 hts gL_isKept_X5_count rfl rfl rfl (by decide +kernel) ⟨Nat.le_of_ble_eq_true rfl, Nat.le_of_ble_eq_true rfl⟩) (ob_preV hK hST hz hS hO) rfl rfl hl.1 rfl (lv_room (Nat.le_of_ble_eq_true rfl)) dL_isKept_171 ⟨Nat.le_of_ble_eq_true rfl, Nat.le_of_ble_eq_true rfl⟩) hS (fun H locs hO hS => ?_)
          refine lv_aload_n hx hb dL_isKept_174 rfl (lv_at hl 3 rfl) ?_
          refine lv_iload hx hb dL_isKept_175 (lv_at hl 2 rfl) ?_
          refine lv_iconst (v := 5) hx hb dL_isKept_177 (by decide) ?_
          refine ob_calli (va_runV (As := [.int (aEntry M i_1 1), .int 5]) (rest := [.int (aCount M 0), .int (((aPage M (aEntry M i_1 1) 3) - (aEntry M i_1 2)) + (aPage M (aEntry M i_1 1) 4))]) ⟨hx, hb, hml, hown, hts⟩ (a_X5_page l dC dI cI cJ cZ cO tL tH tF h0 a_o M (aEntry M i_1 1) 5 ) (cwV 2 hts gL_isKept_X5_page rfl rfl rfl (by decide +kernel) ⟨Nat.le_of_ble_eq_true rfl, Nat.le_of_ble_eq_true rfl⟩) (ob_preV hK hST hz hS hO) rfl rfl hl.1 rfl (lv_room (Nat.le_of_ble_eq_true rfl)) dL_isKept_178 ⟨Nat.le_of_ble_eq_true rfl, Nat.le_of_ble_eq_true rfl⟩) hS (fun H locs hO hS => ?_)
          refine lv_isub hx hb dL_isKept_181 ?_
          refine lv_iload hx hb dL_isKept_182 (lv_at hl 1 rfl) ?_
          refine lv_isub hx hb dL_isKept_184 ?_
          refine lv_icmp_ne (tgt := 192) hx hb dL_isKept_185 (by decide) (fun c_185 => ?_) (fun c_185 => ?_)
          · have hf := (if_neg c_185).symm.trans hf
            refine lv_iconst (v := 0) hx hb dL_isKept_192 (by decide) ?_
            have hq := Option.some.inj hf
            rw [hQ]; exact W.zret (v := 0) hx hb hr rfl (fun t ht hW => ⟨⟨0, M, rfl, ⟨hq, rfl⟩, by dsimp only; rw [ht]; exact hO⟩, hS.F ht⟩) hS.2.2 dL_isKept_193
          have hf := (if_pos c_185).symm.trans hf
          refine lv_iconst (v := 1) hx hb dL_isKept_188 (by decide) ?_
          refine lv_goto (tgt := 193) hx hb dL_isKept_189 (by decide) ?_
          have hq := Option.some.inj hf
          rw [hQ]; exact W.zret (v := 1) hx hb hr rfl (fun t ht hW => ⟨⟨1, M, rfl, ⟨hq, rfl⟩, by dsimp only; rw [ht]; exact hO⟩, hS.F ht⟩) hS.2.2 dL_isKept_193
        refine lv_icmp_lt (tgt := 159) hx hb dL_isKept_150 (by decide) (fun c_150 => ?_) (fun c_150 => ?_)
        · have hf := (if_pos c_150).symm.trans hf
          exact jp_159 _ _ ls hf hO hS (lv_sub hl [0, 1, 2, 5] rfl)
        have hf := (if_neg c_150).symm.trans hf
        refine lv_iload hx hb dL_isKept_153 (lv_at hl 0 rfl) ?_
        refine lv_iload_n hx hb dL_isKept_155 rfl (lv_at hl 3 rfl) ?_
        refine lv_icmp_lt (tgt := 192) hx hb dL_isKept_156 (by decide) (fun c_156 => ?_) (fun c_156 => ?_)
        · have hf := (if_pos c_156).symm.trans hf
          refine lv_iconst (v := 0) hx hb dL_isKept_192 (by decide) ?_
          have hq := Option.some.inj hf
          rw [hQ]; exact W.zret (v := 0) hx hb hr rfl (fun t ht hW => ⟨⟨0, M, rfl, ⟨hq, rfl⟩, by dsimp only; rw [ht]; exact hO⟩, hS.F ht⟩) hS.2.2 dL_isKept_193
        have hf := (if_neg c_156).symm.trans hf
        exact jp_159 _ _ ls hf hO hS (lv_sub hl [0, 1, 2, 5] rfl)
      refine lv_icmp_ge (tgt := 146) hx hb dL_isKept_138 (by decide) (fun c_138 => ?_) (fun c_138 => ?_)
      · have hf := (if_pos c_138).symm.trans hf
        exact jp_146 _ _ ls hf hO hS (lv_sub hl [1, 2, 4, 5, 6, 7] rfl)
      have hf := (if_neg c_138).symm.trans hf
      refine lv_iload hx hb dL_isKept_141 (lv_at hl 2 rfl) ?_
      refine lv_if_ne (tgt := 192) hx hb dL_isKept_143 (by decide) (fun c_143 => ?_) (fun c_143 => ?_)
      · have hf := (if_neg c_143).symm.trans hf
        refine lv_iconst (v := 0) hx hb dL_isKept_192 (by decide) ?_
        have hq := Option.some.inj hf
        rw [hQ]; exact W.zret (v := 0) hx hb hr rfl (fun t ht hW => ⟨⟨0, M, rfl, ⟨hq, rfl⟩, by dsimp only; rw [ht]; exact hO⟩, hS.F ht⟩) hS.2.2 dL_isKept_193
      have hf := (if_pos c_143).symm.trans hf
      exact jp_146 _ _ ls hf hO hS (lv_sub hl [1, 2, 4, 5, 6, 7] rfl)
    have hf := (if_pos c_93).symm.trans hf
    refine lv_iload hx hb dL_isKept_96 (lv_at hl 0 rfl) ?_
    refine lv_if_eq (tgt := 111) hx hb dL_isKept_98 (by decide) (fun c_98 => ?_) (fun c_98 => ?_)
    · have hf := (if_pos c_98).symm.trans hf
      refine lv_iconst (v := 0) hx hb dL_isKept_111 (by decide) ?_
      have hq := Option.some.inj hf
      rw [hQ]; exact W.zret (v := 0) hx hb hr rfl (fun t ht hW => ⟨⟨0, M, rfl, ⟨hq, rfl⟩, by dsimp only; rw [ht]; exact hO⟩, hS.F ht⟩) hS.2.2 dL_isKept_112
    have hf := (if_neg c_98).symm.trans hf
    refine lv_iload_n hx hb dL_isKept_101 rfl (lv_at hl 6 rfl) ?_
    refine lv_iload hx hb dL_isKept_102 (lv_at hl 1 rfl) ?_
    refine lv_icmp_gt (tgt := 111) hx hb dL_isKept_104 (by decide) (fun c_104 => ?_) (fun c_104 => ?_)
    · have hf := (if_pos c_104).symm.trans hf
      refine lv_iconst (v := 0) hx hb dL_isKept_111 (by decide) ?_
      have hq := Option.some.inj hf
      rw [hQ]; exact W.zret (v := 0) hx hb hr rfl (fun t ht hW => ⟨⟨0, M, rfl, ⟨hq, rfl⟩, by dsimp only; rw [ht]; exact hO⟩, hS.F ht⟩) hS.2.2 dL_isKept_112
    have hf := (if_neg c_104).symm.trans hf
    refine lv_iconst (v := 1) hx hb dL_isKept_107 (by decide) ?_
    refine lv_goto (tgt := 112) hx hb dL_isKept_108 (by decide) ?_
    have hq := Option.some.inj hf
    rw [hQ]; exact W.zret (v := 1) hx hb hr rfl (fun t ht hW => ⟨⟨1, M, rfl, ⟨hq, rfl⟩, by dsimp only; rw [ht]; exact hO⟩, hS.F ht⟩) hS.2.2 dL_isKept_112
  have jp_86 : ∀ (H : Heap) (locs : List Loc) (ls : Array Slot) (hf : J_L_isKept_86 i_1 M = some res) (hO : OBJ dC dI cI cJ cZ cO h0 a_o M H) (hS : va_S (oA0 h0) s.heap H locs) (hl : lv_has ls 9 [(7, .int ((aPage M (aEntry M i_1 1) 3) - (aEntry M i_1 2))), (6, .int (aEntry M i_1 2)), (5, .int (aEntry M i_1 3)), (4, .int (aEntry M i_1 1)), (3, .int (aCount M 2)), (2, .int (aEntry M i_1 0)), (0, .ref a_o), (1, .int i_1)]), W p l e (headSpec wsL_isKept rm_L_isKept).room s m ([.ref a_o, .int i_1] : List Value).toArray below meth c H locs 0 0 Q (F0 m 86 ls []) := by
    intro H locs ls hf hO hS hl
    unfold J_L_isKept_86 at hf
    refine lv_iconst (v := 0) hx hb dL_isKept_86 (by decide) ?_
    exact jp_87 0 _ _ ls hf hO hS (lv_sub hl [0, 1, 2, 3, 4, 5, 6, 7] rfl)
  refine lv_if_lt (tgt := 86) hx hb dL_isKept_51 (by decide) (fun c_51 => ?_) (fun c_51 => ?_)
  · have hf := (if_pos c_51).symm.trans hf
    exact jp_86 _ _ ls hf hO hS (lv_sub hl [0, 1, 2, 3, 4, 5, 6, 7] rfl)
  have hf := (if_neg c_51).symm.trans hf
  refine lv_iload hx hb dL_isKept_54 (lv_at hl 1 rfl) ?_
  refine lv_aload_n hx hb dL_isKept_56 rfl (lv_at hl 6 rfl) ?_
  refine lv_iload hx hb dL_isKept_57 (lv_at hl 3 rfl) ?_
  refine lv_iconst (v := 3) hx hb dL_isKept_59 (by decide) ?_
  refine ob_calli (va_runV (As := [.int (aEntry M i_1 1), .int 3]) (rest := [.int (aEntry M i_1 2)]) ⟨hx, hb, hml, hown, hts⟩ (a_X5_page l dC dI cI cJ cZ cO tL tH tF h0 a_o M (aEntry M i_1 1) 3 ) (cwV 2 hts gL_isKept_X5_page rfl rfl rfl (by decide +kernel) ⟨Nat.le_of_ble_eq_true rfl, Nat.le_of_ble_eq_true rfl⟩) (ob_preV hK hST hz hS hO) rfl rfl hl.1 rfl (lv_room (Nat.le_of_ble_eq_true rfl)) dL_isKept_60 ⟨Nat.le_of_ble_eq_true rfl, Nat.le_of_ble_eq_true rfl⟩) hS (fun H locs hO hS => ?_)
  refine lv_icmp_ge (tgt := 86) hx hb dL_isKept_63 (by decide) (fun c_63 => ?_) (fun c_63 => ?_)
  · have hf := (if_pos c_63).symm.trans hf
    exact jp_86 _ _ ls hf hO hS (lv_sub hl [0, 1, 2, 3, 4, 5, 6, 7] rfl)
  have hf := (if_neg c_63).symm.trans hf
  refine lv_aload_n hx hb dL_isKept_66 rfl (lv_at hl 6 rfl) ?_
  refine lv_iload_n hx hb dL_isKept_67 rfl (lv_at hl 7 rfl) ?_
  refine lv_iconst (v := 4) hx hb dL_isKept_68 (by decide) ?_
  refine ob_calli (va_runV (As := [.int i_1, .int 4]) (rest := []) ⟨hx, hb, hml, hown, hts⟩ (a_X5_entry l dC dI cI cJ cZ cO tL tH tF h0 a_o M i_1 4 ) (cwV 2 hts gL_isKept_X5_entry rfl rfl rfl (by decide +kernel) ⟨Nat.le_of_ble_eq_true rfl, Nat.le_of_ble_eq_true rfl⟩) (ob_preV hK hST hz hS hO) rfl rfl hl.1 rfl (lv_room (Nat.le_of_ble_eq_true rfl)) dL_isKept_69 ⟨Nat.le_of_ble_eq_true rfl, Nat.le_of_ble_eq_true rfl⟩) hS (fun H locs hO hS => ?_)
  refine lv_iload hx hb dL_isKept_72 (lv_at hl 2 rfl) ?_
  refine lv_iload hx hb dL_isKept_74 (lv_at hl 3 rfl) ?_
  refine lv_isub hx hb dL_isKept_76 ?_
  refine lv_iconst (v := 1) hx hb dL_isKept_77 (by decide) ?_
  refine lv_iadd hx hb dL_isKept_78 ?_
  refine lv_icmp_ne (tgt := 86) hx hb dL_isKept_79 (by decide) (fun c_79 => ?_) (fun c_79 => ?_)
  · have hf := (if_neg c_79).symm.trans hf
    exact jp_86 _ _ ls hf hO hS (lv_sub hl [0, 1, 2, 3, 4, 5, 6, 7] rfl)
  have hf := (if_pos c_79).symm.trans hf
  refine lv_iconst (v := 1) hx hb dL_isKept_82 (by decide) ?_
  refine lv_goto (tgt := 87) hx hb dL_isKept_83 (by decide) ?_
  exact jp_87 1 _ _ ls hf hO hS (lv_sub hl [0, 1, 2, 3, 4, 5, 6, 7] rfl)
