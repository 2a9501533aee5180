/-! the script's cells, and the law's body as a function of the object and the script -/
def cellF (nL : Nat) (xs : Nat → Int32) (k : Int32) : Int32 := (if nI nL ≤ k then 961987163 * (k + 107) + 23017 else xs k.toNatClampNeg) &&& 2147483647
def obC (dC : Nat → ClassId) (dI : Nat → Nat → Nat) (cI cJ cZ cO : ClassId) (h0 a_o b nL : Nat) (xs : Nat → Int32) (k : Int32) (M : ObjT) : Array Value → State → Prop :=
  va_Pc [.ref b, .int k] (fun U => OBJ dC dI cI cJ cZ cO h0 a_o M U.heap ∧ va_X b nL xs U U.heap ∧ b < U.heap.size)
theorem obC.blind {dC : Nat → ClassId} {dI : Nat → Nat → Nat} {cI cJ cZ cO : ClassId} {h0 a_o b nL : Nat} {xs : Nat → Int32} {k : Int32} {M : ObjT} : FrameBlind (obC dC dI cI cJ cZ cO h0 a_o b nL xs k M) := fun a U g mk q => by
  obtain ⟨q0, q1, q2, q3⟩ := q
  exact ⟨q0, q1, va_X.moved (u := U) (U := U.calling g mk a) (Vm.Alike.refl U.vm) q2, q3⟩
theorem ob_preC {s : State} {H : Heap} {locs : List Loc} {dC : Nat → ClassId} {dI : Nat → Nat → Nat} {cI cJ cZ cO : ClassId} {h0 a_o b nL : Nat} {xs : Nat → Int32} {k : Int32} {M : ObjT} (hX : va_X b nL xs s s.heap) (hbl : b < s.heap.size) (hbA : ¬ oA0 h0 b) (hS : va_S (oA0 h0) s.heap H locs) (hO : OBJ dC dI cI cJ cZ cO h0 a_o M H) : PreS s H (obC dC dI cI cJ cZ cO h0 a_o b nL xs k M) [.ref b, .int k] :=
  ⟨obC.blind, fun U hU hW => ⟨rfl, by rw [hU]; exact hO, by rw [hU]; exact va_X.moved hW.alike (hX.kept (hS.2.1 b hbl hbA)), by rw [hU]; exact Nat.lt_of_lt_of_le hbl hS.1⟩⟩
theorem vp_in_c {k : Int32} {L : Nat} (hL : L ≤ 260) (h0 : 0 ≤ k) (h : ¬ nI L ≤ k) : vp_in k L := by
  rcases sg_cases k with q | ⟨n, hn, rfl⟩
  · rw [Int32.lt_iff_toInt_lt] at q
    rw [Int32.le_iff_toInt_le] at h0
    omega
  · refine vp_in_nI (Nat.lt_of_not_le fun q => h (nI_le q hn)) (by omega)
abbrev rm_L_cell : Room := { frames := 0, cells := 0, slots := 0, locals := 0 }
theorem c_L_cell (l : Launch) (dC : Nat → ClassId) (dI : Nat → Nat → Nat) (cI cJ cZ cO : ClassId) (h0 a_o b nL : Nat) (M : ObjT) (k : Int32) (xs : Nat → Int32) (hL : nL ≤ 260) (h0k : 0 ≤ k) : Met l yL_cell wsL_cell rm_L_cell (obC dC dI cI cJ cZ cO h0 a_o b nL xs k M) (obQi dC dI cI cJ cZ cO h0 a_o (cellF nL xs k) M) 0 0 (oA0 h0) := by
  refine Met.ofW (cc := cL_cell) (maxL := 2) (ret := (some .int)) (by decide) rfl ?_
  intro p e s m args below meth c s₁ B hml hv
  obtain ⟨rfl, hO, hX, hbl⟩ := hv
  have hx := B.exec
  have hb := B.bytes
  have hr := B.returns
  have hts := atoms_spec (ws := wsL_cell) B.pre
  have hown : s.vm.findClass RL = some m.cls := findClass_of_methodNamed B.named
  have hlocks := B.notSynchronized
  have hw0 := hts (.constant RL 7 (961987163)) (by decide +kernel)
  have hw1 := hts (.constant RL 8 (2147483647)) (by decide +kernel)
  have hl := lv_entry ([.ref b, .int k]) (n := 2) (Nat.le_of_ble_eq_true rfl)
  rw [lg_entry_eq]
  generalize (lg_sl ([.ref b, .int k]) ++ List.replicate (2 - (lg_sl ([.ref b, .int k])).length) Slot.unset).toArray = ls at hl ⊢
  have hl : lv_has ls 2 [(0, .ref b), (1, .int k)] := hl
  refine W_gen (fun Q hQ => ?_)
  have hS0 : va_S (fun _ => False) s.heap s.heap [] := va_S.rf
  have hS : va_S (oA0 h0) s.heap s.heap [] := va_S.rf
  have fin : ∀ (ls : Array Slot) (x : Int32), (if nI nL ≤ k then 961987163 * (k + 107) + 23017 else xs k.toNatClampNeg) = x → W p l e (headSpec wsL_cell rm_L_cell).room s m ([.ref b, .int k] : List Value).toArray below meth c s.heap [] 0 0 Q (F0 m 23 ls [.int x]) := by
    intro ls x hxx
    refine lv_ldc (v := 2147483647) hx hb hown hw1 dL_cell_23 ?_
    refine lv_iand hx hb dL_cell_25 ?_
    have ex : cellF nL xs k = x &&& 2147483647 := by rw [← hxx]; rfl
    rw [hQ]; exact W.iret (v := x &&& 2147483647) hx hb hr (fun t ht hW => ⟨⟨x &&& 2147483647, M, rfl, ⟨ex.symm, rfl⟩, by dsimp only; rw [ht]; exact hO⟩, hS.F ht⟩) hS.2.2 dL_cell_26
  refine lv_iload_n hx hb dL_cell_0 rfl (lv_at hl 1 rfl) ?_
  refine lv_aload_n hx hb dL_cell_1 rfl (lv_at hl 0 rfl) ?_
  refine va_slen hx hb hX hbl (fun h => h) hS0 dL_cell_2 ?_
  refine lv_icmp_ge (tgt := 12) hx hb dL_cell_3 (by decide) (fun c_3 => ?_) (fun c_3 => ?_)
  · refine lv_ldc (v := 961987163) hx hb hown hw0 dL_cell_12 ?_
    refine lv_iload_n hx hb dL_cell_14 rfl (lv_at hl 1 rfl) ?_
    refine lv_bipush (v := 107) hx hb dL_cell_15 (by decide) ?_
    refine lv_iadd hx hb dL_cell_17 ?_
    refine lv_imul hx hb dL_cell_18 ?_
    refine lv_sipush (v := 23017) hx hb dL_cell_19 (by decide) ?_
    refine lv_iadd hx hb dL_cell_22 ?_
    exact fin ls _ (if_pos c_3)
  · refine lv_aload_n hx hb dL_cell_6 rfl (lv_at hl 0 rfl) ?_
    refine lv_iload_n hx hb dL_cell_7 rfl (lv_at hl 1 rfl) ?_
    refine va_sld hx hb hX hbl (fun h => h) hS0 (vp_in_c hL h0k c_3) dL_cell_8 ?_
    refine lv_goto (tgt := 23) hx hb dL_cell_9 (by decide) ?_
    exact fin ls _ (if_neg c_3)
noncomputable def J_L_law_354 (REC_118 : Int32 → Int32 → ObjT → Option (Int32)) (i3_118 : Int32) (r_149 : Int64) (M_293 : ObjT) (r_315 : Int64) (r_338 : Int32 × ObjT) (s0_354 : Int32) : Option (Int32) := if r_338.1 = s0_354 then (Option.bind (f_L_seen r_338.2) (fun (r_358 : Int64) => if r_358 = r_149 then (Option.bind (some (aRestore r_338.2 0)) (fun (r_369 : Int32 × ObjT) => if r_369.1 = (aCount M_293 3) then (Option.bind (f_L_seen r_369.2) (fun (r_378 : Int64) => if r_378 = r_315 then (REC_118 (i3_118 + 1) 1 r_369.2) else (REC_118 (i3_118 + 1) 0 r_369.2))) else (REC_118 (i3_118 + 1) 0 r_369.2))) else (REC_118 (i3_118 + 1) 0 r_338.2))) else (REC_118 (i3_118 + 1) 0 r_338.2)
noncomputable def J_L_law_293 (REC_118 : Int32 → Int32 → ObjT → Option (Int32)) (nL : Nat) (xs : Nat → Int32) (i3_118 : Int32) (M_118 : ObjT) (r_149 : Int64) (r_167 : Int32 × ObjT) (M_293 : ObjT) (s0_293 : Int32) : Option (Int32) := if s0_293 = 0 then (REC_118 (i3_118 + 1) s0_293 M_293) else (if r_167.1 = 1 then (if (remI ((cellF nL xs (2 * i3_118)) / 13) 3) = 0 then (Option.bind (f_L_seen M_293) (fun (r_315 : Int64) => Option.bind (some (aSave M_293 0)) (fun (r_329 : Int32 × ObjT) => if r_329.1 = (aCount M_293 3) then (Option.bind (some (aUndo r_329.2)) (fun (r_338 : Int32 × ObjT) => if 6 ≤ (aCount M_118 14) then (J_L_law_354 REC_118 i3_118 r_149 M_293 r_315 r_338 5) else (J_L_law_354 REC_118 i3_118 r_149 M_293 r_315 r_338 (aCount M_118 14)))) else (REC_118 (i3_118 + 1) 0 r_329.2)))) else (REC_118 (i3_118 + 1) s0_293 M_293)) else (REC_118 (i3_118 + 1) s0_293 M_293))
noncomputable def J_L_law_292 (REC_118 : Int32 → Int32 → ObjT → Option (Int32)) (nL : Nat) (xs : Nat → Int32) (i3_118 : Int32) (M_118 : ObjT) (r_149 : Int64) (r_167 : Int32 × ObjT) (M_292 : ObjT) : Option (Int32) := J_L_law_293 REC_118 nL xs i3_118 M_118 r_149 r_167 M_292 0
noncomputable def J_L_law_288 (REC_118 : Int32 → Int32 → ObjT → Option (Int32)) (nL : Nat) (xs : Nat → Int32) (i3_118 : Int32) (M_118 : ObjT) (r_149 : Int64) (r_167 : Int32 × ObjT) (M_288 : ObjT) : Option (Int32) := J_L_law_293 REC_118 nL xs i3_118 M_118 r_149 r_167 M_288 1
noncomputable def J_L_law_268 (REC_118 : Int32 → Int32 → ObjT → Option (Int32)) (nL : Nat) (xs : Nat → Int32) (i3_118 : Int32) (M_118 : ObjT) (r_149 : Int64) (r_167 : Int32 × ObjT) : Option (Int32) := if (remI i3_118 6) = 5 then (Option.bind (f_L_refuses r_167.2 ((cellF nL xs (2 * i3_118)) / 6)) (fun (r_282 : Int32 × ObjT) => if r_282.1 = 0 then (J_L_law_292 REC_118 nL xs i3_118 M_118 r_149 r_167 r_282.2) else (J_L_law_288 REC_118 nL xs i3_118 M_118 r_149 r_167 r_282.2))) else (J_L_law_288 REC_118 nL xs i3_118 M_118 r_149 r_167 r_167.2)
noncomputable def J_L_law_231 (REC_118 : Int32 → Int32 → ObjT → Option (Int32)) (nL : Nat) (xs : Nat → Int32) (i3_118 : Int32) (M_118 : ObjT) (r_149 : Int64) (r_167 : Int32 × ObjT) : Option (Int32) := Option.bind (f_L_isOrdered r_167.2) (fun (r_232 : Int32) => if r_232 = 0 then (J_L_law_292 REC_118 nL xs i3_118 M_118 r_149 r_167 r_167.2) else (Option.bind (f_L_isLaid r_167.2) (fun (r_239 : Int32) => if r_239 = 0 then (J_L_law_292 REC_118 nL xs i3_118 M_118 r_149 r_167 r_167.2) else (if (aCount r_167.2 3) = 0 then (J_L_law_268 REC_118 nL xs i3_118 M_118 r_149 r_167) else (gd (!((aCount r_167.2 3) == 0)) (Option.bind (f_L_isKept r_167.2 (remI (cellF nL xs ((2 * i3_118) + 1)) (aCount r_167.2 3))) (fun (r_262 : Int32) => if r_262 = 0 then (J_L_law_292 REC_118 nL xs i3_118 M_118 r_149 r_167 r_167.2) else (J_L_law_268 REC_118 nL xs i3_118 M_118 r_149 r_167))))))))
noncomputable def J_L_law_228 (REC_118 : Int32 → Int32 → ObjT → Option (Int32)) (nL : Nat) (xs : Nat → Int32) (i3_118 : Int32) (M_118 : ObjT) (r_149 : Int64) (r_167 : Int32 × ObjT) (s0_228 : Int32) : Option (Int32) := if (aCount r_167.2 14) = s0_228 then (J_L_law_231 REC_118 nL xs i3_118 M_118 r_149 r_167) else (J_L_law_292 REC_118 nL xs i3_118 M_118 r_149 r_167 r_167.2)
noncomputable def L_L_law_118 (K : Int32 → Int32 → ObjT → Option (Int32)) (nL : Nat) (xs : Nat → Int32) : Nat → Int32 → Int32 → ObjT → Option (Int32)
  | 0, _, _, _ => none
  | n+1, i3_118, i2_118, M_118 => if 40 ≤ i3_118 then (K i3_118 i2_118 M_118) else (if i2_118 = 0 then (K i3_118 i2_118 M_118) else (gd (decide (0 ≤ (2 * i3_118))) (gd (decide (0 ≤ ((2 * i3_118) + 1))) (Option.bind (f_L_seen M_118) (fun (r_149 : Int64) => Option.bind (f_L_act M_118 (cellF nL xs (2 * i3_118)) (cellF nL xs ((2 * i3_118) + 1))) (fun (r_167 : Int32 × ObjT) => if r_167.1 < 0 then (J_L_law_292 (fun (i3_118 : Int32) (i2_118 : Int32) (M_118 : ObjT) => L_L_law_118 K nL xs n i3_118 i2_118 M_118) nL xs i3_118 M_118 r_149 r_167 r_167.2) else (if r_167.1 = 0 then (if (aCount r_167.2 14) = (aCount M_118 14) then (Option.bind (f_L_seen r_167.2) (fun (r_198 : Int64) => if r_198 = r_149 then (J_L_law_231 (fun (i3_118 : Int32) (i2_118 : Int32) (M_118 : ObjT) => L_L_law_118 K nL xs n i3_118 i2_118 M_118) nL xs i3_118 M_118 r_149 r_167) else (J_L_law_292 (fun (i3_118 : Int32) (i2_118 : Int32) (M_118 : ObjT) => L_L_law_118 K nL xs n i3_118 i2_118 M_118) nL xs i3_118 M_118 r_149 r_167 r_167.2))) else (J_L_law_292 (fun (i3_118 : Int32) (i2_118 : Int32) (M_118 : ObjT) => L_L_law_118 K nL xs n i3_118 i2_118 M_118) nL xs i3_118 M_118 r_149 r_167 r_167.2)) else (if 6 ≤ (aCount M_118 14) then (J_L_law_228 (fun (i3_118 : Int32) (i2_118 : Int32) (M_118 : ObjT) => L_L_law_118 K nL xs n i3_118 i2_118 M_118) nL xs i3_118 M_118 r_149 r_167 6) else (J_L_law_228 (fun (i3_118 : Int32) (i2_118 : Int32) (M_118 : ObjT) => L_L_law_118 K nL xs n i3_118 i2_118 M_118) nL xs i3_118 M_118 r_149 r_167 ((aCount M_118 14) + 1))))))))))
theorem L_L_law_118_0 (K : Int32 → Int32 → ObjT → Option (Int32)) (nL : Nat) (xs : Nat → Int32) (i3_118 : Int32) (i2_118 : Int32) (M_118 : ObjT) : L_L_law_118 K nL xs 0 i3_118 i2_118 M_118 = none := rfl
theorem L_L_law_118_s (K : Int32 → Int32 → ObjT → Option (Int32)) (nL : Nat) (xs : Nat → Int32) (n : Nat) (i3_118 : Int32) (i2_118 : Int32) (M_118 : ObjT) : L_L_law_118 K nL xs (n+1) i3_118 i2_118 M_118 = (if 40 ≤ i3_118 then (K i3_118 i2_118 M_118) else (if i2_118 = 0 then (K i3_118 i2_118 M_118) else (gd (decide (0 ≤ (2 * i3_118))) (gd (decide (0 ≤ ((2 * i3_118) + 1))) (Option.bind (f_L_seen M_118) (fun (r_149 : Int64) => Option.bind (f_L_act M_118 (cellF nL xs (2 * i3_118)) (cellF nL xs ((2 * i3_118) + 1))) (fun (r_167 : Int32 × ObjT) => if r_167.1 < 0 then (J_L_law_292 (fun (i3_118 : Int32) (i2_118 : Int32) (M_118 : ObjT) => L_L_law_118 K nL xs n i3_118 i2_118 M_118) nL xs i3_118 M_118 r_149 r_167 r_167.2) else (if r_167.1 = 0 then (if (aCount r_167.2 14) = (aCount M_118 14) then (Option.bind (f_L_seen r_167.2) (fun (r_198 : Int64) => if r_198 = r_149 then (J_L_law_231 (fun (i3_118 : Int32) (i2_118 : Int32) (M_118 : ObjT) => L_L_law_118 K nL xs n i3_118 i2_118 M_118) nL xs i3_118 M_118 r_149 r_167) else (J_L_law_292 (fun (i3_118 : Int32) (i2_118 : Int32) (M_118 : ObjT) => L_L_law_118 K nL xs n i3_118 i2_118 M_118) nL xs i3_118 M_118 r_149 r_167 r_167.2))) else (J_L_law_292 (fun (i3_118 : Int32) (i2_118 : Int32) (M_118 : ObjT) => L_L_law_118 K nL xs n i3_118 i2_118 M_118) nL xs i3_118 M_118 r_149 r_167 r_167.2)) else (if 6 ≤ (aCount M_118 14) then (J_L_law_228 (fun (i3_118 : Int32) (i2_118 : Int32) (M_118 : ObjT) => L_L_law_118 K nL xs n i3_118 i2_118 M_118) nL xs i3_118 M_118 r_149 r_167 6) else (J_L_law_228 (fun (i3_118 : Int32) (i2_118 : Int32) (M_118 : ObjT) => L_L_law_118 K nL xs n i3_118 i2_118 M_118) nL xs i3_118 M_118 r_149 r_167 ((aCount M_118 14) + 1))))))))))) := rfl
noncomputable def J_L_law_115 (nL : Nat) (xs : Nat → Int32) (M_115 : ObjT) (s0_115 : Int32) : Option (Int32) := L_L_law_118 (fun (i3_118 : Int32) (i2_118 : Int32) (M_118 : ObjT) => if i2_118 = 0 then (some 0) else (Option.bind (some (aRestore M_118 1)) (fun (r_405 : Int32 × ObjT) => if r_405.1 = 0 then (if (aCount r_405.2 4) = 0 then (Option.bind (some (aUndo r_405.2)) (fun (r_420 : Int32 × ObjT) => if r_420.1 < 0 then (some 0) else (Option.bind (f_L_isLaid r_420.2) (fun (r_427 : Int32) => if r_427 = 0 then (some 0) else (some 1))))) else (some 0)) else (some 0)))) nL xs FU 0 s0_115 M_115
noncomputable def J_L_law_114 (nL : Nat) (xs : Nat → Int32) (M_114 : ObjT) : Option (Int32) := J_L_law_115 nL xs M_114 0
noncomputable def f_L_law (M : ObjT) (nL : Nat) (xs : Nat → Int32) : Option Int32 := Option.bind (some (aUndo M)) (fun (r_9 : Int32 × ObjT) => if r_9.1 = (-5) then (Option.bind (some (aRestore r_9.2 0)) (fun (r_19 : Int32 × ObjT) => if r_19.1 = (-5) then (Option.bind (some (aRestore r_19.2 1)) (fun (r_29 : Int32 × ObjT) => if r_29.1 = (-5) then (if (aCount r_29.2 0) = 12 then (if (aCount r_29.2 1) = 12 then (if (aCount r_29.2 2) = 2 then (if (aCount r_29.2 8) = 1 then (if (aCount r_29.2 9) = 1 then (Option.bind (f_L_refuses r_29.2 0) (fun (r_88 : Int32 × ObjT) => if r_88.1 = 0 then (J_L_law_114 nL xs r_88.2) else (Option.bind (f_L_refuses r_88.2 1) (fun (r_96 : Int32 × ObjT) => if r_96.1 = 0 then (J_L_law_114 nL xs r_96.2) else (Option.bind (some (aSave r_96.2 1)) (fun (r_104 : Int32 × ObjT) => if r_104.1 = 0 then (J_L_law_115 nL xs r_104.2 1) else (J_L_law_114 nL xs r_104.2))))))) else (J_L_law_114 nL xs r_29.2)) else (J_L_law_114 nL xs r_29.2)) else (J_L_law_114 nL xs r_29.2)) else (J_L_law_114 nL xs r_29.2)) else (J_L_law_114 nL xs r_29.2)) else (J_L_law_114 nL xs r_29.2))) else (J_L_law_114 nL xs r_19.2))) else (J_L_law_114 nL xs r_9.2))
