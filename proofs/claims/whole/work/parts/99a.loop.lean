/-! the law's loop -/
theorem lw_end {L i : Nat} (hL : L ≤ 1536) (hi : i ≤ L) (c : ¬ Int32.ofNat L - 3 < nI i) : i + 3 ≤ L := by
  by_cases h : 3 ≤ L
  · obtain ⟨d, rfl⟩ : ∃ d, L = d + 3 := ⟨L - 3, by omega⟩
    have e : Int32.ofNat (d + 3) - 3 = nI d := by
      show nI (d + 3) - 3 = nI d
      rw [show (3 : Int32) = nI 3 by rfl, ← nI_add, Int32.add_sub_cancel]
    rw [e] at c
    have h2 : ¬ d < i := fun q => c (nI_lt q (by omega))
    omega
  · refine absurd ?_ c
    rw [Int32.lt_iff_toInt_lt, nI_toInt (by omega)]
    rcases (show L = 0 ∨ L = 1 ∨ L = 2 by omega) with rfl | rfl | rfl
    · have : (Int32.ofNat 0 - 3).toInt = -3 := by decide
      omega
    · have : (Int32.ofNat 1 - 3).toInt = -2 := by decide
      omega
    · have : (Int32.ofNat 2 - 3).toInt = -1 := by decide
      omega
set_option maxHeartbeats 4000000 in
set_option maxRecDepth 100000 in
theorem law_loop {p : Program} {e : Env} {s : State} {m : MethodId} {below : List Frame} {meth : Method} {c : Code} (l : Launch) {b L : Nat} {xs : Nat → Int32} (hL : L ≤ 1536) (C0 : lw_At p s m meth c b L xs) {dC : Nat → ClassId} {dI : Nat → Nat → Nat} {cI cJ cZ cO : ClassId} {t_LOWEST t_HIGHEST t_AT_FIRST : Nat} {A : Nat → Prop} (hA : ∀ q : Nat, s.heap.size ≤ q → A q) (hbA : ¬ A b) (hAs : ∀ q : Nat, A q → s.heap.size ≤ q) (hK : va_K (dC, dI) vwCl [(cI, .int), (cJ, .long), (cZ, .boolean), (cO, .object RX1)] s) (hST : stA t_LOWEST t_HIGHEST t_AT_FIRST A s s.heap) {a_x1 a_x2 : Nat} : ∀ (n i : Nat) (x3 : Int32), x3 = nI i → i ≤ L → L + 1 ≤ i + n → ∀ (H : Heap) (locs : List Loc) (ls : Array Slot), GOOD dC dI cI cJ cZ cO A a_x1 a_x2 H → va_S A s.heap H locs → lv_has ls 4 [(0, .ref b), (1, .ref a_x1), (2, .ref a_x2), (3, .int x3)] → W p l e room_1 s m #[Value.ref b] below meth c H locs 600000 7302250 (lw_Z below #[Value.ref b] s) (F0 m 18 ls []) := by
  obtain ⟨hx, hb, hr, hml, hown, hts, hX, hbl, hlocks, hgv⟩ := id C0
  intro n
  induction n with
  | zero =>
    intro i x3 ex3 h1 h2
    exact absurd h2 (by omega)
  | succ n ih =>
    intro i x3 ex3 hi hin H locs ls hg hS hl
    refine lv_iload_n hx hb dL_law_18 rfl (lv_at hl 3 rfl) ?_
    refine lv_aload_n hx hb dL_law_19 rfl (lv_at hl 0 rfl) ?_
    refine va_slen hx hb hX hbl hbA hS dL_law_20 ?_
    refine lv_iconst (v := 3) hx hb dL_law_21 (by decide) ?_
    refine lv_isub hx hb dL_law_22 ?_
    refine lv_icmp_gt (tgt := 667) hx hb dL_law_23 (by decide) (fun c_23 => ?_) (fun c_23 => ?_)
    · refine lv_iconst (v := 1) hx hb dL_law_667 (by decide) ?_
      refine va_forget (fun q hq => hAs _ (hS.2.2 q hq)) ?_
      exact lw_ret hx hb hr hlocks dL_law_668
    · rw [ex3] at c_23
      have h3 := lw_end hL hi c_23
      have g0 : vp_in x3 L := by rw [ex3]; exact vp_in_nI (by omega) (by omega)
      have g1 : vp_in (x3 + 1) L := by rw [ex3, nI_1]; exact vp_in_nI (by omega) (by omega)
      have g2 : vp_in (x3 + 2) L := by rw [ex3, show (2 : Int32) = nI 2 by rfl, nI_add]; exact vp_in_nI (by omega) (by omega)
      have hgo : ∀ (H : Heap) (locs : List Loc) (ls : Array Slot), GOOD dC dI cI cJ cZ cO A a_x1 a_x2 H → va_S A s.heap H locs → lv_has ls 4 [(0, .ref b), (1, .ref a_x1), (2, .ref a_x2), (3, .int x3)] → W p l e room_1 s m #[Value.ref b] below meth c H locs 600000 7302250 (lw_Z below #[Value.ref b] s) (F0 m 661 ls []) := by
        intro H locs ls hg hS hl
        obtain ⟨y3, ey3⟩ : ∃ y : Int32, y = x3 + 3 := ⟨_, rfl⟩
        refine lv_iinc (v := y3) (lv' := [(3, .int y3), (0, .ref b), (1, .ref a_x1), (2, .ref a_x2)]) hx hb dL_law_661 hl (k := 3) rfl (by rw [ey3]; rfl) (by decide) rfl (fun ls hl => ?_)
        refine lv_goto (tgt := 18) hx hb dL_law_664 (by decide) ?_
        exact ih (i + 3) y3 (by rw [ey3, ex3, show (3 : Int32) = nI 3 by rfl, nI_add]) h3 (by omega) H locs ls hg hS (lv_sub hl [1, 2, 3, 0] rfl)
      refine lv_aload_n hx hb dL_law_26 rfl (lv_at hl 0 rfl) ?_
      refine lv_iload_n hx hb dL_law_27 rfl (lv_at hl 3 rfl) ?_
      refine va_sld hx hb hX hbl hbA hS g0 dL_law_28 ?_
      refine lv_bipush (v := 31) hx hb dL_law_29 (by decide) ?_
      refine lv_iand hx hb dL_law_31 ?_
      refine lv_topi (fun k ek => ?_)
      by_cases c_lo : k < 0
      · refine lv_tableOut (tgt := 661) hx hb dL_law_32 (Or.inl (sw_lt (a := 0) c_lo rfl)) (by decide) ?_
        exact hgo H locs ls hg hS hl
      by_cases c_hi : (20 : Int32) < k
      · refine lv_tableOut (tgt := 661) hx hb dL_law_32 (Or.inr (sw_gt (a := 20) c_hi rfl)) (by decide) ?_
        exact hgo H locs ls hg hS hl
      by_cases q0 : k = 0
      · refine lv_tableIn (off := 100) (tgt := 132) hx hb dL_law_32 (by rw [q0]; decide) (by rw [q0]; decide) (by rw [q0]; rfl) (by decide) ?_
        exact lw_c_set C0 hA hbA hK hST g1 g2 hgo H locs ls hg hS hl
      by_cases q1 : k = 1
      · refine lv_tableIn (off := 133) (tgt := 165) hx hb dL_law_32 (by rw [q1]; decide) (by rw [q1]; decide) (by rw [q1]; rfl) (by decide) ?_
        exact lw_c_read C0 hA hbA hK hST g1 g2 hgo H locs ls hg hS hl
      by_cases q2 : k = 2
      · refine lv_tableIn (off := 146) (tgt := 178) hx hb dL_law_32 (by rw [q2]; decide) (by rw [q2]; decide) (by rw [q2]; rfl) (by decide) ?_
        exact lw_c_change C0 hA hbA hK hST g1 g2 hgo H locs ls hg hS hl
      by_cases q3 : k = 3
      · refine lv_tableIn (off := 179) (tgt := 211) hx hb dL_law_32 (by rw [q3]; decide) (by rw [q3]; decide) (by rw [q3]; rfl) (by decide) ?_
        exact lw_c_drop C0 hA hbA hK hST g1 g2 hgo H locs ls hg hS hl
      by_cases q4 : k = 4
      · refine lv_tableIn (off := 202) (tgt := 234) hx hb dL_law_32 (by rw [q4]; decide) (by rw [q4]; decide) (by rw [q4]; rfl) (by decide) ?_
        exact lw_c_join C0 hA hbA hK hST g1 g2 hgo H locs ls hg hS hl
      by_cases q5 : k = 5
      · refine lv_tableIn (off := 225) (tgt := 257) hx hb dL_law_32 (by rw [q5]; decide) (by rw [q5]; decide) (by rw [q5]; rfl) (by decide) ?_
        exact lw_c_rename C0 hA hbA hK hST g1 g2 hgo H locs ls hg hS hl
      by_cases q6 : k = 6
      · refine lv_tableIn (off := 248) (tgt := 280) hx hb dL_law_32 (by rw [q6]; decide) (by rw [q6]; decide) (by rw [q6]; rfl) (by decide) ?_
        exact lw_c_entry C0 hA hbA hK hST g1 g2 hgo H locs ls hg hS hl
      by_cases q7 : k = 7
      · refine lv_tableIn (off := 281) (tgt := 313) hx hb dL_law_32 (by rw [q7]; decide) (by rw [q7]; decide) (by rw [q7]; rfl) (by decide) ?_
        exact lw_c_page C0 hA hbA hK hST g1 g2 hgo H locs ls hg hS hl
      by_cases q8 : k = 8
      · refine lv_tableIn (off := 314) (tgt := 346) hx hb dL_law_32 (by rw [q8]; decide) (by rw [q8]; decide) (by rw [q8]; rfl) (by decide) ?_
        exact lw_c_fold C0 hA hbA hK hST g1 g2 hgo H locs ls hg hS hl
      by_cases q9 : k = 9
      · refine lv_tableIn (off := 363) (tgt := 395) hx hb dL_law_32 (by rw [q9]; decide) (by rw [q9]; decide) (by rw [q9]; rfl) (by decide) ?_
        exact lw_c_count C0 hA hbA hK hST g1 g2 hgo H locs ls hg hS hl
      by_cases q10 : k = 10
      · refine lv_tableIn (off := 386) (tgt := 418) hx hb dL_law_32 (by rw [q10]; decide) (by rw [q10]; decide) (by rw [q10]; rfl) (by decide) ?_
        exact lw_c_lookFor C0 hA hbA hK hST g1 g2 hgo H locs ls hg hS hl
      by_cases q11 : k = 11
      · refine lv_tableIn (off := 399) (tgt := 431) hx hb dL_law_32 (by rw [q11]; decide) (by rw [q11]; decide) (by rw [q11]; rfl) (by decide) ?_
        exact lw_c_find C0 hA hbA hK hST g1 g2 hgo H locs ls hg hS hl
      by_cases q12 : k = 12
      · refine lv_tableIn (off := 412) (tgt := 444) hx hb dL_law_32 (by rw [q12]; decide) (by rw [q12]; decide) (by rw [q12]; rfl) (by decide) ?_
        exact lw_c_ifSet C0 hA hbA hK hST g1 g2 hgo H locs ls hg hS hl
      by_cases q13 : k = 13
      · refine lv_tableIn (off := 445) (tgt := 477) hx hb dL_law_32 (by rw [q13]; decide) (by rw [q13]; decide) (by rw [q13]; rfl) (by decide) ?_
        exact lw_c_leastLines C0 hA hbA hK hST g1 g2 hgo H locs ls hg hS hl
      by_cases q14 : k = 14
      · refine lv_tableIn (off := 468) (tgt := 500) hx hb dL_law_32 (by rw [q14]; decide) (by rw [q14]; decide) (by rw [q14]; rfl) (by decide) ?_
        exact lw_c_bestLines C0 hA hbA hK hST g1 g2 hgo H locs ls hg hS hl
      by_cases q15 : k = 15
      · refine lv_tableIn (off := 491) (tgt := 523) hx hb dL_law_32 (by rw [q15]; decide) (by rw [q15]; decide) (by rw [q15]; rfl) (by decide) ?_
        exact lw_c_put C0 hA hbA hK hST g1 g2 hgo H locs ls hg hS hl
      by_cases q16 : k = 16
      · refine lv_tableIn (off := 544) (tgt := 576) hx hb dL_law_32 (by rw [q16]; decide) (by rw [q16]; decide) (by rw [q16]; rfl) (by decide) ?_
        exact lw_c_wipe C0 hA hbA hK hST g1 g2 hgo H locs ls hg hS hl
      by_cases q17 : k = 17
      · refine lv_tableIn (off := 557) (tgt := 589) hx hb dL_law_32 (by rw [q17]; decide) (by rw [q17]; decide) (by rw [q17]; rfl) (by decide) ?_
        exact lw_c_fault C0 hA hbA hK hST g1 g2 hgo H locs ls hg hS hl
      by_cases q18 : k = 18
      · refine lv_tableIn (off := 570) (tgt := 602) hx hb dL_law_32 (by rw [q18]; decide) (by rw [q18]; decide) (by rw [q18]; rfl) (by decide) ?_
        exact lw_c_undo C0 hA hbA hK hST g1 g2 hgo H locs ls hg hS hl
      by_cases q19 : k = 19
      · refine lv_tableIn (off := 583) (tgt := 615) hx hb dL_law_32 (by rw [q19]; decide) (by rw [q19]; decide) (by rw [q19]; rfl) (by decide) ?_
        exact lw_c_save C0 hA hbA hK hST g1 g2 hgo H locs ls hg hS hl
      have q20 : k = 20 := sw_eq (a := 20) rfl (by have h1 := sw_nlt (a := 0) c_lo rfl; have h2 := sw_ngt (a := 20) c_hi rfl; have w0 := lv_neT (a := 0) q0 rfl; have w1 := lv_neT (a := 1) q1 rfl; have w2 := lv_neT (a := 2) q2 rfl; have w3 := lv_neT (a := 3) q3 rfl; have w4 := lv_neT (a := 4) q4 rfl; have w5 := lv_neT (a := 5) q5 rfl; have w6 := lv_neT (a := 6) q6 rfl; have w7 := lv_neT (a := 7) q7 rfl; have w8 := lv_neT (a := 8) q8 rfl; have w9 := lv_neT (a := 9) q9 rfl; have w10 := lv_neT (a := 10) q10 rfl; have w11 := lv_neT (a := 11) q11 rfl; have w12 := lv_neT (a := 12) q12 rfl; have w13 := lv_neT (a := 13) q13 rfl; have w14 := lv_neT (a := 14) q14 rfl; have w15 := lv_neT (a := 15) q15 rfl; have w16 := lv_neT (a := 16) q16 rfl; have w17 := lv_neT (a := 17) q17 rfl; have w18 := lv_neT (a := 18) q18 rfl; have w19 := lv_neT (a := 19) q19 rfl; omega)
      refine lv_tableIn (off := 606) (tgt := 638) hx hb dL_law_32 (by rw [q20]; decide) (by rw [q20]; decide) (by rw [q20]; rfl) (by decide) ?_
      exact lw_c_restore C0 hA hbA hK hST g1 g2 hgo H locs ls hg hS hl
