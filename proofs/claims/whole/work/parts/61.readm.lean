/-! reading as a whole, ahead of the layout -/
theorem m_swap_loop {K : Int32 → (Nat → Int64) → (Nat → Int64) → Option (Int32 × (Nat → Int64) × (Nat → Int64) × (Nat → Int64))} : ∀ (d n i : Nat) (z sp : Nat → Int64), i + d = 64 → d < n →
    ∃ z' sp', L_X6_readInto_2 K n (nI i) z sp = K (nI 64) z' sp' ∧ (∀ j, j < i → z' j = z j ∧ sp' j = sp j) ∧ ∀ j, i ≤ j → j < 64 → z' j = sp j ∧ sp' j = z j
  | _, 0, _, _, _, _, h => absurd h (by omega)
  | 0, n + 1, i, z, sp, hi, _ => by
    refine ⟨z, sp, ?_, fun j _ => ⟨rfl, rfl⟩, fun j h1 h2 => absurd h2 (by omega)⟩
    rw [L_X6_readInto_2_s, if_pos (show (64 : Int32) ≤ nI i from nI_le (a := 64) (by omega) (by omega)), show i = 64 by omega]
  | d + 1, n + 1, i, z, sp, hi, hn => by
    obtain ⟨z', sp', e, h1, h2⟩ := m_swap_loop (K := K) d n (i + 1) (vp_updL z i (sp i)) (vp_updL sp i (z i)) (by omega) (by omega)
    refine ⟨z', sp', ?_, fun j hj => ?_, fun j hj1 hj2 => ?_⟩
    · rw [L_X6_readInto_2_s, if_neg (show ¬ (64 : Int32) ≤ nI i from nI_ge (a := i) (b := 64) (by omega) (by decide)), gd_t (xin64 (by omega)), gd_t (xin64 (by omega)), gd_t (xin64 (by omega)), gd_t (xin64 (by omega)), clN (by omega), nI_1, e]
    · have a := h1 j (by omega)
      have b1 : vp_updL z i (sp i) j = z j := if_neg (by omega)
      have b2 : vp_updL sp i (z i) j = sp j := if_neg (by omega)
      rw [b1, b2] at a
      exact a
    · by_cases q : j = i
      · have a := h1 j (by omega)
        have b1 : vp_updL z i (sp i) j = sp i := if_pos q
        have b2 : vp_updL sp i (z i) j = z i := if_pos q
        rw [b1, b2] at a
        rw [q] at a ⊢
        exact a
      · have a := h2 j (by omega) hj2
        have b1 : vp_updL z i (sp i) j = z j := if_neg q
        have b2 : vp_updL sp i (z i) j = sp j := if_neg q
        rw [b1, b2] at a
        exact a
theorem read_m {st ln : Nat → Int32} {wd : Nat → Int64} {n0 : Int32} {z : Nat → Int64} (hr : Rel st ln wd n0 z 0) {k : Nat} {ps pl : Nat → Nat → Int32} {pw : Nat → Nat → Int64} {pn : Nat → Int32} {past : Nat → Int64} (hh : RHist k ps pl pw pn past)
    {n : Nat} {cs : Nat → Nat} (okp : OKP n cs) {codes pd : Nat → Int32} (h1 : PadIs n cs codes) (h2 : PadIs n cs pd) (tw tl spare : Nat → Int64) (ds dln : Nat → Int32) (dwd : Nat → Int64) :
    (∃ fa sp m tw' tl', ¬ fa = (-6) ∧ f_X2_firstFault (nI n) codes = some fa ∧ f_X6_read (nI k) (nI n) z spare past pd tw tl = some (-3, nI k, nI n, sp, m, z, spare, past, tw', tl')) ∨
    (∃ ds1 dl1 dw1 N' dl2 dw2 sp m z' spare' tw' tl', f_X2_firstFault (nI n) codes = some (-6) ∧ f_X1_copyOf ds dln dwd n0 st ln wd = some (n0, ds1, dl1, dw1) ∧ f_X2_addEntriesTo (nI n) codes n0 dl1 dw1 = some (0, N', dl2, dw2) ∧ f_X6_read (nI k) (nI n) z spare past pd tw tl = some (-4, nI k, nI n, sp, m, z', spare', past, tw', tl') ∧ ∀ j, j < 64 → z' j = z j) ∨
    (∃ ds1 dl1 dw1 N' dl2 dw2 st3 ln3 wd3 k' ps' pl' pw' pn' past' sp m z' spare' tw' tl', f_X2_firstFault (nI n) codes = some (-6) ∧ f_X1_copyOf ds dln dwd n0 st ln wd = some (n0, ds1, dl1, dw1) ∧ f_X2_addEntriesTo (nI n) codes n0 dl1 dw1 = some (1, N', dl2, dw2) ∧
      f_X3_remember (nI k) ps pl pw pn n0 st ln wd = some (nI k', ps', pl', pw', pn') ∧ f_X1_copyOf st ln wd N' ds1 dl2 dw2 = some (N', st3, ln3, wd3) ∧ f_X6_read (nI k) (nI n) z spare past pd tw tl = some (N', nI k', 0, sp, m, z', spare', past', tw', tl') ∧ Rel st3 ln3 wd3 N' z' 0 ∧ RHist k' ps' pl' pw' pn' past') := by
  have hn := okp.1
  have hF := FU_big
  rcases parse_both okp h1 h2 tw tl with ⟨fa, m, tw', tl', hfa, i2, i3⟩ | ⟨es, tw', tl', hch, htd, hes, i4, i6⟩
  · left
    refine ⟨nI fa, nI fa, m, tw', tl', nI_m6 (by omega), i2, ?_⟩
    unfold f_X6_read
    rw [bd_eq i3]
    rfl
  · right
    obtain ⟨S, N, G, W, hS, ok, hx, hm⟩ := id hr
    obtain ⟨r20, ec, -, hc⟩ := m_copy (a := 0) (b := 0) (n0 := 64) (n2 := 64) z spare (by omega) (by omega) (by decide) (by decide)
    have hc0 : ∀ j, j < 64 → r20 j = z j := fun j hj => by have := hc j hj; rwa [Nat.zero_add] at this
    obtain ⟨ds1, dl1, dw1, e1, hx1⟩ := x_copy ok.1 hx ds dln dwd
    have en : n0 = nI N := hx.1
    have em : f_X6_read (nI k) (nI n) z spare past pd tw tl = L_X6_read_25 (fun (i1_25 : Int32) (v_z_25 : Nat → Int64) => Option.bind (f_X6_readInto (nI k) v_z_25 r20 past) (fun (r_123 : Int32 × (Nat → Int64) × (Nat → Int64) × (Nat → Int64)) => some ((f_X6_many v_z_25), r_123.1, 0, nI n, nI es.length, r_123.2.1, r_123.2.2.1, r_123.2.2.2, tw', tl'))) (nI k) (nI n) past r20 (nI n) (nI es.length) tw' tl' FU 0 z := by
      unfold f_X6_read
      rw [bd_eq i6]
      dsimp only
      rw [if_neg (by decide), show (0 : Int32) = nI 0 by rfl, bd_eq ec]
    rcases read_loop (S := S) okp h1 (K := fun (i1_25 : Int32) (v_z_25 : Nat → Int64) => Option.bind (f_X6_readInto (nI k) v_z_25 r20 past) (fun (r_123 : Int32 × (Nat → Int64) × (Nat → Int64) × (Nat → Int64)) => some ((f_X6_many v_z_25), r_123.1, 0, nI n, nI es.length, r_123.2.1, r_123.2.2.1, r_123.2.2.2, tw', tl'))) (a := nI k) (b := nI n) (past := past) (r20 := r20) (sp := nI n) hes es FU 0 0 FU N G W dl1 dw1 z hch htd (Nat.zero_add _) (Nat.zero_le _) (by omega) (by omega) ok hx1.2.2 hm with ⟨N', ln', wd', r87, j1, j2, j3⟩ | ⟨N', G', W', ln', wd', z', j1, j2, j3, j4, j5⟩
    · left
      refine ⟨ds1, dl1, dw1, N', ln', wd', nI n, nI es.length, r87, r20, tw', tl', i4, e1, ?_, ?_, fun j hj => by rw [j2 j hj, hc0 j hj]⟩
      · rw [en]; exact j1
      · rw [em]; exact j3
    · right
      obtain ⟨z4, sp4, es4, -, hs4⟩ := m_swap_loop (K := fun (i2_2 : Int32) (v_z_2 : Nat → Int64) (v_spare_2 : Nat → Int64) => Option.bind (f_X6_record (nI k) v_z_2 past) (fun (r_41 : Int32 × (Nat → Int64)) => Option.bind (f_X6_copyState 64 v_spare_2 64 v_z_2 0 0) (fun (r_54 : (Nat → Int64)) => some (r_41.1, r_54, v_spare_2, r_41.2)))) 64 FU 0 z' r20 (by omega) (by omega)
      have hr4 : Rel st ln wd n0 z4 0 := hr.copy (fun j hj => by rw [Nat.zero_add, (hs4 j (Nat.zero_le _) hj).1, hc0 j hj])
      obtain ⟨k', ps', pl', pw', pn', past', g1, g2, g3⟩ := record_both hr4 hh
      obtain ⟨z5, e5, -, h5⟩ := m_copy (a := 0) (b := 0) (n0 := 64) (n2 := 64) sp4 z4 (by omega) (by omega) (by decide) (by decide)
      have hx2 : XLex S N' G' W' ds1 ln' wd' (nI N') := ⟨rfl, hx1.2.1, j2⟩
      obtain ⟨st3, ln3, wd3, e6, hx3⟩ := x_copy j1.1 hx2 st ln wd
      have hm5 : MLex S N' G' W' z5 0 := j3.copy j1.1 (fun j hj => by rw [h5 j hj, Nat.zero_add, (hs4 j (Nat.zero_le _) hj).2])
      refine ⟨ds1, dl1, dw1, nI N', ln', wd', st3, ln3, wd3, k', ps', pl', pw', pn', past', nI n, nI es.length, z5, sp4, tw', tl', i4, e1, ?_, g1, e6, ?_, ⟨S, N', G', W', hS, j1, hx3, hm5⟩, g3⟩
      · rw [en]; exact j4
      · have e7 : f_X6_readInto (nI k) z' r20 past = some (nI k', z5, sp4, past') := by
          unfold f_X6_readInto
          refine es4.trans ?_
          rw [bd_eq g2, show (0 : Int32) = nI 0 by rfl, bd_eq e5]
        have e8 : f_X6_many z' = nI N' := m_many j3.1
        rw [em]
        refine j5.trans ?_
        show Option.bind (f_X6_readInto (nI k) z' r20 past) _ = _
        rw [bd_eq e7, e8]
