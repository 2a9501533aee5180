/-! the layout as a whole, on both sides -/
theorem PS_s {S : Nat → Nat} {N : Nat} {W : Nat → List Nat} {P : Nat} {H US FI LA BG BP BL EP : Nat → Nat} {s : Int32} {bp bl ep fi la bg fd hl nh hd us mf ml mbp mbl mep : Nat → Int32} (h : PS S N W P H US FI LA BG BP BL EP s bp bl ep fi la bg fd hl nh hd us mf ml mbp mbl mep) : s = 1 ∨ s = 0 := by
  rcases h.2.2.2.2.2.2.2 with a | a
  · exact Or.inl a.1
  · exact Or.inr a.1
theorem lay_loop {K1 : Int32 → Int32 → Int32 → Int32 → Int32 → Int32 → (Nat → Int32) → (Nat → Int32) → (Nat → Int32) → (Nat → Int32) → (Nat → Int32) → (Nat → Int32) → (Nat → Int32) → (Nat → Int32) → (Nat → Int32) → Option (Int32 × Int32 × Int32 × Int32 × Int32 × Int32 × (Nat → Int32) × (Nat → Int32) × (Nat → Int32) × (Nat → Int32) × (Nat → Int32) × (Nat → Int32) × (Nat → Int32) × (Nat → Int32) × (Nat → Int32))}
    {K2 : Int32 → Int32 → (Nat → Int32) → (Nat → Int32) → (Nat → Int32) → (Nat → Int32) → (Nat → Int32) → (Nat → Int32) → (Nat → Int32) → Option (Int32 × Int32 × (Nat → Int32) × (Nat → Int32) × (Nat → Int32) × (Nat → Int32) × (Nat → Int32) × (Nat → Int32) × (Nat → Int32))}
    {S : Nat → Nat} {N : Nat} {G : Nat → Nat} {W : Nat → List Nat} (oks : OKS S) (ok : OKE N G W) {lns : Nat → Int32} {wd : Nat → Int64} (hx : ∀ i, i < N → lns i = nI (G i) ∧ wd i = lN (pk (W i))) {z : Nat → Int64} (hm : MLex S N G W z 0) :
    ∀ (d f1 f2 i P : Nat) (H US FI LA BG BP BL EP : Nat → Nat) (s pb rm : Int32) (bp bl ep fi la bg fd hl nh hd us mf ml mbp mbl mep : Nat → Int32), i + d = 10 → d < f1 → d < f2 → 1 ≤ i →
    PS S N W P H US FI LA BG BP BL EP s bp bl ep fi la bg fd hl nh hd us mf ml mbp mbl mep →
    ∃ (i5 : Int32) (P' i' : Nat) (H' US' FI' LA' BG' BP' BL' EP' : Nat → Nat) (s' pb' rm' : Int32) (bp' bl' ep' fi' la' bg' fd' hl' nh' hd' us' mf' ml' mbp' mbl' mep' : Nat → Int32),
      L_X0_lay_18 K1 (nI (S 0)) (nI (S 1)) (nI (S 2)) (nI N) lns wd f1 (nI (i + 1)) (nI P) (nI i) s pb rm bp bl ep fi la bg fd hl nh = K1 i5 (nI P') (nI i') s' pb' rm' bp' bl' ep' fi' la' bg' fd' hl' nh' ∧
      L_X6_layAll_31 K2 z f2 (nI P) (nI i) hd us mf ml mbp mbl mep = K2 (nI P') (nI i') hd' us' mf' ml' mbp' mbl' mep' ∧
      1 ≤ i' ∧ i' ≤ 10 ∧ PS S N W P' H' US' FI' LA' BG' BP' BL' EP' s' bp' bl' ep' fi' la' bg' fd' hl' nh' hd' us' mf' ml' mbp' mbl' mep'
  | _, 0, _, _, _, _, _, _, _, _, _, _, _, _, _, _, _, _, _, _, _, _, _, _, _, _, _, _, _, _, _, _, _, h, _, _, _ => absurd h (by omega)
  | _, _, 0, _, _, _, _, _, _, _, _, _, _, _, _, _, _, _, _, _, _, _, _, _, _, _, _, _, _, _, _, _, _, _, h, _, _ => absurd h (by omega)
  | 0, f1 + 1, f2 + 1, i, P, H, US, FI, LA, BG, BP, BL, EP, s, pb, rm, bp, bl, ep, fi, la, bg, fd, hl, nh, hd, us, mf, ml, mbp, mbl, mep, hi, _, _, h1, h => by
    have e10 : i = 10 := by omega
    subst e10
    refine ⟨nI (10 + 1), P, 10, H, US, FI, LA, BG, BP, BL, EP, s, pb, rm, bp, bl, ep, fi, la, bg, fd, hl, nh, hd, us, mf, ml, mbp, mbl, mep, ?_, ?_, by omega, by omega, h⟩
    · rw [L_X0_lay_18_s, if_pos (show (10 : Int32) < nI (10 + 1) by decide)]
    · rw [L_X6_layAll_31_s, if_pos (show (10 : Int32) ≤ nI 10 by decide)]
  | d + 1, f1 + 1, f2 + 1, i, P, H, US, FI, LA, BG, BP, BL, EP, s, pb, rm, bp, bl, ep, fi, la, bg, fd, hl, nh, hd, us, mf, ml, mbp, mbl, mep, hi, hf1, hf2, h1, h => by
    have hF := FU_big
    have hN := ok.1
    have hP10 : P ≤ 10 * N := h.2.1
    have es := set_both oks ok hm h
    rw [L_X0_lay_18_s, L_X6_layAll_31_s, if_neg (show ¬ (10 : Int32) < nI (i + 1) from nI_nlt (a := 10) (b := i + 1) (by omega) (by decide)), if_neg (show ¬ (10 : Int32) ≤ nI i from nI_ge (a := i) (b := 10) (by omega) (by decide)), bd_eq es]
    rcases PS_s h with s1 | s0
    · rw [if_neg (by rw [s1]; decide), if_neg (by rw [s1]; decide)]
      exact ⟨nI (i + 1), P, i, H, US, FI, LA, BG, BP, BL, EP, s, pb, rm, bp, bl, ep, fi, la, bg, fd, hl, nh, hd, us, mf, ml, mbp, mbl, mep, rfl, rfl, h1, by omega, h⟩
    · rw [if_pos s0, if_pos s0]
      obtain ⟨hH, hP, hI, hX, hM, hh, hn, hs⟩ := id h
      obtain ⟨m3, ms, me⟩ := id hm
      simp only [Nat.zero_add] at m3 ms me
      have hwn : ∀ p, (if p < P then wnN W (S 1) (FI p) (LA p) else 1) = 1 ∨ (if p < P then wnN W (S 1) (FI p) (LA p) else 1) = 2 := fun p => by
        by_cases q : p < P
        · rw [if_pos q]; exact wn_12 _ _ _ _
        · rw [if_neg q]; exact Or.inl rfl
      obtain ⟨hd1, c1, c2⟩ := m_headsW (K := fun (i1_49 : Int32) (v_heads_49 : Nat → Int32) => Option.bind (f_X6_pass z v_heads_49 us mf ml mbp mbl mep) (fun (r_86 : Int32 × (Nat → Int32) × (Nat → Int32) × (Nat → Int32) × (Nat → Int32) × (Nat → Int32) × (Nat → Int32)) => L_X6_layAll_31 K2 z f2 r_86.1 (nI i + 1) v_heads_49 r_86.2.1 r_86.2.2.1 r_86.2.2.2.1 r_86.2.2.2.2.1 r_86.2.2.2.2.2.1 r_86.2.2.2.2.2.2)) ok (fun i hi => (me i hi).1) (Wd := S 1) (P := P) oks.2.1.2 (ms 1 (by omega)) (by omega) (FI := FI) (LA := LA) (fi := mf) (la := ml) (fun p hp => by
        have a := hI.2.2.1 p hp
        have b := hM.2.1 p hp
        exact ⟨by omega, a.2.1, b.1, b.2⟩) 400 FU 0 hd (by omega) (by omega) (fun p hp => absurd hp (by omega))
      obtain ⟨P1, US1, FI1, LA1, BG1, BP1, BL1, EP1, rm1, s1, bp1, bl1, ep1, fi1, la1, bg1, fd1, hl1, nh1, us1, mf1, ml1, mbp1, mbl1, mep1, g1, g2, g3, g4⟩ := step_both oks ok hx hm (H := fun p => if p < P then wnN W (S 1) (FI p) (LA p) else 1) hwn (PB := P) (by omega) (nh := nh) ⟨fun p hp => by
        show nh p = nI (if p < P then wnN W (S 1) (FI p) (LA p) else 1)
        rw [if_pos hp]; exact hn p hp, fun p hp => if_neg (by omega)⟩ (hd := hd1) c2 bp bl ep fi la bg fd hl us mf ml mbp mbl mep
      obtain ⟨i5, P', i', H', US', FI', LA', BG', BP', BL', EP', s', pb', rm', bp', bl', ep', fi', la', bg', fd', hl', nh', hd', us', mf', ml', mbp', mbl', mep', j1, j2, j3⟩ := lay_loop (K1 := K1) (K2 := K2) oks ok hx hm d f1 f2 (i + 1) P1 _ US1 FI1 LA1 BG1 BP1 BL1 EP1 s1 (nI P) rm1 bp1 bl1 ep1 fi1 la1 bg1 fd1 hl1 nh1 hd1 us1 mf1 ml1 mbp1 mbl1 mep1 (by omega) (by omega) (by omega) (by omega) g4
      refine ⟨i5, P', i', H', US', FI', LA', BG', BP', BL', EP', s', pb', rm', bp', bl', ep', fi', la', bg', fd', hl', nh', hd', us', mf', ml', mbp', mbl', mep', ?_, ?_, j3⟩
      · rw [bd_eq g1]
        dsimp only
        rw [bd_eq g2]
        dsimp only
        have hi1 : isb s1 = true := by
          rcases PS_s g4 with q | q
          · rw [q]; rfl
          · rw [q]; rfl
        rw [gd_t hi1, nI_1, j1]
      · refine c1.trans ?_
        rw [bd_eq g3]
        dsimp only
        rw [nI_1, j2]
theorem lay_both {S : Nat → Nat} {N : Nat} {G : Nat → Nat} {W : Nat → List Nat} (oks : OKS S) (ok : OKE N G W) {lns : Nat → Int32} {wd : Nat → Int64} (hx : ∀ i, i < N → lns i = nI (G i) ∧ wd i = lN (pk (W i))) {z : Nat → Int64} (hm : MLex S N G W z 0) (ps pb rm : Int32) (bp bl ep fi la bg fd hl nh hd us mf ml mbp mbl mep : Nat → Int32) :
    ∃ (pg' ps' s' pb' rm' : Int32) (P' i' : Nat) (H' US' FI' LA' BG' BP' BL' EP' : Nat → Nat) (bp' bl' ep' fi' la' bg' fd' hl' nh' hd' us' mf' ml' mbp' mbl' mep' : Nat → Int32),
      f_X0_lay ps pb rm bp bl ep fi la bg fd hl nh (nI N) lns wd (nI (S 0)) (nI (S 1)) (nI (S 2)) = some (pg', ps', s', pb', nI (S 0), rm', bp', bl', ep', fi', la', bg', fd', hl', nh') ∧ pg' = nI P' ∧ ps' = nI i' ∧
      f_X6_layAll z hd us mf ml mbp mbl mep = some (nI P', nI i', hd', us', mf', ml', mbp', mbl', mep') ∧
      1 ≤ i' ∧ i' ≤ 10 ∧ PS S N W P' H' US' FI' LA' BG' BP' BL' EP' s' bp' bl' ep' fi' la' bg' fd' hl' nh' hd' us' mf' ml' mbp' mbl' mep' := by
  have hF := FU_big
  obtain ⟨hd1, c1, c2⟩ := m_heads1 (K := fun (i1_2 : Int32) (v_heads_2 : Nat → Int32) => Option.bind (f_X6_pass z v_heads_2 us mf ml mbp mbl mep) (fun (r_23 : Int32 × (Nat → Int32) × (Nat → Int32) × (Nat → Int32) × (Nat → Int32) × (Nat → Int32) × (Nat → Int32)) => L_X6_layAll_31 (fun (v_pages_31 : Int32) (v_passes_31 : Int32) (v_heads_31 : Nat → Int32) (v_used_31 : Nat → Int32) (v_firsts_31 : Nat → Int32) (v_lasts_31 : Nat → Int32) (v_beginPages_31 : Nat → Int32) (v_beginLines_31 : Nat → Int32) (v_endPages_31 : Nat → Int32) => some (v_pages_31, v_passes_31, v_heads_31, v_used_31, v_firsts_31, v_lasts_31, v_beginPages_31, v_beginLines_31, v_endPages_31)) z FU r_23.1 1 v_heads_2 r_23.2.1 r_23.2.2.1 r_23.2.2.2.1 r_23.2.2.2.2.1 r_23.2.2.2.2.2.1 r_23.2.2.2.2.2.2)) 400 FU 0 hd (by omega) (by omega) (fun p hp => absurd hp (by omega))
  obtain ⟨P1, US1, FI1, LA1, BG1, BP1, BL1, EP1, rm1, s1, bp1, bl1, ep1, fi1, la1, bg1, fd1, hl1, nh1, us1, mf1, ml1, mbp1, mbl1, mep1, g1, g2, g3, g4⟩ := step_both oks ok hx hm (H := fun _ => 1) (fun _ => Or.inl rfl) (PB := 0) (by omega) (nh := nh) ⟨fun p hp => absurd hp (by omega), fun _ _ => rfl⟩ (hd := hd1) c2 bp bl ep fi la bg fd hl us mf ml mbp mbl mep
  obtain ⟨i5, P', i', H', US', FI', LA', BG', BP', BL', EP', s', pb', rm', bp', bl', ep', fi', la', bg', fd', hl', nh', hd', us', mf', ml', mbp', mbl', mep', j1, j2, j3, j4, j5⟩ := lay_loop (K1 := fun (i5_18 : Int32) (v_pages_18 : Int32) (v_passes_18 : Int32) (v_isSettled_18 : Int32) (v_pagesBefore_18 : Int32) (v_room_18 : Int32) (v_beginPage_18 : Nat → Int32) (v_beginLine_18 : Nat → Int32) (v_endPage_18 : Nat → Int32) (v_first_18 : Nat → Int32) (v_last_18 : Nat → Int32) (v_begun_18 : Nat → Int32) (v_filled_18 : Nat → Int32) (v_headLines_18 : Nat → Int32) (v_nextHeadLines_18 : Nat → Int32) => some (v_pages_18, v_passes_18, v_isSettled_18, v_pagesBefore_18, nI (S 0), v_room_18, v_beginPage_18, v_beginLine_18, v_endPage_18, v_first_18, v_last_18, v_begun_18, v_filled_18, v_headLines_18, v_nextHeadLines_18)) (K2 := fun (v_pages_31 : Int32) (v_passes_31 : Int32) (v_heads_31 : Nat → Int32) (v_used_31 : Nat → Int32) (v_firsts_31 : Nat → Int32) (v_lasts_31 : Nat → Int32) (v_beginPages_31 : Nat → Int32) (v_beginLines_31 : Nat → Int32) (v_endPages_31 : Nat → Int32) => some (v_pages_31, v_passes_31, v_heads_31, v_used_31, v_firsts_31, v_lasts_31, v_beginPages_31, v_beginLines_31, v_endPages_31)) oks ok hx hm 9 (FU - 1) FU 1 P1 _ US1 FI1 LA1 BG1 BP1 BL1 EP1 s1 (nI 0) rm1 bp1 bl1 ep1 fi1 la1 bg1 fd1 hl1 nh1 hd1 us1 mf1 ml1 mbp1 mbl1 mep1 (by omega) (by omega) (by omega) (by omega) g4
  refine ⟨nI P', nI i', s', pb', rm', P', i', H', US', FI', LA', BG', BP', BL', EP', bp', bl', ep', fi', la', bg', fd', hl', nh', hd', us', mf', ml', mbp', mbl', mep', ?_, rfl, rfl, ?_, j3, j4, j5⟩
  · unfold f_X0_lay
    have hi1 : isb s1 = true := by
      rcases PS_s g4 with q | q
      · rw [q]; rfl
      · rw [q]; rfl
    rw [FU_s 1 (by decide), L_X0_lay_18_s, if_neg (by decide), if_pos rfl, show (0 : Int32) = nI 0 by rfl, bd_eq g1]
    dsimp only
    rw [bd_eq g2]
    dsimp only
    rw [gd_t hi1, show (1 : Int32) = nI 1 by rfl, nI_add]
    exact j1
  · unfold f_X6_layAll
    refine c1.trans ?_
    rw [bd_eq g3]
    exact j2
