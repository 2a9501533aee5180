/-! one pass over all entries, on both sides -/
theorem m_clear_us {K : Int32 → (Nat → Int32) → Option (Int32 × (Nat → Int32) × (Nat → Int32) × (Nat → Int32) × (Nat → Int32) × (Nat → Int32) × (Nat → Int32))} : ∀ (d f i : Nat) (us : Nat → Int32), i + d = 400 → d < f → (∀ p, p < i → us p = nI 0) →
    ∃ us', L_X6_pass_7 K f (nI i) us = K (nI 400) us' ∧ ∀ p, p < 400 → us' p = nI 0
  | _, 0, _, _, _, h, _ => absurd h (by omega)
  | 0, f + 1, i, us, hi, _, h => by
    refine ⟨us, ?_, fun p hp => h p (by omega)⟩
    rw [L_X6_pass_7_s, if_pos (show (400 : Int32) ≤ nI i from nI_le (a := 400) (by omega) (by omega)), show i = 400 by omega]
  | d + 1, f + 1, i, us, hi, hf, h => by
    obtain ⟨us', e, h2⟩ := m_clear_us (K := K) d f (i + 1) (upd us i 0) (by omega) (by omega) (fun p hp => by
      by_cases q : p = i
      · rw [q, upd_eq]; rfl
      · rw [upd_ne q]; exact h p (by omega))
    refine ⟨us', ?_, h2⟩
    rw [L_X6_pass_7_s, if_neg (show ¬ (400 : Int32) ≤ nI i from nI_ge (a := i) (b := 400) (by omega) (by decide)), gd_t (xin_nI (by omega) (by decide)), clN (by omega), nI_1, e]
theorem m_clear_ep {K : Int32 → (Nat → Int32) → Option (Int32 × (Nat → Int32) × (Nat → Int32) × (Nat → Int32) × (Nat → Int32) × (Nat → Int32) × (Nat → Int32))} {N : Nat} (hN : N ≤ 30) {z : Nat → Int64} (h3 : z 3 = lN N) : ∀ (d f i : Nat) (ep : Nat → Int32), i + d = N → d < f → (∀ p, p < i → ep p = (-6)) →
    ∃ ep', L_X6_pass_29 K z f (nI i) ep = K (nI N) ep' ∧ ∀ p, p < N → ep' p = (-6)
  | _, 0, _, _, _, h, _ => absurd h (by omega)
  | 0, f + 1, i, ep, hi, _, h => by
    refine ⟨ep, ?_, fun p hp => h p (by omega)⟩
    rw [L_X6_pass_29_s, m_many h3, if_pos (nI_le (by omega) (by omega)), show i = N by omega]
  | d + 1, f + 1, i, ep, hi, hf, h => by
    obtain ⟨ep', e, h2⟩ := m_clear_ep (K := K) hN h3 d f (i + 1) (upd ep i (-6)) (by omega) (by omega) (fun p hp => by
      by_cases q : p = i
      · rw [q, upd_eq]
      · rw [upd_ne q]; exact h p (by omega))
    refine ⟨ep', ?_, h2⟩
    rw [L_X6_pass_29_s, m_many h3, if_neg (nI_ge (by omega) (by omega)), gd_t (xin_nI (by omega) (by decide)), clN (by omega), nI_1, e]
theorem all_both {K1 : Int32 → Int32 → Int32 → (Nat → Int32) → (Nat → Int32) → (Nat → Int32) → (Nat → Int32) → (Nat → Int32) → (Nat → Int32) → (Nat → Int32) → (Nat → Int32) → Option (Int32 × Int32 × (Nat → Int32) × (Nat → Int32) × (Nat → Int32) × (Nat → Int32) × (Nat → Int32) × (Nat → Int32) × (Nat → Int32) × (Nat → Int32))}
    {K2 : Int32 → Int32 → Int32 → (Nat → Int32) → (Nat → Int32) → (Nat → Int32) → (Nat → Int32) → (Nat → Int32) → (Nat → Int32) → Option (Int32 × (Nat → Int32) × (Nat → Int32) × (Nat → Int32) × (Nat → Int32) × (Nat → Int32) × (Nat → Int32))}
    {L PB N k : Nat} (hN : N ≤ 30) {G : Nat → Nat} (hG : ∀ e, e < N → 1 ≤ G e ∧ G e ≤ 40) (hk : 1 ≤ k ∧ k ≤ 3) {H : Nat → Nat} (hH : ∀ p, H p = 1 ∨ H p = 2) (hL : 6 ≤ L ∧ L ≤ 40) (hPB : PB < 2 ^ 30) {nh : Nat → Int32} (hn : (∀ p, p < PB → nh p = nI (H p)) ∧ ∀ p, PB ≤ p → H p = 1) {z : Nat → Int64} (hz : z 0 = lN L) (hz2 : z 2 = lN k) (hz3 : z 3 = lN N) (hzn : ∀ e, e < N → z (34 + e) = lN (G e)) {lns : Nat → Int32} (hl : ∀ e, e < N → lns e = nI (G e)) {hd : Nat → Int32} (hh : ∀ p, p < 400 → hd p = nI (H p)) :
    ∀ (d f1 f2 e P : Nat) (US FI LA BG BP BL EP : Nat → Nat) (bp bl ep fi la bg fd hl us mf ml mbp mbl mep : Nat → Int32), e + d = N → d < f1 → d < f2 → P ≤ 10 * e →
    LI L P e H US FI LA BG BP EP → XL P e e H US FI LA BG BP BL EP bp bl ep fi la bg fd hl → ML P e N US FI LA BP BL EP us mf ml mbp mbl mep →
    ∃ (P' : Nat) (US' FI' LA' BG' BP' BL' EP' : Nat → Nat) (bp' bl' ep' fi' la' bg' fd' hl' us' mf' ml' mbp' mbl' mep' : Nat → Int32),
      L_X0_layOnce_12 K1 (nI k) (nI PB) (nI L) nh (nI N) lns f1 (nI e) (nI P) (nI (rmN L P H US)) bp bl ep fi la bg fd hl = K1 (nI N) (nI P') (nI (rmN L P' H US')) bp' bl' ep' fi' la' bg' fd' hl' ∧
      L_X6_pass_55 K2 z hd f2 (nI e) (nI (P - 1)) (nI P) us mf ml mbp mbl mep = K2 (nI N) (nI (P' - 1)) (nI P') us' mf' ml' mbp' mbl' mep' ∧
      P' ≤ 10 * N ∧ LI L P' N H US' FI' LA' BG' BP' EP' ∧ XL P' N N H US' FI' LA' BG' BP' BL' EP' bp' bl' ep' fi' la' bg' fd' hl' ∧ ML P' N N US' FI' LA' BP' BL' EP' us' mf' ml' mbp' mbl' mep'
  | _, 0, _, _, _, _, _, _, _, _, _, _, _, _, _, _, _, _, _, _, _, _, _, _, _, _, _, h, _, _, _, _, _ => absurd h (by omega)
  | _, _, 0, _, _, _, _, _, _, _, _, _, _, _, _, _, _, _, _, _, _, _, _, _, _, _, _, _, h, _, _, _, _ => absurd h (by omega)
  | 0, f1 + 1, f2 + 1, e, P, US, FI, LA, BG, BP, BL, EP, bp, bl, ep, fi, la, bg, fd, hl0, us, mf, ml, mbp, mbl, mep, he, _, _, hP, hI, hX, hM => by
    have hen : e = N := by omega
    subst hen
    refine ⟨P, US, FI, LA, BG, BP, BL, EP, bp, bl, ep, fi, la, bg, fd, hl0, us, mf, ml, mbp, mbl, mep, ?_, ?_, hP, hI, hX, hM⟩
    · rw [L_X0_layOnce_12_s, if_pos (nI_le (Nat.le_refl _) (by omega))]
    · rw [L_X6_pass_55_s, m_many hz3, if_pos (nI_le (Nat.le_refl _) (by omega))]
  | d + 1, f1 + 1, f2 + 1, e, P, US, FI, LA, BG, BP, BL, EP, bp, bl, ep, fi, la, bg, fd, hl0, us, mf, ml, mbp, mbl, mep, he, hf1, hf2, hP, hI, hX, hM => by
    obtain ⟨P1, US1, FI1, LA1, BG1, BP1, BL1, EP1, bp1, bl1, ep1, fi1, la1, bg1, fd1, hl1, us1, mf1, ml1, mbp1, mbl1, mep1, e1, e2, e3, e4, e5, e6⟩ := entry_both (T := N) (e := e) (by omega) hN (hG e (by omega)) hk hH hL hPB hn hz hz2 (hzn e (by omega)) hh hP hI hX hM
    obtain ⟨P', US', FI', LA', BG', BP', BL', EP', bp', bl', ep', fi', la', bg', fd', hl', us', mf', ml', mbp', mbl', mep', g1, g2, g⟩ := all_both (K1 := K1) (K2 := K2) hN hG hk hH hL hPB hn hz hz2 hz3 hzn hl hh d f1 f2 (e + 1) P1 US1 FI1 LA1 BG1 BP1 BL1 EP1 bp1 bl1 ep1 fi1 la1 bg1 fd1 hl1 us1 mf1 ml1 mbp1 mbl1 mep1 (by omega) (by omega) (by omega) e3 e4 e5 e6
    refine ⟨P', US', FI', LA', BG', BP', BL', EP', bp', bl', ep', fi', la', bg', fd', hl', us', mf', ml', mbp', mbl', mep', ?_, ?_, g⟩
    · rw [L_X0_layOnce_12_s, if_neg (nI_ge (by omega) (by omega)), gd_t (xin_nI (by omega) (by decide)), clN (by omega), hl e (by omega), bd_eq e1]
      dsimp only
      rw [nI_1, g1]
    · rw [L_X6_pass_55_s, m_many hz3, if_neg (nI_ge (by omega) (by omega)), bd_eq e2]
      dsimp only
      rw [nI_1, g2]
theorem once_both {L PB N k : Nat} (hN : N ≤ 30) {G : Nat → Nat} (hG : ∀ e, e < N → 1 ≤ G e ∧ G e ≤ 40) (hk : 1 ≤ k ∧ k ≤ 3) {H : Nat → Nat} (hH : ∀ p, H p = 1 ∨ H p = 2) (hL : 6 ≤ L ∧ L ≤ 40) (hPB : PB < 2 ^ 30) {nh : Nat → Int32} (hn : (∀ p, p < PB → nh p = nI (H p)) ∧ ∀ p, PB ≤ p → H p = 1) {z : Nat → Int64} (hz : z 0 = lN L) (hz2 : z 2 = lN k) (hz3 : z 3 = lN N) (hzn : ∀ e, e < N → z (34 + e) = lN (G e)) {lns : Nat → Int32} (hl : ∀ e, e < N → lns e = nI (G e)) {hd : Nat → Int32} (hh : ∀ p, p < 400 → hd p = nI (H p)) (bp bl ep fi la bg fd hl0 us mf ml mbp mbl mep : Nat → Int32) :
    ∃ (P' : Nat) (US' FI' LA' BG' BP' BL' EP' : Nat → Nat) (rm : Int32) (bp' bl' ep' fi' la' bg' fd' hl' us' mf' ml' mbp' mbl' mep' : Nat → Int32),
      f_X0_layOnce (nI PB) (nI L) bp bl ep fi la bg fd hl0 nh (nI N) lns (nI k) = some (nI P', rm, bp', bl', ep', fi', la', bg', fd', hl') ∧
      f_X6_pass z hd us mf ml mbp mbl mep = some (nI P', us', mf', ml', mbp', mbl', mep') ∧
      P' ≤ 10 * N ∧ LI L P' N H US' FI' LA' BG' BP' EP' ∧ XL P' N N H US' FI' LA' BG' BP' BL' EP' bp' bl' ep' fi' la' bg' fd' hl' ∧ ML P' N N US' FI' LA' BP' BL' EP' us' mf' ml' mbp' mbl' mep' := by
  have hF := FU_big
  obtain ⟨us0, c1, c2⟩ := m_clear_us (K := (fun (i1_7 : Int32) (v_used_7 : Nat → Int32) => L_X6_pass_29 (fun (i1_29 : Int32) (v_endPages_29 : Nat → Int32) => L_X6_pass_55 (fun (i2_55 : Int32) (i1_55 : Int32) (v_pages_55 : Int32) (v_used_55 : Nat → Int32) (v_firsts_55 : Nat → Int32) (v_lasts_55 : Nat → Int32) (v_beginPages_55 : Nat → Int32) (v_beginLines_55 : Nat → Int32) (v_endPages_55 : Nat → Int32) => some (v_pages_55, v_used_55, v_firsts_55, v_lasts_55, v_beginPages_55, v_beginLines_55, v_endPages_55)) z hd FU 0 0 0 v_used_7 mf ml mbp mbl v_endPages_29) z FU 0 mep)) 400 FU 0 us (by omega) (by omega) (fun p h => absurd h (by omega))
  obtain ⟨ep0, c3, c4⟩ := m_clear_ep (K := (fun (i1_29 : Int32) (v_endPages_29 : Nat → Int32) => L_X6_pass_55 (fun (i2_55 : Int32) (i1_55 : Int32) (v_pages_55 : Int32) (v_used_55 : Nat → Int32) (v_firsts_55 : Nat → Int32) (v_lasts_55 : Nat → Int32) (v_beginPages_55 : Nat → Int32) (v_beginLines_55 : Nat → Int32) (v_endPages_55 : Nat → Int32) => some (v_pages_55, v_used_55, v_firsts_55, v_lasts_55, v_beginPages_55, v_beginLines_55, v_endPages_55)) z hd FU 0 0 0 us0 mf ml mbp mbl v_endPages_29)) hN hz3 N FU 0 mep (by omega) (by omega) (fun p h => absurd h (by omega))
  have hI0 : LI L 0 0 H (fun _ => 0) (fun _ => 0) (fun _ => 0) (fun _ => 0) (fun _ => 0) (fun _ => 0) := ⟨fun _ _ => rfl, fun p h => absurd h (by omega), fun p h => absurd h (by omega), fun p h => absurd h (by omega), fun h => absurd h (by omega)⟩
  have hX0 : XL 0 0 0 H (fun _ => 0) (fun _ => 0) (fun _ => 0) (fun _ => 0) (fun _ => 0) (fun _ => 0) (fun _ => 0) bp bl ep fi la bg fd hl0 := ⟨fun p h => absurd h (by omega), fun p h => absurd h (by omega), fun p h => absurd h (by omega)⟩
  have hM0 : ML 0 0 N (fun _ => 0) (fun _ => 0) (fun _ => 0) (fun _ => 0) (fun _ => 0) (fun _ => 0) us0 mf ml mbp mbl ep0 := ⟨c2, fun p h => absurd h (by omega), fun p h => absurd h (by omega), fun e _ h => c4 e h⟩
  obtain ⟨P', US', FI', LA', BG', BP', BL', EP', bp', bl', ep', fi', la', bg', fd', hl', us', mf', ml', mbp', mbl', mep', g1, g2, g⟩ := all_both (K1 := fun (i3_12 : Int32) (v_pages_12 : Int32) (v_room_12 : Int32) (v_beginPage_12 : Nat → Int32) (v_beginLine_12 : Nat → Int32) (v_endPage_12 : Nat → Int32) (v_first_12 : Nat → Int32) (v_last_12 : Nat → Int32) (v_begun_12 : Nat → Int32) (v_filled_12 : Nat → Int32) (v_headLines_12 : Nat → Int32) => some (v_pages_12, v_room_12, v_beginPage_12, v_beginLine_12, v_endPage_12, v_first_12, v_last_12, v_begun_12, v_filled_12, v_headLines_12)) (K2 := fun (i2_55 : Int32) (i1_55 : Int32) (v_pages_55 : Int32) (v_used_55 : Nat → Int32) (v_firsts_55 : Nat → Int32) (v_lasts_55 : Nat → Int32) (v_beginPages_55 : Nat → Int32) (v_beginLines_55 : Nat → Int32) (v_endPages_55 : Nat → Int32) => some (v_pages_55, v_used_55, v_firsts_55, v_lasts_55, v_beginPages_55, v_beginLines_55, v_endPages_55)) hN hG hk hH hL hPB hn hz hz2 hz3 hzn hl hh N FU FU 0 0 _ _ _ _ _ _ _ _ _ _ _ _ _ _ _ _ _ _ _ _ _ (by omega) (by omega) (by omega) (by omega) hI0 hX0 hM0
  refine ⟨P', US', FI', LA', BG', BP', BL', EP', _, bp', bl', ep', fi', la', bg', fd', hl', us', mf', ml', mbp', mbl', mep', g1, ?_, g⟩
  unfold f_X6_pass
  refine c1.trans ?_
  refine c3.trans ?_
  exact g2
