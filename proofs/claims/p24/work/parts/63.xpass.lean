/-! passes, and the layout as a whole -/
theorem x_all {K1 : Int32 → Int32 → Int32 → (Nat → Int32) → (Nat → Int32) → (Nat → Int32) → (Nat → Int32) → (Nat → Int32) → (Nat → Int32) → (Nat → Int32) → (Nat → Int32) → Option (Int32 × Int32 × (Nat → Int32) × (Nat → Int32) × (Nat → Int32) × (Nat → Int32) × (Nat → Int32) × (Nat → Int32) × (Nat → Int32) × (Nat → Int32))}
    {L PB N k : Nat} (hN : N ≤ 30) {G : Nat → Nat} (hG : ∀ e, e < N → 1 ≤ G e ∧ G e ≤ 40) (hk : 1 ≤ k ∧ k ≤ 3) {H : Nat → Nat} (hH : ∀ p, H p = 1 ∨ H p = 2) (hL : 6 ≤ L ∧ L ≤ 40) (hPB : PB < 2 ^ 30) {nh : Nat → Int32} (hn : (∀ p, p < PB → nh p = nI (H p)) ∧ ∀ p, PB ≤ p → H p = 1) {lns : Nat → Int32} (hl : ∀ e, e < N → lns e = nI (G e)) :
    ∀ (d f1 e : Nat) (bp bl ep fi la bg fd hl : Nat → Int32), e + d = N → d < f1 → XLs e e H (lAll L k H G e) bp bl ep fi la bg fd hl →
    ∃ (bp' bl' ep' fi' la' bg' fd' hl' : Nat → Int32),
      L_X0_layOnce_12 K1 (nI k) (nI PB) (nI L) nh (nI N) lns f1 (nI e) (nI (tP (lAll L k H G e))) (nI (rmN L (tP (lAll L k H G e)) H (tUS (lAll L k H G e)))) bp bl ep fi la bg fd hl = K1 (nI N) (nI (tP (lAll L k H G N))) (nI (rmN L (tP (lAll L k H G N)) H (tUS (lAll L k H G N)))) bp' bl' ep' fi' la' bg' fd' hl' ∧
      XLs N N H (lAll L k H G N) bp' bl' ep' fi' la' bg' fd' hl'
  | _, 0, _, _, _, _, _, _, _, _, _, _, h, _ => absurd h (by omega)
  | 0, f1 + 1, e, bp, bl, ep, fi, la, bg, fd, hl0, he, _, hX => by
    have hen : e = N := by omega
    subst hen
    refine ⟨bp, bl, ep, fi, la, bg, fd, hl0, ?_, hX⟩
    rw [L_X0_layOnce_12_s, if_pos (nI_le (Nat.le_refl _) (by omega))]
  | d + 1, f1 + 1, e, bp, bl, ep, fi, la, bg, fd, hl0, he, hf1, hX => by
    obtain ⟨a, b⟩ := all_s hH hL hk e (fun x hx => hG x (by omega))
    obtain ⟨bp1, bl1, ep1, fi1, la1, bg1, fd1, hl1, e1, e5⟩ := x_entry (e := e) (by omega) (hG e (by omega)) hk hH hL hPB hn a b hX
    obtain ⟨bp', bl', ep', fi', la', bg', fd', hl', g1, g⟩ := x_all (K1 := K1) hN hG hk hH hL hPB hn hl d f1 (e + 1) bp1 bl1 ep1 fi1 la1 bg1 fd1 hl1 (by omega) (by omega) e5
    refine ⟨bp', bl', ep', fi', la', bg', fd', hl', ?_, g⟩
    rw [L_X0_layOnce_12_s, if_neg (nI_ge (by omega) (by omega)), gd_t (xin_nI (by omega) (by decide)), clN (by omega), hl e (by omega), bd_eq e1]
    dsimp only
    rw [nI_1]
    exact g1
theorem x_once {L PB N k : Nat} (hN : N ≤ 30) {G : Nat → Nat} (hG : ∀ e, e < N → 1 ≤ G e ∧ G e ≤ 40) (hk : 1 ≤ k ∧ k ≤ 3) {H : Nat → Nat} (hH : ∀ p, H p = 1 ∨ H p = 2) (hL : 6 ≤ L ∧ L ≤ 40) (hPB : PB < 2 ^ 30) {nh : Nat → Int32} (hn : (∀ p, p < PB → nh p = nI (H p)) ∧ ∀ p, PB ≤ p → H p = 1) {lns : Nat → Int32} (hl : ∀ e, e < N → lns e = nI (G e)) (bp bl ep fi la bg fd hl0 : Nat → Int32) :
    ∃ (rm : Int32) (bp' bl' ep' fi' la' bg' fd' hl' : Nat → Int32),
      f_X0_layOnce (nI PB) (nI L) bp bl ep fi la bg fd hl0 nh (nI N) lns (nI k) = some (nI (tP (lAll L k H G N)), rm, bp', bl', ep', fi', la', bg', fd', hl') ∧
      XLs N N H (lAll L k H G N) bp' bl' ep' fi' la' bg' fd' hl' := by
  have hF := FU_big
  have hX0 : XLs 0 0 H (lAll L k H G 0) bp bl ep fi la bg fd hl0 := ⟨fun p h => absurd h (Nat.not_lt_zero _), fun p h => absurd h (Nat.not_lt_zero _), fun p h => absurd h (Nat.not_lt_zero _)⟩
  obtain ⟨bp', bl', ep', fi', la', bg', fd', hl', g1, g⟩ := x_all (K1 := fun (i3_12 : Int32) (v_pages_12 : Int32) (v_room_12 : Int32) (v_beginPage_12 : Nat → Int32) (v_beginLine_12 : Nat → Int32) (v_endPage_12 : Nat → Int32) (v_first_12 : Nat → Int32) (v_last_12 : Nat → Int32) (v_begun_12 : Nat → Int32) (v_filled_12 : Nat → Int32) (v_headLines_12 : Nat → Int32) => some (v_pages_12, v_room_12, v_beginPage_12, v_beginLine_12, v_endPage_12, v_first_12, v_last_12, v_begun_12, v_filled_12, v_headLines_12)) hN hG hk hH hL hPB hn hl N FU 0 _ _ _ _ _ _ _ _ (by omega) (by omega) hX0
  exact ⟨_, bp', bl', ep', fi', la', bg', fd', hl', g1, g⟩
noncomputable def sameN (W : Nat → List Nat) (Wd : Nat) (H : Nat → Nat) (s : LSt) : Nat := @ite _ (lSame W Wd H s) (Classical.propDecidable _) 1 0
theorem x_step {L Wd k N : Nat} {G : Nat → Nat} {W : Nat → List Nat} (hL : 6 ≤ L ∧ L ≤ 40) (hW : Wd ≤ 30) (hk : 1 ≤ k ∧ k ≤ 3) (ok : OKE N G W) {lns : Nat → Int32} {wd : Nat → Int64} (hx : ∀ i, i < N → lns i = nI (G i) ∧ wd i = lN (pk (W i))) {H : Nat → Nat} (hH : ∀ p, H p = 1 ∨ H p = 2) {PB : Nat} (hPB : PB < 2 ^ 30) {nh : Nat → Int32} (hn : (∀ p, p < PB → nh p = nI (H p)) ∧ ∀ p, PB ≤ p → H p = 1) (bp bl ep fi la bg fd hl : Nat → Int32) :
    ∃ (rm : Int32) (bp' bl' ep' fi' la' bg' fd' hl' nh' : Nat → Int32),
      f_X0_layOnce (nI PB) (nI L) bp bl ep fi la bg fd hl nh (nI N) lns (nI k) = some (nI (tP (lAll L k H G N)), rm, bp', bl', ep', fi', la', bg', fd', hl') ∧
      f_X0_askHeads (nI (tP (lAll L k H G N))) fi' la' hl' nh (nI N) wd (nI Wd) = some (nI (sameN W Wd H (lAll L k H G N)), nh') ∧
      XLs N N H (lAll L k H G N) bp' bl' ep' fi' la' bg' fd' hl' ∧ ∀ p, p < tP (lAll L k H G N) → nh' p = nI (lNext W Wd (lAll L k H G N) p) := by
  have hF := FU_big
  have hN := ok.1
  have hG : ∀ e, e < N → 1 ≤ G e ∧ G e ≤ 40 := fun e he => ⟨(ok.2.1 e he).1, (ok.2.1 e he).2.1⟩
  obtain ⟨rm, bp', bl', ep', fi', la', bg', fd', hl', e1, e5⟩ := x_once hN hG hk hH hL hPB hn (fun e he => (hx e he).1) bp bl ep fi la bg fd hl
  obtain ⟨e3, e4⟩ := all_s hH hL hk N hG
  generalize lAll L k H G N = s at *
  obtain ⟨b', nh', g1, -, g3, g4⟩ := x_ask_loop (K := fun (i4_5 : Int32) (i3_5 : Int32) (v_nextHeadLines_5 : Nat → Int32) => gd (isb i3_5) (some (i3_5, v_nextHeadLines_5))) ok (fun i hi => (hx i hi).2) (Wd := Wd) (P := tP s) hW (by omega) hH (FI := tFI s) (LA := tLA s) (fi := fi') (la := la') (hl := hl') (fun p hp => by
    have a := e4.2.2.1 p hp
    have b := e5.1 p hp
    exact ⟨by omega, a.2.1, b.1, b.2.1, b.2.2.2.2⟩) (tP s) FU 0 1 nh (by omega) (by omega) (Or.inl rfl)
  have hb : b' = nI (sameN W Wd H s) ∧ isb b' = true := by
    unfold sameN
    rcases g4 with h | ⟨h1, h2⟩
    · rw [if_pos (show lSame W Wd H s from fun p hp => h.2.2 p (Nat.zero_le _) hp), h.1]
      exact ⟨rfl, rfl⟩
    · rw [if_neg, h1]
      · exact ⟨rfl, rfl⟩
      · intro c
        rcases h2 with h2 | ⟨p, -, p2, p3⟩
        · exact absurd h2 (by decide)
        · exact p3 (c p p2)
  refine ⟨rm, bp', bl', ep', fi', la', bg', fd', hl', nh', e1, ?_, e5, fun p hp => ?_⟩
  · unfold f_X0_askHeads
    refine g1.trans ?_
    rw [gd_t hb.2, hb.1]
  · rw [g3 p (Nat.zero_le _) hp]
    unfold lNext
    rw [if_pos hp]
theorem next_12 (W : Nat → List Nat) (Wd : Nat) (s : LSt) (p : Nat) : lNext W Wd s p = 1 ∨ lNext W Wd s p = 2 := by
  unfold lNext
  split
  · exact wn_12 _ _ _ _
  · exact Or.inl rfl
theorem x_lay_loop {K1 : Int32 → Int32 → Int32 → Int32 → Int32 → Int32 → (Nat → Int32) → (Nat → Int32) → (Nat → Int32) → (Nat → Int32) → (Nat → Int32) → (Nat → Int32) → (Nat → Int32) → (Nat → Int32) → (Nat → Int32) → Option (Int32 × Int32 × Int32 × Int32 × Int32 × Int32 × (Nat → Int32) × (Nat → Int32) × (Nat → Int32) × (Nat → Int32) × (Nat → Int32) × (Nat → Int32) × (Nat → Int32) × (Nat → Int32) × (Nat → Int32))}
    {L Wd k N : Nat} {G : Nat → Nat} {W : Nat → List Nat} (hL : 6 ≤ L ∧ L ≤ 40) (hW : Wd ≤ 30) (hk : 1 ≤ k ∧ k ≤ 3) (ok : OKE N G W) {lns : Nat → Int32} {wd : Nat → Int64} (hx : ∀ i, i < N → lns i = nI (G i) ∧ wd i = lN (pk (W i))) :
    ∀ (d f1 i PB : Nat) (H : Nat → Nat) (ps pb rm : Int32) (bp bl ep fi la bg fd hl nh : Nat → Int32), i + d = 10 → d + 1 < f1 → 1 ≤ i → (∀ p, H p = 1 ∨ H p = 2) → PB < 2 ^ 30 → ((∀ p, p < PB → nh p = nI (H p)) ∧ ∀ p, PB ≤ p → H p = 1) →
    ∃ (i5 pb' rm' : Int32) (bp' bl' ep' fi' la' bg' fd' hl' nh' : Nat → Int32),
      L_X0_lay_18 K1 (nI L) (nI Wd) (nI k) (nI N) lns wd f1 (nI i) (nI PB) ps 0 pb rm bp bl ep fi la bg fd hl nh = K1 i5 (nI (tP (lRes L Wd k N G W d i H).2.2.2)) (nI (lRes L Wd k N G W d i H).1) (nI (lRes L Wd k N G W d i H).2.1) pb' rm' bp' bl' ep' fi' la' bg' fd' hl' nh' ∧
      XLs N N (lRes L Wd k N G W d i H).2.2.1 (lRes L Wd k N G W d i H).2.2.2 bp' bl' ep' fi' la' bg' fd' hl'
  | _, 0, _, _, _, _, _, _, _, _, _, _, _, _, _, _, _, _, h, _, _, _, _ => absurd h (by omega)
  | _, 1, _, _, _, _, _, _, _, _, _, _, _, _, _, _, _, _, h, _, _, _, _ => absurd h (by omega)
  | 0, f1 + 2, i, PB, H, ps, pb, rm, bp, bl, ep, fi, la, bg, fd, hl, nh, hi, _, h1, hH, hPB, hn => by
    have e10 : i = 10 := by omega
    subst e10
    obtain ⟨rm1, bp1, bl1, ep1, fi1, la1, bg1, fd1, hl1, nh1, g1, g2, g3, g4⟩ := x_step hL hW hk ok hx hH hPB hn bp bl ep fi la bg fd hl
    refine ⟨nI 11, nI PB, rm1, bp1, bl1, ep1, fi1, la1, bg1, fd1, hl1, nh1, ?_, g3⟩
    have hi1 : isb (nI (sameN W Wd H (lAll L k H G N))) = true := by
      unfold sameN
      split <;> rfl
    rw [L_X0_lay_18_s, if_neg (by decide), if_pos rfl, bd_eq g1]
    dsimp only
    rw [bd_eq g2]
    dsimp only
    rw [gd_t hi1, nI_1, L_X0_lay_18_s, if_pos (by decide)]
    rfl
  | d + 1, f1 + 2, i, PB, H, ps, pb, rm, bp, bl, ep, fi, la, bg, fd, hl, nh, hi, hf1, h1, hH, hPB, hn => by
    obtain ⟨rm1, bp1, bl1, ep1, fi1, la1, bg1, fd1, hl1, nh1, g1, g2, g3, g4⟩ := x_step hL hW hk ok hx hH hPB hn bp bl ep fi la bg fd hl
    have hi1 : isb (nI (sameN W Wd H (lAll L k H G N))) = true := by
      unfold sameN
      split <;> rfl
    have n10 : ¬ (10 : Int32) < nI i := nI_nlt (a := 10) (b := i) (by omega) (by decide)
    have n11 : ¬ (10 : Int32) < nI (i + 1) := nI_nlt (a := 10) (b := i + 1) (by omega) (by decide)
    by_cases q : lSame W Wd H (lAll L k H G N)
    · have e : lRes L Wd k N G W (d + 1) i H = (i, 1, H, lAll L k H G N) := if_pos q
      have es : sameN W Wd H (lAll L k H G N) = 1 := if_pos q
      rw [e]
      refine ⟨nI (i + 1), nI PB, rm1, bp1, bl1, ep1, fi1, la1, bg1, fd1, hl1, nh1, ?_, g3⟩
      rw [L_X0_lay_18_s, if_neg n10, if_pos rfl, bd_eq g1]
      dsimp only
      rw [bd_eq g2]
      dsimp only
      rw [gd_t hi1, nI_1, L_X0_lay_18_s, if_neg n11, es, if_neg (by decide)]
    · have e : lRes L Wd k N G W (d + 1) i H = lRes L Wd k N G W d (i + 1) (lNext W Wd (lAll L k H G N)) := if_neg q
      have es : sameN W Wd H (lAll L k H G N) = 0 := if_neg q
      rw [e]
      have a := (all_s hH hL hk N (fun e he => ⟨(ok.2.1 e he).1, (ok.2.1 e he).2.1⟩)).1
      have hN := ok.1
      obtain ⟨i5, pb', rm', bp', bl', ep', fi', la', bg', fd', hl', nh', j1, j2⟩ := x_lay_loop (K1 := K1) hL hW hk ok hx d (f1 + 1) (i + 1) (tP (lAll L k H G N)) (lNext W Wd (lAll L k H G N)) (nI i) (nI PB) rm1 bp1 bl1 ep1 fi1 la1 bg1 fd1 hl1 nh1 (by omega) (by omega) (by omega) (next_12 W Wd _) (by omega) ⟨g4, fun p hp => if_neg (by omega)⟩
      refine ⟨i5, pb', rm', bp', bl', ep', fi', la', bg', fd', hl', nh', ?_, j2⟩
      rw [L_X0_lay_18_s, if_neg n10, if_pos rfl, bd_eq g1]
      dsimp only
      rw [bd_eq g2]
      dsimp only
      rw [gd_t hi1, nI_1, es]
      exact j1
/-- what the class holds as its layout -/
def LAY (L Wd k N : Nat) (G : Nat → Nat) (W : Nat → List Nat) (pg ps st lop : Int32) (bp bl ep fi la bg fd hl : Nat → Int32) : Prop :=
  pg = nI (tP (layN L Wd k N G W).2.2.2) ∧ ps = nI (layN L Wd k N G W).1 ∧ st = nI (layN L Wd k N G W).2.1 ∧ lop = nI L ∧ XLs N N (layN L Wd k N G W).2.2.1 (layN L Wd k N G W).2.2.2 bp bl ep fi la bg fd hl
theorem x_lay {L Wd k N : Nat} {G : Nat → Nat} {W : Nat → List Nat} (hL : 6 ≤ L ∧ L ≤ 40) (hW : Wd ≤ 30) (hk : 1 ≤ k ∧ k ≤ 3) (ok : OKE N G W) {lns : Nat → Int32} {wd : Nat → Int64} (hx : ∀ i, i < N → lns i = nI (G i) ∧ wd i = lN (pk (W i))) (ps pb rm : Int32) (bp bl ep fi la bg fd hl nh : Nat → Int32) :
    ∃ (pg' ps' s' pb' lop' rm' : Int32) (bp' bl' ep' fi' la' bg' fd' hl' nh' : Nat → Int32),
      f_X0_lay ps pb rm bp bl ep fi la bg fd hl nh (nI N) lns wd (nI L) (nI Wd) (nI k) = some (pg', ps', s', pb', lop', rm', bp', bl', ep', fi', la', bg', fd', hl', nh') ∧ LAY L Wd k N G W pg' ps' s' lop' bp' bl' ep' fi' la' bg' fd' hl' := by
  have hF := FU_big
  obtain ⟨i5, pb', rm', bp', bl', ep', fi', la', bg', fd', hl', nh', j1, j2⟩ := x_lay_loop (K1 := fun (i5_18 : Int32) (v_pages_18 : Int32) (v_passes_18 : Int32) (v_isSettled_18 : Int32) (v_pagesBefore_18 : Int32) (v_room_18 : Int32) (v_beginPage_18 : Nat → Int32) (v_beginLine_18 : Nat → Int32) (v_endPage_18 : Nat → Int32) (v_first_18 : Nat → Int32) (v_last_18 : Nat → Int32) (v_begun_18 : Nat → Int32) (v_filled_18 : Nat → Int32) (v_headLines_18 : Nat → Int32) (v_nextHeadLines_18 : Nat → Int32) => some (v_pages_18, v_passes_18, v_isSettled_18, v_pagesBefore_18, nI L, v_room_18, v_beginPage_18, v_beginLine_18, v_endPage_18, v_first_18, v_last_18, v_begun_18, v_filled_18, v_headLines_18, v_nextHeadLines_18)) hL hW hk ok hx 9 FU 1 0 (fun _ => 1) ps pb rm bp bl ep fi la bg fd hl nh (by omega) (by omega) (by omega) (fun _ => Or.inl rfl) (by omega) ⟨fun p hp => absurd hp (Nat.not_lt_zero _), fun _ _ => rfl⟩
  exact ⟨_, _, _, pb', nI L, rm', bp', bl', ep', fi', la', bg', fd', hl', nh', j1, rfl, rfl, rfl, rfl, j2⟩
