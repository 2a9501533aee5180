/-! the class lays as the numbers do -/
theorem XLs_more {e m : Nat} {H : Nat → Nat} {s : LSt} {bp bl ep fi la bg fd fd' hl : Nat → Int32} (h : XLs (e + 1) e H s bp bl ep fi la bg fd hl) (hf : ∀ p, p ≠ tP s → fd' p = fd p) (hP : fd' (tP s) = nI m) :
    XLs (e + 1) e H (lMore e m s) bp bl ep (upd fi (tP s) (nI e)) (upd la (tP s) (nI e)) (upd bg (tP s) 0) fd' (upd hl (tP s) (nI (H (tP s)))) := XL_more h hf hP
theorem x_pour {K1 : Int32 → Int32 → Int32 → Int32 → (Nat → Int32) → (Nat → Int32) → (Nat → Int32) → (Nat → Int32) → (Nat → Int32) → Option (Int32 × Int32 × (Nat → Int32) × (Nat → Int32) × (Nat → Int32) × (Nat → Int32) × (Nat → Int32) × (Nat → Int32) × (Nat → Int32) × (Nat → Int32))}
    {L PB e : Nat} (he : e < 30) {H : Nat → Nat} (hH : ∀ p, H p = 1 ∨ H p = 2) (hL : 6 ≤ L ∧ L ≤ 40) (hPB : PB < 2 ^ 30) {nh : Nat → Int32} (hn : (∀ p, p < PB → nh p = nI (H p)) ∧ ∀ p, PB ≤ p → H p = 1)
    {bp bl ep : Nat → Int32} : ∀ (d f1 i rest : Nat) (s : LSt) (fi la bg fd hl : Nat → Int32), rest ≤ d → d < f1 → i + rest ≤ 40 → tP s ≤ 10 * (e + 1) → (0 < rest → 4 * tP s + rest ≤ 40 * (e + 1)) →
    LIs L (e + 1) H s → XLs (e + 1) e H s bp bl ep fi la bg fd hl →
    ∃ (i' : Int32) (fi' la' bg' fd' hl' : Nat → Int32),
      L_X0_layEntry_57 K1 (nI e) (nI PB) (nI L) nh f1 (nI i) (nI rest) (nI (tP s)) (nI (L - H (tP s - 1) - tUS s (tP s - 1))) fi la bg fd hl = K1 i' (nI 0) (nI (tP (lPour L H e d rest s))) (nI (L - H (tP (lPour L H e d rest s) - 1) - tUS (lPour L H e d rest s) (tP (lPour L H e d rest s) - 1))) fi' la' bg' fd' hl' ∧
      XLs (e + 1) e H (lPour L H e d rest s) bp bl ep fi' la' bg' fd' hl'
  | _, 0, _, _, _, _, _, _, _, _, _, h, _, _, _, _, _ => absurd h (by omega)
  | d, f1 + 1, i, 0, s, fi, la, bg, fd, hl, _, _, hi, hP, _, hI, hX => by
    have e0 : lPour L H e d 0 s = s := by cases d <;> rfl
    rw [e0]
    refine ⟨nI i, fi, la, bg, fd, hl, ?_, hX⟩
    rw [L_X0_layEntry_57_s]
    by_cases q : (40 : Int32) ≤ nI i
    · rw [if_pos q]
    · rw [if_neg q, if_pos (show nI 0 ≤ (0 : Int32) by decide)]
  | 0, f1 + 1, i, rest + 1, s, _, _, _, _, _, h, _, _, _, _, _, _ => absurd h (by omega)
  | d + 1, f1 + 1, i, rest + 1, s, fi, la, bg, fd, hl, hd1, hf1, hi, hP, hP4, hI, hX => by
    have hHP := hH (tP s)
    have hP3 : tP s < 300 := by have := hP4 (by omega); omega
    have ee : lPour L H e (d + 1) (rest + 1) s = lPour L H e d (rest + 1 - min (rest + 1) (L - H (tP s))) (lMore e (min (rest + 1) (L - H (tP s))) s) := if_neg (by omega)
    rw [ee]
    generalize hm : min (rest + 1) (L - H (tP s)) = m
    have hP4 := hP4 (by omega)
    obtain ⟨i', fi', la', bg', fd', hl', e1, e2⟩ := x_pour (K1 := K1) he hH hL hPB hn (bp := bp) (bl := bl) (ep := ep) d f1 (i + 1) (rest + 1 - m) (lMore e m s) (upd fi (tP s) (nI e)) (upd la (tP s) (nI e)) (upd bg (tP s) 0) (upd (upd fd (tP s) 0) (tP s) (nI m)) (upd hl (tP s) (nI (H (tP s)))) (by omega) (by omega) (by omega) (by show tP s + 1 ≤ _; omega) (by show _ → 4 * (tP s + 1) + _ ≤ _; omega) (LIs_more hI (by omega) (by omega)) (XLs_more hX (fun p hp => by rw [upd_ne hp, upd_ne hp]) upd_eq)
    refine ⟨i', fi', la', bg', fd', hl', ?_, e2⟩
    rw [← e1]
    show _ = L_X0_layEntry_57 K1 (nI e) (nI PB) (nI L) nh f1 (nI (i + 1)) (nI (rest + 1 - m)) (nI (tP s + 1)) (nI (L - H (tP s + 1 - 1) - put1 (tP s) m (tUS s) (tP s + 1 - 1))) _ _ _ _ _
    rw [Nat.add_sub_cancel, put1_eq]
    have em : (if nI (L - H (tP s)) < nI (rest + 1) then nI (L - H (tP s)) else nI (rest + 1)) = nI m := by
      by_cases q : L - H (tP s) < rest + 1
      · rw [if_pos (nI_lt q (by omega)), show m = L - H (tP s) by omega]
      · rw [if_neg (nI_nlt (by omega) (by omega)), show m = rest + 1 by omega]
    rw [L_X0_layEntry_57_s, if_neg (show ¬ (40 : Int32) ≤ nI i from nI_ge (a := i) (b := 40) (by omega) (by decide)), if_neg (show ¬ nI (rest + 1) ≤ (0 : Int32) from nI_ge (a := 0) (b := rest + 1) (by omega) (by omega)), bd_eq (x_open hP3 hPB hH hL hn _ bg fd hl)]
    dsimp only
    rw [em, bd_eq (x_fill hP3 he _ (nI m) fi la (upd fd (tP s) 0))]
    dsimp only
    rw [if_pos (show upd fd (tP s) 0 (tP s) = 0 from upd_eq), upd_eq, Int32.zero_add, pk_sub (by omega), pk_sub (by omega), nI_1]
theorem x_fin {L PB e : Nat} (he : e < 30) {H : Nat → Nat} (hH : ∀ p, H p = 1 ∨ H p = 2) (hL : 6 ≤ L ∧ L ≤ 40) (hPB : PB < 2 ^ 30) {nh : Nat → Int32} (hn : (∀ p, p < PB → nh p = nI (H p)) ∧ ∀ p, PB ≤ p → H p = 1)
    {rest : Nat} {s : LSt} {bp bl ep fi la bg fd hl : Nat → Int32} (hr : rest ≤ 40) (h1 : 1 ≤ tP s) (hP : tP s ≤ 10 * (e + 1)) (hP4 : 0 < rest → 4 * tP s + rest ≤ 40 * (e + 1))
    (hI : LIs L (e + 1) H s) (hX : XLs (e + 1) e H s bp bl ep fi la bg fd hl) :
    ∃ (ep' fi' la' bg' fd' hl' : Nat → Int32),
      L_X0_layEntry_57 (fun (i6_57 : Int32) (i5_57 : Int32) (v_pages_57 : Int32) (v_room_57 : Int32) (v_first_57 : Nat → Int32) (v_last_57 : Nat → Int32) (v_begun_57 : Nat → Int32) (v_filled_57 : Nat → Int32) (v_headLines_57 : Nat → Int32) => gd (xin (nI e) 30) (some (v_pages_57, v_room_57, bp, bl, (upd ep (nI e).toNatClampNeg (v_pages_57 - 1)), v_first_57, v_last_57, v_begun_57, v_filled_57, v_headLines_57))) (nI e) (nI PB) (nI L) nh FU 0 (nI rest) (nI (tP s)) (nI (L - H (tP s - 1) - tUS s (tP s - 1))) fi la bg fd hl = some (nI (tP (lPour L H e 40 rest s)), nI (rmN L (tP (lPour L H e 40 rest s)) H (tUS (lPour L H e 40 rest s))), bp, bl, ep', fi', la', bg', fd', hl') ∧
      XLs (e + 1) (e + 1) H (lPour L H e 40 rest s) bp bl ep' fi' la' bg' fd' hl' := by
  have hF := FU_big
  obtain ⟨i', fi', la', bg', fd', hl', e1, e5⟩ := x_pour (K1 := (fun (i6_57 : Int32) (i5_57 : Int32) (v_pages_57 : Int32) (v_room_57 : Int32) (v_first_57 : Nat → Int32) (v_last_57 : Nat → Int32) (v_begun_57 : Nat → Int32) (v_filled_57 : Nat → Int32) (v_headLines_57 : Nat → Int32) => gd (xin (nI e) 30) (some (v_pages_57, v_room_57, bp, bl, (upd ep (nI e).toNatClampNeg (v_pages_57 - 1)), v_first_57, v_last_57, v_begun_57, v_filled_57, v_headLines_57)))) he hH hL hPB hn (bp := bp) (bl := bl) (ep := ep) 40 FU 0 rest s fi la bg fd hl hr (by omega) (by omega) hP hP4 hI hX
  obtain ⟨-, e4, g1⟩ := pour_s hH hL 40 rest s hr hP hP4 hI h1
  generalize lPour L H e 40 rest s = s' at *
  obtain ⟨-, -, g3⟩ := e4.2.2.2.2 (by omega)
  obtain ⟨Q, hQ⟩ : ∃ Q, tP s' = Q + 1 := ⟨tP s' - 1, by omega⟩
  refine ⟨upd ep e (nI Q), fi', la', bg', fd', hl', ?_, ⟨e5.1, e5.2.1, fun x hx => ?_⟩⟩
  · have en : rmN L (tP s') H (tUS s') = L - H (tP s' - 1) - tUS s' (tP s' - 1) := if_neg (by omega)
    rw [en]
    refine e1.trans ?_
    rw [gd_t (xin_nI he (by decide)), clN (by omega), hQ, nI_pred]
  · by_cases q : x = e
    · rw [q, upd_eq]
      rw [Nat.add_sub_cancel, hQ, Nat.add_sub_cancel] at g3
      rw [show tEP s' e = Q from g3]
    · rw [upd_ne q]
      exact e5.2.2 x (by omega)
theorem x_entry {L PB e n k : Nat} (he30 : e < 30) (hn1 : 1 ≤ n ∧ n ≤ 40) (hk : 1 ≤ k ∧ k ≤ 3) {H : Nat → Nat} (hH : ∀ p, H p = 1 ∨ H p = 2) (hL : 6 ≤ L ∧ L ≤ 40) (hPB : PB < 2 ^ 30) {nh : Nat → Int32} (hn : (∀ p, p < PB → nh p = nI (H p)) ∧ ∀ p, PB ≤ p → H p = 1)
    {s : LSt} {bp bl ep fi la bg fd hl : Nat → Int32} (hP : tP s ≤ 10 * e)
    (hI : LIs L e H s) (hX : XLs e e H s bp bl ep fi la bg fd hl) :
    ∃ (bp' bl' ep' fi' la' bg' fd' hl' : Nat → Int32),
      f_X0_layEntry (nI (tP s)) (nI PB) (nI L) (nI (rmN L (tP s) H (tUS s))) bp bl ep fi la bg fd hl nh (nI e) (nI n) (nI k) = some (nI (tP (lEnt L k H e n s)), nI (rmN L (tP (lEnt L k H e n s)) H (tUS (lEnt L k H e n s))), bp', bl', ep', fi', la', bg', fd', hl') ∧
      XLs (e + 1) (e + 1) H (lEnt L k H e n s) bp' bl' ep' fi' la' bg' fd' hl' := by
  have hF := FU_big
  have hrm : rmN L (tP s) H (tUS s) ≤ 40 := by unfold rmN; split <;> omega
  have hhl := here_le n (rmN L (tP s) H (tUS s)) k
  unfold f_X0_layEntry lEnt
  rw [x_here hn1.2 hrm hk]
  have hHP := hH (tP s)
  by_cases q : hereN n (rmN L (tP s) H (tUS s)) k = 0
  · -- a fresh page
    rw [if_pos (show nI (hereN n (rmN L (tP s) H (tUS s)) k) = (0 : Int32) by rw [q]; rfl), if_pos q, bd_eq (x_open (by omega) hPB hH hL hn _ bg fd hl)]
    dsimp only
    rw [x_here hn1.2 (by omega) hk]
    have h3 := h3_s (r := L - H (tP s)) hn1 (by omega) hk
    have eJ : J_X0_layEntry_25 (nI e) (nI n) (nI PB) (nI L) bp bl ep fi la nh (nI (hereN n (L - H (tP s)) k)) (nI (tP s + 1)) (nI (L - H (tP s))) (upd bg (tP s) 0) (upd fd (tP s) 0) (upd hl (tP s) (nI (H (tP s)))) = J_X0_layEntry_36 (nI e) (nI n) (nI PB) (nI L) bp bl ep fi la nh (nI (tP s + 1)) (nI (L - H (tP s))) (upd bg (tP s) 0) (upd fd (tP s) 0) (upd hl (tP s) (nI (H (tP s)))) (nI (h3N n (L - H (tP s)) k)) := by
      unfold J_X0_layEntry_25 h3N
      have hle2 := here_le n (L - H (tP s)) k
      by_cases r : hereN n (L - H (tP s)) k = 0
      · rw [if_pos (show nI (hereN n (L - H (tP s)) k) = (0 : Int32) by rw [r]; rfl), if_pos r]
      · rw [if_neg (show ¬ nI (hereN n (L - H (tP s)) k) = (0 : Int32) from fun c => by have := (nI_eq (a := hereN n (L - H (tP s)) k) (b := 0) (by omega) (by decide)).mp c; omega), if_neg r]
    rw [eJ]
    generalize h3N n (L - H (tP s)) k = h at *
    rw [x_start (p := tP s) (by omega) he30 (by omega) (by omega), if_pos (show upd fd (tP s) 0 (tP s) = 0 from upd_eq), upd_eq, upd_eq]
    have hX2 : XLs (e + 1) e H (lFresh e h s) (upd bp e (nI (tP s))) (upd bl e 0) ep (upd fi (tP s) (nI e)) (upd la (tP s) (nI e)) (upd (upd bg (tP s) 0) (tP s) (0 + 1)) (upd (upd fd (tP s) 0) (tP s) (0 + nI h)) (upd hl (tP s) (nI (H (tP s)))) :=
      XL_fresh hX rfl (fun p hp => ⟨by rw [upd_ne hp, upd_ne hp], by rw [upd_ne hp, upd_ne hp], by rw [upd_ne hp]⟩) ⟨by rw [upd_eq]; rfl, by rw [upd_eq, Int32.zero_add], upd_eq⟩
    obtain ⟨ep', fi', la', bg', fd', hl', e1, e2⟩ := x_fin he30 hH hL hPB hn (rest := n - h) (s := lFresh e h s) (by omega) (by show 1 ≤ tP s + 1; omega) (by show tP s + 1 ≤ _; omega) (by show _ → 4 * (tP s + 1) + _ ≤ _; omega) (LIs_fresh hI (by omega) (by omega)) hX2
    refine ⟨_, _, ep', fi', la', bg', fd', hl', ?_, e2⟩
    rw [← e1]
    show _ = L_X0_layEntry_57 _ (nI e) (nI PB) (nI L) nh FU 0 (nI (n - h)) (nI (tP s + 1)) (nI (L - H (tP s + 1 - 1) - put1 (tP s) h (tUS s) (tP s + 1 - 1))) _ _ _ _ _
    rw [Nat.add_sub_cancel, put1_eq]
  · -- behind others
    have p0 : tP s ≠ 0 := fun c => q (by unfold rmN hereN; rw [if_pos c, if_neg (by omega), if_pos (by omega)])
    rw [if_neg q]
    have he1 : 1 ≤ e := by omega
    have hb := hI.2.1 (tP s - 1) (by omega)
    have er : rmN L (tP s) H (tUS s) = L - H (tP s - 1) - tUS s (tP s - 1) := if_neg p0
    rw [er] at q hhl ⊢
    obtain ⟨p, hp⟩ : ∃ p, tP s = p + 1 := ⟨tP s - 1, by omega⟩
    rw [if_neg (show ¬ nI (hereN n (L - H (tP s - 1) - tUS s (tP s - 1)) k) = (0 : Int32) from fun c => by have := (nI_eq (a := hereN n (L - H (tP s - 1) - tUS s (tP s - 1)) k) (b := 0) (by omega) (by decide)).mp c; omega)]
    obtain ⟨a1, a2, a3, a4, a5⟩ := hX.1 (tP s - 1) (by omega)
    have nus : ¬ nI (tUS s (tP s - 1)) = (0 : Int32) := fun c => by have := (nI_eq (a := tUS s (tP s - 1)) (b := 0) (by omega) (by decide)).mp c; omega
    generalize hhe : hereN n (L - H (tP s - 1) - tUS s (tP s - 1)) k = h at *
    have eJ : J_X0_layEntry_25 (nI e) (nI n) (nI PB) (nI L) bp bl ep fi la nh (nI h) (nI (tP s)) (nI (L - H (tP s - 1) - tUS s (tP s - 1))) bg fd hl = J_X0_layEntry_36 (nI e) (nI n) (nI PB) (nI L) bp bl ep fi la nh (nI (tP s)) (nI (L - H (tP s - 1) - tUS s (tP s - 1))) bg fd hl (nI h) := by
      unfold J_X0_layEntry_25
      rw [if_neg (show ¬ nI h = (0 : Int32) from fun c => by have := (nI_eq (a := h) (b := 0) (by omega) (by decide)).mp c; omega)]
    have hX2 : XLs (e + 1) e H (lHere e h s) (upd bp e (nI (tP s - 1))) (upd bl e (fd (tP s - 1))) ep fi (upd la (tP s - 1) (nI e)) (upd bg (tP s - 1) (bg (tP s - 1) + 1)) (upd fd (tP s - 1) (fd (tP s - 1) + nI h)) hl := by
      have hX0 : XL (p + 1) e e H (tUS s) (tFI s) (tLA s) (tBG s) (tBP s) (tBL s) (tEP s) bp bl ep fi la bg fd hl := by rw [← hp]; exact hX
      have := XL_here (h := h) hX0
      show XL (tP s) (e + 1) e H _ _ _ _ _ _ _ _ _ _ _ _ _ _ _
      dsimp only [lHere]
      rw [hp, Nat.add_sub_cancel]
      exact this
    have hS2 := LIs_here (m := h) hI he1 (by omega)
    rw [eJ]
    have ex := x_start (p := p) (e := e) (n := n) (h := h) (by omega) he30 hhl.2 hhl.1 (nI PB) (nI L) bp bl ep fi la nh bg fd hl
    have hpp : p = tP s - 1 := by omega
    rw [← hp, hpp] at ex
    rw [ex, if_neg (by rw [a4]; exact nus)]
    obtain ⟨ep', fi', la', bg', fd', hl', e1, e2⟩ := x_fin he30 hH hL hPB hn (rest := n - h) (s := lHere e h s) (by omega) (by show 1 ≤ tP s; omega) (by show tP s ≤ _; omega) (by show _ → 4 * tP s + _ ≤ _; omega) hS2 hX2
    refine ⟨_, _, ep', fi', la', bg', fd', hl', ?_, e2⟩
    rw [← e1]
    show _ = L_X0_layEntry_57 _ (nI e) (nI PB) (nI L) nh FU 0 (nI (n - h)) (nI (tP s)) (nI (L - H (tP s - 1) - put1 (tP s - 1) (tUS s (tP s - 1) + h) (tUS s) (tP s - 1))) _ _ _ _ _
    rw [put1_eq, show L - H (tP s - 1) - (tUS s (tP s - 1) + h) = L - H (tP s - 1) - tUS s (tP s - 1) - h by omega]
