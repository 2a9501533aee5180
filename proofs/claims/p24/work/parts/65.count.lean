/-! sums of the class; count -/
theorem blank_loop {K1 : Int32 → Int32 → Option Int32} {L P : Nat} (hP : P ≤ 300) {H US : Nat → Nat} {fd hl : Nat → Int32} (h : ∀ p, p < P → fd p = nI (US p) ∧ hl p = nI (H p) ∧ H p + US p ≤ L) : ∀ (d f1 i : Nat), i + d = P → d < f1 →
    L_X0_blankLines_4 K1 (nI P) (nI L) fd hl f1 (nI i) (nI (sumN (fun p => L - H p - US p) i)) = K1 (nI P) (nI (sumN (fun p => L - H p - US p) P))
  | _, 0, _, _, hf => absurd hf (by omega)
  | 0, f1 + 1, i, hi, _ => by
    rw [L_X0_blankLines_4_s, if_pos (nI_le (by omega) (by omega)), show i = P by omega]
  | d + 1, f1 + 1, i, hi, hf1 => by
    obtain ⟨h1, h2, h4⟩ := h i (by omega)
    have ex : f_X0_blankLinesOf (nI L) fd hl (nI i) = some (nI (L - H i - US i)) := by
      unfold f_X0_blankLinesOf
      rw [gd_t (xin_nI (by omega) (by decide)), gd_t (xin_nI (by omega) (by decide)), clN (by omega), h1, h2, pk_sub (by omega), pk_sub (by omega)]
    rw [L_X0_blankLines_4_s, if_neg (nI_ge (by omega) (by omega)), bd_eq ex, nI_1, nI_add]
    exact blank_loop (K1 := K1) hP h d f1 (i + 1) (by omega) (by omega)
theorem x_blank {L P : Nat} (hP : P ≤ 300) {H US : Nat → Nat} {fd hl : Nat → Int32} (h : ∀ p, p < P → fd p = nI (US p) ∧ hl p = nI (H p) ∧ H p + US p ≤ L) : f_X0_blankLines (nI P) (nI L) fd hl = some (nI (sumN (fun p => L - H p - US p) P)) := by
  have hF := FU_big
  exact blank_loop (K1 := fun (i2_4 : Int32) (i1_4 : Int32) => some i1_4) hP h P FU 0 (by omega) (by omega)
theorem lines_loop {K1 : Int32 → Int32 → Option Int32} {N : Nat} (hN : N ≤ 30) {G : Nat → Nat} {ln : Nat → Int32} (h : ∀ e, e < N → ln e = nI (G e)) : ∀ (d f1 i : Nat), i + d = N → d < f1 →
    L_X1_linesOfAll_4 K1 (nI N) ln f1 (nI i) (nI (sumN G i)) = K1 (nI N) (nI (sumN G N))
  | _, 0, _, _, hf => absurd hf (by omega)
  | 0, f1 + 1, i, hi, _ => by
    rw [L_X1_linesOfAll_4_s, if_pos (nI_le (by omega) (by omega)), show i = N by omega]
  | d + 1, f1 + 1, i, hi, hf1 => by
    rw [L_X1_linesOfAll_4_s, if_neg (nI_ge (by omega) (by omega)), gd_t (xin_nI (by omega) (by decide)), clN (by omega), h i (by omega), nI_1, nI_add]
    exact lines_loop (K1 := K1) hN h d f1 (i + 1) (by omega) (by omega)
theorem x_lines {N : Nat} (hN : N ≤ 30) {G : Nat → Nat} {ln : Nat → Int32} (h : ∀ e, e < N → ln e = nI (G e)) : f_X1_linesOfAll (nI N) ln = some (nI (sumN G N)) := by
  have hF := FU_big
  exact lines_loop (K1 := fun (i2_4 : Int32) (i1_4 : Int32) => some i1_4) hN h N FU 0 (by omega) (by omega)
theorem sumN_s (f : Nat → Nat) (n : Nat) : sumN f (n + 1) = sumN f n + f n := rfl
theorem nobeg_loop {K1 : Int32 → Int32 → Option Int32} {P : Nat} (hP : P ≤ 300) {BG : Nat → Nat} {bg : Nat → Int32} (h : ∀ p, p < P → bg p = nI (BG p) ∧ BG p ≤ 40) : ∀ (d f1 i : Nat), i + d = P → d < f1 →
    L_X0_pagesWithoutBegin_4 K1 (nI P) bg f1 (nI i) (nI (sumN (fun p => if BG p = 0 then 1 else 0) i)) = K1 (nI P) (nI (sumN (fun p => if BG p = 0 then 1 else 0) P))
  | _, 0, _, _, hf => absurd hf (by omega)
  | 0, f1 + 1, i, hi, _ => by
    rw [L_X0_pagesWithoutBegin_4_s, if_pos (nI_le (by omega) (by omega)), show i = P by omega]
  | d + 1, f1 + 1, i, hi, hf1 => by
    obtain ⟨h1, h2⟩ := h i (by omega)
    have ih := nobeg_loop (K1 := K1) hP h d f1 (i + 1) (by omega) (by omega)
    rw [sumN_s] at ih
    rw [L_X0_pagesWithoutBegin_4_s, if_neg (nI_ge (by omega) (by omega)), gd_t (xin_nI (by omega) (by decide)), clN (by omega), h1, nI_1]
    by_cases q : BG i = 0
    · rw [if_pos q] at ih
      rw [if_pos (show nI (BG i) = (0 : Int32) by rw [q]; rfl), nI_1]
      exact ih
    · rw [if_neg q, Nat.add_zero] at ih
      rw [if_neg (show ¬ nI (BG i) = (0 : Int32) from nI_ne0 (by omega) (by omega))]
      exact ih
theorem x_nobeg {P : Nat} (hP : P ≤ 300) {BG : Nat → Nat} {bg : Nat → Int32} (h : ∀ p, p < P → bg p = nI (BG p) ∧ BG p ≤ 40) : f_X0_pagesWithoutBegin (nI P) bg = some (nI (sumN (fun p => if BG p = 0 then 1 else 0) P)) := by
  have hF := FU_big
  exact nobeg_loop (K1 := fun (i2_4 : Int32) (i1_4 : Int32) => some i1_4) hP h P FU 0 (by omega) (by omega)
theorem parted_loop {K1 : Int32 → Int32 → Option Int32} {N : Nat} (hN : N ≤ 30) {BP EP : Nat → Nat} {bp ep : Nat → Int32} (h : ∀ e, e < N → bp e = nI (BP e) ∧ ep e = nI (EP e) ∧ BP e ≤ EP e ∧ EP e < 300) : ∀ (d f1 i : Nat), i + d = N → d < f1 →
    L_X0_partedEntries_4 K1 (nI N) bp ep f1 (nI i) (nI (sumN (fun e => if EP e ≤ BP e then 0 else 1) i)) = K1 (nI N) (nI (sumN (fun e => if EP e ≤ BP e then 0 else 1) N))
  | _, 0, _, _, hf => absurd hf (by omega)
  | 0, f1 + 1, i, hi, _ => by
    rw [L_X0_partedEntries_4_s, if_pos (nI_le (by omega) (by omega)), show i = N by omega]
  | d + 1, f1 + 1, i, hi, hf1 => by
    obtain ⟨h1, h2, h6, h7⟩ := h i (by omega)
    have ex : f_X0_pagesOf bp ep (nI i) = some (nI (EP i - BP i + 1)) := by
      unfold f_X0_pagesOf
      rw [gd_t (xin_nI (by omega) (by decide)), gd_t (xin_nI (by omega) (by decide)), clN (by omega), h1, h2, pk_sub h6, nI_1]
    have ih := parted_loop (K1 := K1) hN h d f1 (i + 1) (by omega) (by omega)
    rw [sumN_s] at ih
    rw [L_X0_partedEntries_4_s, if_neg (nI_ge (by omega) (by omega)), bd_eq ex, nI_1]
    by_cases q : EP i ≤ BP i
    · rw [if_pos q, Nat.add_zero] at ih
      rw [if_pos (show nI (EP i - BP i + 1) ≤ (1 : Int32) from nI_le (b := 1) (by omega) (by decide))]
      exact ih
    · rw [if_neg q] at ih
      rw [if_neg (show ¬ nI (EP i - BP i + 1) ≤ (1 : Int32) from nI_ge (a := 1) (by omega) (by omega)), nI_1]
      exact ih
theorem x_parted {N : Nat} (hN : N ≤ 30) {BP EP : Nat → Nat} {bp ep : Nat → Int32} (h : ∀ e, e < N → bp e = nI (BP e) ∧ ep e = nI (EP e) ∧ BP e ≤ EP e ∧ EP e < 300) : f_X0_partedEntries bp ep (nI N) = some (nI (sumN (fun e => if EP e ≤ BP e then 0 else 1) N)) := by
  have hF := FU_big
  exact parted_loop (K1 := fun (i2_4 : Int32) (i1_4 : Int32) => some i1_4) hN h N FU 0 (by omega) (by omega)
theorem wide_loop {K1 : Int32 → Int32 → Option Int32} {P : Nat} (hP : P ≤ 300) {H : Nat → Nat} (hH : ∀ p, H p = 1 ∨ H p = 2) {hl : Nat → Int32} (h : ∀ p, p < P → hl p = nI (H p)) : ∀ (d f1 i : Nat), i + d = P → d < f1 →
    L_X0_headsOfTwoLines_4 K1 (nI P) hl f1 (nI i) (nI (sumN (fun p => if H p = 2 then 1 else 0) i)) = K1 (nI P) (nI (sumN (fun p => if H p = 2 then 1 else 0) P))
  | _, 0, _, _, hf => absurd hf (by omega)
  | 0, f1 + 1, i, hi, _ => by
    rw [L_X0_headsOfTwoLines_4_s, if_pos (nI_le (by omega) (by omega)), show i = P by omega]
  | d + 1, f1 + 1, i, hi, hf1 => by
    have ih := wide_loop (K1 := K1) hP hH h d f1 (i + 1) (by omega) (by omega)
    rw [sumN_s] at ih
    rw [L_X0_headsOfTwoLines_4_s, if_neg (nI_ge (by omega) (by omega)), gd_t (xin_nI (by omega) (by decide)), clN (by omega), h i (by omega), nI_1]
    rcases hH i with q | q
    · rw [q, if_neg (by decide), Nat.add_zero] at ih
      rw [q, if_neg (by decide)]
      exact ih
    · rw [q, if_pos rfl] at ih
      rw [q, if_pos (by decide), nI_1]
      exact ih
theorem x_wide {P : Nat} (hP : P ≤ 300) {H : Nat → Nat} (hH : ∀ p, H p = 1 ∨ H p = 2) {hl : Nat → Int32} (h : ∀ p, p < P → hl p = nI (H p)) : f_X0_headsOfTwoLines (nI P) hl = some (nI (sumN (fun p => if H p = 2 then 1 else 0) P)) := by
  have hF := FU_big
  exact wide_loop (K1 := fun (i2_4 : Int32) (i1_4 : Int32) => some i1_4) hP hH h P FU 0 (by omega) (by omega)
theorem x_folds {P : Nat} (hP : P ≤ 300) : f_X0_folds (nI P) = nI ((P + 1) / 2) := by
  unfold f_X0_folds
  rw [nI_1, show (2 : Int32) = nI 2 by rfl]
  exact pk_div (by omega) (by decide) (by decide)
theorem q_count {l : LexT} {pg ps s lop : Int32} {bp bl ep fi la bg fd hl : Nat → Int32} {n : Int32} {st ln : Nat → Int32} {wd : Nat → Int64} (h : XNow l pg ps s lop bp bl ep fi la bg fd hl n st ln wd) (q h6 : Nat) (i1 : Int32) :
    f_X5_count pg ps s lop bp ep bg fd hl n st ln (nI q) (nI h6) i1 = some (aCountL l q h6 i1) := by
  obtain ⟨⟨ok, rfl, hst, hx⟩, epg, eps, es, rfl, hX⟩ := h
  have epg : pg = nI (tP (yT l)) := epg
  have eps : ps = nI (yI l) := eps
  have es : s = nI (yZ l) := es
  subst epg eps es
  have hX : XLs (zN l) (zN l) (yH l) (yT l) bp bl ep fi la bg fd hl := hX
  have hN := ok.2.1
  have hs := (lay_s ok).2.2.1
  have hP := (lay_s ok).2.1
  have hH := (lay_s ok).1
  have hz : yZ l = 0 ∨ yZ l = 1 := by
    rw [(lay_s ok).2.2.2.2.1]
    unfold sameN
    split
    · exact Or.inr rfl
    · exact Or.inl rfl
  have a7 := x_blank (L := zS l 0) (P := tP (yT l)) (by omega) (H := yH l) (US := tUS (yT l)) (fd := fd) (hl := hl) (fun p hp => ⟨(hX.1 p hp).2.2.2.1, (hX.1 p hp).2.2.2.2, (hs.2.1 p hp).2⟩)
  have a6 := x_lines hN (ln := ln) (G := zG l) (fun e he => (hx e he).1)
  have a10 := x_nobeg (P := tP (yT l)) (by omega) (bg := bg) (BG := tBG (yT l)) (fun p hp => ⟨(hX.1 p hp).2.2.1, by obtain ⟨c1, c2, c3, c4⟩ := hs.2.2.1 p hp; omega⟩)
  have a11 := x_parted hN (bp := bp) (ep := ep) (BP := tBP (yT l)) (EP := tEP (yT l)) (fun e he => ⟨(hX.2.1 e he).1, hX.2.2 e he, (hs.2.2.2.1 e he).1, by have := hs.2.2.2.1 e he; omega⟩)
  have a12 := x_wide (P := tP (yT l)) (by omega) hH (hl := hl) (fun p hp => (hX.1 p hp).2.2.2.2)
  unfold f_X5_count
  rcases sg_cases i1 with hneg | ⟨k, hk, rfl⟩
  · have e4 : i1 < (4 : Int32) := (i32_ltnI (n := 4) (by decide)).mpr (by rw [i32_neg] at hneg; omega)
    rw [if_pos hneg, aC_out (Or.inl (by rw [i32_neg] at hneg; exact hneg))]
    unfold f_X5_countOfPages
    rw [if_pos e4]
    rfl
  · by_cases hq : 14 < k
    · have e0 : ¬ nI k < (0 : Int32) := nI_nlt (a := k) (b := 0) (by omega) hk
      have e14 : (14 : Int32) < nI k := nI_lt (a := 14) hq hk
      rw [if_neg e0, if_pos e14, aC_out (Or.inr (by rw [nI_toInt hk]; omega))]
      unfold f_X5_countOfPages
      rw [if_neg (show ¬ nI k < (4 : Int32) from nI_nlt (a := k) (b := 4) (by omega) hk), if_pos (show (12 : Int32) < nI k from nI_lt (a := 12) (by omega) hk)]
      rfl
    · rw [aC_in (by omega)]
      rcases (show k = 0 ∨ k = 1 ∨ k = 2 ∨ k = 3 ∨ k = 4 ∨ k = 5 ∨ k = 6 ∨ k = 7 ∨ k = 8 ∨ k = 9 ∨ k = 10 ∨ k = 11 ∨ k = 12 ∨ k = 13 ∨ k = 14 by omega) with rfl | rfl | rfl | rfl | rfl | rfl | rfl | rfl | rfl | rfl | rfl | rfl | rfl | rfl | rfl
      · rw [if_neg (show ¬ nI 0 < (0 : Int32) by decide), if_neg (show ¬ (14 : Int32) < nI 0 by decide), if_pos (show nI 0 = (0 : Int32) by decide), gd_t (xin_nI (by omega) (by decide)), clN (by omega), hst 0 (by omega)]
        rfl
      · rw [if_neg (show ¬ nI 1 < (0 : Int32) by decide), if_neg (show ¬ (14 : Int32) < nI 1 by decide), if_neg (show ¬ nI 1 = (0 : Int32) by decide), if_pos (show nI 1 = (1 : Int32) by decide), gd_t (xin_nI (by omega) (by decide)), clN (by omega), hst 1 (by omega)]
        rfl
      · rw [if_neg (show ¬ nI 2 < (0 : Int32) by decide), if_neg (show ¬ (14 : Int32) < nI 2 by decide), if_neg (show ¬ nI 2 = (0 : Int32) by decide), if_neg (show ¬ nI 2 = (1 : Int32) by decide), if_pos (show nI 2 = (2 : Int32) by decide), gd_t (xin_nI (by omega) (by decide)), clN (by omega), hst 2 (by omega)]
        rfl
      · rw [if_neg (show ¬ nI 3 < (0 : Int32) by decide), if_neg (show ¬ (14 : Int32) < nI 3 by decide), if_neg (show ¬ nI 3 = (0 : Int32) by decide), if_neg (show ¬ nI 3 = (1 : Int32) by decide), if_neg (show ¬ nI 3 = (2 : Int32) by decide), if_pos (show nI 3 = (3 : Int32) by decide)]
        rfl
      · have ec : f_X5_countOfPages (nI (tP (yT l))) (nI (yI l)) (nI (yZ l)) (nI (zS l 0)) bp ep bg fd hl (nI (zN l)) (nI 4) = some (nI (tP (yT l))) := by
          unfold f_X5_countOfPages
          rw [if_neg (show ¬ nI 4 < (4 : Int32) by decide), if_neg (show ¬ (12 : Int32) < nI 4 by decide), if_pos (show nI 4 = (4 : Int32) by decide)]
        rw [if_neg (show ¬ nI 4 < (0 : Int32) by decide), if_neg (show ¬ (14 : Int32) < nI 4 by decide), if_neg (show ¬ nI 4 = (0 : Int32) by decide), if_neg (show ¬ nI 4 = (1 : Int32) by decide), if_neg (show ¬ nI 4 = (2 : Int32) by decide), if_neg (show ¬ nI 4 = (3 : Int32) by decide), if_pos (show nI 4 = (4 : Int32) by decide), bd_eq ec]
        rfl
      · have ec : f_X5_countOfPages (nI (tP (yT l))) (nI (yI l)) (nI (yZ l)) (nI (zS l 0)) bp ep bg fd hl (nI (zN l)) (nI 5) = some (nI ((tP (yT l) + 1) / 2)) := by
          unfold f_X5_countOfPages
          rw [if_neg (show ¬ nI 5 < (4 : Int32) by decide), if_neg (show ¬ (12 : Int32) < nI 5 by decide), if_neg (show ¬ nI 5 = (4 : Int32) by decide), if_pos (show nI 5 = (5 : Int32) by decide), x_folds (by omega)]
        rw [if_neg (show ¬ nI 5 < (0 : Int32) by decide), if_neg (show ¬ (14 : Int32) < nI 5 by decide), if_neg (show ¬ nI 5 = (0 : Int32) by decide), if_neg (show ¬ nI 5 = (1 : Int32) by decide), if_neg (show ¬ nI 5 = (2 : Int32) by decide), if_neg (show ¬ nI 5 = (3 : Int32) by decide), if_neg (show ¬ nI 5 = (4 : Int32) by decide), if_pos (show nI 5 = (5 : Int32) by decide), bd_eq ec]
        rfl
      · rw [if_neg (show ¬ nI 6 < (0 : Int32) by decide), if_neg (show ¬ (14 : Int32) < nI 6 by decide), if_neg (show ¬ nI 6 = (0 : Int32) by decide), if_neg (show ¬ nI 6 = (1 : Int32) by decide), if_neg (show ¬ nI 6 = (2 : Int32) by decide), if_neg (show ¬ nI 6 = (3 : Int32) by decide), if_neg (show ¬ nI 6 = (4 : Int32) by decide), if_neg (show ¬ nI 6 = (5 : Int32) by decide), if_pos (show nI 6 = (6 : Int32) by decide), bd_eq a6]
        rfl
      · have ec : f_X5_countOfPages (nI (tP (yT l))) (nI (yI l)) (nI (yZ l)) (nI (zS l 0)) bp ep bg fd hl (nI (zN l)) (nI 7) = some (nI (sumN (fun p => zS l 0 - yH l p - tUS (yT l) p) (tP (yT l)))) := by
          unfold f_X5_countOfPages
          rw [if_neg (show ¬ nI 7 < (4 : Int32) by decide), if_neg (show ¬ (12 : Int32) < nI 7 by decide), if_neg (show ¬ nI 7 = (4 : Int32) by decide), if_neg (show ¬ nI 7 = (5 : Int32) by decide), if_neg (show ¬ nI 7 = (6 : Int32) by decide), if_pos (show nI 7 = (7 : Int32) by decide), bd_eq a7]
        rw [if_neg (show ¬ nI 7 < (0 : Int32) by decide), if_neg (show ¬ (14 : Int32) < nI 7 by decide), if_neg (show ¬ nI 7 = (0 : Int32) by decide), if_neg (show ¬ nI 7 = (1 : Int32) by decide), if_neg (show ¬ nI 7 = (2 : Int32) by decide), if_neg (show ¬ nI 7 = (3 : Int32) by decide), if_neg (show ¬ nI 7 = (4 : Int32) by decide), if_neg (show ¬ nI 7 = (5 : Int32) by decide), if_neg (show ¬ nI 7 = (6 : Int32) by decide), if_pos (show nI 7 = (7 : Int32) by decide), bd_eq ec]
        rfl
      · have ec : f_X5_countOfPages (nI (tP (yT l))) (nI (yI l)) (nI (yZ l)) (nI (zS l 0)) bp ep bg fd hl (nI (zN l)) (nI 8) = some (nI (yI l)) := by
          unfold f_X5_countOfPages
          rw [if_neg (show ¬ nI 8 < (4 : Int32) by decide), if_neg (show ¬ (12 : Int32) < nI 8 by decide), if_neg (show ¬ nI 8 = (4 : Int32) by decide), if_neg (show ¬ nI 8 = (5 : Int32) by decide), if_neg (show ¬ nI 8 = (6 : Int32) by decide), if_neg (show ¬ nI 8 = (7 : Int32) by decide), if_pos (show nI 8 = (8 : Int32) by decide)]
        rw [if_neg (show ¬ nI 8 < (0 : Int32) by decide), if_neg (show ¬ (14 : Int32) < nI 8 by decide), if_neg (show ¬ nI 8 = (0 : Int32) by decide), if_neg (show ¬ nI 8 = (1 : Int32) by decide), if_neg (show ¬ nI 8 = (2 : Int32) by decide), if_neg (show ¬ nI 8 = (3 : Int32) by decide), if_neg (show ¬ nI 8 = (4 : Int32) by decide), if_neg (show ¬ nI 8 = (5 : Int32) by decide), if_neg (show ¬ nI 8 = (6 : Int32) by decide), if_neg (show ¬ nI 8 = (7 : Int32) by decide), if_pos (show nI 8 = (8 : Int32) by decide), bd_eq ec]
        rfl
      · have ec : f_X5_countOfPages (nI (tP (yT l))) (nI (yI l)) (nI (yZ l)) (nI (zS l 0)) bp ep bg fd hl (nI (zN l)) (nI 9) = some (nI (yZ l)) := by
          unfold f_X5_countOfPages
          rw [if_neg (show ¬ nI 9 < (4 : Int32) by decide), if_neg (show ¬ (12 : Int32) < nI 9 by decide), if_neg (show ¬ nI 9 = (4 : Int32) by decide), if_neg (show ¬ nI 9 = (5 : Int32) by decide), if_neg (show ¬ nI 9 = (6 : Int32) by decide), if_neg (show ¬ nI 9 = (7 : Int32) by decide), if_neg (show ¬ nI 9 = (8 : Int32) by decide), if_pos (show nI 9 = (9 : Int32) by decide)]
          rcases hz with hz | hz
          · rw [hz, if_pos (by decide)]
            rfl
          · rw [hz, if_neg (by decide)]
            rfl
        rw [if_neg (show ¬ nI 9 < (0 : Int32) by decide), if_neg (show ¬ (14 : Int32) < nI 9 by decide), if_neg (show ¬ nI 9 = (0 : Int32) by decide), if_neg (show ¬ nI 9 = (1 : Int32) by decide), if_neg (show ¬ nI 9 = (2 : Int32) by decide), if_neg (show ¬ nI 9 = (3 : Int32) by decide), if_neg (show ¬ nI 9 = (4 : Int32) by decide), if_neg (show ¬ nI 9 = (5 : Int32) by decide), if_neg (show ¬ nI 9 = (6 : Int32) by decide), if_neg (show ¬ nI 9 = (7 : Int32) by decide), if_neg (show ¬ nI 9 = (8 : Int32) by decide), if_pos (show nI 9 = (9 : Int32) by decide), bd_eq ec]
        rfl
      · have ec : f_X5_countOfPages (nI (tP (yT l))) (nI (yI l)) (nI (yZ l)) (nI (zS l 0)) bp ep bg fd hl (nI (zN l)) (nI 10) = some (nI (sumN (fun p => if tBG (yT l) p = 0 then 1 else 0) (tP (yT l)))) := by
          unfold f_X5_countOfPages
          rw [if_neg (show ¬ nI 10 < (4 : Int32) by decide), if_neg (show ¬ (12 : Int32) < nI 10 by decide), if_neg (show ¬ nI 10 = (4 : Int32) by decide), if_neg (show ¬ nI 10 = (5 : Int32) by decide), if_neg (show ¬ nI 10 = (6 : Int32) by decide), if_neg (show ¬ nI 10 = (7 : Int32) by decide), if_neg (show ¬ nI 10 = (8 : Int32) by decide), if_neg (show ¬ nI 10 = (9 : Int32) by decide), if_pos (show nI 10 = (10 : Int32) by decide), bd_eq a10]
        rw [if_neg (show ¬ nI 10 < (0 : Int32) by decide), if_neg (show ¬ (14 : Int32) < nI 10 by decide), if_neg (show ¬ nI 10 = (0 : Int32) by decide), if_neg (show ¬ nI 10 = (1 : Int32) by decide), if_neg (show ¬ nI 10 = (2 : Int32) by decide), if_neg (show ¬ nI 10 = (3 : Int32) by decide), if_neg (show ¬ nI 10 = (4 : Int32) by decide), if_neg (show ¬ nI 10 = (5 : Int32) by decide), if_neg (show ¬ nI 10 = (6 : Int32) by decide), if_neg (show ¬ nI 10 = (7 : Int32) by decide), if_neg (show ¬ nI 10 = (8 : Int32) by decide), if_neg (show ¬ nI 10 = (9 : Int32) by decide), if_pos (show nI 10 = (10 : Int32) by decide), bd_eq ec]
        rfl
      · have ec : f_X5_countOfPages (nI (tP (yT l))) (nI (yI l)) (nI (yZ l)) (nI (zS l 0)) bp ep bg fd hl (nI (zN l)) (nI 11) = some (nI (sumN (fun e => if tEP (yT l) e ≤ tBP (yT l) e then 0 else 1) (zN l))) := by
          unfold f_X5_countOfPages
          rw [if_neg (show ¬ nI 11 < (4 : Int32) by decide), if_neg (show ¬ (12 : Int32) < nI 11 by decide), if_neg (show ¬ nI 11 = (4 : Int32) by decide), if_neg (show ¬ nI 11 = (5 : Int32) by decide), if_neg (show ¬ nI 11 = (6 : Int32) by decide), if_neg (show ¬ nI 11 = (7 : Int32) by decide), if_neg (show ¬ nI 11 = (8 : Int32) by decide), if_neg (show ¬ nI 11 = (9 : Int32) by decide), if_neg (show ¬ nI 11 = (10 : Int32) by decide), if_pos (show nI 11 = (11 : Int32) by decide), bd_eq a11]
        rw [if_neg (show ¬ nI 11 < (0 : Int32) by decide), if_neg (show ¬ (14 : Int32) < nI 11 by decide), if_neg (show ¬ nI 11 = (0 : Int32) by decide), if_neg (show ¬ nI 11 = (1 : Int32) by decide), if_neg (show ¬ nI 11 = (2 : Int32) by decide), if_neg (show ¬ nI 11 = (3 : Int32) by decide), if_neg (show ¬ nI 11 = (4 : Int32) by decide), if_neg (show ¬ nI 11 = (5 : Int32) by decide), if_neg (show ¬ nI 11 = (6 : Int32) by decide), if_neg (show ¬ nI 11 = (7 : Int32) by decide), if_neg (show ¬ nI 11 = (8 : Int32) by decide), if_neg (show ¬ nI 11 = (9 : Int32) by decide), if_neg (show ¬ nI 11 = (10 : Int32) by decide), if_pos (show nI 11 = (11 : Int32) by decide), bd_eq ec]
        rfl
      · have ec : f_X5_countOfPages (nI (tP (yT l))) (nI (yI l)) (nI (yZ l)) (nI (zS l 0)) bp ep bg fd hl (nI (zN l)) (nI 12) = some (nI (sumN (fun p => if yH l p = 2 then 1 else 0) (tP (yT l)))) := by
          unfold f_X5_countOfPages
          rw [if_neg (show ¬ nI 12 < (4 : Int32) by decide), if_neg (show ¬ (12 : Int32) < nI 12 by decide), if_neg (show ¬ nI 12 = (4 : Int32) by decide), if_neg (show ¬ nI 12 = (5 : Int32) by decide), if_neg (show ¬ nI 12 = (6 : Int32) by decide), if_neg (show ¬ nI 12 = (7 : Int32) by decide), if_neg (show ¬ nI 12 = (8 : Int32) by decide), if_neg (show ¬ nI 12 = (9 : Int32) by decide), if_neg (show ¬ nI 12 = (10 : Int32) by decide), if_neg (show ¬ nI 12 = (11 : Int32) by decide), bd_eq a12]
        rw [if_neg (show ¬ nI 12 < (0 : Int32) by decide), if_neg (show ¬ (14 : Int32) < nI 12 by decide), if_neg (show ¬ nI 12 = (0 : Int32) by decide), if_neg (show ¬ nI 12 = (1 : Int32) by decide), if_neg (show ¬ nI 12 = (2 : Int32) by decide), if_neg (show ¬ nI 12 = (3 : Int32) by decide), if_neg (show ¬ nI 12 = (4 : Int32) by decide), if_neg (show ¬ nI 12 = (5 : Int32) by decide), if_neg (show ¬ nI 12 = (6 : Int32) by decide), if_neg (show ¬ nI 12 = (7 : Int32) by decide), if_neg (show ¬ nI 12 = (8 : Int32) by decide), if_neg (show ¬ nI 12 = (9 : Int32) by decide), if_neg (show ¬ nI 12 = (10 : Int32) by decide), if_neg (show ¬ nI 12 = (11 : Int32) by decide), if_pos (show nI 12 = (12 : Int32) by decide), bd_eq ec]
        rfl
      · rw [if_neg (show ¬ nI 13 < (0 : Int32) by decide), if_neg (show ¬ (14 : Int32) < nI 13 by decide), if_neg (show ¬ nI 13 = (0 : Int32) by decide), if_neg (show ¬ nI 13 = (1 : Int32) by decide), if_neg (show ¬ nI 13 = (2 : Int32) by decide), if_neg (show ¬ nI 13 = (3 : Int32) by decide), if_neg (show ¬ nI 13 = (4 : Int32) by decide), if_neg (show ¬ nI 13 = (5 : Int32) by decide), if_neg (show ¬ nI 13 = (6 : Int32) by decide), if_neg (show ¬ nI 13 = (7 : Int32) by decide), if_neg (show ¬ nI 13 = (8 : Int32) by decide), if_neg (show ¬ nI 13 = (9 : Int32) by decide), if_neg (show ¬ nI 13 = (10 : Int32) by decide), if_neg (show ¬ nI 13 = (11 : Int32) by decide), if_neg (show ¬ nI 13 = (12 : Int32) by decide), if_pos (show nI 13 = (13 : Int32) by decide)]
        rfl
      · rw [if_neg (show ¬ nI 14 < (0 : Int32) by decide), if_neg (show ¬ (14 : Int32) < nI 14 by decide), if_neg (show ¬ nI 14 = (0 : Int32) by decide), if_neg (show ¬ nI 14 = (1 : Int32) by decide), if_neg (show ¬ nI 14 = (2 : Int32) by decide), if_neg (show ¬ nI 14 = (3 : Int32) by decide), if_neg (show ¬ nI 14 = (4 : Int32) by decide), if_neg (show ¬ nI 14 = (5 : Int32) by decide), if_neg (show ¬ nI 14 = (6 : Int32) by decide), if_neg (show ¬ nI 14 = (7 : Int32) by decide), if_neg (show ¬ nI 14 = (8 : Int32) by decide), if_neg (show ¬ nI 14 = (9 : Int32) by decide), if_neg (show ¬ nI 14 = (10 : Int32) by decide), if_neg (show ¬ nI 14 = (11 : Int32) by decide), if_neg (show ¬ nI 14 = (12 : Int32) by decide), if_neg (show ¬ nI 14 = (13 : Int32) by decide)]
        rfl
