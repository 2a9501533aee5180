/-! sums over pages and entries, on both sides -/
theorem blank_loop {K1 K2 : Int32 → Int32 → Option Int32} {L P : Nat} (hL : L ≤ 40) (hP : P ≤ 300) {H US : Nat → Nat} {z : Nat → Int64} (hz : z 0 = lN L) {fd hl hd us : Nat → Int32} (h : ∀ p, p < P → fd p = nI (US p) ∧ hl p = nI (H p) ∧ us p = nI (US p) ∧ H p ≤ L) (hh : ∀ p, p < 400 → hd p = nI (H p)) : ∀ (d f1 f2 i : Nat) (c : Int32), i + d = P → d < f1 → d < f2 →
    ∃ c', L_X0_blankLines_4 K1 (nI P) (nI L) fd hl f1 (nI i) c = K1 (nI P) c' ∧ L_X6_blanks_4 K2 (nI P) z hd us f2 (nI i) c = K2 (nI P) c'
  | _, 0, _, _, _, _, hf, _ => absurd hf (by omega)
  | _, _, 0, _, _, _, _, hf => absurd hf (by omega)
  | 0, f1 + 1, f2 + 1, i, c, hi, _, _ => by
    refine ⟨c, ?_, ?_⟩
    · rw [L_X0_blankLines_4_s, if_pos (nI_le (by omega) (by omega)), show i = P by omega]
    · rw [L_X6_blanks_4_s, if_pos (nI_le (by omega) (by omega)), show i = P by omega]
  | d + 1, f1 + 1, f2 + 1, i, c, hi, hf1, hf2 => by
    obtain ⟨h1, h2, h3, h4⟩ := h i (by omega)
    obtain ⟨c', e1, e2⟩ := blank_loop (K1 := K1) (K2 := K2) hL hP hz h hh d f1 f2 (i + 1) (c + (nI (L - H i) - nI (US i))) (by omega) (by omega) (by omega)
    have ex : f_X0_blankLinesOf (nI L) fd hl (nI i) = some (nI (L - H i) - nI (US i)) := by
      unfold f_X0_blankLinesOf
      rw [gd_t (xin_nI (by omega) (by decide)), gd_t (xin_nI (by omega) (by decide)), clN (by omega), h1, h2, pk_sub h4]
    refine ⟨c', ?_, ?_⟩
    · rw [L_X0_blankLines_4_s, if_neg (nI_ge (by omega) (by omega)), bd_eq ex, nI_1, e1]
    · rw [L_X6_blanks_4_s, if_neg (nI_ge (by omega) (by omega)), bd_eq (m_room (by omega) hL hz hh h4), gd_t (xin_nI (by omega) (by decide)), clN (by omega), h3, nI_1, e2]
theorem blank_both {L P : Nat} (hL : L ≤ 40) (hP : P ≤ 300) {H US : Nat → Nat} {z : Nat → Int64} (hz : z 0 = lN L) {fd hl hd us : Nat → Int32} (h : ∀ p, p < P → fd p = nI (US p) ∧ hl p = nI (H p) ∧ us p = nI (US p) ∧ H p ≤ L) (hh : ∀ p, p < 400 → hd p = nI (H p)) :
    ∃ c, f_X0_blankLines (nI P) (nI L) fd hl = some c ∧ f_X6_blanks (nI P) z hd us = some c := by
  have hF := FU_big
  obtain ⟨c, e1, e2⟩ := blank_loop (K1 := fun (i2_4 : Int32) (i1_4 : Int32) => some i1_4) (K2 := fun (i2_4 : Int32) (i1_4 : Int32) => some i1_4) hL hP hz h hh P FU FU 0 0 (by omega) (by omega) (by omega)
  exact ⟨c, e1, e2⟩
theorem lines_loop {K1 K2 : Int32 → Int32 → Option Int32} {N : Nat} (hN : N ≤ 30) {G : Nat → Nat} {z : Nat → Int64} (h3 : z 3 = lN N) {ln : Nat → Int32} (h : ∀ e, e < N → ln e = nI (G e) ∧ z (34 + e) = lN (G e)) : ∀ (d f1 f2 i : Nat) (c : Int32), i + d = N → d < f1 → d < f2 →
    ∃ c', L_X1_linesOfAll_4 K1 (nI N) ln f1 (nI i) c = K1 (nI N) c' ∧ L_X6_allLines_4 K2 z f2 (nI i) c = K2 (nI N) c'
  | _, 0, _, _, _, _, hf, _ => absurd hf (by omega)
  | _, _, 0, _, _, _, _, hf => absurd hf (by omega)
  | 0, f1 + 1, f2 + 1, i, c, hi, _, _ => by
    refine ⟨c, ?_, ?_⟩
    · rw [L_X1_linesOfAll_4_s, if_pos (nI_le (by omega) (by omega)), show i = N by omega]
    · rw [L_X6_allLines_4_s, m_many h3, if_pos (nI_le (by omega) (by omega)), show i = N by omega]
  | d + 1, f1 + 1, f2 + 1, i, c, hi, hf1, hf2 => by
    obtain ⟨h1, h2⟩ := h i (by omega)
    obtain ⟨c', e1, e2⟩ := lines_loop (K1 := K1) (K2 := K2) hN h3 h d f1 f2 (i + 1) (c + nI (G i)) (by omega) (by omega) (by omega)
    refine ⟨c', ?_, ?_⟩
    · rw [L_X1_linesOfAll_4_s, if_neg (nI_ge (by omega) (by omega)), gd_t (xin_nI (by omega) (by decide)), clN (by omega), h1, nI_1, e1]
    · rw [L_X6_allLines_4_s, m_many h3, if_neg (nI_ge (by omega) (by omega)), bd_eq (m_lines (by omega) h2), nI_1, e2]
theorem lines_both {N : Nat} (hN : N ≤ 30) {G : Nat → Nat} {z : Nat → Int64} (h3 : z 3 = lN N) {ln : Nat → Int32} (h : ∀ e, e < N → ln e = nI (G e) ∧ z (34 + e) = lN (G e)) : ∃ c, f_X1_linesOfAll (nI N) ln = some c ∧ f_X6_allLines z = some c := by
  have hF := FU_big
  obtain ⟨c, e1, e2⟩ := lines_loop (K1 := fun (i2_4 : Int32) (i1_4 : Int32) => some i1_4) (K2 := fun (i2_4 : Int32) (i1_4 : Int32) => some i1_4) hN h3 h N FU FU 0 0 (by omega) (by omega) (by omega)
  exact ⟨c, e1, e2⟩
theorem nobeg_loop {K1 K2 : Int32 → Int32 → Option Int32} {P : Nat} (hP : P ≤ 300) {BG : Nat → Nat} {z : Nat → Int64} {bg bps : Nat → Int32} (h : ∀ p, p < P → bg p = nI (BG p) ∧ f_X6_begun z bps (nI p) = some (nI (BG p))) : ∀ (d f1 f2 i : Nat) (c : Int32), i + d = P → d < f1 → d < f2 →
    ∃ c', L_X0_pagesWithoutBegin_4 K1 (nI P) bg f1 (nI i) c = K1 (nI P) c' ∧ L_X6_pagesWithoutBegin_4 K2 (nI P) z bps f2 (nI i) c = K2 (nI P) c'
  | _, 0, _, _, _, _, hf, _ => absurd hf (by omega)
  | _, _, 0, _, _, _, _, hf => absurd hf (by omega)
  | 0, f1 + 1, f2 + 1, i, c, hi, _, _ => by
    refine ⟨c, ?_, ?_⟩
    · rw [L_X0_pagesWithoutBegin_4_s, if_pos (nI_le (by omega) (by omega)), show i = P by omega]
    · rw [L_X6_pagesWithoutBegin_4_s, if_pos (nI_le (by omega) (by omega)), show i = P by omega]
  | d + 1, f1 + 1, f2 + 1, i, c, hi, hf1, hf2 => by
    obtain ⟨h1, h2⟩ := h i (by omega)
    rw [L_X0_pagesWithoutBegin_4_s, if_neg (nI_ge (by omega) (by omega)), gd_t (xin_nI (by omega) (by decide)), clN (by omega), h1, nI_1, L_X6_pagesWithoutBegin_4_s, if_neg (nI_ge (by omega) (by omega)), bd_eq h2, nI_1]
    by_cases q : nI (BG i) = (0 : Int32)
    · rw [if_pos q, if_pos q]
      exact nobeg_loop (K1 := K1) (K2 := K2) hP h d f1 f2 (i + 1) (c + 1) (by omega) (by omega) (by omega)
    · rw [if_neg q, if_neg q, Int32.add_zero]
      exact nobeg_loop (K1 := K1) (K2 := K2) hP h d f1 f2 (i + 1) c (by omega) (by omega) (by omega)
theorem nobeg_both {P : Nat} (hP : P ≤ 300) {BG : Nat → Nat} {z : Nat → Int64} {bg bps : Nat → Int32} (h : ∀ p, p < P → bg p = nI (BG p) ∧ f_X6_begun z bps (nI p) = some (nI (BG p))) : ∃ c, f_X0_pagesWithoutBegin (nI P) bg = some c ∧ f_X6_pagesWithoutBegin (nI P) z bps = some c := by
  have hF := FU_big
  obtain ⟨c, e1, e2⟩ := nobeg_loop (K1 := fun (i2_4 : Int32) (i1_4 : Int32) => some i1_4) (K2 := fun (i2_4 : Int32) (i1_4 : Int32) => some i1_4) hP h P FU FU 0 0 (by omega) (by omega) (by omega)
  exact ⟨c, e1, e2⟩
theorem parted_loop {K1 K2 : Int32 → Int32 → Option Int32} {N : Nat} (hN : N ≤ 30) {BP EP : Nat → Nat} {z : Nat → Int64} (h3 : z 3 = lN N) {bp ep mbp mep : Nat → Int32} (h : ∀ e, e < N → bp e = nI (BP e) ∧ ep e = nI (EP e) ∧ mbp e = nI (BP e) ∧ mep e = nI (EP e) ∧ BP e ≤ EP e ∧ EP e < 300) : ∀ (d f1 f2 i : Nat) (c : Int32), i + d = N → d < f1 → d < f2 →
    ∃ c', L_X0_partedEntries_4 K1 (nI N) bp ep f1 (nI i) c = K1 (nI N) c' ∧ L_X6_parted_4 K2 z mbp mep f2 (nI i) c = K2 (nI N) c'
  | _, 0, _, _, _, _, hf, _ => absurd hf (by omega)
  | _, _, 0, _, _, _, _, hf => absurd hf (by omega)
  | 0, f1 + 1, f2 + 1, i, c, hi, _, _ => by
    refine ⟨c, ?_, ?_⟩
    · rw [L_X0_partedEntries_4_s, if_pos (nI_le (by omega) (by omega)), show i = N by omega]
    · rw [L_X6_parted_4_s, m_many h3, if_pos (nI_le (by omega) (by omega)), show i = N by omega]
  | d + 1, f1 + 1, f2 + 1, i, c, hi, hf1, hf2 => by
    obtain ⟨h1, h2, h4, h5, h6, h7⟩ := h i (by omega)
    have ex : f_X0_pagesOf bp ep (nI i) = some (nI (EP i - BP i + 1)) := by
      unfold f_X0_pagesOf
      rw [gd_t (xin_nI (by omega) (by decide)), gd_t (xin_nI (by omega) (by decide)), clN (by omega), h1, h2, pk_sub h6, nI_1]
    rw [L_X0_partedEntries_4_s, if_neg (nI_ge (by omega) (by omega)), bd_eq ex, nI_1, L_X6_parted_4_s, m_many h3, if_neg (nI_ge (by omega) (by omega)), gd_t (xin_nI (by omega) (by decide)), gd_t (xin_nI (by omega) (by decide)), clN (by omega), h4, h5, nI_1]
    by_cases q : EP i ≤ BP i
    · rw [if_pos (show nI (EP i - BP i + 1) ≤ (1 : Int32) from nI_le (b := 1) (by omega) (by decide)), if_pos (nI_le q (by omega)), Int32.add_zero]
      exact parted_loop (K1 := K1) (K2 := K2) hN h3 h d f1 f2 (i + 1) c (by omega) (by omega) (by omega)
    · rw [if_neg (show ¬ nI (EP i - BP i + 1) ≤ (1 : Int32) from nI_ge (a := 1) (by omega) (by omega)), if_neg (nI_ge (by omega) (by omega))]
      exact parted_loop (K1 := K1) (K2 := K2) hN h3 h d f1 f2 (i + 1) (c + 1) (by omega) (by omega) (by omega)
theorem parted_both {N : Nat} (hN : N ≤ 30) {BP EP : Nat → Nat} {z : Nat → Int64} (h3 : z 3 = lN N) {bp ep mbp mep : Nat → Int32} (h : ∀ e, e < N → bp e = nI (BP e) ∧ ep e = nI (EP e) ∧ mbp e = nI (BP e) ∧ mep e = nI (EP e) ∧ BP e ≤ EP e ∧ EP e < 300) : ∃ c, f_X0_partedEntries bp ep (nI N) = some c ∧ f_X6_parted z mbp mep = some c := by
  have hF := FU_big
  obtain ⟨c, e1, e2⟩ := parted_loop (K1 := fun (i2_4 : Int32) (i1_4 : Int32) => some i1_4) (K2 := fun (i2_4 : Int32) (i1_4 : Int32) => some i1_4) hN h3 h N FU FU 0 0 (by omega) (by omega) (by omega)
  exact ⟨c, e1, e2⟩
theorem wide_loop {K1 K2 : Int32 → Int32 → Option Int32} {P : Nat} (hP : P ≤ 300) {H : Nat → Nat} (hH : ∀ p, H p = 1 ∨ H p = 2) {hl hd : Nat → Int32} (h : ∀ p, p < P → hl p = nI (H p) ∧ hd p = nI (H p)) : ∀ (d f1 f2 i : Nat) (c : Int32), i + d = P → d < f1 → d < f2 →
    ∃ c', L_X0_headsOfTwoLines_4 K1 (nI P) hl f1 (nI i) c = K1 (nI P) c' ∧ L_X6_wideHeads_4 K2 (nI P) hd f2 (nI i) c = K2 (nI P) c'
  | _, 0, _, _, _, _, hf, _ => absurd hf (by omega)
  | _, _, 0, _, _, _, _, hf => absurd hf (by omega)
  | 0, f1 + 1, f2 + 1, i, c, hi, _, _ => by
    refine ⟨c, ?_, ?_⟩
    · rw [L_X0_headsOfTwoLines_4_s, if_pos (nI_le (by omega) (by omega)), show i = P by omega]
    · rw [L_X6_wideHeads_4_s, if_pos (nI_le (by omega) (by omega)), show i = P by omega]
  | d + 1, f1 + 1, f2 + 1, i, c, hi, hf1, hf2 => by
    obtain ⟨h1, h2⟩ := h i (by omega)
    rw [L_X0_headsOfTwoLines_4_s, if_neg (nI_ge (by omega) (by omega)), gd_t (xin_nI (by omega) (by decide)), clN (by omega), h1, nI_1, L_X6_wideHeads_4_s, if_neg (nI_ge (by omega) (by omega)), gd_t (xin_nI (by omega) (by decide)), clN (by omega), h2, nI_1]
    rcases hH i with q | q
    · rw [q, if_neg (by decide), show nI 1 - 1 = (0 : Int32) by rfl, Int32.add_zero]
      exact wide_loop (K1 := K1) (K2 := K2) hP hH h d f1 f2 (i + 1) c (by omega) (by omega) (by omega)
    · rw [q, if_pos (by decide), show nI 2 - 1 = (1 : Int32) by rfl]
      exact wide_loop (K1 := K1) (K2 := K2) hP hH h d f1 f2 (i + 1) (c + 1) (by omega) (by omega) (by omega)
theorem wide_both {P : Nat} (hP : P ≤ 300) {H : Nat → Nat} (hH : ∀ p, H p = 1 ∨ H p = 2) {hl hd : Nat → Int32} (h : ∀ p, p < P → hl p = nI (H p) ∧ hd p = nI (H p)) : ∃ c, f_X0_headsOfTwoLines (nI P) hl = some c ∧ f_X6_wideHeads (nI P) hd = some c := by
  have hF := FU_big
  obtain ⟨c, e1, e2⟩ := wide_loop (K1 := fun (i2_4 : Int32) (i1_4 : Int32) => some i1_4) (K2 := fun (i2_4 : Int32) (i1_4 : Int32) => some i1_4) hP hH h P FU FU 0 0 (by omega) (by omega) (by omega)
  exact ⟨c, e1, e2⟩
