/-! the least lines, the reference; both -/
theorem m_least {pL cL : Nat → Int32} {z : Nat → Int64} (h : MT pL cL z) (a : Int32)
    {K : Int32 → Int32 → Int32 → Int32 → Int32 → (Nat → Int64) → (Nat → Int32) → (Nat → Int32) → (Nat → Int32) → (Nat → Int32) → (Nat → Int32) → (Nat → Int32) → (Nat → Int32) → Option (Int32 × Int32 × Int32 × Int32 × (Nat → Int64) × (Nat → Int32) × (Nat → Int32) × (Nat → Int32) × (Nat → Int32) × (Nat → Int32) × (Nat → Int32) × (Nat → Int32))} : ∀ (k f : Nat) (r p1 p2 p3 : Int32) (b1 b2 b3 b4 b5 b6 b7 : Nat → Int32), k ≤ 35 → k < f → ((∃ l, k + 6 ≤ l ∧ l ≤ 40 ∧ r = nI l ∧ ¬ a < pL l ∧ ∀ j, k + 6 ≤ j → j < l → a < pL j) ∨ (r = (-6) ∧ ∀ j, k + 6 ≤ j → j ≤ 40 → a < pL j)) →
    ∃ i r' q1 q2 q3 c1 c2 c3 c4 c5 c6 c7, LR a pL r' ∧ L_X6_leastLines_21 K a f (nI (k + 5)) r p1 p2 p3 z b1 b2 b3 b4 b5 b6 b7 = K i r' q1 q2 q3 z c1 c2 c3 c4 c5 c6 c7
  | _, 0, _, _, _, _, _, _, _, _, _, _, _, _, hf, _ => absurd hf (by omega)
  | 0, f + 1, r, p1, p2, p3, b1, b2, b3, b4, b5, b6, b7, _, _, hr => by
    refine ⟨nI (0 + 5), r, p1, p2, p3, b1, b2, b3, b4, b5, b6, b7, ?_, ?_⟩
    · rcases hr with ⟨l, a1, a2, a3, a4, a5⟩ | ⟨a1, a2⟩
      · exact Or.inl ⟨l, by omega, a2, a3, a4, fun j x y => a5 j (by omega) y⟩
      · exact Or.inr ⟨a1, fun j x y => a2 j (by omega) y⟩
    · rw [L_X6_leastLines_21_s, if_pos (show nI (0 + 5) < (6 : Int32) by decide)]
  | k + 1, f + 1, r, p1, p2, p3, b1, b2, b3, b4, b5, b6, b7, hk, hf, hr => by
    obtain ⟨ps', hd', us', mf', ml', mbp', mbl', mep', e⟩ := h (k + 6) (by omega) (by omega) b1 b2 b3 b4 b5 b6 b7
    have ek : k + 1 + 5 = k + 6 := by omega
    have e5 : nI (k + 6) + (-1) = nI (k + 5) := by rw [sub1]; exact nI_pred (k + 5)
    rw [ek, L_X6_leastLines_21_s, if_neg (show ¬ nI (k + 6) < (6 : Int32) from nI_nlt (a := k + 6) (b := 6) (by omega) (by omega)), show (0 : Int32) = nI 0 by rfl, bd_eq e]
    dsimp only
    rw [e5]
    by_cases q : a < pL (k + 6)
    · rw [if_pos q]
      exact m_least h a k f r _ _ _ _ _ _ _ _ _ _ (by omega) (by omega) (by
        rcases hr with ⟨l, a1, a2, a3, a4, a5⟩ | ⟨a1, a2⟩
        · refine Or.inl ⟨l, by omega, a2, a3, a4, fun j x y => ?_⟩
          by_cases w : j = k + 6
          · rw [w]; exact q
          · exact a5 j (by omega) y
        · refine Or.inr ⟨a1, fun j x y => ?_⟩
          by_cases w : j = k + 6
          · rw [w]; exact q
          · exact a2 j (by omega) y)
    · rw [if_neg q]
      exact m_least h a k f (nI (k + 6)) _ _ _ _ _ _ _ _ _ _ (by omega) (by omega) (Or.inl ⟨k + 6, by omega, by omega, rfl, q, fun j x y => absurd y (by omega)⟩)
theorem m_in200 (i : Int32) : f_X6_in i.toInt64 1 200 = if 1 ≤ i.toInt ∧ i.toInt ≤ 200 then 1 else 0 := by
  unfold f_X6_in
  have h1 : (i.toInt64 < 1) ↔ i.toInt < 1 := by rw [Int64.lt_iff_toInt_lt, Int32.toInt_toInt64]; rfl
  have h2 : ((200 : Int64) < i.toInt64) ↔ 200 < i.toInt := by rw [Int64.lt_iff_toInt_lt, Int32.toInt_toInt64]; rfl
  by_cases a : i.toInt < 1
  · rw [if_pos (h1.mpr a), if_neg (by omega)]
  · rw [if_neg (fun q => a (h1.mp q))]
    by_cases b : 200 < i.toInt
    · rw [if_pos (h2.mpr b), if_neg (by omega)]
    · rw [if_neg (fun q => b (h2.mp q)), if_pos (by omega)]
theorem q_least {pL cL : Nat → Int32} {S : Nat → Nat} {N : Nat} {lns st : Nat → Int32} {wd : Nat → Int64} (h : XT pL cL S N lns wd) (hst : ∀ i, i < 3 → st i = nI (S i)) {z : Nat → Int64} (hM : MT pL cL z) (p0 p1 p2 p3 p4 p5 q1 q2 q3 : Int32) (b1 b2 b3 b4 b5 b6 b7 b8 b9 c1 c2 c3 c4 c5 c6 c7 : Nat → Int32) (a : Int32) :
    ∃ r t u1 u2 u3 v, f_X5_leastLines (nI N) st lns wd p0 p1 p2 p3 p4 p5 b1 b2 b3 b4 b5 b6 b7 b8 b9 a = some (r, t) ∧ f_X6_leastLines q1 q2 q3 z c1 c2 c3 c4 c5 c6 c7 a = some (r, u1, u2, u3, z, v) := by
  have hF := FU_big
  unfold f_X5_leastLines f_X6_leastLines
  rw [m_in200]
  by_cases x1 : a < 1
  · have y1 : a.toInt < 1 := by rw [show (1 : Int32) = nI 1 by rfl, i32_ltnI (by decide)] at x1; exact x1
    rw [if_pos x1, if_neg (show ¬ (1 ≤ a.toInt ∧ a.toInt ≤ 200) by omega), if_pos rfl]
    exact ⟨_, _, _, _, _, _, rfl, rfl⟩
  · have y1 : ¬ a.toInt < 1 := by rw [show (1 : Int32) = nI 1 by rfl, i32_ltnI (by decide)] at x1; exact x1
    rw [if_neg x1]
    by_cases x2 : a ≤ 200
    · have y2 : a.toInt ≤ 200 := by rw [show (200 : Int32) = nI 200 by rfl, i32_lenI (by decide)] at x2; exact x2
      rw [if_pos x2, if_pos (show 1 ≤ a.toInt ∧ a.toInt ≤ 200 by omega), if_neg (show ¬ (1 : Int32) = 0 by decide), show lowF 0 = nI 6 by rfl, show (40 : Int32) = nI (35 + 5) by rfl]
      obtain ⟨i, r', g1, g2, g3, d1, d2, d3, d4, d5, d6, d7, l1, e1⟩ := m_least hM a (K := fun (i3_21 : Int32) (i2_21 : Int32) (v_pages_21 : Int32) (v_passes_21 : Int32) (v_blanksWith_21 : Int32) (v_z_21 : Nat → Int64) (v_heads_21 : Nat → Int32) (v_used_21 : Nat → Int32) (v_firsts_21 : Nat → Int32) (v_lasts_21 : Nat → Int32) (v_beginPages_21 : Nat → Int32) (v_beginLines_21 : Nat → Int32) (v_endPages_21 : Nat → Int32) => some (i2_21, v_pages_21, v_passes_21, v_blanksWith_21, v_z_21, v_heads_21, v_used_21, v_firsts_21, v_lasts_21, v_beginPages_21, v_beginLines_21, v_endPages_21)) 35 FU (-6) q1 q2 q3 c1 c2 c3 c4 c5 c6 c7 (by omega) (by omega) (Or.inr ⟨rfl, fun j x y => absurd y (by omega)⟩)
      obtain ⟨r, t, l2, e2⟩ := x_least h hst a (K := (fun (i2_21 : Int32) (v_trial_pages_21 : Int32) (v_trial_passes_21 : Int32) (v_trial_isSettled_21 : Int32) (v_trial_pagesBefore_21 : Int32) (v_trial_linesOfPage_21 : Int32) (v_trial_room_21 : Int32) (v_trial_beginPage_21 : Nat → Int32) (v_trial_beginLine_21 : Nat → Int32) (v_trial_endPage_21 : Nat → Int32) (v_trial_first_21 : Nat → Int32) (v_trial_last_21 : Nat → Int32) (v_trial_begun_21 : Nat → Int32) (v_trial_filled_21 : Nat → Int32) (v_trial_headLines_21 : Nat → Int32) (v_trial_nextHeadLines_21 : Nat → Int32) => some ((-6), v_trial_pages_21, v_trial_passes_21, v_trial_isSettled_21, v_trial_pagesBefore_21, v_trial_linesOfPage_21, v_trial_room_21, v_trial_beginPage_21, v_trial_beginLine_21, v_trial_endPage_21, v_trial_first_21, v_trial_last_21, v_trial_begun_21, v_trial_filled_21, v_trial_headLines_21, v_trial_nextHeadLines_21))) (fun _ _ _ _ _ _ _ _ _ _ _ _ _ _ _ _ => ⟨_, rfl⟩) 35 FU 6 p0 p1 p2 p3 p4 p5 b1 b2 b3 b4 b5 b6 b7 b8 b9 (by omega) (by omega) (by omega) (fun j x y => absurd y (by omega))
      have er : r' = r := LR_one l1 l2
      rw [er] at e1
      exact ⟨r, t, _, _, _, _, e2, e1⟩
    · have y2 : ¬ a.toInt ≤ 200 := by rw [show (200 : Int32) = nI 200 by rfl, i32_lenI (by decide)] at x2; exact x2
      rw [if_neg x2, if_neg (show ¬ (1 ≤ a.toInt ∧ a.toInt ≤ 200) by omega), if_pos rfl]
      exact ⟨_, _, _, _, _, _, rfl, rfl⟩
