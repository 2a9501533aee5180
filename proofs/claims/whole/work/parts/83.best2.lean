/-! bestLines asked, both sides -/
theorem m_in01 (i : Int32) : f_X6_in i.toInt64 0 1 = if 0 ≤ i.toInt ∧ i.toInt ≤ 1 then 1 else 0 := by
  unfold f_X6_in
  have h1 : (i.toInt64 < 0) ↔ i.toInt < 0 := by rw [Int64.lt_iff_toInt_lt, Int32.toInt_toInt64]; rfl
  have h2 : ((1 : Int64) < i.toInt64) ↔ 1 < i.toInt := by rw [Int64.lt_iff_toInt_lt, Int32.toInt_toInt64]; rfl
  by_cases a : i.toInt < 0
  · rw [if_pos (h1.mpr a), if_neg (by omega)]
  · rw [if_neg (fun q => a (h1.mp q))]
    by_cases b : 1 < i.toInt
    · rw [if_pos (h2.mpr b), if_neg (by omega)]
    · rw [if_neg (fun q => b (h2.mp q)), if_pos (by omega)]
theorem q_best {pL cL : Nat → Int32} {S : Nat → Nat} {N : Nat} {lns st : Nat → Int32} {wd : Nat → Int64} (h : XT pL cL S N lns wd) (hst : ∀ i, i < 3 → st i = nI (S i)) {z : Nat → Int64} (hM : MT pL cL z) (p0 p1 p2 p3 p4 p5 q1 q2 q3 : Int32) (b1 b2 b3 b4 b5 b6 b7 b8 b9 c1 c2 c3 c4 c5 c6 c7 : Nat → Int32) (a : Int32) :
    ∃ r t u1 u2 u3 v, f_X5_bestLines (nI N) st lns wd p0 p1 p2 p3 p4 p5 b1 b2 b3 b4 b5 b6 b7 b8 b9 a = some (r, t) ∧ f_X6_bestLines q1 q2 q3 z c1 c2 c3 c4 c5 c6 c7 a = some (r, u1, u2, u3, z, v) := by
  have hF := FU_big
  have X : ∃ b t, BR cL 6 41 b ∧ J_X5_bestLines_12 a (nI N) st lns wd p1 p3 p5 b1 b2 b3 b4 b5 b6 b7 b8 b9 = some (if a = 0 then nI b else cL b, t) := by
    obtain ⟨ps', s', pb', rm', bp', bl', ep', fi', la', bg', fd', hl', nh', e1, e2⟩ := x_trial h hst (Nat.le_refl 6) (show 6 ≤ 40 by omega) p1 p3 p5 b1 b2 b3 b4 b5 b6 b7 b8 b9
    unfold J_X5_bestLines_12
    rw [show lowF 0 = nI 6 by rfl, bd_eq e1]
    dsimp only
    rw [bd_eq e2, nI_1]
    refine x_best h hst (ans := fun b => if a = 0 then nI b else cL b) ?_ 34 FU 7 6 _ _ _ _ _ _ _ _ _ _ _ _ _ _ _ (by omega) (by omega) (by omega) ⟨Nat.le_refl _, by omega, fun j x y => absurd y (by omega), fun j x y => absurd y (by omega)⟩
    intro i b p1 p2 p3 p4 p5 p6 b1 b2 b3 b4 b5 b6 b7 b8 b9
    by_cases q : a = 0
    · rw [if_pos q]
      simp only [if_pos q]
      exact ⟨_, rfl⟩
    · rw [if_neg q]
      simp only [if_neg q]
      exact ⟨_, rfl⟩
  unfold f_X5_bestLines f_X6_bestLines
  rw [m_in01]
  by_cases g : 0 ≤ a.toInt ∧ a.toInt ≤ 1
  · have ga : a = 0 ∨ a = 1 := by
      rcases (show a.toInt = 0 ∨ a.toInt = 1 by omega) with w | w
      · exact Or.inl (Int32.toInt_inj.mp w)
      · exact Or.inr (Int32.toInt_inj.mp w)
    obtain ⟨b, t, hb, ex⟩ := X
    obtain ⟨i, b', g1, g2, g3, d1, d2, d3, d4, d5, d6, d7, l1, e1⟩ := m_best hM (K := (fun (i4_21 : Int32) (i3_21 : Int32) (i2_21 : Int32) (v_pages_21 : Int32) (v_passes_21 : Int32) (v_blanksWith_21 : Int32) (v_z_21 : Nat → Int64) (v_heads_21 : Nat → Int32) (v_used_21 : Nat → Int32) (v_firsts_21 : Nat → Int32) (v_lasts_21 : Nat → Int32) (v_beginPages_21 : Nat → Int32) (v_beginLines_21 : Nat → Int32) (v_endPages_21 : Nat → Int32) => if a = 0 then (some (i2_21, v_pages_21, v_passes_21, v_blanksWith_21, v_z_21, v_heads_21, v_used_21, v_firsts_21, v_lasts_21, v_beginPages_21, v_beginLines_21, v_endPages_21)) else (some (i3_21, v_pages_21, v_passes_21, v_blanksWith_21, v_z_21, v_heads_21, v_used_21, v_firsts_21, v_lasts_21, v_beginPages_21, v_beginLines_21, v_endPages_21)))) 35 FU 0 0 q1 q2 q3 c1 c2 c3 c4 c5 c6 c7 (by omega) (by omega) (Or.inl ⟨rfl, rfl⟩)
    have eb : b' = b := BR_one l1 hb
    rw [eb] at e1
    rw [if_pos g, if_neg (show ¬ (1 : Int32) = 0 by decide), show (40 : Int32) = nI (35 + 5) by rfl]
    rcases ga with w | w
    · rw [if_pos w]
      rw [if_pos w] at ex
      simp only [if_pos w] at e1
      exact ⟨_, _, _, _, _, _, ex, by simp only [if_pos w]; exact e1⟩
    · have w0 : ¬ a = 0 := by rw [w]; decide
      rw [if_neg w0, if_pos w]
      rw [if_neg w0] at ex
      simp only [if_neg w0] at e1
      exact ⟨_, _, _, _, _, _, ex, by simp only [if_neg w0]; exact e1⟩
  · have w0 : ¬ a = 0 := fun c => g (by rw [c]; decide)
    have w1 : ¬ a = 1 := fun c => g (by rw [c]; decide)
    rw [if_neg w0, if_neg w1, if_neg g, if_pos rfl]
    exact ⟨_, _, _, _, _, _, rfl, rfl⟩
