/-! the best lines, both sides -/
def BR (cL : Nat → Int32) (lo hi b : Nat) : Prop := lo ≤ b ∧ b < hi ∧ (∀ j, lo ≤ j → j < b → (cL b).toInt < (cL j).toInt) ∧ ∀ j, b < j → j < hi → (cL b).toInt ≤ (cL j).toInt
theorem BR_one {cL : Nat → Int32} {lo hi a b : Nat} (ha : BR cL lo hi a) (hb : BR cL lo hi b) : a = b := by
  obtain ⟨a1, a2, a3, a4⟩ := ha
  obtain ⟨b1, b2, b3, b4⟩ := hb
  rcases Nat.lt_trichotomy a b with q | q | q
  · have x := b3 a a1 q
    have y := a4 b q b2
    omega
  · exact q
  · have x := a3 b b1 q
    have y := b4 a q a2
    omega
theorem x_best {pL cL : Nat → Int32} {S : Nat → Nat} {N : Nat} {lns st : Nat → Int32} {wd : Nat → Int64} (h : XT pL cL S N lns wd) (hst : ∀ i, i < 3 → st i = nI (S i))
    {K : Int32 → Int32 → Int32 → Int32 → Int32 → Int32 → Int32 → Int32 → Int32 → (Nat → Int32) → (Nat → Int32) → (Nat → Int32) → (Nat → Int32) → (Nat → Int32) → (Nat → Int32) → (Nat → Int32) → (Nat → Int32) → (Nat → Int32) → Option (Int32 × Int32 × Int32 × Int32 × Int32 × Int32 × Int32 × (Nat → Int32) × (Nat → Int32) × (Nat → Int32) × (Nat → Int32) × (Nat → Int32) × (Nat → Int32) × (Nat → Int32) × (Nat → Int32) × (Nat → Int32))} {ans : Nat → Int32}
    (hK : ∀ i b p1 p2 p3 p4 p5 p6 b1 b2 b3 b4 b5 b6 b7 b8 b9, ∃ t, K i (cL b) (nI b) p1 p2 p3 p4 p5 p6 b1 b2 b3 b4 b5 b6 b7 b8 b9 = some (ans b, t)) : ∀ (d f l b : Nat) (p1 p2 p3 p4 p5 p6 : Int32) (b1 b2 b3 b4 b5 b6 b7 b8 b9 : Nat → Int32), l + d = 41 → d < f → 6 ≤ l → BR cL 6 l b →
    ∃ b' t, BR cL 6 41 b' ∧ L_X5_bestLines_36 K (nI N) st lns wd f (nI l) (cL b) (nI b) p1 p2 p3 p4 p5 p6 b1 b2 b3 b4 b5 b6 b7 b8 b9 = some (ans b', t)
  | _, 0, _, _, _, _, _, _, _, _, _, _, _, _, _, _, _, _, _, _, hf, _, _ => absurd hf (by omega)
  | 0, f + 1, l, b, p1, p2, p3, p4, p5, p6, b1, b2, b3, b4, b5, b6, b7, b8, b9, hl, _, h6, hb => by
    obtain ⟨t, e⟩ := hK (nI l) b p1 p2 p3 p4 p5 p6 b1 b2 b3 b4 b5 b6 b7 b8 b9
    have el : l = 41 := by omega
    refine ⟨b, t, by rw [← el]; exact hb, ?_⟩
    rw [L_X5_bestLines_36_s, if_pos (show highF 0 < nI l by rw [show highF 0 = nI 40 by rfl]; exact nI_lt (by omega) (by omega)), e]
  | d + 1, f + 1, l, b, p1, p2, p3, p4, p5, p6, b1, b2, b3, b4, b5, b6, b7, b8, b9, hl, hf, h6, hb => by
    obtain ⟨ps', s', pb', rm', bp', bl', ep', fi', la', bg', fd', hl', nh', e1, e2⟩ := x_trial h hst h6 (show l ≤ 40 by omega) p2 p4 p6 b1 b2 b3 b4 b5 b6 b7 b8 b9
    obtain ⟨r1, r2, r3, r4⟩ := id hb
    rw [L_X5_bestLines_36_s, if_neg (show ¬ highF 0 < nI l by rw [show highF 0 = nI 40 by rfl]; exact nI_nlt (by omega) (by omega)), bd_eq e1]
    dsimp only
    rw [bd_eq e2]
    by_cases q : cL b ≤ cL l
    · rw [if_pos q, nI_1]
      have q2 := Int32.le_iff_toInt_le.mp q
      exact x_best h hst hK d f (l + 1) b _ _ _ _ _ _ _ _ _ _ _ _ _ _ _ (by omega) (by omega) (by omega) ⟨r1, by omega, r3, fun j x y => by
        by_cases w : j = l
        · rw [w]; exact q2
        · exact r4 j x (by omega)⟩
    · rw [if_neg q, nI_1]
      have q2 : ¬ (cL b).toInt ≤ (cL l).toInt := fun c => q (Int32.le_iff_toInt_le.mpr c)
      exact x_best h hst hK d f (l + 1) l _ _ _ _ _ _ _ _ _ _ _ _ _ _ _ (by omega) (by omega) (by omega) ⟨h6, by omega, fun j x y => by
        rcases Nat.lt_trichotomy j b with w | w | w
        · have := r3 j x w
          omega
        · rw [w]; omega
        · have := r4 j w y
          omega, fun j x y => absurd y (by omega)⟩
theorem m_best {pL cL : Nat → Int32} {z : Nat → Int64} (h : MT pL cL z)
    {K : Int32 → Int32 → Int32 → Int32 → Int32 → Int32 → (Nat → Int64) → (Nat → Int32) → (Nat → Int32) → (Nat → Int32) → (Nat → Int32) → (Nat → Int32) → (Nat → Int32) → (Nat → Int32) → Option (Int32 × Int32 × Int32 × Int32 × (Nat → Int64) × (Nat → Int32) × (Nat → Int32) × (Nat → Int32) × (Nat → Int32) × (Nat → Int32) × (Nat → Int32) × (Nat → Int32))} : ∀ (k f : Nat) (fe be p1 p2 p3 : Int32) (b1 b2 b3 b4 b5 b6 b7 : Nat → Int32), k ≤ 35 → k < f → ((be = 0 ∧ k = 35) ∨ ∃ b, be = nI b ∧ fe = cL b ∧ BR cL (k + 6) 41 b) →
    ∃ i b q1 q2 q3 c1 c2 c3 c4 c5 c6 c7, BR cL 6 41 b ∧ L_X6_bestLines_21 K f (nI (k + 5)) fe be p1 p2 p3 z b1 b2 b3 b4 b5 b6 b7 = K i (cL b) (nI b) q1 q2 q3 z c1 c2 c3 c4 c5 c6 c7
  | _, 0, _, _, _, _, _, _, _, _, _, _, _, _, _, hf, _ => absurd hf (by omega)
  | 0, f + 1, fe, be, p1, p2, p3, b1, b2, b3, b4, b5, b6, b7, _, _, hr => by
    rcases hr with ⟨-, h2⟩ | ⟨b, rfl, rfl, hb⟩
    · exact absurd h2 (by omega)
    · refine ⟨nI (0 + 5), b, p1, p2, p3, b1, b2, b3, b4, b5, b6, b7, hb, ?_⟩
      rw [L_X6_bestLines_21_s, if_pos (show nI (0 + 5) < (6 : Int32) by decide)]
  | k + 1, f + 1, fe, be, p1, p2, p3, b1, b2, b3, b4, b5, b6, b7, hk, hf, hr => by
    obtain ⟨ps', hd', us', mf', ml', mbp', mbl', mep', e⟩ := h (k + 6) (by omega) (by omega) b1 b2 b3 b4 b5 b6 b7
    have ek : k + 1 + 5 = k + 6 := by omega
    have e5 : nI (k + 6) + (-1) = nI (k + 5) := by rw [sub1]; exact nI_pred (k + 5)
    rw [ek, L_X6_bestLines_21_s, if_neg (show ¬ nI (k + 6) < (6 : Int32) from nI_nlt (a := k + 6) (b := 6) (by omega) (by omega))]
    rcases hr with ⟨h1, h2⟩ | ⟨b, rfl, rfl, hb⟩
    · rw [show Option.bind (f_X6_pagesWith z b1 b2 b3 b4 b5 b6 b7 0 (nI (k + 6))) = Option.bind (f_X6_pagesWith z b1 b2 b3 b4 b5 b6 b7 (nI 0) (nI (k + 6))) by rfl, bd_eq e, if_pos h1]
      unfold J_X6_bestLines_48 J_X6_bestLines_53
      rw [if_neg (show ¬ (1 : Int32) = 0 by decide)]
      unfold J_X6_bestLines_66
      rw [if_neg (show ¬ (1 : Int32) = 0 by decide)]
      dsimp only
      rw [e5]
      exact m_best h k f _ _ _ _ _ _ _ _ _ _ _ _ (by omega) (by omega) (Or.inr ⟨k + 6, rfl, rfl, by omega, by omega, fun j x y => absurd y (by omega), fun j x y => absurd y (by omega)⟩)
    · obtain ⟨r1, r2, r3, r4⟩ := hb
      have nb : ¬ nI b = (0 : Int32) := fun c => by have := (nI_eq (a := b) (b := 0) (by omega) (by decide)).mp c; omega
      rw [show Option.bind (f_X6_pagesWith z b1 b2 b3 b4 b5 b6 b7 0 (nI (k + 6))) = Option.bind (f_X6_pagesWith z b1 b2 b3 b4 b5 b6 b7 (nI 0) (nI (k + 6))) by rfl, bd_eq e, if_neg nb]
      dsimp only
      by_cases q : cL b < cL (k + 6)
      · have q2 := Int32.lt_iff_toInt_lt.mp q
        rw [if_pos q]
        unfold J_X6_bestLines_53
        rw [if_pos (show (0 : Int32) = 0 by rfl)]
        unfold J_X6_bestLines_66
        rw [if_pos (show (0 : Int32) = 0 by rfl)]
        dsimp only
        rw [e5]
        exact m_best h k f _ _ _ _ _ _ _ _ _ _ _ _ (by omega) (by omega) (Or.inr ⟨b, rfl, rfl, by omega, r2, fun j x y => by
          by_cases w : j = k + 6
          · rw [w]; exact q2
          · exact r3 j (by omega) y, r4⟩)
      · have q2 : ¬ (cL b).toInt < (cL (k + 6)).toInt := fun c => q (Int32.lt_iff_toInt_lt.mpr c)
        rw [if_neg q]
        unfold J_X6_bestLines_48 J_X6_bestLines_53
        rw [if_neg (show ¬ (1 : Int32) = 0 by decide)]
        unfold J_X6_bestLines_66
        rw [if_neg (show ¬ (1 : Int32) = 0 by decide)]
        dsimp only
        rw [e5]
        exact m_best h k f _ _ _ _ _ _ _ _ _ _ _ _ (by omega) (by omega) (Or.inr ⟨k + 6, rfl, rfl, by omega, by omega, fun j x y => absurd y (by omega), fun j x y => by
          rcases Nat.lt_trichotomy j b with w | w | w
          · have := r3 j (by omega) w
            omega
          · rw [w]; omega
          · have := r4 j w y
            omega⟩)
