/-! the least lines, both sides -/
def XT (pL cL : Nat → Int32) (S : Nat → Nat) (N : Nat) (lns : Nat → Int32) (wd : Nat → Int64) : Prop := ∀ l, 6 ≤ l → l ≤ 40 → ∀ (ps pb rm : Int32) (bp bl ep fi la bg fd hl nh : Nat → Int32), ∃ (ps' s' pb' rm' : Int32) (bp' bl' ep' fi' la' bg' fd' hl' nh' : Nat → Int32), f_X0_lay ps pb rm bp bl ep fi la bg fd hl nh (nI N) lns wd (nI l) (nI (S 1)) (nI (S 2)) = some (pL l, ps', s', pb', nI l, rm', bp', bl', ep', fi', la', bg', fd', hl', nh') ∧ f_X0_blankLines (pL l) (nI l) fd' hl' = some (cL l)
def MT (pL cL : Nat → Int32) (z : Nat → Int64) : Prop := ∀ l, 6 ≤ l → l ≤ 40 → ∀ (hd us mf ml mbp mbl mep : Nat → Int32), ∃ (ps' : Int32) (hd' us' mf' ml' mbp' mbl' mep' : Nat → Int32), f_X6_pagesWith z hd us mf ml mbp mbl mep (nI 0) (nI l) = some (pL l, pL l, ps', cL l, z, hd', us', mf', ml', mbp', mbl', mep')
def LR (a : Int32) (pL : Nat → Int32) (r : Int32) : Prop := (∃ l, 6 ≤ l ∧ l ≤ 40 ∧ r = nI l ∧ ¬ a < pL l ∧ ∀ j, 6 ≤ j → j < l → a < pL j) ∨ (r = (-6) ∧ ∀ j, 6 ≤ j → j ≤ 40 → a < pL j)
theorem LR_one {a : Int32} {pL : Nat → Int32} {r s : Int32} (hr : LR a pL r) (hs : LR a pL s) : r = s := by
  rcases hr with ⟨l, a1, a2, a3, a4, a5⟩ | ⟨a1, a2⟩
  · rcases hs with ⟨m, b1, b2, b3, b4, b5⟩ | ⟨b1, b2⟩
    · rcases Nat.lt_trichotomy l m with q | q | q
      · exact absurd (b5 l a1 q) a4
      · rw [a3, b3, q]
      · exact absurd (a5 m b1 q) b4
    · exact absurd (b2 l a1 a2) a4
  · rcases hs with ⟨m, b1, b2, b3, b4, b5⟩ | ⟨b1, b2⟩
    · exact absurd (a2 m b1 b2) b4
    · rw [a1, b1]
theorem x_trial {pL cL : Nat → Int32} {S : Nat → Nat} {N : Nat} {lns st : Nat → Int32} {wd : Nat → Int64} (h : XT pL cL S N lns wd) (hst : ∀ i, i < 3 → st i = nI (S i)) {l : Nat} (h1 : 6 ≤ l) (h2 : l ≤ 40) (ps pb rm : Int32) (bp bl ep fi la bg fd hl nh : Nat → Int32) :
    ∃ (ps' s' pb' rm' : Int32) (bp' bl' ep' fi' la' bg' fd' hl' nh' : Nat → Int32), f_X5_layTrial (nI N) st lns wd ps pb rm bp bl ep fi la bg fd hl nh (nI l) = some (pL l, ps', s', pb', nI l, rm', bp', bl', ep', fi', la', bg', fd', hl', nh') ∧ f_X0_blankLines (pL l) (nI l) fd' hl' = some (cL l) := by
  obtain ⟨ps', s', pb', rm', bp', bl', ep', fi', la', bg', fd', hl', nh', e1, e2⟩ := h l h1 h2 ps pb rm bp bl ep fi la bg fd hl nh
  refine ⟨ps', s', pb', rm', bp', bl', ep', fi', la', bg', fd', hl', nh', ?_, e2⟩
  unfold f_X5_layTrial
  rw [hst 1 (by omega), hst 2 (by omega), bd_eq e1]
theorem x_least {pL cL : Nat → Int32} {S : Nat → Nat} {N : Nat} {lns st : Nat → Int32} {wd : Nat → Int64} (h : XT pL cL S N lns wd) (hst : ∀ i, i < 3 → st i = nI (S i)) (a : Int32)
    {K : Int32 → Int32 → Int32 → Int32 → Int32 → Int32 → Int32 → (Nat → Int32) → (Nat → Int32) → (Nat → Int32) → (Nat → Int32) → (Nat → Int32) → (Nat → Int32) → (Nat → Int32) → (Nat → Int32) → (Nat → Int32) → Option (Int32 × Int32 × Int32 × Int32 × Int32 × Int32 × Int32 × (Nat → Int32) × (Nat → Int32) × (Nat → Int32) × (Nat → Int32) × (Nat → Int32) × (Nat → Int32) × (Nat → Int32) × (Nat → Int32) × (Nat → Int32))}
    (hK : ∀ i p1 p2 p3 p4 p5 p6 b1 b2 b3 b4 b5 b6 b7 b8 b9, ∃ t, K i p1 p2 p3 p4 p5 p6 b1 b2 b3 b4 b5 b6 b7 b8 b9 = some (-6, t)) : ∀ (d f l : Nat) (p1 p2 p3 p4 p5 p6 : Int32) (b1 b2 b3 b4 b5 b6 b7 b8 b9 : Nat → Int32), l + d = 41 → d < f → 6 ≤ l → (∀ j, 6 ≤ j → j < l → a < pL j) →
    ∃ r t, LR a pL r ∧ L_X5_leastLines_21 K a (nI N) st lns wd f (nI l) p1 p2 p3 p4 p5 p6 b1 b2 b3 b4 b5 b6 b7 b8 b9 = some (r, t)
  | _, 0, _, _, _, _, _, _, _, _, _, _, _, _, _, _, _, _, _, hf, _, _ => absurd hf (by omega)
  | 0, f + 1, l, p1, p2, p3, p4, p5, p6, b1, b2, b3, b4, b5, b6, b7, b8, b9, hl, _, h6, hj => by
    obtain ⟨t, e⟩ := hK (nI l) p1 p2 p3 p4 p5 p6 b1 b2 b3 b4 b5 b6 b7 b8 b9
    refine ⟨-6, t, Or.inr ⟨rfl, fun j x y => hj j x (by omega)⟩, ?_⟩
    rw [L_X5_leastLines_21_s, if_pos (show highF 0 < nI l by rw [show highF 0 = nI 40 by rfl]; exact nI_lt (by omega) (by omega)), e]
  | d + 1, f + 1, l, p1, p2, p3, p4, p5, p6, b1, b2, b3, b4, b5, b6, b7, b8, b9, hl, hf, h6, hj => by
    obtain ⟨ps', s', pb', rm', bp', bl', ep', fi', la', bg', fd', hl', nh', e1, -⟩ := x_trial h hst h6 (show l ≤ 40 by omega) p2 p4 p6 b1 b2 b3 b4 b5 b6 b7 b8 b9
    rw [L_X5_leastLines_21_s, if_neg (show ¬ highF 0 < nI l by rw [show highF 0 = nI 40 by rfl]; exact nI_nlt (by omega) (by omega)), bd_eq e1]
    dsimp only
    by_cases q : a < pL l
    · rw [if_pos q, nI_1]
      exact x_least h hst a hK d f (l + 1) _ _ _ _ _ _ _ _ _ _ _ _ _ _ _ (by omega) (by omega) (by omega) (fun j x y => by
        by_cases e : j = l
        · rw [e]; exact q
        · exact hj j x (by omega))
    · rw [if_neg q]
      exact ⟨_, _, Or.inl ⟨l, h6, by omega, rfl, q, hj⟩, rfl⟩
