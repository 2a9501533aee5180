/-! ifSet, both sides -/
theorem q_ifset {S : Nat → Nat} {N : Nat} {G : Nat → Nat} {W : Nat → List Nat} (oks : OKS S) (ok : OKE N G W) {st lns : Nat → Int32} {wd : Nat → Int64} (hst : ∀ i, i < 3 → st i = nI (S i)) (hx : ∀ i, i < N → lns i = nI (G i) ∧ wd i = lN (pk (W i))) {z : Nat → Int64} (hm : MLex S N G W z 0) (p0 p1 p2 p3 p4 p5 q1 q2 q3 : Int32) (b1 b2 b3 b4 b5 b6 b7 b8 b9 c1 c2 c3 c4 c5 c6 c7 : Nat → Int32) (j v : Int32) :
    ∃ r t u1 u2 u3 w, f_X5_ifSet (nI N) st lns wd p0 p1 p2 p3 p4 p5 b1 b2 b3 b4 b5 b6 b7 b8 b9 j v = some (r, t) ∧ f_X6_ifSet q1 q2 q3 z c1 c2 c3 c4 c5 c6 c7 j v = some (r, u1, u2, u3, z, w) := by
  unfold f_X5_ifSet f_X6_ifSet
  rcases value_both j v with ⟨jn, vn, hj, rfl, rfl, hv, ho, e1, e2⟩ | ⟨e1, e2⟩
  · obtain ⟨pg', ps', s', pb', rm', c, bp', bl', ep', fi', la', bg', fd', hl', nh', hd', us', mf', ml', mbp', mbl', mep', g1, -, g3⟩ := trial hj hv (ho S oks) ok hx hm p1 p3 p5 b1 b2 b3 b4 b5 b6 b7 b8 b9 c1 c2 c3 c4 c5 c6 c7
    rw [bd_eq e1, if_neg (show ¬ (1 : Int32) = 0 by decide), bd_eq e2, if_neg (show ¬ (1 : Int32) = 0 by decide), bd_eq g3]
    have J : J_X5_ifSet_67 (nI N) lns wd p1 p3 p5 b1 b2 b3 b4 b5 b6 b7 b8 b9 (nI (put1 jn vn S 0)) (nI (put1 jn vn S 1)) (nI (put1 jn vn S 2)) = some (pg', pg', ps', s', pb', nI (put1 jn vn S 0), rm', bp', bl', ep', fi', la', bg', fd', hl', nh') := by
      unfold J_X5_ifSet_67
      rw [bd_eq g1]
    rcases (show jn = 0 ∨ jn = 1 ∨ jn = 2 by omega) with rfl | rfl | rfl
    · rw [put1_eq, put1_ne (show 1 ≠ 0 by omega), put1_ne (show 2 ≠ 0 by omega)] at J
      rw [if_pos (show nI 0 = (0 : Int32) by decide)]
      unfold J_X5_ifSet_28
      rw [if_neg (show ¬ nI 0 = (1 : Int32) by decide)]
      unfold J_X5_ifSet_47
      rw [if_neg (show ¬ nI 0 = (2 : Int32) by decide), hst 1 (by omega), hst 2 (by omega), J]
      exact ⟨_, _, _, _, _, _, rfl, rfl⟩
    · rw [put1_eq, put1_ne (show 0 ≠ 1 by omega), put1_ne (show 2 ≠ 1 by omega)] at J
      rw [if_neg (show ¬ nI 1 = (0 : Int32) by decide)]
      unfold J_X5_ifSet_28
      rw [if_pos (show nI 1 = (1 : Int32) by decide)]
      unfold J_X5_ifSet_47
      rw [if_neg (show ¬ nI 1 = (2 : Int32) by decide), hst 0 (by omega), hst 2 (by omega), J]
      exact ⟨_, _, _, _, _, _, rfl, rfl⟩
    · rw [put1_eq, put1_ne (show 0 ≠ 2 by omega), put1_ne (show 1 ≠ 2 by omega)] at J
      rw [if_neg (show ¬ nI 2 = (0 : Int32) by decide)]
      unfold J_X5_ifSet_28
      rw [if_neg (show ¬ nI 2 = (1 : Int32) by decide)]
      unfold J_X5_ifSet_47
      rw [if_pos (show nI 2 = (2 : Int32) by decide), hst 0 (by omega), hst 1 (by omega), J]
      exact ⟨_, _, _, _, _, _, rfl, rfl⟩
  · rw [bd_eq e1, if_pos rfl, bd_eq e2, if_pos rfl]
    exact ⟨_, _, _, _, _, _, rfl, rfl⟩
