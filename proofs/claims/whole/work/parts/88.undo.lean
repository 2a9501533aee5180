/-! undo, both sides -/
theorem t_undo {pg ps s pb lp rm : Int32} {bp bl ep fi la bg fd hl nh : Nat → Int32} {n : Int32} {st ln : Nat → Int32} {wd z : Nat → Int64} (h : NowL pg ps s lp bp bl ep fi la bg fd hl n st ln wd z) {k : Nat} {hs hl2 : Nat → Nat → Int32} {hw : Nat → Nat → Int64} {hn : Nat → Int32} {past : Nat → Int64} (hh : RHist k hs hl2 hw hn past) :
    ∃ r pg' ps' s' pb' lp' rm' bp' bl' ep' fi' la' bg' fd' hl' nh' n' st' ln' wd' k' z', f_X5_undo pg ps s pb lp rm bp bl ep fi la bg fd hl nh n st ln wd (nI k) hs hl2 hw hn = some (r, pg', ps', s', pb', lp', rm', bp', bl', ep', fi', la', bg', fd', hl', nh', n', st', ln', wd', nI k') ∧
      f_X6_undo (nI k) z past = some (r, nI k', z') ∧ NowL pg' ps' s' lp' bp' bl' ep' fi' la' bg' fd' hl' n' st' ln' wd' z' ∧ RHist k' hs hl2 hw hn past := by
  have hk := hh.1
  unfold f_X5_undo f_X6_undo
  by_cases q : k = 0
  · subst q
    rw [if_pos (show nI 0 = (0 : Int32) by decide), if_pos (show nI 0 = (0 : Int32) by decide)]
    exact ⟨-5, pg, ps, s, pb, lp, rm, bp, bl, ep, fi, la, bg, fd, hl, nh, n, st, ln, wd, 0, z, rfl, rfl, h, hh⟩
  · obtain ⟨k', rfl⟩ : ∃ k', k = k' + 1 := ⟨k - 1, by omega⟩
    obtain ⟨st', ln', wd', z', e1, e2, hR, hh'⟩ := undo_both hh n st ln wd z
    obtain ⟨pg', ps', s', pb', lp', rm', bp', bl', ep', fi', la', bg', fd', hl', nh', g1, g2⟩ := hR.lay ps pb rm bp bl ep fi la bg fd hl nh
    have nk : ¬ nI (k' + 1) = (0 : Int32) := fun c => q ((nI_eq (b := 0) (by omega) (by decide)).mp c)
    rw [if_neg nk, if_neg nk, bd_eq e1]
    dsimp only
    rw [bd_eq g1]
    refine ⟨nI k', pg', ps', s', pb', lp', rm', bp', bl', ep', fi', la', bg', fd', hl', nh', _, st', ln', wd', k', z', rfl, ?_, g2, hh'⟩
    rw [bd_eq e2, nI_pred]
