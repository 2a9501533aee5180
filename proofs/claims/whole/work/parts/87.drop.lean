/-! drop, both sides -/
theorem t_drop {pg ps s pb lp rm : Int32} {bp bl ep fi la bg fd hl nh : Nat → Int32} {n : Int32} {st ln : Nat → Int32} {wd z : Nat → Int64} (h : NowL pg ps s lp bp bl ep fi la bg fd hl n st ln wd z) {k : Nat} {hs hl2 : Nat → Nat → Int32} {hw : Nat → Nat → Int64} {hn : Nat → Int32} {past : Nat → Int64} (hh : RHist k hs hl2 hw hn past) (i : Int32) :
    ∃ r pg' ps' s' pb' lp' rm' bp' bl' ep' fi' la' bg' fd' hl' nh' n' ln' wd' k' hs' hl2' hw' hn' z' past', f_X5_drop pg ps s pb lp rm bp bl ep fi la bg fd hl nh n st ln wd (nI k) hs hl2 hw hn i = some (r, pg', ps', s', pb', lp', rm', bp', bl', ep', fi', la', bg', fd', hl', nh', n', ln', wd', nI k', hs', hl2', hw', hn') ∧
      f_X6_drop (nI k) z past i = some (r, nI k', z', past') ∧ NowL pg' ps' s' lp' bp' bl' ep' fi' la' bg' fd' hl' n' st ln' wd' z' ∧ RHist k' hs' hl2' hw' hn' past' := by
  obtain ⟨k', hs', hl2', hw', hn', past', e1, e2, hh'⟩ := record_both h.rel hh
  obtain ⟨S, N, G, W, o1, o2, hx, hm, -, -⟩ := id h
  have hN := o2.1
  have h3 : z 3 = lN N := hm.1
  obtain ⟨en, hst, hxe⟩ := id hx
  subst en
  unfold f_X5_drop f_X6_drop
  rcases ix_cases i (show N < 2 ^ 31 by omega) with ⟨e, he, rfl⟩ | hout
  · have hz : z (34 + e) = lN (G e) := by have := (hm.2.2 e he).2; rw [Nat.zero_add] at this; exact this
    obtain ⟨z', em, hm'⟩ := m_remove hN he hm
    have hxt := x_take hN he hxe
    rw [x_has (by omega) he, if_neg (show ¬ (1 : Int32) = 0 by decide), bd_eq e1, bd_eq (m_isEntry_in hN h3 he), if_neg (show ¬ (1 : Int32) = 0 by decide), bd_eq e2, bd_eq (m_lines (by omega) hz), bd_eq em]
    obtain ⟨ln', wd', ex, hx'⟩ := hxt
    have hR : Rel st ln' wd' (nI (N - 1)) z' 0 := ⟨S, N - 1, dl e G, dl e W, o1, o2.dl he, ⟨rfl, hst, hx'⟩, hm'⟩
    obtain ⟨pg', ps', s', pb', lp', rm', bp', bl', ep', fi', la', bg', fd', hl', nh', g1, g2⟩ := hR.lay ps pb rm bp bl ep fi la bg fd hl nh
    refine ⟨nI (G e), pg', ps', s', pb', lp', rm', bp', bl', ep', fi', la', bg', fd', hl', nh', nI (N - 1), ln', wd', k', hs', hl2', hw', hn', z', past', ?_, rfl, g2, hh'⟩
    dsimp only
    rw [gd_t (xin_nI (by omega) (by decide)), clN (by omega), (hxe e he).1, bd_eq ex]
    dsimp only
    rw [bd_eq g1]
  · rw [x_hasnt (by omega) hout, if_pos rfl, bd_eq (m_isEntry_out hN h3 hout), if_pos rfl]
    exact ⟨-1, pg, ps, s, pb, lp, rm, bp, bl, ep, fi, la, bg, fd, hl, nh, nI N, ln, wd, k, hs, hl2, hw, hn, z, past, rfl, rfl, h, hh⟩
