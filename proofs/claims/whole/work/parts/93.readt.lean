/-! read, both sides -/
theorem t_read {pg ps s pb lp rm : Int32} {bp bl ep fi la bg fd hl nh : Nat → Int32} {n : Int32} {st ln : Nat → Int32} {wd z : Nat → Int64} (h : NowL pg ps s lp bp bl ep fi la bg fd hl n st ln wd z) {k : Nat} {hs hl2 : Nat → Nat → Int32} {hw : Nat → Nat → Int64} {hn : Nat → Int32} {past : Nat → Int64} (hh : RHist k hs hl2 hw hn past) {t : Nat} {cs : Nat → Nat} {codes pd : Nat → Int32} (okp : OKP t cs) (p1 : PadIs t cs codes) (p2 : PadIs t cs pd) (ds dln : Nat → Int32) (dwd : Nat → Int64) (dn sp m : Int32) (spare tw tl : Nat → Int64) :
    ∃ r dn' ds' dln' dwd' pg' ps' s' pb' lp' rm' bp' bl' ep' fi' la' bg' fd' hl' nh' n' st' ln' wd' t' k' hs' hl2' hw' hn' sp' m' z' spare' past' tw' tl', f_X5_read dn ds dln dwd pg ps s pb lp rm bp bl ep fi la bg fd hl nh n st ln wd (nI t) codes (nI k) hs hl2 hw hn = some (r, dn', ds', dln', dwd', pg', ps', s', pb', lp', rm', bp', bl', ep', fi', la', bg', fd', hl', nh', n', st', ln', wd', nI t', nI k', hs', hl2', hw', hn') ∧
      f_X6_read (nI k) (nI t) z spare past pd tw tl = some (r, nI k', nI t', sp', m', z', spare', past', tw', tl') ∧ OKP t' cs ∧ PadIs t' cs codes ∧ PadIs t' cs pd ∧ NowL pg' ps' s' lp' bp' bl' ep' fi' la' bg' fd' hl' n' st' ln' wd' z' ∧ RHist k' hs' hl2' hw' hn' past' := by
  unfold f_X5_read
  rcases read_m h.rel hh okp p1 p2 tw tl spare ds dln dwd with ⟨fa, sp', m', tw', tl', a0, a1, a2⟩ | ⟨ds1, dl1, dw1, N', dl2, dw2, sp', m', z', spare', tw', tl', a0, a1, a2, a3, a4⟩ | ⟨ds1, dl1, dw1, N', dl2, dw2, st3, ln3, wd3, k', ps3, pl3, pw3, pn3, past', sp', m', z', spare', tw', tl', a0, a1, a2, a3, a4, a5, a6, a7⟩
  · rw [bd_eq a1, if_neg a0]
    exact ⟨-3, dn, ds, dln, dwd, pg, ps, s, pb, lp, rm, bp, bl, ep, fi, la, bg, fd, hl, nh, n, st, ln, wd, t, k, hs, hl2, hw, hn, sp', m', z, spare, past, tw', tl', rfl, a2, okp, p1, p2, h, hh⟩
  · rw [bd_eq a0, if_pos rfl, bd_eq a1]
    dsimp only
    rw [bd_eq a2]
    dsimp only
    rw [if_pos rfl]
    exact ⟨-4, N', ds1, dl2, dw2, pg, ps, s, pb, lp, rm, bp, bl, ep, fi, la, bg, fd, hl, nh, n, st, ln, wd, t, k, hs, hl2, hw, hn, sp', m', z', spare', past, tw', tl', rfl, a3, okp, p1, p2, h.copy a4, hh⟩
  · obtain ⟨pg', ps', s', pb', lp', rm', bp', bl', ep', fi', la', bg', fd', hl', nh', f1, f2⟩ := a6.lay ps pb rm bp bl ep fi la bg fd hl nh
    rw [bd_eq a0, if_pos rfl, bd_eq a1]
    dsimp only
    rw [bd_eq a2]
    dsimp only
    rw [if_neg (show ¬ (1 : Int32) = 0 by decide), bd_eq a3]
    dsimp only
    rw [bd_eq a4]
    dsimp only
    rw [bd_eq f1]
    exact ⟨N', N', ds1, dl2, dw2, pg', ps', s', pb', lp', rm', bp', bl', ep', fi', la', bg', fd', hl', nh', N', st3, ln3, wd3, 0, k', ps3, pl3, pw3, pn3, sp', m', z', spare', past', tw', tl', rfl, a5, okp0 cs, pad0 cs codes, pad0 cs pd, f2, a7⟩
