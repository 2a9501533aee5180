/-! set, both sides -/
theorem t_setv {pg ps s pb lp rm : Int32} {bp bl ep fi la bg fd hl nh : Nat → Int32} {n : Int32} {st ln : Nat → Int32} {wd z : Nat → Int64} (h : NowL pg ps s lp bp bl ep fi la bg fd hl n st ln wd z) {k : Nat} {hs hl2 : Nat → Nat → Int32} {hw : Nat → Nat → Int64} {hn : Nat → Int32} {past : Nat → Int64} (hh : RHist k hs hl2 hw hn past) (j v : Int32) :
    ∃ r pg' ps' s' pb' lp' rm' bp' bl' ep' fi' la' bg' fd' hl' nh' st' k' hs' hl2' hw' hn' z' past', f_X5_set pg ps s pb lp rm bp bl ep fi la bg fd hl nh n st ln wd (nI k) hs hl2 hw hn j v = some (r, pg', ps', s', pb', lp', rm', bp', bl', ep', fi', la', bg', fd', hl', nh', st', nI k', hs', hl2', hw', hn') ∧
      f_X6_set (nI k) z past j v = some (r, nI k', z', past') ∧ NowL pg' ps' s' lp' bp' bl' ep' fi' la' bg' fd' hl' n st' ln wd z' ∧ RHist k' hs' hl2' hw' hn' past' := by
  obtain ⟨k', hs', hl2', hw', hn', past', e1, e2, hh'⟩ := record_both h.rel hh
  obtain ⟨S, N, G, W, o1, o2, hx, hm, -, -⟩ := id h
  obtain ⟨en, hst, hxe⟩ := id hx
  subst en
  unfold f_X5_set f_X6_set
  rcases value_both j v with ⟨jn, vn, hj, rfl, rfl, hv, ho, g1, g2⟩ | ⟨g1, g2⟩
  · have hst' : ∀ i, i < 3 → upd st jn (nI vn) i = nI (put1 jn vn S i) := fun i hi => by
      by_cases q : i = jn
      · rw [q, upd_eq, put1_eq]
      · rw [upd_ne q, put1_ne q]
        exact hst i hi
    have hR : Rel (upd st jn (nI vn)) ln wd (nI N) (vp_updL z jn (lN vn)) 0 := ⟨put1 jn vn S, N, G, W, ho S o1, o2, ⟨rfl, hst', hxe⟩, hm.set hj⟩
    obtain ⟨pg', ps', s', pb', lp', rm', bp', bl', ep', fi', la', bg', fd', hl', nh', f1, f2⟩ := hR.lay ps pb rm bp bl ep fi la bg fd hl nh
    have hz : z jn = lN (S jn) := by have := hm.2.1 jn hj; rw [Nat.zero_add] at this; exact this
    refine ⟨nI (S jn), pg', ps', s', pb', lp', rm', bp', bl', ep', fi', la', bg', fd', hl', nh', _, k', hs', hl2', hw', hn', _, past', ?_, ?_, f2, hh'⟩
    · rw [bd_eq g1, if_neg (show ¬ (1 : Int32) = 0 by decide), bd_eq e1]
      dsimp only
      rw [gd_t (xin_nI (by omega) (by decide)), gd_t (xin_nI (by omega) (by decide)), clN (by omega), hst jn hj, bd_eq f1]
    · rw [bd_eq g2, if_neg (show ¬ (1 : Int32) = 0 by decide), bd_eq e2]
      dsimp only
      rw [gd_t (xin64 (by omega)), gd_t (xin64 (by omega)), clN (by omega), hz, lN_i, nI_l (by omega)]
  · rw [bd_eq g1, if_pos rfl, bd_eq g2, if_pos rfl]
    exact ⟨-2, pg, ps, s, pb, lp, rm, bp, bl, ep, fi, la, bg, fd, hl, nh, st, k, hs, hl2, hw, hn, z, past, rfl, rfl, h, hh⟩
