/-! join, both sides -/
theorem MLex.putG {S : Nat → Nat} {N : Nat} {G : Nat → Nat} {W : Nat → List Nat} {z : Nat → Int64} (hm : MLex S N G W z 0) (hN : N ≤ 30) {e x : Nat} (he : e < N) : MLex S N (put1 e x G) W (vp_updL z (34 + e) (lN x)) 0 := by
  refine ⟨?_, fun j hj => ?_, fun j hj => ⟨?_, ?_⟩⟩
  · exact (show vp_updL z (34 + e) (lN x) (0 + 3) = z (0 + 3) from if_neg (by omega)).trans hm.1
  · exact (show vp_updL z (34 + e) (lN x) (0 + j) = z (0 + j) from if_neg (by omega)).trans (hm.2.1 j hj)
  · exact (show vp_updL z (34 + e) (lN x) (0 + 4 + j) = z (0 + 4 + j) from if_neg (by omega)).trans (hm.2.2 j hj).1
  · by_cases q : j = e
    · rw [q, put1_eq]
      exact (if_pos (by omega) : vp_updL z (34 + e) (lN x) (0 + 34 + e) = lN x)
    · rw [put1_ne q]
      exact (show vp_updL z (34 + e) (lN x) (0 + 34 + j) = z (0 + 34 + j) from if_neg (by omega)).trans (hm.2.2 j hj).2
theorem t_join {pg ps s pb lp rm : Int32} {bp bl ep fi la bg fd hl nh : Nat → Int32} {n : Int32} {st ln : Nat → Int32} {wd z : Nat → Int64} (h : NowL pg ps s lp bp bl ep fi la bg fd hl n st ln wd z) {k : Nat} {hs hl2 : Nat → Nat → Int32} {hw : Nat → Nat → Int64} {hn : Nat → Int32} {past : Nat → Int64} (hh : RHist k hs hl2 hw hn past) (i : Int32) :
    ∃ r pg' ps' s' pb' lp' rm' bp' bl' ep' fi' la' bg' fd' hl' nh' n' ln' wd' k' hs' hl2' hw' hn' z' past', f_X5_join pg ps s pb lp rm bp bl ep fi la bg fd hl nh n st ln wd (nI k) hs hl2 hw hn i = some (r, pg', ps', s', pb', lp', rm', bp', bl', ep', fi', la', bg', fd', hl', nh', n', ln', wd', nI k', hs', hl2', hw', hn') ∧
      f_X6_join (nI k) z past i = some (r, nI k', z', past') ∧ NowL pg' ps' s' lp' bp' bl' ep' fi' la' bg' fd' hl' n' st ln' wd' z' ∧ RHist k' hs' hl2' hw' hn' past' := by
  obtain ⟨k', hs', hl2', hw', hn', past', e1, e2, hh'⟩ := record_both h.rel hh
  obtain ⟨S, N, G, W, o1, o2, hx, hm, -, -⟩ := id h
  have hN := o2.1
  have h3 : z 3 = lN N := hm.1
  obtain ⟨en, hst, hxe⟩ := id hx
  subst en
  have hz : ∀ j, j < N → z (34 + j) = lN (G j) := fun j hj => by have := (hm.2.2 j hj).2; rw [Nat.zero_add] at this; exact this
  unfold f_X5_join f_X6_join
  rcases ix_cases i (show N < 2 ^ 31 by omega) with ⟨e, he, rfl⟩ | hout
  · rw [x_has (by omega) he, if_neg (show ¬ (1 : Int32) = 0 by decide), bd_eq (m_isEntry_in hN h3 he), if_neg (show ¬ (1 : Int32) = 0 by decide), nI_1]
    by_cases he1 : e + 1 < N
    · have ga := (o2.2.1 e he)
      have gb := (o2.2.1 (e + 1) he1)
      rw [x_has (by omega) he1, if_neg (show ¬ (1 : Int32) = 0 by decide), bd_eq (m_isEntry_in hN h3 he1), if_neg (show ¬ (1 : Int32) = 0 by decide), bd_eq (m_lines (by omega) (hz e he)), bd_eq (m_lines (by omega) (hz (e + 1) he1)), gd_t (xin_nI (by omega) (by decide)), gd_t (xin_nI (by omega) (by decide)), clN (show e < 2 ^ 31 by omega), clN (show e + 1 < 2 ^ 31 by omega), (hxe e he).1, (hxe (e + 1) he1).1, nI_add]
      by_cases g : G e + G (e + 1) ≤ 40
      · have hxe' : ∀ j, j < N → upd ln e (nI (G e + G (e + 1))) j = nI (put1 e (G e + G (e + 1)) G j) ∧ wd j = lN (pk (W j)) := fun j hj => by
          by_cases q : j = e
          · rw [q, upd_eq, put1_eq]
            exact ⟨rfl, (hxe e he).2⟩
          · rw [upd_ne q, put1_ne q]
            exact hxe j hj
        obtain ⟨z', em, hm'⟩ := m_remove hN he1 (hm.putG hN (x := G e + G (e + 1)) he)
        obtain ⟨ln', wd', ex, hx'⟩ := x_take hN he1 hxe'
        have hR : Rel st ln' wd' (nI (N - 1)) z' 0 := ⟨S, N - 1, _, _, o1, (o2.put1 (e := e) (g := G e + G (e + 1)) (by omega)).dl he1, ⟨rfl, hst, hx'⟩, hm'⟩
        obtain ⟨pg', ps', s', pb', lp', rm', bp', bl', ep', fi', la', bg', fd', hl', nh', f1, f2⟩ := hR.lay ps pb rm bp bl ep fi la bg fd hl nh
        have l4 : nI (G e + G (e + 1)) ≤ (40 : Int32) := nI_le (b := 40) (by omega) (by decide)
        refine ⟨nI (G e + G (e + 1)), pg', ps', s', pb', lp', rm', bp', bl', ep', fi', la', bg', fd', hl', nh', nI (N - 1), ln', wd', k', hs', hl2', hw', hn', z', past', ?_, ?_, f2, hh'⟩
        · rw [if_pos l4, bd_eq e1]
          dsimp only
          rw [gd_t (xin_nI (by omega) (by decide)), bd_eq ex]
          dsimp only
          rw [bd_eq f1]
        · rw [if_pos l4, bd_eq e2]
          dsimp only
          rw [n34, gd_t (xin64 (by omega)), clN (by omega), nI_l (by omega), bd_eq em]
      · have l4 : ¬ nI (G e + G (e + 1)) ≤ (40 : Int32) := fun q => by
          rw [Int32.le_iff_toInt_le, nI_toInt (by omega)] at q
          have h40 : (40 : Int32).toInt = 40 := rfl
          omega
        rw [if_neg l4, if_neg l4]
        exact ⟨-4, pg, ps, s, pb, lp, rm, bp, bl, ep, fi, la, bg, fd, hl, nh, nI N, ln, wd, k, hs, hl2, hw, hn, z, past, rfl, rfl, h, hh⟩
    · have ho : (nI (e + 1)).toInt < 0 ∨ (N : Int) ≤ (nI (e + 1)).toInt := by
        rw [nI_toInt (by omega)]
        omega
      rw [x_hasnt (by omega) ho, if_pos rfl, bd_eq (m_isEntry_out hN h3 ho), if_pos rfl]
      exact ⟨-1, pg, ps, s, pb, lp, rm, bp, bl, ep, fi, la, bg, fd, hl, nh, nI N, ln, wd, k, hs, hl2, hw, hn, z, past, rfl, rfl, h, hh⟩
  · rw [x_hasnt (by omega) hout, if_pos rfl, bd_eq (m_isEntry_out hN h3 hout), if_pos rfl]
    exact ⟨-1, pg, ps, s, pb, lp, rm, bp, bl, ep, fi, la, bg, fd, hl, nh, nI N, ln, wd, k, hs, hl2, hw, hn, z, past, rfl, rfl, h, hh⟩
