/-! change, both sides -/
theorem m_in140 (i : Int32) : f_X6_in i.toInt64 1 40 = if 1 ≤ i.toInt ∧ i.toInt ≤ 40 then 1 else 0 := m_inL (lo := 1) (hi := 40) (by omega) (by omega) i
theorem t_change {pg ps s pb lp rm : Int32} {bp bl ep fi la bg fd hl nh : Nat → Int32} {n : Int32} {st ln : Nat → Int32} {wd z : Nat → Int64} (h : NowL pg ps s lp bp bl ep fi la bg fd hl n st ln wd z) {k : Nat} {hs hl2 : Nat → Nat → Int32} {hw : Nat → Nat → Int64} {hn : Nat → Int32} {past : Nat → Int64} (hh : RHist k hs hl2 hw hn past) (i v : Int32) :
    ∃ r pg' ps' s' pb' lp' rm' bp' bl' ep' fi' la' bg' fd' hl' nh' ln' k' hs' hl2' hw' hn' z' past', f_X5_change pg ps s pb lp rm bp bl ep fi la bg fd hl nh n st ln wd (nI k) hs hl2 hw hn i v = some (r, pg', ps', s', pb', lp', rm', bp', bl', ep', fi', la', bg', fd', hl', nh', ln', nI k', hs', hl2', hw', hn') ∧
      f_X6_change (nI k) z past i v = some (r, nI k', z', past') ∧ NowL pg' ps' s' lp' bp' bl' ep' fi' la' bg' fd' hl' n st ln' wd z' ∧ RHist k' hs' hl2' hw' hn' past' := by
  obtain ⟨k', hs', hl2', hw', hn', past', e1, e2, hh'⟩ := record_both h.rel hh
  obtain ⟨S, N, G, W, o1, o2, hx, hm, -, -⟩ := id h
  have hN := o2.1
  have h3 : z 3 = lN N := hm.1
  obtain ⟨en, hst, hxe⟩ := id hx
  subst en
  unfold f_X5_change f_X6_change
  rcases ix_cases i (show N < 2 ^ 31 by omega) with ⟨e, he, rfl⟩ | hout
  · rw [x_has (by omega) he, if_neg (show ¬ (1 : Int32) = 0 by decide), bd_eq (m_isEntry_in hN h3 he), if_neg (show ¬ (1 : Int32) = 0 by decide), m_in140]
    by_cases g : 1 ≤ v.toInt ∧ v.toInt ≤ 40
    · have hz : z (34 + e) = lN (G e) := by have := (hm.2.2 e he).2; rw [Nat.zero_add] at this; exact this
      obtain ⟨x, rfl, hx1⟩ : ∃ x, v = nI x ∧ 1 ≤ x ∧ x ≤ 40 := by
        refine ⟨v.toInt.toNat, Int32.toInt_inj.mp ?_, by omega, by omega⟩
        rw [nI_toInt (by omega)]
        omega
      have n1 : ¬ nI x < (1 : Int32) := nI_nlt (a := x) (b := 1) (by omega) (by omega)
      have n2 : ¬ (40 : Int32) < nI x := nI_nlt (a := 40) (b := x) (by omega) (by decide)
      have hxe' : ∀ j, j < N → upd ln e (nI x) j = nI (put1 e x G j) ∧ wd j = lN (pk (W j)) := fun j hj => by
        by_cases q : j = e
        · rw [q, upd_eq, put1_eq]
          exact ⟨rfl, (hxe e he).2⟩
        · rw [upd_ne q, put1_ne q]
          exact hxe j hj
      have hm' : MLex S N (put1 e x G) W (vp_updL z (34 + e) (lN x)) 0 := by
        refine ⟨?_, fun j hj => ?_, fun j hj => ⟨?_, ?_⟩⟩
        · exact (show vp_updL z (34 + e) (lN x) (0 + 3) = z (0 + 3) from if_neg (by omega)).trans hm.1
        · exact (show vp_updL z (34 + e) (lN x) (0 + j) = z (0 + j) from if_neg (by omega)).trans (hm.2.1 j hj)
        · exact (show vp_updL z (34 + e) (lN x) (0 + 4 + j) = z (0 + 4 + j) from if_neg (by omega)).trans (hm.2.2 j hj).1
        · by_cases q : j = e
          · rw [q, put1_eq]
            exact (if_pos (by omega) : vp_updL z (34 + e) (lN x) (0 + 34 + e) = lN x)
          · rw [put1_ne q]
            exact (show vp_updL z (34 + e) (lN x) (0 + 34 + j) = z (0 + 34 + j) from if_neg (by omega)).trans (hm.2.2 j hj).2
      have hR : Rel st (upd ln e (nI x)) wd (nI N) (vp_updL z (34 + e) (lN x)) 0 := ⟨S, N, put1 e x G, W, o1, o2.put1 hx1, ⟨rfl, hst, hxe'⟩, hm'⟩
      obtain ⟨pg', ps', s', pb', lp', rm', bp', bl', ep', fi', la', bg', fd', hl', nh', g1, g2⟩ := hR.lay ps pb rm bp bl ep fi la bg fd hl nh
      rw [if_pos g, if_neg (show ¬ (1 : Int32) = 0 by decide), bd_eq e2, bd_eq (m_lines (by omega) hz), n34, gd_t (xin64 (by omega)), clN (show 34 + e < 2 ^ 31 by omega), nI_l (by omega)]
      refine ⟨nI (G e), pg', ps', s', pb', lp', rm', bp', bl', ep', fi', la', bg', fd', hl', nh', _, k', hs', hl2', hw', hn', _, past', ?_, rfl, g2, hh'⟩
      rw [if_neg n1]
      first
        | rw [if_neg n2, bd_eq e1]
        | rw [if_pos (show nI x ≤ (40 : Int32) from nI_le (b := 40) (by omega) (by decide)), bd_eq e1]
      dsimp only
      rw [gd_t (xin_nI (by omega) (by decide)), gd_t (xin_nI (by omega) (by decide)), clN (by omega), (hxe e he).1, bd_eq g1]
    · rw [if_neg g, if_pos rfl]
      by_cases a : v < 1
      · rw [if_pos a]
        exact ⟨-2, pg, ps, s, pb, lp, rm, bp, bl, ep, fi, la, bg, fd, hl, nh, ln, k, hs, hl2, hw, hn, z, past, rfl, rfl, h, hh⟩
      · have b : (40 : Int32) < v := by
          rw [show (1 : Int32) = nI 1 by rfl, i32_ltnI (by decide)] at a
          exact (i32_nIlt (n := 40) (by decide)).mpr (by omega)
        rw [if_neg a]
        first
          | rw [if_pos b]
          | rw [if_neg (show ¬ v ≤ (40 : Int32) from fun c => by rw [Int32.lt_iff_toInt_lt] at b; rw [Int32.le_iff_toInt_le] at c; omega)]
        exact ⟨-2, pg, ps, s, pb, lp, rm, bp, bl, ep, fi, la, bg, fd, hl, nh, ln, k, hs, hl2, hw, hn, z, past, rfl, rfl, h, hh⟩
  · rw [x_hasnt (by omega) hout, if_pos rfl, bd_eq (m_isEntry_out hN h3 hout), if_pos rfl]
    exact ⟨-1, pg, ps, s, pb, lp, rm, bp, bl, ep, fi, la, bg, fd, hl, nh, ln, k, hs, hl2, hw, hn, z, past, rfl, rfl, h, hh⟩
