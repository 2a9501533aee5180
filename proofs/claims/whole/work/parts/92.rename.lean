/-! rename, both sides -/
theorem okp0 (cs : Nat → Nat) : OKP 0 cs := ⟨by omega, fun i hi => absurd hi (Nat.not_lt_zero i)⟩
theorem pad0 (cs : Nat → Nat) (c : Nat → Int32) : PadIs 0 cs c := fun i hi => absurd hi (Nat.not_lt_zero i)
theorem re_core {pg ps s pb lp rm : Int32} {bp bl ep fi la bg fd hl nh : Nat → Int32} {n : Int32} {st ln : Nat → Int32} {wd z : Nat → Int64} (h : NowL pg ps s lp bp bl ep fi la bg fd hl n st ln wd z) {k : Nat} {hs hl2 : Nat → Nat → Int32} {hw : Nat → Nat → Int64} {hn : Nat → Int32} {past : Nat → Int64} (hh : RHist k hs hl2 hw hn past) {N e : Nat} {w : List Nat} (sp : Int32) (how : wOK w) (how1 : 1 ≤ w.length) (hq : ∃ S G W, OKS S ∧ OKE N G W ∧ XLex S N G W st ln wd n ∧ MLex S N G W z 0 ∧ ∀ j, j < N → W j = w → j = e) (he : e < N) :
    ∃ r pg' ps' s' pb' lp' rm' bp' bl' ep' fi' la' bg' fd' hl' nh' n' ln' wd' k' hs' hl2' hw' hn' z' past', J_X5_rename_60 (nI e) ps pb rm bp bl ep fi la bg fd hl nh n st ln wd (nI k) hs hl2 hw hn (lN (pk w)) = some (r, pg', ps', s', pb', lp', rm', bp', bl', ep', fi', la', bg', fd', hl', nh', n', ln', wd', 0, nI k', hs', hl2', hw', hn') ∧
      J_X6_rename_47 (nI e) (nI k) z past (lN (b27 w), sp) = some (r, nI k', 0, sp, z', past') ∧ NowL pg' ps' s' lp' bp' bl' ep' fi' la' bg' fd' hl' n' st ln' wd' z' ∧ RHist k' hs' hl2' hw' hn' past' := by
  obtain ⟨k', hs', hl2', hw', hn', past', e1, e2, hh'⟩ := record_both h.rel hh
  obtain ⟨S, G, W, o1, o2, hx, hm, hone⟩ := hq
  have hN := o2.1
  obtain ⟨en, hst, hxe⟩ := id hx
  subst en
  have hz : z (34 + e) = lN (G e) := by have := (hm.2.2 e he).2; rw [Nat.zero_add] at this; exact this
  obtain ⟨z1, em, hm1⟩ := m_remove hN he hm
  obtain ⟨ln1, wd1, ex, hx1⟩ := x_take hN he hxe
  have o3 := o2.dl he
  have hno : ∀ j, j < N - 1 → dl e W j ≠ w := fun j hj c => by
    by_cases q : j < e
    · rw [dl_lt q] at c
      have := hone j (by omega) c
      omega
    · rw [dl_ge (by omega)] at c
      have := hone (j + 1) (by omega) c
      omega
  obtain ⟨p', z2, hp', ei, hm2⟩ := m_insert o3 (by omega) hm1 how hno (G e)
  rcases x_tell o3 hx1 how (G e) with ⟨j, -, hj, hj2, -⟩ | ⟨-, c, -⟩ | ⟨-, -, p, ln2, wd2, hp, et, hx2⟩
  · exact absurd hj2 (hno j hj)
  · omega
  · have epp := plOf_one hp hp'
    subst epp
    have hNN : N - 1 + 1 = N := by omega
    have o4 := o3.ins (by omega) hp hno how how1 (g := G e) ⟨(o2.2.1 e he).1, (o2.2.1 e he).2.1⟩
    have hpN : p < N - 1 + 1 := by have := hp.1; omega
    have hnum : f_X1_numberOf (nI (N - 1 + 1)) wd2 (lN (pk w)) = some (nI p) := by
      rcases x_number o4 (fun i hi => (hx2 i hi).2) how with ⟨j, hj, hj2, hj3⟩ | ⟨c, -⟩
      · have : j = p := w_one o4 hj hpN (by rw [hj2, ins_eq])
        rw [← this]
        exact hj3
      · exact absurd ins_eq (c p hpN)
    have hR : Rel st ln2 wd2 (nI (N - 1 + 1)) z2 0 := ⟨S, N - 1 + 1, _, _, o1, o4, ⟨rfl, hst, hx2⟩, hm2⟩
    obtain ⟨pg', ps', s', pb', lp', rm', bp', bl', ep', fi', la', bg', fd', hl', nh', f1, f2⟩ := hR.lay ps pb rm bp bl ep fi la bg fd hl nh
    refine ⟨nI p, pg', ps', s', pb', lp', rm', bp', bl', ep', fi', la', bg', fd', hl', nh', nI (N - 1 + 1), ln2, wd2, k', hs', hl2', hw', hn', z2, past', ?_, ?_, f2, hh'⟩
    · unfold J_X5_rename_60
      rw [bd_eq e1]
      dsimp only
      rw [gd_t (xin_nI (by omega) (by decide)), bd_eq ex]
      dsimp only
      rw [clN (by omega), (hxe e he).1, bd_eq et]
      dsimp only
      rw [bd_eq f1, bd_eq hnum]
      rfl
    · unfold J_X6_rename_47
      rw [bd_eq e2]
      dsimp only
      rw [n34, gd_t (xin64 (by omega)), bd_eq em, clN (by omega), hz, bd_eq ei]
theorem t_rename {pg ps s pb lp rm : Int32} {bp bl ep fi la bg fd hl nh : Nat → Int32} {n : Int32} {st ln : Nat → Int32} {wd z : Nat → Int64} (h : NowL pg ps s lp bp bl ep fi la bg fd hl n st ln wd z) {k : Nat} {hs hl2 : Nat → Nat → Int32} {hw : Nat → Nat → Int64} {hn : Nat → Int32} {past : Nat → Int64} (hh : RHist k hs hl2 hw hn past) {t : Nat} {cs : Nat → Nat} {codes pd : Nat → Int32} (okp : OKP t cs) (p1 : PadIs t cs codes) (p2 : PadIs t cs pd) (i sp : Int32) :
    ∃ r pg' ps' s' pb' lp' rm' bp' bl' ep' fi' la' bg' fd' hl' nh' n' ln' wd' t' k' hs' hl2' hw' hn' sp' z' past', f_X5_rename pg ps s pb lp rm bp bl ep fi la bg fd hl nh n st ln wd (nI t) codes (nI k) hs hl2 hw hn i = some (r, pg', ps', s', pb', lp', rm', bp', bl', ep', fi', la', bg', fd', hl', nh', n', ln', wd', nI t', nI k', hs', hl2', hw', hn') ∧
      f_X6_rename (nI k) (nI t) sp z past pd i = some (r, nI k', nI t', sp', z', past') ∧ OKP t' cs ∧ PadIs t' cs codes ∧ PadIs t' cs pd ∧ NowL pg' ps' s' lp' bp' bl' ep' fi' la' bg' fd' hl' n' st ln' wd' z' ∧ RHist k' hs' hl2' hw' hn' past' := by
  obtain ⟨S, N, G, W, o1, o2, hx, hm, -, -⟩ := id h
  have hN := o2.1
  have h3 : z 3 = lN N := hm.1
  obtain ⟨en, hst, hxe⟩ := id hx
  subst en
  unfold f_X5_rename f_X6_rename
  rcases ix_cases i (show N < 2 ^ 31 by omega) with ⟨e, he, rfl⟩ | hout
  · rw [x_has (by omega) he, if_neg (show ¬ (1 : Int32) = 0 by decide), bd_eq (m_isEntry_in hN h3 he), if_neg (show ¬ (1 : Int32) = 0 by decide)]
    rcases pad_word okp p1 p2 with ⟨w, q, how, how1, a1, a2, a3⟩ | ⟨q, a1, a3⟩
    · have hb : ¬ lN (b27 w) = 0 := fun c => by have := (b27_0 how).mp c; omega
      have hc : ∀ (hone : ∀ j, j < N → W j = w → j = e), ∃ r pg' ps' s' pb' lp' rm' bp' bl' ep' fi' la' bg' fd' hl' nh' n' ln' wd' k' hs' hl2' hw' hn' z' past', J_X5_rename_60 (nI e) ps pb rm bp bl ep fi la bg fd hl nh (nI N) st ln wd (nI k) hs hl2 hw hn (lN (pk w)) = some (r, pg', ps', s', pb', lp', rm', bp', bl', ep', fi', la', bg', fd', hl', nh', n', ln', wd', 0, nI k', hs', hl2', hw', hn') ∧
          J_X6_rename_47 (nI e) (nI k) z past (lN (b27 w), q) = some (r, nI k', 0, q, z', past') ∧ NowL pg' ps' s' lp' bp' bl' ep' fi' la' bg' fd' hl' n' st ln' wd' z' ∧ RHist k' hs' hl2' hw' hn' past' := fun hone => re_core h hh (pb := pb) (rm := rm) (nh := nh) q how how1 ⟨S, G, W, o1, o2, hx, hm, hone⟩ he
      have hzw : ∀ i, i < N → z (4 + i) = lN (b27 (W i)) := fun j hj => by have := (hm.2.2 j hj).1; rw [Nat.zero_add] at this; exact this
      rw [bd_eq a1, if_neg (show ¬ (1 : Int32) = 0 by decide), bd_eq a2, bd_eq a3]
      dsimp only
      rw [if_neg hb]
      rcases x_number o2 (fun j hj => (hxe j hj).2) how with ⟨e1, he1, w1, b1⟩ | ⟨w1, b1⟩
      · have b2 : f_X6_entryWith z (lN (b27 w)) = some (nI e1) := by
          rcases m_with o2 h3 hzw how with ⟨e2, he2, w2, b2⟩ | ⟨w2, b2⟩
          · rw [w_one o2 he1 he2 (w1.trans w2.symm)]
            exact b2
          · exact absurd w1 (w2 e1 he1)
        rw [bd_eq b1, bd_eq b2, if_neg (nI_m6 (by omega)), if_neg (nI_m6 (by omega))]
        by_cases q1 : e1 = e
        · subst q1
          obtain ⟨r, pg', ps', s', pb', lp', rm', bp', bl', ep', fi', la', bg', fd', hl', nh', n', ln', wd', k', hs', hl2', hw', hn', z', past', f1, f2, f3, f4⟩ := hc (fun j hj hj2 => w_one o2 hj he1 (hj2.trans w1.symm))
          rw [if_pos rfl, if_pos rfl]
          exact ⟨r, pg', ps', s', pb', lp', rm', bp', bl', ep', fi', la', bg', fd', hl', nh', n', ln', wd', 0, k', hs', hl2', hw', hn', q, z', past', f1, f2, okp0 cs, pad0 cs codes, pad0 cs pd, f3, f4⟩
        · have q2 : ¬ nI e1 = nI e := fun c => q1 ((nI_eq (by omega) (by omega)).mp c)
          rw [if_neg q2, if_neg q2]
          exact ⟨-5, pg, ps, s, pb, lp, rm, bp, bl, ep, fi, la, bg, fd, hl, nh, nI N, ln, wd, t, k, hs, hl2, hw, hn, q, z, past, rfl, rfl, okp, p1, p2, h, hh⟩
      · have b2 : f_X6_entryWith z (lN (b27 w)) = some (-6) := by
          rcases m_with o2 h3 hzw how with ⟨e2, he2, w2, b2⟩ | ⟨w2, b2⟩
          · exact absurd w2 (w1 e2 he2)
          · exact b2
        obtain ⟨r, pg', ps', s', pb', lp', rm', bp', bl', ep', fi', la', bg', fd', hl', nh', n', ln', wd', k', hs', hl2', hw', hn', z', past', f1, f2, f3, f4⟩ := hc (fun j hj hj2 => absurd hj2 (w1 j hj))
        rw [bd_eq b1, bd_eq b2, if_pos rfl, if_pos rfl]
        exact ⟨r, pg', ps', s', pb', lp', rm', bp', bl', ep', fi', la', bg', fd', hl', nh', n', ln', wd', 0, k', hs', hl2', hw', hn', q, z', past', f1, f2, okp0 cs, pad0 cs codes, pad0 cs pd, f3, f4⟩
    · rw [bd_eq a1, if_pos rfl, bd_eq a3]
      dsimp only
      rw [if_pos rfl]
      exact ⟨-3, pg, ps, s, pb, lp, rm, bp, bl, ep, fi, la, bg, fd, hl, nh, nI N, ln, wd, t, k, hs, hl2, hw, hn, q, z, past, rfl, rfl, okp, p1, p2, h, hh⟩
  · rw [x_hasnt (by omega) hout, if_pos rfl, bd_eq (m_isEntry_out hN h3 hout), if_pos rfl]
    exact ⟨-1, pg, ps, s, pb, lp, rm, bp, bl, ep, fi, la, bg, fd, hl, nh, nI N, ln, wd, t, k, hs, hl2, hw, hn, sp, z, past, rfl, rfl, okp, p1, p2, h, hh⟩
