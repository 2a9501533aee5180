/-! saved states -/
def SLots (ss sl : Nat → Nat → Int32) (sw : Nat → Nat → Int64) (sn sv : Nat → Int32) (mz : Nat → Int64) (mv : Nat → Int32) : Prop :=
  ∀ j, j < 2 → sv j = mv j ∧ (¬ sv j = 0 → Rel (ss j) (sl j) (sw j) (sn j) mz (64 * j))
theorem slot_both (i : Int32) : (∃ j, j < 2 ∧ i = nI j ∧ f_X5_isSlot i = 1 ∧ f_X6_in i.toInt64 0 1 = 1) ∨ (f_X5_isSlot i = 0 ∧ f_X6_in i.toInt64 0 1 = 0) := by
  have em : f_X6_in i.toInt64 0 1 = if ((0 : Nat) : Int) ≤ i.toInt ∧ i.toInt ≤ ((1 : Nat) : Int) then 1 else 0 := m_inL (lo := 0) (hi := 1) (by omega) (by omega) i
  rw [em]
  rcases ix_cases i (show 2 < 2 ^ 31 by omega) with ⟨j, hj, rfl⟩ | hout
  · left
    refine ⟨j, hj, rfl, ?_, if_pos ?_⟩
    · rcases (show j = 0 ∨ j = 1 by omega) with rfl | rfl <;> rfl
    · rw [nI_toInt (by omega)]
      omega
  · right
    refine ⟨?_, if_neg (by omega)⟩
    unfold f_X5_isSlot
    by_cases q : i < 0
    · rw [if_pos q]
    · have q2 : 0 ≤ i.toInt := by
        rw [Int32.lt_iff_toInt_lt] at q
        have : (0 : Int32).toInt = 0 := rfl
        omega
      have q3 : (2 : Int32) ≤ i := by
        rw [Int32.le_iff_toInt_le]
        have : (2 : Int32).toInt = 2 := rfl
        omega
      rw [if_neg q, if_pos q3]
theorem t_save {pg ps s pb lp rm : Int32} {bp bl ep fi la bg fd hl nh : Nat → Int32} {n : Int32} {st ln : Nat → Int32} {wd z : Nat → Int64} (h : NowL pg ps s lp bp bl ep fi la bg fd hl n st ln wd z) {k : Nat} {hs hl2 : Nat → Nat → Int32} {hw : Nat → Nat → Int64} {hn : Nat → Int32} {past : Nat → Int64} (hh : RHist k hs hl2 hw hn past) {ss sl : Nat → Nat → Int32} {sw : Nat → Nat → Int64} {sn sv : Nat → Int32} {mz : Nat → Int64} {mv : Nat → Int32} (hs0 : SLots ss sl sw sn sv mz mv) (i : Int32) :
    ∃ r ss' sl' sw' sn' sv' mz' mv', f_X5_save ss sl sw sn sv n st ln wd i = some (r, ss', sl', sw', sn', sv') ∧ f_X6_save z mz mv i = some (r, mz', mv') ∧ SLots ss' sl' sw' sn' sv' mz' mv' := by
  unfold f_X5_save f_X6_save
  rcases slot_both i with ⟨j, hj, rfl, a1, a2⟩ | ⟨a1, a2⟩
  · obtain ⟨st', ln', wd', b1, b2⟩ := x_copyR h.rel (ss j) (sl j) (sw j)
    obtain ⟨mz', c1, c2, c3⟩ := m_copy (a := 0) (b := 64 * j) (n0 := 64) (n2 := 128) z mz (by omega) (by omega) (by decide) (by decide)
    have em : f_X6_many z = n := by
      obtain ⟨S, N, G, W, -, -, hx, hm, -⟩ := h
      rw [m_many hm.1]
      exact hx.1.symm
    have e64 : (64 : Int32) * nI j = nI (64 * j) := by rcases (show j = 0 ∨ j = 1 by omega) with rfl | rfl <;> rfl
    have c1' : f_X6_copyState 64 z 128 mz 0 (64 * nI j) = some mz' := by rw [e64]; exact c1
    have hS' : SLots (va_up ss j st') (va_up sl j ln') (va_up sw j wd') (va_up sn j n) (upd sv j 1) mz' (upd mv j 1) := fun q hq => by
      by_cases d : q = j
      · subst d
        rw [up_eq, up_eq, up_eq, up_eq, upd_eq, upd_eq]
        exact ⟨rfl, fun _ => b2.copy (fun k hk => by rw [c3 k hk])⟩
      · rw [up_ne d, up_ne d, up_ne d, up_ne d, upd_ne d, upd_ne d]
        refine ⟨(hs0 q hq).1, fun hq2 => ((hs0 q hq).2 hq2).copy (fun k hk => c2 _ ?_)⟩
        omega
    refine ⟨n, va_up ss j st', va_up sl j ln', va_up sw j wd', va_up sn j n, upd sv j 1, mz', upd mv j 1, ?_, ?_, hS'⟩
    · rw [a1, if_neg (show ¬ (1 : Int32) = 0 by decide), gd_t (xin_nI hj (by decide))]
      rcases (show j = 0 ∨ j = 1 by omega) with rfl | rfl
      · rw [if_pos (show nI 0 = (0 : Int32) by decide), bd_eq b1]
        dsimp only
        rw [gd_t (xin_nI hj (by decide)), clN (by omega)]
      · rw [if_neg (show ¬ nI 1 = (0 : Int32) by decide), bd_eq b1]
        dsimp only
        rw [gd_t (xin_nI hj (by decide)), clN (by omega)]
    · rw [a2, if_neg (show ¬ (1 : Int32) = 0 by decide), bd_eq c1', gd_t (xin_nI hj (by decide)), clN (by omega), em]
  · rw [a1, if_pos rfl, a2, if_pos rfl]
    exact ⟨-2, ss, sl, sw, sn, sv, mz, mv, rfl, rfl, hs0⟩
theorem t_restore {pg ps s pb lp rm : Int32} {bp bl ep fi la bg fd hl nh : Nat → Int32} {n : Int32} {st ln : Nat → Int32} {wd z : Nat → Int64} (h : NowL pg ps s lp bp bl ep fi la bg fd hl n st ln wd z) {k : Nat} {hs hl2 : Nat → Nat → Int32} {hw : Nat → Nat → Int64} {hn : Nat → Int32} {past : Nat → Int64} (hh : RHist k hs hl2 hw hn past) {ss sl : Nat → Nat → Int32} {sw : Nat → Nat → Int64} {sn sv : Nat → Int32} {mz : Nat → Int64} {mv : Nat → Int32} (hs0 : SLots ss sl sw sn sv mz mv) (i : Int32) :
    ∃ r pg' ps' s' pb' lp' rm' bp' bl' ep' fi' la' bg' fd' hl' nh' n' st' ln' wd' k' hs' hl2' hw' hn' z' past', f_X5_restore ss sl sw sn sv pg ps s pb lp rm bp bl ep fi la bg fd hl nh n st ln wd (nI k) hs hl2 hw hn i = some (r, pg', ps', s', pb', lp', rm', bp', bl', ep', fi', la', bg', fd', hl', nh', n', st', ln', wd', nI k', hs', hl2', hw', hn') ∧
      f_X6_restore (nI k) z past mz mv i = some (r, nI k', z', past') ∧ NowL pg' ps' s' lp' bp' bl' ep' fi' la' bg' fd' hl' n' st' ln' wd' z' ∧ RHist k' hs' hl2' hw' hn' past' := by
  obtain ⟨k', hs', hl2', hw', hn', past', e1, e2, hh'⟩ := record_both h.rel hh
  unfold f_X5_restore f_X6_restore
  rcases slot_both i with ⟨j, hj, rfl, a1, a2⟩ | ⟨a1, a2⟩
  · rw [a1, if_neg (show ¬ (1 : Int32) = 0 by decide), gd_t (xin_nI hj (by decide)), a2, if_neg (show ¬ (1 : Int32) = 0 by decide), gd_t (xin_nI hj (by decide)), clN (by omega), ← (hs0 j hj).1]
    by_cases q : sv j = 0
    · rw [if_pos q, if_pos q]
      exact ⟨-5, pg, ps, s, pb, lp, rm, bp, bl, ep, fi, la, bg, fd, hl, nh, n, st, ln, wd, k, hs, hl2, hw, hn, z, past, rfl, rfl, h, hh⟩
    · have hr := (hs0 j hj).2 q
      obtain ⟨st', ln', wd', b1, b2⟩ := x_copyR hr st ln wd
      obtain ⟨z', c1, -, c3⟩ := m_copy (a := 64 * j) (b := 0) (n0 := 128) (n2 := 64) mz z (by omega) (by omega) (by decide) (by decide)
      have e64 : (64 : Int32) * nI j = nI (64 * j) := by rcases (show j = 0 ∨ j = 1 by omega) with rfl | rfl <;> rfl
      have c1' : f_X6_copyState 128 mz 64 z (64 * nI j) 0 = some z' := by rw [e64]; exact c1
      have hR : Rel st' ln' wd' (sn j) z' 0 := b2.copy c3
      obtain ⟨pg', ps', s', pb', lp', rm', bp', bl', ep', fi', la', bg', fd', hl', nh', f1, f2⟩ := hR.lay ps pb rm bp bl ep fi la bg fd hl nh
      have em : f_X6_many z' = sn j := by
        obtain ⟨S, N, G, W, -, -, hx, hm⟩ := hR
        rw [m_many hm.1]
        exact hx.1.symm
      rw [if_neg q, if_neg q]
      refine ⟨sn j, pg', ps', s', pb', lp', rm', bp', bl', ep', fi', la', bg', fd', hl', nh', sn j, st', ln', wd', k', hs', hl2', hw', hn', z', past', ?_, ?_, f2, hh'⟩
      · rw [bd_eq e1]
        dsimp only
        rw [gd_t (xin_nI hj (by decide))]
        rcases (show j = 0 ∨ j = 1 by omega) with rfl | rfl
        · rw [if_pos (show nI 0 = (0 : Int32) by decide), bd_eq b1]
          dsimp only
          rw [bd_eq f1]
        · rw [if_neg (show ¬ nI 1 = (0 : Int32) by decide), bd_eq b1]
          dsimp only
          rw [bd_eq f1]
      · rw [bd_eq e2]
        dsimp only
        rw [bd_eq c1', em]
  · rw [a1, if_pos rfl, a2, if_pos rfl]
    exact ⟨-2, pg, ps, s, pb, lp, rm, bp, bl, ep, fi, la, bg, fd, hl, nh, n, st, ln, wd, k, hs, hl2, hw, hn, z, past, rfl, rfl, h, hh⟩
