/-! each call of the class does what is said -/
theorem inE_t {l : LexT} {e : Nat} (he : e < zN l) (hN : zN l ≤ 30) : inE l (nI e) = true := by
  unfold inE
  rw [nI_toInt (by omega)]
  exact decide_eq_true ⟨by omega, by omega⟩
theorem inE_f {l : LexT} {i : Int32} (h : i.toInt < 0 ∨ (zN l : Int) ≤ i.toInt) : inE l i = false := by
  unfold inE
  exact decide_eq_false (by omega)
theorem tn {e : Nat} (h : e < 2 ^ 31) : (nI e).toInt.toNat = e := by rw [nI_toInt h]; rfl
theorem val_n {lo hi : Nat} (hh : hi ≤ 2000) {v : Int32} (h : (lo : Int) ≤ v.toInt ∧ v.toInt ≤ (hi : Int)) : ∃ vn, v = nI vn ∧ lo ≤ vn ∧ vn ≤ hi := by
  refine ⟨v.toInt.toNat, Int32.toInt_inj.mp ?_, by omega, by omega⟩
  rw [nI_toInt (by omega)]
  omega
theorem x_value {jn lo hi : Nat} (hj : jn < 3) (hl : lo < 2 ^ 31) (hh : hi < 2 ^ 31) (e1 : lowF jn = nI lo) (e2 : highF jn = nI hi) (v : Int32) : f_X5_isSettingValue (nI jn) v = some (if (lo : Int) ≤ v.toInt ∧ v.toInt ≤ (hi : Int) then 1 else 0) := by
  unfold f_X5_isSettingValue
  rw [if_neg (show ¬ nI jn < (0 : Int32) from nI_nlt (a := jn) (b := 0) (by omega) (by omega)), if_neg (show ¬ (3 : Int32) ≤ nI jn from nI_ge (a := jn) (b := 3) (by omega) (by decide)), gd_t (xin_nI hj (by decide)), clN (by omega), e1, e2]
  by_cases a : v.toInt < (lo : Int)
  · rw [if_pos ((i32_ltnI hl).mpr a), if_neg (by omega)]
  · rw [if_neg (fun q => a ((i32_ltnI hl).mp q)), gd_t (xin_nI hj (by decide))]
    by_cases b : (hi : Int) < v.toInt
    · rw [if_pos ((i32_nIlt hh).mpr b), if_neg (by omega)]
    · rw [if_neg (fun q => b ((i32_nIlt hh).mp q)), if_pos (by omega)]
theorem okV_n (v : Int32) : okV (nI 0) v = decide (((6 : Nat) : Int) ≤ v.toInt ∧ v.toInt ≤ ((40 : Nat) : Int)) ∧ okV (nI 1) v = decide (((4 : Nat) : Int) ≤ v.toInt ∧ v.toInt ≤ ((30 : Nat) : Int)) ∧ okV (nI 2) v = decide (((1 : Nat) : Int) ≤ v.toInt ∧ v.toInt ≤ ((3 : Nat) : Int)) := by
  have a0 : (nI 0).toInt = 0 := rfl
  have a1 : (nI 1).toInt = 1 := rfl
  have a2 : (nI 2).toInt = 2 := rfl
  unfold okV
  rw [a0, a1, a2]
  refine ⟨decide_eq_decide.mpr ?_, decide_eq_decide.mpr ?_, decide_eq_decide.mpr ?_⟩ <;> omega
/-- a setting can have a value, or not -/
theorem tt_value (j v : Int32) : (∃ jn vn, jn < 3 ∧ j = nI jn ∧ v = nI vn ∧ vn ≤ 40 ∧ (∀ S, OKS S → OKS (put1 jn vn S)) ∧ f_X5_isSettingValue j v = some 1 ∧ okV j v = true) ∨ (f_X5_isSettingValue j v = some 0 ∧ okV j v = false) := by
  rcases ix_cases j (show 3 < 2 ^ 31 by omega) with ⟨jn, hj, rfl⟩ | hout
  · obtain ⟨v0, v1, v2⟩ := okV_n v
    rcases (show jn = 0 ∨ jn = 1 ∨ jn = 2 by omega) with rfl | rfl | rfl
    · have ex := x_value (jn := 0) (lo := 6) (hi := 40) (by omega) (by omega) (by omega) rfl rfl v
      by_cases g : ((6 : Nat) : Int) ≤ v.toInt ∧ v.toInt ≤ ((40 : Nat) : Int)
      · rw [if_pos g] at ex
        rw [decide_eq_true g] at v0
        obtain ⟨vn, h1, h2, h3⟩ := val_n (by omega) g
        exact Or.inl ⟨0, vn, by omega, rfl, h1, h3, fun S o => ⟨by rw [put1_eq]; exact ⟨h2, h3⟩, by rw [put1_ne (by omega)]; exact o.2.1, by rw [put1_ne (by omega)]; exact o.2.2⟩, ex, v0⟩
      · rw [if_neg g] at ex
        rw [decide_eq_false g] at v0
        exact Or.inr ⟨ex, v0⟩
    · have ex := x_value (jn := 1) (lo := 4) (hi := 30) (by omega) (by omega) (by omega) rfl rfl v
      by_cases g : ((4 : Nat) : Int) ≤ v.toInt ∧ v.toInt ≤ ((30 : Nat) : Int)
      · rw [if_pos g] at ex
        rw [decide_eq_true g] at v1
        obtain ⟨vn, h1, h2, h3⟩ := val_n (by omega) g
        exact Or.inl ⟨1, vn, by omega, rfl, h1, by omega, fun S o => ⟨by rw [put1_ne (by omega)]; exact o.1, by rw [put1_eq]; exact ⟨h2, h3⟩, by rw [put1_ne (by omega)]; exact o.2.2⟩, ex, v1⟩
      · rw [if_neg g] at ex
        rw [decide_eq_false g] at v1
        exact Or.inr ⟨ex, v1⟩
    · have ex := x_value (jn := 2) (lo := 1) (hi := 3) (by omega) (by omega) (by omega) rfl rfl v
      by_cases g : ((1 : Nat) : Int) ≤ v.toInt ∧ v.toInt ≤ ((3 : Nat) : Int)
      · rw [if_pos g] at ex
        rw [decide_eq_true g] at v2
        obtain ⟨vn, h1, h2, h3⟩ := val_n (by omega) g
        exact Or.inl ⟨2, vn, by omega, rfl, h1, by omega, fun S o => ⟨by rw [put1_ne (by omega)]; exact o.1, by rw [put1_ne (by omega)]; exact o.2.1, by rw [put1_eq]; exact ⟨h2, h3⟩⟩, ex, v2⟩
      · rw [if_neg g] at ex
        rw [decide_eq_false g] at v2
        exact Or.inr ⟨ex, v2⟩
  · right
    constructor
    · unfold f_X5_isSettingValue
      by_cases a : j < 0
      · rw [if_pos a]
      · rw [if_neg a, if_pos]
        rw [i32_neg] at a
        exact (i32_nIle (n := 3) (by decide)).mpr (by omega)
    · unfold okV
      exact decide_eq_false (by omega)
section TB
variable {M : ObjT} {pg ps s pb lop rm : Int32} {bp bl ep fi la bg fd hl nh : Nat → Int32} {n : Int32} {st ln : Nat → Int32} {wd : Nat → Int64} {k : Int32} {hs hl2 : Nat → Nat → Int32} {hw : Nat → Nat → Int64} {hn : Nat → Int32} {t : Int32} {codes : Nat → Int32} {ss sl : Nat → Nat → Int32} {sw : Nat → Nat → Int64} {sn sv : Nat → Int32}
theorem tt_set (h : XNow (oL M) pg ps s lop bp bl ep fi la bg fd hl n st ln wd) (hh : XHist (oH M) k hs hl2 hw hn) (j v : Int32) :
    ∃ pg' ps' s' pb' lop' rm' bp' bl' ep' fi' la' bg' fd' hl' nh' st' k' hs' hl2' hw' hn', f_X5_set pg ps s pb lop rm bp bl ep fi la bg fd hl nh n st ln wd k hs hl2 hw hn j v = some ((aSet M j v).1, pg', ps', s', pb', lop', rm', bp', bl', ep', fi', la', bg', fd', hl', nh', st', k', hs', hl2', hw', hn') ∧
      XNow (oL (aSet M j v).2) pg' ps' s' lop' bp' bl' ep' fi' la' bg' fd' hl' n st' ln wd ∧ XHist (oH (aSet M j v).2) k' hs' hl2' hw' hn' ∧ oP (aSet M j v).2 = oP M ∧ oA (aSet M j v).2 = oA M ∧ oB (aSet M j v).2 = oB M := by
  unfold f_X5_set aSet
  rcases tt_value j v with ⟨jn, vn, hj, rfl, rfl, hv, ho, g1, g2⟩ | ⟨g1, g2⟩
  · obtain ⟨k', hs', hl2', hw', hn', e1, hh'⟩ := x_record h.1 hh
    obtain ⟨⟨ok, en, hst, hxe⟩, -⟩ := id h
    subst en
    have hst' : ∀ i, i < 3 → upd st jn (nI vn) i = nI (put1 jn vn (zS (oL M)) i) := fun i hi => by
      by_cases q : i = jn
      · rw [q, upd_eq, put1_eq]
      · rw [upd_ne q, put1_ne q]
        exact hst i hi
    have eL : setL (oL M) (nI jn) (nI vn) = (put1 jn vn (zS (oL M)), zN (oL M), zG (oL M), zW (oL M)) := by unfold setL; rw [tn (by omega), tn (by omega)]
    have hR : HLex (put1 jn vn (zS (oL M)), zN (oL M), zG (oL M), zW (oL M)) (upd st jn (nI vn)) ln wd (nI (zN (oL M))) := ⟨⟨ho _ ok.1, ok.2⟩, rfl, hst', hxe⟩
    obtain ⟨pg', ps', s', pb', lop', rm', bp', bl', ep', fi', la', bg', fd', hl', nh', f1, f2⟩ := x_relay hR ps pb rm bp bl ep fi la bg fd hl nh
    rw [g1, g2, if_pos rfl, tn (by omega), eL]
    refine ⟨pg', ps', s', pb', lop', rm', bp', bl', ep', fi', la', bg', fd', hl', nh', _, k', hs', hl2', hw', hn', ?_, f2, hh', rfl, rfl, rfl⟩
    rw [bd_eq rfl, if_neg (show ¬ (1 : Int32) = 0 by decide), bd_eq e1]
    dsimp only
    rw [gd_t (xin_nI (by omega) (by decide)), gd_t (xin_nI (by omega) (by decide)), clN (by omega), hst jn hj, bd_eq f1]
  · rw [g1, g2, if_neg Bool.false_ne_true]
    exact ⟨pg, ps, s, pb, lop, rm, bp, bl, ep, fi, la, bg, fd, hl, nh, st, k, hs, hl2, hw, hn, rfl, h, hh, rfl, rfl, rfl⟩
theorem tt_change (h : XNow (oL M) pg ps s lop bp bl ep fi la bg fd hl n st ln wd) (hh : XHist (oH M) k hs hl2 hw hn) (i v : Int32) :
    ∃ pg' ps' s' pb' lop' rm' bp' bl' ep' fi' la' bg' fd' hl' nh' ln' k' hs' hl2' hw' hn', f_X5_change pg ps s pb lop rm bp bl ep fi la bg fd hl nh n st ln wd k hs hl2 hw hn i v = some ((aChange M i v).1, pg', ps', s', pb', lop', rm', bp', bl', ep', fi', la', bg', fd', hl', nh', ln', k', hs', hl2', hw', hn') ∧
      XNow (oL (aChange M i v).2) pg' ps' s' lop' bp' bl' ep' fi' la' bg' fd' hl' n st ln' wd ∧ XHist (oH (aChange M i v).2) k' hs' hl2' hw' hn' ∧ oP (aChange M i v).2 = oP M ∧ oA (aChange M i v).2 = oA M ∧ oB (aChange M i v).2 = oB M := by
  obtain ⟨k', hs', hl2', hw', hn', e1, hh'⟩ := x_record h.1 hh
  obtain ⟨⟨ok, en, hst, hxe⟩, -⟩ := id h
  have hN := ok.2.1
  subst en
  unfold f_X5_change aChange
  rcases ix_cases i (show zN (oL M) < 2 ^ 31 by omega) with ⟨e, he, rfl⟩ | hout
  · rw [x_has (by omega) he, if_neg (show ¬ (1 : Int32) = 0 by decide), inE_t he hN, if_pos rfl]
    by_cases g : 1 ≤ v.toInt ∧ v.toInt ≤ 40
    · obtain ⟨x, rfl, hx1⟩ := val_n (lo := 1) (hi := 40) (by omega) g
      have n1 : ¬ nI x < (1 : Int32) := nI_nlt (a := x) (b := 1) (by omega) (by omega)
      have n2 : nI x ≤ (40 : Int32) := nI_le (b := 40) (by omega) (by decide)
      have hxe' : ∀ j, j < zN (oL M) → upd ln e (nI x) j = nI (put1 e x (zG (oL M)) j) ∧ wd j = lN (pk (zW (oL M) j)) := fun j hj => by
        by_cases q : j = e
        · rw [q, upd_eq, put1_eq]
          exact ⟨rfl, (hxe e he).2⟩
        · rw [upd_ne q, put1_ne q]
          exact hxe j hj
      have hR : HLex (chgL (oL M) e x) st (upd ln e (nI x)) wd (nI (zN (oL M))) := ⟨⟨ok.1, ok.2.put1 hx1⟩, rfl, hst, hxe'⟩
      obtain ⟨pg', ps', s', pb', lop', rm', bp', bl', ep', fi', la', bg', fd', hl', nh', g1, g2⟩ := x_relay hR ps pb rm bp bl ep fi la bg fd hl nh
      rw [if_pos g, tn (by omega), tn (by omega)]
      refine ⟨pg', ps', s', pb', lop', rm', bp', bl', ep', fi', la', bg', fd', hl', nh', _, k', hs', hl2', hw', hn', ?_, g2, hh', rfl, rfl, rfl⟩
      rw [if_neg n1, if_pos n2, bd_eq e1]
      dsimp only
      rw [gd_t (xin_nI (by omega) (by decide)), gd_t (xin_nI (by omega) (by decide)), clN (by omega), (hxe e he).1, bd_eq g1]
    · rw [if_neg g]
      by_cases a : v < 1
      · rw [if_pos a]
        exact ⟨pg, ps, s, pb, lop, rm, bp, bl, ep, fi, la, bg, fd, hl, nh, ln, k, hs, hl2, hw, hn, rfl, h, hh, rfl, rfl, rfl⟩
      · have b : ¬ v ≤ (40 : Int32) := by
          rw [show (1 : Int32) = nI 1 by rfl, i32_ltnI (by decide)] at a
          rw [show (40 : Int32) = nI 40 by rfl, i32_lenI (by decide)]
          omega
        rw [if_neg a, if_neg b]
        exact ⟨pg, ps, s, pb, lop, rm, bp, bl, ep, fi, la, bg, fd, hl, nh, ln, k, hs, hl2, hw, hn, rfl, h, hh, rfl, rfl, rfl⟩
  · rw [x_hasnt (by omega) hout, if_pos rfl, inE_f hout, if_neg Bool.false_ne_true]
    exact ⟨pg, ps, s, pb, lop, rm, bp, bl, ep, fi, la, bg, fd, hl, nh, ln, k, hs, hl2, hw, hn, rfl, h, hh, rfl, rfl, rfl⟩
theorem tt_drop (h : XNow (oL M) pg ps s lop bp bl ep fi la bg fd hl n st ln wd) (hh : XHist (oH M) k hs hl2 hw hn) (i : Int32) :
    ∃ pg' ps' s' pb' lop' rm' bp' bl' ep' fi' la' bg' fd' hl' nh' n' ln' wd' k' hs' hl2' hw' hn', f_X5_drop pg ps s pb lop rm bp bl ep fi la bg fd hl nh n st ln wd k hs hl2 hw hn i = some ((aDrop M i).1, pg', ps', s', pb', lop', rm', bp', bl', ep', fi', la', bg', fd', hl', nh', n', ln', wd', k', hs', hl2', hw', hn') ∧
      XNow (oL (aDrop M i).2) pg' ps' s' lop' bp' bl' ep' fi' la' bg' fd' hl' n' st ln' wd' ∧ XHist (oH (aDrop M i).2) k' hs' hl2' hw' hn' ∧ oP (aDrop M i).2 = oP M ∧ oA (aDrop M i).2 = oA M ∧ oB (aDrop M i).2 = oB M := by
  obtain ⟨k', hs', hl2', hw', hn', e1, hh'⟩ := x_record h.1 hh
  obtain ⟨⟨ok, en, hst, hxe⟩, -⟩ := id h
  have hN := ok.2.1
  subst en
  unfold f_X5_drop aDrop
  rcases ix_cases i (show zN (oL M) < 2 ^ 31 by omega) with ⟨e, he, rfl⟩ | hout
  · obtain ⟨ln', wd', ex, hx'⟩ := x_take hN he hxe
    have hR : HLex (delL (oL M) e) st ln' wd' (nI (zN (oL M) - 1)) := ⟨⟨ok.1, ok.2.dl he⟩, rfl, hst, hx'⟩
    obtain ⟨pg', ps', s', pb', lop', rm', bp', bl', ep', fi', la', bg', fd', hl', nh', g1, g2⟩ := x_relay hR ps pb rm bp bl ep fi la bg fd hl nh
    rw [x_has (by omega) he, if_neg (show ¬ (1 : Int32) = 0 by decide), inE_t he hN, if_pos rfl, tn (by omega)]
    refine ⟨pg', ps', s', pb', lop', rm', bp', bl', ep', fi', la', bg', fd', hl', nh', _, ln', wd', k', hs', hl2', hw', hn', ?_, g2, hh', rfl, rfl, rfl⟩
    rw [bd_eq e1]
    dsimp only
    rw [gd_t (xin_nI (by omega) (by decide)), clN (by omega), (hxe e he).1, bd_eq ex]
    dsimp only
    rw [bd_eq g1]
  · rw [x_hasnt (by omega) hout, if_pos rfl, inE_f hout, if_neg Bool.false_ne_true]
    exact ⟨pg, ps, s, pb, lop, rm, bp, bl, ep, fi, la, bg, fd, hl, nh, _, ln, wd, k, hs, hl2, hw, hn, rfl, h, hh, rfl, rfl, rfl⟩
theorem tt_join (h : XNow (oL M) pg ps s lop bp bl ep fi la bg fd hl n st ln wd) (hh : XHist (oH M) k hs hl2 hw hn) (i : Int32) :
    ∃ pg' ps' s' pb' lop' rm' bp' bl' ep' fi' la' bg' fd' hl' nh' n' ln' wd' k' hs' hl2' hw' hn', f_X5_join pg ps s pb lop rm bp bl ep fi la bg fd hl nh n st ln wd k hs hl2 hw hn i = some ((aJoin M i).1, pg', ps', s', pb', lop', rm', bp', bl', ep', fi', la', bg', fd', hl', nh', n', ln', wd', k', hs', hl2', hw', hn') ∧
      XNow (oL (aJoin M i).2) pg' ps' s' lop' bp' bl' ep' fi' la' bg' fd' hl' n' st ln' wd' ∧ XHist (oH (aJoin M i).2) k' hs' hl2' hw' hn' ∧ oP (aJoin M i).2 = oP M ∧ oA (aJoin M i).2 = oA M ∧ oB (aJoin M i).2 = oB M := by
  obtain ⟨k', hs', hl2', hw', hn', e1, hh'⟩ := x_record h.1 hh
  obtain ⟨⟨ok, en, hst, hxe⟩, -⟩ := id h
  have hN := ok.2.1
  subst en
  unfold f_X5_join aJoin
  rcases ix_cases i (show zN (oL M) < 2 ^ 31 by omega) with ⟨e, he, rfl⟩ | hout
  · rw [x_has (by omega) he, if_neg (show ¬ (1 : Int32) = 0 by decide), nI_1, tn (by omega), nI_toInt (by omega)]
    by_cases he1 : e + 1 < zN (oL M)
    · have ga := (ok.2.2.1 e he)
      have gb := (ok.2.2.1 (e + 1) he1)
      rw [x_has (by omega) he1, if_neg (show ¬ (1 : Int32) = 0 by decide), gd_t (xin_nI (by omega) (by decide)), gd_t (xin_nI (by omega) (by decide)), clN (show e < 2 ^ 31 by omega), clN (show e + 1 < 2 ^ 31 by omega), (hxe e he).1, (hxe (e + 1) he1).1, nI_add, if_pos (show 0 ≤ (e : Int) ∧ (e : Int) + 1 < (zN (oL M) : Int) by omega)]
      by_cases g : zG (oL M) e + zG (oL M) (e + 1) ≤ 40
      · have hxe' : ∀ j, j < zN (oL M) → upd ln e (nI (zG (oL M) e + zG (oL M) (e + 1))) j = nI (put1 e (zG (oL M) e + zG (oL M) (e + 1)) (zG (oL M)) j) ∧ wd j = lN (pk (zW (oL M) j)) := fun j hj => by
          by_cases q : j = e
          · rw [q, upd_eq, put1_eq]
            exact ⟨rfl, (hxe e he).2⟩
          · rw [upd_ne q, put1_ne q]
            exact hxe j hj
        obtain ⟨ln', wd', ex, hx'⟩ := x_take hN he1 hxe'
        have hR : HLex (delL (chgL (oL M) e (zG (oL M) e + zG (oL M) (e + 1))) (e + 1)) st ln' wd' (nI (zN (oL M) - 1)) := ⟨⟨ok.1, (ok.2.put1 (e := e) (g := zG (oL M) e + zG (oL M) (e + 1)) (by omega)).dl he1⟩, rfl, hst, hx'⟩
        obtain ⟨pg', ps', s', pb', lop', rm', bp', bl', ep', fi', la', bg', fd', hl', nh', f1, f2⟩ := x_relay hR ps pb rm bp bl ep fi la bg fd hl nh
        have l4 : nI (zG (oL M) e + zG (oL M) (e + 1)) ≤ (40 : Int32) := nI_le (b := 40) (by omega) (by decide)
        rw [if_pos g, if_pos l4]
        refine ⟨pg', ps', s', pb', lop', rm', bp', bl', ep', fi', la', bg', fd', hl', nh', _, ln', wd', k', hs', hl2', hw', hn', ?_, f2, hh', rfl, rfl, rfl⟩
        rw [bd_eq e1]
        dsimp only
        rw [gd_t (xin_nI (by omega) (by decide)), bd_eq ex]
        dsimp only
        rw [bd_eq f1]
      · have l4 : ¬ nI (zG (oL M) e + zG (oL M) (e + 1)) ≤ (40 : Int32) := nI_ge (a := 40) (by omega) (by omega)
        rw [if_neg l4, if_neg g]
        exact ⟨pg, ps, s, pb, lop, rm, bp, bl, ep, fi, la, bg, fd, hl, nh, _, ln, wd, k, hs, hl2, hw, hn, rfl, h, hh, rfl, rfl, rfl⟩
    · have ho : (nI (e + 1)).toInt < 0 ∨ (zN (oL M) : Int) ≤ (nI (e + 1)).toInt := by
        rw [nI_toInt (by omega)]
        omega
      rw [x_hasnt (by omega) ho, if_pos rfl, if_neg (show ¬ (0 ≤ (e : Int) ∧ (e : Int) + 1 < (zN (oL M) : Int)) by omega)]
      exact ⟨pg, ps, s, pb, lop, rm, bp, bl, ep, fi, la, bg, fd, hl, nh, _, ln, wd, k, hs, hl2, hw, hn, rfl, h, hh, rfl, rfl, rfl⟩
  · rw [x_hasnt (by omega) hout, if_pos rfl, if_neg (show ¬ (0 ≤ i.toInt ∧ i.toInt + 1 < (zN (oL M) : Int)) by omega)]
    exact ⟨pg, ps, s, pb, lop, rm, bp, bl, ep, fi, la, bg, fd, hl, nh, _, ln, wd, k, hs, hl2, hw, hn, rfl, h, hh, rfl, rfl, rfl⟩
theorem tt_undo (h : XNow (oL M) pg ps s lop bp bl ep fi la bg fd hl n st ln wd) (hh : XHist (oH M) k hs hl2 hw hn) :
    ∃ pg' ps' s' pb' lop' rm' bp' bl' ep' fi' la' bg' fd' hl' nh' n' st' ln' wd' k', f_X5_undo pg ps s pb lop rm bp bl ep fi la bg fd hl nh n st ln wd k hs hl2 hw hn = some ((aUndo M).1, pg', ps', s', pb', lop', rm', bp', bl', ep', fi', la', bg', fd', hl', nh', n', st', ln', wd', k') ∧
      XNow (oL (aUndo M).2) pg' ps' s' lop' bp' bl' ep' fi' la' bg' fd' hl' n' st' ln' wd' ∧ XHist (oH (aUndo M).2) k' hs hl2 hw hn ∧ oP (aUndo M).2 = oP M ∧ oA (aUndo M).2 = oA M ∧ oB (aUndo M).2 = oB M := by
  unfold f_X5_undo aUndo
  by_cases q : oH M = []
  · have ek : k = nI 0 := by have := hh.1; rw [q] at this; exact this
    rw [ek, if_pos (show nI 0 = (0 : Int32) by decide), q]
    rw [ek] at hh
    exact ⟨pg, ps, s, pb, lop, rm, bp, bl, ep, fi, la, bg, fd, hl, nh, n, st, ln, wd, nI 0, rfl, h, hh, rfl, rfl, rfl⟩
  · obtain ⟨k', n', st', ln', wd', e1, h2, hh'⟩ := x_undone hh q n st ln wd
    obtain ⟨pg', ps', s', pb', lop', rm', bp', bl', ep', fi', la', bg', fd', hl', nh', g1, g2⟩ := x_relay h2 ps pb rm bp bl ep fi la bg fd hl nh
    have hl0 := List.length_pos_iff.mpr q
    have h6 := hh.2.1
    have nk : ¬ k = (0 : Int32) := by rw [hh.1]; exact nI_ne0 (by omega) (by omega)
    have eg : (oH M).getLast? = some ((oH M).getLast q) := List.getLast?_eq_some_getLast q
    rw [if_neg nk, bd_eq e1, eg]
    dsimp only
    rw [bd_eq g1]
    refine ⟨pg', ps', s', pb', lop', rm', bp', bl', ep', fi', la', bg', fd', hl', nh', n', st', ln', wd', k', ?_, g2, hh', rfl, rfl, rfl⟩
    have ek : k' = nI ((oH M).length - 1) := by rw [hh'.1, List.length_dropLast]
    rw [ek]
theorem tt_rename (h : XNow (oL M) pg ps s lop bp bl ep fi la bg fd hl n st ln wd) (hh : XHist (oH M) k hs hl2 hw hn) (hp : XPad (oP M) t codes) (i : Int32) :
    ∃ pg' ps' s' pb' lop' rm' bp' bl' ep' fi' la' bg' fd' hl' nh' n' ln' wd' t' k' hs' hl2' hw' hn', f_X5_rename pg ps s pb lop rm bp bl ep fi la bg fd hl nh n st ln wd t codes k hs hl2 hw hn i = some ((aRename M i).1, pg', ps', s', pb', lop', rm', bp', bl', ep', fi', la', bg', fd', hl', nh', n', ln', wd', t', k', hs', hl2', hw', hn') ∧
      XNow (oL (aRename M i).2) pg' ps' s' lop' bp' bl' ep' fi' la' bg' fd' hl' n' st ln' wd' ∧ XHist (oH (aRename M i).2) k' hs' hl2' hw' hn' ∧ XPad (oP (aRename M i).2) t' codes ∧ oA (aRename M i).2 = oA M ∧ oB (aRename M i).2 = oB M := by
  obtain ⟨k', hs', hl2', hw', hn', e1, hh'⟩ := x_record h.1 hh
  obtain ⟨⟨ok, en, hst, hxe⟩, -⟩ := id h
  have hN := ok.2.1
  subst en
  have hp0 : XPad [] 0 codes := ⟨⟨Nat.zero_le _, fun x hx => absurd hx List.not_mem_nil⟩, rfl, fun i hi => absurd hi (Nat.not_lt_zero i)⟩
  unfold f_X5_rename aRename
  rcases ix_cases i (show zN (oL M) < 2 ^ 31 by omega) with ⟨e, he, rfl⟩ | hout
  · rw [x_has (by omega) he, if_neg (show ¬ (1 : Int32) = 0 by decide), inE_t he hN, if_pos rfl]
    rcases x_isWord hp with ⟨hw1, a1⟩ | ⟨hw1, a1⟩
    · rw [if_pos hw1, bd_eq a1, if_neg (show ¬ (1 : Int32) = 0 by decide), bd_eq (x_word hp hw1), tn (by omega)]
      obtain ⟨how, how1⟩ := wOf_ok hw1
      generalize wOf (oP M) = w at *
      -- the core: the entry is taken out, and told again
      have core : (∀ j, j < zN (oL M) → zW (oL M) j = w → j = e) → ∃ pg' ps' s' pb' lop' rm' bp' bl' ep' fi' la' bg' fd' hl' nh' n' ln' wd' k' hs' hl2' hw' hn', J_X5_rename_60 (nI e) ps pb rm bp bl ep fi la bg fd hl nh (nI (zN (oL M))) st ln wd k hs hl2 hw hn (lN (pk w)) = some (nI (placeW (dl e (zW (oL M))) w (zN (oL M) - 1)), pg', ps', s', pb', lop', rm', bp', bl', ep', fi', la', bg', fd', hl', nh', n', ln', wd', 0, k', hs', hl2', hw', hn') ∧
          XNow (renL (oL M) e w) pg' ps' s' lop' bp' bl' ep' fi' la' bg' fd' hl' n' st ln' wd' ∧ XHist (rec6 (oH M) (oL M)) k' hs' hl2' hw' hn' := fun hone => by
        obtain ⟨ln1, wd1, ex, hx1⟩ := x_take hN he hxe
        have o3 := ok.2.dl he
        have hno : ∀ j, j < zN (oL M) - 1 → dl e (zW (oL M)) j ≠ w := fun j hj c => by
          by_cases q : j < e
          · rw [dl_lt q] at c
            have := hone j (by omega) c
            omega
          · rw [dl_ge (by omega)] at c
            have := hone (j + 1) (by omega) c
            omega
        rcases x_tell o3 hx1 how (zG (oL M) e) with ⟨j, -, hj, hj2, -⟩ | ⟨-, c, -⟩ | ⟨-, -, p, ln2, wd2, hp2, et, hx2⟩
        · exact absurd hj2 (hno j hj)
        · omega
        · have epp := plOf_one (placeW_s o3 w (zN (oL M) - 1) (Nat.le_refl _)) hp2
          have o4 := o3.ins (by omega) hp2 hno how how1 (g := zG (oL M) e) ⟨(ok.2.2.1 e he).1, (ok.2.2.1 e he).2.1⟩
          have hpN : p < zN (oL M) - 1 + 1 := by have := hp2.1; omega
          have hnum : f_X1_numberOf (nI (zN (oL M) - 1 + 1)) wd2 (lN (pk w)) = some (nI p) := by
            rcases x_number o4 (fun i hi => (hx2 i hi).2) how with ⟨j, hj, hj2, hj3⟩ | ⟨c, -⟩
            · have : j = p := w_one o4 hj hpN (by rw [hj2, ins_eq])
              rw [← this]
              exact hj3
            · exact absurd ins_eq (c p hpN)
          have hR : HLex (renL (oL M) e w) st ln2 wd2 (nI (zN (oL M) - 1 + 1)) := by
            unfold renL
            rw [epp]
            exact ⟨⟨ok.1, o4⟩, rfl, hst, hx2⟩
          obtain ⟨pg', ps', s', pb', lop', rm', bp', bl', ep', fi', la', bg', fd', hl', nh', f1, f2⟩ := x_relay hR ps pb rm bp bl ep fi la bg fd hl nh
          refine ⟨pg', ps', s', pb', lop', rm', bp', bl', ep', fi', la', bg', fd', hl', nh', _, ln2, wd2, k', hs', hl2', hw', hn', ?_, f2, hh'⟩
          unfold J_X5_rename_60
          rw [bd_eq e1]
          dsimp only
          rw [gd_t (xin_nI (by omega) (by decide)), bd_eq ex]
          dsimp only
          rw [clN (by omega), (hxe e he).1, bd_eq et]
          dsimp only
          rw [bd_eq f1, bd_eq hnum, epp]
          rfl
      rcases x_number ok.2 (fun j hj => (hxe j hj).2) how with ⟨e2, he2, w1, b1⟩ | ⟨w1, b1⟩
      · rcases findE_s (zW (oL M)) w (zN (oL M)) with ⟨e', h2, h3, h4⟩ | ⟨h2, -⟩
        · have := w_one ok.2 he2 h2 (w1.trans h3.symm)
          subst this
          rw [bd_eq b1, if_neg (nI_m6 (by omega)), h4]
          by_cases q1 : e2 = e
          · subst q1
            obtain ⟨pg', ps', s', pb', lop', rm', bp', bl', ep', fi', la', bg', fd', hl', nh', n', ln', wd', k', hs', hl2', hw', hn', f1, f2, f3⟩ := core (fun j hj hj2 => w_one ok.2 hj he (hj2.trans h3.symm))
            dsimp only
            rw [if_pos rfl, if_pos rfl]
            exact ⟨pg', ps', s', pb', lop', rm', bp', bl', ep', fi', la', bg', fd', hl', nh', n', ln', wd', 0, k', hs', hl2', hw', hn', f1, f2, f3, hp0, rfl, rfl⟩
          · have q2 : ¬ nI e2 = nI e := fun c => q1 ((nI_eq (by omega) (by omega)).mp c)
            dsimp only
            rw [if_neg q2, if_neg q1]
            exact ⟨pg, ps, s, pb, lop, rm, bp, bl, ep, fi, la, bg, fd, hl, nh, _, ln, wd, t, k, hs, hl2, hw, hn, rfl, h, hh, hp, rfl, rfl⟩
        · exact absurd w1 (h2 e2 he2)
      · rcases findE_s (zW (oL M)) w (zN (oL M)) with ⟨e', h2, h3, h4⟩ | ⟨h2, h4⟩
        · exact absurd h3 (w1 e' h2)
        · obtain ⟨pg', ps', s', pb', lop', rm', bp', bl', ep', fi', la', bg', fd', hl', nh', n', ln', wd', k', hs', hl2', hw', hn', f1, f2, f3⟩ := core (fun j hj hj2 => absurd hj2 (w1 j hj))
          rw [bd_eq b1, if_pos rfl, h4]
          exact ⟨pg', ps', s', pb', lop', rm', bp', bl', ep', fi', la', bg', fd', hl', nh', n', ln', wd', 0, k', hs', hl2', hw', hn', f1, f2, f3, hp0, rfl, rfl⟩
    · rw [if_neg hw1, bd_eq a1, if_pos rfl]
      exact ⟨pg, ps, s, pb, lop, rm, bp, bl, ep, fi, la, bg, fd, hl, nh, _, ln, wd, t, k, hs, hl2, hw, hn, rfl, h, hh, hp, rfl, rfl⟩
  · rw [x_hasnt (by omega) hout, if_pos rfl, inE_f hout, if_neg Bool.false_ne_true]
    exact ⟨pg, ps, s, pb, lop, rm, bp, bl, ep, fi, la, bg, fd, hl, nh, _, ln, wd, t, k, hs, hl2, hw, hn, rfl, h, hh, hp, rfl, rfl⟩
theorem q_find (h : HLex (oL M) st ln wd n) (hp : XPad (oP M) t codes) : f_X5_find n wd t codes = some (aFind M) := by
  obtain ⟨ok, en, hst, hxe⟩ := h
  subst en
  unfold f_X5_find aFind
  rcases x_isWord hp with ⟨hw1, a1⟩ | ⟨hw1, a1⟩
  · obtain ⟨how, how1⟩ := wOf_ok hw1
    rw [if_pos hw1, bd_eq a1, if_neg (show ¬ (1 : Int32) = 0 by decide), bd_eq (x_word hp hw1)]
    rcases x_number ok.2 (fun j hj => (hxe j hj).2) how with ⟨e2, he2, w1, b1⟩ | ⟨w1, b1⟩
    · rcases findE_s (zW (oL M)) (wOf (oP M)) (zN (oL M)) with ⟨e', h2, h3, h4⟩ | ⟨h2, -⟩
      · have := w_one ok.2 he2 h2 (w1.trans h3.symm)
        subst this
        rw [bd_eq b1, h4]
      · exact absurd w1 (h2 e2 he2)
    · rcases findE_s (zW (oL M)) (wOf (oP M)) (zN (oL M)) with ⟨e', h2, h3, h4⟩ | ⟨h2, h4⟩
      · exact absurd h3 (w1 e' h2)
      · rw [bd_eq b1, h4]
  · rw [if_neg hw1, bd_eq a1, if_pos rfl]
end TB
