/-! laying pages anew behind a change -/
theorem relay {S : Nat → Nat} {N : Nat} {G : Nat → Nat} {W : Nat → List Nat} (oks : OKS S) (ok : OKE N G W) {st ln : Nat → Int32} {wd : Nat → Int64} {n : Int32} (hx : XLex S N G W st ln wd n) {z : Nat → Int64} (hm : MLex S N G W z 0) (ps pb rm : Int32) (bp bl ep fi la bg fd hl nh : Nat → Int32) :
    ∃ (pg' ps' s' pb' rm' : Int32) (bp' bl' ep' fi' la' bg' fd' hl' nh' : Nat → Int32),
      f_X5_layPages ps pb rm bp bl ep fi la bg fd hl nh n st ln wd = some (pg', ps', s', pb', nI (S 0), rm', bp', bl', ep', fi', la', bg', fd', hl', nh') ∧ LAID S N G W pg' ps' s' bp' bl' ep' fi' la' bg' fd' hl' := by
  obtain ⟨rfl, hs, he⟩ := hx
  obtain ⟨pg', ps', s', pb', rm', bp', bl', ep', fi', la', bg', fd', hl', nh', e1, e2⟩ := laid oks ok he hm ps pb rm bp bl ep fi la bg fd hl nh
  refine ⟨pg', ps', s', pb', rm', bp', bl', ep', fi', la', bg', fd', hl', nh', ?_, e2⟩
  unfold f_X5_layPages
  rw [hs 0 (by omega), hs 1 (by omega), hs 2 (by omega), bd_eq e1]
/-- a lexicon and its layout, on both sides -/
def NowL (pg ps s lp : Int32) (bp bl ep fi la bg fd hl : Nat → Int32) (n : Int32) (st ln : Nat → Int32) (wd z : Nat → Int64) : Prop :=
  ∃ S N G W, OKS S ∧ OKE N G W ∧ XLex S N G W st ln wd n ∧ MLex S N G W z 0 ∧ lp = nI (S 0) ∧ LAID S N G W pg ps s bp bl ep fi la bg fd hl
theorem NowL.rel {pg ps s lp : Int32} {bp bl ep fi la bg fd hl : Nat → Int32} {n : Int32} {st ln : Nat → Int32} {wd z : Nat → Int64} (h : NowL pg ps s lp bp bl ep fi la bg fd hl n st ln wd z) : Rel st ln wd n z 0 := by
  obtain ⟨S, N, G, W, h1, h2, h3, h4, -⟩ := h
  exact ⟨S, N, G, W, h1, h2, h3, h4⟩
theorem NowL.copy {pg ps s lp : Int32} {bp bl ep fi la bg fd hl : Nat → Int32} {n : Int32} {st ln : Nat → Int32} {wd z z' : Nat → Int64} (h : NowL pg ps s lp bp bl ep fi la bg fd hl n st ln wd z) (he : ∀ k, k < 64 → z' k = z k) : NowL pg ps s lp bp bl ep fi la bg fd hl n st ln wd z' := by
  obtain ⟨S, N, G, W, h1, h2, h3, h4, h5, h6⟩ := h
  exact ⟨S, N, G, W, h1, h2, h3, h4.copy h2.1 (fun k hk => by rw [Nat.zero_add]; exact he k hk), h5, h6⟩
theorem Rel.lay {st ln : Nat → Int32} {wd : Nat → Int64} {n : Int32} {z : Nat → Int64} (h : Rel st ln wd n z 0) (ps pb rm : Int32) (bp bl ep fi la bg fd hl nh : Nat → Int32) :
    ∃ (pg' ps' s' pb' lp' rm' : Int32) (bp' bl' ep' fi' la' bg' fd' hl' nh' : Nat → Int32),
      f_X5_layPages ps pb rm bp bl ep fi la bg fd hl nh n st ln wd = some (pg', ps', s', pb', lp', rm', bp', bl', ep', fi', la', bg', fd', hl', nh') ∧ NowL pg' ps' s' lp' bp' bl' ep' fi' la' bg' fd' hl' n st ln wd z := by
  obtain ⟨S, N, G, W, h1, h2, h3, h4⟩ := h
  obtain ⟨pg', ps', s', pb', rm', bp', bl', ep', fi', la', bg', fd', hl', nh', e1, e2⟩ := relay h1 h2 h3 h4 ps pb rm bp bl ep fi la bg fd hl nh
  exact ⟨pg', ps', s', pb', _, rm', bp', bl', ep', fi', la', bg', fd', hl', nh', e1, S, N, G, W, h1, h2, h3, h4, rfl, e2⟩
