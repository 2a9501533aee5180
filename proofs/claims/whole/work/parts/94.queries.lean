/-! the queries, of both sides' states -/
theorem t_entry {pg ps s lp : Int32} {bp bl ep fi la bg fd hl : Nat → Int32} {n : Int32} {st ln : Nat → Int32} {wd z : Nat → Int64} (h : NowL pg ps s lp bp bl ep fi la bg fd hl n st ln wd z) (pg0 ps0 : Int32) (hd us mf ml mbp mbl mep : Nat → Int32) (i1 i2 : Int32) :
    ∃ r t, f_X5_entry bp bl ep n ln wd i1 i2 = some r ∧ f_X6_entry pg0 ps0 z hd us mf ml mbp mbl mep i1 i2 = some (r, t) := by
  obtain ⟨S, N, G, W, o1, o2, ⟨rfl, hst, hxe⟩, hm, rfl, hl0⟩ := h
  exact q_entry o2 hxe hm hl0 pg0 ps0 hd us mf ml mbp mbl mep i1 i2
theorem t_page {pg ps s lp : Int32} {bp bl ep fi la bg fd hl : Nat → Int32} {n : Int32} {st ln : Nat → Int32} {wd z : Nat → Int64} (h : NowL pg ps s lp bp bl ep fi la bg fd hl n st ln wd z) (hd us mf ml mbp mbl mep : Nat → Int32) (i1 i2 : Int32) :
    ∃ r t, f_X5_page pg lp fi la bg fd hl n wd i1 i2 = some r ∧ f_X6_page z hd us mf ml mbp mbl mep i1 i2 = some (r, t) := by
  obtain ⟨S, N, G, W, o1, o2, ⟨rfl, hst, hxe⟩, hm, rfl, hl0⟩ := h
  exact q_page o2 (fun i hi => (hxe i hi).2) hm o1 hl0 hd us mf ml mbp mbl mep i1 i2
theorem t_fold {pg ps s lp : Int32} {bp bl ep fi la bg fd hl : Nat → Int32} {n : Int32} {st ln : Nat → Int32} {wd z : Nat → Int64} (h : NowL pg ps s lp bp bl ep fi la bg fd hl n st ln wd z) (hd us mf ml mbp mbl mep : Nat → Int32) (i1 i2 : Int32) (hi2 : i2 = 1 ∨ i2 = 0) :
    ∃ r t, f_X5_fold pg fi la bg i1 i2 = some r ∧ f_X6_fold z hd us mf ml mbp mbl mep i1 i2 = some (r, t) := by
  obtain ⟨S, N, G, W, o1, o2, ⟨rfl, hst, hxe⟩, hm, rfl, hl0⟩ := h
  exact q_fold o2 hm hl0 hd us mf ml mbp mbl mep i1 i2 hi2
theorem t_count {pg ps s lp : Int32} {bp bl ep fi la bg fd hl : Nat → Int32} {n : Int32} {st ln : Nat → Int32} {wd z : Nat → Int64} (h : NowL pg ps s lp bp bl ep fi la bg fd hl n st ln wd z) (hd us mf ml mbp mbl mep : Nat → Int32) (v13 v14 i1 : Int32) :
    ∃ r t, f_X5_count pg ps s lp bp ep bg fd hl n st ln v13 v14 i1 = some r ∧ f_X6_count v14 v13 z hd us mf ml mbp mbl mep i1 = some (r, t) := by
  obtain ⟨S, N, G, W, o1, o2, ⟨rfl, hst, hxe⟩, hm, rfl, hl0⟩ := h
  exact q_count o1 o2 hst (fun i hi => (hxe i hi).1) hm hl0 hd us mf ml mbp mbl mep v13 v14 i1
theorem t_look {pg ps s lp : Int32} {bp bl ep fi la bg fd hl : Nat → Int32} {n : Int32} {st ln : Nat → Int32} {wd z : Nat → Int64} (h : NowL pg ps s lp bp bl ep fi la bg fd hl n st ln wd z) {t : Nat} {cs : Nat → Nat} {codes pd : Nat → Int32} (okp : OKP t cs) (p1 : PadIs t cs codes) (p2 : PadIs t cs pd) (pg0 ps0 : Int32) (hd us mf ml mbp mbl mep : Nat → Int32) :
    ∃ r u, f_X5_lookFor pg la n wd (nI t) codes = some r ∧ f_X6_lookFor (nI t) pg0 ps0 z pd hd us mf ml mbp mbl mep = some (r, u) := by
  obtain ⟨S, N, G, W, o1, o2, ⟨rfl, hst, hxe⟩, hm, rfl, hl0⟩ := h
  exact q_look o2 (fun i hi => (hxe i hi).2) hm hl0 pg0 ps0 hd us mf ml mbp mbl mep okp p1 p2
theorem t_find {pg ps s lp : Int32} {bp bl ep fi la bg fd hl : Nat → Int32} {n : Int32} {st ln : Nat → Int32} {wd z : Nat → Int64} (h : NowL pg ps s lp bp bl ep fi la bg fd hl n st ln wd z) {t : Nat} {cs : Nat → Nat} {codes pd : Nat → Int32} (okp : OKP t cs) (p1 : PadIs t cs codes) (p2 : PadIs t cs pd) :
    ∃ r u, f_X5_find n wd (nI t) codes = some r ∧ f_X6_find (nI t) z pd = some (r, u) := by
  obtain ⟨S, N, G, W, o1, o2, ⟨rfl, hst, hxe⟩, hm, rfl, hl0⟩ := h
  exact q_find o2 (fun i hi => (hxe i hi).2) hm okp p1 p2
theorem t_ifset {pg ps s lp : Int32} {bp bl ep fi la bg fd hl : Nat → Int32} {n : Int32} {st ln : Nat → Int32} {wd z : Nat → Int64} (h : NowL pg ps s lp bp bl ep fi la bg fd hl n st ln wd z) (p0 p1 p2 p3 p4 p5 q1 q2 q3 : Int32) (b1 b2 b3 b4 b5 b6 b7 b8 b9 c1 c2 c3 c4 c5 c6 c7 : Nat → Int32) (j v : Int32) :
    ∃ r t u1 u2 u3 w, f_X5_ifSet n st ln wd p0 p1 p2 p3 p4 p5 b1 b2 b3 b4 b5 b6 b7 b8 b9 j v = some (r, t) ∧ f_X6_ifSet q1 q2 q3 z c1 c2 c3 c4 c5 c6 c7 j v = some (r, u1, u2, u3, z, w) := by
  obtain ⟨S, N, G, W, o1, o2, ⟨rfl, hst, hxe⟩, hm, rfl, hl0⟩ := h
  exact q_ifset o1 o2 hst hxe hm p0 p1 p2 p3 p4 p5 q1 q2 q3 b1 b2 b3 b4 b5 b6 b7 b8 b9 c1 c2 c3 c4 c5 c6 c7 j v
theorem t_least {pg ps s lp : Int32} {bp bl ep fi la bg fd hl : Nat → Int32} {n : Int32} {st ln : Nat → Int32} {wd z : Nat → Int64} (h : NowL pg ps s lp bp bl ep fi la bg fd hl n st ln wd z) (p0 p1 p2 p3 p4 p5 q1 q2 q3 : Int32) (b1 b2 b3 b4 b5 b6 b7 b8 b9 c1 c2 c3 c4 c5 c6 c7 : Nat → Int32) (a : Int32) :
    ∃ r t u1 u2 u3 w, f_X5_leastLines n st ln wd p0 p1 p2 p3 p4 p5 b1 b2 b3 b4 b5 b6 b7 b8 b9 a = some (r, t) ∧ f_X6_leastLines q1 q2 q3 z c1 c2 c3 c4 c5 c6 c7 a = some (r, u1, u2, u3, z, w) := by
  obtain ⟨S, N, G, W, o1, o2, ⟨rfl, hst, hxe⟩, hm, rfl, hl0⟩ := h
  obtain ⟨pL, cL, hT⟩ := trial_lines o1 o2 hxe hm
  exact q_least (pL := pL) (cL := cL) (S := S) (fun l h1 h2 => (hT l h1 h2).1) hst (fun l h1 h2 => (hT l h1 h2).2) p0 p1 p2 p3 p4 p5 q1 q2 q3 b1 b2 b3 b4 b5 b6 b7 b8 b9 c1 c2 c3 c4 c5 c6 c7 a
theorem t_best {pg ps s lp : Int32} {bp bl ep fi la bg fd hl : Nat → Int32} {n : Int32} {st ln : Nat → Int32} {wd z : Nat → Int64} (h : NowL pg ps s lp bp bl ep fi la bg fd hl n st ln wd z) (p0 p1 p2 p3 p4 p5 q1 q2 q3 : Int32) (b1 b2 b3 b4 b5 b6 b7 b8 b9 c1 c2 c3 c4 c5 c6 c7 : Nat → Int32) (a : Int32) :
    ∃ r t u1 u2 u3 w, f_X5_bestLines n st ln wd p0 p1 p2 p3 p4 p5 b1 b2 b3 b4 b5 b6 b7 b8 b9 a = some (r, t) ∧ f_X6_bestLines q1 q2 q3 z c1 c2 c3 c4 c5 c6 c7 a = some (r, u1, u2, u3, z, w) := by
  obtain ⟨S, N, G, W, o1, o2, ⟨rfl, hst, hxe⟩, hm, rfl, hl0⟩ := h
  obtain ⟨pL, cL, hT⟩ := trial_lines o1 o2 hxe hm
  exact q_best (pL := pL) (cL := cL) (S := S) (fun l h1 h2 => (hT l h1 h2).1) hst (fun l h1 h2 => (hT l h1 h2).2) p0 p1 p2 p3 p4 p5 q1 q2 q3 b1 b2 b3 b4 b5 b6 b7 b8 b9 c1 c2 c3 c4 c5 c6 c7 a
