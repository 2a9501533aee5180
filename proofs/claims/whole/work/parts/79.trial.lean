/-! a trial of other settings, both sides -/
theorem MLex.set {S : Nat → Nat} {N : Nat} {G : Nat → Nat} {W : Nat → List Nat} {z : Nat → Int64} (h : MLex S N G W z 0) {j v : Nat} (hj : j < 3) : MLex (put1 j v S) N G W (vp_updL z j (lN v)) 0 := by
  have up : ∀ x, x ≠ j → vp_updL z j (lN v) x = z x := fun x hx => if_neg hx
  refine ⟨by rw [up (0 + 3) (by omega)]; exact h.1, fun i hi => ?_, fun i hi => ⟨by rw [up (0 + 4 + i) (by omega)]; exact (h.2.2 i hi).1, by rw [up (0 + 34 + i) (by omega)]; exact (h.2.2 i hi).2⟩⟩
  by_cases q : i = j
  · rw [q, put1_eq]
    exact if_pos (by omega)
  · rw [up (0 + i) (by omega), put1_ne q]
    exact h.2.1 i hi
theorem z_back (z : Nat → Int64) (j : Nat) (x : Int64) : vp_updL (vp_updL z j x) j (z j) = z := by
  funext i
  by_cases q : i = j
  · rw [q]
    exact if_pos rfl
  · exact (if_neg q : vp_updL (vp_updL z j x) j (z j) i = vp_updL z j x i).trans (if_neg q)
theorem trial {S : Nat → Nat} {N : Nat} {G : Nat → Nat} {W : Nat → List Nat} {j v : Nat} (hj : j < 3) (hv : v ≤ 40) (oks : OKS (put1 j v S)) (ok : OKE N G W) {lns : Nat → Int32} {wd : Nat → Int64} (hx : ∀ i, i < N → lns i = nI (G i) ∧ wd i = lN (pk (W i))) {z : Nat → Int64} (hm : MLex S N G W z 0) (ps pb rm : Int32) (bp bl ep fi la bg fd hl nh hd us mf ml mbp mbl mep : Nat → Int32) :
    ∃ (pg' ps' s' pb' rm' c : Int32) (bp' bl' ep' fi' la' bg' fd' hl' nh' hd' us' mf' ml' mbp' mbl' mep' : Nat → Int32),
      f_X0_lay ps pb rm bp bl ep fi la bg fd hl nh (nI N) lns wd (nI (put1 j v S 0)) (nI (put1 j v S 1)) (nI (put1 j v S 2)) = some (pg', ps', s', pb', nI (put1 j v S 0), rm', bp', bl', ep', fi', la', bg', fd', hl', nh') ∧
      f_X0_blankLines pg' (nI (put1 j v S 0)) fd' hl' = some c ∧
      f_X6_pagesWith z hd us mf ml mbp mbl mep (nI j) (nI v) = some (pg', pg', ps', c, z, hd', us', mf', ml', mbp', mbl', mep') := by
  have hN := ok.1
  have hm2 : MLex (put1 j v S) N G W (vp_updL z j (lN v)) 0 := hm.set hj
  obtain ⟨pg', ps', s', pb', rm', P', i', H', US', FI', LA', BG', BP', BL', EP', bp', bl', ep', fi', la', bg', fd', hl', nh', hd', us', mf', ml', mbp', mbl', mep', e1, rfl, rfl, e2, -, -, hps⟩ := lay_both oks ok hx hm2 ps pb rm bp bl ep fi la bg fd hl nh hd us mf ml mbp mbl mep
  obtain ⟨hH, hP, hI, hX, hM, hh, hn, hs⟩ := hps
  have hz0 : vp_updL z j (lN v) 0 = lN (put1 j v S 0) := by have := hm2.2.1 0 (by omega); rw [Nat.zero_add] at this; exact this
  obtain ⟨c, a1, a2⟩ := blank_both (L := put1 j v S 0) (P := P') oks.1.2 (by omega) (H := H') (US := US') hz0 (fd := fd') (hl := hl') (hd := hd') (us := us') (fun p hp => ⟨(hX.1 p hp).2.2.2.1, (hX.1 p hp).2.2.2.2, hM.1 p (by omega), by have := hI.2.1 p hp; omega⟩) hh
  refine ⟨nI P', nI i', s', pb', rm', c, bp', bl', ep', fi', la', bg', fd', hl', nh', hd', us', mf', ml', mbp', mbl', mep', e1, a1, ?_⟩
  unfold f_X6_pagesWith
  rw [gd_t (xin64 (by omega)), gd_t (xin64 (by omega)), clN (by omega), nI_l (by omega), bd_eq e2]
  dsimp only
  rw [bd_eq a2, gd_t (xin64 (by omega)), z_back]
/-- what a number of lines comes to -/
theorem trial_lines {S : Nat → Nat} {N : Nat} {G : Nat → Nat} {W : Nat → List Nat} (oks : OKS S) (ok : OKE N G W) {lns : Nat → Int32} {wd : Nat → Int64} (hx : ∀ i, i < N → lns i = nI (G i) ∧ wd i = lN (pk (W i))) {z : Nat → Int64} (hm : MLex S N G W z 0) :
    ∃ pL cL : Nat → Int32, ∀ l, 6 ≤ l → l ≤ 40 →
      (∀ (ps pb rm : Int32) (bp bl ep fi la bg fd hl nh : Nat → Int32), ∃ (ps' s' pb' rm' : Int32) (bp' bl' ep' fi' la' bg' fd' hl' nh' : Nat → Int32), f_X0_lay ps pb rm bp bl ep fi la bg fd hl nh (nI N) lns wd (nI l) (nI (S 1)) (nI (S 2)) = some (pL l, ps', s', pb', nI l, rm', bp', bl', ep', fi', la', bg', fd', hl', nh') ∧ f_X0_blankLines (pL l) (nI l) fd' hl' = some (cL l)) ∧
      (∀ (hd us mf ml mbp mbl mep : Nat → Int32), ∃ (ps' : Int32) (hd' us' mf' ml' mbp' mbl' mep' : Nat → Int32), f_X6_pagesWith z hd us mf ml mbp mbl mep (nI 0) (nI l) = some (pL l, pL l, ps', cL l, z, hd', us', mf', ml', mbp', mbl', mep')) := by
  have T : ∀ l, 6 ≤ l → l ≤ 40 → ∀ (ps pb rm : Int32) (bp bl ep fi la bg fd hl nh hd us mf ml mbp mbl mep : Nat → Int32), ∃ (pg' ps' s' pb' rm' c : Int32) (bp' bl' ep' fi' la' bg' fd' hl' nh' hd' us' mf' ml' mbp' mbl' mep' : Nat → Int32),
      f_X0_lay ps pb rm bp bl ep fi la bg fd hl nh (nI N) lns wd (nI l) (nI (S 1)) (nI (S 2)) = some (pg', ps', s', pb', nI l, rm', bp', bl', ep', fi', la', bg', fd', hl', nh') ∧
      f_X0_blankLines pg' (nI l) fd' hl' = some c ∧
      f_X6_pagesWith z hd us mf ml mbp mbl mep (nI 0) (nI l) = some (pg', pg', ps', c, z, hd', us', mf', ml', mbp', mbl', mep') := fun l h1 h2 ps pb rm bp bl ep fi la bg fd hl nh hd us mf ml mbp mbl mep => by
    have o2 : OKS (put1 0 l S) := ⟨by rw [put1_eq]; exact ⟨h1, h2⟩, by rw [put1_ne (by omega)]; exact oks.2.1, by rw [put1_ne (by omega)]; exact oks.2.2⟩
    have t := trial (j := 0) (v := l) (by omega) h2 o2 ok hx hm ps pb rm bp bl ep fi la bg fd hl nh hd us mf ml mbp mbl mep
    rw [put1_eq, put1_ne (show 1 ≠ 0 by omega), put1_ne (show 2 ≠ 0 by omega)] at t
    exact t
  have D : ∀ l, ∃ pc : Int32 × Int32, 6 ≤ l → l ≤ 40 →
      (∃ (ps' : Int32) (hd' us' mf' ml' mbp' mbl' mep' : Nat → Int32), f_X6_pagesWith z (fun _ => 0) (fun _ => 0) (fun _ => 0) (fun _ => 0) (fun _ => 0) (fun _ => 0) (fun _ => 0) (nI 0) (nI l) = some (pc.1, pc.1, ps', pc.2, z, hd', us', mf', ml', mbp', mbl', mep')) := fun l => by
    by_cases h : 6 ≤ l ∧ l ≤ 40
    · obtain ⟨pg', ps', s', pb', rm', c, bp', bl', ep', fi', la', bg', fd', hl', nh', hd', us', mf', ml', mbp', mbl', mep', -, -, e3⟩ := T l h.1 h.2 0 0 0 (fun _ => 0) (fun _ => 0) (fun _ => 0) (fun _ => 0) (fun _ => 0) (fun _ => 0) (fun _ => 0) (fun _ => 0) (fun _ => 0) (fun _ => 0) (fun _ => 0) (fun _ => 0) (fun _ => 0) (fun _ => 0) (fun _ => 0) (fun _ => 0)
      exact ⟨(pg', c), fun _ _ => ⟨ps', hd', us', mf', ml', mbp', mbl', mep', e3⟩⟩
    · exact ⟨(0, 0), fun a b => absurd ⟨a, b⟩ h⟩
  refine ⟨fun l => (Classical.choose (D l)).1, fun l => (Classical.choose (D l)).2, fun l h1 h2 => ?_⟩
  dsimp only
  have hD := Classical.choose_spec (D l) h1 h2
  generalize Classical.choose (D l) = pc at hD ⊢
  obtain ⟨q1, q2, q3, q4, q5, q6, q7, q8, hq⟩ := hD
  have X : ∀ (ps pb rm : Int32) (bp bl ep fi la bg fd hl nh : Nat → Int32), ∃ (ps' s' pb' rm' : Int32) (bp' bl' ep' fi' la' bg' fd' hl' nh' : Nat → Int32), f_X0_lay ps pb rm bp bl ep fi la bg fd hl nh (nI N) lns wd (nI l) (nI (S 1)) (nI (S 2)) = some (pc.1, ps', s', pb', nI l, rm', bp', bl', ep', fi', la', bg', fd', hl', nh') ∧ f_X0_blankLines pc.1 (nI l) fd' hl' = some pc.2 := fun ps pb rm bp bl ep fi la bg fd hl nh => by
    obtain ⟨pg', ps', s', pb', rm', c, bp', bl', ep', fi', la', bg', fd', hl', nh', hd', us', mf', ml', mbp', mbl', mep', e1, e2, e3⟩ := T l h1 h2 ps pb rm bp bl ep fi la bg fd hl nh (fun _ => 0) (fun _ => 0) (fun _ => 0) (fun _ => 0) (fun _ => 0) (fun _ => 0) (fun _ => 0)
    have hE := hq.symm.trans e3
    simp only [Option.some.injEq, Prod.mk.injEq] at hE
    refine ⟨ps', s', pb', rm', bp', bl', ep', fi', la', bg', fd', hl', nh', ?_, ?_⟩
    · rw [hE.1]; exact e1
    · rw [hE.1, hE.2.2.2.1]; exact e2
  refine ⟨X, fun hd us mf ml mbp mbl mep => ?_⟩
  obtain ⟨ps0, s0, pb0, rm0, b0, b1, b2, b3, b4, b5, b6, b7, b8, x1, x2⟩ := X 0 0 0 (fun _ => 0) (fun _ => 0) (fun _ => 0) (fun _ => 0) (fun _ => 0) (fun _ => 0) (fun _ => 0) (fun _ => 0) (fun _ => 0)
  obtain ⟨pg', ps', s', pb', rm', c, bp', bl', ep', fi', la', bg', fd', hl', nh', hd', us', mf', ml', mbp', mbl', mep', e1, e2, e3⟩ := T l h1 h2 0 0 0 (fun _ => 0) (fun _ => 0) (fun _ => 0) (fun _ => 0) (fun _ => 0) (fun _ => 0) (fun _ => 0) (fun _ => 0) (fun _ => 0) hd us mf ml mbp mbl mep
  have hE := x1.symm.trans e1
  simp only [Option.some.injEq, Prod.mk.injEq] at hE
  obtain ⟨g1, g2, g3, g4, -, g6, g7, g8, g9, g10, g11, g12, g13, g14, g15⟩ := hE
  have hc : pc.2 = c := by
    rw [← g1, ← g13, ← g14] at e2
    have := x2.symm.trans e2
    simpa using this
  refine ⟨ps', hd', us', mf', ml', mbp', mbl', mep', ?_⟩
  rw [g1, hc]
  exact e3
