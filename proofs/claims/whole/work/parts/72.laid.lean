/-! what the class holds as its layout is what the reference lays anew -/
def LAID (S : Nat → Nat) (N : Nat) (G : Nat → Nat) (W : Nat → List Nat) (pg ps s : Int32) (bp bl ep fi la bg fd hl : Nat → Int32) : Prop :=
  ∀ (z : Nat → Int64) (hd us mf ml mbp mbl mep : Nat → Int32), MLex S N G W z 0 → ∃ (P i : Nat) (H US FI LA BG BP BL EP : Nat → Nat) (nh hd' us' mf' ml' mbp' mbl' mep' : Nat → Int32), pg = nI P ∧ ps = nI i ∧ i ≤ 10 ∧ f_X6_layAll z hd us mf ml mbp mbl mep = some (nI P, nI i, hd', us', mf', ml', mbp', mbl', mep') ∧ PS S N W P H US FI LA BG BP BL EP s bp bl ep fi la bg fd hl nh hd' us' mf' ml' mbp' mbl' mep'
theorem laid {S : Nat → Nat} {N : Nat} {G : Nat → Nat} {W : Nat → List Nat} (oks : OKS S) (ok : OKE N G W) {lns : Nat → Int32} {wd : Nat → Int64} (hx : ∀ i, i < N → lns i = nI (G i) ∧ wd i = lN (pk (W i))) {z : Nat → Int64} (hm : MLex S N G W z 0) (ps pb rm : Int32) (bp bl ep fi la bg fd hl nh : Nat → Int32) :
    ∃ (pg' ps' s' pb' rm' : Int32) (bp' bl' ep' fi' la' bg' fd' hl' nh' : Nat → Int32),
      f_X0_lay ps pb rm bp bl ep fi la bg fd hl nh (nI N) lns wd (nI (S 0)) (nI (S 1)) (nI (S 2)) = some (pg', ps', s', pb', nI (S 0), rm', bp', bl', ep', fi', la', bg', fd', hl', nh') ∧ LAID S N G W pg' ps' s' bp' bl' ep' fi' la' bg' fd' hl' := by
  obtain ⟨pg', ps', s', pb', rm', P', i', H', US', FI', LA', BG', BP', BL', EP', bp', bl', ep', fi', la', bg', fd', hl', nh', hd', us', mf', ml', mbp', mbl', mep', e1, -⟩ := lay_both oks ok hx hm ps pb rm bp bl ep fi la bg fd hl nh bp bp bp bp bp bp bp
  refine ⟨pg', ps', s', pb', rm', bp', bl', ep', fi', la', bg', fd', hl', nh', e1, fun z2 hd us mf ml mbp mbl mep hm2 => ?_⟩
  obtain ⟨pg2, ps2, s2, pb2, rm2, P2, i2, H2, US2, FI2, LA2, BG2, BP2, BL2, EP2, bp2, bl2, ep2, fi2, la2, bg2, fd2, hl2, nh2, hd2, us2, mf2, ml2, mbp2, mbl2, mep2, g1, g2, g3, g4, g5, g6, g7⟩ := lay_both oks ok hx hm2 ps pb rm bp bl ep fi la bg fd hl nh hd us mf ml mbp mbl mep
  have hq := e1.symm.trans g1
  simp only [Option.some.injEq, Prod.mk.injEq] at hq
  obtain ⟨q1, q2, q3, q4, -, q6, q7, q8, q9, q10, q11, q12, q13, q14, q15⟩ := hq
  subst q1 q2 q3 q4 q6 q7 q8 q9 q10 q11 q12 q13 q14 q15
  exact ⟨P2, i2, H2, US2, FI2, LA2, BG2, BP2, BL2, EP2, nh', hd2, us2, mf2, ml2, mbp2, mbl2, mep2, g2, g3, g6, g4, g7⟩
