/-! all passes, on both sides -/
theorem m_heads1 {K : Int32 → (Nat → Int32) → Option (Int32 × Int32 × (Nat → Int32) × (Nat → Int32) × (Nat → Int32) × (Nat → Int32) × (Nat → Int32) × (Nat → Int32) × (Nat → Int32))} : ∀ (d f i : Nat) (hd : Nat → Int32), i + d = 400 → d < f → (∀ p, p < i → hd p = nI 1) →
    ∃ hd', L_X6_layAll_2 K f (nI i) hd = K (nI 400) hd' ∧ ∀ p, p < 400 → hd' p = nI 1
  | _, 0, _, _, _, h, _ => absurd h (by omega)
  | 0, f + 1, i, hd, hi, _, h => by
    refine ⟨hd, ?_, fun p hp => h p (by omega)⟩
    rw [L_X6_layAll_2_s, if_pos (show (400 : Int32) ≤ nI i from nI_le (a := 400) (by omega) (by omega)), show i = 400 by omega]
  | d + 1, f + 1, i, hd, hi, hf, h => by
    obtain ⟨hd', e, h2⟩ := m_heads1 (K := K) d f (i + 1) (upd hd i 1) (by omega) (by omega) (fun p hp => by
      by_cases q : p = i
      · rw [q, upd_eq]; rfl
      · rw [upd_ne q]; exact h p (by omega))
    refine ⟨hd', ?_, h2⟩
    rw [L_X6_layAll_2_s, if_neg (show ¬ (400 : Int32) ≤ nI i from nI_ge (a := i) (b := 400) (by omega) (by decide)), gd_t (xin_nI (by omega) (by decide)), clN (by omega), nI_1, e]
theorem m_headsW {K : Int32 → (Nat → Int32) → Option (Int32 × Int32 × (Nat → Int32) × (Nat → Int32) × (Nat → Int32) × (Nat → Int32) × (Nat → Int32) × (Nat → Int32) × (Nat → Int32))} {N : Nat} {G : Nat → Nat} {W : Nat → List Nat} (ok : OKE N G W) {z : Nat → Int64} (hz : ∀ i, i < N → z (4 + i) = lN (b27 (W i))) {Wd P : Nat} (hW : Wd ≤ 30) (hz1 : z 1 = lN Wd) (hP : P ≤ 300) {FI LA : Nat → Nat} {fi la : Nat → Int32} (hx : ∀ p, p < P → FI p < N ∧ LA p < N ∧ fi p = nI (FI p) ∧ la p = nI (LA p)) : ∀ (d f i : Nat) (hd : Nat → Int32), i + d = 400 → d < f → (∀ p, p < i → hd p = nI (if p < P then wnN W Wd (FI p) (LA p) else 1)) →
    ∃ hd', L_X6_layAll_49 K z (nI P) fi la f (nI i) hd = K (nI 400) hd' ∧ ∀ p, p < 400 → hd' p = nI (if p < P then wnN W Wd (FI p) (LA p) else 1)
  | _, 0, _, _, _, h, _ => absurd h (by omega)
  | 0, f + 1, i, hd, hi, _, h => by
    refine ⟨hd, ?_, fun p hp => h p (by omega)⟩
    rw [L_X6_layAll_49_s, if_pos (show (400 : Int32) ≤ nI i from nI_le (a := 400) (by omega) (by omega)), show i = 400 by omega]
  | d + 1, f + 1, i, hd, hi, hf, h => by
    obtain ⟨hd', e, h2⟩ := m_headsW (K := K) ok hz hW hz1 hP hx d f (i + 1) (upd hd i (nI (if i < P then wnN W Wd (FI i) (LA i) else 1))) (by omega) (by omega) (fun p hp => by
      by_cases q : p = i
      · rw [q, upd_eq]
      · rw [upd_ne q]; exact h p (by omega))
    refine ⟨hd', ?_, h2⟩
    rw [L_X6_layAll_49_s, if_neg (show ¬ (400 : Int32) ≤ nI i from nI_ge (a := i) (b := 400) (by omega) (by decide))]
    by_cases q : i < P
    · obtain ⟨x1, x2, x3, x4⟩ := hx i q
      rw [if_pos q] at e
      rw [if_neg (nI_ge q (by omega)), bd_eq (m_wants ok hz hW hz1 (by omega) x1 x2 x3 x4), gd_t (xin_nI (by omega) (by decide)), clN (by omega), nI_1, e]
    · rw [if_neg q] at e
      rw [if_pos (nI_le (by omega) (by omega)), gd_t (xin_nI (by omega) (by decide)), clN (by omega), nI_1]
      exact e
/-- what holds behind a pass -/
def PS (S : Nat → Nat) (N : Nat) (W : Nat → List Nat) (P : Nat) (H US FI LA BG BP BL EP : Nat → Nat) (s : Int32) (bp bl ep fi la bg fd hl nh : Nat → Int32) (hd us mf ml mbp mbl mep : Nat → Int32) : Prop :=
  (∀ p, H p = 1 ∨ H p = 2) ∧ P ≤ 10 * N ∧ LI (S 0) P N H US FI LA BG BP EP ∧ XL P N N H US FI LA BG BP BL EP bp bl ep fi la bg fd hl ∧ ML P N N US FI LA BP BL EP us mf ml mbp mbl mep ∧ (∀ p, p < 400 → hd p = nI (H p)) ∧ (∀ p, p < P → nh p = nI (wnN W (S 1) (FI p) (LA p))) ∧ ((s = 1 ∧ ∀ p, p < P → wnN W (S 1) (FI p) (LA p) = H p) ∨ (s = 0 ∧ ∃ p, p < P ∧ wnN W (S 1) (FI p) (LA p) ≠ H p))
theorem step_both {S : Nat → Nat} {N : Nat} {G : Nat → Nat} {W : Nat → List Nat} (oks : OKS S) (ok : OKE N G W) {lns : Nat → Int32} {wd : Nat → Int64} (hx : ∀ i, i < N → lns i = nI (G i) ∧ wd i = lN (pk (W i))) {z : Nat → Int64} (hm : MLex S N G W z 0) {H : Nat → Nat} (hH : ∀ p, H p = 1 ∨ H p = 2) {PB : Nat} (hPB : PB < 2 ^ 30) {nh : Nat → Int32} (hn : (∀ p, p < PB → nh p = nI (H p)) ∧ ∀ p, PB ≤ p → H p = 1) {hd : Nat → Int32} (hh : ∀ p, p < 400 → hd p = nI (H p)) (bp bl ep fi la bg fd hl us mf ml mbp mbl mep : Nat → Int32) :
    ∃ (P' : Nat) (US' FI' LA' BG' BP' BL' EP' : Nat → Nat) (rm s : Int32) (bp' bl' ep' fi' la' bg' fd' hl' nh' us' mf' ml' mbp' mbl' mep' : Nat → Int32),
      f_X0_layOnce (nI PB) (nI (S 0)) bp bl ep fi la bg fd hl nh (nI N) lns (nI (S 2)) = some (nI P', rm, bp', bl', ep', fi', la', bg', fd', hl') ∧
      f_X0_askHeads (nI P') fi' la' hl' nh (nI N) wd (nI (S 1)) = some (s, nh') ∧
      f_X6_pass z hd us mf ml mbp mbl mep = some (nI P', us', mf', ml', mbp', mbl', mep') ∧
      PS S N W P' H US' FI' LA' BG' BP' BL' EP' s bp' bl' ep' fi' la' bg' fd' hl' nh' hd us' mf' ml' mbp' mbl' mep' := by
  have hF := FU_big
  have hN := ok.1
  obtain ⟨m3, ms, me⟩ := hm
  simp only [Nat.zero_add] at m3 ms me
  obtain ⟨P', US', FI', LA', BG', BP', BL', EP', rm, bp', bl', ep', fi', la', bg', fd', hl', us', mf', ml', mbp', mbl', mep', e1, e2, e3, e4, e5, e6⟩ := once_both (L := S 0) (k := S 2) hN (fun e he => ⟨(ok.2.1 e he).1, (ok.2.1 e he).2.1⟩) oks.2.2 hH oks.1 hPB hn (ms 0 (by omega)) (ms 2 (by omega)) m3 (fun e he => (me e he).2) (fun e he => (hx e he).1) hh bp bl ep fi la bg fd hl us mf ml mbp mbl mep
  obtain ⟨b', nh', g1, -, g3, g4⟩ := x_ask_loop (K := fun (i4_5 : Int32) (i3_5 : Int32) (v_nextHeadLines_5 : Nat → Int32) => gd (isb i3_5) (some (i3_5, v_nextHeadLines_5))) ok (fun i hi => (hx i hi).2) (Wd := S 1) (P := P') oks.2.1.2 (by omega) hH (FI := FI') (LA := LA') (fi := fi') (la := la') (hl := hl') (fun p hp => by
    have a := e4.2.2.1 p hp
    have b := e5.1 p hp
    exact ⟨by omega, a.2.1, b.1, b.2.1, b.2.2.2.2⟩) P' FU 0 1 nh (by omega) (by omega) (Or.inl rfl)
  have hb : b' = 1 ∨ b' = 0 := by
    rcases g4 with h | h
    · exact Or.inl h.1
    · exact Or.inr h.1
  refine ⟨P', US', FI', LA', BG', BP', BL', EP', rm, b', bp', bl', ep', fi', la', bg', fd', hl', nh', us', mf', ml', mbp', mbl', mep', e1, ?_, e2, hH, e3, e4, e5, e6, hh, fun p hp => g3 p (Nat.zero_le _) hp, ?_⟩
  · unfold f_X0_askHeads
    refine g1.trans ?_
    rcases hb with h | h
    · rw [h]; rfl
    · rw [h]; rfl
  · rcases g4 with ⟨h1, -, h2⟩ | ⟨h1, h2⟩
    · exact Or.inl ⟨h1, fun p hp => h2 p (Nat.zero_le _) hp⟩
    · rcases h2 with h2 | ⟨p, -, p2, p3⟩
      · exact absurd h2 (by decide)
      · exact Or.inr ⟨h1, p, p2, p3⟩
theorem set_both {S : Nat → Nat} {N : Nat} {G : Nat → Nat} {W : Nat → List Nat} (oks : OKS S) (ok : OKE N G W) {z : Nat → Int64} (hm : MLex S N G W z 0) {P : Nat} {H US FI LA BG BP BL EP : Nat → Nat} {s : Int32} {bp bl ep fi la bg fd hl nh hd us mf ml mbp mbl mep : Nat → Int32} (h : PS S N W P H US FI LA BG BP BL EP s bp bl ep fi la bg fd hl nh hd us mf ml mbp mbl mep) :
    f_X6_isSettled (nI P) z hd mf ml = some s := by
  have hF := FU_big
  have hN := ok.1
  obtain ⟨m3, ms, me⟩ := hm
  simp only [Nat.zero_add] at m3 ms me
  obtain ⟨hH, hP, hI, hX, hM, hh, hn, hs⟩ := h
  obtain ⟨b', e, h3⟩ := m_set_loop (K := fun (i2_4 : Int32) (i1_4 : Int32) => gd (isb i1_4) (some i1_4)) ok (fun i hi => (me i hi).1) (Wd := S 1) (P := P) oks.2.1.2 (ms 1 (by omega)) (by omega) hH (FI := FI) (LA := LA) (fi := mf) (la := ml) (hd := hd) (fun p hp => by
    have a := hI.2.2.1 p hp
    have b := hM.2.1 p hp
    exact ⟨by omega, a.2.1, b.1, b.2, hh p (by omega)⟩) P FU 0 1 (by omega) (by omega) (Or.inl rfl)
  unfold f_X6_isSettled
  refine e.trans ?_
  rcases h3 with ⟨h1, -, h2⟩ | ⟨h1, h2⟩
  · rcases hs with ⟨a, -⟩ | ⟨-, p, p1, p2⟩
    · rw [h1, a]; rfl
    · exact absurd (h2 p (Nat.zero_le _) p1) p2
  · rcases h2 with h2 | ⟨p, -, p1, p2⟩
    · exact absurd h2 (by decide)
    · rcases hs with ⟨-, b⟩ | ⟨a, -⟩
      · exact absurd (b p p1) p2
      · rw [h1, a]; rfl
