/-! looking for a word, both sides -/
def LK (P : Nat) (lt : Nat → Prop) (r : Nat) : Prop := (r < P ∧ ¬ lt r ∧ ∀ j, j < r → lt j) ∨ (r = P - 1 ∧ ∀ j, j < P → lt j)
theorem LK_one {P : Nat} {lt : Nat → Prop} {a b : Nat} (ha : LK P lt a) (hb : LK P lt b) : a = b := by
  rcases ha with ⟨a1, a2, a3⟩ | ⟨a1, a2⟩
  · rcases hb with ⟨b1, b2, b3⟩ | ⟨b1, b2⟩
    · rcases Nat.lt_trichotomy a b with q | q | q
      · exact absurd (b3 a q) a2
      · exact q
      · exact absurd (a3 b q) b2
    · exact absurd (b2 a a1) a2
  · rcases hb with ⟨b1, b2, b3⟩ | ⟨b1, b2⟩
    · exact absurd (a2 b b1) b2
    · omega
theorem x_look {N : Nat} {G : Nat → Nat} {W : Nat → List Nat} (ok : OKE N G W) {wd : Nat → Int64} (hwd : ∀ i, i < N → wd i = lN (pk (W i))) {P : Nat} (hP : 1 ≤ P ∧ P ≤ 300) {LA : Nat → Nat} {la : Nat → Int32} (hla : ∀ p, p < P → LA p < N ∧ la p = nI (LA p)) {w : List Nat} (hw : wOK w) : ∀ (d f i : Nat), i + d = P → d < f → (∀ j, j < i → b27 (W (LA j)) < b27 w) →
    ∃ r, LK P (fun j => b27 (W (LA j)) < b27 w) r ∧ L_X5_lookFor_36 (fun (i3_36 : Int32) => some (nI P - 1)) (nI P) la (nI N) wd (lN (pk w)) f (nI i) = some (nI r)
  | _, 0, _, _, hf, _ => absurd hf (by omega)
  | 0, f + 1, i, hi, _, h => by
    refine ⟨P - 1, Or.inr ⟨rfl, fun j hj => h j (by omega)⟩, ?_⟩
    rw [L_X5_lookFor_36_s, if_pos (nI_le (by omega) (by omega))]
    exact congrArg some (pk_sub (b := 1) (by omega))
  | d + 1, f + 1, i, hi, hf, h => by
    have hN := ok.1
    obtain ⟨h1, h2⟩ := hla i (by omega)
    have wk := (ok.2.1 _ h1).2.2.1
    have s1 := pk_small wk
    have s2 := pk_small hw
    rw [L_X5_lookFor_36_s, if_neg (nI_ge (by omega) (by omega)), gd_t (xin_nI (by omega) (by decide)), clN (by omega), h2, bd_eq (x_wordOf hN h1), hwd _ h1]
    by_cases q : b27 (W (LA i)) < b27 w
    · rw [if_pos ((pk_lLT (by omega) (by omega)).mpr ((pk_lt_b wk hw).mpr q)), nI_1]
      exact x_look ok hwd hP hla hw d f (i + 1) (by omega) (by omega) (fun j hj => by
        by_cases r : j = i
        · rw [r]; exact q
        · exact h j (by omega))
    · rw [if_neg (fun c => q ((pk_lt_b wk hw).mp ((pk_lLT (by omega) (by omega)).mp c)))]
      exact ⟨i, Or.inl ⟨by omega, q, h⟩, rfl⟩
theorem m_look {K : Int32 → Int32 → Option (Int32 × Int32 × Int32 × Int32 × (Nat → Int32) × (Nat → Int32) × (Nat → Int32) × (Nat → Int32) × (Nat → Int32) × (Nat → Int32) × (Nat → Int32))} {N : Nat} {G : Nat → Nat} {W : Nat → List Nat} (ok : OKE N G W) {z : Nat → Int64} (hz : ∀ i, i < N → z (4 + i) = lN (b27 (W i))) {P : Nat} (hP : 1 ≤ P ∧ P ≤ 300) {LA : Nat → Nat} {la : Nat → Int32} (hla : ∀ p, p < P → LA p < N ∧ la p = nI (LA p)) {w : List Nat} (hw : wOK w) : ∀ (k f r : Nat), k ≤ P → k < f → ((r = P - 1 ∧ ∀ j, k ≤ j → j < P → b27 (W (LA j)) < b27 w) ∨ (k ≤ r ∧ r < P ∧ ¬ b27 (W (LA r)) < b27 w ∧ ∀ j, k ≤ j → j < r → b27 (W (LA j)) < b27 w)) →
    ∃ i r', LK P (fun j => b27 (W (LA j)) < b27 w) r' ∧ L_X6_lookFor_45 K z (lN (b27 w)) la f (nI k - 1) (nI r) = K i (nI r')
  | _, 0, _, _, hf, _ => absurd hf (by omega)
  | 0, f + 1, r, hk, _, h => by
    refine ⟨nI 0 - 1, r, ?_, ?_⟩
    · rcases h with ⟨h1, h2⟩ | ⟨h1, h2, h3, h4⟩
      · exact Or.inr ⟨h1, fun j hj => h2 j (Nat.zero_le _) hj⟩
      · exact Or.inl ⟨h2, h3, fun j hj => h4 j (Nat.zero_le _) hj⟩
    · rw [L_X6_lookFor_45_s, if_pos (show nI 0 - 1 < (0 : Int32) by decide)]
  | k + 1, f + 1, r, hk, hf, h => by
    have hN := ok.1
    obtain ⟨h1, h2⟩ := hla k (by omega)
    have wk := (ok.2.1 _ h1).2.2.1
    have s1 := b27_small wk
    have s2 := b27_small hw
    rw [nI_pred, L_X6_lookFor_45_s, if_neg (show ¬ nI k < (0 : Int32) from nI_nlt (a := k) (b := 0) (by omega) (by omega)), gd_t (xin_nI (by omega) (by decide)), clN (by omega), h2, n4, gd_t (xin64 (by omega)), clN (by omega), hz _ h1, sub1]
    by_cases q : b27 (W (LA k)) < b27 w
    · rw [if_pos ((pk_lLT (by omega) (by omega)).mpr q)]
      exact m_look ok hz hP hla hw k f r (by omega) (by omega) (by
        rcases h with ⟨a1, a2⟩ | ⟨a1, a2, a3, a4⟩
        · refine Or.inl ⟨a1, fun j b1 b2 => ?_⟩
          by_cases e : j = k
          · rw [e]; exact q
          · exact a2 j (by omega) b2
        · refine Or.inr ⟨by omega, a2, a3, fun j b1 b2 => ?_⟩
          by_cases e : j = k
          · rw [e]; exact q
          · exact a4 j (by omega) b2)
    · rw [if_neg (fun c => q ((pk_lLT (by omega) (by omega)).mp c))]
      exact m_look ok hz hP hla hw k f k (by omega) (by omega) (Or.inr ⟨Nat.le_refl _, by omega, q, fun j b1 b2 => absurd b2 (by omega)⟩)
theorem q_look {S : Nat → Nat} {N : Nat} {G : Nat → Nat} {W : Nat → List Nat} (ok : OKE N G W) {wd : Nat → Int64} (hwd : ∀ i, i < N → wd i = lN (pk (W i))) {z : Nat → Int64} (hm : MLex S N G W z 0) {pg ps s : Int32} {bp bl ep fi la bg fd hl : Nat → Int32} (hl0 : LAID S N G W pg ps s bp bl ep fi la bg fd hl) (pg0 ps0 : Int32) (hd us mf ml mbp mbl mep : Nat → Int32) {n : Nat} {cs : Nat → Nat} (okp : OKP n cs) {codes pd : Nat → Int32} (h1 : PadIs n cs codes) (h2 : PadIs n cs pd) :
    ∃ r t, f_X5_lookFor pg la (nI N) wd (nI n) codes = some r ∧ f_X6_lookFor (nI n) pg0 ps0 z pd hd us mf ml mbp mbl mep = some (r, t) := by
  have hF := FU_big
  have hN := ok.1
  have hz4 : ∀ i, i < N → z (4 + i) = lN (b27 (W i)) := fun i hi => by have := (hm.2.2 i hi).1; rw [Nat.zero_add] at this; exact this
  unfold f_X5_lookFor f_X6_lookFor
  rcases pad_word okp h1 h2 with ⟨w, sp, hw, hw1, e1, e2, e3⟩ | ⟨sp, e1, e3⟩
  · obtain ⟨P, i, H, US, FI, LA, BG, BP, BL, EP, nh, hd', us', mf', ml', mbp', mbl', mep', rfl, -, -, el, hps⟩ := hl0 z hd us mf ml mbp mbl mep hm
    obtain ⟨hH, hP, hI, hX, hM, hh, hn, hs⟩ := hps
    have nb : ¬ lN (b27 w) = 0 := fun c => by have := (b27_0 hw).mp c; omega
    rw [bd_eq e1, if_neg (show ¬ (1 : Int32) = 0 by decide), bd_eq e3]
    dsimp only
    rw [if_neg nb, bd_eq el]
    dsimp only
    by_cases q : P = 0
    · rw [if_pos (show nI P = (0 : Int32) by rw [q]; rfl), if_pos (show nI P = (0 : Int32) by rw [q]; rfl)]
      unfold J_X6_lookFor_36
      dsimp only
      rw [q, FU_s 1 (by decide), L_X6_lookFor_45_s, if_pos (show nI 0 - 1 < (0 : Int32) by decide)]
      exact ⟨_, _, rfl, rfl⟩
    · have hla : ∀ p, p < P → LA p < N ∧ la p = nI (LA p) := fun p hp => ⟨(hI.2.2.1 p hp).2.1, (hX.1 p hp).2.1⟩
      have hlm : ∀ p, p < P → LA p < N ∧ ml' p = nI (LA p) := fun p hp => ⟨(hI.2.2.1 p hp).2.1, (hM.2.1 p hp).2⟩
      have nP : ¬ nI P = (0 : Int32) := fun c => q ((nI_eq (b := 0) (by omega) (by decide)).mp c)
      obtain ⟨r, k1, k2⟩ := x_look ok hwd (P := P) ⟨by omega, by omega⟩ hla hw P FU 0 (by omega) (by omega) (fun j hj => absurd hj (by omega))
      obtain ⟨i', r', k3, k4⟩ := m_look (K := fun (i4_45 : Int32) (i3_45 : Int32) => some (i3_45, sp, nI P, nI i, hd', us', mf', ml', mbp', mbl', mep')) ok hz4 (P := P) ⟨by omega, by omega⟩ hlm hw P FU (P - 1) (by omega) (by omega) (Or.inl ⟨rfl, fun j a b => absurd b (by omega)⟩)
      have er : r' = r := LK_one k3 k1
      rw [if_neg nP, if_neg nP, bd_eq e2]
      unfold J_X6_lookFor_36
      dsimp only
      have ep1 : nI P - 1 = nI (P - 1) := pk_sub (b := 1) (by omega)
      have k5 : L_X6_lookFor_45 (fun (i4_45 : Int32) (i3_45 : Int32) => some (i3_45, sp, nI P, nI i, hd', us', mf', ml', mbp', mbl', mep')) z (lN (b27 w)) ml' FU (nI P - 1) (nI P - 1) = some (nI r, sp, nI P, nI i, hd', us', mf', ml', mbp', mbl', mep') := by
        have k6 := k4
        rw [er] at k6
        rw [← ep1] at k6
        exact k6
      exact ⟨_, _, k2, k5⟩
  · rw [bd_eq e1, if_pos rfl, bd_eq e3]
    dsimp only
    rw [if_pos rfl]
    exact ⟨_, _, rfl, rfl⟩
theorem q_find {S : Nat → Nat} {N : Nat} {G : Nat → Nat} {W : Nat → List Nat} (ok : OKE N G W) {wd : Nat → Int64} (hwd : ∀ i, i < N → wd i = lN (pk (W i))) {z : Nat → Int64} (hm : MLex S N G W z 0) {n : Nat} {cs : Nat → Nat} (okp : OKP n cs) {codes pd : Nat → Int32} (h1 : PadIs n cs codes) (h2 : PadIs n cs pd) :
    ∃ r t, f_X5_find (nI N) wd (nI n) codes = some r ∧ f_X6_find (nI n) z pd = some (r, t) := by
  have h3 : z 3 = lN N := hm.1
  have hz4 : ∀ i, i < N → z (4 + i) = lN (b27 (W i)) := fun i hi => by have := (hm.2.2 i hi).1; rw [Nat.zero_add] at this; exact this
  unfold f_X5_find f_X6_find
  rcases pad_word okp h1 h2 with ⟨w, sp, hw, hw1, e1, e2, e3⟩ | ⟨sp, e1, e3⟩
  · have nb : ¬ lN (b27 w) = 0 := fun c => by have := (b27_0 hw).mp c; omega
    rw [bd_eq e1, if_neg (show ¬ (1 : Int32) = 0 by decide), bd_eq e3]
    dsimp only
    rw [if_neg nb, bd_eq e2]
    rcases x_number ok hwd hw with ⟨e, he, hWe, ex⟩ | ⟨hno, ex⟩
    · rcases m_with ok h3 hz4 hw with ⟨e', he', hWe', em⟩ | ⟨hno, em⟩
      · have hee : e' = e := w_one ok he' he (by rw [hWe', hWe])
        rw [bd_eq ex, bd_eq em, hee]
        exact ⟨_, _, rfl, rfl⟩
      · exact absurd hWe (hno e he)
    · rcases m_with ok h3 hz4 hw with ⟨e', he', hWe', em⟩ | ⟨hno2, em⟩
      · exact absurd hWe' (hno e' he')
      · rw [bd_eq ex, bd_eq em]
        exact ⟨_, _, rfl, rfl⟩
  · rw [bd_eq e1, if_pos rfl, bd_eq e3]
    dsimp only
    rw [if_pos rfl]
    exact ⟨_, _, rfl, rfl⟩
