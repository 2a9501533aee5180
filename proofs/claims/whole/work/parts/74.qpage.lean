/-! what is asked of a page, on both sides -/
theorem m_inP {P : Nat} (hP : P ≤ 300) (i : Int32) : f_X6_in i.toInt64 0 ((nI P - 1).toInt64) = if 0 ≤ i.toInt ∧ i.toInt < P then 1 else 0 := by
  unfold f_X6_in
  have h1 : (i.toInt64 < 0) ↔ i.toInt < 0 := by rw [Int64.lt_iff_toInt_lt, Int32.toInt_toInt64]; rfl
  have h2 : ((nI P - 1).toInt64 < i.toInt64) ↔ (P : Int) - 1 < i.toInt := by
    rw [Int64.lt_iff_toInt_lt, Int32.toInt_toInt64, Int32.toInt_toInt64]
    have e3 : (nI P - 1).toInt = (P : Int) - 1 := by
      rw [Int32.toInt_sub, nI_toInt (by omega), show (1 : Int32).toInt = 1 by rfl, Int.bmod_eq_of_le (by omega) (by omega)]
    rw [e3]
  by_cases a : i.toInt < 0
  · rw [if_pos (h1.mpr a), if_neg (by omega)]
  · rw [if_neg (fun q => a (h1.mp q))]
    by_cases b : (P : Int) - 1 < i.toInt
    · rw [if_pos (h2.mpr b), if_neg (by omega)]
    · rw [if_neg (fun q => b (h2.mp q)), if_pos (by omega)]
theorem m_begun_loop {K : Int32 → Int32 → Option Int32} {N p a b : Nat} (hN : N ≤ 30) (hp : p < 2 ^ 30) (ha : a < N) (hb : b ≤ a + 1) {z : Nat → Int64} (h3 : z 3 = lN N) {BP : Nat → Nat} {bps : Nat → Int32} (h : ∀ e, e < N → bps e = nI (BP e) ∧ BP e < 2 ^ 30 ∧ (BP e = p ↔ a < e + b ∧ e ≤ a)) : ∀ (d f i : Nat), i + d = N → d < f →
    L_X6_begun_4 K (nI p) z bps f (nI i) (nI (min i (a + 1) - (a + 1 - b))) = K (nI N) (nI b)
  | _, 0, _, _, hf => absurd hf (by omega)
  | 0, f + 1, i, hi, _ => by
    rw [L_X6_begun_4_s, m_many h3, if_pos (nI_le (by omega) (by omega)), show i = N by omega, show min N (a + 1) - (a + 1 - b) = b by omega]
  | d + 1, f + 1, i, hi, hf => by
    obtain ⟨h1, h2, h4⟩ := h i (by omega)
    have ih := m_begun_loop (K := K) hN hp ha hb h3 h d f (i + 1) (by omega) (by omega)
    rw [L_X6_begun_4_s, m_many h3, if_neg (nI_ge (by omega) (by omega)), gd_t (xin_nI (by omega) (by decide)), clN (by omega), h1, nI_1]
    by_cases q : BP i = p
    · have q2 := h4.mp q
      rw [if_pos (by rw [q]), nI_1, show min i (a + 1) - (a + 1 - b) + 1 = min (i + 1) (a + 1) - (a + 1 - b) by omega]
      exact ih
    · have q2 : ¬ (a < i + b ∧ i ≤ a) := fun c => q (h4.mpr c)
      rw [if_neg (fun c => q ((nI_eq (by omega) (by omega)).mp c)), Int32.add_zero, show min i (a + 1) - (a + 1 - b) = min (i + 1) (a + 1) - (a + 1 - b) by omega]
      exact ih
theorem m_begun {N p a b : Nat} (hN : N ≤ 30) (hp : p < 2 ^ 30) (ha : a < N) (hb : b ≤ a + 1) {z : Nat → Int64} (h3 : z 3 = lN N) {BP : Nat → Nat} {bps : Nat → Int32} (h : ∀ e, e < N → bps e = nI (BP e) ∧ BP e < 2 ^ 30 ∧ (BP e = p ↔ a < e + b ∧ e ≤ a)) :
    f_X6_begun z bps (nI p) = some (nI b) := by
  have hF := FU_big
  have e := m_begun_loop (K := fun (i3_4 : Int32) (i2_4 : Int32) => some i2_4) hN hp ha hb h3 h N FU 0 (by omega) (by omega)
  rw [show min 0 (a + 1) - (a + 1 - b) = 0 by omega] at e
  exact e
theorem head_both {N : Nat} {G : Nat → Nat} {W : Nat → List Nat} (ok : OKE N G W) {wd : Nat → Int64} (hwd : ∀ i, i < N → wd i = lN (pk (W i))) {z : Nat → Int64} (hz : ∀ i, i < N → z (4 + i) = lN (b27 (W i))) {p a b : Nat} (hp : p < 300) (ha : a < N) (hb : b < N) {fi la mf ml : Nat → Int32} (hf : fi p = nI a) (hl : la p = nI b) (hmf : mf p = nI a) (hml : ml p = nI b) {j : Nat} (hj : j < 2 ^ 31) :
    ∃ c, f_X0_headCode fi la (nI N) wd (nI p) (nI j) = some c ∧ f_X6_headCode z mf ml (nI p) (nI j) = some (f_X5_codeOrNone c) := by
  have hN := ok.1
  have wa := (ok.2.1 a ha).2.2.1
  have wb := (ok.2.1 b hb).2.2.1
  have w7 := wa.1
  have eJ : J_X6_headCode_41 (nI p) (nI j) z mf = some (f_X5_codeOrNone (f_X4_code (lN (pk (W a))) (nI j))) := by
    unfold J_X6_headCode_41
    rw [clN (by omega), hmf, n4, clN (by omega), hz a ha, bd_eq (letter_both wa hj)]
  unfold f_X0_headCode f_X6_headCode J_X0_headCode_40
  rw [gd_t (xin_nI hp (by decide)), clN (by omega), hf, bd_eq (x_wordOf hN ha), hwd a ha, x_letters wa, gd_t (xin_nI (show p < 400 by omega) (by decide)), hmf, n4, gd_t (xin64 (by omega)), clN (by omega), hz a ha, bd_eq (m_size wa)]
  by_cases q1 : j < (W a).length
  · rw [if_pos (nI_lt q1 (by omega)), if_pos (nI_lt q1 (by omega)), eJ]
    exact ⟨_, rfl, rfl⟩
  · rw [if_neg (nI_nlt (by omega) (by omega)), if_neg (nI_nlt (by omega) (by omega)), gd_t (xin_nI hp (by decide)), gd_t (xin_nI hp (by decide)), gd_t (xin_nI (show p < 400 by omega) (by decide)), gd_t (xin_nI (show p < 400 by omega) (by decide)), hl, hml]
    by_cases q2 : a = b
    · rw [if_pos (by rw [q2]), if_pos (by rw [q2]), eJ]
      exact ⟨_, rfl, rfl⟩
    · have nab : ¬ nI a = nI b := fun c => q2 ((nI_eq (by omega) (by omega)).mp c)
      rw [if_neg nab, if_neg nab]
      by_cases q3 : j = (W a).length
      · rw [if_pos (by rw [q3]), if_pos (by rw [q3])]
        exact ⟨45, rfl, rfl⟩
      · have nj : ¬ nI j = nI (W a).length := fun c => q3 ((nI_eq (by omega) (by omega)).mp c)
        have e2 : nI j - nI (W a).length - 1 = nI (j - (W a).length - 1) := by
          rw [pk_sub (by omega)]
          exact pk_sub (b := 1) (by omega)
        rw [if_neg nj, if_neg nj, gd_t (xin_nI hp (by decide)), bd_eq (x_wordOf hN hb), hwd b hb, e2, gd_t (xin_nI (show p < 400 by omega) (by decide)), n4, gd_t (xin64 (by omega)), clN (by omega), hz b hb, bd_eq (letter_both wb (by omega))]
        exact ⟨_, rfl, rfl⟩
theorem q_page {S : Nat → Nat} {N : Nat} {G : Nat → Nat} {W : Nat → List Nat} (ok : OKE N G W) {wd : Nat → Int64} (hwd : ∀ i, i < N → wd i = lN (pk (W i))) {z : Nat → Int64} (hm : MLex S N G W z 0) (oks : OKS S) {pg ps s : Int32} {bp bl ep fi la bg fd hl : Nat → Int32} (hl0 : LAID S N G W pg ps s bp bl ep fi la bg fd hl) (hd us mf ml mbp mbl mep : Nat → Int32) (i1 i2 : Int32) :
    ∃ r t, f_X5_page pg (nI (S 0)) fi la bg fd hl (nI N) wd i1 i2 = some r ∧ f_X6_page z hd us mf ml mbp mbl mep i1 i2 = some (r, t) := by
  have hN := ok.1
  have h3 : z 3 = lN N := hm.1
  have hz0 : z 0 = lN (S 0) := hm.2.1 0 (by omega)
  have hz4 : ∀ i, i < N → z (4 + i) = lN (b27 (W i)) := fun i hi => by have := (hm.2.2 i hi).1; rw [Nat.zero_add] at this; exact this
  obtain ⟨P, i, H, US, FI, LA, BG, BP, BL, EP, nh, hd', us', mf', ml', mbp', mbl', mep', rfl, -, -, el, hps⟩ := hl0 z hd us mf ml mbp mbl mep hm
  obtain ⟨hH, hP, hI, hX, hM, hh, hn, hs⟩ := hps
  unfold f_X5_page f_X6_page
  rw [bd_eq el]
  dsimp only
  rw [m_inP (by omega)]
  rcases ix_cases i1 (show P < 2 ^ 31 by omega) with ⟨p, hp, rfl⟩ | hout
  · rw [x_hasPage (by omega) hp, if_neg (show ¬ (1 : Int32) = 0 by decide), if_pos (show 0 ≤ (nI p).toInt ∧ (nI p).toInt < (P : Int) by rw [nI_toInt (by omega)]; omega), if_neg (show ¬ (1 : Int32) = 0 by decide)]
    rcases sg_cases i2 with hneg | ⟨k, hk, rfl⟩
    · have : ¬ (0 : Int32) ≤ i2 := by rw [i32_neg] at hneg; rw [Int32.le_iff_toInt_le]; exact fun c => by have : (0 : Int32).toInt = 0 := rfl; omega
      rw [if_neg this, if_neg this]
      exact ⟨_, _, rfl, rfl⟩
    · have e0 : (0 : Int32) ≤ nI k := nI_le (a := 0) (by omega) hk
      have e1 : ¬ nI k < (0 : Int32) := nI_nlt (a := k) (b := 0) (by omega) hk
      obtain ⟨x1, x2, x3, x4, x5⟩ := hX.1 p hp
      obtain ⟨m1, m2⟩ := hM.2.1 p hp
      have m3 := hM.1 p (by omega)
      have m4 := hh p (by omega)
      obtain ⟨c1, c2, c3, c4⟩ := hI.2.2.1 p hp
      have hUS := hI.2.1 p hp
      have hS := oks.1
      rw [if_pos e0, if_pos e0, if_neg e1, if_neg e1]
      by_cases q : 6 < k
      · have q5 : (6 : Int32) < nI k := nI_lt (a := 6) q hk
        have e6 : nI k - (7 : Int32) = nI (k - 7) := pk_sub (b := 7) (by omega)
        obtain ⟨c, g1, g2⟩ := head_both ok hwd hz4 (p := p) (by omega) (by omega) c2 x1 x2 m1 m2 (j := k - 7) (by omega)
        rw [if_pos q5, if_pos q5, e6, bd_eq g1, bd_eq g2]
        exact ⟨_, _, rfl, rfl⟩
      · have q5 : ¬ (6 : Int32) < nI k := nI_nlt (a := 6) (by omega) (by decide)
        rw [if_neg q5, if_neg q5]
        rcases (show k = 0 ∨ k = 1 ∨ k = 2 ∨ k = 3 ∨ k = 4 ∨ k = 5 ∨ k = 6 by omega) with rfl | rfl | rfl | rfl | rfl | rfl | rfl
        · rw [if_pos (by decide), if_pos (by decide), gd_t (xin_nI (by omega) (by decide)), clN (by omega), gd_t (xin_nI (show p < 400 by omega) (by decide)), x1, m1]
          exact ⟨_, _, rfl, rfl⟩
        · rw [if_neg (by decide), if_pos (by decide), if_neg (by decide), if_pos (by decide), gd_t (xin_nI (by omega) (by decide)), clN (by omega), gd_t (xin_nI (show p < 400 by omega) (by decide)), x2, m2]
          exact ⟨_, _, rfl, rfl⟩
        · rw [if_neg (by decide), if_neg (by decide), if_pos (by decide), if_neg (by decide), if_neg (by decide), if_pos (by decide), gd_t (xin_nI (by omega) (by decide)), clN (by omega), x3, bd_eq (m_begun hN (by omega) c2 c3 h3 (BP := BP) (bps := mbp') (fun e he => ⟨(hM.2.2.1 e he).1, by have := hI.2.2.2.1 e he; omega, c4 e he⟩))]
          exact ⟨_, _, rfl, rfl⟩
        · rw [if_neg (by decide), if_neg (by decide), if_neg (by decide), if_pos (by decide), if_neg (by decide), if_neg (by decide), if_neg (by decide), if_pos (by decide), gd_t (xin_nI (by omega) (by decide)), clN (by omega), gd_t (xin_nI (show p < 400 by omega) (by decide)), x4, m3]
          exact ⟨_, _, rfl, rfl⟩
        · have hHp := hH p
          have ex : f_X0_blankLinesOf (nI (S 0)) fd hl (nI p) = some (nI (S 0 - H p) - nI (US p)) := by
            unfold f_X0_blankLinesOf
            rw [gd_t (xin_nI (by omega) (by decide)), gd_t (xin_nI (by omega) (by decide)), clN (by omega), x4, x5, pk_sub (by omega)]
          rw [if_neg (by decide), if_neg (by decide), if_neg (by decide), if_neg (by decide), if_pos (by decide), if_neg (by decide), if_neg (by decide), if_neg (by decide), if_neg (by decide), if_pos (by decide), bd_eq ex, bd_eq (m_room (by omega) hS.2 hz0 hh (by omega)), gd_t (xin_nI (show p < 400 by omega) (by decide)), clN (by omega), m3]
          exact ⟨_, _, rfl, rfl⟩
        · rw [if_neg (by decide), if_neg (by decide), if_neg (by decide), if_neg (by decide), if_neg (by decide), if_pos (by decide), if_neg (by decide), if_neg (by decide), if_neg (by decide), if_neg (by decide), if_neg (by decide), if_pos (by decide), gd_t (xin_nI (by omega) (by decide)), clN (by omega), gd_t (xin_nI (show p < 400 by omega) (by decide)), x5, m4]
          exact ⟨_, _, rfl, rfl⟩
        · rw [if_neg (by decide), if_neg (by decide), if_neg (by decide), if_neg (by decide), if_neg (by decide), if_neg (by decide), if_neg (by decide), if_neg (by decide), if_neg (by decide), if_neg (by decide), if_neg (by decide), if_neg (by decide), bd_eq (x_width ok hwd (by omega) (by omega) c2 x1 x2), bd_eq (m_hsize ok hz4 (by omega) (by omega) c2 m1 m2)]
          exact ⟨_, _, rfl, rfl⟩
  · have e1 : f_X0_hasPage (nI P) i1 = 0 := by
      unfold f_X0_hasPage
      by_cases q : i1 < 0
      · rw [if_pos q]
      · rw [if_neg q, if_pos]
        rw [i32_nIle (by omega)]
        rw [i32_neg] at q
        omega
    rw [e1, if_pos rfl, if_neg (show ¬ (0 ≤ i1.toInt ∧ i1.toInt < (P : Int)) by omega), if_pos rfl]
    exact ⟨_, _, rfl, rfl⟩
