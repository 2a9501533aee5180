/-! what is asked of an entry, on both sides -/
theorem sg_cases (x : Int32) : x < 0 ∨ ∃ k, k < 2 ^ 31 ∧ x = nI k := by
  by_cases q : x < 0
  · exact Or.inl q
  · right
    rw [i32_neg] at q
    have h := Int32.toInt_lt x
    refine ⟨x.toInt.toNat, by omega, ?_⟩
    refine Int32.toInt_inj.mp ?_
    rw [nI_toInt (by omega)]
    omega
theorem letter_both {w : List Nat} (h : wOK w) {j : Nat} (hj : j < 2 ^ 31) : f_X6_letter (lN (b27 w)) (nI j) = some (f_X5_codeOrNone (f_X4_code (lN (pk w)) (nI j))) := by
  rw [m_letter h hj]
  by_cases q : j < w.length
  · have hx := h.2 w[j] (List.getElem_mem q)
    rw [dif_pos q, x_code_in h q]
    unfold f_X5_codeOrNone
    rw [if_neg (show ¬ nI (96 + w[j]) = (0 : Int32) from fun c => by have := (nI_eq (a := 96 + w[j]) (b := 0) (by omega) (by decide)).mp c; omega)]
  · rw [dif_neg q, x_code_out h (Or.inr (by rw [nI_toInt hj]; omega))]
    rfl
theorem q_entry {S : Nat → Nat} {N : Nat} {G : Nat → Nat} {W : Nat → List Nat} (ok : OKE N G W) {ln : Nat → Int32} {wd : Nat → Int64} (hx : ∀ i, i < N → ln i = nI (G i) ∧ wd i = lN (pk (W i))) {z : Nat → Int64} (hm : MLex S N G W z 0) {pg ps s : Int32} {bp bl ep fi la bg fd hl : Nat → Int32} (hl0 : LAID S N G W pg ps s bp bl ep fi la bg fd hl) (pg0 ps0 : Int32) (hd us mf ml mbp mbl mep : Nat → Int32) (i1 i2 : Int32) :
    ∃ r t, f_X5_entry bp bl ep (nI N) ln wd i1 i2 = some r ∧ f_X6_entry pg0 ps0 z hd us mf ml mbp mbl mep i1 i2 = some (r, t) := by
  have hN := ok.1
  have h3 : z 3 = lN N := hm.1
  have he4 : ∀ i, i < N → z (4 + i) = lN (b27 (W i)) ∧ z (34 + i) = lN (G i) := fun i hi => by have := hm.2.2 i hi; simp only [Nat.zero_add] at this; exact this
  unfold f_X5_entry f_X6_entry
  rcases ix_cases i1 (show N < 2 ^ 31 by omega) with ⟨e, he, rfl⟩ | hout
  · rw [x_has (by omega) he, if_neg (show ¬ (1 : Int32) = 0 by decide), bd_eq (m_isEntry_in hN h3 he), if_neg (show ¬ (1 : Int32) = 0 by decide)]
    rcases sg_cases i2 with hneg | ⟨k, hk, rfl⟩
    · have : ¬ (0 : Int32) ≤ i2 := by rw [i32_neg] at hneg; rw [Int32.le_iff_toInt_le]; exact fun c => by have : (0 : Int32).toInt = 0 := rfl; omega
      rw [if_neg this, if_neg this]
      exact ⟨_, _, rfl, rfl⟩
    · have e0 : (0 : Int32) ≤ nI k := nI_le (a := 0) (by omega) hk
      have e1 : ¬ nI k < (0 : Int32) := nI_nlt (a := k) (b := 0) (by omega) hk
      obtain ⟨P, i, H, US, FI, LA, BG, BP, BL, EP, nh, hd', us', mf', ml', mbp', mbl', mep', -, -, -, el, hps⟩ := hl0 z hd us mf ml mbp mbl mep hm
      obtain ⟨hH, hP, hI, hX, hM, hh, hn, hs⟩ := hps
      obtain ⟨x1, x2⟩ := hX.2.1 e he
      have x3 := hX.2.2 e he
      obtain ⟨m1, m2, m3⟩ := hM.2.2.1 e he
      have wk := (ok.2.1 e he).2.2.1
      rw [if_pos e0, if_pos e0, bd_eq el, if_neg e1, if_neg e1]
      dsimp only
      by_cases q : 5 < k
      · have q5 : (5 : Int32) < nI k := nI_lt (a := 5) q hk
        have e6 : nI k - (6 : Int32) = nI (k - 6) := pk_sub (b := 6) (by omega)
        rw [if_pos q5, if_pos q5, bd_eq (x_wordOf hN he), n4, gd_t (xin64 (by omega)), clN (by omega), (he4 e he).1, (hx e he).2, e6, bd_eq (letter_both wk (by omega))]
        exact ⟨_, _, rfl, rfl⟩
      · have q5 : ¬ (5 : Int32) < nI k := nI_nlt (a := 5) (by omega) (by decide)
        rw [if_neg q5, if_neg q5]
        rcases (show k = 0 ∨ k = 1 ∨ k = 2 ∨ k = 3 ∨ k = 4 ∨ k = 5 by omega) with rfl | rfl | rfl | rfl | rfl | rfl
        · rw [if_pos (by decide), if_pos (by decide), gd_t (xin_nI (by omega) (by decide)), clN (by omega), (hx e he).1, bd_eq (m_lines (by omega) (he4 e he).2)]
          exact ⟨_, _, rfl, rfl⟩
        · rw [if_neg (by decide), if_pos (by decide), if_neg (by decide), if_pos (by decide), gd_t (xin_nI (by omega) (by decide)), clN (by omega), gd_t (xin_nI (by omega) (by decide)), x1, m1]
          exact ⟨_, _, rfl, rfl⟩
        · rw [if_neg (by decide), if_neg (by decide), if_pos (by decide), if_neg (by decide), if_neg (by decide), if_pos (by decide), gd_t (xin_nI (by omega) (by decide)), clN (by omega), gd_t (xin_nI (by omega) (by decide)), x2, m2]
          exact ⟨_, _, rfl, rfl⟩
        · rw [if_neg (by decide), if_neg (by decide), if_neg (by decide), if_pos (by decide), if_neg (by decide), if_neg (by decide), if_neg (by decide), if_pos (by decide), gd_t (xin_nI (by omega) (by decide)), clN (by omega), gd_t (xin_nI (by omega) (by decide)), x3, m3]
          exact ⟨_, _, rfl, rfl⟩
        · have ex : f_X0_pagesOf bp ep (nI e) = some (nI (EP e) - nI (BP e) + 1) := by
            unfold f_X0_pagesOf
            rw [gd_t (xin_nI (by omega) (by decide)), gd_t (xin_nI (by omega) (by decide)), clN (by omega), x1, x3]
          rw [if_neg (by decide), if_neg (by decide), if_neg (by decide), if_neg (by decide), if_pos (by decide), if_neg (by decide), if_neg (by decide), if_neg (by decide), if_neg (by decide), if_pos (by decide), bd_eq ex, gd_t (xin_nI (by omega) (by decide)), gd_t (xin_nI (by omega) (by decide)), clN (by omega), m1, m3]
          exact ⟨_, _, rfl, rfl⟩
        · rw [if_neg (by decide), if_neg (by decide), if_neg (by decide), if_neg (by decide), if_neg (by decide), if_neg (by decide), if_neg (by decide), if_neg (by decide), if_neg (by decide), if_neg (by decide), bd_eq (x_wordOf hN he), n4, gd_t (xin64 (by omega)), clN (by omega), (he4 e he).1, (hx e he).2, x_letters wk, bd_eq (m_size wk)]
          exact ⟨_, _, rfl, rfl⟩
  · rw [x_hasnt (by omega) hout, if_pos rfl, bd_eq (m_isEntry_out hN h3 hout), if_pos rfl]
    exact ⟨_, _, rfl, rfl⟩
