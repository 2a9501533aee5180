/-! folds, both sides -/
theorem half_all : ∀ p, p < 302 → nI p / 2 = nI (p / 2) := by decide +kernel
theorem folds_eq {P : Nat} (hP : P ≤ 300) : (nI P + 1) / 2 = nI ((P + 1) / 2) := by rw [nI_1]; exact half_all (P + 1) (by omega)
theorem named_last_loop {K : Int32 → Int32 → Option Int32} {N p a b : Nat} (hN : N ≤ 30) (hp : p < 2 ^ 30) (ha : a < N) (hb : b ≤ a + 1) {z : Nat → Int64} (h3 : z 3 = lN N) {BP : Nat → Nat} {bps : Nat → Int32} (h : ∀ e, e < N → bps e = nI (BP e) ∧ BP e < 2 ^ 30 ∧ (BP e = p ↔ a < e + b ∧ e ≤ a)) : ∀ (d f i : Nat), i + d = N → d < f →
    L_X6_named_6 K (nI p) 1 z bps f (nI i) (if b = 0 ∨ i ≤ a + 1 - b then (-6) else nI (min (i - 1) a)) = K (nI N) (if b = 0 then (-6) else nI a)
  | _, 0, _, _, hf => absurd hf (by omega)
  | 0, f + 1, i, hi, _ => by
    rw [L_X6_named_6_s, m_many h3, if_pos (nI_le (by omega) (by omega)), show i = N by omega]
    by_cases q : b = 0
    · rw [if_pos (Or.inl q), if_pos q]
    · rw [if_neg (show ¬ (b = 0 ∨ N ≤ a + 1 - b) by omega), if_neg q, show min (N - 1) a = a by omega]
  | d + 1, f + 1, i, hi, hf => by
    obtain ⟨h1, h2, h4⟩ := h i (by omega)
    have ih := named_last_loop (K := K) hN hp ha hb h3 h d f (i + 1) (by omega) (by omega)
    rw [L_X6_named_6_s, m_many h3, if_neg (nI_ge (by omega) (by omega)), gd_t (xin_nI (by omega) (by decide)), clN (by omega), h1, nI_1]
    by_cases q : BP i = p
    · have q2 := h4.mp q
      rw [if_pos (by rw [q]), if_neg (show ¬ (1 : Int32) = 0 by decide)]
      rw [if_neg (show ¬ (b = 0 ∨ i + 1 ≤ a + 1 - b) by omega), Nat.add_sub_cancel, show min i a = i by omega] at ih
      exact ih
    · have q2 : ¬ (a < i + b ∧ i ≤ a) := fun c => q (h4.mpr c)
      rw [if_neg (fun c => q ((nI_eq (by omega) (by omega)).mp c))]
      by_cases r : b = 0 ∨ i ≤ a + 1 - b
      · rw [if_pos r]
        rw [if_pos (show b = 0 ∨ i + 1 ≤ a + 1 - b by omega)] at ih
        exact ih
      · rw [if_neg r, show min (i - 1) a = a by omega]
        rw [if_neg (show ¬ (b = 0 ∨ i + 1 ≤ a + 1 - b) by omega), Nat.add_sub_cancel, show min i a = a by omega] at ih
        exact ih
theorem named_first_loop {K : Int32 → Int32 → Option Int32} {N p a b : Nat} (hN : N ≤ 30) (hp : p < 2 ^ 30) (ha : a < N) (hb : b ≤ a + 1) {z : Nat → Int64} (h3 : z 3 = lN N) {BP : Nat → Nat} {bps : Nat → Int32} (h : ∀ e, e < N → bps e = nI (BP e) ∧ BP e < 2 ^ 30 ∧ (BP e = p ↔ a < e + b ∧ e ≤ a)) : ∀ (d f i : Nat), i + d = N → d < f →
    L_X6_named_6 K (nI p) 0 z bps f (nI i) (if b = 0 ∨ i ≤ a + 1 - b then (-6) else nI (a + 1 - b)) = K (nI N) (if b = 0 then (-6) else nI (a + 1 - b))
  | _, 0, _, _, hf => absurd hf (by omega)
  | 0, f + 1, i, hi, _ => by
    rw [L_X6_named_6_s, m_many h3, if_pos (nI_le (by omega) (by omega)), show i = N by omega]
    by_cases q : b = 0
    · rw [if_pos (Or.inl q), if_pos q]
    · rw [if_neg (show ¬ (b = 0 ∨ N ≤ a + 1 - b) by omega), if_neg q]
  | d + 1, f + 1, i, hi, hf => by
    obtain ⟨h1, h2, h4⟩ := h i (by omega)
    have ih := named_first_loop (K := K) hN hp ha hb h3 h d f (i + 1) (by omega) (by omega)
    rw [L_X6_named_6_s, m_many h3, if_neg (nI_ge (by omega) (by omega)), gd_t (xin_nI (by omega) (by decide)), clN (by omega), h1, nI_1]
    by_cases q : BP i = p
    · have q2 := h4.mp q
      rw [if_pos (by rw [q]), if_pos (show (0 : Int32) = 0 by rfl)]
      rw [if_neg (show ¬ (b = 0 ∨ i + 1 ≤ a + 1 - b) by omega)] at ih
      by_cases r : b = 0 ∨ i ≤ a + 1 - b
      · rw [if_pos r, if_pos (show (-6 : Int32) = -6 by rfl)]
        rw [show a + 1 - b = i by omega] at ih ⊢
        exact ih
      · rw [if_neg r, if_neg (nI_m6 (by omega))]
        exact ih
    · have q2 : ¬ (a < i + b ∧ i ≤ a) := fun c => q (h4.mpr c)
      rw [if_neg (fun c => q ((nI_eq (by omega) (by omega)).mp c))]
      by_cases r : b = 0 ∨ i ≤ a + 1 - b
      · rw [if_pos r]
        rw [if_pos (show b = 0 ∨ i + 1 ≤ a + 1 - b by omega)] at ih
        exact ih
      · rw [if_neg r]
        rw [if_neg (show ¬ (b = 0 ∨ i + 1 ≤ a + 1 - b) by omega)] at ih
        exact ih
theorem m_named {N p a b : Nat} (hN : N ≤ 30) (hp : p < 300) (ha : a < N) (hb : b ≤ a + 1) {z : Nat → Int64} (h3 : z 3 = lN N) {BP : Nat → Nat} {mf ml bps : Nat → Int32} (h : ∀ e, e < N → bps e = nI (BP e) ∧ BP e < 2 ^ 30 ∧ (BP e = p ↔ a < e + b ∧ e ≤ a)) (hml : ml p = nI a) :
    f_X6_named z mf ml bps (nI p) 1 = some (nI a) ∧ f_X6_named z mf ml bps (nI p) 0 = some (if b = 0 then mf p else nI (a + 1 - b)) := by
  have hF := FU_big
  constructor
  · have e := named_last_loop (K := fun (i4_6 : Int32) (i3_6 : Int32) => if i3_6 = (-6) then (if (1 : Int32) = 0 then (gd (xin (nI p) 400) (some (mf (nI p).toNatClampNeg))) else (gd (xin (nI p) 400) (some (ml (nI p).toNatClampNeg)))) else (some i3_6)) hN (by omega) ha hb h3 h N FU 0 (by omega) (by omega)
    rw [if_pos (show b = 0 ∨ 0 ≤ a + 1 - b by omega)] at e
    unfold f_X6_named
    refine e.trans ?_
    by_cases q : b = 0
    · rw [if_pos q, if_pos (show (-6 : Int32) = -6 by rfl), if_neg (show ¬ (1 : Int32) = 0 by decide), gd_t (xin_nI (by omega) (by decide)), clN (by omega), hml]
    · rw [if_neg q, if_neg (nI_m6 (by omega))]
  · have e := named_first_loop (K := fun (i4_6 : Int32) (i3_6 : Int32) => if i3_6 = (-6) then (if (0 : Int32) = 0 then (gd (xin (nI p) 400) (some (mf (nI p).toNatClampNeg))) else (gd (xin (nI p) 400) (some (ml (nI p).toNatClampNeg)))) else (some i3_6)) hN (by omega) ha hb h3 h N FU 0 (by omega) (by omega)
    rw [if_pos (show b = 0 ∨ 0 ≤ a + 1 - b by omega)] at e
    unfold f_X6_named
    refine e.trans ?_
    by_cases q : b = 0
    · rw [if_pos q, if_pos q, if_pos (show (-6 : Int32) = -6 by rfl), if_pos (show (0 : Int32) = 0 by rfl), gd_t (xin_nI (by omega) (by decide)), clN (by omega)]
    · rw [if_neg q, if_neg q, if_neg (nI_m6 (by omega))]
theorem q_fold {S : Nat → Nat} {N : Nat} {G : Nat → Nat} {W : Nat → List Nat} (ok : OKE N G W) {z : Nat → Int64} (hm : MLex S N G W z 0) {pg ps s : Int32} {bp bl ep fi la bg fd hl : Nat → Int32} (hl0 : LAID S N G W pg ps s bp bl ep fi la bg fd hl) (hd us mf ml mbp mbl mep : Nat → Int32) (i1 i2 : Int32) (hi2 : i2 = 1 ∨ i2 = 0) :
    ∃ r t, f_X5_fold pg fi la bg i1 i2 = some r ∧ f_X6_fold z hd us mf ml mbp mbl mep i1 i2 = some (r, t) := by
  have hN := ok.1
  have h3 : z 3 = lN N := hm.1
  obtain ⟨P, i, H, US, FI, LA, BG, BP, BL, EP, nh, hd', us', mf', ml', mbp', mbl', mep', rfl, -, -, el, hps⟩ := hl0 z hd us mf ml mbp mbl mep hm
  obtain ⟨hH, hP, hI, hX, hM, hh, hn, hs⟩ := hps
  unfold f_X5_fold f_X6_fold f_X0_folds f_X6_folds
  rw [bd_eq el]
  dsimp only
  rw [folds_eq (by omega), m_inP (by omega)]
  rcases ix_cases i1 (show (P + 1) / 2 < 2 ^ 31 by omega) with ⟨q, hq, rfl⟩ | hout
  · have e2 : (2 : Int32) * nI q = nI (2 * q) := pk_mul 2 q
    rw [if_neg (show ¬ nI q < (0 : Int32) from nI_nlt (a := q) (b := 0) (by omega) (by omega)), if_pos (nI_lt hq (by omega)), if_pos (show 0 ≤ (nI q).toInt ∧ (nI q).toInt < (((P + 1) / 2 : Nat) : Int) by rw [nI_toInt (by omega)]; omega), if_neg (show ¬ (1 : Int32) = 0 by decide), e2, nI_1]
    have nm : ∀ p, p < P → f_X6_named z mf' ml' mbp' (nI p) 1 = some (nI (LA p)) ∧ f_X6_named z mf' ml' mbp' (nI p) 0 = some (if BG p = 0 then mf' p else nI (LA p + 1 - BG p)) := fun p hp => by
      obtain ⟨c1, c2, c3, c4⟩ := hI.2.2.1 p hp
      exact m_named hN (by omega) c2 c3 h3 (BP := BP) (fun e he => ⟨(hM.2.2.1 e he).1, by have := hI.2.2.2.1 e he; omega, c4 e he⟩) (hM.2.1 p hp).2
    rcases hi2 with rfl | rfl
    · rw [if_neg (show ¬ (1 : Int32) = 0 by decide), if_neg (show ¬ (1 : Int32) = 0 by decide)]
      have hp : 2 * q < P := by omega
      have ex : f_X0_leftName la (nI (2 * q)) = some (nI (LA (2 * q))) := by
        unfold f_X0_leftName
        rw [gd_t (xin_nI (by omega) (by decide)), clN (by omega), (hX.1 (2 * q) hp).2.1]
      rw [bd_eq ex, bd_eq (nm (2 * q) hp).1]
      exact ⟨_, _, rfl, rfl⟩
    · rw [if_pos (show (0 : Int32) = 0 by rfl), if_pos (show (0 : Int32) = 0 by rfl)]
      by_cases hp : 2 * q + 1 < P
      · obtain ⟨x1, x2, x3, x4, x5⟩ := hX.1 (2 * q + 1) hp
        obtain ⟨c1, c2, c3, c4⟩ := hI.2.2.1 (2 * q + 1) hp
        have ex : f_X0_rightName fi la bg (nI (2 * q + 1)) = some (if BG (2 * q + 1) = 0 then nI (FI (2 * q + 1)) else nI (LA (2 * q + 1) + 1 - BG (2 * q + 1))) := by
          unfold f_X0_rightName
          rw [gd_t (xin_nI (by omega) (by decide)), clN (by omega), x3]
          by_cases r : BG (2 * q + 1) = 0
          · rw [if_pos (show nI (BG (2 * q + 1)) = (0 : Int32) by rw [r]; rfl), if_pos r, gd_t (xin_nI (by omega) (by decide)), x1]
          · rw [if_neg (show ¬ nI (BG (2 * q + 1)) = (0 : Int32) from fun c => r ((nI_eq (b := 0) (by omega) (by decide)).mp c)), if_neg r, gd_t (xin_nI (by omega) (by decide)), gd_t (xin_nI (by omega) (by decide)), x2]
            have e5 : nI (LA (2 * q + 1)) - nI (BG (2 * q + 1)) + 1 = nI (LA (2 * q + 1)) + 1 - nI (BG (2 * q + 1)) := by
              rw [Int32.sub_eq_add_neg, Int32.sub_eq_add_neg, Int32.add_assoc, Int32.add_comm (-nI (BG (2 * q + 1))) 1, ← Int32.add_assoc]
            rw [e5, nI_1, pk_sub c3]
        rw [x_hasPage (by omega) hp, if_neg (show ¬ (1 : Int32) = 0 by decide), if_neg (nI_ge hp (by omega)), bd_eq ex, bd_eq (nm (2 * q + 1) hp).2, (hM.2.1 (2 * q + 1) hp).1]
        exact ⟨_, _, rfl, rfl⟩
      · have e6 : f_X0_hasPage (nI P) (nI (2 * q + 1)) = 0 := by
          unfold f_X0_hasPage
          rw [if_neg (show ¬ nI (2 * q + 1) < (0 : Int32) from nI_nlt (a := 2 * q + 1) (b := 0) (by omega) (by omega)), if_pos (nI_le (by omega) (by omega))]
        rw [e6, if_pos rfl, if_pos (nI_le (by omega) (by omega))]
        exact ⟨_, _, rfl, rfl⟩
  · rw [if_neg (show ¬ (0 ≤ i1.toInt ∧ i1.toInt < (((P + 1) / 2 : Nat) : Int)) by omega), if_pos (show (0 : Int32) = 0 by rfl)]
    by_cases q : i1 < 0
    · rw [if_pos q]
      exact ⟨_, _, rfl, rfl⟩
    · rw [if_neg q, if_neg]
      · exact ⟨_, _, rfl, rfl⟩
      · rw [i32_ltnI (by omega)]
        rw [i32_neg] at q
        omega
