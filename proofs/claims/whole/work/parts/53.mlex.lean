/-! lexicons, the reference's side -/
theorem m_many {z : Nat → Int64} {N : Nat} (h : z 3 = lN N) : f_X6_many z = nI N := by
  unfold f_X6_many
  rw [h, lN_i]
theorem n4 (i : Nat) : (4 : Int32) + nI i = nI (4 + i) := nI_add 4 i
theorem n34 (i : Nat) : (34 : Int32) + nI i = nI (34 + i) := nI_add 34 i
theorem n4p (i : Nat) : (4 : Int32) + nI (i + 1) - 1 = nI (4 + i) := by rw [n4, ← Nat.add_assoc, nI_pred]
theorem n34p (i : Nat) : (34 : Int32) + nI (i + 1) - 1 = nI (34 + i) := by rw [n34, ← Nat.add_assoc, nI_pred]
theorem n4s (i : Nat) : (4 : Int32) + nI i + 1 = nI (4 + (i + 1)) := by rw [n4, nI_1, Nat.add_assoc]
theorem n34s (i : Nat) : (34 : Int32) + nI i + 1 = nI (34 + (i + 1)) := by rw [n34, nI_1, Nat.add_assoc]
theorem xin64 {i : Nat} (h : i < 64) : xin (nI i) 64 = true := xin_nI h (by decide)
theorem m_lines {z : Nat → Int64} {g e : Nat} (he : e < 30) (h : z (34 + e) = lN g) : f_X6_lines z (nI e) = some (nI g) := by
  unfold f_X6_lines
  rw [n34, gd_t (xin64 (by omega)), clN (by omega), h, lN_i]
theorem m_isEntry {z : Nat → Int64} {N : Nat} (hN : N ≤ 30) (h : z 3 = lN N) (i : Int32) : f_X6_isEntry z i = some (if 0 ≤ i.toInt ∧ i.toInt < N then 1 else 0) := by
  have e : f_X6_in i.toInt64 0 (z 3 - 1) = if 0 ≤ i.toInt ∧ i.toInt < N then 1 else 0 := by
    unfold f_X6_in
    have h1 : (i.toInt64 < 0) ↔ i.toInt < 0 := by rw [Int64.lt_iff_toInt_lt, Int32.toInt_toInt64]; rfl
    have h2 : (z 3 - 1 < i.toInt64) ↔ (N : Int) - 1 < i.toInt := by
      rw [Int64.lt_iff_toInt_lt, Int32.toInt_toInt64, h]
      have e3 : (lN N - 1).toInt = (N : Int) - 1 := by
        rw [Int64.toInt_sub, lN_toInt (by omega), show (1 : Int64).toInt = 1 by rfl, Int.bmod_eq_of_le (by omega) (by omega)]
      rw [e3]
    by_cases a : i.toInt < 0
    · rw [if_pos (h1.mpr a), if_neg (by omega)]
    · rw [if_neg (fun q => a (h1.mp q))]
      by_cases b : (N : Int) - 1 < i.toInt
      · rw [if_pos (h2.mpr b), if_neg (by omega)]
      · rw [if_neg (fun q => b (h2.mp q)), if_pos (by omega)]
  unfold f_X6_isEntry
  rw [e, gd_t]
  split <;> rfl
theorem m_isEntry_in {z : Nat → Int64} {N e : Nat} (hN : N ≤ 30) (h : z 3 = lN N) (he : e < N) : f_X6_isEntry z (nI e) = some 1 := by
  rw [m_isEntry hN h, if_pos (by rw [nI_toInt (by omega)]; omega)]
theorem m_isEntry_out {z : Nat → Int64} {N : Nat} (hN : N ≤ 30) (h : z 3 = lN N) {i : Int32} (hi : i.toInt < 0 ∨ (N : Int) ≤ i.toInt) : f_X6_isEntry z i = some 0 := by
  rw [m_isEntry hN h, if_neg (by omega)]
/-! ===== copying 64 cells ===== -/
theorem m_copy_loop {K : Int32 → (Nat → Int64) → Option (Nat → Int64)} {a b : Nat} {v0 : Nat → Int64} {n0 n2 : Nat} (ha : a + 64 ≤ n0) (hb : b + 64 ≤ n2) (h0 : n0 < 2 ^ 20) (h2 : n2 < 2 ^ 20) : ∀ (d n i : Nat) (v2 : Nat → Int64), i + d = 64 → d < n →
    ∃ v', L_X6_copyState_3 K (nI a) (nI b) v0 n0 n2 n (nI i) v2 = K (nI 64) v' ∧ (∀ j, (j < b + i ∨ b + 64 ≤ j) → v' j = v2 j) ∧ ∀ k, i ≤ k → k < 64 → v' (b + k) = v0 (a + k)
  | 0, 0, _, _, _, h => absurd h (by omega)
  | 0, n + 1, i, v2, hi, _ => by
    refine ⟨v2, ?_, fun j _ => rfl, fun k h1 h2 => by omega⟩
    rw [L_X6_copyState_3_s, if_pos (show (64 : Int32) ≤ nI i from nI_le (a := 64) (by omega) (by omega)), show i = 64 by omega]
  | d + 1, 0, _, _, _, h => absurd h (by omega)
  | d + 1, n + 1, i, v2, hi, hn => by
    obtain ⟨v', e, h3, h4⟩ := m_copy_loop (K := K) (a := a) (b := b) (v0 := v0) ha hb h0 h2 d n (i + 1) (vp_updL v2 (b + i) (v0 (a + i))) (by omega) (by omega)
    refine ⟨v', ?_, fun j hj => ?_, fun k hk1 hk2 => ?_⟩
    · rw [L_X6_copyState_3_s, if_neg (show ¬ (64 : Int32) ≤ nI i from nI_ge (a := i) (b := 64) (by omega) (by decide)), nI_add, nI_add, gd_t (xin_nI (by omega) (by omega)), gd_t (xin_nI (by omega) (by omega)), clN (by omega), clN (by omega), nI_1, e]
    · rw [h3 j (by omega), pk_uLn (by omega)]
    · by_cases q : k = i
      · rw [q, h3 (b + i) (by omega), pk_uLs]
      · exact h4 k (by omega) hk2
theorem m_copy {a b n0 n2 : Nat} (v0 v2 : Nat → Int64) (ha : a + 64 ≤ n0) (hb : b + 64 ≤ n2) (h0 : n0 < 2 ^ 20) (h2 : n2 < 2 ^ 20) :
    ∃ v', f_X6_copyState n0 v0 n2 v2 (nI a) (nI b) = some v' ∧ (∀ j, (j < b ∨ b + 64 ≤ j) → v' j = v2 j) ∧ ∀ k, k < 64 → v' (b + k) = v0 (a + k) := by
  obtain ⟨v', e, h3, h4⟩ := m_copy_loop (K := fun _ v => some v) (a := a) (b := b) (v0 := v0) ha hb h0 h2 64 FU 0 v2 (by omega) (by have := FU_big; omega)
  exact ⟨v', e, fun j hj => h3 j (by omega), fun k hk => h4 k (Nat.zero_le _) hk⟩
/-- 64 cells that are the same hold the same lexicon -/
theorem MLex.copy {S : Nat → Nat} {N : Nat} {G : Nat → Nat} {W : Nat → List Nat} {z z' : Nat → Int64} {o o' : Nat} (hN : N ≤ 30) (h : MLex S N G W z o) (he : ∀ k, k < 64 → z' (o' + k) = z (o + k)) : MLex S N G W z' o' := by
  refine ⟨by rw [he 3 (by decide)]; exact h.1, fun i hi => by rw [he i (by omega)]; exact h.2.1 i hi, fun i hi => ?_⟩
  have a := he (4 + i) (by omega)
  have b := he (34 + i) (by omega)
  rw [← Nat.add_assoc, ← Nat.add_assoc] at a b
  rw [a, b]
  exact h.2.2 i hi
/-! ===== an entry with a word ===== -/
theorem m_with_loop {N : Nat} {W : Nat → List Nat} {z : Nat → Int64} {w : List Nat} (hN : N ≤ 30) (h3 : z 3 = lN N) (hz : ∀ i, i < N → z (4 + i) = lN (b27 (W i)) ∧ wOK (W i)) (hw : wOK w) : ∀ (d n i : Nat) (f : Int32), i + d = N → d < n →
    (∃ e, i ≤ e ∧ e < N ∧ W e = w ∧ L_X6_entryWith_6 (fun _ r => some r) (lN (b27 w)) z n (nI i) f = some (nI e)) ∨ ((∀ e, i ≤ e → e < N → W e ≠ w) ∧ L_X6_entryWith_6 (fun _ r => some r) (lN (b27 w)) z n (nI i) f = some f)
  | 0, 0, _, _, _, h => absurd h (by omega)
  | 0, n + 1, i, f, hi, _ => by
    right
    refine ⟨fun e h1 h2 => by omega, ?_⟩
    rw [L_X6_entryWith_6_s, m_many h3, if_pos (nI_le (by omega) (by omega))]
  | d + 1, 0, _, _, _, h => absurd h (by omega)
  | d + 1, n + 1, i, f, hi, hn => by
    have hiN : i < N := by omega
    have hq : (lN (b27 (W i)) = lN (b27 w)) ↔ W i = w := by
      rw [pk_lEQ (by have := b27_small (hz i hiN).2; omega) (by have := b27_small hw; omega), b27_eq_w (hz i hiN).2 hw]
    rw [L_X6_entryWith_6_s, m_many h3, if_neg (nI_ge hiN (by omega)), n4, gd_t (xin64 (by omega)), clN (by omega), (hz i hiN).1, nI_1]
    by_cases q : W i = w
    · rw [if_pos (hq.mpr q)]
      left
      rcases m_with_loop hN h3 hz hw d n (i + 1) (nI i) (by omega) (by omega) with ⟨e, h1, h2, h4, h5⟩ | ⟨-, h5⟩
      · exact ⟨e, by omega, h2, h4, h5⟩
      · exact ⟨i, Nat.le_refl _, hiN, q, h5⟩
    · rw [if_neg (fun c => q (hq.mp c))]
      rcases m_with_loop hN h3 hz hw d n (i + 1) f (by omega) (by omega) with ⟨e, h1, h2, h4, h5⟩ | ⟨h4, h5⟩
      · exact Or.inl ⟨e, by omega, h2, h4, h5⟩
      · refine Or.inr ⟨fun e h1 h2 => ?_, h5⟩
        by_cases c : e = i
        · rw [c]; exact q
        · exact h4 e (by omega) h2
theorem m_with {N : Nat} {G : Nat → Nat} {W : Nat → List Nat} (ok : OKE N G W) {z : Nat → Int64} (h3 : z 3 = lN N) (hz : ∀ i, i < N → z (4 + i) = lN (b27 (W i))) {w : List Nat} (hw : wOK w) :
    (∃ e, e < N ∧ W e = w ∧ f_X6_entryWith z (lN (b27 w)) = some (nI e)) ∨ ((∀ e, e < N → W e ≠ w) ∧ f_X6_entryWith z (lN (b27 w)) = some (-6)) := by
  have hN := ok.1
  rcases m_with_loop hN h3 (fun i hi => ⟨hz i hi, (ok.2.1 i hi).2.2.1⟩) hw N FU 0 (-6) (by omega) (by have := FU_big; omega) with ⟨e, -, h2, h4, h5⟩ | ⟨h4, h5⟩
  · exact Or.inl ⟨e, h2, h4, h5⟩
  · exact Or.inr ⟨fun e he => h4 e (Nat.zero_le _) he, h5⟩
theorem w_one {N : Nat} {G : Nat → Nat} {W : Nat → List Nat} (ok : OKE N G W) {a b : Nat} (ha : a < N) (hb : b < N) (h : W a = W b) : a = b := by
  rcases Nat.lt_trichotomy a b with q | q | q
  · have := ok.2.2 a b q hb; rw [h] at this; omega
  · exact q
  · have := ok.2.2 b a q ha; rw [h] at this; omega
/-! ===== putting in ===== -/
theorem m_ins_loop {K : Int32 → (Nat → Int64) → Option (Int32 × (Nat → Int64))} {w : Int64} : ∀ (i n : Nat) (z : Nat → Int64), i ≤ 29 → i < n →
    ∃ p z', p ≤ i ∧ L_X6_insert_6 K w n (nI i) z = K (nI p) z' ∧ (p = 0 ∨ z (4 + (p - 1)) ≤ w) ∧ (∀ k, p ≤ k → k < i → ¬ z (4 + k) ≤ w) ∧ (∀ k, p ≤ k → k < i → z' (4 + (k + 1)) = z (4 + k) ∧ z' (34 + (k + 1)) = z (34 + k)) ∧
      (∀ k, k ≤ 29 → (k < p ∨ i < k) → z' (4 + k) = z (4 + k) ∧ z' (34 + k) = z (34 + k)) ∧ ∀ j, j < 4 → z' j = z j
  | _, 0, _, _, h => absurd h (by omega)
  | 0, n + 1, z, _, _ => by
    refine ⟨0, z, Nat.le_refl _, ?_, Or.inl rfl, fun k h1 h2 => by omega, fun k h1 h2 => by omega, fun k _ _ => ⟨rfl, rfl⟩, fun j _ => rfl⟩
    rw [L_X6_insert_6_s, if_pos (show nI 0 ≤ (0 : Int32) by decide)]
  | i + 1, n + 1, z, hi, hn => by
    rw [L_X6_insert_6_s, if_neg (nI_nle (by omega) (by omega)), n4p, gd_t (xin64 (by omega)), clN (by omega)]
    by_cases q : z (4 + i) ≤ w
    · rw [if_pos q]
      exact ⟨i + 1, z, Nat.le_refl _, rfl, Or.inr q, fun k h1 h2 => by omega, fun k h1 h2 => by omega, fun k _ _ => ⟨rfl, rfl⟩, fun j _ => rfl⟩
    · rw [if_neg q]
      obtain ⟨p, z', h1, h2, h3, h4, h5, h6, h7⟩ := m_ins_loop (K := K) (w := w) i n (vp_updL (vp_updL z (4 + (i + 1)) (z (4 + i))) (34 + (i + 1)) (z (34 + i))) (by omega) (by omega)
      have r4 : ∀ k, k ≤ i → vp_updL (vp_updL z (4 + (i + 1)) (z (4 + i))) (34 + (i + 1)) (z (34 + i)) (4 + k) = z (4 + k) := fun k hk => by rw [pk_uLn (by omega), pk_uLn (by omega)]
      have r34 : ∀ k, k ≤ i → vp_updL (vp_updL z (4 + (i + 1)) (z (4 + i))) (34 + (i + 1)) (z (34 + i)) (34 + k) = z (34 + k) := fun k hk => by rw [pk_uLn (by omega), pk_uLn (by omega)]
      refine ⟨p, z', by omega, ?_, ?_, fun k a b => ?_, fun k a b => ?_, fun k a b => ?_, fun j hj => ?_⟩
      · rw [gd_t (xin64 (by omega)), n4, gd_t (xin64 (by omega)), n34p, gd_t (xin64 (by omega)), n34, gd_t (xin64 (by omega)), clN (by omega), clN (by omega), clN (by omega), pk_uLn (by omega), pk_m1, h2]
      · rcases h3 with h3 | h3
        · exact Or.inl h3
        · by_cases hp : p = 0
          · exact Or.inl hp
          · right; rw [← r4 (p - 1) (by omega)]; exact h3
      · by_cases c : k = i
        · rw [c]; exact q
        · rw [← r4 k (by omega)]; exact h4 k a (by omega)
      · by_cases c : k = i
        · rw [c]
          have := h6 (i + 1) (by omega) (Or.inr (by omega))
          rw [this.1, this.2, pk_uLn (by omega), pk_uLs, pk_uLs]
          exact ⟨rfl, rfl⟩
        · have := h5 k a (by omega)
          rw [this.1, this.2, r4 k (by omega), r34 k (by omega)]
          exact ⟨rfl, rfl⟩
      · have := h6 k a (by omega)
        rw [this.1, this.2, pk_uLn (by omega), pk_uLn (by omega), pk_uLn (by omega), pk_uLn (by omega)]
        exact ⟨rfl, rfl⟩
      · rw [h7 j hj, pk_uLn (by omega), pk_uLn (by omega)]
theorem m_insert {S : Nat → Nat} {N : Nat} {G : Nat → Nat} {W : Nat → List Nat} (ok : OKE N G W) (hN30 : N < 30) {z : Nat → Int64} (h : MLex S N G W z 0) {w : List Nat} (hw : wOK w) (hno : ∀ e, e < N → W e ≠ w) (g : Nat) :
    ∃ p z', plOf N W w p ∧ f_X6_insert z (lN (b27 w)) (lN g) = some (nI p, z') ∧ MLex S (N + 1) (ins p g G) (ins p w W) z' 0 := by
  obtain ⟨h3, hs, he⟩ := h
  simp only [Nat.zero_add] at h3 hs he
  have hle : ∀ i, i < N → ((lN (b27 (W i)) ≤ lN (b27 w)) ↔ b27 (W i) ≤ b27 w) := fun i hi => pk_lLE (by have := b27_small (ok.2.1 i hi).2.2.1; omega) (by have := b27_small hw; omega)
  obtain ⟨p, z', h1, h2, h4, h5, h6, h7, h8⟩ := m_ins_loop (K := fun (i5_6 : Int32) (v_z_6 : Nat → Int64) => gd (xin (4 + i5_6) 64) (gd (xin (34 + i5_6) 64) (some (i5_6, (vp_updL (vp_updL (vp_updL v_z_6 (4 + i5_6).toNatClampNeg (lN (b27 w))) (34 + i5_6).toNatClampNeg (lN g)) 3 (((vp_updL (vp_updL v_z_6 (4 + i5_6).toNatClampNeg (lN (b27 w))) (34 + i5_6).toNatClampNeg (lN g)) 3) + 1)))))) (w := lN (b27 w)) N FU z (by omega) (by have := FU_big; omega)
  have hplace : plOf N W w p := by
    refine ⟨h1, fun i hi => ?_, fun i hi1 hi2 => ?_⟩
    · rcases h4 with h4 | h4
      · omega
      · rw [(he (p - 1) (by omega)).1, hle (p - 1) (by omega)] at h4
        have hne : b27 (W (p - 1)) ≠ b27 w := fun q => hno (p - 1) (by omega) ((b27_eq_w (ok.2.1 (p - 1) (by omega)).2.2.1 hw).mp q)
        by_cases c : i = p - 1
        · rw [c]; omega
        · have := ok.2.2 i (p - 1) (by omega) (by omega); omega
    · have := h5 i hi1 hi2
      rw [(he i hi2).1, hle i hi2] at this
      omega
  refine ⟨p, vp_updL (vp_updL (vp_updL z' (4 + p) (lN (b27 w))) (34 + p) (lN g)) 3 (lN (N + 1)), hplace, ?_, ?_, fun i hi => ?_, fun i hi => ?_⟩
  · unfold f_X6_insert
    rw [m_many h3, h2, n4, n34, gd_t (xin64 (by omega)), gd_t (xin64 (by omega)), clN (by omega), clN (by omega), pk_uLn (by omega), pk_uLn (by omega), h8 3 (by decide), h3, lN_1]
  · simp only [Nat.zero_add]
    rw [pk_uLs]
  · simp only [Nat.zero_add]
    rw [pk_uLn (by omega), pk_uLn (by omega), pk_uLn (by omega), h8 i (by omega)]
    exact hs i hi
  · simp only [Nat.zero_add]
    rcases Nat.lt_trichotomy i p with q | q | q
    · have a := h7 i (by omega) (Or.inl q)
      have b := he i (by omega)
      rw [pk_uLn (by omega), pk_uLn (by omega), pk_uLn (by omega), pk_uLn (by omega), pk_uLn (by omega), pk_uLn (by omega), a.1, a.2, b.1, b.2, ins_lt q, ins_lt q]
      exact ⟨rfl, rfl⟩
    · rw [q, ins_eq, ins_eq, pk_uLn (by omega), pk_uLn (by omega), pk_uLs, pk_uLn (by omega), pk_uLs]
      exact ⟨rfl, rfl⟩
    · obtain ⟨k, rfl⟩ : ∃ k, i = k + 1 := ⟨i - 1, by omega⟩
      have a := h6 k (by omega) (by omega)
      have b := he k (by omega)
      rw [pk_uLn (by omega), pk_uLn (by omega), pk_uLn (by omega), pk_uLn (by omega), pk_uLn (by omega), pk_uLn (by omega), a.1, a.2, b.1, b.2, ins_gt q, ins_gt q]
      exact ⟨rfl, rfl⟩
/-! ===== taking out ===== -/
theorem m_rem_loop {K : Int32 → (Nat → Int64) → Option (Nat → Int64)} {M : Nat} (hM : M ≤ 29) : ∀ (d n i : Nat) (z : Nat → Int64), i + d = M → d < n → z 3 = lN M →
    ∃ z', L_X6_remove_12 K n (nI i) z = K (nI M) z' ∧ (∀ j, j < 4 + i → z' j = z j) ∧ (∀ k, k < i → z' (34 + k) = z (34 + k)) ∧ ∀ k, i ≤ k → k < M → z' (4 + k) = z (4 + (k + 1)) ∧ z' (34 + k) = z (34 + (k + 1))
  | 0, 0, _, _, _, h, _ => absurd h (by omega)
  | 0, n + 1, i, z, hi, _, h3 => by
    refine ⟨z, ?_, fun j _ => rfl, fun j _ => rfl, fun k h1 h2 => by omega⟩
    rw [L_X6_remove_12_s, m_many h3, if_pos (nI_le (by omega) (by omega)), show i = M by omega]
  | d + 1, 0, _, _, _, h, _ => absurd h (by omega)
  | d + 1, n + 1, i, z, hi, hn, h3 => by
    obtain ⟨z', e, h1, h2, h4⟩ := m_rem_loop (K := K) hM d n (i + 1) (vp_updL (vp_updL z (4 + i) (z (4 + (i + 1)))) (34 + i) (z (34 + (i + 1)))) (by omega) (by omega) (by rw [pk_uLn (by omega), pk_uLn (by omega), h3])
    refine ⟨z', ?_, fun j hj => ?_, fun k hk => ?_, fun k hk1 hk2 => ?_⟩
    · rw [L_X6_remove_12_s, m_many h3, if_neg (nI_ge (by omega) (by omega)), n4s, n34s, n4, n34, gd_t (xin64 (by omega)), gd_t (xin64 (by omega)), gd_t (xin64 (by omega)), gd_t (xin64 (by omega)), clN (by omega), clN (by omega), clN (by omega), clN (by omega), pk_uLn (by omega), nI_1, e]
    · rw [h1 j (by omega), pk_uLn (by omega), pk_uLn (by omega)]
    · rw [h2 k (by omega), pk_uLn (by omega), pk_uLn (by omega)]
    · by_cases q : k = i
      · rw [q, h1 (4 + i) (by omega), h2 i (by omega), pk_uLn (by omega), pk_uLs, pk_uLs]
        exact ⟨rfl, rfl⟩
      · have := h4 k (by omega) hk2
        rw [this.1, this.2, pk_uLn (by omega), pk_uLn (by omega), pk_uLn (by omega), pk_uLn (by omega)]
        exact ⟨rfl, rfl⟩
theorem m_remove {S : Nat → Nat} {N e : Nat} {G : Nat → Nat} {W : Nat → List Nat} (hN : N ≤ 30) (he : e < N) {z : Nat → Int64} (h : MLex S N G W z 0) :
    ∃ z', f_X6_remove z (nI e) = some z' ∧ MLex S (N - 1) (dl e G) (dl e W) z' 0 := by
  obtain ⟨h3, hs, hx⟩ := h
  simp only [Nat.zero_add] at h3 hs hx
  obtain ⟨M, rfl⟩ : ∃ M, N = M + 1 := ⟨N - 1, by omega⟩
  have e3 : z 3 - 1 = lN M := by rw [h3, show (1 : Int64) = lN 1 by rfl, lN_sub (by omega)]; rfl
  obtain ⟨z', e1, h1, h2, h4⟩ := m_rem_loop (K := fun (i2_12 : Int32) (v_z_12 : Nat → Int64) => gd (xin (4 + (f_X6_many v_z_12)) 64) (gd (xin (34 + (f_X6_many (vp_updL v_z_12 (4 + (f_X6_many v_z_12)).toNatClampNeg 0))) 64) (some (vp_updL (vp_updL v_z_12 (4 + (f_X6_many v_z_12)).toNatClampNeg 0) (34 + (f_X6_many (vp_updL v_z_12 (4 + (f_X6_many v_z_12)).toNatClampNeg 0))).toNatClampNeg 0)))) (M := M) (by omega) (M - e) FU e (vp_updL z 3 (lN M)) (by omega) (by have := FU_big; omega) (by rw [pk_uLs])
  have m3 : z' 3 = lN M := by rw [h1 3 (by omega), pk_uLs]
  refine ⟨vp_updL (vp_updL z' (4 + M) 0) (34 + M) 0, ?_, ?_, fun i hi => ?_, fun i hi => ?_⟩
  · unfold f_X6_remove
    have m3' : vp_updL z' (4 + M) 0 3 = lN M := by rw [pk_uLn (by omega), m3]
    rw [e3, e1, m_many m3, n4, clN (by omega), m_many m3', n34, gd_t (xin64 (by omega)), gd_t (xin64 (by omega)), clN (by omega)]
  · simp only [Nat.zero_add, Nat.add_sub_cancel]
    rw [pk_uLn (by omega), pk_uLn (by omega), m3]
  · simp only [Nat.zero_add]
    rw [pk_uLn (by omega), pk_uLn (by omega), h1 i (by omega), pk_uLn (by omega)]
    exact hs i hi
  · simp only [Nat.zero_add, Nat.add_sub_cancel] at hi ⊢
    rw [pk_uLn (by omega), pk_uLn (by omega), pk_uLn (by omega), pk_uLn (by omega)]
    by_cases q : i < e
    · have b := hx i (by omega)
      rw [h1 (4 + i) (by omega), h2 i q, pk_uLn (by omega), pk_uLn (by omega), b.1, b.2, dl_lt q, dl_lt q]
      exact ⟨rfl, rfl⟩
    · have a := h4 i (by omega) hi
      have b := hx (i + 1) (by omega)
      rw [a.1, a.2, pk_uLn (by omega), pk_uLn (by omega), b.1, b.2, dl_ge (by omega), dl_ge (by omega)]
      exact ⟨rfl, rfl⟩
