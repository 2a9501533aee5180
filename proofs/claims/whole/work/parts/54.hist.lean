/-! the history, the slots: what both hold of one lexicon -/
def Rel (st ln : Nat → Int32) (wd : Nat → Int64) (n : Int32) (z : Nat → Int64) (o : Nat) : Prop :=
  ∃ S N G W, OKS S ∧ OKE N G W ∧ XLex S N G W st ln wd n ∧ MLex S N G W z o
def RHist (k : Nat) (ps pl : Nat → Nat → Int32) (pw : Nat → Nat → Int64) (pn : Nat → Int32) (past : Nat → Int64) : Prop :=
  k ≤ 6 ∧ ∀ j, j < k → Rel (ps j) (pl j) (pw j) (pn j) past (64 * j)
theorem up_eq {α : Type} {f : Nat → α} {k : Nat} {v : α} : va_up f k v k = v := if_pos rfl
theorem up_ne {α : Type} {f : Nat → α} {k j : Nat} {v : α} (h : j ≠ k) : va_up f k v j = f j := if_neg h
theorem Rel.copy {st ln : Nat → Int32} {wd : Nat → Int64} {n : Int32} {z z' : Nat → Int64} {o o' : Nat} (h : Rel st ln wd n z o) (he : ∀ k, k < 64 → z' (o' + k) = z (o + k)) : Rel st ln wd n z' o' := by
  obtain ⟨S, N, G, W, h1, h2, h3, h4⟩ := h
  exact ⟨S, N, G, W, h1, h2, h3, h4.copy h2.1 he⟩
theorem x_copyR {st0 ln0 : Nat → Int32} {wd0 : Nat → Int64} {n0 : Int32} {z : Nat → Int64} {o : Nat} (h : Rel st0 ln0 wd0 n0 z o) (st ln : Nat → Int32) (wd : Nat → Int64) :
    ∃ st' ln' wd', f_X1_copyOf st ln wd n0 st0 ln0 wd0 = some (n0, st', ln', wd') ∧ Rel st' ln' wd' n0 z o := by
  obtain ⟨S, N, G, W, h1, h2, h3, h4⟩ := h
  obtain ⟨st', ln', wd', e, h5⟩ := x_copy h2.1 h3 st ln wd
  exact ⟨st', ln', wd', e, S, N, G, W, h1, h2, h5, h4⟩
theorem x_rem_lt {st ln : Nat → Int32} {wd : Nat → Int64} {n : Int32} {z : Nat → Int64} {o : Nat} (h : Rel st ln wd n z o) (ps pl : Nat → Nat → Int32) (pw : Nat → Nat → Int64) (pn : Nat → Int32) {k : Nat} (hk : k < 6) :
    ∃ st' ln' wd', f_X3_remember (nI k) ps pl pw pn n st ln wd = some (nI (k + 1), va_up ps k st', va_up pl k ln', va_up pw k wd', va_up pn k n) ∧ Rel st' ln' wd' n z o := by
  rcases (show k = 0 ∨ k = 1 ∨ k = 2 ∨ k = 3 ∨ k = 4 ∨ k = 5 by omega) with rfl | rfl | rfl | rfl | rfl | rfl
  · obtain ⟨st', ln', wd', e, h5⟩ := x_copyR h (ps 0) (pl 0) (pw 0)
    refine ⟨st', ln', wd', ?_, h5⟩
    unfold f_X3_remember
    rw [if_pos (by decide), gd_t (by decide), if_pos (by decide), bd_eq e]
    rfl
  · obtain ⟨st', ln', wd', e, h5⟩ := x_copyR h (ps 1) (pl 1) (pw 1)
    refine ⟨st', ln', wd', ?_, h5⟩
    unfold f_X3_remember
    rw [if_pos (by decide), gd_t (by decide), if_neg (by decide), if_pos (by decide), bd_eq e]
    rfl
  · obtain ⟨st', ln', wd', e, h5⟩ := x_copyR h (ps 2) (pl 2) (pw 2)
    refine ⟨st', ln', wd', ?_, h5⟩
    unfold f_X3_remember
    rw [if_pos (by decide), gd_t (by decide), if_neg (by decide), if_neg (by decide), if_pos (by decide), bd_eq e]
    rfl
  · obtain ⟨st', ln', wd', e, h5⟩ := x_copyR h (ps 3) (pl 3) (pw 3)
    refine ⟨st', ln', wd', ?_, h5⟩
    unfold f_X3_remember
    rw [if_pos (by decide), gd_t (by decide), if_neg (by decide), if_neg (by decide), if_neg (by decide), if_pos (by decide), bd_eq e]
    rfl
  · obtain ⟨st', ln', wd', e, h5⟩ := x_copyR h (ps 4) (pl 4) (pw 4)
    refine ⟨st', ln', wd', ?_, h5⟩
    unfold f_X3_remember
    rw [if_pos (by decide), gd_t (by decide), if_neg (by decide), if_neg (by decide), if_neg (by decide), if_neg (by decide), if_pos (by decide), bd_eq e]
    rfl
  · obtain ⟨st', ln', wd', e, h5⟩ := x_copyR h (ps 5) (pl 5) (pw 5)
    refine ⟨st', ln', wd', ?_, h5⟩
    unfold f_X3_remember
    rw [if_pos (by decide), gd_t (by decide), if_neg (by decide), if_neg (by decide), if_neg (by decide), if_neg (by decide), if_neg (by decide), bd_eq e]
    rfl
theorem x_rem_6 {st ln : Nat → Int32} {wd : Nat → Int64} {n : Int32} {z : Nat → Int64} {o : Nat} (h : Rel st ln wd n z o) (ps pl : Nat → Nat → Int32) (pw : Nat → Nat → Int64) (pn : Nat → Int32) :
    ∃ st' ln' wd', f_X3_remember (nI 6) ps pl pw pn n st ln wd = some (nI 6, va_up (rotF ps) 5 st', va_up (rotF pl) 5 ln', va_up (rotF pw) 5 wd', va_up (rotF pn) 5 n) ∧ Rel st' ln' wd' n z o := by
  obtain ⟨st', ln', wd', e, h5⟩ := x_copyR h (rotF ps 5) (rotF pl 5) (rotF pw 5)
  refine ⟨st', ln', wd', ?_, h5⟩
  have d : f_X3_dropOldest ps pl pw pn = (5, rotF ps, rotF pl, rotF pw, rotF pn) := rfl
  unfold f_X3_remember
  rw [if_neg (by decide), d]
  dsimp only
  rw [gd_t (by decide), if_neg (by decide), if_neg (by decide), if_neg (by decide), if_neg (by decide), if_neg (by decide), bd_eq e]
  rfl
theorem x_back {ps pl : Nat → Nat → Int32} {pw : Nat → Nat → Int64} {pn : Nat → Int32} {past : Nat → Int64} {k : Nat} (hk : k < 6) {o : Nat} (h : Rel (ps k) (pl k) (pw k) (pn k) past o) (n : Int32) (st ln : Nat → Int32) (wd : Nat → Int64) :
    ∃ st' ln' wd', f_X3_goBack (nI (k + 1)) ps pl pw pn n st ln wd = some (nI k, pn k, st', ln', wd') ∧ Rel st' ln' wd' (pn k) past o := by
  rcases (show k = 0 ∨ k = 1 ∨ k = 2 ∨ k = 3 ∨ k = 4 ∨ k = 5 by omega) with rfl | rfl | rfl | rfl | rfl | rfl
  · obtain ⟨st', ln', wd', e, h5⟩ := x_copyR h st ln wd
    refine ⟨st', ln', wd', ?_, h5⟩
    unfold f_X3_goBack
    rw [if_neg (by decide), gd_t (by decide), if_pos (by decide), bd_eq e]
    rfl
  · obtain ⟨st', ln', wd', e, h5⟩ := x_copyR h st ln wd
    refine ⟨st', ln', wd', ?_, h5⟩
    unfold f_X3_goBack
    rw [if_neg (by decide), gd_t (by decide), if_neg (by decide), if_pos (by decide), bd_eq e]
    rfl
  · obtain ⟨st', ln', wd', e, h5⟩ := x_copyR h st ln wd
    refine ⟨st', ln', wd', ?_, h5⟩
    unfold f_X3_goBack
    rw [if_neg (by decide), gd_t (by decide), if_neg (by decide), if_neg (by decide), if_pos (by decide), bd_eq e]
    rfl
  · obtain ⟨st', ln', wd', e, h5⟩ := x_copyR h st ln wd
    refine ⟨st', ln', wd', ?_, h5⟩
    unfold f_X3_goBack
    rw [if_neg (by decide), gd_t (by decide), if_neg (by decide), if_neg (by decide), if_neg (by decide), if_pos (by decide), bd_eq e]
    rfl
  · obtain ⟨st', ln', wd', e, h5⟩ := x_copyR h st ln wd
    refine ⟨st', ln', wd', ?_, h5⟩
    unfold f_X3_goBack
    rw [if_neg (by decide), gd_t (by decide), if_neg (by decide), if_neg (by decide), if_neg (by decide), if_neg (by decide), if_pos (by decide), bd_eq e]
    rfl
  · obtain ⟨st', ln', wd', e, h5⟩ := x_copyR h st ln wd
    refine ⟨st', ln', wd', ?_, h5⟩
    unfold f_X3_goBack
    rw [if_neg (by decide), gd_t (by decide), if_neg (by decide), if_neg (by decide), if_neg (by decide), if_neg (by decide), if_neg (by decide), bd_eq e]
    rfl
/-! ===== the reference's record ===== -/
theorem m_shift_loop {K : Int32 → (Nat → Int64) → Option (Int32 × (Nat → Int64))} : ∀ (d n i : Nat) (v : Nat → Int64), i + d = 320 → d < n →
    ∃ v', L_X6_record_11 K n (nI i) v = K (nI 320) v' ∧ (∀ j, (j < i ∨ 320 ≤ j) → v' j = v j) ∧ ∀ j, i ≤ j → j < 320 → v' j = v (j + 64)
  | 0, 0, _, _, _, h => absurd h (by omega)
  | 0, n + 1, i, v, hi, _ => by
    refine ⟨v, ?_, fun j _ => rfl, fun j h1 h2 => by omega⟩
    rw [L_X6_record_11_s, if_pos (show (320 : Int32) ≤ nI i from nI_le (a := 320) (by omega) (by omega)), show i = 320 by omega]
  | d + 1, 0, _, _, _, h => absurd h (by omega)
  | d + 1, n + 1, i, v, hi, hn => by
    obtain ⟨v', e, h1, h2⟩ := m_shift_loop (K := K) d n (i + 1) (vp_updL v i (v (i + 64))) (by omega) (by omega)
    refine ⟨v', ?_, fun j hj => ?_, fun j hj1 hj2 => ?_⟩
    · have e64 : nI i + (64 : Int32) = nI (i + 64) := nI_add i 64
      rw [L_X6_record_11_s, if_neg (show ¬ (320 : Int32) ≤ nI i from nI_ge (a := i) (b := 320) (by omega) (by decide)), e64, gd_t (xin_nI (by omega) (by omega)), gd_t (xin_nI (by omega) (by omega)), clN (by omega), clN (by omega), nI_1, e]
    · rw [h1 j (by omega), pk_uLn (by omega)]
    · by_cases q : j = i
      · rw [q, h1 i (by omega), pk_uLs]
      · rw [h2 j (by omega) hj2, pk_uLn (by omega)]
theorem m_rec_49 (z past : Nat → Int64) {k : Nat} (hk : k < 6) : ∃ past', J_X6_record_49 z (nI k) past = some (nI (k + 1), past') ∧ (∀ j, (j < 64 * k ∨ 64 * k + 64 ≤ j) → past' j = past j) ∧ ∀ j, j < 64 → past' (64 * k + j) = z j := by
  obtain ⟨v', e, h1, h2⟩ := m_copy (a := 0) (b := 64 * k) (n0 := 64) (n2 := 384) z past (by omega) (by omega) (by decide) (by decide)
  refine ⟨v', ?_, h1, fun j hj => by rw [h2 j hj, Nat.zero_add]⟩
  have e0 : (0 : Int32) = nI 0 := rfl
  have e64 : (64 : Int32) * nI k = nI (64 * k) := pk_mul 64 k
  unfold J_X6_record_49
  rw [e64, e0, bd_eq e, nI_1]
/-- a state is recorded on both sides -/
theorem record_both {st ln : Nat → Int32} {wd : Nat → Int64} {n : Int32} {z : Nat → Int64} (h : Rel st ln wd n z 0) {k : Nat} {ps pl : Nat → Nat → Int32} {pw : Nat → Nat → Int64} {pn : Nat → Int32} {past : Nat → Int64} (hh : RHist k ps pl pw pn past) :
    ∃ k' ps' pl' pw' pn' past', f_X3_remember (nI k) ps pl pw pn n st ln wd = some (nI k', ps', pl', pw', pn') ∧ f_X6_record (nI k) z past = some (nI k', past') ∧ RHist k' ps' pl' pw' pn' past' := by
  obtain ⟨hk, hj⟩ := hh
  by_cases h6 : k < 6
  · obtain ⟨st', ln', wd', e1, h1⟩ := x_rem_lt h ps pl pw pn h6
    obtain ⟨past', e2, h2, h3⟩ := m_rec_49 z past h6
    refine ⟨k + 1, _, _, _, _, past', e1, ?_, by omega, fun j hj2 => ?_⟩
    · unfold f_X6_record
      rw [if_neg, e2]
      intro q
      have := (nI_eq (a := k) (b := 6) (by omega) (by decide)).mp q
      omega
    · by_cases q : j = k
      · subst q
        rw [up_eq, up_eq, up_eq, up_eq]
        exact h1.copy (fun i hi => by rw [h3 i hi, Nat.zero_add])
      · rw [up_ne q, up_ne q, up_ne q, up_ne q]
        exact (hj j (by omega)).copy (fun i hi => h2 _ (by omega))
  · have hk6 : k = 6 := by omega
    subst hk6
    obtain ⟨st', ln', wd', e1, h1⟩ := x_rem_6 h ps pl pw pn
    obtain ⟨v', e3, h4, h5⟩ := m_shift_loop (K := fun (i1_11 : Int32) (v_past_11 : Nat → Int64) => J_X6_record_49 z (nI 6 - 1) v_past_11) 320 FU 0 past (by omega) (by have := FU_big; omega)
    obtain ⟨past', e2, h2, h3⟩ := m_rec_49 z v' (k := 5) (by omega)
    refine ⟨6, _, _, _, _, past', e1, ?_, Nat.le_refl _, fun j hj2 => ?_⟩
    · unfold f_X6_record
      rw [if_pos (by decide)]
      exact e3.trans e2
    · by_cases q : j = 5
      · subst q
        rw [up_eq, up_eq, up_eq, up_eq]
        exact h1.copy (fun i hi => by rw [h3 i hi, Nat.zero_add])
      · rw [up_ne q, up_ne q, up_ne q, up_ne q]
        have e : ∀ {α : Type} (f : Nat → α), rotF f j = f (j + 1) := fun f => by unfold rotF; rw [if_pos (by omega)]
        rw [e, e, e, e]
        exact (hj (j + 1) (by omega)).copy (fun i hi => by rw [h2 _ (by omega), h5 _ (Nat.zero_le _) (by omega), show 64 * j + i + 64 = 64 * (j + 1) + i by omega])
/-- and taken back -/
theorem undo_both {k : Nat} {ps pl : Nat → Nat → Int32} {pw : Nat → Nat → Int64} {pn : Nat → Int32} {past : Nat → Int64} (hh : RHist (k + 1) ps pl pw pn past) (n : Int32) (st ln : Nat → Int32) (wd : Nat → Int64) (z : Nat → Int64) :
    ∃ st' ln' wd' z', f_X3_goBack (nI (k + 1)) ps pl pw pn n st ln wd = some (nI k, pn k, st', ln', wd') ∧ f_X6_copyState 384 past 64 z (64 * (nI (k + 1) - 1)) 0 = some z' ∧ Rel st' ln' wd' (pn k) z' 0 ∧ RHist k ps pl pw pn past := by
  obtain ⟨hk, hj⟩ := hh
  obtain ⟨st', ln', wd', e1, h1⟩ := x_back (by omega) (hj k (by omega)) n st ln wd
  obtain ⟨z', e2, -, h2⟩ := m_copy (a := 64 * k) (b := 0) (n0 := 384) (n2 := 64) past z (by omega) (by omega) (by decide) (by decide)
  refine ⟨st', ln', wd', z', e1, ?_, h1.copy h2, by omega, fun j hj2 => hj j (by omega)⟩
  have e0 : (0 : Int32) = nI 0 := rfl
  have e64 : (64 : Int32) * nI k = nI (64 * k) := pk_mul 64 k
  rw [nI_pred, e64, e0, e2]
