/-! words: a list of letters 1..26; pkL as the class packs it, bL as the reference does -/
def wOK (w : List Nat) : Prop := w.length ≤ 7 ∧ ∀ x ∈ w, 1 ≤ x ∧ x ≤ 26
def pkL : Nat → List Nat → Nat
  | m + 1, x :: t => (96 + x) * 256 ^ (m + 1) + pkL m t
  | _, _ => 0
def bL : Nat → List Nat → Nat
  | m + 1, x :: t => x * 27 ^ m + bL m t
  | _, _ => 0
def pk (w : List Nat) : Nat := pkL 7 w + w.length
def b27 (w : List Nat) : Nat := bL 7 w
theorem pkL_nil (m : Nat) : pkL m [] = 0 := by cases m <;> rfl
theorem bL_nil (m : Nat) : bL m [] = 0 := by cases m <;> rfl
theorem pkL_lt : ∀ (m : Nat) (t : List Nat), t.length ≤ m → (∀ x ∈ t, 1 ≤ x ∧ x ≤ 26) → pkL m t + 256 ≤ 256 ^ (m + 1)
  | 0, [], _, _ => by simp [pkL]
  | 0, x :: t, h, _ => by simp at h
  | m + 1, [], _, _ => by
    rw [pkL_nil]
    have : 256 ^ 1 ≤ 256 ^ (m + 1 + 1) := Nat.pow_le_pow_right (by decide) (by omega)
    omega
  | m + 1, x :: t, h, hx => by
    have h1 := pkL_lt m t (by simpa using h) (fun y hy => hx y (List.mem_cons_of_mem _ hy))
    have h2 := (hx x List.mem_cons_self).2
    have h3 : (96 + x) * 256 ^ (m + 1) ≤ 122 * 256 ^ (m + 1) := Nat.mul_le_mul_right _ (by omega)
    rw [pkL, Nat.pow_succ 256 (m + 1)]
    generalize 256 ^ (m + 1) = P at *
    omega
theorem bL_lt : ∀ (m : Nat) (t : List Nat), t.length ≤ m → (∀ x ∈ t, 1 ≤ x ∧ x ≤ 26) → bL m t < 27 ^ m
  | 0, [], _, _ => by simp [bL]
  | 0, x :: t, h, _ => by simp at h
  | m + 1, [], _, _ => by rw [bL_nil]; exact Nat.pow_pos (by decide)
  | m + 1, x :: t, h, hx => by
    have h1 := bL_lt m t (by simpa using h) (fun y hy => hx y (List.mem_cons_of_mem _ hy))
    have h2 := (hx x List.mem_cons_self).2
    have h3 : x * 27 ^ m ≤ 26 * 27 ^ m := Nat.mul_le_mul_right _ (by omega)
    rw [bL, Nat.pow_succ]
    omega
/-- both ways of packing have one order -/
theorem pk_tri : ∀ (m : Nat) (u v : List Nat), m ≤ 7 → u.length ≤ m → v.length ≤ m → (∀ x ∈ u, 1 ≤ x ∧ x ≤ 26) → (∀ x ∈ v, 1 ≤ x ∧ x ≤ 26) →
    (pkL m u + u.length < pkL m v + v.length ∧ bL m u < bL m v) ∨ u = v ∨ (pkL m v + v.length < pkL m u + u.length ∧ bL m v < bL m u)
  | 0, [], [], _, _, _, _, _ => Or.inr (Or.inl rfl)
  | 0, x :: t, _, _, h, _, _, _ => by simp at h
  | 0, [], x :: t, _, _, h, _, _ => by simp at h
  | m + 1, [], [], _, _, _, _, _ => Or.inr (Or.inl rfl)
  | m + 1, [], y :: t, _, _, _, _, hy => by
    left
    have h2 := (hy y List.mem_cons_self).1
    have h3 : 1 * 27 ^ m ≤ y * 27 ^ m := Nat.mul_le_mul_right _ h2
    have h4 : 0 < 27 ^ m := Nat.pow_pos (by decide)
    rw [pkL_nil, bL_nil, pkL, bL]
    simp only [List.length_nil, List.length_cons]
    omega
  | m + 1, y :: t, [], _, _, _, hy, _ => by
    right; right
    have h2 := (hy y List.mem_cons_self).1
    have h3 : 1 * 27 ^ m ≤ y * 27 ^ m := Nat.mul_le_mul_right _ h2
    have h4 : 0 < 27 ^ m := Nat.pow_pos (by decide)
    rw [pkL_nil, bL_nil, pkL, bL]
    simp only [List.length_nil, List.length_cons]
    omega
  | m + 1, x :: s, y :: t, hm, hs, ht, hx, hy => by
    have hs' : s.length ≤ m := by simpa using hs
    have ht' : t.length ≤ m := by simpa using ht
    have hxs : ∀ z ∈ s, 1 ≤ z ∧ z ≤ 26 := fun z hz => hx z (List.mem_cons_of_mem _ hz)
    have hyt : ∀ z ∈ t, 1 ≤ z ∧ z ≤ 26 := fun z hz => hy z (List.mem_cons_of_mem _ hz)
    have p1 := pkL_lt m s hs' hxs
    have p2 := pkL_lt m t ht' hyt
    have q1 := bL_lt m s hs' hxs
    have q2 := bL_lt m t ht' hyt
    rw [pkL, pkL, bL, bL]
    simp only [List.length_cons]
    rcases Nat.lt_trichotomy x y with h | h | h
    · left
      have e1 : (96 + x + 1) * 256 ^ (m + 1) ≤ (96 + y) * 256 ^ (m + 1) := Nat.mul_le_mul_right _ (by omega)
      have e2 : (x + 1) * 27 ^ m ≤ y * 27 ^ m := Nat.mul_le_mul_right _ (by omega)
      rw [Nat.succ_mul] at e1
      rw [Nat.succ_mul] at e2
      omega
    · subst h
      rcases pk_tri m s t (by omega) hs' ht' hxs hyt with h | h | h
      · left; omega
      · right; left; rw [h]
      · right; right; omega
    · right; right
      have e1 : (96 + y + 1) * 256 ^ (m + 1) ≤ (96 + x) * 256 ^ (m + 1) := Nat.mul_le_mul_right _ (by omega)
      have e2 : (y + 1) * 27 ^ m ≤ x * 27 ^ m := Nat.mul_le_mul_right _ (by omega)
      rw [Nat.succ_mul] at e1
      rw [Nat.succ_mul] at e2
      omega
theorem pk_lt_b {u v : List Nat} (hu : wOK u) (hv : wOK v) : pk u < pk v ↔ b27 u < b27 v := by
  unfold pk b27
  rcases pk_tri 7 u v (by omega) hu.1 hv.1 hu.2 hv.2 with h | h | h
  · omega
  · subst h; omega
  · omega
theorem pk_eq_w {u v : List Nat} (hu : wOK u) (hv : wOK v) : pk u = pk v ↔ u = v := by
  unfold pk
  rcases pk_tri 7 u v (by omega) hu.1 hv.1 hu.2 hv.2 with h | h | h
  · exact ⟨fun q => by omega, fun q => by rw [q]⟩
  · exact ⟨fun _ => h, fun q => by rw [q]⟩
  · exact ⟨fun q => by omega, fun q => by rw [q]⟩
theorem b27_eq_w {u v : List Nat} (hu : wOK u) (hv : wOK v) : b27 u = b27 v ↔ u = v := by
  unfold b27
  rcases pk_tri 7 u v (by omega) hu.1 hv.1 hu.2 hv.2 with h | h | h
  · exact ⟨fun q => by omega, fun q => by rw [q]⟩
  · exact ⟨fun _ => h, fun q => by rw [q]⟩
  · exact ⟨fun q => by omega, fun q => by rw [q]⟩
theorem pk_small {w : List Nat} (h : wOK w) : pk w < 2 ^ 63 := by
  unfold pk
  cases w with
  | nil => simp [pkL]
  | cons x t =>
    have h1 := pkL_lt 6 t (by have := h.1; simp at this; omega) (fun y hy => h.2 y (List.mem_cons_of_mem _ hy))
    have h2 := (h.2 x List.mem_cons_self).2
    have h3 := h.1
    simp only [List.length_cons] at h3 ⊢
    rw [pkL]
    have : (96 + x) * 256 ^ (6 + 1) ≤ 122 * 256 ^ 7 := Nat.mul_le_mul_right _ (by omega)
    omega
theorem b27_small {w : List Nat} (h : wOK w) : b27 w < 27 ^ 7 := bL_lt 7 w h.1 h.2
theorem pkL_mod : ∀ (m : Nat) (t : List Nat), pkL m t % 256 = 0
  | 0, _ => by simp [pkL]
  | m + 1, [] => by rw [pkL_nil]
  | m + 1, x :: t => by
    have h := pkL_mod m t
    rw [pkL, Nat.pow_succ, ← Nat.mul_assoc]
    omega
theorem pk_len {w : List Nat} (h : wOK w) : pk w % 256 = w.length := by
  have := pkL_mod 7 w
  have h1 := h.1
  unfold pk
  omega
theorem pkL_digit : ∀ (m : Nat) (t : List Nat) (k r : Nat), t.length ≤ m → (∀ x ∈ t, 1 ≤ x ∧ x ≤ 26) → r < 256 → (hk : k < t.length) → (pkL m t + r) / 256 ^ (m - k) % 256 = 96 + t[k]
  | 0, t, k, r, h, _, _, hk => by omega
  | m + 1, [], k, r, _, _, _, hk => by simp at hk
  | m + 1, x :: t, 0, r, h, hx, hr, hk => by
    have h1 := pkL_lt m t (by simpa using h) (fun y hy => hx y (List.mem_cons_of_mem _ hy))
    have h2 := (hx x List.mem_cons_self).2
    rw [pkL, Nat.sub_zero, Nat.add_assoc, Nat.add_comm, Nat.add_mul_div_right _ _ (Nat.pow_pos (by decide)), Nat.div_eq_of_lt (by omega)]
    simp only [List.getElem_cons_zero]
    omega
  | m + 1, x :: t, k + 1, r, h, hx, hr, hk => by
    have h1 := pkL_digit m t k r (by simpa using h) (fun y hy => hx y (List.mem_cons_of_mem _ hy)) hr (by simpa using hk)
    have hkm : k < m := by have : t.length ≤ m := by simpa using h
                           have : k < t.length := by simpa using hk
                           omega
    have e : (96 + x) * 256 ^ (m + 1) = ((96 + x) * 256 ^ k * 256) * 256 ^ (m - k) := by
      rw [Nat.mul_assoc, Nat.mul_assoc, ← Nat.pow_succ', ← Nat.pow_add]
      congr 2
      omega
    rw [pkL, show m + 1 - (k + 1) = m - k by omega, Nat.add_assoc, e, Nat.add_comm, Nat.add_mul_div_right _ _ (Nat.pow_pos (by decide))]
    simp only [List.getElem_cons_succ]
    rw [Nat.add_mul_mod_self_right]
    exact h1
theorem bL_digit : ∀ (m : Nat) (t : List Nat) (k : Nat), t.length ≤ m → (∀ x ∈ t, 1 ≤ x ∧ x ≤ 26) → k < m → bL m t / 27 ^ (m - 1 - k) % 27 = (t[k]?).getD 0
  | 0, t, k, h, _, hk => by omega
  | m + 1, [], k, _, _, hk => by rw [bL_nil]; simp
  | m + 1, x :: t, 0, h, hx, hk => by
    have h1 := bL_lt m t (by simpa using h) (fun y hy => hx y (List.mem_cons_of_mem _ hy))
    have h2 := (hx x List.mem_cons_self).2
    rw [bL, show m + 1 - 1 - 0 = m by omega, Nat.add_comm, Nat.add_mul_div_right _ _ (Nat.pow_pos (by decide)), Nat.div_eq_of_lt h1]
    simp
    omega
  | m + 1, x :: t, k + 1, h, hx, hk => by
    have h1 := bL_digit m t k (by simpa using h) (fun y hy => hx y (List.mem_cons_of_mem _ hy)) (by omega)
    have e : x * 27 ^ m = (x * 27 ^ k * 27) * 27 ^ (m - 1 - k) := by
      rw [Nat.mul_assoc, Nat.mul_assoc, ← Nat.pow_succ', ← Nat.pow_add]
      congr 2
      omega
    rw [bL, show m + 1 - 1 - (k + 1) = m - 1 - k by omega, e, Nat.add_comm, Nat.add_mul_div_right _ _ (Nat.pow_pos (by decide)), Nat.add_mul_mod_self_right, h1]
    simp
theorem pkL_snoc : ∀ (m : Nat) (t : List Nat) (x : Nat), t.length < m → pkL m (t ++ [x]) = pkL m t + (96 + x) * 256 ^ (m - t.length)
  | 0, _, _, h => by omega
  | m + 1, [], x, _ => by simp [pkL, pkL_nil]
  | m + 1, y :: t, x, h => by
    have h1 := pkL_snoc m t x (by simpa using h)
    rw [List.cons_append, pkL, pkL, h1]
    simp only [List.length_cons]
    rw [show m + 1 - (t.length + 1) = m - t.length by omega]
    omega
theorem bL_snoc : ∀ (m : Nat) (t : List Nat) (x : Nat), t.length < m → bL m (t ++ [x]) = bL m t + x * 27 ^ (m - 1 - t.length)
  | 0, _, _, h => by omega
  | m + 1, [], x, _ => by simp [bL, bL_nil]
  | m + 1, y :: t, x, h => by
    have h1 := bL_snoc m t x (by simpa using h)
    rw [List.cons_append, bL, bL, h1]
    simp only [List.length_cons]
    rw [show m + 1 - 1 - (t.length + 1) = m - 1 - t.length by omega]
    omega
/-- what has been packed stands above the places that are free -/
theorem pkL_high : ∀ (m : Nat) (t : List Nat), t.length ≤ m → ∃ a, pkL m t = 2 ^ (8 * (m + 1 - t.length)) * a
  | 0, [], _ => ⟨0, by simp [pkL]⟩
  | 0, x :: t, h => by simp at h
  | m + 1, [], _ => ⟨0, by simp [pkL]⟩
  | m + 1, x :: t, h => by
    have ht : t.length ≤ m := by simpa using h
    obtain ⟨a, ha⟩ := pkL_high m t ht
    refine ⟨(96 + x) * 256 ^ t.length + a, ?_⟩
    simp only [List.length_cons]
    rw [pkL, ha, show m + 1 + 1 - (t.length + 1) = m + 1 - t.length by omega, Nat.mul_add]
    congr 1
    rw [Nat.mul_left_comm, show (256 : Nat) = 2 ^ 8 by rfl, ← Nat.pow_mul, ← Nat.pow_mul, ← Nat.pow_add]
    congr 2
    omega
/-! ===== the class's Word ===== -/
theorem x_letters {w : List Nat} (h : wOK w) : f_X4_letters (lN (pk w)) = nI w.length := by
  have e : f_X4_letters (lN (pk w)) = (lN (pk w) &&& lN (2 ^ 8 - 1)).toInt32 := rfl
  rw [e, fb_maskL, lN_i, show (2 : Nat) ^ 8 = 256 by rfl, pk_len h]
theorem x_shift {k : Nat} (h : k ≤ 7) : f_X4_shiftOf (nI k) = nI (8 * (7 - k)) := by
  have e : f_X4_shiftOf (nI k) = nI 8 * (nI 7 - nI k) := rfl
  rw [e, pk_sub h, pk_mul]
theorem x_code_in {w : List Nat} (h : wOK w) {k : Nat} (hk : k < w.length) : f_X4_code (lN (pk w)) (nI k) = nI (96 + w[k]) := by
  have h7 := h.1
  unfold f_X4_code
  rw [x_letters h, if_neg (nI_pos (by omega)), if_neg (nI_ge hk (by omega)), x_shift (by omega)]
  have e : ushrL (lN (pk w)) (nI (8 * (7 - k))) = lN (pk w / 2 ^ (8 * (7 - k))) := wb_shr (by have := pk_small h; omega) (by omega)
  rw [e, lN_i]
  have e2 : nI (pk w / 2 ^ (8 * (7 - k))) &&& (255 : Int32) = nI (pk w / 2 ^ (8 * (7 - k)) % 2 ^ 8) := fa_mask _ 8
  rw [e2, Nat.pow_mul]
  congr 1
  exact pkL_digit 7 w k w.length h7 h.2 (by omega) hk
theorem x_code_out {w : List Nat} (h : wOK w) {i : Int32} (hi : i.toInt < 0 ∨ (w.length : Int) ≤ i.toInt) : f_X4_code (lN (pk w)) i = 0 := by
  have h7 := h.1
  unfold f_X4_code
  rw [x_letters h]
  by_cases h1 : i < 0
  · rw [if_pos h1]
  · rw [if_neg h1, if_pos]
    rw [i32_nIle (by omega)]
    rw [i32_neg] at h1
    omega
theorem x_longer {w : List Nat} (h : wOK w) (hl : w.length < 7) {x : Nat} (hx : 1 ≤ x ∧ x ≤ 26) : f_X4_longer (lN (pk w)) (nI (96 + x)) = lN (pk (w ++ [x])) := by
  unfold f_X4_longer
  have e7 : ¬ (7 : Int32) ≤ nI w.length := nI_ge (a := w.length) (b := 7) hl (by decide)
  rw [x_letters h, if_neg e7, x_shift (by omega)]
  have e : shlL (nI (96 + x)).toInt64 (nI (8 * (7 - w.length))) = lN ((96 + x) * 2 ^ (8 * (7 - w.length))) := by
    rw [nI_l (by omega)]
    exact wb_shl _ (by omega)
  rw [e, fb_orL, lN_1]
  congr 1
  obtain ⟨a, ha⟩ := pkL_high 7 w h.1
  unfold pk
  rw [pkL_snoc 7 w x hl, ha, List.length_append]
  have l1 : w.length < 2 ^ (8 * (7 - w.length)) := by
    have : 2 ^ 8 ≤ 2 ^ (8 * (7 - w.length)) := Nat.pow_le_pow_right (by decide) (by omega)
    omega
  have l2 : (96 + x) * 2 ^ (8 * (7 - w.length)) + w.length < 2 ^ (8 * (7 + 1 - w.length)) := by
    have e1 : 2 ^ (8 * (7 + 1 - w.length)) = 256 * 2 ^ (8 * (7 - w.length)) := by
      rw [show 8 * (7 + 1 - w.length) = 8 + 8 * (7 - w.length) by omega, Nat.pow_add]
    have e2 : (96 + x) * 2 ^ (8 * (7 - w.length)) ≤ 122 * 2 ^ (8 * (7 - w.length)) := Nat.mul_le_mul_right _ (by omega)
    rw [e1]
    generalize 2 ^ (8 * (7 - w.length)) = P at *
    omega
  have l3 : w.length < 2 ^ (8 * (7 + 1 - w.length)) := by omega
  rw [Nat.two_pow_add_eq_or_of_lt l3, Nat.or_assoc, Nat.or_comm w.length, Nat.mul_comm (96 + x), ← Nat.two_pow_add_eq_or_of_lt l1, ← Nat.two_pow_add_eq_or_of_lt (by rw [Nat.mul_comm]; exact l2)]
  simp only [List.length_singleton]
  rw [show (256 : Nat) = 2 ^ 8 by rfl, ← Nat.pow_mul, Nat.mul_comm (96 + x)]
  omega
theorem nI_m6 {k : Nat} (h : k < 2 ^ 31) : ¬ nI k = (-6) := nI_neg_ne (m := 6) h (by decide) (by decide)
