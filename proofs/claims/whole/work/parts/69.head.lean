/-! what heads ask for, on both sides -/
def hlN (W : Nat → List Nat) (a b : Nat) : Nat := if b = a then (W a).length else (W a).length + 1 + (W b).length
def wnN (W : Nat → List Nat) (Wd a b : Nat) : Nat := if hlN W a b ≤ Wd then 1 else 2
theorem wn_12 (W : Nat → List Nat) (Wd a b : Nat) : wnN W Wd a b = 1 ∨ wnN W Wd a b = 2 := by unfold wnN; split <;> omega
theorem hl_le {N : Nat} {G : Nat → Nat} {W : Nat → List Nat} (ok : OKE N G W) {a b : Nat} (ha : a < N) (hb : b < N) : hlN W a b ≤ 15 := by
  have h1 := (ok.2.1 a ha).2.2.1.1
  have h2 := (ok.2.1 b hb).2.2.1.1
  unfold hlN
  split <;> omega
theorem x_width {N : Nat} {G : Nat → Nat} {W : Nat → List Nat} (ok : OKE N G W) {wd : Nat → Int64} (hwd : ∀ i, i < N → wd i = lN (pk (W i))) {p a b : Nat} (hp : p < 300) (ha : a < N) (hb : b < N) {fi la : Nat → Int32} (hf : fi p = nI a) (hl : la p = nI b) :
    f_X0_headWidth fi la (nI N) wd (nI p) = some (nI (hlN W a b)) := by
  have hN := ok.1
  have wa := (ok.2.1 a ha).2.2.1
  have wb := (ok.2.1 b hb).2.2.1
  unfold f_X0_headWidth hlN
  rw [gd_t (xin_nI hp (by decide)), clN (by omega), hf, bd_eq (x_wordOf hN ha), gd_t (xin_nI hp (by decide)), gd_t (xin_nI hp (by decide)), hl, hwd a ha, x_letters wa]
  by_cases q : b = a
  · rw [if_pos (by rw [q]), if_pos q]
  · rw [if_neg (fun c => q ((nI_eq (by omega) (by omega)).mp c)), if_neg q, gd_t (xin_nI hp (by decide)), bd_eq (x_wordOf hN hb), hwd b hb, x_letters wb, nI_1, nI_add]
theorem m_hsize {N : Nat} {G : Nat → Nat} {W : Nat → List Nat} (ok : OKE N G W) {z : Nat → Int64} (hz : ∀ i, i < N → z (4 + i) = lN (b27 (W i))) {p a b : Nat} (hp : p < 400) (ha : a < N) (hb : b < N) {fi la : Nat → Int32} (hf : fi p = nI a) (hl : la p = nI b) :
    f_X6_headSize z fi la (nI p) = some (nI (hlN W a b)) := by
  have hN := ok.1
  have wa := (ok.2.1 a ha).2.2.1
  have wb := (ok.2.1 b hb).2.2.1
  unfold f_X6_headSize hlN
  rw [gd_t (xin_nI hp (by decide)), clN (by omega), hf, n4, gd_t (xin64 (by omega)), clN (by omega), hz a ha, bd_eq (m_size wa), gd_t (xin_nI hp (by decide)), gd_t (xin_nI hp (by decide)), hl]
  by_cases q : b = a
  · rw [if_pos (by rw [q]), if_pos q]
  · rw [if_neg (fun c => q ((nI_eq (by omega) (by omega)).mp c).symm), if_neg q, gd_t (xin_nI hp (by decide)), n4, gd_t (xin64 (by omega)), clN (by omega), hz b hb, bd_eq (m_size wb), nI_1, nI_add]
theorem m_wants {N : Nat} {G : Nat → Nat} {W : Nat → List Nat} (ok : OKE N G W) {z : Nat → Int64} (hz : ∀ i, i < N → z (4 + i) = lN (b27 (W i))) {Wd : Nat} (hW : Wd ≤ 30) (hz1 : z 1 = lN Wd) {p a b : Nat} (hp : p < 400) (ha : a < N) (hb : b < N) {fi la : Nat → Int32} (hf : fi p = nI a) (hl : la p = nI b) :
    f_X6_wants z fi la (nI p) = some (nI (wnN W Wd a b)) := by
  have h15 := hl_le ok ha hb
  unfold f_X6_wants wnN
  rw [bd_eq (m_hsize ok hz hp ha hb hf hl), hz1, nI_l (by omega)]
  by_cases q : hlN W a b ≤ Wd
  · rw [if_neg (fun c => by have := (lN_lt (by omega) (by omega)).mp c; omega), if_pos q]
    rfl
  · rw [if_pos ((lN_lt (by omega) (by omega)).mpr (by omega)), if_neg q]
    rfl
theorem x_ask_loop {K : Int32 → Int32 → (Nat → Int32) → Option (Int32 × (Nat → Int32))} {N : Nat} {G : Nat → Nat} {W : Nat → List Nat} (ok : OKE N G W) {wd : Nat → Int64} (hwd : ∀ i, i < N → wd i = lN (pk (W i))) {Wd P : Nat} (hW : Wd ≤ 30) (hP : P ≤ 300) {H FI LA : Nat → Nat} (hH : ∀ p, H p = 1 ∨ H p = 2) {fi la hl : Nat → Int32} (hx : ∀ p, p < P → FI p < N ∧ LA p < N ∧ fi p = nI (FI p) ∧ la p = nI (LA p) ∧ hl p = nI (H p)) : ∀ (d f i : Nat) (b : Int32) (nh : Nat → Int32), i + d = P → d < f → b = 1 ∨ b = 0 →
    ∃ b' nh', L_X0_askHeads_5 K (nI Wd) (nI P) fi la hl (nI N) wd f (nI i) b nh = K (nI P) b' nh' ∧ (∀ p, p < i → nh' p = nh p) ∧ (∀ p, i ≤ p → p < P → nh' p = nI (wnN W Wd (FI p) (LA p))) ∧ ((b' = 1 ∧ b = 1 ∧ ∀ p, i ≤ p → p < P → wnN W Wd (FI p) (LA p) = H p) ∨ (b' = 0 ∧ (b = 0 ∨ ∃ p, i ≤ p ∧ p < P ∧ wnN W Wd (FI p) (LA p) ≠ H p)))
  | _, 0, _, _, _, _, h, _ => absurd h (by omega)
  | 0, f + 1, i, b, nh, hi, _, hb => by
    refine ⟨b, nh, ?_, fun _ _ => rfl, fun p h1 h2 => absurd h2 (by omega), ?_⟩
    · rw [L_X0_askHeads_5_s, if_pos (nI_le (by omega) (by omega)), show i = P by omega]
    · rcases hb with h | h
      · exact Or.inl ⟨h, h, fun p h1 h2 => absurd h2 (by omega)⟩
      · exact Or.inr ⟨h, Or.inl h⟩
  | d + 1, f + 1, i, b, nh, hi, hf, hb => by
    have hN := ok.1
    obtain ⟨x1, x2, x3, x4, x5⟩ := hx i (by omega)
    have h15 := hl_le ok x1 x2
    have w12 := wn_12 W Wd (FI i) (LA i)
    have hHi := hH i
    have J : ∃ b1, (b1 = 1 ∨ b1 = 0) ∧ (b1 = 1 ↔ b = 1 ∧ wnN W Wd (FI i) (LA i) = H i) ∧ L_X0_askHeads_5 K (nI Wd) (nI P) fi la hl (nI N) wd (f + 1) (nI i) b nh = L_X0_askHeads_5 K (nI Wd) (nI P) fi la hl (nI N) wd f (nI (i + 1)) b1 (upd nh i (nI (wnN W Wd (FI i) (LA i)))) := by
      have J2 : ∀ s, s = nI (wnN W Wd (FI i) (LA i)) → ∃ b1, (b1 = 1 ∨ b1 = 0) ∧ (b1 = 1 ↔ b = 1 ∧ wnN W Wd (FI i) (LA i) = H i) ∧ J_X0_askHeads_36 (fun (i4_5 : Int32) (i3_5 : Int32) (v_nextHeadLines_5 : Nat → Int32) => L_X0_askHeads_5 K (nI Wd) (nI P) fi la hl (nI N) wd f i4_5 i3_5 v_nextHeadLines_5) hl (nI i) b nh s = L_X0_askHeads_5 K (nI Wd) (nI P) fi la hl (nI N) wd f (nI (i + 1)) b1 (upd nh i (nI (wnN W Wd (FI i) (LA i)))) := fun s hs => by
        rw [hs]
        unfold J_X0_askHeads_36
        rw [gd_t (xin_nI (by omega) (by decide)), gd_t (xin_nI (by omega) (by decide)), gd_t (xin_nI (by omega) (by decide)), clN (by omega), upd_eq, x5, nI_1]
        by_cases q : wnN W Wd (FI i) (LA i) = H i
        · rw [if_pos (by rw [q])]
          exact ⟨b, hb, by simp [q], rfl⟩
        · rw [if_neg (fun c => q ((nI_eq (by omega) (by omega)).mp c))]
          exact ⟨0, Or.inr rfl, ⟨fun c => absurd c (by decide), fun c => absurd c.2 q⟩, rfl⟩
      rw [L_X0_askHeads_5_s, if_neg (nI_ge (by omega) (by omega)), bd_eq (x_width ok hwd (by omega) x1 x2 x3 x4)]
      by_cases q : hlN W (FI i) (LA i) ≤ Wd
      · rw [if_neg (nI_nlt q (by omega))]
        exact J2 1 (by unfold wnN; rw [if_pos q]; rfl)
      · rw [if_pos (nI_lt (by omega) (by omega))]
        exact J2 2 (by unfold wnN; rw [if_neg q]; rfl)
    obtain ⟨b1, hb1, hiff, eJ⟩ := J
    obtain ⟨b', nh', e, h1, h2, h3⟩ := x_ask_loop (K := K) ok hwd hW hP hH hx d f (i + 1) b1 (upd nh i (nI (wnN W Wd (FI i) (LA i)))) (by omega) (by omega) hb1
    refine ⟨b', nh', by rw [eJ, e], fun p hp => by rw [h1 p (by omega), upd_ne (by omega)], fun p hp1 hp2 => ?_, ?_⟩
    · by_cases q : p = i
      · rw [q, h1 i (by omega), upd_eq]
      · exact h2 p (by omega) hp2
    · rcases h3 with ⟨a1, a2, a3⟩ | ⟨a1, a2⟩
      · have hh := hiff.mp a2
        refine Or.inl ⟨a1, hh.1, fun p hp1 hp2 => ?_⟩
        by_cases q : p = i
        · rw [q]; exact hh.2
        · exact a3 p (by omega) hp2
      · refine Or.inr ⟨a1, ?_⟩
        rcases a2 with a2 | ⟨p, p1, p2, p3⟩
        · by_cases q : wnN W Wd (FI i) (LA i) = H i
          · rcases hb with hb | hb
            · have := hiff.mpr ⟨hb, q⟩
              rw [a2] at this
              exact absurd this (by decide)
            · exact Or.inl hb
          · exact Or.inr ⟨i, Nat.le_refl _, by omega, q⟩
        · exact Or.inr ⟨p, by omega, p2, p3⟩
theorem m_set_loop {K : Int32 → Int32 → Option Int32} {N : Nat} {G : Nat → Nat} {W : Nat → List Nat} (ok : OKE N G W) {z : Nat → Int64} (hz : ∀ i, i < N → z (4 + i) = lN (b27 (W i))) {Wd P : Nat} (hW : Wd ≤ 30) (hz1 : z 1 = lN Wd) (hP : P ≤ 300) {H FI LA : Nat → Nat} (hH : ∀ p, H p = 1 ∨ H p = 2) {fi la hd : Nat → Int32} (hx : ∀ p, p < P → FI p < N ∧ LA p < N ∧ fi p = nI (FI p) ∧ la p = nI (LA p) ∧ hd p = nI (H p)) : ∀ (d f i : Nat) (b : Int32), i + d = P → d < f → b = 1 ∨ b = 0 →
    ∃ b', L_X6_isSettled_4 K (nI P) z hd fi la f (nI i) b = K (nI P) b' ∧ ((b' = 1 ∧ b = 1 ∧ ∀ p, i ≤ p → p < P → wnN W Wd (FI p) (LA p) = H p) ∨ (b' = 0 ∧ (b = 0 ∨ ∃ p, i ≤ p ∧ p < P ∧ wnN W Wd (FI p) (LA p) ≠ H p)))
  | _, 0, _, _, _, h, _ => absurd h (by omega)
  | 0, f + 1, i, b, hi, _, hb => by
    refine ⟨b, ?_, ?_⟩
    · rw [L_X6_isSettled_4_s, if_pos (nI_le (by omega) (by omega)), show i = P by omega]
    · rcases hb with h | h
      · exact Or.inl ⟨h, h, fun p h1 h2 => absurd h2 (by omega)⟩
      · exact Or.inr ⟨h, Or.inl h⟩
  | d + 1, f + 1, i, b, hi, hf, hb => by
    obtain ⟨x1, x2, x3, x4, x5⟩ := hx i (by omega)
    have w12 := wn_12 W Wd (FI i) (LA i)
    have hHi := hH i
    have J : ∃ b1, (b1 = 1 ∨ b1 = 0) ∧ (b1 = 1 ↔ b = 1 ∧ wnN W Wd (FI i) (LA i) = H i) ∧ L_X6_isSettled_4 K (nI P) z hd fi la (f + 1) (nI i) b = L_X6_isSettled_4 K (nI P) z hd fi la f (nI (i + 1)) b1 := by
      rw [L_X6_isSettled_4_s, if_neg (nI_ge (by omega) (by omega)), nI_1]
      rcases hb with hb | hb
      · rw [if_neg (by rw [hb]; decide), bd_eq (m_wants ok hz hW hz1 (by omega) x1 x2 x3 x4), gd_t (xin_nI (by omega) (by decide)), clN (by omega), x5]
        by_cases q : wnN W Wd (FI i) (LA i) = H i
        · rw [if_pos (by rw [q])]
          exact ⟨1, Or.inl rfl, ⟨fun _ => ⟨hb, q⟩, fun _ => rfl⟩, rfl⟩
        · rw [if_neg (fun c => q ((nI_eq (by omega) (by omega)).mp c))]
          exact ⟨0, Or.inr rfl, ⟨fun c => absurd c (by decide), fun c => absurd c.2 q⟩, rfl⟩
      · rw [if_pos hb]
        exact ⟨0, Or.inr rfl, ⟨fun c => absurd c (by decide), fun c => by rw [hb] at c; exact absurd c.1 (by decide)⟩, rfl⟩
    obtain ⟨b1, hb1, hiff, eJ⟩ := J
    obtain ⟨b', e, h3⟩ := m_set_loop (K := K) ok hz hW hz1 hP hH hx d f (i + 1) b1 (by omega) (by omega) hb1
    refine ⟨b', by rw [eJ, e], ?_⟩
    rcases h3 with ⟨a1, a2, a3⟩ | ⟨a1, a2⟩
    · have hh := hiff.mp a2
      refine Or.inl ⟨a1, hh.1, fun p hp1 hp2 => ?_⟩
      by_cases q : p = i
      · rw [q]; exact hh.2
      · exact a3 p (by omega) hp2
    · refine Or.inr ⟨a1, ?_⟩
      rcases a2 with a2 | ⟨p, p1, p2, p3⟩
      · by_cases q : wnN W Wd (FI i) (LA i) = H i
        · rcases hb with hb | hb
          · have := hiff.mpr ⟨hb, q⟩
            rw [a2] at this
            exact absurd this (by decide)
          · exact Or.inl hb
        · exact Or.inr ⟨i, Nat.le_refl _, by omega, q⟩
      · exact Or.inr ⟨p, by omega, p2, p3⟩
