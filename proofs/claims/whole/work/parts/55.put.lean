/-! the pad: n characters cs; characters put -/
def PadIs (n : Nat) (cs : Nat → Nat) (codes : Nat → Int32) : Prop := ∀ i, i < n → codes i = nI (cs i)
def OKP (n : Nat) (cs : Nat → Nat) : Prop := n ≤ 60 ∧ ∀ i, i < n → 33 ≤ cs i ∧ cs i ≤ 126
theorem lN_0 {x : Nat} (h : x < 2 ^ 64) : lN x = 0 ↔ x = 0 := by
  constructor
  · intro q
    have h1 := congrArg (fun y : Int64 => y.toBitVec.toNat) q
    simp only [wb_tn h] at h1
    exact h1
  · intro q; rw [q]; rfl
theorem ush8 {u i : Nat} (hu : u < 2 ^ 64) (hi : i < 8) : ushrL (lN u) ((8 : Int32) * nI i) = lN (u / 256 ^ i) := by
  have e : (8 : Int32) * nI i = nI (8 * i) := pk_mul 8 i
  rw [e]
  have e2 : ushrL (lN u) (nI (8 * i)) = lN (u / 2 ^ (8 * i)) := wb_shr hu (by omega)
  rw [e2, Nat.pow_mul]
theorem ush1 {v : Nat} (hv : v < 2 ^ 64) : ushrL (lN v) 8 = lN (v / 256) := by
  have e2 : ushrL (lN v) (nI 8) = lN (v / 2 ^ 8) := wb_shr hv (by omega)
  exact e2
theorem mask8 (v : Nat) : lN v &&& (255 : Int64) = lN (v % 256) := fb_maskL v 8
/-- how many characters a number has: 0 if it can't be put -/
def chOK (u i : Nat) : Prop := ∀ j, j < i → u / 256 ^ j ≠ 0 ∧ 33 ≤ u / 256 ^ j % 256 ∧ u / 256 ^ j % 256 ≤ 126
def chIs (u c : Nat) : Prop := c ≤ 8 ∧ chOK u c ∧ u / 256 ^ c = 0
theorem pow_div {u i : Nat} : u / 256 ^ i / 256 = u / 256 ^ (i + 1) := by rw [Nat.div_div_eq_div_mul, ← Nat.pow_succ]
theorem x_chars_loop {u : Nat} (hu : u < 2 ^ 64) : ∀ (d n i : Nat), i + d = 8 → d < n → chOK u i →
    (∃ c, chIs u c ∧ L_X5_charactersIn_2 (fun _ => some 8) (lN u) n (nI i) = some (nI c)) ∨ ((∀ c, ¬ chIs u c) ∧ L_X5_charactersIn_2 (fun _ => some 8) (lN u) n (nI i) = some 0)
  | 0, 0, _, _, h, _ => absurd h (by omega)
  | 0, n + 1, i, hi, _, h => by
    left
    have e : i = 8 := by omega
    subst e
    refine ⟨8, ⟨Nat.le_refl _, h, Nat.div_eq_of_lt (by omega)⟩, ?_⟩
    rw [L_X5_charactersIn_2_s, if_pos (by decide)]
    rfl
  | d + 1, 0, _, _, h, _ => absurd h (by omega)
  | d + 1, n + 1, i, hi, hn, h => by
    have hle : u / 256 ^ i ≤ u := Nat.div_le_self _ _
    rw [L_X5_charactersIn_2_s, if_neg (show ¬ (8 : Int32) ≤ nI i from nI_ge (a := i) (b := 8) (by omega) (by decide)), ush8 hu (by omega), mask8]
    by_cases q0 : u / 256 ^ i = 0
    · rw [if_pos (by rw [q0]; rfl)]
      exact Or.inl ⟨i, ⟨by omega, h, q0⟩, rfl⟩
    · rw [if_neg (by rw [lN_0 (by omega)]; exact q0)]
      by_cases q1 : u / 256 ^ i % 256 < 33
      · rw [if_pos (show lN (u / 256 ^ i % 256) < (33 : Int64) from (lN_lt (b := 33) (by omega) (by decide)).mpr q1)]
        right
        refine ⟨fun c hc => ?_, rfl⟩
        by_cases hic : i < c
        · have := hc.2.1 i hic; omega
        · have hci : c ≤ i := by omega
          have : u / 256 ^ i = 0 := by
            have e : 256 ^ i = 256 ^ c * 256 ^ (i - c) := by rw [← Nat.pow_add]; congr 1; omega
            rw [e, ← Nat.div_div_eq_div_mul, hc.2.2, Nat.zero_div]
          exact q0 this
      · rw [if_neg (show ¬ lN (u / 256 ^ i % 256) < (33 : Int64) from fun c => q1 ((lN_lt (b := 33) (by omega) (by decide)).mp c))]
        by_cases q2 : u / 256 ^ i % 256 ≤ 126
        · rw [if_pos (show lN (u / 256 ^ i % 256) ≤ (126 : Int64) from (lN_le (b := 126) (by omega) (by decide)).mpr q2), nI_1]
          refine x_chars_loop hu d n (i + 1) (by omega) (by omega) (fun j hj => ?_)
          by_cases c : j = i
          · rw [c]; exact ⟨q0, by omega, q2⟩
          · exact h j (by omega)
        · rw [if_neg (show ¬ lN (u / 256 ^ i % 256) ≤ (126 : Int64) from fun c => q2 ((lN_le (b := 126) (by omega) (by decide)).mp c))]
          right
          refine ⟨fun c hc => ?_, rfl⟩
          by_cases hic : i < c
          · have := hc.2.1 i hic; omega
          · have : u / 256 ^ i = 0 := by
              have e : 256 ^ i = 256 ^ c * 256 ^ (i - c) := by rw [← Nat.pow_add]; congr 1; omega
              rw [e, ← Nat.div_div_eq_div_mul, hc.2.2, Nat.zero_div]
            exact q0 this
theorem x_chars {u : Nat} (hu : u < 2 ^ 64) : (∃ c, chIs u c ∧ f_X5_charactersIn (lN u) = some (nI c)) ∨ ((∀ c, ¬ chIs u c) ∧ f_X5_charactersIn (lN u) = some 0) :=
  x_chars_loop hu 8 FU 0 (by omega) (by have := FU_big; omega) (fun j hj => absurd hj (Nat.not_lt_zero _))
theorem chIs_one {u a b : Nat} (ha : chIs u a) (hb : chIs u b) : a = b := by
  rcases Nat.lt_trichotomy a b with q | q | q
  · exact absurd ha.2.2 (hb.2.1 a q).1
  · exact q
  · exact absurd hb.2.2 (ha.2.1 b q).1
theorem m_in {a lo hi : Nat} (ha : a < 2 ^ 31) (hl : lo < 2 ^ 31) (hh : hi < 2 ^ 31) : f_X6_in (lN a) (lN lo) (lN hi) = if lo ≤ a ∧ a ≤ hi then 1 else 0 := by
  unfold f_X6_in
  by_cases h1 : a < lo
  · rw [if_pos ((lN_lt ha hl).mpr h1), if_neg (by omega)]
  · rw [if_neg (fun q => h1 ((lN_lt ha hl).mp q))]
    by_cases h2 : hi < a
    · rw [if_pos ((lN_lt hh ha).mpr h2), if_neg (by omega)]
    · rw [if_neg (fun q => h2 ((lN_lt hh ha).mp q)), if_pos (by omega)]
theorem m_chars_loop {K : Int32 → Int64 → Option (Int32 × Int32 × (Nat → Int32))} {t : Int32} {pd : Nat → Int32} {u : Nat} (hu : u < 2 ^ 64) : ∀ (d n i : Nat), i + d = 8 → d < n → chOK u i →
    (∃ c v, chIs u c ∧ L_X6_put_5 K t pd n (nI i) (lN (u / 256 ^ i)) = K (nI c) v) ∨ ((∀ c, ¬ chIs u c) ∧ L_X6_put_5 K t pd n (nI i) (lN (u / 256 ^ i)) = some (-2, t, pd))
  | 0, 0, _, _, h, _ => absurd h (by omega)
  | 0, n + 1, i, hi, _, h => by
    left
    have e : i = 8 := by omega
    subst e
    have z : u / 256 ^ 8 = 0 := Nat.div_eq_of_lt (by omega)
    refine ⟨8, lN (u / 256 ^ 8), ⟨Nat.le_refl _, h, z⟩, ?_⟩
    rw [L_X6_put_5_s, if_pos (by rw [z]; rfl)]
  | d + 1, 0, _, _, h, _ => absurd h (by omega)
  | d + 1, n + 1, i, hi, hn, h => by
    have hle : u / 256 ^ i ≤ u := Nat.div_le_self _ _
    rw [L_X6_put_5_s]
    by_cases q0 : u / 256 ^ i = 0
    · rw [if_pos (by rw [q0]; rfl)]
      exact Or.inl ⟨i, _, ⟨by omega, h, q0⟩, rfl⟩
    · rw [if_neg (by rw [lN_0 (by omega)]; exact q0), if_neg (show ¬ (8 : Int32) ≤ nI i from nI_ge (a := i) (b := 8) (by omega) (by decide)), mask8, show (33 : Int64) = lN 33 by rfl, show (126 : Int64) = lN 126 by rfl, m_in (by omega) (by decide) (by decide), ush1 (by omega), pow_div, nI_1]
      by_cases q1 : 33 ≤ u / 256 ^ i % 256 ∧ u / 256 ^ i % 256 ≤ 126
      · rw [if_pos q1, if_neg (by decide)]
        refine m_chars_loop hu d n (i + 1) (by omega) (by omega) (fun j hj => ?_)
        by_cases c : j = i
        · rw [c]; exact ⟨q0, q1.1, q1.2⟩
        · exact h j (by omega)
      · rw [if_neg q1, if_pos rfl]
        right
        refine ⟨fun c hc => ?_, rfl⟩
        by_cases hic : i < c
        · have := hc.2.1 i hic; exact q1 this.2
        · have : u / 256 ^ i = 0 := by
            have e : 256 ^ i = 256 ^ c * 256 ^ (i - c) := by rw [← Nat.pow_add]; congr 1; omega
            rw [e, ← Nat.div_div_eq_div_mul, hc.2.2, Nat.zero_div]
          exact q0 this
theorem sub1 (x : Int32) : x + (-1) = x - 1 := by rw [Int32.sub_eq_add_neg]
/-- characters come to the end of both pads -/
theorem put_loops {u : Nat} (hu : u < 2 ^ 64) {K1 K2 : Int32 → Int32 → (Nat → Int32) → Option (Int32 × Int32 × (Nat → Int32))} : ∀ (a n1 n2 : Nat) (t : Nat) (cs : Nat → Nat) (codes pd : Nat → Int32), a ≤ 8 → t + a ≤ 60 → a < n1 → a < n2 → chOK u a → OKP t cs → PadIs t cs codes → PadIs t cs pd →
    ∃ i1 i2 cs' codes' pd', L_X5_put_34 K1 (lN u) n1 (nI a - 1) (nI t) codes = K1 i1 (nI (t + a)) codes' ∧ L_X6_put_78 K2 (lN u) n2 (nI a - 1) (nI t) pd = K2 i2 (nI (t + a)) pd' ∧ OKP (t + a) cs' ∧ PadIs (t + a) cs' codes' ∧ PadIs (t + a) cs' pd'
  | _, 0, _, _, _, _, _, _, _, h, _, _, _, _, _ => absurd h (by omega)
  | _, _, 0, _, _, _, _, _, _, _, h, _, _, _, _ => absurd h (by omega)
  | 0, n1 + 1, n2 + 1, t, cs, codes, pd, _, _, _, _, _, ok, h1, h2 => by
    refine ⟨nI 0 - 1, nI 0 - 1, cs, codes, pd, ?_, ?_, ok, h1, h2⟩
    · rw [L_X5_put_34_s, if_pos (by decide)]; rfl
    · rw [L_X6_put_78_s, if_pos (by decide)]; rfl
  | a + 1, n1 + 1, n2 + 1, t, cs, codes, pd, ha, hta, hn1, hn2, hch, ok, h1, h2 => by
    have hb := hch a (by omega)
    have nx : OKP (t + 1) (fun i => if i = t then u / 256 ^ a % 256 else cs i) := by
      refine ⟨by omega, fun i hi => ?_⟩
      by_cases c : i = t
      · simp only [c, if_pos]; exact hb.2
      · simp only [if_neg c]; exact ok.2 i (by omega)
    have nxp : ∀ f : Nat → Int32, PadIs t cs f → PadIs (t + 1) (fun i => if i = t then u / 256 ^ a % 256 else cs i) (upd f t (nI (u / 256 ^ a % 256))) := by
      intro f hf i hi
      by_cases c : i = t
      · simp only [c, if_pos]; exact pk_us
      · simp only [if_neg c]; rw [pk_un c]; exact hf i (by omega)
    obtain ⟨i1, i2, cs', codes', pd', e1, e2, h3, h4, h5⟩ := put_loops hu (K1 := K1) (K2 := K2) a n1 n2 (t + 1) _ _ _ (by omega) (by omega) (by omega) (by omega) (fun j hj => hch j (by omega)) nx (nxp codes h1) (nxp pd h2)
    rw [show t + 1 + a = t + (a + 1) by omega] at e1 e2 h3 h4 h5
    refine ⟨i1, i2, cs', codes', pd', ?_, ?_, h3, h4, h5⟩
    · rw [L_X5_put_34_s, nI_pred, if_neg (nI_pos (by omega)), ush8 hu (by omega), lN_i]
      have em : nI (u / 256 ^ a) &&& (255 : Int32) = nI (u / 256 ^ a % 256) := fa_mask _ 8
      have ea : f_X2_append (nI t) codes (nI (u / 256 ^ a % 256)) = some (nI (t + 1), upd codes t (nI (u / 256 ^ a % 256))) := by
        unfold f_X2_append
        rw [if_neg (show ¬ (60 : Int32) ≤ nI t from nI_ge (a := t) (b := 60) (by omega) (by decide)), gd_t (xin_nI (by omega) (by decide)), clN (by omega), nI_1]
      rw [em, bd_eq ea, sub1, e1]
    · rw [L_X6_put_78_s, nI_pred, if_neg (nI_pos (by omega)), gd_t (xin_nI (by omega) (by decide)), ush8 hu (by omega), mask8, lN_i, clN (by omega), nI_1, sub1, e2]
/-- put on both sides -/
theorem put_both {t : Nat} {cs : Nat → Nat} {codes pd : Nat → Int32} (ok : OKP t cs) (h1 : PadIs t cs codes) (h2 : PadIs t cs pd) (j : Int64) :
    ∃ r t' cs' codes' pd', f_X5_put (nI t) codes j = some (r, nI t', codes') ∧ f_X6_put (nI t) pd j = some (r, nI t', pd') ∧ OKP t' cs' ∧ PadIs t' cs' codes' ∧ PadIs t' cs' pd' := by
  obtain ⟨u, hu, rfl⟩ := wb_of j
  have em := m_chars_loop (K := fun (i5_5 : Int32) (j3_5 : Int64) => if i5_5 = 0 then (some ((-2), nI t, pd)) else (if (nI t + i5_5) ≤ 60 then (L_X6_put_78 (fun (i6_78 : Int32) (v_typed_78 : Int32) (v_pad_78 : Nat → Int32) => some (v_typed_78, v_typed_78, v_pad_78)) (lN u) FU (i5_5 - 1) (nI t) pd) else (some ((-4), nI t, pd)))) (t := nI t) (pd := pd) hu 8 FU 0 (by omega) (by have := FU_big; omega) (fun j hj => absurd hj (Nat.not_lt_zero _))
  rw [Nat.pow_zero, Nat.div_one] at em
  have em' : ∀ x, L_X6_put_5 (fun (i5_5 : Int32) (j3_5 : Int64) => if i5_5 = 0 then (some ((-2), nI t, pd)) else (if (nI t + i5_5) ≤ 60 then (L_X6_put_78 (fun (i6_78 : Int32) (v_typed_78 : Int32) (v_pad_78 : Nat → Int32) => some (v_typed_78, v_typed_78, v_pad_78)) (lN u) FU (i5_5 - 1) (nI t) pd) else (some ((-4), nI t, pd)))) (nI t) pd FU (nI 0) (lN u) = x → f_X6_put (nI t) pd (lN u) = x := fun x h => h
  rcases x_chars hu with ⟨c, hc, ex⟩ | ⟨hno, ex⟩
  · rcases em with ⟨c2, v, hc2, e2⟩ | ⟨hno2, -⟩
    · have hcc := chIs_one hc2 hc
      subst hcc
      have e3 := em' _ e2
      unfold f_X5_put
      rw [bd_eq ex, e3]
      by_cases c0 : c2 = 0
      · subst c0
        refine ⟨-2, t, cs, codes, pd, ?_, ?_, ok, h1, h2⟩
        · rw [if_pos nI_0]
        · rw [if_pos nI_0]
      · have hc8 := hc.1
        have ht := ok.1
        rw [if_neg (nI_ne0 (by omega) (by omega)), if_neg (nI_ne0 (by omega) (by omega)), nI_add]
        by_cases h60 : t + c2 ≤ 60
        · rw [if_pos (show nI (t + c2) ≤ (60 : Int32) from nI_le (b := 60) h60 (by decide)), if_pos (show nI (t + c2) ≤ (60 : Int32) from nI_le (b := 60) h60 (by decide))]
          obtain ⟨i1, i2, cs', codes', pd', e5, e6, h6, h7, h8⟩ := put_loops hu (K1 := fun (i4_34 : Int32) (v_pad_length_34 : Int32) (v_pad_codes_34 : Nat → Int32) => some (v_pad_length_34, v_pad_length_34, v_pad_codes_34)) (K2 := fun (i6_78 : Int32) (v_typed_78 : Int32) (v_pad_78 : Nat → Int32) => some (v_typed_78, v_typed_78, v_pad_78)) c2 FU FU t cs codes pd hc.1 h60 (by have := FU_big; omega) (by have := FU_big; omega) hc.2.1 ok h1 h2
          exact ⟨nI (t + c2), t + c2, cs', codes', pd', e5, e6, h6, h7, h8⟩
        · rw [if_neg (show ¬ nI (t + c2) ≤ (60 : Int32) from nI_ge (a := 60) (b := t + c2) (by omega) (by omega)), if_neg (show ¬ nI (t + c2) ≤ (60 : Int32) from nI_ge (a := 60) (b := t + c2) (by omega) (by omega))]
          exact ⟨-4, t, cs, codes, pd, rfl, rfl, ok, h1, h2⟩
    · exact absurd hc (hno2 c)
  · rcases em with ⟨c2, v, hc2, -⟩ | ⟨-, e2⟩
    · exact absurd hc2 (hno c2)
    · refine ⟨-2, t, cs, codes, pd, ?_, em' _ e2, ok, h1, h2⟩
      unfold f_X5_put
      rw [bd_eq ex, if_pos rfl]
