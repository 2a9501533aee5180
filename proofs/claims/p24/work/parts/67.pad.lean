/-! the pad: characters put, words and entries read -/
theorem lN_0 {x : Nat} (h : x < 2 ^ 64) : lN x = 0 ↔ x = 0 := by
  constructor
  · intro q
    have h1 := congrArg (fun y : Int64 => y.toBitVec.toNat) q
    simp only [wb_tn h] at h1
    exact h1
  · intro q; rw [q]; rfl
theorem ush8 {u i : Nat} (hu : u < 2 ^ 64) (hi : i < 8) : ushrL (lN u) ((8 : Int32) * nI i) = lN (u / 256 ^ i) := by
  have e : (8 : Int32) * nI i = nI (8 * i) := pk_mul 8 i
  rw [e]
  have e2 : ushrL (lN u) (nI (8 * i)) = lN (u / 2 ^ (8 * i)) := wb_shr hu (by omega)
  rw [e2, Nat.pow_mul]
theorem ush1 {v : Nat} (hv : v < 2 ^ 64) : ushrL (lN v) 8 = lN (v / 256) := by
  have e2 : ushrL (lN v) (nI 8) = lN (v / 2 ^ 8) := wb_shr hv (by omega)
  exact e2
theorem mask8 (v : Nat) : lN v &&& (255 : Int64) = lN (v % 256) := fb_maskL v 8
/-- how many characters a number has: 0 if it can't be put -/
def chOK (u i : Nat) : Prop := ∀ j, j < i → u / 256 ^ j ≠ 0 ∧ 33 ≤ u / 256 ^ j % 256 ∧ u / 256 ^ j % 256 ≤ 126
def chIs (u c : Nat) : Prop := c ≤ 8 ∧ chOK u c ∧ u / 256 ^ c = 0
theorem pow_div {u i : Nat} : u / 256 ^ i / 256 = u / 256 ^ (i + 1) := by rw [Nat.div_div_eq_div_mul, ← Nat.pow_succ]
theorem x_chars_loop {u : Nat} (hu : u < 2 ^ 64) : ∀ (d n i : Nat), i + d = 8 → d < n → chOK u i →
    (∃ c, chIs u c ∧ L_X5_charactersIn_2 (fun _ => some 8) (lN u) n (nI i) = some (nI c)) ∨ ((∀ c, ¬ chIs u c) ∧ L_X5_charactersIn_2 (fun _ => some 8) (lN u) n (nI i) = some 0)
  | 0, 0, _, _, h, _ => absurd h (by omega)
  | 0, n + 1, i, hi, _, h => by
    left
    have e : i = 8 := by omega
    subst e
    refine ⟨8, ⟨Nat.le_refl _, h, Nat.div_eq_of_lt (by omega)⟩, ?_⟩
    rw [L_X5_charactersIn_2_s, if_pos (by decide)]
    rfl
  | d + 1, 0, _, _, h, _ => absurd h (by omega)
  | d + 1, n + 1, i, hi, hn, h => by
    have hle : u / 256 ^ i ≤ u := Nat.div_le_self _ _
    rw [L_X5_charactersIn_2_s, if_neg (show ¬ (8 : Int32) ≤ nI i from nI_ge (a := i) (b := 8) (by omega) (by decide)), ush8 hu (by omega), mask8]
    by_cases q0 : u / 256 ^ i = 0
    · rw [if_pos (by rw [q0]; rfl)]
      exact Or.inl ⟨i, ⟨by omega, h, q0⟩, rfl⟩
    · rw [if_neg (by rw [lN_0 (by omega)]; exact q0)]
      by_cases q1 : u / 256 ^ i % 256 < 33
      · rw [if_pos (show lN (u / 256 ^ i % 256) < (33 : Int64) from (lN_lt (b := 33) (by omega) (by decide)).mpr q1)]
        right
        refine ⟨fun c hc => ?_, rfl⟩
        by_cases hic : i < c
        · have := hc.2.1 i hic; omega
        · have hci : c ≤ i := by omega
          have : u / 256 ^ i = 0 := by
            have e : 256 ^ i = 256 ^ c * 256 ^ (i - c) := by rw [← Nat.pow_add]; congr 1; omega
            rw [e, ← Nat.div_div_eq_div_mul, hc.2.2, Nat.zero_div]
          exact q0 this
      · rw [if_neg (show ¬ lN (u / 256 ^ i % 256) < (33 : Int64) from fun c => q1 ((lN_lt (b := 33) (by omega) (by decide)).mp c))]
        by_cases q2 : u / 256 ^ i % 256 ≤ 126
        · rw [if_pos (show lN (u / 256 ^ i % 256) ≤ (126 : Int64) from (lN_le (b := 126) (by omega) (by decide)).mpr q2), nI_1]
          refine x_chars_loop hu d n (i + 1) (by omega) (by omega) (fun j hj => ?_)
          by_cases c : j = i
          · rw [c]; exact ⟨q0, by omega, q2⟩
          · exact h j (by omega)
        · rw [if_neg (show ¬ lN (u / 256 ^ i % 256) ≤ (126 : Int64) from fun c => q2 ((lN_le (b := 126) (by omega) (by decide)).mp c))]
          right
          refine ⟨fun c hc => ?_, rfl⟩
          by_cases hic : i < c
          · have := hc.2.1 i hic; omega
          · have : u / 256 ^ i = 0 := by
              have e : 256 ^ i = 256 ^ c * 256 ^ (i - c) := by rw [← Nat.pow_add]; congr 1; omega
              rw [e, ← Nat.div_div_eq_div_mul, hc.2.2, Nat.zero_div]
            exact q0 this
theorem x_chars {u : Nat} (hu : u < 2 ^ 64) : (∃ c, chIs u c ∧ f_X5_charactersIn (lN u) = some (nI c)) ∨ ((∀ c, ¬ chIs u c) ∧ f_X5_charactersIn (lN u) = some 0) :=
  x_chars_loop hu 8 FU 0 (by omega) (by have := FU_big; omega) (fun j hj => absurd hj (Nat.not_lt_zero _))
theorem chIs_one {u a b : Nat} (ha : chIs u a) (hb : chIs u b) : a = b := by
  rcases Nat.lt_trichotomy a b with q | q | q
  · exact absurd ha.2.2 (hb.2.1 a q).1
  · exact q
  · exact absurd hb.2.2 (ha.2.1 b q).1
theorem sub1 (x : Int32) : x + (-1) = x - 1 := by rw [Int32.sub_eq_add_neg]
def chU (u : Nat) : Nat → List Nat
  | 0 => []
  | a + 1 => (u / 256 ^ a % 256) :: chU u a
theorem chU_len (u : Nat) : ∀ a, (chU u a).length = a
  | 0 => rfl
  | a + 1 => by rw [chU, List.length_cons, chU_len u a]
theorem XPad_put {q : List Nat} {codes : Nat → Int32} {x : Nat} (h : XPad q (nI q.length) codes) (hx : 33 ≤ x ∧ x ≤ 126) (hq : q.length < 60) : XPad (q ++ [x]) (nI (q ++ [x]).length) (upd codes q.length (nI x)) := by
  obtain ⟨ok, -, hc⟩ := h
  have hlen : (q ++ [x]).length = q.length + 1 := by rw [List.length_append, List.length_singleton]
  refine ⟨⟨by omega, fun y hy => ?_⟩, rfl, fun i hi => ?_⟩
  · rcases List.mem_append.mp hy with c | c
    · exact ok.2 y c
    · rw [List.mem_singleton.mp c]; exact hx
  · by_cases c : i = q.length
    · subst c
      rw [pk_us, List.getElem_append_right (Nat.le_refl _)]
      simp
    · rw [pk_un c, List.getElem_append_left (by omega)]
      exact hc i (by omega)
theorem put_loop {u : Nat} (hu : u < 2 ^ 64) {K1 : Int32 → Int32 → (Nat → Int32) → Option (Int32 × Int32 × (Nat → Int32))} : ∀ (a n1 : Nat) (q : List Nat) (codes : Nat → Int32), a ≤ 8 → q.length + a ≤ 60 → a < n1 → chOK u a → XPad q (nI q.length) codes →
    ∃ i1 codes', L_X5_put_34 K1 (lN u) n1 (nI a - 1) (nI q.length) codes = K1 i1 (nI (q.length + a)) codes' ∧ XPad (q ++ chU u a) (nI (q.length + a)) codes'
  | _, 0, _, _, _, _, h, _, _ => absurd h (by omega)
  | 0, n1 + 1, q, codes, _, _, _, _, h1 => by
    refine ⟨nI 0 - 1, codes, ?_, ?_⟩
    · rw [L_X5_put_34_s, if_pos (by decide)]; rfl
    · rw [chU, List.append_nil]; exact h1
  | a + 1, n1 + 1, q, codes, ha, hta, hn1, hch, h1 => by
    have hb := hch a (by omega)
    have nx := XPad_put h1 hb.2 (by omega)
    have hlen : (q ++ [u / 256 ^ a % 256]).length = q.length + 1 := by rw [List.length_append, List.length_singleton]
    obtain ⟨i1, codes', e1, h3⟩ := put_loop hu (K1 := K1) a n1 (q ++ [u / 256 ^ a % 256]) _ (by omega) (by omega) (by omega) (fun j hj => hch j (by omega)) nx
    rw [hlen, show q.length + 1 + a = q.length + (a + 1) by omega] at e1 h3
    rw [List.append_assoc, List.singleton_append] at h3
    refine ⟨i1, codes', ?_, h3⟩
    rw [L_X5_put_34_s, nI_pred, if_neg (nI_pos (by omega)), ush8 hu (by omega), lN_i]
    have em : nI (u / 256 ^ a) &&& (255 : Int32) = nI (u / 256 ^ a % 256) := fa_mask _ 8
    have ea : f_X2_append (nI q.length) codes (nI (u / 256 ^ a % 256)) = some (nI (q.length + 1), upd codes q.length (nI (u / 256 ^ a % 256))) := by
      unfold f_X2_append
      rw [if_neg (show ¬ (60 : Int32) ≤ nI q.length from nI_ge (a := q.length) (b := 60) (by omega) (by decide)), gd_t (xin_nI (by omega) (by decide)), clN (by omega), nI_1]
    rw [em, bd_eq ea, sub1, e1]
theorem x_put {q : List Nat} {t : Int32} {codes : Nat → Int32} (hp : XPad q t codes) {u c : Nat} (hu : u < 2 ^ 64) (hc : chIs u c) (hc0 : 1 ≤ c) (h60 : q.length + c ≤ 60) :
    ∃ codes', f_X5_put t codes (lN u) = some (nI (q.length + c), nI (q.length + c), codes') ∧ XPad (q ++ chU u c) (nI (q.length + c)) codes' := by
  have hF := FU_big
  obtain ⟨ok, rfl, hcd⟩ := id hp
  have hc8 := hc.1
  rcases x_chars hu with ⟨c2, hc2, e⟩ | ⟨hno, -⟩
  · have := chIs_one hc2 hc
    subst this
    obtain ⟨i1, codes', e1, h3⟩ := put_loop hu (K1 := fun (i4_34 : Int32) (v_pad_length_34 : Int32) (v_pad_codes_34 : Nat → Int32) => some (v_pad_length_34, v_pad_length_34, v_pad_codes_34)) c2 FU q codes hc.1 h60 (by omega) hc.2.1 hp
    refine ⟨codes', ?_, h3⟩
    unfold f_X5_put
    rw [bd_eq e, if_neg (nI_ne0 (by omega) (by omega)), nI_add, if_pos (show nI (q.length + c2) ≤ (60 : Int32) from nI_le (b := 60) h60 (by decide))]
    exact e1
  · exact absurd hc (hno c)
theorem chIs_1 {x : Nat} (hx : 33 ≤ x ∧ x ≤ 126) : chIs x 1 := by
  refine ⟨by omega, fun j hj => ?_, Nat.div_eq_of_lt (by omega)⟩
  rw [show j = 0 by omega, Nat.pow_zero, Nat.div_one]
  omega
theorem chU_1 {x : Nat} (hx : x ≤ 126) : chU x 1 = [x] := by
  show [x / 256 ^ 0 % 256] = _
  rw [Nat.pow_zero, Nat.div_one, Nat.mod_eq_of_lt (by omega)]
theorem chIs_3 : chIs 6371893 3 := by
  refine ⟨by omega, fun j hj => ?_, by decide⟩
  rcases (show j = 0 ∨ j = 1 ∨ j = 2 by omega) with rfl | rfl | rfl <;> decide
theorem chU_3 : chU 6371893 3 = [97, 58, 53] := by decide
/-! ===== letters, digits ===== -/
theorem x_isLetter {c : Nat} (h : c < 2 ^ 31) : f_X2_isLetter (nI c) = if 97 ≤ c ∧ c ≤ 122 then 1 else 0 := by
  unfold f_X2_isLetter
  by_cases a : c < 97
  · rw [if_pos (show nI c < (97 : Int32) from nI_lt (b := 97) a (by decide)), if_neg (by omega)]
  · rw [if_neg (show ¬ nI c < (97 : Int32) from nI_nlt (a := c) (b := 97) (by omega) h)]
    by_cases b : 122 < c
    · rw [if_pos (show (122 : Int32) < nI c from nI_lt (a := 122) b h), if_neg (by omega)]
    · rw [if_neg (show ¬ (122 : Int32) < nI c from nI_nlt (a := 122) (b := c) (by omega) (by decide)), if_pos (by omega)]
theorem x_isDigit {c : Nat} (h : c < 2 ^ 31) : f_X2_isDigit (nI c) = if 48 ≤ c ∧ c ≤ 57 then 1 else 0 := by
  unfold f_X2_isDigit
  by_cases a : c < 48
  · rw [if_pos (show nI c < (48 : Int32) from nI_lt (b := 48) a (by decide)), if_neg (by omega)]
  · rw [if_neg (show ¬ nI c < (48 : Int32) from nI_nlt (a := c) (b := 48) (by omega) h)]
    by_cases b : 57 < c
    · rw [if_pos (show (57 : Int32) < nI c from nI_lt (a := 57) b h), if_neg (by omega)]
    · rw [if_neg (show ¬ (57 : Int32) < nI c from nI_nlt (a := 57) (b := c) (by omega) (by decide)), if_pos (by omega)]
/-! ===== the pad as a word ===== -/
def isW (q : List Nat) : Prop := 1 ≤ q.length ∧ q.length ≤ 7 ∧ ∀ x ∈ q, 97 ≤ x ∧ x ≤ 122
def wOf (q : List Nat) : List Nat := q.map (fun x => x - 96)
theorem wOf_ok {q : List Nat} (h : isW q) : wOK (wOf q) ∧ 1 ≤ (wOf q).length := by
  unfold wOf
  refine ⟨⟨by rw [List.length_map]; exact h.2.1, fun x hx => ?_⟩, by rw [List.length_map]; exact h.1⟩
  obtain ⟨y, hy, rfl⟩ := List.mem_map.mp hx
  have := h.2.2 y hy
  omega
theorem x_isWord_loop {q : List Nat} {codes : Nat → Int32} (h : XPad q (nI q.length) codes) : ∀ (d f i : Nat), i + d = q.length → d < f →
    ((∀ j (hj : j < q.length), i ≤ j → 97 ≤ q[j] ∧ q[j] ≤ 122) ∧ L_X2_isWord_21 (fun _ => some 1) (nI q.length) codes f (nI i) = some 1) ∨ ((∃ j, ∃ hj : j < q.length, i ≤ j ∧ ¬ (97 ≤ q[j] ∧ q[j] ≤ 122)) ∧ L_X2_isWord_21 (fun _ => some 1) (nI q.length) codes f (nI i) = some 0)
  | _, 0, _, _, hf => absurd hf (by omega)
  | 0, f + 1, i, hi, _ => by
    have hn := h.1.1
    left
    refine ⟨fun j hj a => by omega, ?_⟩
    rw [L_X2_isWord_21_s, if_pos (nI_le (by omega) (by omega))]
  | d + 1, f + 1, i, hi, hf => by
    have hn := h.1.1
    have hil : i < q.length := by omega
    have hc := h.1.2 q[i] (List.getElem_mem hil)
    rw [L_X2_isWord_21_s, if_neg (nI_ge (by omega) (by omega)), gd_t (xin_nI (by omega) (by decide)), clN (by omega), h.2.2 i hil, x_isLetter (by omega), nI_1]
    by_cases c : 97 ≤ q[i] ∧ q[i] ≤ 122
    · rw [if_pos c, if_neg (by decide)]
      rcases x_isWord_loop h d f (i + 1) (by omega) (by omega) with ⟨a, b⟩ | ⟨⟨j, hj, a, c2⟩, e⟩
      · left
        refine ⟨fun j hj h1 => ?_, b⟩
        by_cases e : j = i
        · subst e; exact c
        · exact a j hj (by omega)
      · exact Or.inr ⟨⟨j, hj, by omega, c2⟩, e⟩
    · rw [if_neg c, if_pos rfl]
      exact Or.inr ⟨⟨i, hil, Nat.le_refl _, c⟩, rfl⟩
theorem x_isWord {q : List Nat} {t : Int32} {codes : Nat → Int32} (h : XPad q t codes) : (isW q ∧ f_X2_isWord t codes = some 1) ∨ (¬ isW q ∧ f_X2_isWord t codes = some 0) := by
  have hF := FU_big
  obtain ⟨ok, rfl, hc⟩ := id h
  have hn := ok.1
  unfold f_X2_isWord
  by_cases q0 : q.length < 1
  · right
    refine ⟨fun c => by have := c.1; omega, ?_⟩
    rw [if_pos (show nI q.length < (1 : Int32) from nI_lt (b := 1) q0 (by decide))]
  · rw [if_neg (show ¬ nI q.length < (1 : Int32) from nI_nlt (a := q.length) (b := 1) (by omega) (by omega))]
    by_cases q7 : q.length ≤ 7
    · rw [if_pos (show nI q.length ≤ (7 : Int32) from nI_le (b := 7) q7 (by decide))]
      rcases x_isWord_loop h q.length FU 0 (by omega) (by omega) with ⟨a, b⟩ | ⟨⟨j, hj, -, c⟩, e⟩
      · left
        refine ⟨⟨by omega, q7, fun x hx => ?_⟩, b⟩
        obtain ⟨j, hj, rfl⟩ := List.mem_iff_getElem.mp hx
        exact a j hj (Nat.zero_le _)
      · right
        exact ⟨fun c2 => c (c2.2.2 _ (List.getElem_mem hj)), e⟩
    · rw [if_neg (show ¬ nI q.length ≤ (7 : Int32) from nI_ge (a := 7) (b := q.length) (by omega) (by omega))]
      right
      exact ⟨fun c => by have := c.2.1; omega, rfl⟩
theorem wOf_take {q : List Nat} (i : Nat) (hi : i < q.length) : (wOf (q.take i)) ++ [q[i] - 96] = wOf (q.take (i + 1)) := by
  unfold wOf
  rw [List.take_succ_eq_append_getElem hi, List.map_append]
  rfl
theorem x_word_loop {q : List Nat} {codes : Nat → Int32} (h : XPad q (nI q.length) codes) (hw : isW q) : ∀ (d f i : Nat), i + d = q.length → d < f →
    L_X2_word_4 (fun _ j => some j) (nI q.length) codes f (nI i) (lN (pk (wOf (q.take i)))) = some (lN (pk (wOf q)))
  | _, 0, _, _, hf => absurd hf (by omega)
  | 0, f + 1, i, hi, _ => by
    have h7 := hw.2.1
    rw [L_X2_word_4_s, if_pos (nI_le (by omega) (by omega)), List.take_of_length_le (by omega)]
  | d + 1, f + 1, i, hi, hf => by
    have h7 := hw.2.1
    have hil : i < q.length := by omega
    have hc := hw.2.2 q[i] (List.getElem_mem hil)
    have hok : wOK (wOf (q.take i)) := by
      unfold wOf
      refine ⟨by rw [List.length_map, List.length_take]; omega, fun x hx => ?_⟩
      obtain ⟨y, hy, rfl⟩ := List.mem_map.mp hx
      have := hw.2.2 y (List.mem_of_mem_take hy)
      omega
    rw [L_X2_word_4_s, if_neg (nI_ge (by omega) (by omega)), gd_t (xin_nI (by omega) (by decide)), clN (by omega), h.2.2 i hil, nI_1]
    have e1 : nI q[i] = nI (96 + (q[i] - 96)) := by congr 1; omega
    rw [e1, x_longer hok (by unfold wOf; rw [List.length_map, List.length_take]; omega) (by omega), wOf_take i hil]
    exact x_word_loop h hw d f (i + 1) (by omega) (by omega)
theorem x_word {q : List Nat} {t : Int32} {codes : Nat → Int32} (h : XPad q t codes) (hw : isW q) : f_X2_word t codes = some (lN (pk (wOf q))) := by
  have hF := FU_big
  have h7 := hw.2.1
  obtain ⟨ok, rfl, hc⟩ := id h
  exact x_word_loop h hw q.length FU 0 (by omega) (by omega)
/-! ===== the pad as one entry ===== -/
def pbN (p c : Nat) : Nat :=
  if p < 7 ∧ 97 ≤ c ∧ c ≤ 122 then p + 1 else if 0 < p ∧ p ≤ 7 ∧ c = 58 then 8 else if 9 ≤ p ∧ c = 44 then 0
  else if 48 ≤ c ∧ c ≤ 57 then (if p = 8 ∧ c ≠ 48 then (if c = 52 then 10 else if c < 52 then 9 else 11) else if p = 9 ∨ (p = 10 ∧ c = 48) then 11 else 12) else 12
theorem pb_all : ∀ p, p < 13 → ∀ c, c < 127 → f_X2_placeBehind (nI p) (nI c) = nI (pbN p c) := by decide +kernel
theorem pbN_le {p c : Nat} (hp : p ≤ 12) : pbN p c ≤ 12 := by
  unfold pbN
  repeat' split
  all_goals omega
/-- no fault from place p on, over what is left -/
def okF : Nat → List Nat → Prop
  | p, [] => 9 ≤ p
  | p, c :: t => pbN p c ≠ 12 ∧ okF (pbN p c) t
theorem ff_loop {q : List Nat} {codes : Nat → Int32} (h : XPad q (nI q.length) codes) : ∀ (d f i p : Nat), i + d = q.length → d < f → p ≤ 12 → okF p (q.drop i) →
    L_X2_firstFault_4 (fun (i2_4 : Int32) (i1_4 : Int32) => if i1_4 < 9 then (some (nI q.length)) else (some (-6))) (nI q.length) codes f (nI i) (nI p) = some (-6)
  | _, 0, _, _, _, hf, _, _ => absurd hf (by omega)
  | 0, f + 1, i, p, hi, _, hp, ho => by
    have hn := h.1.1
    rw [List.drop_of_length_le (by omega)] at ho
    have ho : 9 ≤ p := ho
    rw [L_X2_firstFault_4_s, if_pos (nI_le (by omega) (by omega)), if_neg (show ¬ nI p < (9 : Int32) from nI_nlt (a := p) (b := 9) ho (by omega))]
  | d + 1, f + 1, i, p, hi, hf, hp, ho => by
    have hn := h.1.1
    have hil : i < q.length := by omega
    have hc := h.1.2 q[i] (List.getElem_mem hil)
    rw [List.drop_eq_getElem_cons hil] at ho
    obtain ⟨o1, o2⟩ := ho
    have hb := pbN_le (c := q[i]) hp
    rw [L_X2_firstFault_4_s, if_neg (nI_ge (by omega) (by omega)), gd_t (xin_nI (by omega) (by decide)), clN (by omega), h.2.2 i hil, pb_all p (by omega) q[i] (by omega), if_neg (show ¬ nI (pbN p q[i]) = (12 : Int32) from fun c => o1 ((nI_eq (b := 12) (by omega) (by decide)).mp c)), nI_1]
    exact ff_loop h d f (i + 1) _ (by omega) (by omega) hb o2
theorem x_nofault {q : List Nat} {t : Int32} {codes : Nat → Int32} (h : XPad q t codes) (ho : okF 0 q) : f_X2_firstFault t codes = some (-6) := by
  have hF := FU_big
  obtain ⟨ok, rfl, hc⟩ := id h
  have hn := ok.1
  exact ff_loop h q.length FU 0 0 (by omega) (by omega) (by omega) ho
theorem x_fault0 {t : Int32} {codes : Nat → Int32} (h : XPad [] t codes) : f_X2_firstFault t codes = some 0 := by
  obtain ⟨ok, rfl, hc⟩ := id h
  unfold f_X2_firstFault
  rw [FU_s 1 (by decide), L_X2_firstFault_4_s, if_pos (by decide), if_pos (by decide)]
  rfl
def digs (g : Nat) : List Nat := if g < 10 then [48 + g] else [48 + g / 10, 48 + g % 10]
def encE (w : List Nat) (g : Nat) : List Nat := w.map (fun x => 96 + x) ++ 58 :: digs g
theorem okF_word : ∀ (w : List Nat) (p : Nat) (rest : List Nat), (∀ x ∈ w, 1 ≤ x ∧ x ≤ 26) → p + w.length ≤ 7 → okF (p + w.length) rest → okF p (w.map (fun x => 96 + x) ++ rest)
  | [], p, rest, _, _, h => h
  | x :: w, p, rest, hx, hl, h => by
    have h1 := hx x List.mem_cons_self
    have hl' : p + (w.length + 1) ≤ 7 := hl
    have e : pbN p (96 + x) = p + 1 := by unfold pbN; rw [if_pos (by omega)]
    show pbN p (96 + x) ≠ 12 ∧ okF (pbN p (96 + x)) _
    rw [e]
    refine ⟨by omega, okF_word w (p + 1) rest (fun y hy => hx y (List.mem_cons_of_mem _ hy)) (by omega) ?_⟩
    rw [show p + 1 + w.length = p + (w.length + 1) by omega]
    exact h
theorem okF_d1 : ∀ g, g < 10 → ∀ p, p < 8 → (g = 0 ∨ p = 0 ∨ (pbN p 58 ≠ 12 ∧ pbN (pbN p 58) (48 + g) ≠ 12 ∧ 9 ≤ pbN (pbN p 58) (48 + g))) := by decide +kernel
theorem okF_d2 : ∀ g, g < 41 → ∀ p, p < 8 → (g < 10 ∨ p = 0 ∨ (pbN p 58 ≠ 12 ∧ pbN (pbN p 58) (48 + g / 10) ≠ 12 ∧ pbN (pbN (pbN p 58) (48 + g / 10)) (48 + g % 10) ≠ 12 ∧ 9 ≤ pbN (pbN (pbN p 58) (48 + g / 10)) (48 + g % 10))) := by decide +kernel
theorem okF_enc {w : List Nat} (hw : wOK w) (h1 : 1 ≤ w.length) {g : Nat} (hg : 1 ≤ g ∧ g ≤ 40) : okF 0 (encE w g) := by
  unfold encE
  refine okF_word w 0 _ hw.2 (by have := hw.1; omega) ?_
  rw [Nat.zero_add]
  have h7 := hw.1
  unfold digs
  by_cases c : g < 10
  · rw [if_pos c]
    have h := ((okF_d1 g c w.length (by omega)).resolve_left (by omega)).resolve_left (by omega)
    exact ⟨h.1, h.2.1, h.2.2⟩
  · rw [if_neg c]
    have h := ((okF_d2 g (by omega) w.length (by omega)).resolve_left (by omega)).resolve_left (by omega)
    exact ⟨h.1, h.2.1, h.2.2.1, h.2.2.2⟩
/-- adding what is read: letters, a colon, digits -/
theorem add_letters {K : Int32 → Int32 → Int64 → Int32 → (Nat → Int32) → (Nat → Int64) → Option (Int32 × Int32 × (Nat → Int32) × (Nat → Int64))} {q : List Nat} {codes : Nat → Int32} (h : XPad q (nI q.length) codes) {n : Int32} {ln : Nat → Int32} {wd : Nat → Int64} : ∀ (w2 w1 : List Nat) (f i : Nat), w2.length < f → i = w1.length → wOK (w1 ++ w2) → (∃ r, q.drop i = w2.map (fun x => 96 + x) ++ r) → ∃ f', f' + w2.length = f ∧
    L_X2_addEntriesTo_8 K (nI q.length) codes f (nI i) 0 (lN (pk w1)) n ln wd = L_X2_addEntriesTo_8 K (nI q.length) codes f' (nI (i + w2.length)) 0 (lN (pk (w1 ++ w2))) n ln wd
  | [], w1, f, i, _, _, _, _ => ⟨f, rfl, by rw [List.append_nil]; rfl⟩
  | _ :: _, _, 0, _, h, _, _, _ => absurd h (by omega)
  | x :: w2, w1, f + 1, i, hf, hi, hok, ⟨r, hr⟩ => by
    have hn := h.1.1
    have hil : i < q.length := by
      rcases Nat.lt_or_ge i q.length with c | c
      · exact c
      · rw [List.drop_of_length_le c] at hr
        simp at hr
    rw [List.drop_eq_getElem_cons hil, List.map_cons, List.cons_append] at hr
    obtain ⟨r1, r2⟩ := List.cons.inj hr
    have hx := hok.2 x (List.mem_append.mpr (Or.inr List.mem_cons_self))
    have hl := hok.1
    rw [List.length_append, List.length_cons] at hl
    have hok1 : wOK w1 := ⟨by omega, fun y hy => hok.2 y (List.mem_append.mpr (Or.inl hy))⟩
    have hf2 : w2.length < f := by rw [List.length_cons] at hf; omega
    obtain ⟨f', e1, e2⟩ := add_letters (K := K) h (n := n) (ln := ln) (wd := wd) w2 (w1 ++ [x]) f (i + 1) hf2 (by rw [List.length_append, List.length_singleton, hi]) (by rw [List.append_assoc]; exact hok) ⟨r, r2⟩
    refine ⟨f', by rw [List.length_cons]; omega, ?_⟩
    rw [L_X2_addEntriesTo_8_s, if_neg (nI_ge (by omega) (by omega)), gd_t (xin_nI (by omega) (by decide)), clN (by omega), h.2.2 i hil, r1, x_isLetter (by omega), if_pos (show 97 ≤ 96 + x ∧ 96 + x ≤ 122 by omega), if_neg (show ¬ (1 : Int32) = 0 by decide), x_longer hok1 (by omega) hx, nI_1, e2, List.append_assoc, List.singleton_append, List.length_cons, show i + 1 + w2.length = i + (w2.length + 1) by omega]
theorem add_digit {K : Int32 → Int32 → Int64 → Int32 → (Nat → Int32) → (Nat → Int64) → Option (Int32 × Int32 × (Nat → Int32) × (Nat → Int64))} {q : List Nat} {codes : Nat → Int32} (h : XPad q (nI q.length) codes) {n : Int32} {ln : Nat → Int32} {wd : Nat → Int64} {j : Int64} {f i a d : Nat} {r : List Nat} (hr : q.drop i = (48 + d) :: r) (hd : d ≤ 9) (ha : a ≤ 10) :
    L_X2_addEntriesTo_8 K (nI q.length) codes (f + 1) (nI i) (nI a) j n ln wd = L_X2_addEntriesTo_8 K (nI q.length) codes f (nI (i + 1)) (nI (10 * a + d)) j n ln wd ∧ q.drop (i + 1) = r := by
  have hn := h.1.1
  have hil : i < q.length := by
    rcases Nat.lt_or_ge i q.length with c | c
    · exact c
    · rw [List.drop_of_length_le c] at hr
      simp at hr
  rw [List.drop_eq_getElem_cons hil] at hr
  obtain ⟨r1, r2⟩ := List.cons.inj hr
  refine ⟨?_, r2⟩
  have e10 : (10 : Int32) * nI a = nI (10 * a) := pk_mul 10 a
  have e48 : nI (10 * a + (48 + d)) - (48 : Int32) = nI (10 * a + d) := by
    have := pk_sub (a := 10 * a + (48 + d)) (b := 48) (by omega)
    rw [show 10 * a + (48 + d) - 48 = 10 * a + d by omega] at this
    exact this
  rw [L_X2_addEntriesTo_8_s, if_neg (nI_ge (by omega) (by omega)), gd_t (xin_nI (by omega) (by decide)), clN (by omega), h.2.2 i hil, r1, x_isLetter (by omega), if_neg (show ¬ (97 ≤ 48 + d ∧ 48 + d ≤ 122) by omega), if_pos rfl, x_isDigit (by omega), if_pos (show 48 ≤ 48 + d ∧ 48 + d ≤ 57 by omega), if_neg (show ¬ (1 : Int32) = 0 by decide), e10, nI_add, e48, nI_1]
theorem x_addE {q : List Nat} {t : Int32} {codes : Nat → Int32} (h : XPad q t codes) {w : List Nat} (hw : wOK w) {g : Nat} (hg : 1 ≤ g ∧ g ≤ 40) (hq : q = encE w g) (n : Int32) (ln : Nat → Int32) (wd : Nat → Int64) :
    f_X2_addEntriesTo t codes n ln wd = Option.bind (f_X1_tell n ln wd (lN (pk w)) (nI g)) (fun (r_102 : Int32 × Int32 × (Nat → Int32) × (Nat → Int64)) => gd (isb r_102.1) (some (r_102.1, r_102.2.1, r_102.2.2.1, r_102.2.2.2))) := by
  have hF := FU_big
  obtain ⟨ok, rfl, hc⟩ := id h
  have hn := ok.1
  have h7 := hw.1
  unfold f_X2_addEntriesTo
  generalize hK : (fun (i5_8 : Int32) (i4_8 : Int32) (j2_8 : Int64) (v_x1_entries_8 : Int32) (v_x1_lines_8 : Nat → Int32) (v_x1_words_8 : Nat → Int64) => Option.bind (f_X1_tell v_x1_entries_8 v_x1_lines_8 v_x1_words_8 j2_8 i4_8) (fun (r_102 : Int32 × Int32 × (Nat → Int32) × (Nat → Int64)) => gd (isb r_102.1) (some (r_102.1, r_102.2.1, r_102.2.2.1, r_102.2.2.2)))) = K
  have hd0 : q.drop 0 = w.map (fun x => 96 + x) ++ (58 :: digs g) := by rw [List.drop_zero, hq]; rfl
  obtain ⟨f', e1, e2⟩ := add_letters (K := K) h (n := n) (ln := ln) (wd := wd) w [] FU 0 (by omega) rfl (by rw [List.nil_append]; exact hw) ⟨_, hd0⟩
  rw [List.nil_append, Nat.zero_add] at e2
  refine Eq.trans e2 ?_
  have hd1 : q.drop w.length = 58 :: digs g := by
    have := congrArg (List.drop w.length) hd0
    rw [List.drop_drop, Nat.zero_add, List.drop_left' (by rw [List.length_map])] at this
    exact this
  have hlen : q.length = w.length + (1 + (digs g).length) := by
    rw [hq]
    unfold encE
    rw [List.length_append, List.length_map, List.length_cons]
    omega
  have hil : w.length < q.length := by omega
  rw [List.drop_eq_getElem_cons hil] at hd1
  obtain ⟨r1, r2⟩ := List.cons.inj hd1
  obtain ⟨f2, rfl⟩ : ∃ f2, f' = f2 + 3 + 1 := ⟨f' - 4, by omega⟩
  rw [L_X2_addEntriesTo_8_s, if_neg (nI_ge (by omega) (by omega)), gd_t (xin_nI (by omega) (by decide)), clN (by omega), h.2.2 w.length hil, r1, x_isLetter (by omega), if_neg (show ¬ (97 ≤ 58 ∧ 58 ≤ 122) by omega), if_pos rfl, x_isDigit (by omega), if_neg (show ¬ (48 ≤ 58 ∧ 58 ≤ 57) by omega), if_pos rfl, if_neg (show ¬ nI 58 = (44 : Int32) by decide), nI_1]
  by_cases c : g < 10
  · have ed : digs g = [48 + g] := if_pos c
    rw [ed] at r2 hlen
    obtain ⟨a1, a2⟩ := add_digit (K := K) h (n := n) (ln := ln) (wd := wd) (j := lN (pk w)) (f := f2 + 2) (i := w.length + 1) (a := 0) (d := g) r2 (by omega) (by omega)
    refine Eq.trans a1 ?_
    rw [L_X2_addEntriesTo_8_s, if_pos (nI_le (by rw [hlen]; simp) (by omega)), Nat.mul_zero, Nat.zero_add, ← hK]
  · have ed : digs g = [48 + g / 10, 48 + g % 10] := if_neg c
    rw [ed] at r2 hlen
    obtain ⟨a1, a2⟩ := add_digit (K := K) h (n := n) (ln := ln) (wd := wd) (j := lN (pk w)) (f := f2 + 2) (i := w.length + 1) (a := 0) (d := g / 10) r2 (by omega) (by omega)
    obtain ⟨b1, b2⟩ := add_digit (K := K) h (n := n) (ln := ln) (wd := wd) (j := lN (pk w)) (f := f2 + 1) (i := w.length + 1 + 1) (a := 10 * 0 + g / 10) (d := g % 10) a2 (by omega) (by omega)
    refine Eq.trans a1 (Eq.trans b1 ?_)
    rw [L_X2_addEntriesTo_8_s, if_pos (nI_le (by rw [hlen]; simp) (by omega)), show 10 * (10 * 0 + g / 10) + g % 10 = g by omega, ← hK]
