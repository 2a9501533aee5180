/-! the pad read as a word -/
def run (n : Nat) (cs : Nat → Nat) : Nat → Nat → List Nat
  | 0, _ => []
  | k + 1, s => if s < n ∧ 97 ≤ cs s ∧ cs s ≤ 122 then (cs s - 96) :: run n cs k (s + 1) else []
theorem run_le (n : Nat) (cs : Nat → Nat) : ∀ (k s : Nat), (run n cs k s).length ≤ k
  | 0, _ => Nat.le_refl _
  | k + 1, s => by
    unfold run
    split
    · simp only [List.length_cons]
      have := run_le n cs k (s + 1)
      omega
    · exact Nat.zero_le _
theorem run_ok (n : Nat) (cs : Nat → Nat) : ∀ (k s : Nat), ∀ x ∈ run n cs k s, 1 ≤ x ∧ x ≤ 26
  | 0, _, x, h => by cases h
  | k + 1, s, x, h => by
    unfold run at h
    split at h
    · rename_i q
      rcases List.mem_cons.mp h with e | e
      · rw [e]; omega
      · exact run_ok n cs k (s + 1) x e
    · cases h
theorem run_w (n : Nat) (cs : Nat → Nat) {k : Nat} (hk : k ≤ 7) (s : Nat) : wOK (run n cs k s) := ⟨Nat.le_trans (run_le n cs k s) hk, run_ok n cs k s⟩
theorem run_in (n : Nat) (cs : Nat → Nat) : ∀ (k s : Nat), s ≤ n → s + (run n cs k s).length ≤ n
  | 0, s, h => h
  | k + 1, s, h => by
    unfold run
    split
    · rename_i q
      have := run_in n cs k (s + 1) (by omega)
      simp only [List.length_cons]
      omega
    · exact h
theorem run_all {n : Nat} {cs : Nat → Nat} : ∀ (k s : Nat), s ≤ n → n ≤ s + k → (∀ j, s ≤ j → j < n → 97 ≤ cs j ∧ cs j ≤ 122) → s + (run n cs k s).length = n
  | 0, s, h1, h2, _ => by simp only [run, List.length_nil]; omega
  | k + 1, s, h1, h2, h => by
    unfold run
    by_cases q : s < n
    · rw [if_pos ⟨q, h s (Nat.le_refl _) q⟩]
      have := run_all k (s + 1) (by omega) (by omega) (fun j a b => h j (by omega) b)
      simp only [List.length_cons]
      omega
    · rw [if_neg (fun c => q c.1)]
      simp only [List.length_nil]
      omega
theorem run_not {n : Nat} {cs : Nat → Nat} : ∀ (k s j : Nat), s ≤ j → j < n → ¬ (97 ≤ cs j ∧ cs j ≤ 122) → s + (run n cs k s).length ≤ j
  | 0, s, j, h1, _, _ => h1
  | k + 1, s, j, h1, h2, h => by
    unfold run
    by_cases q : s < n ∧ 97 ≤ cs s ∧ cs s ≤ 122
    · rw [if_pos q]
      have : s ≠ j := fun e => h (by rw [← e]; exact q.2)
      have := run_not k (s + 1) j (by omega) h2 h
      simp only [List.length_cons]
      omega
    · rw [if_neg q]
      exact h1
theorem x_isLetter {c : Nat} (h : c < 2 ^ 31) : f_X2_isLetter (nI c) = if 97 ≤ c ∧ c ≤ 122 then 1 else 0 := by
  unfold f_X2_isLetter
  by_cases a : c < 97
  · rw [if_pos (show nI c < (97 : Int32) from nI_lt (b := 97) a (by decide)), if_neg (by omega)]
  · rw [if_neg (show ¬ nI c < (97 : Int32) from nI_nlt (a := c) (b := 97) (by omega) h)]
    by_cases b : 122 < c
    · rw [if_pos (show (122 : Int32) < nI c from nI_lt (a := 122) b h), if_neg (by omega)]
    · rw [if_neg (show ¬ (122 : Int32) < nI c from nI_nlt (a := 122) (b := c) (by omega) (by decide)), if_pos (by omega)]
theorem x_isDigit {c : Nat} (h : c < 2 ^ 31) : f_X2_isDigit (nI c) = if 48 ≤ c ∧ c ≤ 57 then 1 else 0 := by
  unfold f_X2_isDigit
  by_cases a : c < 48
  · rw [if_pos (show nI c < (48 : Int32) from nI_lt (b := 48) a (by decide)), if_neg (by omega)]
  · rw [if_neg (show ¬ nI c < (48 : Int32) from nI_nlt (a := c) (b := 48) (by omega) h)]
    by_cases b : 57 < c
    · rw [if_pos (show (57 : Int32) < nI c from nI_lt (a := 57) b h), if_neg (by omega)]
    · rw [if_neg (show ¬ (57 : Int32) < nI c from nI_nlt (a := 57) (b := c) (by omega) (by decide)), if_pos (by omega)]
theorem m_sees {n : Nat} {cs : Nat → Nat} (ok : OKP n cs) {pd : Nat → Int32} (h : PadIs n cs pd) {s lo hi : Nat} (hs : s < 2 ^ 31) (hl : lo < 2 ^ 31) (hh : hi < 2 ^ 31) :
    f_X6_sees (nI n) (nI s) pd (nI lo) (nI hi) = some (if s < n ∧ lo ≤ cs s ∧ cs s ≤ hi then 1 else 0) := by
  have hn := ok.1
  unfold f_X6_sees
  by_cases q : s < n
  · have hc := ok.2 s q
    rw [if_neg (nI_ge q (by omega)), gd_t (xin_nI (by omega) (by decide)), clN (by omega), h s q, nI_l (by omega), nI_l hl, nI_l hh, m_in (by omega) hl hh]
    by_cases c : lo ≤ cs s ∧ cs s ≤ hi
    · rw [if_pos c, if_neg (by decide), if_pos ⟨q, c⟩]
    · rw [if_neg c, if_pos rfl, if_neg (fun d => c d.2)]
  · rw [if_pos (nI_le (by omega) hs), if_neg (fun d => q d.1)]
theorem m_word_loop {K : Int32 → Int64 → Int32 → Option (Int64 × Int32)} {n : Nat} {cs : Nat → Nat} (ok : OKP n cs) {pd : Nat → Int32} (h : PadIs n cs pd) : ∀ (k f s : Nat) (w : List Nat), w.length + k = 7 → wOK w → s ≤ n → k < f →
    ∃ i, L_X6_readWord_4 K (nI n) pd f (nI w.length) (lN (b27 w)) (nI s) = K i (lN (b27 (w ++ run n cs k s))) (nI (s + (run n cs k s).length))
  | _, 0, _, _, _, _, _, hf => absurd hf (by omega)
  | 0, f + 1, s, w, hk, hw, hs, _ => by
    refine ⟨nI w.length, ?_⟩
    rw [L_X6_readWord_4_s, if_pos (show (7 : Int32) ≤ nI w.length from nI_le (a := 7) (by omega) (by omega))]
    simp [run]
  | k + 1, f + 1, s, w, hk, hw, hs, hf => by
    have hn := ok.1
    rw [L_X6_readWord_4_s, if_neg (show ¬ (7 : Int32) ≤ nI w.length from nI_ge (a := w.length) (b := 7) (by omega) (by decide)), show (97 : Int32) = nI 97 by rfl, show (122 : Int32) = nI 122 by rfl, bd_eq (m_sees ok h (by omega) (by decide) (by decide))]
    by_cases q : s < n ∧ 97 ≤ cs s ∧ cs s ≤ 122
    · rw [if_pos q, if_neg (by decide), bd_eq (m_unit (by omega)), gd_t (xin_nI (by omega) (by decide)), clN (by omega), h s q.1]
      have e1 : nI (cs s) - nI 97 + 1 = nI (cs s - 96) := by rw [pk_sub q.2.1, nI_1]; congr 1; omega
      have hx : wOK (w ++ [cs s - 96]) := by
        refine ⟨by simp; omega, fun x hx => ?_⟩
        rcases List.mem_append.mp hx with a | a
        · exact hw.2 x a
        · rw [List.mem_singleton.mp a]; omega
      have e2 : lN (b27 w) + lN (27 ^ (6 - w.length)) * lN (cs s - 96) = lN (b27 (w ++ [cs s - 96])) := by
        rw [lN_mul, lN_add]
        unfold b27
        rw [bL_snoc 7 w (cs s - 96) (by omega), Nat.mul_comm, show 7 - 1 - w.length = 6 - w.length by omega]
      rw [e1, nI_l (by omega), e2, nI_1, nI_1]
      obtain ⟨i, e3⟩ := m_word_loop (K := K) ok h k f (s + 1) (w ++ [cs s - 96]) (by simp; omega) hx (by omega) (by omega)
      refine ⟨i, ?_⟩
      rw [List.length_append, List.length_singleton] at e3
      rw [e3]
      have er : run n cs (k + 1) s = (cs s - 96) :: run n cs k (s + 1) := by
        show (if _ then _ else _) = _
        rw [if_pos q]
      rw [er, List.append_assoc, List.singleton_append, List.length_cons, show s + 1 + (run n cs k (s + 1)).length = s + ((run n cs k (s + 1)).length + 1) by omega]
    · rw [if_neg q, if_pos rfl]
      have er : run n cs (k + 1) s = [] := by
        show (if _ then _ else _) = _
        rw [if_neg q]
      refine ⟨nI w.length, ?_⟩
      rw [er, List.append_nil, List.length_nil, Nat.add_zero]
theorem m_readWord {n : Nat} {cs : Nat → Nat} (ok : OKP n cs) {pd : Nat → Int32} (h : PadIs n cs pd) {s : Nat} (hs : s ≤ n) :
    f_X6_readWord (nI n) (nI s) pd = some (lN (b27 (run n cs 7 s)), nI (s + (run n cs 7 s).length)) := by
  obtain ⟨i, e⟩ := m_word_loop (K := fun (i3_4 : Int32) (j1_4 : Int64) (v_spot_4 : Int32) => some (j1_4, v_spot_4)) ok h 7 FU s [] rfl ⟨by simp, fun x hx => by cases hx⟩ hs (by have := FU_big; omega)
  unfold f_X6_readWord
  exact e
theorem x_word_loop {n : Nat} {cs : Nat → Nat} (ok : OKP n cs) (hn7 : n ≤ 7) {codes : Nat → Int32} (h : PadIs n cs codes) (hL : ∀ j, j < n → 97 ≤ cs j ∧ cs j ≤ 122) : ∀ (d f i : Nat) (w : List Nat), i + d = n → w.length = i → wOK w → d < f →
    L_X2_word_4 (fun _ j => some j) (nI n) codes f (nI i) (lN (pk w)) = some (lN (pk (w ++ run n cs d i)))
  | _, 0, _, _, _, _, _, hf => absurd hf (by omega)
  | 0, f + 1, i, w, hi, hwl, hw, _ => by
    rw [L_X2_word_4_s, if_pos (nI_le (by omega) (by omega))]
    simp [run]
  | d + 1, f + 1, i, w, hi, hwl, hw, hf => by
    have hc := hL i (by omega)
    rw [L_X2_word_4_s, if_neg (nI_ge (by omega) (by omega)), gd_t (xin_nI (by omega) (by decide)), clN (by omega), h i (by omega), nI_1]
    have e1 : cs i = 96 + (cs i - 96) := by omega
    rw [e1, x_longer hw (by omega) (by omega)]
    have hx : wOK (w ++ [cs i - 96]) := by
      refine ⟨by simp; omega, fun x hx => ?_⟩
      rcases List.mem_append.mp hx with a | a
      · exact hw.2 x a
      · rw [List.mem_singleton.mp a]; omega
    have er : run n cs (d + 1) i = (cs i - 96) :: run n cs d (i + 1) := by
      show (if _ then _ else _) = _
      rw [if_pos ⟨by omega, hc⟩]
    rw [x_word_loop ok hn7 h hL d f (i + 1) (w ++ [cs i - 96]) (by omega) (by simp; omega) hx (by omega), er, List.append_assoc, List.singleton_append]
theorem x_isWord_loop {n : Nat} {cs : Nat → Nat} (ok : OKP n cs) {codes : Nat → Int32} (h : PadIs n cs codes) : ∀ (d f i : Nat), i + d = n → d < f →
    ((∀ j, i ≤ j → j < n → 97 ≤ cs j ∧ cs j ≤ 122) ∧ L_X2_isWord_21 (fun _ => some 1) (nI n) codes f (nI i) = some 1) ∨ ((∃ j, i ≤ j ∧ j < n ∧ ¬ (97 ≤ cs j ∧ cs j ≤ 122)) ∧ L_X2_isWord_21 (fun _ => some 1) (nI n) codes f (nI i) = some 0)
  | _, 0, _, _, hf => absurd hf (by omega)
  | 0, f + 1, i, hi, _ => by
    have hn := ok.1
    left
    refine ⟨fun j a b => by omega, ?_⟩
    rw [L_X2_isWord_21_s, if_pos (nI_le (by omega) (by omega))]
  | d + 1, f + 1, i, hi, hf => by
    have hn := ok.1
    have hc := ok.2 i (by omega)
    rw [L_X2_isWord_21_s, if_neg (nI_ge (by omega) (by omega)), gd_t (xin_nI (by omega) (by decide)), clN (by omega), h i (by omega), x_isLetter (by omega), nI_1]
    by_cases q : 97 ≤ cs i ∧ cs i ≤ 122
    · rw [if_pos q, if_neg (by decide)]
      rcases x_isWord_loop ok h d f (i + 1) (by omega) (by omega) with ⟨a, b⟩ | ⟨⟨j, a, b, c⟩, e⟩
      · left
        refine ⟨fun j h1 h2 => ?_, b⟩
        by_cases e : j = i
        · rw [e]; exact q
        · exact a j (by omega) h2
      · exact Or.inr ⟨⟨j, by omega, b, c⟩, e⟩
    · rw [if_neg q, if_pos rfl]
      exact Or.inr ⟨⟨i, Nat.le_refl _, by omega, q⟩, rfl⟩
/-- the word of the pad, on both sides -/
theorem pad_word {n : Nat} {cs : Nat → Nat} (ok : OKP n cs) {codes pd : Nat → Int32} (h1 : PadIs n cs codes) (h2 : PadIs n cs pd) :
    (∃ w sp, wOK w ∧ 1 ≤ w.length ∧ f_X2_isWord (nI n) codes = some 1 ∧ f_X2_word (nI n) codes = some (lN (pk w)) ∧ f_X6_padWord (nI n) pd = some (lN (b27 w), sp)) ∨
    (∃ sp, f_X2_isWord (nI n) codes = some 0 ∧ f_X6_padWord (nI n) pd = some (0, sp)) := by
  have hn := ok.1
  have hm := m_readWord ok h2 (Nat.zero_le n)
  have e0 : (0 : Int32) = nI 0 := rfl
  have mp : f_X6_padWord (nI n) pd = if nI (0 + (run n cs 7 0).length) = nI n then some (lN (b27 (run n cs 7 0)), nI (0 + (run n cs 7 0).length)) else some (0, nI (0 + (run n cs 7 0).length)) := by
    unfold f_X6_padWord
    rw [e0, bd_eq hm]
  have hr := run_le n cs 7 0
  unfold f_X2_isWord
  by_cases q0 : n < 1
  · right
    have hn0 : n = 0 := by omega
    subst hn0
    refine ⟨nI 0, ?_, ?_⟩
    · rw [if_pos (by decide)]
    · rw [mp]
      have : run 0 cs 7 0 = [] := by
        show (if _ then _ else _) = _
        rw [if_neg (by omega)]
      rw [this, List.length_nil, Nat.add_zero, if_pos rfl]
      rfl
  · rw [if_neg (show ¬ nI n < (1 : Int32) from nI_nlt (a := n) (b := 1) (by omega) (by omega))]
    by_cases q7 : n ≤ 7
    · rw [if_pos (show nI n ≤ (7 : Int32) from nI_le (b := 7) q7 (by decide))]
      rcases x_isWord_loop ok h1 n FU 0 (by omega) (by have := FU_big; omega) with ⟨a, b⟩ | ⟨⟨j, a, b, c⟩, e⟩
      · left
        have hl := run_all (n := n) (cs := cs) 7 0 (Nat.zero_le _) (by omega) a
        refine ⟨run n cs 7 0, nI (0 + (run n cs 7 0).length), run_w n cs (Nat.le_refl _) 0, by omega, b, ?_, ?_⟩
        · unfold f_X2_word
          have ew := x_word_loop ok q7 h1 (fun j hj => a j (Nat.zero_le _) hj) n FU 0 [] (by omega) rfl ⟨by simp, fun x hx => by cases hx⟩ (by have := FU_big; omega)
          rw [List.nil_append] at ew
          have er : run n cs n 0 = run n cs 7 0 := by
            have gen : ∀ (k k2 s : Nat), s ≤ n → n ≤ s + k → n ≤ s + k2 → run n cs k s = run n cs k2 s := by
              intro k
              induction k with
              | zero =>
                intro k2 s h3 h4 h5
                cases k2 with
                | zero => rfl
                | succ k2 =>
                  show [] = if _ then _ else _
                  rw [if_neg (by omega)]
              | succ k ih =>
                intro k2 s h3 h4 h5
                cases k2 with
                | zero =>
                  show (if _ then _ else _) = []
                  rw [if_neg (by omega)]
                | succ k2 =>
                  show (if _ then _ else _) = if _ then _ else _
                  by_cases c : s < n ∧ 97 ≤ cs s ∧ cs s ≤ 122
                  · rw [if_pos c, if_pos c, ih k2 (s + 1) (by omega) (by omega) (by omega)]
                  · rw [if_neg c, if_neg c]
            exact gen n 7 0 (Nat.zero_le _) (by omega) (by omega)
          rw [← er]
          exact ew
        · rw [mp, if_pos (by rw [hl])]
      · right
        have hl := run_not (n := n) (cs := cs) 7 0 j a b c
        refine ⟨nI (0 + (run n cs 7 0).length), e, ?_⟩
        rw [mp, if_neg]
        intro c2
        have := (nI_eq (by omega) (by omega)).mp c2
        omega
    · rw [if_neg (show ¬ nI n ≤ (7 : Int32) from nI_ge (a := 7) (b := n) (by omega) (by omega))]
      right
      refine ⟨nI (0 + (run n cs 7 0).length), rfl, ?_⟩
      rw [mp, if_neg]
      intro c2
      have := (nI_eq (by omega) (by omega)).mp c2
      omega
