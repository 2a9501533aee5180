/-! the entries of a pad told to a lexicon, on both sides -/
theorem OKE.put1 {N : Nat} {G : Nat → Nat} {W : Nat → List Nat} (ok : OKE N G W) {e g : Nat} (hg : 1 ≤ g ∧ g ≤ 40) : OKE N (put1 e g G) W := by
  refine ⟨ok.1, fun i hi => ?_, ok.2.2⟩
  have := ok.2.1 i hi
  by_cases q : i = e
  · rw [q, put1_eq, ← q]
    exact ⟨hg.1, hg.2, this.2.2⟩
  · rw [put1_ne q]
    exact this
theorem OKE.ins {N : Nat} {G : Nat → Nat} {W : Nat → List Nat} (ok : OKE N G W) (hN : N < 30) {p g : Nat} {w : List Nat} (hp : plOf N W w p) (hno : ∀ e, e < N → W e ≠ w) (hw : wOK w) (h1 : 1 ≤ w.length) (hg : 1 ≤ g ∧ g ≤ 40) : OKE (N + 1) (ins p g G) (ins p w W) := by
  refine ⟨by omega, fun i hi => ?_, fun i j hij hj => ?_⟩
  · rcases Nat.lt_trichotomy i p with q | q | q
    · rw [ins_lt q, ins_lt q]
      exact ok.2.1 i (by have := hp.1; omega)
    · rw [q, ins_eq, ins_eq]
      exact ⟨hg.1, hg.2, hw, h1⟩
    · rw [ins_gt q, ins_gt q]
      exact ok.2.1 (i - 1) (by omega)
  · have hlt : ∀ m, p ≤ m → m < N → b27 w < b27 (W m) := fun m a b => by
      have h2 := hp.2.2 m a b
      have h3 : b27 w ≠ b27 (W m) := fun c => hno m b ((b27_eq_w hw (ok.2.1 m b).2.2.1).mp c).symm
      omega
    have hpN := hp.1
    rcases Nat.lt_trichotomy i p with q | q | q
    · rw [ins_lt q]
      rcases Nat.lt_trichotomy j p with r | r | r
      · rw [ins_lt r]
        exact ok.2.2 i j hij (by omega)
      · rw [r, ins_eq]
        exact hp.2.1 i q
      · rw [ins_gt r]
        exact ok.2.2 i (j - 1) (by omega) (by omega)
    · rw [q, ins_eq, ins_gt (by omega)]
      exact hlt (j - 1) (by omega) (by omega)
    · rw [ins_gt q, ins_gt (by omega)]
      exact ok.2.2 (i - 1) (j - 1) (by omega) (by omega)
theorem OKE.dl {N : Nat} {G : Nat → Nat} {W : Nat → List Nat} (ok : OKE N G W) {e : Nat} (he : e < N) : OKE (N - 1) (dl e G) (dl e W) := by
  refine ⟨by have := ok.1; omega, fun i hi => ?_, fun i j hij hj => ?_⟩
  · by_cases q : i < e
    · rw [dl_lt q, dl_lt q]
      exact ok.2.1 i (by omega)
    · rw [dl_ge (by omega), dl_ge (by omega)]
      exact ok.2.1 (i + 1) (by omega)
  · by_cases q : i < e
    · rw [dl_lt q]
      by_cases r : j < e
      · rw [dl_lt r]
        exact ok.2.2 i j hij (by omega)
      · rw [dl_ge (by omega)]
        exact ok.2.2 i (j + 1) (by omega) (by omega)
    · rw [dl_ge (by omega), dl_ge (by omega)]
      exact ok.2.2 (i + 1) (j + 1) (by omega) (by omega)
theorem x_letN {c : Nat} (h : c < 2 ^ 31) (q : ¬ (97 ≤ c ∧ c ≤ 122)) : f_X2_isLetter (nI c) = 0 := by rw [x_isLetter h, if_neg q]
theorem x_digN {c : Nat} (h : c < 2 ^ 31) (q : ¬ (48 ≤ c ∧ c ≤ 57)) : f_X2_isDigit (nI c) = 0 := by rw [x_isDigit h, if_neg q]
theorem x_digY {c : Nat} (h : c < 2 ^ 31) (q : 48 ≤ c ∧ c ≤ 57) : f_X2_isDigit (nI c) = 1 := by rw [x_isDigit h, if_pos q]
theorem add_letters {K : Int32 → Int32 → Int64 → Int32 → (Nat → Int32) → (Nat → Int64) → Option (Int32 × Int32 × (Nat → Int32) × (Nat → Int64))} {n : Nat} {cs : Nat → Nat} (ok : OKP n cs) {codes : Nat → Int32} (h : PadIs n cs codes) (g : Int32) (E : Int32) (ln : Nat → Int32) (wd : Nat → Int64) : ∀ (k f s : Nat) (w : List Nat), w.length + k = 7 → wOK w → s ≤ n → n - s < f →
    ∃ f', n - (s + (run n cs k s).length) < f' ∧ L_X2_addEntriesTo_8 K (nI n) codes f (nI s) g (lN (pk w)) E ln wd = L_X2_addEntriesTo_8 K (nI n) codes f' (nI (s + (run n cs k s).length)) g (lN (pk (w ++ run n cs k s))) E ln wd
  | 0, f, s, w, hk, hw, hs, hf => by
    refine ⟨f, ?_, ?_⟩
    · simp only [run, List.length_nil]; omega
    · simp only [run, List.length_nil, Nat.add_zero, List.append_nil]
  | k + 1, 0, s, w, hk, hw, hs, hf => absurd hf (by omega)
  | k + 1, f + 1, s, w, hk, hw, hs, hf => by
    have hn := ok.1
    by_cases q : s < n ∧ 97 ≤ cs s ∧ cs s ≤ 122
    · have er : run n cs (k + 1) s = (cs s - 96) :: run n cs k (s + 1) := by
        show (if _ then _ else _) = _
        rw [if_pos q]
      have e1 : cs s = 96 + (cs s - 96) := by omega
      have hx : wOK (w ++ [cs s - 96]) := by
        refine ⟨by simp; omega, fun x hx => ?_⟩
        rcases List.mem_append.mp hx with a | a
        · exact hw.2 x a
        · rw [List.mem_singleton.mp a]; omega
      have eL : f_X4_longer (lN (pk w)) (nI (cs s)) = lN (pk (w ++ [cs s - 96])) := by
        rw [← x_longer hw (by omega) (show 1 ≤ cs s - 96 ∧ cs s - 96 ≤ 26 by omega), ← e1]
      obtain ⟨f', i1, i2⟩ := add_letters (K := K) ok h g E ln wd k f (s + 1) (w ++ [cs s - 96]) (by simp; omega) hx (by omega) (by omega)
      refine ⟨f', ?_, ?_⟩
      · rw [er, List.length_cons]; omega
      · rw [L_X2_addEntriesTo_8_s, if_neg (nI_ge q.1 (by omega)), gd_t (xin_nI (by omega) (by decide)), clN (by omega), h s q.1, x_isLetter (by omega), if_pos q.2, if_neg (by decide), eL, nI_1, i2, er, List.append_assoc, List.singleton_append, List.length_cons, show s + 1 + (run n cs k (s + 1)).length = s + ((run n cs k (s + 1)).length + 1) by omega]
    · have er : run n cs (k + 1) s = [] := by
        show (if _ then _ else _) = _
        rw [if_neg q]
      refine ⟨f + 1, ?_, ?_⟩
      · rw [er, List.length_nil]; omega
      · rw [er, List.append_nil, List.length_nil]
        rfl
theorem add_entry {K : Int32 → Int32 → Int64 → Int32 → (Nat → Int32) → (Nat → Int64) → Option (Int32 × Int32 × (Nat → Int32) × (Nat → Int64))} {n : Nat} {cs : Nat → Nat} (ok : OKP n cs) {codes : Nat → Int32} (h : PadIs n cs codes) (E : Int32) (ln : Nat → Int32) (wd : Nat → Int64) {s g e : Nat} (hg : entGood n cs s g e) {f : Nat} (hs : s ≤ n) (hf : n - s < f) :
    ∃ f', n - e < f' ∧ L_X2_addEntriesTo_8 K (nI n) codes f (nI s) 0 0 E ln wd = L_X2_addEntriesTo_8 K (nI n) codes f' (nI e) (nI g) (lN (pk (run n cs 7 s))) E ln wd := by
  have hn := ok.1
  obtain ⟨t, d, ht, hl1, ht1, hc, hd1, hd9, hcd, hend⟩ := hg
  obtain ⟨f1, i1, i2⟩ := add_letters (K := K) ok h 0 E ln wd 7 f s [] rfl ⟨by simp, fun x hx => by cases hx⟩ hs hf
  rw [← ht] at i1 i2
  rw [List.nil_append] at i2
  have e00 : lN (pk []) = 0 := rfl
  rw [e00] at i2
  obtain ⟨f2, rfl⟩ : ∃ f2, f1 = f2 + 1 + 1 := ⟨f1 - 2, by omega⟩
  have e58 : L_X2_addEntriesTo_8 K (nI n) codes (f2 + 1 + 1) (nI t) 0 (lN (pk (run n cs 7 s))) E ln wd = L_X2_addEntriesTo_8 K (nI n) codes (f2 + 1) (nI (t + 1)) 0 (lN (pk (run n cs 7 s))) E ln wd := by
    rw [L_X2_addEntriesTo_8_s, if_neg (nI_ge (by omega) (by omega)), gd_t (xin_nI (by omega) (by decide)), clN (by omega), h t (by omega), x_letN (by omega) (by omega), if_pos rfl, x_digN (by omega) (by omega), if_pos rfl, hc, if_neg (by decide), nI_1]
  have ed : L_X2_addEntriesTo_8 K (nI n) codes (f2 + 1) (nI (t + 1)) 0 (lN (pk (run n cs 7 s))) E ln wd = L_X2_addEntriesTo_8 K (nI n) codes f2 (nI (t + 2)) (nI d) (lN (pk (run n cs 7 s))) E ln wd := by
    have e1 : (10 : Int32) * 0 + nI (48 + d) - 48 = nI d := by
      rw [show (10 : Int32) * 0 = nI 0 by rfl, nI_add, show (48 : Int32) = nI 48 by rfl, pk_sub (by omega)]
      congr 1
      omega
    rw [L_X2_addEntriesTo_8_s, if_neg (nI_ge (by omega) (by omega)), gd_t (xin_nI (by omega) (by decide)), clN (by omega), h (t + 1) (by omega), x_letN (by omega) (by omega), if_pos rfl, x_digY (by omega) (by omega), if_neg (by decide), hcd, e1, nI_1]
  rcases hend with ⟨he, h3, h4, h5, h6, h7⟩ | ⟨he, h3, -⟩
  · obtain ⟨f3, rfl⟩ : ∃ f3, f2 = f3 + 1 := ⟨f2 - 1, by omega⟩
    refine ⟨f3, by omega, ?_⟩
    rw [i2, e58, ed]
    have e1 : (10 : Int32) * nI d + nI (cs (t + 2)) - 48 = nI g := by
      rw [show (10 : Int32) = nI 10 by rfl, pk_mul, nI_add, show (48 : Int32) = nI 48 by rfl, pk_sub (by omega)]
      congr 1
      omega
    rw [L_X2_addEntriesTo_8_s, if_neg (nI_ge (by omega) (by omega)), gd_t (xin_nI (by omega) (by decide)), clN (by omega), h (t + 2) (by omega), x_letN (by omega) (by omega), if_pos rfl, x_digY (by omega) (by omega), if_neg (by decide), e1, nI_1, he]
  · refine ⟨f2, by omega, ?_⟩
    rw [i2, e58, ed, he, h3]
