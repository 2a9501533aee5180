/-! what an object is: a lexicon (settings, entries, lines, words), the pad, the history (the oldest first), the slots -/
abbrev LexT : Type := (Nat → Nat) × Nat × (Nat → Nat) × (Nat → List Nat)
abbrev zS (l : LexT) : Nat → Nat := l.1
abbrev zN (l : LexT) : Nat := l.2.1
abbrev zG (l : LexT) : Nat → Nat := l.2.2.1
abbrev zW (l : LexT) : Nat → List Nat := l.2.2.2
abbrev ObjT : Type := LexT × List Nat × List LexT × Option LexT × Option LexT
abbrev oL (M : ObjT) : LexT := M.1
abbrev oP (M : ObjT) : List Nat := M.2.1
abbrev oH (M : ObjT) : List LexT := M.2.2.1
abbrev oA (M : ObjT) : Option LexT := M.2.2.2.1
abbrev oB (M : ObjT) : Option LexT := M.2.2.2.2
def OKL (l : LexT) : Prop := OKS (zS l) ∧ OKE (zN l) (zG l) (zW l)
def OKQ (q : List Nat) : Prop := q.length ≤ 60 ∧ ∀ x ∈ q, 33 ≤ x ∧ x ≤ 126
noncomputable def lay (l : LexT) : Nat × Nat × (Nat → Nat) × LSt := layN (zS l 0) (zS l 1) (zS l 2) (zN l) (zG l) (zW l)
noncomputable abbrev yI (l : LexT) : Nat := (lay l).1
noncomputable abbrev yZ (l : LexT) : Nat := (lay l).2.1
noncomputable abbrev yH (l : LexT) : Nat → Nat := (lay l).2.2.1
noncomputable abbrev yT (l : LexT) : LSt := (lay l).2.2.2
def HLex (l : LexT) (st ln : Nat → Int32) (wd : Nat → Int64) (n : Int32) : Prop := OKL l ∧ XLex (zS l) (zN l) (zG l) (zW l) st ln wd n
/-- a lexicon, and its layout -/
def XNow (l : LexT) (pg ps s lop : Int32) (bp bl ep fi la bg fd hl : Nat → Int32) (n : Int32) (st ln : Nat → Int32) (wd : Nat → Int64) : Prop :=
  HLex l st ln wd n ∧ LAY (zS l 0) (zS l 1) (zS l 2) (zN l) (zG l) (zW l) pg ps s lop bp bl ep fi la bg fd hl
def XHist (h : List LexT) (k : Int32) (ps pl : Nat → Nat → Int32) (pw : Nat → Nat → Int64) (pn : Nat → Int32) : Prop :=
  k = nI h.length ∧ h.length ≤ 6 ∧ ∀ j (hj : j < h.length), HLex h[j] (ps j) (pl j) (pw j) (pn j)
def XPad (q : List Nat) (t : Int32) (codes : Nat → Int32) : Prop := OKQ q ∧ t = nI q.length ∧ ∀ i (hi : i < q.length), codes i = nI q[i]
def XSlot (o : Option LexT) (sv : Int32) (st ln : Nat → Int32) (wd : Nat → Int64) (n : Int32) : Prop :=
  match o with
  | none => sv = 0
  | some l => sv = 1 ∧ HLex l st ln wd n
theorem lay_s {l : LexT} (ok : OKL l) : (∀ p, yH l p = 1 ∨ yH l p = 2) ∧ tP (yT l) ≤ 10 * zN l ∧ LIs (zS l 0) (zN l) (yH l) (yT l) ∧ yT l = lAll (zS l 0) (zS l 2) (yH l) (zG l) (zN l) ∧ yZ l = sameN (zW l) (zS l 1) (yH l) (yT l) ∧ 1 ≤ yI l ∧ yI l ≤ 10 ∧ (yZ l = 1 ∨ yI l = 10) := by
  have hL := ok.1.1
  have hk := ok.1.2.2
  have hG : ∀ x, x < zN l → 1 ≤ zG l x ∧ zG l x ≤ 40 := fun e he => ⟨(ok.2.2.1 e he).1, (ok.2.2.1 e he).2.1⟩
  have gen : ∀ (d i : Nat) (H : Nat → Nat), i + d = 10 → 1 ≤ i → (∀ p, H p = 1 ∨ H p = 2) → ∀ R, R = lRes (zS l 0) (zS l 1) (zS l 2) (zN l) (zG l) (zW l) d i H →
      (∀ p, R.2.2.1 p = 1 ∨ R.2.2.1 p = 2) ∧ R.2.2.2 = lAll (zS l 0) (zS l 2) R.2.2.1 (zG l) (zN l) ∧ R.2.1 = sameN (zW l) (zS l 1) R.2.2.1 R.2.2.2 ∧ 1 ≤ R.1 ∧ R.1 ≤ 10 ∧ (R.2.1 = 1 ∨ R.1 = 10) := by
    intro d
    induction d with
    | zero =>
      intro i H hi h1 hH R hR
      subst hR
      refine ⟨hH, rfl, rfl, h1, ?_, Or.inr ?_⟩
      · show i ≤ 10
        omega
      · show i = 10
        omega
    | succ d ih =>
      intro i H hi h1 hH R hR
      by_cases q : lSame (zW l) (zS l 1) H (lAll (zS l 0) (zS l 2) H (zG l) (zN l))
      · have e : R = (i, 1, H, lAll (zS l 0) (zS l 2) H (zG l) (zN l)) := hR.trans (if_pos q)
        subst e
        refine ⟨hH, rfl, ?_, h1, ?_, Or.inl rfl⟩
        · exact (if_pos q).symm
        · show i ≤ 10
          omega
      · have e := hR.trans (if_neg q)
        exact ih (i + 1) _ (by omega) (by omega) (next_12 _ _ _) R e
  obtain ⟨a1, a2, a3, a4, a5, a6⟩ := gen 9 1 (fun _ => 1) (by omega) (by omega) (fun _ => Or.inl rfl) (lay l) rfl
  obtain ⟨b1, b2⟩ := all_s (k := zS l 2) a1 hL hk (zN l) hG
  have e2 : yT l = lAll (zS l 0) (zS l 2) (yH l) (zG l) (zN l) := a2
  refine ⟨a1, ?_, ?_, a2, a3, a4, a5, a6⟩
  · rw [e2]; exact b1
  · rw [e2]; exact b2
/-! sums, and the answers of queries -/
def sumN (f : Nat → Nat) : Nat → Nat
  | 0 => 0
  | n + 1 => sumN f n + f n
def codeV (w : List Nat) (k : Nat) : Int32 := if h : k < w.length then nI (96 + w[k]) else -6
noncomputable def blN (l : LexT) (p : Nat) : Nat := zS l 0 - yH l p - tUS (yT l) p
noncomputable def entV (l : LexT) (e k : Nat) : Int32 :=
  if k = 0 then nI (zG l e) else if k = 1 then nI (tBP (yT l) e) else if k = 2 then nI (tBL (yT l) e) else if k = 3 then nI (tEP (yT l) e)
  else if k = 4 then nI (tEP (yT l) e - tBP (yT l) e + 1) else if k = 5 then nI (zW l e).length else codeV (zW l e) (k - 6)
def headV (W : Nat → List Nat) (a b k : Nat) : Int32 := if k < (W a).length ∨ a = b then codeV (W a) k else if k = (W a).length then 45 else codeV (W b) (k - (W a).length - 1)
noncomputable def pagV (l : LexT) (p k : Nat) : Int32 :=
  if k = 0 then nI (tFI (yT l) p) else if k = 1 then nI (tLA (yT l) p) else if k = 2 then nI (tBG (yT l) p) else if k = 3 then nI (tUS (yT l) p)
  else if k = 4 then nI (blN l p) else if k = 5 then nI (yH l p) else if k = 6 then nI (hlN (zW l) (tFI (yT l) p) (tLA (yT l) p)) else headV (zW l) (tFI (yT l) p) (tLA (yT l) p) (k - 7)
noncomputable def aEntryL (l : LexT) (i w : Int32) : Int32 := if i.toInt < 0 ∨ (zN l : Int) ≤ i.toInt then -1 else if w.toInt < 0 then -2 else entV l i.toInt.toNat w.toInt.toNat
noncomputable def aPageL (l : LexT) (i w : Int32) : Int32 := if i.toInt < 0 ∨ (tP (yT l) : Int) ≤ i.toInt then -1 else if w.toInt < 0 then -2 else pagV l i.toInt.toNat w.toInt.toNat
noncomputable def cntV (l : LexT) (q h k : Nat) : Int32 :=
  if k < 3 then nI (zS l k) else if k = 3 then nI (zN l) else if k = 4 then nI (tP (yT l)) else if k = 5 then nI ((tP (yT l) + 1) / 2) else if k = 6 then nI (sumN (zG l) (zN l))
  else if k = 7 then nI (sumN (blN l) (tP (yT l))) else if k = 8 then nI (yI l) else if k = 9 then nI (yZ l) else if k = 10 then nI (sumN (fun p => if tBG (yT l) p = 0 then 1 else 0) (tP (yT l)))
  else if k = 11 then nI (sumN (fun e => if tEP (yT l) e ≤ tBP (yT l) e then 0 else 1) (zN l)) else if k = 12 then nI (sumN (fun p => if yH l p = 2 then 1 else 0) (tP (yT l))) else if k = 13 then nI q else nI h
noncomputable def aCountL (l : LexT) (q h : Nat) (i : Int32) : Int32 := if i.toInt < 0 ∨ (15 : Int) ≤ i.toInt then -2 else cntV l q h i.toInt.toNat
theorem sg_cases (x : Int32) : x < 0 ∨ ∃ k, k < 2 ^ 31 ∧ x = nI k := by
  by_cases q : x < 0
  · exact Or.inl q
  · right
    rw [i32_neg] at q
    have h := Int32.toInt_lt x
    refine ⟨x.toInt.toNat, by omega, ?_⟩
    refine Int32.toInt_inj.mp ?_
    rw [nI_toInt (by omega)]
    omega
theorem aE_in {l : LexT} {e k : Nat} (he : e < zN l) (hN : zN l ≤ 30) (hk : k < 2 ^ 31) : aEntryL l (nI e) (nI k) = entV l e k := by
  unfold aEntryL
  rw [nI_toInt (by omega), nI_toInt hk, if_neg (by omega), if_neg (by omega)]
  rfl
theorem aE_neg {l : LexT} {e : Nat} {w : Int32} (he : e < zN l) (hN : zN l ≤ 30) (hk : w < 0) : aEntryL l (nI e) w = -2 := by
  unfold aEntryL
  rw [i32_neg] at hk
  rw [nI_toInt (by omega), if_neg (by omega), if_pos hk]
theorem aE_out {l : LexT} {i w : Int32} (h : i.toInt < 0 ∨ (zN l : Int) ≤ i.toInt) : aEntryL l i w = -1 := if_pos h
theorem aP_in {l : LexT} {p k : Nat} (hp : p < tP (yT l)) (hP : tP (yT l) ≤ 300) (hk : k < 2 ^ 31) : aPageL l (nI p) (nI k) = pagV l p k := by
  unfold aPageL
  rw [nI_toInt (by omega), nI_toInt hk, if_neg (by omega), if_neg (by omega)]
  rfl
theorem aP_neg {l : LexT} {p : Nat} {w : Int32} (hp : p < tP (yT l)) (hP : tP (yT l) ≤ 300) (hk : w < 0) : aPageL l (nI p) w = -2 := by
  unfold aPageL
  rw [i32_neg] at hk
  rw [nI_toInt (by omega), if_neg (by omega), if_pos hk]
theorem aP_out {l : LexT} {i w : Int32} (h : i.toInt < 0 ∨ (tP (yT l) : Int) ≤ i.toInt) : aPageL l i w = -1 := if_pos h
theorem aC_in {l : LexT} {q h k : Nat} (hk : k < 15) : aCountL l q h (nI k) = cntV l q h k := by
  unfold aCountL
  rw [nI_toInt (by omega), if_neg (by omega)]
  rfl
theorem aC_out {l : LexT} {q h : Nat} {i : Int32} (hi : i.toInt < 0 ∨ (15 : Int) ≤ i.toInt) : aCountL l q h i = -2 := if_pos hi
/-! ===== the class answers so ===== -/
theorem x_letter {w : List Nat} (h : wOK w) {j : Nat} (hj : j < 2 ^ 31) : f_X5_codeOrNone (f_X4_code (lN (pk w)) (nI j)) = codeV w j := by
  unfold codeV
  by_cases q : j < w.length
  · have hx := h.2 w[j] (List.getElem_mem q)
    rw [dif_pos q, x_code_in h q]
    unfold f_X5_codeOrNone
    rw [if_neg (show ¬ nI (96 + w[j]) = (0 : Int32) from fun c => by have := (nI_eq (a := 96 + w[j]) (b := 0) (by omega) (by decide)).mp c; omega)]
  · rw [dif_neg q, x_code_out h (Or.inr (by rw [nI_toInt hj]; omega))]
    rfl
theorem q_entry {l : LexT} {pg ps s lop : Int32} {bp bl ep fi la bg fd hl : Nat → Int32} {n : Int32} {st ln : Nat → Int32} {wd : Nat → Int64} (h : XNow l pg ps s lop bp bl ep fi la bg fd hl n st ln wd) (i1 i2 : Int32) :
    f_X5_entry bp bl ep n ln wd i1 i2 = some (aEntryL l i1 i2) := by
  obtain ⟨⟨ok, rfl, hst, hx⟩, -, -, -, -, hX⟩ := h
  have hX : XLs (zN l) (zN l) (yH l) (yT l) bp bl ep fi la bg fd hl := hX
  have hN := ok.2.1
  have hs := (lay_s ok).2.2.1
  have hP := (lay_s ok).2.1
  unfold f_X5_entry
  rcases ix_cases i1 (show zN l < 2 ^ 31 by omega) with ⟨e, he, rfl⟩ | hout
  · rw [x_has (by omega) he, if_neg (show ¬ (1 : Int32) = 0 by decide)]
    rcases sg_cases i2 with hneg | ⟨k, hk, rfl⟩
    · have : ¬ (0 : Int32) ≤ i2 := by rw [i32_neg] at hneg; rw [Int32.le_iff_toInt_le]; exact fun c => by have : (0 : Int32).toInt = 0 := rfl; omega
      rw [if_neg this, aE_neg he hN hneg]
    · have e0 : (0 : Int32) ≤ nI k := nI_le (a := 0) (by omega) hk
      have e1 : ¬ nI k < (0 : Int32) := nI_nlt (a := k) (b := 0) (by omega) hk
      obtain ⟨x1, x2⟩ := hX.2.1 e he
      have x3 := hX.2.2 e he
      have hbe := hs.2.2.2.1 e he
      have wk := (ok.2.2.1 e he).2.2.1
      rw [if_pos e0, if_neg e1, aE_in he hN hk]
      unfold entV
      by_cases q : 5 < k
      · have q5 : (5 : Int32) < nI k := nI_lt (a := 5) q hk
        have e6 : nI k - (6 : Int32) = nI (k - 6) := pk_sub (b := 6) (by omega)
        rw [if_pos q5, bd_eq (x_wordOf hN he), (hx e he).2, e6, x_letter wk (by omega), if_neg (by omega), if_neg (by omega), if_neg (by omega), if_neg (by omega), if_neg (by omega), if_neg (by omega)]
      · have q5 : ¬ (5 : Int32) < nI k := nI_nlt (a := 5) (by omega) (by decide)
        rw [if_neg q5]
        rcases (show k = 0 ∨ k = 1 ∨ k = 2 ∨ k = 3 ∨ k = 4 ∨ k = 5 by omega) with rfl | rfl | rfl | rfl | rfl | rfl
        · rw [if_pos (by decide), gd_t (xin_nI (by omega) (by decide)), clN (by omega), (hx e he).1]
          rfl
        · rw [if_neg (by decide), if_pos (by decide), gd_t (xin_nI (by omega) (by decide)), clN (by omega), x1]
          rfl
        · rw [if_neg (by decide), if_neg (by decide), if_pos (by decide), gd_t (xin_nI (by omega) (by decide)), clN (by omega), x2]
          rfl
        · rw [if_neg (by decide), if_neg (by decide), if_neg (by decide), if_pos (by decide), gd_t (xin_nI (by omega) (by decide)), clN (by omega), x3]
          rfl
        · have ex : f_X0_pagesOf bp ep (nI e) = some (nI (tEP (yT l) e - tBP (yT l) e + 1)) := by
            unfold f_X0_pagesOf
            rw [gd_t (xin_nI (by omega) (by decide)), gd_t (xin_nI (by omega) (by decide)), clN (by omega), x1, x3, pk_sub hbe.1, nI_1]
          rw [if_neg (by decide), if_neg (by decide), if_neg (by decide), if_neg (by decide), if_pos (by decide), bd_eq ex]
          rfl
        · rw [if_neg (by decide), if_neg (by decide), if_neg (by decide), if_neg (by decide), if_neg (by decide), bd_eq (x_wordOf hN he), (hx e he).2, x_letters wk]
          rfl
  · rw [x_hasnt (by omega) hout, if_pos rfl, aE_out hout]
theorem x_headCode {N : Nat} {G : Nat → Nat} {W : Nat → List Nat} (ok : OKE N G W) {wd : Nat → Int64} (hwd : ∀ i, i < N → wd i = lN (pk (W i))) {p a b : Nat} (hp : p < 300) (ha : a < N) (hb : b < N) {fi la : Nat → Int32} (hf : fi p = nI a) (hl : la p = nI b) {j : Nat} (hj : j < 2 ^ 31) :
    ∃ c, f_X0_headCode fi la (nI N) wd (nI p) (nI j) = some c ∧ f_X5_codeOrNone c = headV W a b j := by
  have hN := ok.1
  have wa := (ok.2.1 a ha).2.2.1
  have wb := (ok.2.1 b hb).2.2.1
  have w7 := wa.1
  unfold f_X0_headCode J_X0_headCode_40 headV
  rw [gd_t (xin_nI hp (by decide)), clN (by omega), hf, bd_eq (x_wordOf hN ha), hwd a ha, x_letters wa]
  by_cases q1 : j < (W a).length
  · rw [if_pos (nI_lt q1 (by omega)), if_pos (Or.inl q1)]
    exact ⟨_, rfl, x_letter wa hj⟩
  · rw [if_neg (nI_nlt (by omega) (by omega)), gd_t (xin_nI hp (by decide)), gd_t (xin_nI hp (by decide)), hl]
    by_cases q2 : a = b
    · rw [if_pos (by rw [q2]), if_pos (Or.inr q2)]
      exact ⟨_, rfl, x_letter wa hj⟩
    · have nab : ¬ nI a = nI b := fun c => q2 ((nI_eq (by omega) (by omega)).mp c)
      rw [if_neg nab, if_neg (show ¬ (j < (W a).length ∨ a = b) from fun c => c.elim q1 q2)]
      by_cases q3 : j = (W a).length
      · rw [if_pos (by rw [q3]), if_pos q3]
        exact ⟨45, rfl, rfl⟩
      · have nj : ¬ nI j = nI (W a).length := fun c => q3 ((nI_eq (by omega) (by omega)).mp c)
        have e2 : nI j - nI (W a).length - 1 = nI (j - (W a).length - 1) := by
          rw [pk_sub (by omega)]
          exact pk_sub (b := 1) (by omega)
        rw [if_neg nj, if_neg q3, gd_t (xin_nI hp (by decide)), bd_eq (x_wordOf hN hb), hwd b hb, e2]
        exact ⟨_, rfl, x_letter wb (by omega)⟩
theorem q_page {l : LexT} {pg ps s lop : Int32} {bp bl ep fi la bg fd hl : Nat → Int32} {n : Int32} {st ln : Nat → Int32} {wd : Nat → Int64} (h : XNow l pg ps s lop bp bl ep fi la bg fd hl n st ln wd) (i1 i2 : Int32) :
    f_X5_page pg lop fi la bg fd hl n wd i1 i2 = some (aPageL l i1 i2) := by
  obtain ⟨⟨ok, rfl, hst, hx⟩, epg, -, -, rfl, hX⟩ := h
  have epg : pg = nI (tP (yT l)) := epg
  subst epg
  have hX : XLs (zN l) (zN l) (yH l) (yT l) bp bl ep fi la bg fd hl := hX
  have hN := ok.2.1
  have hs := (lay_s ok).2.2.1
  have hP := (lay_s ok).2.1
  have hH := (lay_s ok).1
  unfold f_X5_page
  rcases ix_cases i1 (show tP (yT l) < 2 ^ 31 by omega) with ⟨p, hp, rfl⟩ | hout
  · rw [x_hasPage (by omega) hp, if_neg (show ¬ (1 : Int32) = 0 by decide)]
    rcases sg_cases i2 with hneg | ⟨k, hk, rfl⟩
    · have : ¬ (0 : Int32) ≤ i2 := by rw [i32_neg] at hneg; rw [Int32.le_iff_toInt_le]; exact fun c => by have : (0 : Int32).toInt = 0 := rfl; omega
      rw [if_neg this, aP_neg hp (by omega) hneg]
    · have e0 : (0 : Int32) ≤ nI k := nI_le (a := 0) (by omega) hk
      have e1 : ¬ nI k < (0 : Int32) := nI_nlt (a := k) (b := 0) (by omega) hk
      obtain ⟨x1, x2, x3, x4, x5⟩ := hX.1 p hp
      obtain ⟨c1, c2, c3, c4⟩ := hs.2.2.1 p hp
      have hUS := hs.2.1 p hp
      have hHp := hH p
      rw [if_pos e0, if_neg e1, aP_in hp (by omega) hk]
      unfold pagV
      by_cases q : 6 < k
      · have q5 : (6 : Int32) < nI k := nI_lt (a := 6) q hk
        have e6 : nI k - (7 : Int32) = nI (k - 7) := pk_sub (b := 7) (by omega)
        obtain ⟨c, g1, g2⟩ := x_headCode ok.2 (fun i hi => (hx i hi).2) (p := p) (by omega) (by omega) c2 x1 x2 (j := k - 7) (by omega)
        rw [if_pos q5, e6, bd_eq g1, g2, if_neg (by omega), if_neg (by omega), if_neg (by omega), if_neg (by omega), if_neg (by omega), if_neg (by omega), if_neg (by omega)]
      · have q5 : ¬ (6 : Int32) < nI k := nI_nlt (a := 6) (by omega) (by decide)
        rw [if_neg q5]
        rcases (show k = 0 ∨ k = 1 ∨ k = 2 ∨ k = 3 ∨ k = 4 ∨ k = 5 ∨ k = 6 by omega) with rfl | rfl | rfl | rfl | rfl | rfl | rfl
        · rw [if_pos (by decide), gd_t (xin_nI (by omega) (by decide)), clN (by omega), x1]
          rfl
        · rw [if_neg (by decide), if_pos (by decide), gd_t (xin_nI (by omega) (by decide)), clN (by omega), x2]
          rfl
        · rw [if_neg (by decide), if_neg (by decide), if_pos (by decide), gd_t (xin_nI (by omega) (by decide)), clN (by omega), x3]
          rfl
        · rw [if_neg (by decide), if_neg (by decide), if_neg (by decide), if_pos (by decide), gd_t (xin_nI (by omega) (by decide)), clN (by omega), x4]
          rfl
        · have ex : f_X0_blankLinesOf (nI (zS l 0)) fd hl (nI p) = some (nI (blN l p)) := by
            unfold f_X0_blankLinesOf
            rw [gd_t (xin_nI (by omega) (by decide)), gd_t (xin_nI (by omega) (by decide)), clN (by omega), x4, x5]
            show some (nI (zS l 0) - nI (yH l p) - nI (tUS (yT l) p)) = _
            rw [pk_sub (by omega), pk_sub (by omega)]
            rfl
          rw [if_neg (by decide), if_neg (by decide), if_neg (by decide), if_neg (by decide), if_pos (by decide), bd_eq ex]
          rfl
        · rw [if_neg (by decide), if_neg (by decide), if_neg (by decide), if_neg (by decide), if_neg (by decide), if_pos (by decide), gd_t (xin_nI (by omega) (by decide)), clN (by omega), x5]
          rfl
        · rw [if_neg (by decide), if_neg (by decide), if_neg (by decide), if_neg (by decide), if_neg (by decide), if_neg (by decide), bd_eq (x_width ok.2 (fun i hi => (hx i hi).2) (by omega) (by omega) c2 x1 x2)]
          rfl
  · have e1 : f_X0_hasPage (nI (tP (yT l))) i1 = 0 := by
      unfold f_X0_hasPage
      by_cases q : i1 < 0
      · rw [if_pos q]
      · rw [if_neg q, if_pos]
        rw [i32_nIle (by omega)]
        rw [i32_neg] at q
        omega
    rw [e1, if_pos rfl, aP_out hout]
