/-! isLaid -/
abbrev RecT : Type := Int32 → Int32 → Int32 → Int32 → Int32 → Int32 → Int32 → Int32 → Option Int32
/-- what holds of a page -/
theorem page_f {l : LexT} (ok : OKL l) {p : Nat} (hp : p < tP (yT l)) : tP (yT l) ≤ 300 ∧ zN l ≤ 30 ∧ tFI (yT l) p ≤ tLA (yT l) p ∧ tLA (yT l) p < zN l ∧ tBG (yT l) p ≤ 31 ∧ 1 ≤ tUS (yT l) p ∧ yH l p + tUS (yT l) p ≤ zS l 0 ∧ zS l 0 ≤ 40 ∧ (yH l p = 1 ∨ yH l p = 2) := by
  have h := lay_s ok
  have hN := ok.2.1
  have a := h.2.2.1.2.2.1 p hp
  have b := h.2.2.1.2.1 p hp
  have c := ok.1.1
  exact ⟨by have := h.2.1; omega, hN, a.1, a.2.1, by omega, b.1, b.2, c.2, h.1 p⟩
theorem ent_f {l : LexT} (ok : OKL l) {e : Nat} (he : e < zN l) : tBP (yT l) e ≤ tEP (yT l) e ∧ tEP (yT l) e < tP (yT l) ∧ 1 ≤ (zW l e).length ∧ (zW l e).length ≤ 7 := by
  have h := lay_s ok
  have a := h.2.2.1.2.2.2.1 e he
  have w := ok.2.2.1 e he
  exact ⟨a.1, a.2, w.2.2.2, w.2.2.1.1⟩
theorem codeV_out {w : List Nat} {k : Nat} (h : w.length ≤ k) : codeV w k = -6 := by
  unfold codeV
  rw [dif_neg (by omega)]
theorem head_first {W : Nat → List Nat} {a b : Nat} (h : 1 ≤ (W a).length) : headV W a b 0 = codeV (W a) 0 := if_pos (Or.inl h)
theorem head_last {W : Nat → List Nat} {a b : Nat} (ha : 1 ≤ (W a).length) (hb : 1 ≤ (W b).length) : headV W a b (hlN W a b - 1) = codeV (W b) ((W b).length - 1) := by
  unfold headV hlN
  by_cases q : b = a
  · subst q
    rw [if_pos rfl, if_pos (Or.inr rfl)]
  · rw [if_neg q, if_neg (show ¬ ((W a).length + 1 + (W b).length - 1 < (W a).length ∨ a = b) from fun c => c.elim (fun c => by omega) (fun c => q c.symm)), if_neg (by omega)]
    congr 1
    omega
theorem head_end {W : Nat → List Nat} {a b : Nat} : headV W a b (hlN W a b) = -6 := by
  unfold headV hlN
  by_cases q : b = a
  · subst q
    rw [if_pos rfl, if_pos (Or.inr rfl)]
    exact codeV_out (Nat.le_refl _)
  · rw [if_neg q, if_neg (show ¬ ((W a).length + 1 + (W b).length < (W a).length ∨ a = b) from fun c => c.elim (fun c => by omega) (fun c => q c.symm)), if_neg (by omega)]
    exact codeV_out (by omega)
theorem laid_420 {M : ObjT} (ok : OKL (oL M)) {p : Nat} (hp : p < tP (yT (oL M))) (R : RecT) (i6 i5 i4 i3 i2 a b c : Int32) : J_L_isLaid_420 R M (nI p) i6 i5 i4 i3 i2 a b c 1 = R (nI (p + 1)) 1 c (i6 + b) (i5 + a) (i4 + nI (tBG (yT (oL M)) p)) (i3 + nI (blN (oL M) p)) (i2 + nI (tUS (yT (oL M)) p)) := by
  obtain ⟨f1, f2, f3, f4, f5, f6, f7, f8, f9⟩ := page_f ok hp
  obtain ⟨g1, g2, g3, g4⟩ := ent_f ok (e := tFI (yT (oL M)) p) (by omega)
  obtain ⟨h1, h2, h3, h4⟩ := ent_f ok (e := tLA (yT (oL M)) p) f4
  obtain ⟨q1, q2, q3, q4, q5⟩ := (lay_q ok).2.2.2.2.2.1 p hp
  unfold J_L_isLaid_420
  rw [aP0 hp f1, aP1 hp f1, aP2 hp f1, aP3 hp f1, aP4 hp f1, aE1 (by omega) f2, aE3 (by omega) f2, aE1 f4 f2, aE3 f4 f2, if_neg (show ¬ (1 : Int32) = 0 by decide), if_neg (nI_nlt q1 (by omega)), if_neg (nI_nlt q2 (by omega)), if_neg (nI_nlt q3 (by omega)), if_neg (nI_nlt q4 (by omega)), nI_1]
  by_cases c0 : p = 0
  · rw [if_pos (show nI p = (0 : Int32) by rw [c0]; rfl)]
  · obtain ⟨p', rfl⟩ : ∃ p', p = p' + 1 := ⟨p - 1, by omega⟩
    obtain ⟨e1, e2, e3, e4, e5, e6, e7, e8, e9⟩ := page_f ok (p := p') (by omega)
    rw [if_neg (nI_ne0 (by omega) (by omega)), nI_pred, aP1 (by omega) f1, nI_1]
    rcases (lay_q ok).2.2.2.1 p' hp with c1 | c1
    · rw [if_pos (by rw [c1])]
    · by_cases c2 : nI (tFI (yT (oL M)) (p' + 1)) = nI (tLA (yT (oL M)) p')
      · rw [if_pos c2]
      · rw [if_neg c2, if_pos (by rw [c1])]
theorem laid_332 {M : ObjT} (ok : OKL (oL M)) {p : Nat} (hp : p < tP (yT (oL M))) (R : RecT) (i6 i5 i4 i3 i2 a b c s : Int32) (hs : s = nI (if tLA (yT (oL M)) p = tFI (yT (oL M)) p then 0 else 1 + (zW (oL M) (tLA (yT (oL M)) p)).length)) : J_L_isLaid_332 R M (nI p) i6 i5 i4 i3 i2 a b c s = R (nI (p + 1)) 1 c (i6 + b) (i5 + a) (i4 + nI (tBG (yT (oL M)) p)) (i3 + nI (blN (oL M) p)) (i2 + nI (tUS (yT (oL M)) p)) := by
  obtain ⟨f1, f2, f3, f4, f5, f6, f7, f8, f9⟩ := page_f ok hp
  obtain ⟨g1, g2, g3, g4⟩ := ent_f ok (e := tFI (yT (oL M)) p) (by omega)
  obtain ⟨h1, h2, h3, h4⟩ := ent_f ok (e := tLA (yT (oL M)) p) f4
  obtain ⟨q1, q2, q3, q4, q5⟩ := (lay_q ok).2.2.2.2.2.1 p hp
  have hw : hlN (zW (oL M)) (tFI (yT (oL M)) p) (tLA (yT (oL M)) p) = (zW (oL M) (tFI (yT (oL M)) p)).length + (if tLA (yT (oL M)) p = tFI (yT (oL M)) p then 0 else 1 + (zW (oL M) (tLA (yT (oL M)) p)).length) := by
    unfold hlN
    split <;> omega
  have hw15 : 1 ≤ hlN (zW (oL M)) (tFI (yT (oL M)) p) (tLA (yT (oL M)) p) ∧ hlN (zW (oL M)) (tFI (yT (oL M)) p) (tLA (yT (oL M)) p) ≤ 15 := by
    unfold hlN
    split <;> omega
  have x7 : aPage M (nI p) 7 = codeV (zW (oL M) (tFI (yT (oL M)) p)) 0 := (aP7 hp f1 (k := 0) (by omega)).trans (head_first g3)
  have x6 : aEntry M (nI (tFI (yT (oL M)) p)) 6 = codeV (zW (oL M) (tFI (yT (oL M)) p)) 0 := aE6 (k := 0) (by omega) f2 (by omega)
  have e6 : (6 : Int32) + nI (hlN (zW (oL M)) (tFI (yT (oL M)) p) (tLA (yT (oL M)) p)) = nI (7 + (hlN (zW (oL M)) (tFI (yT (oL M)) p) (tLA (yT (oL M)) p) - 1)) := by
    rw [show (6 : Int32) = nI 6 by rfl, nI_add]
    congr 1
    omega
  have e7 : (7 : Int32) + nI (hlN (zW (oL M)) (tFI (yT (oL M)) p) (tLA (yT (oL M)) p)) = nI (7 + hlN (zW (oL M)) (tFI (yT (oL M)) p) (tLA (yT (oL M)) p)) := by
    rw [show (7 : Int32) = nI 7 by rfl, nI_add]
  have e5 : (5 : Int32) + nI (zW (oL M) (tLA (yT (oL M)) p)).length = nI (6 + ((zW (oL M) (tLA (yT (oL M)) p)).length - 1)) := by
    rw [show (5 : Int32) = nI 5 by rfl, nI_add]
    congr 1
    omega
  unfold J_L_isLaid_332
  rw [aP0 hp f1, aP1 hp f1, aP2 hp f1, aP6 hp f1, aE5 (by omega) f2, aE5 f4 f2, x7, x6, hs, nI_add, if_pos (by rw [hw]), if_pos rfl, e6, e5, aP7 hp f1 (by omega), aE6 f4 f2 (by omega), head_last g3 h3, if_pos rfl, e7, aP7 hp f1 (by omega), head_end, if_pos rfl, pk_sub f3, if_neg (nI_nlt (by omega) (by omega))]
  exact laid_420 ok hp R i6 i5 i4 i3 i2 a b c
theorem laid_232 {M : ObjT} (ok : OKL (oL M)) {p : Nat} (hp : p < tP (yT (oL M))) (R : RecT) (i6 i5 i4 i3 i2 a b c : Int32) : J_L_isLaid_232 R M (nI p) i6 i5 i4 i3 i2 a b c = R (nI (p + 1)) 1 c (i6 + b) (i5 + a) (i4 + nI (tBG (yT (oL M)) p)) (i3 + nI (blN (oL M) p)) (i2 + nI (tUS (yT (oL M)) p)) := by
  obtain ⟨f1, f2, f3, f4, f5, f6, f7, f8, f9⟩ := page_f ok hp
  obtain ⟨h1, h2, h3, h4⟩ := ent_f ok (e := tLA (yT (oL M)) p) f4
  have hb : blN (oL M) p = zS (oL M) 0 - yH (oL M) p - tUS (yT (oL M)) p := rfl
  unfold J_L_isLaid_232
  rw [aP0 hp f1, aP1 hp f1, aP3 hp f1, aP4 hp f1, aP5 hp f1, aC0, aE5 f4 f2, if_neg (nI_nlt f3 (by omega)), if_neg (nI_pos (by omega)), if_neg (nI_nle (by omega) (by omega)), if_neg (show ¬ (3 : Int32) ≤ nI (yH (oL M) p) from nI_ge (a := yH (oL M) p) (b := 3) (by omega) (by decide)), if_neg (nI_nle (by omega) (by omega)), if_neg (nI_pos (by omega)), nI_add, nI_add, if_pos (by congr 1; omega)]
  by_cases c0 : tFI (yT (oL M)) p = tLA (yT (oL M)) p
  · rw [if_pos (by rw [c0])]
    exact laid_332 ok hp R i6 i5 i4 i3 i2 a b c _ (by rw [if_pos c0.symm]; rfl)
  · rw [if_neg (fun q => c0 ((nI_eq (by omega) (by omega)).mp q))]
    exact laid_332 ok hp R i6 i5 i4 i3 i2 a b c _ (by rw [if_neg (fun q => c0 q.symm), show (1 : Int32) = nI 1 by rfl, nI_add])
noncomputable def zP (l : LexT) (p : Nat) : Nat := @ite _ (∀ q, q < p → wnN (zW l) (zS l 1) (tFI (yT l) q) (tLA (yT l) q) = yH l q) (Classical.propDecidable _) 1 0
theorem zP_01 (l : LexT) (p : Nat) : zP l p = 1 ∨ zP l p = 0 := by
  unfold zP
  split
  · exact Or.inl rfl
  · exact Or.inr rfl
theorem zP_s (l : LexT) (p : Nat) : zP l (p + 1) = if wnN (zW l) (zS l 1) (tFI (yT l) p) (tLA (yT l) p) = yH l p then zP l p else 0 := by
  unfold zP
  by_cases c : wnN (zW l) (zS l 1) (tFI (yT l) p) (tLA (yT l) p) = yH l p
  · rw [if_pos c]
    by_cases d : ∀ q, q < p → wnN (zW l) (zS l 1) (tFI (yT l) q) (tLA (yT l) q) = yH l q
    · rw [if_pos d, if_pos]
      intro q hq
      by_cases e : q = p
      · rw [e]; exact c
      · exact d q (by omega)
    · rw [if_neg d, if_neg (fun e => d (fun q hq => e q (by omega)))]
  · rw [if_neg c, if_neg (fun e => c (e p (by omega)))]
theorem laid_step {M : ObjT} (ok : OKL (oL M)) {p : Nat} (hp : p < tP (yT (oL M))) (K : RecT) (n : Nat) (i6 i5 i4 i3 i2 : Int32) : L_L_isLaid_90 K M (nI (tP (yT (oL M)))) (n + 1) (nI p) 1 (nI (zP (oL M) p)) i6 i5 i4 i3 i2 =
    L_L_isLaid_90 K M (nI (tP (yT (oL M)))) n (nI (p + 1)) 1 (nI (zP (oL M) (p + 1))) (i6 + nI (if yH (oL M) p = 2 then 1 else 0)) (i5 + nI (if tBG (yT (oL M)) p = 0 then 1 else 0)) (i4 + nI (tBG (yT (oL M)) p)) (i3 + nI (blN (oL M) p)) (i2 + nI (tUS (yT (oL M)) p)) := by
  obtain ⟨f1, f2, f3, f4, f5, f6, f7, f8, f9⟩ := page_f ok hp
  obtain ⟨g1, g2, g3, g4⟩ := ent_f ok (e := tFI (yT (oL M)) p) (by omega)
  obtain ⟨h1, h2, h3, h4⟩ := ent_f ok (e := tLA (yT (oL M)) p) f4
  have hw15 : hlN (zW (oL M)) (tFI (yT (oL M)) p) (tLA (yT (oL M)) p) ≤ 15 := by
    unfold hlN
    split <;> omega
  have hS1 := ok.1.2.1
  -- the width asked for
  have J221 : ∀ (a b : Int32) (s : Int32), s = nI (wnN (zW (oL M)) (zS (oL M) 1) (tFI (yT (oL M)) p) (tLA (yT (oL M)) p)) → ∀ R : RecT, J_L_isLaid_221 R M (nI p) (nI (zP (oL M) p)) i6 i5 i4 i3 i2 a b s = R (nI (p + 1)) 1 (nI (zP (oL M) (p + 1))) (i6 + b) (i5 + a) (i4 + nI (tBG (yT (oL M)) p)) (i3 + nI (blN (oL M) p)) (i2 + nI (tUS (yT (oL M)) p)) := by
    intro a b s hs R
    have w12 := wn_12 (zW (oL M)) (zS (oL M) 1) (tFI (yT (oL M)) p) (tLA (yT (oL M)) p)
    unfold J_L_isLaid_221
    rw [aP5 hp f1, hs, zP_s]
    by_cases c : wnN (zW (oL M)) (zS (oL M) 1) (tFI (yT (oL M)) p) (tLA (yT (oL M)) p) = yH (oL M) p
    · rw [if_pos (by rw [c]), if_pos c]
      exact laid_232 ok hp R i6 i5 i4 i3 i2 a b _
    · rw [if_neg (fun q => c ((nI_eq (by omega) (by omega)).mp q)), if_neg c]
      exact laid_232 ok hp R i6 i5 i4 i3 i2 a b _
  have J203 : ∀ (a b : Int32) (R : RecT), J_L_isLaid_203 R M (nI p) (nI (zP (oL M) p)) i6 i5 i4 i3 i2 a b = R (nI (p + 1)) 1 (nI (zP (oL M) (p + 1))) (i6 + b) (i5 + a) (i4 + nI (tBG (yT (oL M)) p)) (i3 + nI (blN (oL M) p)) (i2 + nI (tUS (yT (oL M)) p)) := by
    intro a b R
    unfold J_L_isLaid_203
    rw [aP6 hp f1, aC1]
    by_cases c : hlN (zW (oL M)) (tFI (yT (oL M)) p) (tLA (yT (oL M)) p) ≤ zS (oL M) 1
    · rw [if_pos (nI_le c (by omega))]
      exact J221 a b 1 (by unfold wnN; rw [if_pos c]; rfl) R
    · rw [if_neg (nI_ge (by omega) (by omega))]
      exact J221 a b 2 (by unfold wnN; rw [if_neg c]; rfl) R
  have J187 : ∀ (a : Int32) (R : RecT), J_L_isLaid_187 R M (nI p) (nI (zP (oL M) p)) i6 i5 i4 i3 i2 a = R (nI (p + 1)) 1 (nI (zP (oL M) (p + 1))) (i6 + nI (if yH (oL M) p = 2 then 1 else 0)) (i5 + a) (i4 + nI (tBG (yT (oL M)) p)) (i3 + nI (blN (oL M) p)) (i2 + nI (tUS (yT (oL M)) p)) := by
    intro a R
    unfold J_L_isLaid_187
    rw [aP5 hp f1]
    by_cases c : yH (oL M) p = 2
    · rw [if_pos (show nI (yH (oL M) p) = (2 : Int32) by rw [c]; rfl), if_pos c]
      exact J203 a 1 R
    · rw [if_neg (show ¬ nI (yH (oL M) p) = (2 : Int32) from fun q => c ((nI_eq (b := 2) (by omega) (by decide)).mp q)), if_neg c]
      exact J203 a 0 R
  rw [L_L_isLaid_90_s, if_neg (nI_ge hp (by omega)), if_neg (by decide), aP2 hp f1]
  by_cases c : tBG (yT (oL M)) p = 0
  · rw [if_pos (show nI (tBG (yT (oL M)) p) = (0 : Int32) by rw [c]; rfl), if_pos c]
    exact J187 1 _
  · rw [if_neg (nI_ne0 (by omega) (by omega)), if_neg c]
    exact J187 0 _
theorem laid_loop {M : ObjT} (ok : OKL (oL M)) (K : RecT) : ∀ (d n p : Nat), p + d = tP (yT (oL M)) → d < n →
    L_L_isLaid_90 K M (nI (tP (yT (oL M)))) n (nI p) 1 (nI (zP (oL M) p)) (nI (sumN (fun p => if yH (oL M) p = 2 then 1 else 0) p)) (nI (sumN (fun p => if tBG (yT (oL M)) p = 0 then 1 else 0) p)) (nI (sumN (tBG (yT (oL M))) p)) (nI (sumN (blN (oL M)) p)) (nI (sumN (tUS (yT (oL M))) p)) =
    K (nI (tP (yT (oL M)))) 1 (nI (zP (oL M) (tP (yT (oL M))))) (nI (sumN (fun p => if yH (oL M) p = 2 then 1 else 0) (tP (yT (oL M))))) (nI (sumN (fun p => if tBG (yT (oL M)) p = 0 then 1 else 0) (tP (yT (oL M))))) (nI (sumN (tBG (yT (oL M))) (tP (yT (oL M))))) (nI (sumN (blN (oL M)) (tP (yT (oL M))))) (nI (sumN (tUS (yT (oL M))) (tP (yT (oL M)))))
  | _, 0, _, _, h => absurd h (by omega)
  | 0, n + 1, p, hp, _ => by
    have hP := (lay_s ok).2.1
    have hN := ok.2.1
    have e : p = tP (yT (oL M)) := by omega
    rw [e, L_L_isLaid_90_s, if_pos (nI_le (Nat.le_refl _) (by omega))]
  | d + 1, n + 1, p, hp, hn => by
    rw [laid_step ok (by omega), nI_add, nI_add, nI_add, nI_add, nI_add]
    exact laid_loop ok K d n (p + 1) (by omega) (by omega)
theorem isLaid_ok {M : ObjT} (ok : OKL (oL M)) : f_L_isLaid M = some 1 := by
  have hF := FU_big
  have hN := ok.2.1
  obtain ⟨s1, s2, s3, s4, s5, s6, s7, s8⟩ := lay_s ok
  obtain ⟨q1, q2, -⟩ := lay_q ok
  have ez : zP (oL M) (tP (yT (oL M))) = yZ (oL M) := s5.symm
  have z0 : zP (oL M) 0 = 1 := if_pos (fun q hq => absurd hq (Nat.not_lt_zero q))
  have J85 : J_L_isLaid_85 M 1 = some 1 := by
    unfold J_L_isLaid_85
    have := laid_loop ok (fun (i9_90 : Int32) (i8_90 : Int32) (i7_90 : Int32) (i6_90 : Int32) (i5_90 : Int32) (i4_90 : Int32) (i3_90 : Int32) (i2_90 : Int32) => if i8_90 = 0 then (some 0) else (if i2_90 = (aCount M 6) then (if i3_90 = (aCount M 7) then (if i4_90 = (aCount M 3) then (if i5_90 = (aCount M 10) then (if i6_90 = (aCount M 12) then (if i7_90 = (aCount M 9) then (if i7_90 = 1 then (some 1) else (if (aCount M 8) = 10 then (some 1) else (some 0))) else (some 0)) else (some 0)) else (some 0)) else (some 0)) else (some 0)) else (some 0))) (tP (yT (oL M))) FU 0 (by omega) (by omega)
    rw [z0] at this
    rw [aC4]
    refine this.trans ?_
    rw [if_neg (by decide), aC6, if_pos (by rw [q1]), aC7, if_pos rfl, aC3, if_pos (by rw [q2]), aC10, if_pos rfl, aC12, if_pos rfl, aC9, if_pos (by rw [ez]), ez, aC8]
    rcases s8 with c | c
    · rw [if_pos (show nI (yZ (oL M)) = (1 : Int32) by rw [c]; rfl)]
    · by_cases d : nI (yZ (oL M)) = (1 : Int32)
      · rw [if_pos d]
      · rw [if_neg d, if_pos (show nI (yI (oL M)) = (10 : Int32) by rw [c]; rfl)]
  have J57 : J_L_isLaid_57 M 1 1 = some 1 ∧ J_L_isLaid_57 M 0 0 = some 1 := by
    unfold J_L_isLaid_57
    rw [if_pos rfl, if_pos rfl, aC8, if_neg (nI_nle (by omega) (by omega)), if_neg (show ¬ (11 : Int32) ≤ nI (yI (oL M)) from nI_ge (a := yI (oL M)) (b := 11) (by omega) (by decide))]
    exact ⟨J85, J85⟩
  unfold f_L_isLaid J_L_isLaid_44
  rw [aC5, aC4, aC3]
  have e5 : (nI (tP (yT (oL M))) + 1) / 2 = nI ((tP (yT (oL M)) + 1) / 2) := by
    rw [nI_1]
    exact pk_div (d := 2) (by omega) (by decide) (by decide)
  rw [e5, if_pos rfl]
  by_cases c : zN (oL M) = 0
  · have cp : tP (yT (oL M)) = 0 := by omega
    rw [cp, c, if_pos (show nI 0 = (0 : Int32) by decide), if_pos (show nI 0 = (0 : Int32) by decide)]
    exact J57.1
  · have cp := (s3.2.2.2.2 (by omega)).1
    have cp : 1 ≤ tP (yT (oL M)) := cp
    rw [if_neg (show ¬ nI (tP (yT (oL M))) = (0 : Int32) from nI_ne0 (by omega) (by omega)), if_neg (show ¬ nI (zN (oL M)) = (0 : Int32) from nI_ne0 (by omega) (by omega))]
    exact J57.2
/-! isKept -/
theorem isKept_ok {M : ObjT} (ok : OKL (oL M)) {e : Nat} (he : e < zN (oL M)) : f_L_isKept M (nI e) = some 1 := by
  have hN := ok.2.1
  obtain ⟨g1, g2, g3, g4⟩ := ent_f ok he
  have hpb : tBP (yT (oL M)) e < tP (yT (oL M)) := by omega
  obtain ⟨f1, f2, f3, f4, f5, f6, f7, f8, f9⟩ := page_f ok hpb
  obtain ⟨k1, k2, k3⟩ := (lay_q ok).2.2.2.2.2.2 e he
  have hG := ok.2.2.1 e he
  have hk := ok.1.2.2
  have hb : blN (oL M) (tBP (yT (oL M)) e) = zS (oL M) 0 - yH (oL M) (tBP (yT (oL M)) e) - tUS (yT (oL M)) (tBP (yT (oL M)) e) := rfl
  have e2k : (2 : Int32) * nI (zS (oL M) 2) = nI (2 * zS (oL M) 2) := pk_mul 2 _
  have J159 : J_L_isKept_159 (nI e) M = some 1 := by
    unfold J_L_isKept_159
    rw [aE1 he hN, aE2 he hN, aP3 hpb f1, aP4 hpb f1, aP5 hpb f1, aC0, pk_sub (by omega), nI_add, pk_sub (by omega), pk_sub (by omega), if_pos (by congr 1; omega)]
  unfold f_L_isKept
  rw [aE1 he hN, aE2 he hN, aE3 he hN, aE4 he hN, aP3 hpb f1, if_neg (nI_pos (by omega)), if_neg (nI_ge k1 (by omega)), pk_sub g1, nI_1, if_pos rfl]
  unfold J_L_isKept_87
  rw [aE0 he hN, aE1 he hN, aE2 he hN, aE3 he hN, aP3 hpb f1, aP1 hpb f1, aC2, pk_sub (by omega)]
  by_cases c : tEP (yT (oL M)) e = tBP (yT (oL M)) e
  · have := k2 c
    rw [if_pos (by rw [c]), if_neg (by decide), if_neg (nI_nlt this (by omega))]
  · obtain ⟨m1, m2, m3⟩ := k3 (by omega)
    rw [if_neg (fun q => c ((nI_eq (by omega) (by omega)).mp q)), if_neg (by decide), if_pos (by rw [m1]), if_neg (nI_ge m2 (by omega)), if_pos (nI_le m3 (by omega))]
    unfold J_L_isKept_146
    rw [aE0 he hN, aE1 he hN, aE2 he hN, aP3 hpb f1, aC2, e2k, pk_sub (by omega)]
    by_cases d : zG (oL M) e < 2 * zS (oL M) 2
    · rw [if_pos (nI_lt d (by omega))]
      exact J159
    · rw [if_neg (nI_nlt (by omega) (by omega)), if_neg (nI_nlt m3 (by omega))]
      exact J159
