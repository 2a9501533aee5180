/-! one change: an entry is told, an entry gets another word; all of them -/
section ACT2
variable {M : ObjT} {x y e : Nat}
theorem aFind_w {ls : List Nat} (hw : isW ls) : aFind (withP M ls) = match findE (zW (oL M)) (wOf ls) (zN (oL M)) with
    | some e => nI e
    | none => -6 := by
  unfold aFind
  exact if_pos hw
theorem act_157 (ok : OKL (oL M)) {ls : List Nat} (hw : isW ls) {g : Nat} (hy : y < 2 ^ 31) (hg : g = 1 + y % 40) {w : List Nat} (he : w = wOf ls) (h60 : (encE w g).length ≤ 60) {r54 : Int32 × ObjT} (hr : r54.2 = withP M ls) {had : Int32} (hh : had = match findE (zW (oL M)) (wOf ls) (zN (oL M)) with
    | some e => nI (zG (oL M) e)
    | none => 0) : AR M (J_L_act_142 (nI y) M r54 had (withP M (encE w g)) 1) := by
  have hN := ok.2.1
  have g40 : 1 ≤ g ∧ g ≤ 40 := by have := Nat.mod_lt y (show 40 > 0 by decide); omega
  obtain ⟨w1, w2⟩ := wOf_ok hw
  rw [← he] at w1 w2 hh
  have er : aRead (withP M (encE w g)) = some (readL (withP M (encE w g)) w g) := aRead_ent w1 w2 g40 rfl
  have e4 : remI (nI y) 40 = nI (y % 40) := rem_n (d := 40) hy (by decide) (by decide)
  have e5 : (1 : Int32) + nI (y % 40) = nI g := by rw [hg]; exact nI_add 1 _
  have hf := aFind_w (M := M) hw
  rw [← he] at hf
  unfold J_L_act_142
  rw [if_neg (show ¬ (1 : Int32) = 0 by decide), bd_eq er]
  unfold J_L_act_157 J_L_act_194 J_L_act_210 readL
  rw [hr, hf, e4, e5, hh]
  rcases findE_s (zW (oL M)) w (zN (oL M)) with ⟨e, h1, h2, h3⟩ | ⟨h2, h3⟩
  · have et : tellL (oL (withP M (encE w g))) w g = some (zS (oL M), zN (oL M), put1 e g (zG (oL M)), zW (oL M)) := by
      unfold tellL
      show (match findE (zW (oL M)) w (zN (oL M)) with | some e => _ | none => _) = _
      rw [h3]
      rfl
    have s1 := sumN_put1 (f := zG (oL M)) (q := e) (x := g) (zN (oL M)) h1
    have e6 : aCount (withP (withL (withP M (encE w g)) (zS (oL M), zN (oL M), put1 e g (zG (oL M)), zW (oL M))) []) 6 = nI (sumN (put1 e g (zG (oL M))) (zN (oL M))) := aC6
    have e13 : aCount (withP (withL (withP M (encE w g)) (zS (oL M), zN (oL M), put1 e g (zG (oL M)), zW (oL M))) []) 13 = 0 := aC13
    rw [et, h3]
    dsimp only
    rw [if_pos (show (0 : Int32) ≤ nI e from nI_le (a := 0) (by omega) (by omega)), if_pos (show (0 : Int32) ≤ nI e from nI_le (a := 0) (by omega) (by omega)), aC3, if_pos rfl, e6, e13, aC6 (M := M), nI_add, pk_sub (by omega), if_pos (congrArg nI (by omega)), if_pos rfl]
    exact AR.yesP (l := (zS (oL M), zN (oL M), put1 e g (zG (oL M)), zW (oL M))) ⟨ok.1, ok.2.put1 g40⟩ (Nat.zero_le _)
  · by_cases c : zN (oL M) < 30
    · have et : tellL (oL (withP M (encE w g))) w g = some (zS (oL M), zN (oL M) + 1, ins (placeW (zW (oL M)) w (zN (oL M))) g (zG (oL M)), ins (placeW (zW (oL M)) w (zN (oL M))) w (zW (oL M))) := by
        unfold tellL
        show (match findE (zW (oL M)) w (zN (oL M)) with | some e => _ | none => _) = _
        rw [h3]
        exact if_pos c
      have hp := placeW_s ok.2 w (zN (oL M)) (Nat.le_refl _)
      generalize placeW (zW (oL M)) w (zN (oL M)) = p at *
      have s1 := sumN_ins (f := zG (oL M)) (p := p) (x := g) (zN (oL M)) hp.1
      have ok' : OKL (zS (oL M), zN (oL M) + 1, ins p g (zG (oL M)), ins p w (zW (oL M))) := ⟨ok.1, ok.2.ins c hp h2 w1 w2 g40⟩
      have e6 : aCount (withP (withL (withP M (encE w g)) (zS (oL M), zN (oL M) + 1, ins p g (zG (oL M)), ins p w (zW (oL M)))) []) 6 = nI (sumN (ins p g (zG (oL M))) (zN (oL M) + 1)) := aC6
      have e13 : aCount (withP (withL (withP M (encE w g)) (zS (oL M), zN (oL M) + 1, ins p g (zG (oL M)), ins p w (zW (oL M)))) []) 13 = 0 := aC13
      have e30 : ¬ nI (zN (oL M)) = (30 : Int32) := fun q => by have := (nI_eq (b := 30) (by omega) (by decide)).mp q; omega
      have e0 : nI (sumN (zG (oL M)) (zN (oL M)) + g) - 0 = nI (sumN (zG (oL M)) (zN (oL M)) + g) := pk_sub (b := 0) (Nat.zero_le _)
      rw [et, h3]
      dsimp only
      rw [if_neg (show ¬ (0 : Int32) ≤ -6 by decide), aC3, if_neg e30, if_neg (show ¬ (0 : Int32) ≤ -6 by decide), nI_1, if_pos rfl, e6, e13, aC6 (M := M), nI_add, e0, if_pos (congrArg nI (by omega)), if_pos rfl]
      exact AR.yesP ok' (Nat.zero_le _)
    · have h30 : zN (oL M) = 30 := by omega
      have et : tellL (oL (withP M (encE w g))) w g = none := by
        unfold tellL
        show (match findE (zW (oL M)) w (zN (oL M)) with | some e => _ | none => _) = _
        rw [h3]
        exact if_neg c
      have e13 : aCount (withP M (encE w g)) 13 = nI (encE w g).length := aC13
      have e14 : ¬ nI (encE w g).length ≤ (0 : Int32) := nI_ge (a := 0) (by
        unfold encE
        rw [List.length_append, List.length_cons]
        omega) (by omega)
      rw [et, h3]
      dsimp only
      rw [if_neg (show ¬ (0 : Int32) ≤ -6 by decide), aC3, h30, if_pos (show nI 30 = (30 : Int32) from rfl), if_pos rfl, e13, if_neg e14]
      exact AR.no ok h60
theorem dig_n (g : Nat) (hg : g < 100) : remI (nI g) 10 = nI (g % 10) ∧ nI g / 10 = nI (g / 10) := ⟨rem_n (d := 10) (by omega) (by decide) (by decide), div_n (d := 10) (by omega) (by decide) (by decide)⟩
theorem act_81 (ok : OKL (oL M)) {ls : List Nat} (hw : isW ls) (hy : y < 2 ^ 31) {had : Int32} (hh : had = match findE (zW (oL M)) (wOf ls) (zN (oL M)) with
    | some e => nI (zG (oL M) e)
    | none => 0) : AR M (J_L_act_81 (nI y) M (1, withP M ls) had) := by
  have g40 := Nat.mod_lt y (show 40 > 0 by decide)
  have e4 : remI (nI y) 40 = nI (y % 40) := rem_n (d := 40) hy (by decide) (by decide)
  have e5 : (1 : Int32) + nI (y % 40) = nI (1 + y % 40) := nI_add 1 _
  obtain ⟨hl1, hl7, -⟩ := id hw
  obtain ⟨d1, d2⟩ := dig_n (1 + y % 40) (by omega)
  have a58 : aPut (withP M ls) 58 = some (nI (ls.length + 1), withP M (ls ++ [58])) := aPut_1 (M := withP M ls) (c := 58) (by omega) (by decide) (show ls.length < 60 by omega)
  have fin : ∀ q : List Nat, q.length < 60 → q ++ [48 + (1 + y % 40) % 10] = ls ++ 58 :: digs (1 + y % 40) → AR M (J_L_act_121 (nI y) M (1, withP M ls) had (withP M q)) := fun q hq e => by
    have h10 := Nat.mod_lt (1 + y % 40) (show 10 > 0 by decide)
    have e9 : (48 : Int32) + nI ((1 + y % 40) % 10) = nI (48 + (1 + y % 40) % 10) := nI_add 48 _
    have a1 : aPut (withP M q) ((nI (48 + (1 + y % 40) % 10)).toInt64) = some (nI (q.length + 1), withP M (q ++ [48 + (1 + y % 40) % 10])) := aPut_1 (M := withP M q) (by omega) (d64 _ (by omega)) hq
    have hlen : (ls ++ 58 :: digs (1 + y % 40)).length ≤ 60 := by
      rw [← e, List.length_append]
      show q.length + 1 ≤ 60
      omega
    unfold J_L_act_121
    rw [e4, e5, d1, e9, bd_eq a1]
    dsimp only
    rw [if_neg (show ¬ nI (q.length + 1) ≤ (0 : Int32) from nI_ge (a := 0) (by omega) (by omega)), e, ← enc_w hw]
    rw [← enc_w hw] at hlen
    exact act_157 ok hw hy rfl rfl hlen rfl hh
  unfold J_L_act_81
  dsimp only
  rw [if_neg (show ¬ (1 : Int32) = 0 by decide), bd_eq a58]
  dsimp only
  rw [if_neg (show ¬ nI (ls.length + 1) ≤ (0 : Int32) from nI_ge (a := 0) (by omega) (by omega)), e4, e5]
  by_cases c : 1 + y % 40 < 10
  · rw [if_pos (show nI (1 + y % 40) < (10 : Int32) from nI_lt (b := 10) c (by decide))]
    refine fin (ls ++ [58]) (by rw [List.length_append]; show ls.length + 1 < 60; omega) ?_
    unfold digs
    rw [if_pos c, Nat.mod_eq_of_lt c, List.append_assoc]
    rfl
  · have h10 : (1 + y % 40) / 10 ≤ 4 := by omega
    have e9 : (48 : Int32) + nI ((1 + y % 40) / 10) = nI (48 + (1 + y % 40) / 10) := nI_add 48 _
    have a1 : aPut (withP M (ls ++ [58])) ((nI (48 + (1 + y % 40) / 10)).toInt64) = some (nI ((ls ++ [58]).length + 1), withP M (ls ++ [58] ++ [48 + (1 + y % 40) / 10])) := aPut_1 (M := withP M (ls ++ [58])) (by omega) (d64 _ (by omega)) (by show (ls ++ [58]).length < 60; rw [List.length_append]; show ls.length + 1 < 60; omega)
    have l1 : (ls ++ [58]).length = ls.length + 1 := by rw [List.length_append]; rfl
    rw [if_neg (show ¬ nI (1 + y % 40) < (10 : Int32) from nI_nlt (b := 10) (by omega) (by omega)), d2, e9, bd_eq a1]
    dsimp only
    rw [l1, if_neg (show ¬ nI (ls.length + 1 + 1) ≤ (0 : Int32) from nI_ge (a := 0) (by omega) (by omega))]
    refine fin (ls ++ [58] ++ [48 + (1 + y % 40) / 10]) (by rw [List.length_append, l1]; show ls.length + 1 + 1 < 60; omega) ?_
    unfold digs
    rw [if_neg c, List.append_assoc, List.append_assoc]
    rfl
/-- another word -/
theorem act_603 (ok : OKL (oL M)) (hx : x < 2 ^ 31) (h : (zN (oL M) = 0 ∧ e = 0) ∨ e < zN (oL M)) {ls : List Nat} (hw : isW ls) (hwd : ∀ M' : ObjT, (oP M').length < 2 ^ 31 → f_L_word M' (nI x / 12) = some (1, withP M' ls)) : AR M (if (aCount M 3) = 0 then (J_L_act_603 (nI x) M (nI e) (1, withP M ls) 0) else (J_L_act_603 (nI x) M (nI e) (1, withP M ls) (aEntry (withP M ls) (nI e) 0))) := by
  have hN := ok.2.1
  obtain ⟨w1, w2⟩ := wOf_ok hw
  have hl : ls.length ≤ 60 := by have := hw.2.1; omega
  unfold J_L_act_603
  rcases h with ⟨h0, -⟩ | h
  · have e1 : aRename (withP M ls) (nI e) = (-1, withP M ls) := aRename_bad (M := withP M ls) (by rw [show zN (oL (withP M ls)) = 0 from h0]; omega)
    rw [if_pos (cnt0 h0)]
    dsimp only
    rw [bd_eq (congrArg some e1), if_pos (cnt0 h0)]
    unfold J_L_act_630 J_L_act_648
    dsimp only
    rw [if_neg (show ¬ (1 : Int32) = 0 by decide), if_pos (cnt0 h0), if_pos rfl]
    exact AR.no ok hl
  · have en : aEntry (withP M ls) (nI e) 0 = nI (zG (oL M) e) := aE0 (M := withP M ls) h hN
    have hf := aFind_w (M := M) hw
    have done : (∀ i, i < zN (oL M) → i ≠ e → zW (oL M) i ≠ wOf ls) → aRename (withP M ls) (nI e) = (nI (placeW (dl e (zW (oL M))) (wOf ls) (zN (oL M) - 1)), withP (withL (withP M ls) (renL (oL M) e (wOf ls))) []) → AR M (J_L_act_658 (nI x) M (1, withP M ls) (nI (zG (oL M) e)) (aRename (withP M ls) (nI e))) := fun hno e1 => by
      have okd := ok.2.dl h
      have g1 := ok.2.2.1 e h
      have hp := placeW_s okd (wOf ls) (zN (oL M) - 1) (Nat.le_refl _)
      unfold renL at e1
      generalize placeW (dl e (zW (oL M))) (wOf ls) (zN (oL M) - 1) = p at *
      have hnd : ∀ i, i < zN (oL M) - 1 → dl e (zW (oL M)) i ≠ wOf ls := fun i hi => by
        by_cases q : i < e
        · rw [dl_lt q]
          exact hno i (by omega) (by omega)
        · rw [dl_ge (by omega)]
          exact hno (i + 1) (by omega) (by omega)
      have ok' : OKL (zS (oL M), zN (oL M) - 1 + 1, ins p (zG (oL M) e) (dl e (zG (oL M))), ins p (wOf ls) (dl e (zW (oL M)))) := ⟨ok.1, okd.ins (by omega) hp hnd w1 w2 ⟨g1.1, g1.2.1⟩⟩
      generalize hlq : ((zS (oL M), zN (oL M) - 1 + 1, ins p (zG (oL M) e) (dl e (zG (oL M))), ins p (wOf ls) (dl e (zW (oL M)))) : LexT) = l' at *
      have q2 : zN l' = zN (oL M) - 1 + 1 := by rw [← hlq]
      have q3 : zG l' = ins p (zG (oL M) e) (dl e (zG (oL M))) := by rw [← hlq]
      have q4 : zW l' = ins p (wOf ls) (dl e (zW (oL M))) := by rw [← hlq]
      have s1 := sumN_dl (f := zG (oL M)) (e := e) (zN (oL M) - 1) (by omega)
      rw [show zN (oL M) - 1 + 1 = zN (oL M) by omega] at s1
      have s2 := sumN_ins (f := dl e (zG (oL M))) (p := p) (x := zG (oL M) e) (zN (oL M) - 1) hp.1
      have a0 : aEntry (withP (withL (withP M ls) l') []) (nI p) 0 = nI (zG (oL M) e) := by
        refine (aE0 (M := withP (withL (withP M ls) l') []) (e := p) (show p < zN l' by rw [q2]; have := hp.1; omega) ok'.2.1).trans ?_
        show nI (zG l' p) = _
        rw [q3, ins_eq]
      have a6 : aCount (withP (withL (withP M ls) l') []) 6 = nI (sumN (zG (oL M)) (zN (oL M))) := by
        refine aC6.trans (congrArg nI ?_)
        show sumN (zG l') (zN l') = _
        rw [q2, q3]
        omega
      have a13 : aCount (withP (withL (withP M ls) l') []) 13 = 0 := aC13
      have awd : f_L_word (withP (withL (withP M ls) l') []) (nI x / 12) = some (1, withP (withL (withP M ls) l') ls) := hwd _ (Nat.zero_lt_of_lt (show 0 < 2 ^ 31 by decide))
      have af : aFind (withP (withL (withP M ls) l') ls) = nI p := by
        refine (aFind_w (M := withL (withP M ls) l') hw).trans ?_
        show (match findE (zW l') (wOf ls) (zN l') with | some e => nI e | none => -6) = _
        have hpn : p < zN l' := by rw [q2]; have := hp.1; omega
        have hpw : zW l' p = wOf ls := by rw [q4, ins_eq]
        rcases findE_s (zW l') (wOf ls) (zN l') with ⟨i, h1, h2, h3⟩ | ⟨h2, h3⟩
        · rw [h3]
          exact congrArg nI (w_one ok'.2 h1 hpn (h2.trans hpw.symm))
        · exact absurd hpw (h2 p hpn)
      unfold J_L_act_658
      rw [e1]
      dsimp only
      rw [if_neg (show ¬ (1 : Int32) = 0 by decide), if_neg (show ¬ nI p < (0 : Int32) from nI_nlt (b := 0) (by omega) (by have := hp.1; omega)), a0, if_pos rfl, a13, if_pos rfl, a6, aC6 (M := M), if_pos rfl, bd_eq awd]
      dsimp only
      rw [if_neg (show ¬ (1 : Int32) = 0 by decide), af, if_pos rfl]
      exact AR.yesP (M := M) ok' hl
    rw [if_neg (cntn h hN), en, bd_eq rfl, if_neg (cntn h hN)]
    dsimp only
    rw [hf]
    have hie := inE_t h hN
    have ht := tn (e := e) (by omega)
    have er : aRename (withP M ls) (nI e) = match findE (zW (oL M)) (wOf ls) (zN (oL M)) with
      | some i => if i = e then (nI (placeW (dl e (zW (oL M))) (wOf ls) (zN (oL M) - 1)), withP (withL (withP M ls) (renL (oL M) e (wOf ls))) []) else (-5, withP M ls)
      | none => (nI (placeW (dl e (zW (oL M))) (wOf ls) (zN (oL M) - 1)), withP (withL (withP M ls) (renL (oL M) e (wOf ls))) []) := by
      unfold aRename
      rw [ht]
      rw [if_pos (show inE (oL (withP M ls)) (nI e) = true from hie)]
      exact if_pos hw
    rcases findE_s (zW (oL M)) (wOf ls) (zN (oL M)) with ⟨i, h1, h2, h3⟩ | ⟨h2, h3⟩
    · rw [h3] at er ⊢
      dsimp only at er ⊢
      rw [if_neg (show ¬ nI i < (0 : Int32) from nI_nlt (b := 0) (by omega) (by omega))]
      by_cases c : i = e
      · rw [if_pos c] at er
        rw [if_pos (congrArg nI c)]
        exact done (fun j hj hje hw' => hje (by rw [← c]; exact w_one ok.2 hj h1 (hw'.trans h2.symm))) er
      · rw [if_neg c] at er
        rw [if_neg (fun q => c ((nI_eq (by omega) (by omega)).mp q)), er]
        unfold J_L_act_630 J_L_act_648
        dsimp only
        rw [if_neg (show ¬ (1 : Int32) = 0 by decide), if_neg (cntn h hN), if_pos rfl]
        exact AR.no ok hl
    · rw [h3] at er ⊢
      dsimp only at er ⊢
      rw [if_pos (show (-6 : Int32) < 0 by decide)]
      exact done (fun j hj _ => h2 j hj) er
theorem act_33 (ok : OKL (oL M)) (hq : (oP M).length ≤ 60) (hx : x < 2 ^ 31) (hy : y < 2 ^ 31) (h : (zN (oL M) = 0 ∧ e = 0) ∨ e < zN (oL M)) : AR M (J_L_act_33 (nI x) (nI y) M (nI e)) := by
  have hN := ok.2.1
  have e12 : remI (nI x) 12 = nI (x % 12) := rem_n (d := 12) hx (by decide) (by decide)
  have d12 : nI x / 12 = nI (x / 12) := div_n (d := 12) hx (by decide) (by decide)
  have hm := Nat.mod_lt x (show 12 > 0 by decide)
  have e3 : remI (nI y) 3 = nI (y % 3) := rem_n (d := 3) hy (by decide) (by decide)
  have d3 : nI y / 3 = nI (y / 3) := div_n (d := 3) hy (by decide) (by decide)
  have h3 := Nat.mod_lt y (show 3 > 0 by decide)
  obtain ⟨ls, hw, hwd⟩ := word_ok (x := x / 12) (by omega)
  have hN12 : ∀ k, k < 12 → (nI (x % 12) = nI k ↔ x % 12 = k) := fun k hk => nI_eq (by omega) (by omega)
  unfold J_L_act_33
  rw [e12]
  by_cases c6 : 6 ≤ x % 12
  · rw [if_pos (show (6 : Int32) ≤ nI (x % 12) from nI_le (a := 6) c6 (by omega))]
    by_cases q6 : x % 12 = 6
    · rw [if_pos (show nI (x % 12) = (6 : Int32) from congrArg nI q6)]
      exact act_268 ok hq hy h
    rw [if_neg (show ¬ nI (x % 12) = (6 : Int32) from fun q => q6 ((hN12 6 (by decide)).mp q))]
    by_cases q7 : x % 12 = 7
    · rw [if_pos (show nI (x % 12) = (7 : Int32) from congrArg nI q7)]
      exact act_365 ok hq h
    rw [if_neg (show ¬ nI (x % 12) = (7 : Int32) from fun q => q7 ((hN12 7 (by decide)).mp q))]
    by_cases q8 : x % 12 = 8
    · rw [if_pos (show nI (x % 12) = (8 : Int32) from congrArg nI q8)]
      exact act_471 ok hq h
    rw [if_neg (show ¬ nI (x % 12) = (8 : Int32) from fun q => q8 ((hN12 8 (by decide)).mp q))]
    by_cases q9 : x % 12 = 9
    · rw [if_pos (show nI (x % 12) = (9 : Int32) from congrArg nI q9), d12, bd_eq (hwd M (by omega))]
      exact act_603 ok hx h hw (fun M' hM' => by rw [d12]; exact hwd M' hM')
    rw [if_neg (show ¬ nI (x % 12) = (9 : Int32) from fun q => q9 ((hN12 9 (by decide)).mp q)), e3, d3]
    by_cases s0 : y % 3 = 0
    · have e35 : remI (nI (y / 3)) 35 = nI (y / 3 % 35) := rem_n (d := 35) (by omega) (by decide) (by decide)
      have a : (6 : Int32) + nI (y / 3 % 35) = nI (6 + y / 3 % 35) := nI_add 6 _
      have := Nat.mod_lt (y / 3) (show 35 > 0 by decide)
      rw [if_pos (show nI (y % 3) = (0 : Int32) from congrArg nI s0), e35, a]
      exact act_781 ok hq rfl e3 (by omega)
    rw [if_neg (show ¬ nI (y % 3) = (0 : Int32) from fun q => s0 ((nI_eq (b := 0) (by omega) (by decide)).mp q))]
    by_cases s1 : y % 3 = 1
    · have e27 : remI (nI (y / 3)) 27 = nI (y / 3 % 27) := rem_n (d := 27) (by omega) (by decide) (by decide)
      have a : (4 : Int32) + nI (y / 3 % 27) = nI (4 + y / 3 % 27) := nI_add 4 _
      have := Nat.mod_lt (y / 3) (show 27 > 0 by decide)
      rw [if_pos (show nI (y % 3) = (1 : Int32) from congrArg nI s1), e27, a]
      exact act_781 ok hq rfl e3 (by omega)
    have e33 : remI (nI (y / 3)) 3 = nI (y / 3 % 3) := rem_n (d := 3) (by omega) (by decide) (by decide)
    have a : (1 : Int32) + nI (y / 3 % 3) = nI (1 + y / 3 % 3) := nI_add 1 _
    have := Nat.mod_lt (y / 3) (show 3 > 0 by decide)
    rw [if_neg (show ¬ nI (y % 3) = (1 : Int32) from fun q => s1 ((nI_eq (b := 1) (by omega) (by decide)).mp q)), e33, a]
    exact act_781 ok hq rfl e3 (by omega)
  · rw [if_neg (show ¬ (6 : Int32) ≤ nI (x % 12) from nI_ge (b := 6) (by omega) (by decide)), d12, bd_eq (hwd M (by omega))]
    dsimp only
    rw [aFind_w hw]
    rcases findE_s (zW (oL M)) (wOf ls) (zN (oL M)) with ⟨i, h1, h2, h4⟩ | ⟨h2, h4⟩
    · rw [h4]
      dsimp only
      rw [if_pos (show (0 : Int32) ≤ nI i from nI_le (a := 0) (by omega) (by omega)), show aEntry (withP M ls) (nI i) 0 = nI (zG (oL M) i) from aE0 (M := withP M ls) h1 hN]
      exact act_81 ok hw hy (by rw [h4])
    · rw [h4]
      dsimp only
      rw [if_neg (show ¬ (0 : Int32) ≤ -6 by decide)]
      exact act_81 ok hw hy (by rw [h4])
theorem act_ok (ok : OKL (oL M)) (hq : (oP M).length ≤ 60) (hx : x < 2 ^ 31) (hy : y < 2 ^ 31) : AR M (f_L_act M (nI x) (nI y)) := by
  have hN := ok.2.1
  unfold f_L_act
  by_cases c : zN (oL M) = 0
  · rw [if_pos (cnt0 c)]
    exact act_33 (e := 0) ok hq hx hy (Or.inl ⟨c, rfl⟩)
  · have er : remI (nI y) (nI (zN (oL M))) = nI (y % zN (oL M)) := rem_n hy (by omega) (by omega)
    have hn : ¬ nI (zN (oL M)) = 0 := nI_ne0 (by omega) (by omega)
    rw [aC3, if_neg hn, er, gd_t (by rw [Bool.not_eq_true']; exact beq_eq_false_iff_ne.mpr hn)]
    exact act_33 ok hq hx hy (Or.inr (Nat.mod_lt _ (by omega)))
end ACT2
