/-! what is refused: nothing but the pad is another -/
theorem no_neg : ∀ k, k < 99 → ((-1 : Int32) - nI k).toInt < 0 := by decide +kernel
theorem no_last : ∀ n, n < 31 → (nI n - 1).toInt = (n : Int) - 1 := by decide +kernel
theorem rem_n {a d : Nat} (ha : a < 2 ^ 31) (h0 : 0 < d) (hd : d < 2 ^ 31) : remI (nI a) (nI d) = nI (a % d) := pk_rem ha h0 hd
theorem notW (q : List Nat) (h : q = [] ∨ 58 ∈ q) : ¬ isW q := by
  intro w
  rcases h with rfl | h
  · exact absurd w.1 (by decide)
  · have := (w.2.2 58 h).1
    omega
section RF
variable {M : ObjT} {r : Int32 × ObjT} {i s no : Int32}

theorem rf_545 (hs : s = -1 ∨ s = 2) : J_L_refusesAny_545 r s = some (1, r.2) := by
  unfold J_L_refusesAny_545
  have e : aRestore r.2 s = (-2, r.2) := by rcases hs with rfl | rfl <;> rfl
  rw [bd_eq (congrArg some e)]
  dsimp only
  rw [if_pos rfl]
theorem rf_525 (hs : s = -1 ∨ s = 2) : J_L_refusesAny_525 i M s = some (1, M) := by
  unfold J_L_refusesAny_525
  have e : aSave M s = (-2, M) := by rcases hs with rfl | rfl <;> rfl
  rw [bd_eq (congrArg some e)]
  dsimp only
  rw [if_pos rfl]
  by_cases c : remI i 2 = 0
  · rw [if_pos c]; exact rf_545 (r := (-2, M)) (Or.inl rfl)
  · rw [if_neg c]; exact rf_545 (r := (-2, M)) (Or.inr rfl)
theorem rf_505 (hs : s = -1 ∨ s = 2) : J_L_refusesAny_505 i M s = some (1, M) := by
  unfold J_L_refusesAny_505
  have e : aBestLines M s = some (-2) := by rcases hs with rfl | rfl <;> rfl
  rw [bd_eq e]
  rw [if_pos rfl]
  by_cases c : remI i 2 = 0
  · rw [if_pos c]; exact rf_525 (Or.inl rfl)
  · rw [if_neg c]; exact rf_525 (Or.inr rfl)
theorem rf_485 (hs : s = 0 ∨ s = 201) : J_L_refusesAny_485 i M s = some (1, M) := by
  unfold J_L_refusesAny_485
  have e : aLeastLines M s = some (-2) := by rcases hs with rfl | rfl <;> rfl
  rw [bd_eq e]
  rw [if_pos rfl]
  by_cases c : remI i 2 = 0
  · rw [if_pos c]; exact rf_505 (Or.inl rfl)
  · rw [if_neg c]; exact rf_505 (Or.inr rfl)
theorem rf_463 (hs : s = 0 ∨ s = 4) : J_L_refusesAny_463 i M s = some (1, M) := by
  unfold J_L_refusesAny_463
  have o : okV 2 s = false := by rcases hs with rfl | rfl <;> decide
  have e : aIfSet M 2 s = -2 := by unfold aIfSet; rw [o]; rfl
  rw [e]
  rw [if_pos rfl]
  by_cases c : remI i 2 = 0
  · rw [if_pos c]; exact rf_485 (Or.inl rfl)
  · rw [if_neg c]; exact rf_485 (Or.inr rfl)
theorem rf_442 (hs : s = 3 ∨ s = 31) : J_L_refusesAny_442 i M s = some (1, M) := by
  unfold J_L_refusesAny_442
  have o : okV 1 s = false := by rcases hs with rfl | rfl <;> decide
  have e : aIfSet M 1 s = -2 := by unfold aIfSet; rw [o]; rfl
  rw [e]
  rw [if_pos rfl]
  by_cases c : remI i 2 = 0
  · rw [if_pos c]; exact rf_463 (Or.inl rfl)
  · rw [if_neg c]; exact rf_463 (Or.inr rfl)
theorem rf_420 (hs : s = 5 ∨ s = 41) : J_L_refusesAny_420 i M s = some (1, M) := by
  unfold J_L_refusesAny_420
  have o : okV 0 s = false := by rcases hs with rfl | rfl <;> decide
  have e : aIfSet M 0 s = -2 := by unfold aIfSet; rw [o]; rfl
  rw [e]
  rw [if_pos rfl]
  by_cases c : remI i 2 = 0
  · rw [if_pos c]; exact rf_442 (Or.inl rfl)
  · rw [if_neg c]; exact rf_442 (Or.inr rfl)
theorem rf_396 (hs : s = -1 ∨ s = 3) : J_L_refusesAny_396 i M s = some (1, M) := by
  unfold J_L_refusesAny_396
  have o : okV s 6 = false := by rcases hs with rfl | rfl <;> decide
  have e : aIfSet M s 6 = -2 := by unfold aIfSet; rw [o]; rfl
  rw [e]
  rw [if_pos rfl]
  by_cases c : remI i 2 = 0
  · rw [if_pos c]; exact rf_420 (Or.inl rfl)
  · rw [if_neg c]; exact rf_420 (Or.inr rfl)
theorem rf_376 (hs : s = -1 ∨ s = 15) : J_L_refusesAny_376 i M s = some (1, M) := by
  unfold J_L_refusesAny_376
  have e : aCount M s = -2 := by rcases hs with rfl | rfl <;> rfl
  rw [e]
  rw [if_pos rfl]
  by_cases c : remI i 2 = 0
  · rw [if_pos c]; exact rf_396 (Or.inl rfl)
  · rw [if_neg c]; exact rf_396 (Or.inr rfl)
theorem rf_346 (hP : tP (yT (oL M)) ≤ 300) : J_L_refusesAny_346 i M s = some (1, M) := by
  unfold J_L_refusesAny_346
  have e1 : aFold M (aCount M 5) s = some (-1) := by
    unfold aFold
    rw [aC5, nI_toInt (by omega)]
    exact if_pos (Or.inr (Int.le_refl _))
  have e2 : aFold M (-1) 1 = some (-1) := if_pos (Or.inl (by decide))
  rw [bd_eq e1, if_pos rfl, bd_eq e2, if_pos rfl]
  by_cases c : remI i 2 = 0
  · rw [if_pos c]; exact rf_376 (Or.inl rfl)
  · rw [if_neg c]; exact rf_376 (Or.inr rfl)
theorem rf_290 (hP : tP (yT (oL M)) ≤ 300) (bad : no.toInt < 0 ∨ (zN (oL M) : Int) ≤ no.toInt) : J_L_refusesAny_290 i no M 1 = some (1, M) := by
  unfold J_L_refusesAny_290
  have e1 : aEntry M no (-1) = -1 := if_pos bad
  have e2 : aPage M (aCount M 4) (-1) = -1 := by
    unfold aPage aPageL
    rw [aC4, nI_toInt (by omega)]
    exact if_pos (Or.inr (Int.le_refl _))
  have e3 : aPage M (-1) 0 = -1 := by
    unfold aPage aPageL
    exact if_pos (Or.inl (by decide))
  rw [if_neg (show ¬ (1 : Int32) = 0 by decide), e1, e2, e3, if_pos rfl]
  by_cases c : remI i 2 = 0
  · rw [if_pos c]; exact rf_346 hP
  · rw [if_neg c]; exact rf_346 hP
theorem aFind_no (h : ¬ isW (oP M)) : aFind M = -3 := by
  unfold aFind
  exact if_neg h
theorem aRename_no (hN : zN (oL M) ≤ 30) (hc : ¬ aCount M 3 = 0) (h : ¬ isW (oP M)) : aRename M 0 = (-3, M) := by
  have c : zN (oL M) ≠ 0 := fun q => hc (by rw [aC3, q]; rfl)
  have e : inE (oL M) 0 = true := inE_t (e := 0) (by omega) hN
  unfold aRename
  rw [if_pos e]
  exact if_neg h
theorem aRename_bad (bad : no.toInt < 0 ∨ (zN (oL M) : Int) ≤ no.toInt) : aRename M no = (-1, M) := by
  unfold aRename
  rw [inE_f bad]
  rfl
theorem rf_259 (hP : tP (yT (oL M)) ≤ 300) (bad : no.toInt < 0 ∨ (zN (oL M) : Int) ≤ no.toInt) (hq : oP M = [97, 58, 53]) : J_L_refusesAny_259 i no M = some (1, withP M []) := by
  unfold J_L_refusesAny_259
  have nw : ¬ isW (oP M) := notW _ (Or.inr (by rw [hq]; decide))
  have e2 : aLookFor M = some (-3) := by
    unfold aLookFor
    exact if_neg nw
  have e3 : aWipe M = (3, withP M []) := by
    unfold aWipe
    rw [hq]
    rfl
  rw [aFind_no nw, if_pos rfl, bd_eq e2, if_pos rfl, bd_eq (congrArg some e3)]
  dsimp only
  rw [if_pos rfl]
  exact rf_290 (M := withP M []) hP bad
theorem rf_230 (hN : zN (oL M) ≤ 30) (hP : tP (yT (oL M)) ≤ 300) (bad : no.toInt < 0 ∨ (zN (oL M) : Int) ≤ no.toInt) (hq : oP M = []) : J_L_refusesAny_230 i no M = some (1, withP M []) := by
  unfold J_L_refusesAny_230
  have e1 : aPut M 6371893 = some (3, withP M [97, 58, 53]) := by
    unfold aPut
    rw [hq]
    rfl
  have z := rf_259 (i := i) (M := withP M [97, 58, 53]) hP bad rfl
  rw [bd_eq e1]
  dsimp only
  rw [if_pos rfl]
  by_cases c : aCount (withP M [97, 58, 53]) 3 = 0
  · rw [if_pos c]
    exact z
  · have e2 := aRename_no (M := withP M [97, 58, 53]) hN c (notW _ (Or.inr (show 58 ∈ [97, 58, 53] by decide)))
    rw [if_neg c, bd_eq (congrArg some e2)]
    dsimp only
    rw [if_pos rfl]
    exact z
theorem rf_154 (hN : zN (oL M) ≤ 30) (hP : tP (yT (oL M)) ≤ 300) (bad : no.toInt < 0 ∨ (zN (oL M) : Int) ≤ no.toInt) (hq : (oP M).length < 2 ^ 31) : J_L_refusesAny_154 i no M = some (1, withP M []) := by
  unfold J_L_refusesAny_154
  have e1 : aDrop M no = (-1, M) := by
    unfold aDrop
    rw [inE_f bad]
    rfl
  have e2 : aJoin M no = (-1, M) := if_neg (by omega)
  have e3 : aJoin M (aCount M 3 - 1) = (-1, M) := by
    unfold aJoin
    rw [aC3, no_last _ (by omega)]
    exact if_neg (by omega)
  have e4 : aWipe M = (nI (oP M).length, withP M []) := rfl
  have e5 : aRead (withP M []) = some (-3, withP M []) := aRead_nil rfl
  have e6 : aRename (withP M []) no = (-1, withP M []) := aRename_bad (M := withP M []) bad
  have z := rf_230 (i := i) (M := withP M []) hN hP bad rfl
  rw [bd_eq (congrArg some e1)]
  dsimp only
  rw [if_pos rfl, bd_eq (congrArg some e2)]
  dsimp only
  rw [if_pos rfl, bd_eq (congrArg some e3)]
  dsimp only
  rw [if_pos rfl, bd_eq (congrArg some e4)]
  dsimp only
  rw [if_neg (show ¬ nI (oP M).length < (0 : Int32) from nI_nlt (b := 0) (by omega) hq), bd_eq e5]
  dsimp only
  rw [if_pos rfl, bd_eq (congrArg some e6)]
  dsimp only
  rw [if_pos rfl]
  by_cases c : aCount (withP M []) 3 = 0
  · rw [if_pos c]
    exact z
  · have e7 := aRename_no (M := withP M []) hN c (notW _ (Or.inl rfl))
    rw [if_neg c, bd_eq (congrArg some e7)]
    dsimp only
    rw [if_pos rfl]
    exact z
theorem rf_146 (hr : r.2 = M) (hN : zN (oL M) ≤ 30) (hc : ¬ aCount M 3 = 0) (hP : tP (yT (oL M)) ≤ 300) (bad : no.toInt < 0 ∨ (zN (oL M) : Int) ≤ no.toInt) (hq : (oP M).length < 2 ^ 31) (hs : s = 0 ∨ s = 41) : J_L_refusesAny_146 i no r s = some (1, withP M []) := by
  unfold J_L_refusesAny_146
  have c : zN (oL M) ≠ 0 := fun q => hc (by rw [aC3, q]; rfl)
  have e : inE (oL M) 0 = true := inE_t (e := 0) (by omega) hN
  have e1 : aChange M 0 s = (-2, M) := by
    unfold aChange
    rw [if_pos e]
    exact if_neg (by rcases hs with rfl | rfl <;> decide)
  rw [hr, bd_eq (congrArg some e1)]
  dsimp only
  rw [if_pos rfl]
  exact rf_154 hN hP bad hq
theorem rf_105 (hr : r.2 = M) (hN : zN (oL M) ≤ 30) (hP : tP (yT (oL M)) ≤ 300) (bad : no.toInt < 0 ∨ (zN (oL M) : Int) ≤ no.toInt) (hq : (oP M).length < 2 ^ 31) (hs : s = 0 ∨ s = 4) : J_L_refusesAny_105 i no r s = some (1, withP M []) := by
  unfold J_L_refusesAny_105
  have o : okV 2 s = false := by rcases hs with rfl | rfl <;> decide
  have e1 : aSet M 2 s = (-2, M) := by unfold aSet; rw [o]; rfl
  have e2 : aChange M no 99 = (-1, M) := by
    unfold aChange
    rw [inE_f bad]
    rfl
  rw [hr, bd_eq (congrArg some e1)]
  dsimp only
  rw [if_pos rfl, bd_eq (congrArg some e2)]
  dsimp only
  rw [if_pos rfl]
  by_cases c : aCount M 3 = 0
  · rw [if_pos c]
    exact rf_154 hN hP bad hq
  · rw [if_neg c]
    by_cases d : remI i 2 = 0
    · rw [if_pos d]; exact rf_146 rfl hN c hP bad hq (Or.inl rfl)
    · rw [if_neg d]; exact rf_146 rfl hN c hP bad hq (Or.inr rfl)
theorem rf_84 (hr : r.2 = M) (hN : zN (oL M) ≤ 30) (hP : tP (yT (oL M)) ≤ 300) (bad : no.toInt < 0 ∨ (zN (oL M) : Int) ≤ no.toInt) (hq : (oP M).length < 2 ^ 31) (hs : s = 3 ∨ s = 31) : J_L_refusesAny_84 i no r s = some (1, withP M []) := by
  unfold J_L_refusesAny_84
  have o : okV 1 s = false := by rcases hs with rfl | rfl <;> decide
  have e1 : aSet M 1 s = (-2, M) := by unfold aSet; rw [o]; rfl
  rw [hr, bd_eq (congrArg some e1)]
  dsimp only
  rw [if_pos rfl]
  by_cases d : remI i 2 = 0
  · rw [if_pos d]; exact rf_105 rfl hN hP bad hq (Or.inl rfl)
  · rw [if_neg d]; exact rf_105 rfl hN hP bad hq (Or.inr rfl)
theorem rf_62 (hr : r.2 = M) (hN : zN (oL M) ≤ 30) (hP : tP (yT (oL M)) ≤ 300) (bad : no.toInt < 0 ∨ (zN (oL M) : Int) ≤ no.toInt) (hq : (oP M).length < 2 ^ 31) (hs : s = 5 ∨ s = 41) : J_L_refusesAny_62 i no r s = some (1, withP M []) := by
  unfold J_L_refusesAny_62
  have o : okV 0 s = false := by rcases hs with rfl | rfl <;> decide
  have e1 : aSet M 0 s = (-2, M) := by unfold aSet; rw [o]; rfl
  rw [hr, bd_eq (congrArg some e1)]
  dsimp only
  rw [if_pos rfl]
  by_cases d : remI i 2 = 0
  · rw [if_pos d]; exact rf_84 rfl hN hP bad hq (Or.inl rfl)
  · rw [if_neg d]; exact rf_84 rfl hN hP bad hq (Or.inr rfl)
theorem rf_38 (hN : zN (oL M) ≤ 30) (hP : tP (yT (oL M)) ≤ 300) (bad : no.toInt < 0 ∨ (zN (oL M) : Int) ≤ no.toInt) (hq : (oP M).length < 2 ^ 31) (hs : s = -1 ∨ s = 3) : J_L_refusesAny_38 i M no s = some (1, withP M []) := by
  unfold J_L_refusesAny_38
  have o : okV s 6 = false := by rcases hs with rfl | rfl <;> decide
  have e1 : aSet M s 6 = (-2, M) := by unfold aSet; rw [o]; rfl
  rw [bd_eq (congrArg some e1)]
  dsimp only
  rw [if_pos rfl]
  by_cases d : remI i 2 = 0
  · rw [if_pos d]; exact rf_62 rfl hN hP bad hq (Or.inl rfl)
  · rw [if_neg d]; exact rf_62 rfl hN hP bad hq (Or.inr rfl)
theorem rf_25 (hN : zN (oL M) ≤ 30) (hP : tP (yT (oL M)) ≤ 300) (bad : no.toInt < 0 ∨ (zN (oL M) : Int) ≤ no.toInt) (hq : (oP M).length < 2 ^ 31) : J_L_refusesAny_25 i M no = some (1, withP M []) := by
  unfold J_L_refusesAny_25
  by_cases d : remI i 2 = 0
  · rw [if_pos d]; exact rf_38 hN hP bad hq (Or.inl rfl)
  · rw [if_neg d]; exact rf_38 hN hP bad hq (Or.inr rfl)
end RF
theorem refusesAny_ok {M : ObjT} (ok : OKL (oL M)) (hq : (oP M).length < 2 ^ 31) {x : Nat} (hx : x < 2 ^ 31) : f_L_refusesAny M (nI x) = some (1, withP M []) := by
  have hN := ok.2.1
  have hP := (lay_s ok).2.1
  have e99 : remI (nI x) 99 = nI (x % 99) := rem_n (d := 99) hx (by decide) (by decide)
  unfold f_L_refusesAny
  rw [e99]
  by_cases d : remI (nI x) 2 = 0
  · rw [if_pos d]
    exact rf_25 hN (by omega) (Or.inl (no_neg _ (Nat.mod_lt _ (by decide)))) hq
  · rw [if_neg d, aC3, nI_add]
    exact rf_25 hN (by omega) (Or.inr (by rw [nI_toInt (by have := Nat.mod_lt x (show 99 > 0 by decide); omega)]; omega)) hq
theorem refuses_ok {M : ObjT} (ok : OKL (oL M)) (hq : (oP M).length < 2 ^ 31) {x : Nat} (hx : x < 2 ^ 31) : f_L_refuses M (nI x) = some (1, withP M []) := by
  obtain ⟨v, hv⟩ := seen_ok ok.2.1
  unfold f_L_refuses
  rw [bd_eq (hv M rfl), bd_eq (refusesAny_ok ok hq hx)]
  dsimp only
  rw [if_neg (show ¬ (1 : Int32) = 0 by decide), bd_eq (hv (withP M []) rfl), if_pos rfl, aC14, aC14]
  exact if_pos rfl
