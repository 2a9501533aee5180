/-! a word on the pad; one change -/
theorem shr_n (x : Nat) (hx : x < 2 ^ 31) (y : Int32) : ∃ m, m < 2 ^ 31 ∧ shrI (nI x) y = nI m := by
  rcases sg_cases (shrI (nI x) y) with h | ⟨m, hm, e⟩
  · exfalso
    rw [i32_neg] at h
    have e : (shrI (nI x) y).toInt = (nI x).toInt >>> ((y &&& 31).toBitVec.smod 32).toNat := by
      unfold shrI
      rw [← Int32.toInt_toBitVec, Int32.toBitVec_shiftRight]
      show (BitVec.sshiftRight _ _).toInt = _
      rw [BitVec.toInt_sshiftRight]
      rfl
    rw [e, nI_toInt hx, Int.shiftRight_eq_div_pow] at h
    have := Int.ediv_nonneg (a := (x : Int)) (b := ((2 ^ ((y &&& 31).toBitVec.smod 32).toNat : Nat) : Int)) (by omega) (Int.natCast_nonneg _)
    omega
  · exact ⟨m, hm, e⟩
theorem d64 : ∀ c, c < 127 → ((nI c).toInt64).toBitVec.toNat = c := by decide +kernel
theorem div_n {a d : Nat} (ha : a < 2 ^ 31) (h0 : 0 < d) (hd : d < 2 ^ 31) : nI a / nI d = nI (a / d) := pk_div ha h0 hd
theorem aPut_1 {M : ObjT} {c : Nat} (hc : 33 ≤ c ∧ c ≤ 126) {j : Int64} (hj : j.toBitVec.toNat = c) (hl : (oP M).length < 60) : aPut M j = some (nI ((oP M).length + 1), withP M (oP M ++ [c])) := by
  unfold aPut
  rw [hj]
  exact if_pos ⟨hc.1, hc.2, hl⟩
theorem word_62 {M : ObjT} {k c : Nat} (hc : c < 26) (hk : (oP M).length = k) (h60 : k < 60) (R : Int32 → Int32 → ObjT → Option (Int32 × ObjT)) : J_L_word_62 R (nI k) M (nI c) = R (nI (k + 1)) 1 (withP M (oP M ++ [97 + c])) := by
  have e : ((97 + nI c : Int32).toInt64).toBitVec.toNat = 97 + c := by
    have e1 : (97 : Int32) + nI c = nI (97 + c) := nI_add 97 c
    rw [e1]
    exact d64 _ (by omega)
  unfold J_L_word_62
  rw [bd_eq (aPut_1 (c := 97 + c) (by omega) e (by omega))]
  dsimp only
  rw [hk, nI_1, if_pos rfl]
theorem word_c {x k : Nat} (hx : x < 2 ^ 31) : ∃ c, c < 26 ∧ ∀ (R : Int32 → Int32 → ObjT → Option (Int32 × ObjT)) (M : ObjT), (if (remI (shrI (nI x) (3 + (2 * nI k))) 4) = 0 then (J_L_word_62 R (nI k) M (remI (shrI (nI x) (5 + nI k)) 26)) else (J_L_word_62 R (nI k) M (remI (shrI (nI x) (3 + nI k)) 3))) = J_L_word_62 R (nI k) M (nI c) := by
  obtain ⟨m1, h1, e1⟩ := shr_n x hx (5 + nI k)
  obtain ⟨m2, h2, e2⟩ := shr_n x hx (3 + nI k)
  have f1 : remI (nI m1) 26 = nI (m1 % 26) := rem_n (d := 26) h1 (by decide) (by decide)
  have f2 : remI (nI m2) 3 = nI (m2 % 3) := rem_n (d := 3) h2 (by decide) (by decide)
  rw [e1, e2, f1, f2]
  by_cases q : (remI (shrI (nI x) (3 + (2 * nI k))) 4) = 0
  · exact ⟨m1 % 26, Nat.mod_lt _ (by decide), fun R M => if_pos q⟩
  · exact ⟨m2 % 3, by have := Nat.mod_lt m2 (show 3 > 0 by decide); omega, fun R M => if_neg q⟩
theorem word_loop {x : Nat} (hx : x < 2 ^ 31) : ∀ (d k : Nat), k + d = 1 + x % 7 → ∃ ls : List Nat, ls.length = d ∧ (∀ c ∈ ls, 97 ≤ c ∧ c ≤ 122) ∧ ∀ (K : Int32 → Int32 → ObjT → Option (Int32 × ObjT)) (M : ObjT) (n : Nat), (oP M).length = k → d < n → L_L_word_15 K (nI x) n (nI k) 1 M = K (nI (k + d)) 1 (withP M (oP M ++ ls))
  | 0, k, hk => ⟨[], rfl, fun c h => absurd h List.not_mem_nil, fun K M n hM hn => by
    obtain ⟨n, rfl⟩ : ∃ n', n = n' + 1 := ⟨n - 1, by omega⟩
    have e7 : remI (nI x) 7 = nI (x % 7) := rem_n (d := 7) hx (by decide) (by decide)
    have e8 : (1 : Int32) + nI (x % 7) = nI (1 + x % 7) := nI_add 1 (x % 7)
    rw [L_L_word_15_s, e7, e8, if_pos (nI_le (by omega) (by omega)), List.append_nil]
    rfl⟩
  | d + 1, k, hk => by
    obtain ⟨c, hc, h1⟩ := word_c (k := k) hx
    obtain ⟨ls, h2, h3, h4⟩ := word_loop hx d (k + 1) (by omega)
    refine ⟨(97 + c) :: ls, by rw [List.length_cons, h2], fun z hz => ?_, fun K M n hM hn => ?_⟩
    · rcases List.mem_cons.mp hz with rfl | hz
      · omega
      · exact h3 z hz
    · obtain ⟨n, rfl⟩ : ∃ n', n = n' + 1 := ⟨n - 1, by omega⟩
      have e7 : remI (nI x) 7 = nI (x % 7) := rem_n (d := 7) hx (by decide) (by decide)
      have e8 : (1 : Int32) + nI (x % 7) = nI (1 + x % 7) := nI_add 1 (x % 7)
      have h7 := Nat.mod_lt x (show 7 > 0 by decide)
      rw [L_L_word_15_s, e7, e8, if_neg (nI_ge (by omega) (by omega)), if_neg (show ¬ (1 : Int32) = 0 by decide), h1, word_62 hc hM (by omega)]
      refine (h4 K (withP M (oP M ++ [97 + c])) n ?_ (by omega)).trans ?_
      · show (oP M ++ [97 + c]).length = k + 1
        rw [List.length_append, hM]
        rfl
      · have e9 : oP M ++ [97 + c] ++ ls = oP M ++ (97 + c) :: ls := by rw [List.append_assoc]; rfl
        show K (nI (k + 1 + d)) 1 (withP M (oP M ++ [97 + c] ++ ls)) = _
        rw [e9, show k + 1 + d = k + (d + 1) by omega]
theorem word_ok {x : Nat} (hx : x < 2 ^ 31) : ∃ ls, isW ls ∧ ∀ M : ObjT, (oP M).length < 2 ^ 31 → f_L_word M (nI x) = some (1, withP M ls) := by
  have hF := FU_big
  have h7 := Nat.mod_lt x (show 7 > 0 by decide)
  obtain ⟨ls, h1, h2, h3⟩ := word_loop hx (1 + x % 7) 0 (by omega)
  refine ⟨ls, ⟨by omega, by omega, h2⟩, fun M hM => ?_⟩
  have e4 : aWipe M = (nI (oP M).length, withP M []) := rfl
  unfold f_L_word
  rw [bd_eq (congrArg some e4)]
  dsimp only
  rw [if_neg (show ¬ nI (oP M).length < (0 : Int32) from nI_nlt (b := 0) (by omega) hM)]
  unfold J_L_word_12
  exact h3 _ (withP M []) FU rfl (by omega)
theorem wOf_back : ∀ ls : List Nat, (∀ x ∈ ls, 97 ≤ x ∧ x ≤ 122) → (wOf ls).map (fun x => 96 + x) = ls
  | [], _ => rfl
  | x :: t, h => by
    have := h x List.mem_cons_self
    show (96 + (x - 96)) :: (wOf t).map (fun x => 96 + x) = x :: t
    rw [wOf_back t (fun z hz => h z (List.mem_cons_of_mem _ hz)), show 96 + (x - 96) = x by omega]
theorem enc_w {ls : List Nat} (h : isW ls) (g : Nat) : encE (wOf ls) g = ls ++ 58 :: digs g := by
  unfold encE
  rw [wOf_back ls h.2.2]
theorem sumN_le {f : Nat → Nat} : ∀ (n : Nat) (e : Nat), e < n → f e ≤ sumN f n
  | 0, _, h => absurd h (Nat.not_lt_zero _)
  | n + 1, e, h => by
    rw [sumN_s]
    by_cases c : e = n
    · rw [c]; omega
    · have := sumN_le (f := f) n e (by omega)
      omega
theorem sumN_ins {f : Nat → Nat} {p x : Nat} : ∀ (n : Nat), p ≤ n → sumN (ins p x f) (n + 1) = sumN f n + x
  | 0, h => by
    obtain rfl : p = 0 := by omega
    rw [sumN_s, ins_eq]
    rfl
  | n + 1, h => by
    rw [sumN_s]
    by_cases c : p = n + 1
    · subst c
      rw [ins_eq, sumN_congr (f := ins (n + 1) x f) (g := f) (n + 1) (fun i hi => ins_lt hi)]
    · rw [ins_gt (by omega), sumN_ins (f := f) (p := p) (x := x) n (by omega), sumN_s, Nat.add_sub_cancel]
      omega
theorem sumN_dl {f : Nat → Nat} {e : Nat} : ∀ (n : Nat), e ≤ n → sumN (dl e f) n + f e = sumN f (n + 1)
  | 0, h => by
    obtain rfl : e = 0 := by omega
    rw [sumN_s]
    rfl
  | n + 1, h => by
    rw [sumN_s, sumN_s f (n + 1)]
    by_cases c : e = n + 1
    · subst c
      rw [dl_lt (by omega), sumN_congr (f := dl (n + 1) f) (g := f) n (fun i hi => dl_lt (by omega)), sumN_s f n]
    · have := sumN_dl (f := f) (e := e) n (by omega)
      rw [dl_ge (by omega)]
      omega
/-- a change's answer: refused, and nothing but the pad is another; or recorded -/
def AR (M : ObjT) (o : Option (Int32 × ObjT)) : Prop := ∃ r M', o = some (r, M') ∧ OKL (oL M') ∧ (oP M').length ≤ 60 ∧ oA M' = oA M ∧ oB M' = oB M ∧ ((r = 0 ∧ oL M' = oL M ∧ oH M' = oH M) ∨ (r = 1 ∧ oH M' = rec6 (oH M) (oL M)))
section ACT
variable {M : ObjT} {x y e : Nat}
theorem AR.no (ok : OKL (oL M)) {q : List Nat} (hq : q.length ≤ 60) : AR M (some (0, withP M q)) := ⟨0, withP M q, rfl, ok, hq, rfl, rfl, Or.inl ⟨rfl, rfl, rfl⟩⟩
theorem AR.id (ok : OKL (oL M)) (hq : (oP M).length ≤ 60) : AR M (some (0, M)) := ⟨0, M, rfl, ok, hq, rfl, rfl, Or.inl ⟨rfl, rfl, rfl⟩⟩
theorem AR.yes {l : LexT} (ok : OKL l) (hq : (oP M).length ≤ 60) : AR M (some (1, withL M l)) := ⟨1, withL M l, rfl, ok, hq, rfl, rfl, Or.inr ⟨rfl, rfl⟩⟩
theorem AR.yesP {l : LexT} (ok : OKL l) {q : List Nat} (hq : q.length ≤ 60) : AR M (some (1, withP (withL M l) q)) := ⟨1, withP (withL M l) q, rfl, ok, hq, rfl, rfl, Or.inr ⟨rfl, rfl⟩⟩
theorem cnt0 (h : zN (oL M) = 0) : aCount M 3 = 0 := by rw [aC3, h]; rfl
theorem cntn (h : e < zN (oL M)) (hN : zN (oL M) ≤ 30) : ¬ aCount M 3 = 0 := by rw [aC3]; exact nI_ne0 (by omega) (by omega)
theorem sumB (ok : OKL (oL M)) : ∀ n, n ≤ zN (oL M) → sumN (zG (oL M)) n ≤ 40 * n
  | 0, _ => Nat.le_refl _
  | n + 1, h => by
    have := ok.2.2.1 n h
    have := sumB ok n (by omega)
    rw [sumN_s]
    omega
/-- another number of lines -/
theorem act_268 (ok : OKL (oL M)) (hq : (oP M).length ≤ 60) (hy : y < 2 ^ 31) (h : (zN (oL M) = 0 ∧ e = 0) ∨ e < zN (oL M)) : AR M (if aCount M 3 = 0 then J_L_act_268 (nI y) M (nI e) 0 else J_L_act_268 (nI y) M (nI e) (aEntry M (nI e) 0)) := by
  have hN := ok.2.1
  unfold J_L_act_268
  rcases h with ⟨h0, -⟩ | h
  · have e1 : ∀ v, aChange M (nI e) v = (-1, M) := fun v => by
      unfold aChange
      rw [inE_f (by rw [h0]; omega)]
      rfl
    rw [if_pos (cnt0 h0), e1, bd_eq rfl]
    dsimp only
    rw [if_pos (cnt0 h0), if_pos rfl]
    exact AR.id ok hq
  · have e3 : nI y / 3 = nI (y / 3) := div_n (d := 3) hy (by decide) (by decide)
    have e4 : remI (nI (y / 3)) 40 = nI (y / 3 % 40) := rem_n (d := 40) (by omega) (by decide) (by decide)
    have h40 := Nat.mod_lt (y / 3) (show 40 > 0 by decide)
    have e5 : (1 : Int32) + nI (y / 3 % 40) = nI (1 + y / 3 % 40) := nI_add 1 _
    generalize hg : y / 3 % 40 = g at *
    have e1 : aChange M (nI e) (nI (1 + g)) = (nI (zG (oL M) e), withL M (chgL (oL M) e (1 + g))) := by
      unfold aChange
      rw [if_pos (inE_t h hN), if_pos (by rw [nI_toInt (by omega)]; omega), tn (e := e) (by omega), tn (e := 1 + g) (by omega)]
    have s1 := sumN_put1 (f := zG (oL M)) (q := e) (x := 1 + g) (zN (oL M)) h
    have s2 := sumN_le (f := zG (oL M)) _ _ h
    have e6 : aCount (withL M (chgL (oL M) e (1 + g))) 6 = nI (sumN (put1 e (1 + g) (zG (oL M))) (zN (oL M))) := aC6
    rw [if_neg (cntn h hN), aE0 h hN, e3, e4, e5, bd_eq (congrArg some e1)]
    dsimp only
    rw [if_neg (cntn h hN), if_pos rfl, e6, aC6 (M := M), pk_sub s2, nI_1, nI_add, if_pos (congrArg nI (by omega))]
    exact AR.yes ⟨ok.1, ok.2.put1 (by omega)⟩ hq
/-- an entry goes -/
theorem act_365 (ok : OKL (oL M)) (hq : (oP M).length ≤ 60) (h : (zN (oL M) = 0 ∧ e = 0) ∨ e < zN (oL M)) : AR M (if aCount M 3 = 0 then J_L_act_365 M (nI e) 0 else J_L_act_365 M (nI e) (aEntry M (nI e) 0)) := by
  have hN := ok.2.1
  unfold J_L_act_365
  rcases h with ⟨h0, -⟩ | h
  · have e1 : aDrop M (nI e) = (-1, M) := by
      unfold aDrop
      rw [inE_f (by rw [h0]; omega)]
      rfl
    rw [if_pos (cnt0 h0), e1, bd_eq rfl]
    dsimp only
    rw [if_pos (cnt0 h0), if_pos rfl]
    exact AR.id ok hq
  · have e1 : aDrop M (nI e) = (nI (zG (oL M) e), withL M (delL (oL M) e)) := by
      unfold aDrop
      rw [if_pos (inE_t h hN), tn (e := e) (by omega)]
    have s1 := sumN_dl (f := zG (oL M)) (e := e) (zN (oL M) - 1) (by omega)
    rw [show zN (oL M) - 1 + 1 = zN (oL M) by omega] at s1
    have e3 : aCount (withL M (delL (oL M) e)) 3 = nI (zN (oL M) - 1) := aC3
    have e6 : aCount (withL M (delL (oL M) e)) 6 = nI (sumN (dl e (zG (oL M))) (zN (oL M) - 1)) := aC6
    have e7 : nI (zN (oL M)) - 1 = nI (zN (oL M) - 1) := pk_sub (b := 1) (by omega)
    rw [if_neg (cntn h hN), aE0 h hN, bd_eq (congrArg some e1)]
    dsimp only
    rw [if_neg (cntn h hN), if_pos rfl, e3, e6, aC3 (M := M), aC6 (M := M), e7, if_pos rfl, pk_sub (by omega), if_pos (congrArg nI (by omega))]
    exact AR.yes ⟨ok.1, ok.2.dl h⟩ hq
/-- two entries become one -/
theorem act_471 (ok : OKL (oL M)) (hq : (oP M).length ≤ 60) (h : (zN (oL M) = 0 ∧ e = 0) ∨ e < zN (oL M)) : AR M (if (aCount M 3) ≤ (nI e + 1) then (J_L_act_471 M (nI e) 0) else (J_L_act_471 M (nI e) ((aEntry M (nI e) 0) + (aEntry M (nI e + 1) 0)))) := by
  have hN := ok.2.1
  rw [nI_1, aC3]
  unfold J_L_act_471
  by_cases h1 : e + 1 < zN (oL M)
  · have g1 := ok.2.2.1 e (by omega)
    have g2 := ok.2.2.1 (e + 1) h1
    rw [if_neg (nI_ge h1 (by omega)), aE0 (by omega) hN, aE0 h1 hN, nI_add]
    have j0 : 0 ≤ (nI e).toInt ∧ (nI e).toInt + 1 < (zN (oL M) : Int) := by
      rw [nI_toInt (by omega)]
      omega
    have jn := tn (e := e) (by omega)
    by_cases c : zG (oL M) e + zG (oL M) (e + 1) ≤ 40
    · generalize hs : zG (oL M) e + zG (oL M) (e + 1) = s at *
      have e1 : aJoin M (nI e) = (nI s, withL M (delL (chgL (oL M) e s) (e + 1))) := by
        unfold aJoin
        rw [if_pos j0, jn, hs, if_pos c]
      have s1 := sumN_put1 (f := zG (oL M)) (q := e) (x := s) (zN (oL M)) (by omega)
      have s2 := sumN_dl (f := put1 e s (zG (oL M))) (e := e + 1) (zN (oL M) - 1) (by omega)
      rw [show zN (oL M) - 1 + 1 = zN (oL M) by omega, put1_ne (by omega)] at s2
      have ok' : OKL (delL (chgL (oL M) e s) (e + 1)) := ⟨ok.1, (ok.2.put1 (by omega)).dl h1⟩
      have e3 : aCount (withL M (delL (chgL (oL M) e s) (e + 1))) 3 = nI (zN (oL M) - 1) := aC3
      have e6 : aCount (withL M (delL (chgL (oL M) e s) (e + 1))) 6 = nI (sumN (dl (e + 1) (put1 e s (zG (oL M)))) (zN (oL M) - 1)) := aC6
      have e7 : nI (zN (oL M)) - 1 = nI (zN (oL M) - 1) := pk_sub (b := 1) (by omega)
      have e8 : aEntry (withL M (delL (chgL (oL M) e s) (e + 1))) (nI e) 0 = nI (dl (e + 1) (put1 e s (zG (oL M))) e) := aE0 (M := withL M (delL (chgL (oL M) e s) (e + 1))) (show e < zN (oL M) - 1 by omega) (show zN (oL M) - 1 ≤ 30 by omega)
      rw [bd_eq (congrArg some e1)]
      dsimp only
      rw [if_neg (nI_ne0 (by omega) (by omega)), if_pos (show nI s ≤ (40 : Int32) from nI_le (b := 40) c (by decide)), if_pos rfl, e3, aC3 (M := M), e7, if_pos rfl, e6, aC6 (M := M), if_pos (congrArg nI (by omega)), e8, dl_lt (by omega), put1_eq, if_pos rfl]
      exact AR.yes ok' hq
    · have e1 : aJoin M (nI e) = (-4, M) := by
        unfold aJoin
        rw [if_pos j0, jn, if_neg c]
      have n0 : ¬ nI (zG (oL M) e + zG (oL M) (e + 1)) = 0 := nI_ne0 (by omega) (by omega)
      rw [bd_eq (congrArg some e1)]
      dsimp only
      rw [if_neg n0, if_neg (show ¬ nI (zG (oL M) e + zG (oL M) (e + 1)) ≤ (40 : Int32) from nI_ge (b := zG (oL M) e + zG (oL M) (e + 1)) (a := 40) (by omega) (by omega))]
      unfold J_L_act_493 J_L_act_506
      rw [if_neg n0]
      dsimp only
      rw [if_pos rfl]
      exact AR.id ok hq
  · have e1 : aJoin M (nI e) = (-1, M) := by
      unfold aJoin
      rw [nI_toInt (by omega)]
      exact if_neg (by omega)
    rw [if_pos (nI_le (by omega) (by omega)), bd_eq (congrArg some e1)]
    dsimp only
    rw [if_pos rfl]
    unfold J_L_act_493 J_L_act_506
    rw [if_pos rfl]
    dsimp only
    rw [if_pos rfl]
    exact AR.id ok hq
/-- another value of a setting -/
theorem OKS.put1 {S : Nat → Nat} (ok : OKS S) {j v : Nat} (h : (j = 0 ∧ 6 ≤ v ∧ v ≤ 40) ∨ (j = 1 ∧ 4 ≤ v ∧ v ≤ 30) ∨ (j = 2 ∧ 1 ≤ v ∧ v ≤ 3)) : OKS (put1 j v S) := by
  rcases h with ⟨rfl, h⟩ | ⟨rfl, h⟩ | ⟨rfl, h⟩
  · exact ⟨by rw [put1_eq]; exact h, by rw [put1_ne (by omega)]; exact ok.2.1, by rw [put1_ne (by omega)]; exact ok.2.2⟩
  · exact ⟨by rw [put1_ne (by omega)]; exact ok.1, by rw [put1_eq]; exact h, by rw [put1_ne (by omega)]; exact ok.2.2⟩
  · exact ⟨by rw [put1_ne (by omega)]; exact ok.1, by rw [put1_ne (by omega)]; exact ok.2.1, by rw [put1_eq]; exact h⟩
theorem aC_k {M : ObjT} {j : Nat} (hj : j < 3) : aCount M (nI j) = nI (zS (oL M) j) := by
  rcases (show j = 0 ∨ j = 1 ∨ j = 2 by omega) with rfl | rfl | rfl
  · exact aC0
  · exact aC1
  · exact aC2
theorem act_781 (ok : OKL (oL M)) (hq : (oP M).length ≤ 60) {v : Nat} {s : Int32} (hs : s = nI v) {j : Nat} (ej : remI (nI y) 3 = nI j) (h : (j = 0 ∧ 6 ≤ v ∧ v ≤ 40) ∨ (j = 1 ∧ 4 ≤ v ∧ v ≤ 30) ∨ (j = 2 ∧ 1 ≤ v ∧ v ≤ 3)) : AR M (J_L_act_781 (nI y) M s) := by
  unfold J_L_act_781
  have hj : j < 3 := by omega
  have o : okV (nI j) (nI v) = true := by
    unfold okV
    rw [nI_toInt (by omega), nI_toInt (by omega)]
    exact decide_eq_true (by omega)
  have e0 : setL (oL M) (nI j) (nI v) = (put1 j v (zS (oL M)), zN (oL M), zG (oL M), zW (oL M)) := by
    unfold setL
    rw [tn (by omega), tn (by omega)]
  have e1 : aSet M (nI j) (nI v) = (nI (zS (oL M) j), withL M (put1 j v (zS (oL M)), zN (oL M), zG (oL M), zW (oL M))) := by
    unfold aSet
    rw [o, e0, if_pos rfl, tn (by omega)]
  have e2 : aIfSet M (nI j) (nI v) = nI (tP (yT (put1 j v (zS (oL M)), zN (oL M), zG (oL M), zW (oL M)))) := by
    unfold aIfSet
    rw [o, e0, if_pos rfl]
  have e3 : aCount (withL M (put1 j v (zS (oL M)), zN (oL M), zG (oL M), zW (oL M))) (nI j) = nI (put1 j v (zS (oL M)) j) := aC_k hj
  have e4 : aCount (withL M (put1 j v (zS (oL M)), zN (oL M), zG (oL M), zW (oL M))) 4 = nI (tP (yT (put1 j v (zS (oL M)), zN (oL M), zG (oL M), zW (oL M)))) := aC4
  have e6 : aCount (withL M (put1 j v (zS (oL M)), zN (oL M), zG (oL M), zW (oL M))) 6 = nI (sumN (zG (oL M)) (zN (oL M))) := aC6
  rw [hs, ej, bd_eq (congrArg some e1)]
  dsimp only
  rw [aC_k hj, if_pos rfl, e3, put1_eq, if_pos rfl, e4, e2, if_pos rfl, e6, aC6 (M := M), if_pos rfl]
  exact AR.yes ⟨ok.1.put1 h, ok.2⟩ hq
end ACT
