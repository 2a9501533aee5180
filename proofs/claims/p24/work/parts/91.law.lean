/-! the law's body comes to 1 -/
theorem and_n (x : Int32) : ∃ n, n < 2 ^ 31 ∧ x &&& 2147483647 = nI n := by
  rcases sg_cases (x &&& 2147483647) with h | h
  · exfalso
    rw [i32_neg, ← Int32.toInt_toBitVec] at h
    have h1 : (x &&& 2147483647).toBitVec.toNat ≤ 2147483647 := by
      rw [Int32.toBitVec_and, BitVec.toNat_and]
      exact Nat.and_le_right
    rw [BitVec.toInt_eq_toNat_of_lt (by omega)] at h
    omega
  · exact h
theorem cell_n (nL : Nat) (xs : Nat → Int32) (k : Int32) : ∃ n, n < 2 ^ 31 ∧ cellF nL xs k = nI n := and_n _
theorem lay0 {l : LexT} (h : zN l = 0) : yI l = 1 ∧ yZ l = 1 ∧ tP (yT l) = 0 := by
  have e : lay l = (1, 1, fun _ => 1, l0) := by
    unfold lay layN
    rw [h]
    unfold lRes
    exact if_pos (fun p hp => absurd hp (Nat.not_lt_zero _))
  unfold yI yZ yT
  rw [e]
  exact ⟨rfl, rfl, rfl⟩
theorem rec6_last (h : List LexT) (l : LexT) : (rec6 h l).getLast? = some l := by
  unfold rec6
  split <;> exact List.getLast?_concat
theorem rec6_len (h : List LexT) (l : LexT) : (rec6 h l).length = if h.length < 6 then h.length + 1 else h.length := by
  unfold rec6
  split
  · rw [List.length_append]; rfl
  · rw [List.length_append, List.length_tail, List.length_singleton]; omega
theorem rec6_le {h : List LexT} {l : LexT} (hh : h.length ≤ 6) : (rec6 h l).length ≤ 6 := by
  rw [rec6_len]
  split <;> omega
def INV (lz : LexT) (M : ObjT) : Prop := OKL (oL M) ∧ (oP M).length ≤ 60 ∧ (oH M).length ≤ 6 ∧ oB M = some lz
section LAW
variable {lz : LexT} {R : Int32 → Int32 → ObjT → Option Int32} {nL k : Nat} {xs : Nat → Int32} {M M1 : ObjT} {v : Int64} {r : Int32 × ObjT}
theorem law_354 (hR : ∀ M, INV lz M → R (nI (k + 1)) 1 M = some 1) (ok0 : OKL (oL M)) (hv : ∀ M', oL M' = oL M → f_L_seen M' = some v) (i : INV lz M1) {w : Int64} (hw : ∀ M', oL M' = oL M1 → f_L_seen M' = some w) {n s : Int32} (hn : n = s) {hd : List LexT} (hl : hd.length ≤ 6) : J_L_law_354 R (nI k) v M1 w (n, (oL M, oP M1, hd, some (oL M1), oB M1)) s = some 1 := by
  have e2 : aRestore (oL M, oP M1, hd, some (oL M1), oB M1) 0 = (nI (zN (oL M1)), withL (oL M, oP M1, hd, some (oL M1), oB M1) (oL M1)) := if_pos rfl
  unfold J_L_law_354
  dsimp only
  rw [if_pos hn, bd_eq (hv (oL M, oP M1, hd, some (oL M1), oB M1) rfl), if_pos rfl, bd_eq (congrArg some e2)]
  dsimp only
  rw [aC3, if_pos rfl, bd_eq (hw (withL (oL M, oP M1, hd, some (oL M1), oB M1) (oL M1)) rfl), if_pos rfl, nI_1]
  exact hR _ ⟨i.1, i.2.1, rec6_le (h := hd) (l := oL M) hl, i.2.2.2⟩
theorem law_293 (hR : ∀ M, INV lz M → R (nI (k + 1)) 1 M = some 1) (ok0 : OKL (oL M)) (hh : (oH M).length ≤ 6) (hv : ∀ M', oL M' = oL M → f_L_seen M' = some v) (i : INV lz M1) (hr : r.1 = 1 → oH M1 = rec6 (oH M) (oL M)) : J_L_law_293 R nL xs (nI k) M v r M1 1 = some 1 := by
  unfold J_L_law_293
  rw [if_neg (show ¬ (1 : Int32) = 0 by decide)]
  by_cases c : r.1 = 1
  · rw [if_pos c]
    by_cases d : (remI ((cellF nL xs (2 * nI k)) / 13) 3) = 0
    · obtain ⟨w, hw⟩ := seen_ok i.1.2.1
      have e1 : aSave M1 0 = (nI (zN (oL M1)), (oL M1, oP M1, oH M1, some (oL M1), oB M1)) := if_pos rfl
      have e2 : aUndo (oL M1, oP M1, oH M1, some (oL M1), oB M1) = (nI ((oH M1).length - 1), (oL M, oP M1, (oH M1).dropLast, some (oL M1), oB M1)) := by
        have e3 : (oH M1).getLast? = some (oL M) := by rw [hr c]; exact rec6_last _ _
        unfold aUndo
        show (match (oH M1).getLast? with | none => _ | some l => _) = _
        rw [e3]
      have hd : (oH M1).dropLast.length ≤ 6 := by rw [List.length_dropLast]; have := i.2.2.1; omega
      have hlen := rec6_len (oH M) (oL M)
      rw [if_pos d, bd_eq (hw M1 rfl), bd_eq (congrArg some e1)]
      dsimp only
      rw [aC3, if_pos rfl, bd_eq (congrArg some e2), aC14]
      by_cases q : (oH M).length < 6
      · rw [if_neg (show ¬ (6 : Int32) ≤ nI (oH M).length from nI_ge (b := 6) q (by decide))]
        rw [if_pos q] at hlen
        exact law_354 hR ok0 hv i hw (by rw [hr c, hlen, Nat.add_sub_cancel]) hd
      · rw [if_pos (show (6 : Int32) ≤ nI (oH M).length from nI_le (a := 6) (by omega) (by omega))]
        rw [if_neg q] at hlen
        exact law_354 hR ok0 hv i hw (by rw [hr c, hlen, show (oH M).length = 6 by omega]; rfl) hd
    · rw [if_neg d, nI_1]
      exact hR _ i
  · rw [if_neg c, nI_1]
    exact hR _ i
theorem law_268 (hR : ∀ M, INV lz M → R (nI (k + 1)) 1 M = some 1) (ok0 : OKL (oL M)) (hh : (oH M).length ≤ 6) (hv : ∀ M', oL M' = oL M → f_L_seen M' = some v) (i : INV lz r.2) (hr : r.1 = 1 → oH r.2 = rec6 (oH M) (oL M)) : J_L_law_268 R nL xs (nI k) M v r = some 1 := by
  unfold J_L_law_268
  by_cases c : remI (nI k) 6 = 5
  · obtain ⟨x, hx, ex⟩ := cell_n nL xs (2 * nI k)
    have e6 : nI x / 6 = nI (x / 6) := div_n (d := 6) hx (by decide) (by decide)
    have h60 := i.2.1
    rw [if_pos c, ex, e6, bd_eq (refuses_ok i.1 (by omega) (show x / 6 < 2 ^ 31 by omega))]
    dsimp only
    rw [if_neg (show ¬ (1 : Int32) = 0 by decide)]
    unfold J_L_law_288
    exact law_293 (M1 := withP r.2 []) hR ok0 hh hv ⟨i.1, Nat.zero_le _, i.2.2⟩ hr
  · rw [if_neg c]
    unfold J_L_law_288
    exact law_293 hR ok0 hh hv i hr
theorem law_231 (hR : ∀ M, INV lz M → R (nI (k + 1)) 1 M = some 1) (ok0 : OKL (oL M)) (hh : (oH M).length ≤ 6) (hv : ∀ M', oL M' = oL M → f_L_seen M' = some v) (i : INV lz r.2) (hr : r.1 = 1 → oH r.2 = rec6 (oH M) (oL M)) : J_L_law_231 R nL xs (nI k) M v r = some 1 := by
  have hN := i.1.2.1
  have z := law_268 (nL := nL) (xs := xs) hR ok0 hh hv i hr
  unfold J_L_law_231
  rw [bd_eq (isOrdered_ok i.1), if_neg (show ¬ (1 : Int32) = 0 by decide), bd_eq (isLaid_ok i.1), if_neg (show ¬ (1 : Int32) = 0 by decide)]
  by_cases c : zN (oL r.2) = 0
  · rw [if_pos (cnt0 c)]
    exact z
  · obtain ⟨y, hy, ey⟩ := cell_n nL xs ((2 * nI k) + 1)
    have er : remI (nI y) (nI (zN (oL r.2))) = nI (y % zN (oL r.2)) := rem_n hy (by omega) (by omega)
    have hn : ¬ nI (zN (oL r.2)) = 0 := nI_ne0 (by omega) (by omega)
    rw [aC3, if_neg hn, gd_t (by rw [Bool.not_eq_true']; exact beq_eq_false_iff_ne.mpr hn), ey, er, bd_eq (isKept_ok i.1 (Nat.mod_lt _ (by omega))), if_neg (show ¬ (1 : Int32) = 0 by decide)]
    exact z
theorem law_step {K : Int32 → Int32 → ObjT → Option Int32} (hk : k < 40) {n : Nat} (hR : ∀ M, INV lz M → L_L_law_118 K nL xs n (nI (k + 1)) 1 M = some 1) (i : INV lz M) : L_L_law_118 K nL xs (n + 1) (nI k) 1 M = some 1 := by
  obtain ⟨ok, hq, hh, hb⟩ := id i
  obtain ⟨v, hv⟩ := seen_ok ok.2.1
  obtain ⟨x, hx, ex⟩ := cell_n nL xs (2 * nI k)
  obtain ⟨y, hy, ey⟩ := cell_n nL xs ((2 * nI k) + 1)
  have e2 : (2 : Int32) * nI k = nI (2 * k) := (Int32.ofNat_mul 2 k).symm
  have g1 : decide ((0 : Int32) ≤ 2 * nI k) = true := decide_eq_true (by rw [e2]; exact nI_le (a := 0) (by omega) (by omega))
  have g2 : decide ((0 : Int32) ≤ 2 * nI k + 1) = true := decide_eq_true (by rw [e2, nI_1]; exact nI_le (a := 0) (by omega) (by omega))
  obtain ⟨r, M', ea, ok', hq', hA, hB, hc⟩ := act_ok ok hq hx hy
  rw [L_L_law_118_s, if_neg (show ¬ (40 : Int32) ≤ nI k from nI_ge (b := 40) hk (by decide)), if_neg (show ¬ (1 : Int32) = 0 by decide), gd_t g1, gd_t g2, bd_eq (hv M rfl)]
  rw [ex, ey, bd_eq ea]
  dsimp only
  rcases hc with ⟨rfl, hl, hH⟩ | ⟨rfl, hH⟩
  · have i' : INV lz M' := ⟨ok', hq', by rw [hH]; exact hh, hB.trans hb⟩
    rw [if_neg (show ¬ (0 : Int32) < 0 by decide), if_pos rfl, aC14, aC14, hH, if_pos rfl, bd_eq (hv M' hl), if_pos rfl]
    exact law_231 (r := (0, M')) hR ok hh hv i' (fun q => absurd (show (0 : Int32) = 1 from q) (by decide))
  · have i' : INV lz M' := ⟨ok', hq', by rw [hH]; exact rec6_le hh, hB.trans hb⟩
    have z := law_231 (nL := nL) (xs := xs) (r := (1, M')) hR ok hh hv i' (fun _ => hH)
    have hlen := rec6_len (oH M) (oL M)
    rw [if_neg (show ¬ (1 : Int32) < 0 by decide), if_neg (show ¬ (1 : Int32) = 0 by decide), aC14 (M := M)]
    unfold J_L_law_228
    by_cases q : (oH M).length < 6
    · rw [if_pos q] at hlen
      rw [if_neg (show ¬ (6 : Int32) ≤ nI (oH M).length from nI_ge (b := 6) q (by decide))]
      dsimp only
      rw [aC14, hH, hlen, nI_1, if_pos rfl]
      exact z
    · rw [if_neg q] at hlen
      rw [if_pos (show (6 : Int32) ≤ nI (oH M).length from nI_le (a := 6) (by omega) (by omega))]
      dsimp only
      rw [aC14, hH, hlen, show (oH M).length = 6 by omega, if_pos (show nI 6 = (6 : Int32) from rfl)]
      exact z
theorem law_all {K : Int32 → Int32 → ObjT → Option Int32} (hK : ∀ M, INV lz M → K (nI 40) 1 M = some 1) : ∀ (d n k : Nat) (M : ObjT), k + d = 40 → d < n → INV lz M → L_L_law_118 K nL xs n (nI k) 1 M = some 1
  | _, 0, _, _, _, h, _ => absurd h (by omega)
  | 0, n + 1, k, M, hk, _, i => by
    rw [L_L_law_118_s, show k = 40 by omega, if_pos (show (40 : Int32) ≤ nI 40 by decide)]
    exact hK M i
  | d + 1, n + 1, k, M, hk, hn, i => law_step (by omega) (fun M i => law_all hK d n (k + 1) M (by omega) (by omega) i) i
theorem law_end (hz : zN lz = 0) (okz : OKL lz) (i : INV lz M) : (if (1 : Int32) = 0 then (some 0) else (Option.bind (some (aRestore M 1)) (fun (r_405 : Int32 × ObjT) => if r_405.1 = 0 then (if (aCount r_405.2 4) = 0 then (Option.bind (some (aUndo r_405.2)) (fun (r_420 : Int32 × ObjT) => if r_420.1 < 0 then (some 0) else (Option.bind (f_L_isLaid r_420.2) (fun (r_427 : Int32) => if r_427 = 0 then (some 0) else (some 1))))) else (some 0)) else (some 0)))) = some (1 : Int32) := by
  obtain ⟨ok, hq, hh, hb⟩ := id i
  have e1 : aRestore M 1 = (nI (zN lz), withL M lz) := by
    unfold aRestore
    rw [if_neg (by decide), if_pos rfl, hb]
    rfl
  have e2 : aUndo (withL M lz) = (nI ((rec6 (oH M) (oL M)).length - 1), (oL M, oP M, (rec6 (oH M) (oL M)).dropLast, oA M, oB M)) := by
    unfold aUndo
    show (match (rec6 (oH M) (oL M)).getLast? with | none => _ | some l => _) = _
    rw [rec6_last]
    rfl
  have h6 := rec6_le (l := oL M) hh
  have e4 : aCount (withL M lz) 4 = 0 := by
    rw [aC4]
    show nI (tP (yT lz)) = 0
    rw [(lay0 hz).2.2]
    rfl
  rw [if_neg (show ¬ (1 : Int32) = 0 by decide), bd_eq (congrArg some e1)]
  dsimp only
  rw [hz, if_pos (show nI 0 = (0 : Int32) from rfl), e4, if_pos rfl, bd_eq (congrArg some e2)]
  dsimp only
  rw [if_neg (show ¬ nI ((rec6 (oH M) (oL M)).length - 1) < (0 : Int32) from nI_nlt (b := 0) (by omega) (by omega)), bd_eq (isLaid_ok (M := (oL M, oP M, (rec6 (oH M) (oL M)).dropLast, oA M, oB M)) ok), if_neg (show ¬ (1 : Int32) = 0 by decide)]
end LAW
/-- the object as the constructor makes it -/
def lexA : LexT := (fun i => if i = 0 then 12 else if i = 1 then 12 else 2, 0, fun _ => 1, fun _ => [])
def objA : ObjT := (lexA, [], [], none, none)
theorem lexA_ok : OKL lexA := ⟨⟨⟨by decide, by decide⟩, ⟨by decide, by decide⟩, ⟨by decide, by decide⟩⟩, by decide, fun i hi => absurd hi (Nat.not_lt_zero i), fun i j _ hj => absurd hj (Nat.not_lt_zero j)⟩
theorem law_one (nL : Nat) (xs : Nat → Int32) : f_L_law objA nL xs = some 1 := by
  have hF := FU_big
  have hz : zN lexA = 0 := rfl
  have e1 : aUndo objA = (-5, objA) := rfl
  have e2 : aRestore objA 0 = (-5, objA) := rfl
  have e3 : aRestore objA 1 = (-5, objA) := rfl
  have c0 : aCount objA 0 = 12 := aC0
  have c1 : aCount objA 1 = 12 := aC1
  have c2 : aCount objA 2 = 2 := aC2
  have c8 : aCount objA 8 = 1 := by rw [aC8, show yI (oL objA) = 1 from (lay0 hz).1]; rfl
  have c9 : aCount objA 9 = 1 := by rw [aC9, show yZ (oL objA) = 1 from (lay0 hz).2.1]; rfl
  have f0 : f_L_refuses objA 0 = some (1, objA) := refuses_ok (M := objA) (x := 0) lexA_ok (by decide) (by decide)
  have f1 : f_L_refuses objA 1 = some (1, objA) := refuses_ok (M := objA) (x := 1) lexA_ok (by decide) (by decide)
  have e4 : aSave objA 1 = (0, (lexA, [], [], none, some lexA)) := rfl
  unfold f_L_law
  rw [bd_eq (congrArg some e1)]
  dsimp only
  rw [if_pos rfl, bd_eq (congrArg some e2)]
  dsimp only
  rw [if_pos rfl, bd_eq (congrArg some e3)]
  dsimp only
  rw [if_pos rfl, c0, c1, c2, c8, c9, if_pos rfl, if_pos rfl, if_pos rfl, if_pos rfl, if_pos rfl, bd_eq f0]
  dsimp only
  rw [if_neg (show ¬ (1 : Int32) = 0 by decide), bd_eq f1]
  dsimp only
  rw [if_neg (show ¬ (1 : Int32) = 0 by decide), bd_eq (congrArg some e4)]
  dsimp only
  rw [if_pos rfl]
  unfold J_L_law_115
  exact law_all (lz := lexA) (fun M i => law_end hz lexA_ok i) 40 FU 0 _ (by omega) (by omega) ⟨lexA_ok, Nat.zero_le _, Nat.zero_le _, rfl⟩
