/-! reading; slots; what would be; the pad; what is refused -/
theorem encE_inj : ∀ (w w' : List Nat) (r r' : List Nat), (∀ x ∈ w, 1 ≤ x ∧ x ≤ 26) → (∀ x ∈ w', 1 ≤ x ∧ x ≤ 26) → w.map (fun x => 96 + x) ++ 58 :: r = w'.map (fun x => 96 + x) ++ 58 :: r' → w = w' ∧ r = r'
  | [], [], r, r', _, _, h => ⟨rfl, (List.cons.inj h).2⟩
  | [], y :: w', r, r', _, hy, h => by
    have e : 58 = 96 + y := (List.cons.inj h).1
    have := hy y List.mem_cons_self
    omega
  | x :: w, [], r, r', hx, _, h => by
    have e : 96 + x = 58 := (List.cons.inj h).1
    have := hx x List.mem_cons_self
    omega
  | x :: w, y :: w', r, r', hx, hy, h => by
    obtain ⟨h1, h2⟩ := List.cons.inj h
    obtain ⟨a, b⟩ := encE_inj w w' r r' (fun z hz => hx z (List.mem_cons_of_mem _ hz)) (fun z hz => hy z (List.mem_cons_of_mem _ hz)) h2
    have h1 : 96 + x = 96 + y := h1
    have : x = y := by omega
    rw [this, a]
    exact ⟨rfl, b⟩
theorem digs_inj : ∀ g, g < 41 → ∀ g', g' < 41 → digs g = digs g' → g = g' := by decide +kernel
theorem isEnt_one {q : List Nat} {a b : List Nat × Nat} (ha : isEnt q a) (hb : isEnt q b) : a = b := by
  obtain ⟨a1, a2, a3, a4⟩ := ha
  obtain ⟨b1, b2, b3, b4⟩ := hb
  rw [a4] at b4
  obtain ⟨e1, e2⟩ := encE_inj _ _ _ _ a1.2 b1.2 b4
  exact Prod.ext e1 (digs_inj a.2 (by omega) b.2 (by omega) e2)
/-- what read does when the pad is one entry -/
def readL (M : ObjT) (w : List Nat) (g : Nat) : Int32 × ObjT := match tellL (oL M) w g with
  | some l => (nI (zN l), withP (withL M l) [])
  | none => (-4, M)
theorem encE_ne (w : List Nat) (g : Nat) : encE w g ≠ [] := by
  unfold encE
  intro h
  have := congrArg List.length h
  rw [List.length_append, List.length_cons] at this
  simp at this
theorem aRead_ent {M : ObjT} {w : List Nat} {g : Nat} (hw : wOK w) (h1 : 1 ≤ w.length) (hg : 1 ≤ g ∧ g ≤ 40) (hq : oP M = encE w g) : aRead M = some (readL M w g) := by
  have hx : ∃ wg, isEnt (oP M) wg := ⟨(w, g), hw, h1, hg, hq⟩
  have e : Classical.choose hx = (w, g) := isEnt_one (Classical.choose_spec hx) ⟨hw, h1, hg, hq⟩
  unfold aRead readL
  rw [if_neg (by rw [hq]; exact encE_ne w g), dif_pos hx, e]
  rfl
theorem aRead_nil {M : ObjT} (hq : oP M = []) : aRead M = some (-3, M) := if_pos hq
theorem aRead_cases {M : ObjT} {r : Int32 × ObjT} (h : aRead M = some r) : (oP M = [] ∧ r = (-3, M)) ∨ ∃ w g, wOK w ∧ 1 ≤ w.length ∧ (1 ≤ g ∧ g ≤ 40) ∧ oP M = encE w g ∧ r = readL M w g := by
  by_cases q : oP M = []
  · rw [aRead_nil q] at h
    exact Or.inl ⟨q, (Option.some.inj h).symm⟩
  · by_cases hx : ∃ wg, isEnt (oP M) wg
    · obtain ⟨⟨w, g⟩, a1, a2, a3, a4⟩ := hx
      rw [aRead_ent a1 a2 a3 a4] at h
      exact Or.inr ⟨w, g, a1, a2, a3, a4, (Option.some.inj h).symm⟩
    · have : aRead M = none := by
        unfold aRead
        rw [if_neg q, dif_neg hx]
      rw [this] at h
      cases h
section TB2
variable {M : ObjT} {pg ps s pb lop rm : Int32} {bp bl ep fi la bg fd hl nh : Nat → Int32} {n : Int32} {st ln : Nat → Int32} {wd : Nat → Int64} {k : Int32} {hs hl2 : Nat → Nat → Int32} {hw : Nat → Nat → Int64} {hn : Nat → Int32} {t : Int32} {codes : Nat → Int32} {ss sl : Nat → Nat → Int32} {sw : Nat → Nat → Int64} {sn sv : Nat → Int32} {dn : Int32} {ds dln : Nat → Int32} {dwd : Nat → Int64}
theorem tt_read (h : XNow (oL M) pg ps s lop bp bl ep fi la bg fd hl n st ln wd) (hh : XHist (oH M) k hs hl2 hw hn) (hp : XPad (oP M) t codes) {r : Int32 × ObjT} (hr : aRead M = some r) :
    ∃ dn' ds' dln' dwd' pg' ps' s' pb' lop' rm' bp' bl' ep' fi' la' bg' fd' hl' nh' n' st' ln' wd' t' k' hs' hl2' hw' hn', f_X5_read dn ds dln dwd pg ps s pb lop rm bp bl ep fi la bg fd hl nh n st ln wd t codes k hs hl2 hw hn = some (r.1, dn', ds', dln', dwd', pg', ps', s', pb', lop', rm', bp', bl', ep', fi', la', bg', fd', hl', nh', n', st', ln', wd', t', k', hs', hl2', hw', hn') ∧
      XNow (oL r.2) pg' ps' s' lop' bp' bl' ep' fi' la' bg' fd' hl' n' st' ln' wd' ∧ XHist (oH r.2) k' hs' hl2' hw' hn' ∧ XPad (oP r.2) t' codes ∧ oA r.2 = oA M ∧ oB r.2 = oB M := by
  unfold f_X5_read
  rcases aRead_cases hr with ⟨q, rfl⟩ | ⟨w, g, hw1, hw2, hg, hq, rfl⟩
  · have hp' := hp
    rw [q] at hp'
    rw [bd_eq (x_fault0 hp'), if_neg (by decide)]
    exact ⟨dn, ds, dln, dwd, pg, ps, s, pb, lop, rm, bp, bl, ep, fi, la, bg, fd, hl, nh, n, st, ln, wd, t, k, hs, hl2, hw, hn, rfl, h, hh, hp, rfl, rfl⟩
  · have hnf := x_nofault hp (by rw [hq]; exact okF_enc hw1 hw2 hg)
    obtain ⟨ds1, dl1, dw1, e1, h1⟩ := x_copyR h.1 ds dln dwd
    have en : n = nI (zN (oL M)) := h.1.2.1
    rw [bd_eq hnf, if_pos rfl, bd_eq e1]
    dsimp only
    rw [x_addE hp hw1 hg hq]
    unfold readL
    have hx1 : ∀ i, i < zN (oL M) → dl1 i = nI (zG (oL M) i) ∧ dw1 i = lN (pk (zW (oL M) i)) := h1.2.2.2
    rcases x_tellL h.1.1 hx1 hw1 hw2 hg with ⟨l', ln', wd', et, ok', es, e2, e3⟩ | ⟨et, e2⟩
    · obtain ⟨k', hs', hl2', hw', hn', e4, hh'⟩ := x_record h.1 hh
      have hL : HLex l' ds1 ln' wd' (nI (zN l')) := ⟨ok', rfl, by rw [es]; exact h1.2.2.1, e3⟩
      obtain ⟨st3, ln3, wd3, e5, h5⟩ := x_copyR hL st ln wd
      obtain ⟨pg', ps', s', pb', lop', rm', bp', bl', ep', fi', la', bg', fd', hl', nh', f1, f2⟩ := x_relay h5 ps pb rm bp bl ep fi la bg fd hl nh
      have eb : Option.bind (f_X1_tell n dl1 dw1 (lN (pk w)) (nI g)) (fun (r_102 : Int32 × Int32 × (Nat → Int32) × (Nat → Int64)) => gd (isb r_102.1) (some (r_102.1, r_102.2.1, r_102.2.2.1, r_102.2.2.2))) = some (1, nI (zN l'), ln', wd') := by
        rw [en, bd_eq e2]
        rfl
      rw [et, bd_eq eb]
      dsimp only
      rw [if_neg (show ¬ (1 : Int32) = 0 by decide), bd_eq e4]
      dsimp only
      rw [bd_eq e5]
      dsimp only
      rw [bd_eq f1]
      exact ⟨nI (zN l'), ds1, ln', wd', pg', ps', s', pb', lop', rm', bp', bl', ep', fi', la', bg', fd', hl', nh', nI (zN l'), st3, ln3, wd3, 0, k', hs', hl2', hw', hn', rfl, f2, hh', ⟨⟨Nat.zero_le _, fun x hx => absurd hx List.not_mem_nil⟩, rfl, fun i hi => absurd hi (Nat.not_lt_zero i)⟩, rfl, rfl⟩
    · have eb : Option.bind (f_X1_tell n dl1 dw1 (lN (pk w)) (nI g)) (fun (r_102 : Int32 × Int32 × (Nat → Int32) × (Nat → Int64)) => gd (isb r_102.1) (some (r_102.1, r_102.2.1, r_102.2.2.1, r_102.2.2.2))) = some (0, nI (zN (oL M)), dl1, dw1) := by
        rw [en, bd_eq e2]
        rfl
      rw [et, bd_eq eb]
      dsimp only
      rw [if_pos rfl]
      exact ⟨_, ds1, dl1, dw1, pg, ps, s, pb, lop, rm, bp, bl, ep, fi, la, bg, fd, hl, nh, n, st, ln, wd, t, k, hs, hl2, hw, hn, rfl, h, hh, hp, rfl, rfl⟩
theorem isSlot_0 : f_X5_isSlot 0 = 1 := by decide
theorem isSlot_1 : f_X5_isSlot 1 = 1 := by decide
theorem isSlot_n {i : Int32} (h0 : i ≠ 0) (h1 : i ≠ 1) : f_X5_isSlot i = 0 := by
  unfold f_X5_isSlot
  by_cases q : i < 0
  · rw [if_pos q]
  · have q3 : (2 : Int32) ≤ i := by
      rw [i32_neg] at q
      rcases ix_cases i (show 2 < 2 ^ 31 by omega) with ⟨j, hj, rfl⟩ | hout
      · rcases (show j = 0 ∨ j = 1 by omega) with rfl | rfl
        · exact absurd rfl h0
        · exact absurd rfl h1
      · exact (i32_nIle (n := 2) (by decide)).mpr (by omega)
    rw [if_neg q, if_pos q3]
def XSlots (M : ObjT) (ss sl : Nat → Nat → Int32) (sw : Nat → Nat → Int64) (sn sv : Nat → Int32) : Prop := XSlot (oA M) (sv 0) (ss 0) (sl 0) (sw 0) (sn 0) ∧ XSlot (oB M) (sv 1) (ss 1) (sl 1) (sw 1) (sn 1)
theorem tt_save (h : XNow (oL M) pg ps s lop bp bl ep fi la bg fd hl n st ln wd) (hh : XHist (oH M) k hs hl2 hw hn) (h0 : XSlots M ss sl sw sn sv) (i : Int32) :
    ∃ ss' sl' sw' sn' sv', f_X5_save ss sl sw sn sv n st ln wd i = some ((aSave M i).1, ss', sl', sw', sn', sv') ∧ XSlots (aSave M i).2 ss' sl' sw' sn' sv' ∧ oL (aSave M i).2 = oL M ∧ oH (aSave M i).2 = oH M ∧ oP (aSave M i).2 = oP M := by
  unfold f_X5_save
  have en : n = nI (zN (oL M)) := h.1.2.1
  by_cases q0 : i = 0
  · subst q0
    obtain ⟨st', ln', wd', b1, b2⟩ := x_copyR h.1 (ss 0) (sl 0) (sw 0)
    have e9 : aSave M 0 = (nI (zN (oL M)), (oL M, oP M, oH M, some (oL M), oB M)) := if_pos rfl
    rw [e9, isSlot_0, if_neg (show ¬ (1 : Int32) = 0 by decide), if_pos rfl, bd_eq b1]
    dsimp only
    refine ⟨va_up ss 0 st', va_up sl 0 ln', va_up sw 0 wd', va_up sn 0 n, upd sv 0 1, ?_, ⟨?_, ?_⟩, rfl, rfl, rfl⟩
    · rw [gd_t (by decide), gd_t (by decide), en]
      rfl
    · show upd sv 0 1 0 = 1 ∧ HLex (oL M) (va_up ss 0 st' 0) (va_up sl 0 ln' 0) (va_up sw 0 wd' 0) (va_up sn 0 n 0)
      rw [up_eq, up_eq, up_eq, up_eq]
      exact ⟨upd_eq, b2⟩
    · rw [upd_ne (by decide), up_ne (by decide), up_ne (by decide), up_ne (by decide), up_ne (by decide)]
      exact h0.2
  · by_cases q1 : i = 1
    · subst q1
      obtain ⟨st', ln', wd', b1, b2⟩ := x_copyR h.1 (ss 1) (sl 1) (sw 1)
      have e9 : aSave M 1 = (nI (zN (oL M)), (oL M, oP M, oH M, oA M, some (oL M))) := (if_neg (by decide)).trans (if_pos rfl)
      rw [e9, isSlot_1, if_neg (show ¬ (1 : Int32) = 0 by decide), if_neg (show ¬ (1 : Int32) = 0 by decide), bd_eq b1]
      dsimp only
      refine ⟨va_up ss 1 st', va_up sl 1 ln', va_up sw 1 wd', va_up sn 1 n, upd sv 1 1, ?_, ⟨?_, ?_⟩, rfl, rfl, rfl⟩
      · rw [gd_t (by decide), gd_t (by decide), en]
        rfl
      · rw [upd_ne (by decide), up_ne (by decide), up_ne (by decide), up_ne (by decide), up_ne (by decide)]
        exact h0.1
      · show upd sv 1 1 1 = 1 ∧ HLex (oL M) (va_up ss 1 st' 1) (va_up sl 1 ln' 1) (va_up sw 1 wd' 1) (va_up sn 1 n 1)
        rw [up_eq, up_eq, up_eq, up_eq]
        exact ⟨upd_eq, b2⟩
    · have e9 : aSave M i = (-2, M) := (if_neg q0).trans (if_neg q1)
      rw [e9, isSlot_n q0 q1, if_pos rfl]
      exact ⟨ss, sl, sw, sn, sv, rfl, h0, rfl, rfl, rfl⟩
theorem tt_restore (h : XNow (oL M) pg ps s lop bp bl ep fi la bg fd hl n st ln wd) (hh : XHist (oH M) k hs hl2 hw hn) (h0 : XSlots M ss sl sw sn sv) (i : Int32) :
    ∃ pg' ps' s' pb' lop' rm' bp' bl' ep' fi' la' bg' fd' hl' nh' n' st' ln' wd' k' hs' hl2' hw' hn', f_X5_restore ss sl sw sn sv pg ps s pb lop rm bp bl ep fi la bg fd hl nh n st ln wd k hs hl2 hw hn i = some ((aRestore M i).1, pg', ps', s', pb', lop', rm', bp', bl', ep', fi', la', bg', fd', hl', nh', n', st', ln', wd', k', hs', hl2', hw', hn') ∧
      XNow (oL (aRestore M i).2) pg' ps' s' lop' bp' bl' ep' fi' la' bg' fd' hl' n' st' ln' wd' ∧ XHist (oH (aRestore M i).2) k' hs' hl2' hw' hn' ∧ oP (aRestore M i).2 = oP M ∧ oA (aRestore M i).2 = oA M ∧ oB (aRestore M i).2 = oB M := by
  obtain ⟨k', hs', hl2', hw', hn', e1, hh'⟩ := x_record h.1 hh
  unfold f_X5_restore aRestore
  by_cases q0 : i = 0
  · subst q0
    rw [isSlot_0, if_neg (show ¬ (1 : Int32) = 0 by decide), gd_t (by decide), if_pos rfl]
    have h1 := h0.1
    unfold fromS
    cases hA : oA M with
    | none =>
      rw [hA] at h1
      have h1 : sv 0 = 0 := h1
      rw [if_pos (show sv (Int32.toNatClampNeg 0) = 0 from h1)]
      exact ⟨pg, ps, s, pb, lop, rm, bp, bl, ep, fi, la, bg, fd, hl, nh, n, st, ln, wd, k, hs, hl2, hw, hn, rfl, h, hh, rfl, hA, rfl⟩
    | some l =>
      rw [hA] at h1
      obtain ⟨h1, h2⟩ : sv 0 = 1 ∧ HLex l (ss 0) (sl 0) (sw 0) (sn 0) := h1
      obtain ⟨st', ln', wd', b1, b2⟩ := x_copyR h2 st ln wd
      obtain ⟨pg', ps', s', pb', lop', rm', bp', bl', ep', fi', la', bg', fd', hl', nh', f1, f2⟩ := x_relay b2 ps pb rm bp bl ep fi la bg fd hl nh
      rw [if_neg (show ¬ sv (Int32.toNatClampNeg 0) = 0 from fun c => by have c : sv 0 = 0 := c; rw [h1] at c; exact absurd c (by decide)), bd_eq e1]
      dsimp only
      rw [gd_t (by decide), if_pos rfl, bd_eq b1]
      dsimp only
      rw [bd_eq f1, h2.2.1]
      rw [h2.2.1] at f2
      exact ⟨pg', ps', s', pb', lop', rm', bp', bl', ep', fi', la', bg', fd', hl', nh', nI (zN l), st', ln', wd', k', hs', hl2', hw', hn', rfl, f2, hh', rfl, hA, rfl⟩
  · rw [if_neg q0]
    by_cases q1 : i = 1
    · subst q1
      rw [isSlot_1, if_neg (show ¬ (1 : Int32) = 0 by decide), gd_t (by decide), if_pos rfl]
      have h1 := h0.2
      unfold fromS
      cases hB : oB M with
      | none =>
        rw [hB] at h1
        have h1 : sv 1 = 0 := h1
        rw [if_pos (show sv (Int32.toNatClampNeg 1) = 0 from h1)]
        exact ⟨pg, ps, s, pb, lop, rm, bp, bl, ep, fi, la, bg, fd, hl, nh, n, st, ln, wd, k, hs, hl2, hw, hn, rfl, h, hh, rfl, rfl, hB⟩
      | some l =>
        rw [hB] at h1
        obtain ⟨h1, h2⟩ : sv 1 = 1 ∧ HLex l (ss 1) (sl 1) (sw 1) (sn 1) := h1
        obtain ⟨st', ln', wd', b1, b2⟩ := x_copyR h2 st ln wd
        obtain ⟨pg', ps', s', pb', lop', rm', bp', bl', ep', fi', la', bg', fd', hl', nh', f1, f2⟩ := x_relay b2 ps pb rm bp bl ep fi la bg fd hl nh
        rw [if_neg (show ¬ sv (Int32.toNatClampNeg 1) = 0 from fun c => by have c : sv 1 = 0 := c; rw [h1] at c; exact absurd c (by decide)), bd_eq e1]
        dsimp only
        rw [gd_t (by decide), if_neg (show ¬ (1 : Int32) = 0 by decide), bd_eq b1]
        dsimp only
        rw [bd_eq f1, h2.2.1]
        rw [h2.2.1] at f2
        exact ⟨pg', ps', s', pb', lop', rm', bp', bl', ep', fi', la', bg', fd', hl', nh', nI (zN l), st', ln', wd', k', hs', hl2', hw', hn', rfl, f2, hh', rfl, rfl, hB⟩
    · rw [if_neg q1, isSlot_n q0 q1, if_pos rfl]
      exact ⟨pg, ps, s, pb, lop, rm, bp, bl, ep, fi, la, bg, fd, hl, nh, n, st, ln, wd, k, hs, hl2, hw, hn, rfl, h, hh, rfl, rfl, rfl⟩
theorem tt_ifSet (h : HLex (oL M) st ln wd n) (j v : Int32) (tpg tps ts tpb tlop trm : Int32) (tbp tbl tep tfi tla tbg tfd thl tnh : Nat → Int32) :
    ∃ tpg' tps' ts' tpb' tlop' trm' tbp' tbl' tep' tfi' tla' tbg' tfd' thl' tnh', f_X5_ifSet n st ln wd tpg tps ts tpb tlop trm tbp tbl tep tfi tla tbg tfd thl tnh j v = some (aIfSet M j v, tpg', tps', ts', tpb', tlop', trm', tbp', tbl', tep', tfi', tla', tbg', tfd', thl', tnh') := by
  obtain ⟨ok, en, hst, hxe⟩ := h
  subst en
  unfold f_X5_ifSet aIfSet
  rcases tt_value j v with ⟨jn, vn, hj, rfl, rfl, hv, ho, g1, g2⟩ | ⟨g1, g2⟩
  · have oS := ho _ ok.1
    have eL : setL (oL M) (nI jn) (nI vn) = (put1 jn vn (zS (oL M)), zN (oL M), zG (oL M), zW (oL M)) := by unfold setL; rw [tn (by omega), tn (by omega)]
    obtain ⟨pg', ps', s', pb', lop', rm', bp', bl', ep', fi', la', bg', fd', hl', nh', e1, e2⟩ := x_lay (L := put1 jn vn (zS (oL M)) 0) (Wd := put1 jn vn (zS (oL M)) 1) (k := put1 jn vn (zS (oL M)) 2) oS.1 oS.2.1.2 oS.2.2 ok.2 hxe tps tpb trm tbp tbl tep tfi tla tbg tfd thl tnh
    have ep : pg' = nI (tP (yT (put1 jn vn (zS (oL M)), zN (oL M), zG (oL M), zW (oL M)))) := e2.1
    rw [g1, g2, if_pos rfl, eL]
    refine ⟨pg', ps', s', pb', lop', rm', bp', bl', ep', fi', la', bg', fd', hl', nh', ?_⟩
    rw [bd_eq rfl, if_neg (show ¬ (1 : Int32) = 0 by decide), ← ep]
    rcases (show jn = 0 ∨ jn = 1 ∨ jn = 2 by omega) with rfl | rfl | rfl
    · rw [put1_eq, put1_ne (by decide), put1_ne (by decide)] at e1
      unfold J_X5_ifSet_28 J_X5_ifSet_47 J_X5_ifSet_67
      rw [if_pos (by decide), if_neg (by decide), if_neg (by decide), hst 1 (by omega), hst 2 (by omega), bd_eq e1]
    · rw [put1_eq, put1_ne (by decide), put1_ne (by decide)] at e1
      unfold J_X5_ifSet_28 J_X5_ifSet_47 J_X5_ifSet_67
      rw [if_neg (by decide), if_pos (by decide), if_neg (by decide), hst 0 (by omega), hst 2 (by omega), bd_eq e1]
    · rw [put1_eq, put1_ne (by decide), put1_ne (by decide)] at e1
      unfold J_X5_ifSet_28 J_X5_ifSet_47 J_X5_ifSet_67
      rw [if_neg (by decide), if_neg (by decide), if_pos (by decide), hst 0 (by omega), hst 1 (by omega), bd_eq e1]
  · rw [g1, g2, if_neg Bool.false_ne_true]
    exact ⟨tpg, tps, ts, tpb, tlop, trm, tbp, tbl, tep, tfi, tla, tbg, tfd, thl, tnh, rfl⟩
theorem tt_put (hp : XPad (oP M) t codes) {j : Int64} {r : Int32 × ObjT} (hr : aPut M j = some r) :
    ∃ t' codes', f_X5_put t codes j = some (r.1, t', codes') ∧ XPad (oP r.2) t' codes' ∧ oL r.2 = oL M ∧ oH r.2 = oH M ∧ oA r.2 = oA M ∧ oB r.2 = oB M := by
  obtain ⟨u, hu, rfl⟩ := wb_of j
  have eu : (lN u).toBitVec.toNat = u := wb_tn hu
  unfold aPut at hr
  rw [eu] at hr
  by_cases q1 : 33 ≤ u ∧ u ≤ 126 ∧ (oP M).length < 60
  · rw [if_pos q1] at hr
    cases hr
    obtain ⟨codes', e1, e2⟩ := x_put hp hu (chIs_1 ⟨q1.1, q1.2.1⟩) (by omega) (by omega)
    rw [chU_1 q1.2.1] at e2
    exact ⟨_, codes', e1, e2, rfl, rfl, rfl, rfl⟩
  · rw [if_neg q1] at hr
    by_cases q2 : u = 6371893 ∧ (oP M).length + 3 ≤ 60
    · rw [if_pos q2] at hr
      cases hr
      obtain ⟨q2, q3⟩ := q2
      subst q2
      obtain ⟨codes', e1, e2⟩ := x_put hp hu chIs_3 (by omega) q3
      rw [chU_3] at e2
      exact ⟨_, codes', e1, e2, rfl, rfl, rfl, rfl⟩
    · rw [if_neg q2] at hr
      cases hr
theorem tt_wipe (hp : XPad (oP M) t codes) : f_X5_wipe t = ((aWipe M).1, 0) ∧ XPad (oP (aWipe M).2) 0 codes := by
  refine ⟨?_, ⟨⟨Nat.zero_le _, fun x hx => absurd hx List.not_mem_nil⟩, rfl, fun i hi => absurd hi (Nat.not_lt_zero i)⟩⟩
  have := hp.2.1
  subst this
  rfl
theorem q_lookFor (hp : XPad (oP M) t codes) {r : Int32} (hr : aLookFor M = some r) : f_X5_lookFor pg la n wd t codes = some r := by
  unfold aLookFor at hr
  unfold f_X5_lookFor
  rcases x_isWord hp with ⟨hw1, a1⟩ | ⟨hw1, a1⟩
  · rw [if_pos hw1] at hr
    cases hr
  · rw [if_neg hw1] at hr
    cases hr
    rw [bd_eq a1, if_pos rfl]
theorem q_fold (h : XNow (oL M) pg ps s lop bp bl ep fi la bg fd hl n st ln wd) {i j r : Int32} (hr : aFold M i j = some r) : f_X5_fold pg fi la bg i j = some r := by
  obtain ⟨⟨ok, -⟩, epg, -⟩ := h
  have epg : pg = nI (tP (yT (oL M))) := epg
  have hP := (lay_s ok).2.1
  have hN := ok.2.1
  unfold aFold at hr
  by_cases q : i.toInt < 0 ∨ (((tP (yT (oL M)) + 1) / 2 : Nat) : Int) ≤ i.toInt
  · rw [if_pos q] at hr
    cases hr
    unfold f_X5_fold
    by_cases a : i < 0
    · rw [if_pos a]
    · rw [if_neg a, epg, x_folds (by omega), if_neg]
      rw [i32_neg] at a
      rw [i32_ltnI (by omega)]
      omega
  · rw [if_neg q] at hr
    cases hr
theorem q_least {i r : Int32} (hr : aLeastLines M i = some r) (tpg tps ts tpb tlop trm : Int32) (tbp tbl tep tfi tla tbg tfd thl tnh : Nat → Int32) : f_X5_leastLines n st ln wd tpg tps ts tpb tlop trm tbp tbl tep tfi tla tbg tfd thl tnh i = some (r, tpg, tps, ts, tpb, tlop, trm, tbp, tbl, tep, tfi, tla, tbg, tfd, thl, tnh) := by
  unfold aLeastLines at hr
  unfold f_X5_leastLines
  by_cases q : i.toInt < 1 ∨ 200 < i.toInt
  · rw [if_pos q] at hr
    cases hr
    by_cases a : i < 1
    · rw [if_pos a]
    · have b : ¬ i ≤ (200 : Int32) := by
        rw [show (1 : Int32) = nI 1 by rfl, i32_ltnI (by decide)] at a
        rw [show (200 : Int32) = nI 200 by rfl, i32_lenI (by decide)]
        omega
      rw [if_neg a, if_neg b]
  · rw [if_neg q] at hr
    cases hr
theorem q_best {i r : Int32} (hr : aBestLines M i = some r) (tpg tps ts tpb tlop trm : Int32) (tbp tbl tep tfi tla tbg tfd thl tnh : Nat → Int32) : f_X5_bestLines n st ln wd tpg tps ts tpb tlop trm tbp tbl tep tfi tla tbg tfd thl tnh i = some (r, tpg, tps, ts, tpb, tlop, trm, tbp, tbl, tep, tfi, tla, tbg, tfd, thl, tnh) := by
  unfold aBestLines at hr
  unfold f_X5_bestLines
  by_cases q : i.toInt = 0 ∨ i.toInt = 1
  · rw [if_pos q] at hr
    cases hr
  · rw [if_neg q] at hr
    cases hr
    rw [if_neg (fun c => q (Or.inl (by rw [c]; rfl))), if_neg (fun c => q (Or.inr (by rw [c]; rfl)))]
end TB2
