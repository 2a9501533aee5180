/-! the rest of an entry on fresh pages, on both sides -/
theorem XL_more {P e m : Nat} {H US FI LA BG BP BL EP : Nat → Nat} {bp bl ep fi la bg fd fd' hl : Nat → Int32} (h : XL P (e + 1) e H US FI LA BG BP BL EP bp bl ep fi la bg fd hl) (hf : ∀ p, p ≠ P → fd' p = fd p) (hP : fd' P = nI m) :
    XL (P + 1) (e + 1) e H (put1 P m US) (put1 P e FI) (put1 P e LA) (put1 P 0 BG) BP BL (put1 e P EP) bp bl ep (upd fi P (nI e)) (upd la P (nI e)) (upd bg P 0) fd' (upd hl P (nI (H P))) := by
  obtain ⟨a, b, c⟩ := h
  refine ⟨fun p hp => ?_, b, fun x hx => by rw [put1_ne (by omega)]; exact c x hx⟩
  by_cases q : p = P
  · rw [q, upd_eq, upd_eq, upd_eq, upd_eq, put1_eq, put1_eq, put1_eq, put1_eq, hP]
    exact ⟨rfl, rfl, rfl, rfl, rfl⟩
  · rw [upd_ne q, upd_ne q, upd_ne q, upd_ne q, put1_ne q, put1_ne q, put1_ne q, put1_ne q, hf p q]
    exact a p (by omega)
theorem ML_more {P e T m : Nat} {US FI LA BP BL EP : Nat → Nat} {us fi la bp bl ep : Nat → Int32} (h : ML P (e + 1) T US FI LA BP BL EP us fi la bp bl ep) :
    ML (P + 1) (e + 1) T (put1 P m US) (put1 P e FI) (put1 P e LA) BP BL (put1 e P EP) (upd us P (nI m)) (upd fi P (nI e)) (upd la P (nI e)) bp bl (upd ep e (nI P)) := by
  obtain ⟨a, b, c, d⟩ := h
  refine ⟨fun p hp => ?_, fun p hp => ?_, fun x hx => ?_, fun x h1 h2 => by rw [upd_ne (by omega)]; exact d x h1 h2⟩
  · by_cases q : p = P
    · rw [q, upd_eq, put1_eq]
    · rw [upd_ne q, put1_ne q]; exact a p hp
  · by_cases q : p = P
    · rw [q, upd_eq, upd_eq, put1_eq, put1_eq]
      exact ⟨rfl, rfl⟩
    · rw [upd_ne q, upd_ne q, put1_ne q, put1_ne q]; exact b p (by omega)
  · obtain ⟨c1, c2, c3⟩ := c x hx
    by_cases q : x = e
    · rw [q, upd_eq, put1_eq]
      rw [q] at c1 c2
      exact ⟨c1, c2, rfl⟩
    · rw [upd_ne q, put1_ne q]
      exact ⟨c1, c2, c3⟩
theorem pour_both {K1 : Int32 → Int32 → Int32 → Int32 → (Nat → Int32) → (Nat → Int32) → (Nat → Int32) → (Nat → Int32) → (Nat → Int32) → Option (Int32 × Int32 × (Nat → Int32) × (Nat → Int32) × (Nat → Int32) × (Nat → Int32) × (Nat → Int32) × (Nat → Int32) × (Nat → Int32) × (Nat → Int32))}
    {K2 : Int32 → Int32 → Int32 → (Nat → Int32) → (Nat → Int32) → (Nat → Int32) → (Nat → Int32) → (Nat → Int32) → (Nat → Int32) → Option (Int32 × Int32 × (Nat → Int32) × (Nat → Int32) × (Nat → Int32) × (Nat → Int32) × (Nat → Int32) × (Nat → Int32))}
    {L PB T e : Nat} (he : e < 30) {H : Nat → Nat} (hH : ∀ p, H p = 1 ∨ H p = 2) (hL : 6 ≤ L ∧ L ≤ 40) (hPB : PB < 2 ^ 30) {nh : Nat → Int32} (hn : (∀ p, p < PB → nh p = nI (H p)) ∧ ∀ p, PB ≤ p → H p = 1) {z : Nat → Int64} (hz : z 0 = lN L) {hd : Nat → Int32} (hh : ∀ p, p < 400 → hd p = nI (H p))
    {BP BL : Nat → Nat} {bp bl ep mbp mbl : Nat → Int32} : ∀ (d f1 f2 i rest P : Nat) (US FI LA BG EP : Nat → Nat) (fi la bg fd hl us mf ml mep : Nat → Int32), rest ≤ d → d < f1 → d < f2 → i + rest ≤ 40 → P ≤ 10 * (e + 1) → (0 < rest → 4 * P + rest ≤ 40 * (e + 1)) →
    LI L P (e + 1) H US FI LA BG BP EP → XL P (e + 1) e H US FI LA BG BP BL EP bp bl ep fi la bg fd hl → ML P (e + 1) T US FI LA BP BL EP us mf ml mbp mbl mep →
    ∃ (i' : Int32) (P' : Nat) (US' FI' LA' BG' EP' : Nat → Nat) (fi' la' bg' fd' hl' us' mf' ml' mep' : Nat → Int32),
      L_X0_layEntry_57 K1 (nI e) (nI PB) (nI L) nh f1 (nI i) (nI rest) (nI P) (nI (L - H (P - 1) - US (P - 1))) fi la bg fd hl = K1 i' (nI 0) (nI P') (nI (L - H (P' - 1) - US' (P' - 1))) fi' la' bg' fd' hl' ∧
      L_X6_pour_9 K2 (nI e) z hd f2 (nI rest) (nI (if rest = 0 then P - 1 else P)) (nI P) us mf ml mbp mbl mep = K2 (nI 0) (nI (P' - 1)) (nI P') us' mf' ml' mbp mbl mep' ∧
      P' ≤ 10 * (e + 1) ∧ LI L P' (e + 1) H US' FI' LA' BG' BP EP' ∧ XL P' (e + 1) e H US' FI' LA' BG' BP BL EP' bp bl ep fi' la' bg' fd' hl' ∧ ML P' (e + 1) T US' FI' LA' BP BL EP' us' mf' ml' mbp mbl mep'
  | _, 0, _, _, _, _, _, _, _, _, _, _, _, _, _, _, _, _, _, _, _, h, _, _, _, _, _, _, _ => absurd h (by omega)
  | _, _, 0, _, _, _, _, _, _, _, _, _, _, _, _, _, _, _, _, _, _, _, h, _, _, _, _, _, _ => absurd h (by omega)
  | d, f1 + 1, f2 + 1, i, 0, P, US, FI, LA, BG, EP, fi, la, bg, fd, hl, us, mf, ml, mep, _, _, _, hi, hP, _, hI, hX, hM => by
    refine ⟨nI i, P, US, FI, LA, BG, EP, fi, la, bg, fd, hl, us, mf, ml, mep, ?_, ?_, hP, hI, hX, hM⟩
    · rw [L_X0_layEntry_57_s]
      by_cases q : (40 : Int32) ≤ nI i
      · rw [if_pos q]
      · rw [if_neg q, if_pos (show nI 0 ≤ (0 : Int32) by decide)]
    · rw [L_X6_pour_9_s, if_pos (show nI 0 ≤ (0 : Int32) by decide), if_pos rfl]
  | 0, f1 + 1, f2 + 1, i, rest + 1, P, _, _, _, _, _, _, _, _, _, _, _, _, _, _, h, _, _, _, _, _, _, _, _ => absurd h (by omega)
  | d + 1, f1 + 1, f2 + 1, i, rest + 1, P, US, FI, LA, BG, EP, fi, la, bg, fd, hl, us, mf, ml, mep, hd1, hf1, hf2, hi, hP, hP4, hI, hX, hM => by
    have hHP := hH P
    have hP3 : P < 300 := by have := hP4 (by omega); omega
    have hUS : US P = 0 := hI.1 P (Nat.le_refl P)
    obtain ⟨m, hm1, hmr, hmL, hmin⟩ : ∃ m, 1 ≤ m ∧ m ≤ rest + 1 ∧ H P + m ≤ L ∧ (m = rest + 1 ∨ m = L - H P) := by
      by_cases q : L - H P ≤ rest + 1
      · exact ⟨L - H P, by omega, q, by omega, Or.inr rfl⟩
      · exact ⟨rest + 1, by omega, Nat.le_refl _, by omega, Or.inl rfl⟩
    have hmep : mep e = nI (EP e) := (hM.2.2.1 e (by omega)).2.2
    have hEP : EP e < P := (hI.2.2.2.1 e (by omega)).2
    have hne : ¬ mep e = (-6) := by rw [hmep]; exact nI_m6 (by omega)
    have eus : us P = nI 0 := by rw [hM.1 P (by omega), hUS]
    obtain ⟨i', P', US', FI', LA', BG', EP', fi', la', bg', fd', hl', us', mf', ml', mep', e1, e2, e3, e4, e5, e6⟩ := pour_both (K1 := K1) (K2 := K2) (T := T) he hH hL hPB hn hz hh (BP := BP) (BL := BL) (bp := bp) (bl := bl) (ep := ep) (mbp := mbp) (mbl := mbl) d f1 f2 (i + 1) (rest + 1 - m) (P + 1) (put1 P m US) (put1 P e FI) (put1 P e LA) (put1 P 0 BG) (put1 e P EP) (upd fi P (nI e)) (upd la P (nI e)) (upd bg P 0) (upd (upd fd P 0) P (nI m)) (upd hl P (nI (H P))) (upd us P (nI m)) (upd mf P (nI e)) (upd ml P (nI e)) (upd mep e (nI P)) (by omega) (by omega) (by omega) (by omega) (by have := hP4 (by omega); omega) (fun h => by have := hP4 (by omega); omega) (LI_more hI hm1 hmL) (XL_more hX (fun p hp => by rw [upd_ne hp, upd_ne hp]) upd_eq) (ML_more hM)
    refine ⟨i', P', US', FI', LA', BG', EP', fi', la', bg', fd', hl', us', mf', ml', mep', ?_, ?_, e3, e4, e5, e6⟩
    · rw [← e1, Nat.add_sub_cancel, put1_eq]
      have em : (if nI (L - H P) < nI (rest + 1) then nI (L - H P) else nI (rest + 1)) = nI m := by
        by_cases q : L - H P < rest + 1
        · rw [if_pos (nI_lt q (by omega)), show m = L - H P by omega]
        · rw [if_neg (nI_nlt (by omega) (by omega)), show m = rest + 1 by omega]
      rw [L_X0_layEntry_57_s, if_neg (show ¬ (40 : Int32) ≤ nI i from nI_ge (a := i) (b := 40) (by omega) (by decide)), if_neg (show ¬ nI (rest + 1) ≤ (0 : Int32) from nI_ge (a := 0) (b := rest + 1) (by omega) (by omega)), bd_eq (x_open hP3 hPB hH hL hn _ bg fd hl)]
      dsimp only
      rw [em, bd_eq (x_fill hP3 he _ (nI m) fi la (upd fd P 0))]
      dsimp only
      rw [if_pos (show upd fd P 0 P = 0 from upd_eq), upd_eq, Int32.zero_add, pk_sub hmr, pk_sub (by omega), nI_1]
    · rw [if_neg (Nat.succ_ne_zero rest), L_X6_pour_9_s, if_neg (show ¬ nI (rest + 1) ≤ (0 : Int32) from nI_ge (a := 0) (b := rest + 1) (by omega) (by omega)), bd_eq (m_room (by omega) hL.2 hz hh (by omega)), gd_t (xin_nI (by omega) (by decide)), clN (by omega), eus, pk_sub (Nat.zero_le _), Nat.sub_zero]
      have J : J_X6_pour_42 (fun (i4_9 : Int32) (i3_9 : Int32) (v_pages_9 : Int32) (v_used_9 : Nat → Int32) (v_firsts_9 : Nat → Int32) (v_lasts_9 : Nat → Int32) (v_beginPages_9 : Nat → Int32) (v_beginLines_9 : Nat → Int32) (v_endPages_9 : Nat → Int32) => L_X6_pour_9 K2 (nI e) z hd f2 i4_9 i3_9 v_pages_9 v_used_9 v_firsts_9 v_lasts_9 v_beginPages_9 v_beginLines_9 v_endPages_9) (nI e) (nI (rest + 1)) (nI P) us mf ml mbp mbl mep (nI m) = K2 (nI 0) (nI (P' - 1)) (nI P') us' mf' ml' mbp mbl mep' := by
        unfold J_X6_pour_42
        rw [bd_eq (m_lay (by omega) he (nI m) us mf ml mbp mbl mep)]
        dsimp only
        rw [if_neg hne, if_neg hne, eus, if_pos (show nI 0 = (0 : Int32) from rfl), nI_add, Nat.zero_add, pk_sub hmr]
        by_cases q : rest + 1 - m = 0
        · rw [if_pos q, Nat.add_sub_cancel] at e2
          rw [if_pos (show nI (rest + 1 - m) ≤ (0 : Int32) by rw [q]; decide), Int32.add_zero]
          exact e2
        · rw [if_neg q] at e2
          rw [if_neg (show ¬ nI (rest + 1 - m) ≤ (0 : Int32) from nI_ge (a := 0) (b := rest + 1 - m) (by omega) (by omega)), nI_1]
          exact e2
      by_cases q : L - H P ≤ rest + 1
      · rw [if_pos (nI_le q (by omega)), show L - H P = m by omega]
        exact J
      · rw [if_neg (nI_ge (by omega) (by omega))]
        have em : rest + 1 = m := by omega
        have J' := J
        rw [show nI m = nI (rest + 1) by rw [em]] at J'
        exact J'
