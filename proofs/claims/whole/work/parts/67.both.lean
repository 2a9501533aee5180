/-! one entry laid on both sides -/
def rmN (L P : Nat) (H US : Nat → Nat) : Nat := if P = 0 then 0 else L - H (P - 1) - US (P - 1)
theorem fin_both {L PB T e : Nat} (he : e < 30) {H : Nat → Nat} (hH : ∀ p, H p = 1 ∨ H p = 2) (hL : 6 ≤ L ∧ L ≤ 40) (hPB : PB < 2 ^ 30) {nh : Nat → Int32} (hn : (∀ p, p < PB → nh p = nI (H p)) ∧ ∀ p, PB ≤ p → H p = 1) {z : Nat → Int64} (hz : z 0 = lN L) {hd : Nat → Int32} (hh : ∀ p, p < 400 → hd p = nI (H p))
    {p rest f2 : Nat} {US FI LA BG BP BL EP : Nat → Nat} {bp bl ep fi la bg fd hl us mf ml mbp mbl mep : Nat → Int32} (hf2 : 40 < f2) (hr : rest ≤ 40) (hP : p + 1 ≤ 10 * (e + 1)) (hP4 : 0 < rest → 4 * (p + 1) + rest ≤ 40 * (e + 1))
    (hI : LI L (p + 1) (e + 1) H US FI LA BG BP EP) (hX : XL (p + 1) (e + 1) e H US FI LA BG BP BL EP bp bl ep fi la bg fd hl) (hM : ML (p + 1) (e + 1) T US FI LA BP BL EP us mf ml mbp mbl mep) :
    ∃ (P' : Nat) (US' FI' LA' BG' EP' : Nat → Nat) (ep' fi' la' bg' fd' hl' us' mf' ml' mep' : Nat → Int32),
      L_X0_layEntry_57 (fun (i6_57 : Int32) (i5_57 : Int32) (v_pages_57 : Int32) (v_room_57 : Int32) (v_first_57 : Nat → Int32) (v_last_57 : Nat → Int32) (v_begun_57 : Nat → Int32) (v_filled_57 : Nat → Int32) (v_headLines_57 : Nat → Int32) => gd (xin (nI e) 30) (some (v_pages_57, v_room_57, bp, bl, (upd ep (nI e).toNatClampNeg (v_pages_57 - 1)), v_first_57, v_last_57, v_begun_57, v_filled_57, v_headLines_57))) (nI e) (nI PB) (nI L) nh FU 0 (nI rest) (nI (p + 1)) (nI (L - H p - US p)) fi la bg fd hl = some (nI P', nI (rmN L P' H US'), bp, bl, ep', fi', la', bg', fd', hl') ∧
      L_X6_pour_9 KR (nI e) z hd f2 (nI rest) (nI (if rest = 0 then p else p + 1)) (nI (p + 1)) us mf ml mbp mbl mep = some (nI (P' - 1), nI P', us', mf', ml', mbp, mbl, mep') ∧
      1 ≤ P' ∧ P' ≤ 10 * (e + 1) ∧ LI L P' (e + 1) H US' FI' LA' BG' BP EP' ∧ XL P' (e + 1) (e + 1) H US' FI' LA' BG' BP BL EP' bp bl ep' fi' la' bg' fd' hl' ∧ ML P' (e + 1) T US' FI' LA' BP BL EP' us' mf' ml' mbp mbl mep' := by
  have hF := FU_big
  obtain ⟨i', P', US', FI', LA', BG', EP', fi', la', bg', fd', hl', us', mf', ml', mep', e1, e2, e3, e4, e5, e6⟩ := pour_both (K1 := (fun (i6_57 : Int32) (i5_57 : Int32) (v_pages_57 : Int32) (v_room_57 : Int32) (v_first_57 : Nat → Int32) (v_last_57 : Nat → Int32) (v_begun_57 : Nat → Int32) (v_filled_57 : Nat → Int32) (v_headLines_57 : Nat → Int32) => gd (xin (nI e) 30) (some (v_pages_57, v_room_57, bp, bl, (upd ep (nI e).toNatClampNeg (v_pages_57 - 1)), v_first_57, v_last_57, v_begun_57, v_filled_57, v_headLines_57)))) (K2 := KR) (T := T) he hH hL hPB hn hz hh (BP := BP) (BL := BL) (bp := bp) (bl := bl) (ep := ep) (mbp := mbp) (mbl := mbl) 40 FU f2 0 rest (p + 1) US FI LA BG EP fi la bg fd hl us mf ml mep hr (by omega) hf2 (by omega) hP hP4 hI hX hM
  rw [Nat.add_sub_cancel] at e1 e2
  obtain ⟨g1, -, g3⟩ := e4.2.2.2.2 (by omega)
  rw [Nat.add_sub_cancel] at g3
  obtain ⟨Q, rfl⟩ : ∃ Q, P' = Q + 1 := ⟨P' - 1, by omega⟩
  refine ⟨Q + 1, US', FI', LA', BG', EP', upd ep e (nI Q), fi', la', bg', fd', hl', us', mf', ml', mep', ?_, e2, by omega, e3, e4, ⟨e5.1, e5.2.1, fun x hx => ?_⟩, e6⟩
  · have en : rmN L (Q + 1) H US' = L - H (Q + 1 - 1) - US' (Q + 1 - 1) := if_neg (by omega)
    rw [en]
    refine e1.trans ?_
    rw [gd_t (xin_nI he (by decide)), clN (by omega), nI_pred]
  · by_cases q : x = e
    · rw [q, upd_eq, g3, Nat.add_sub_cancel]
    · rw [upd_ne q]
      exact e5.2.2 x (by omega)
theorem entry_both {L PB T e n k : Nat} (he : e < T) (hT : T ≤ 30) (hn1 : 1 ≤ n ∧ n ≤ 40) (hk : 1 ≤ k ∧ k ≤ 3) {H : Nat → Nat} (hH : ∀ p, H p = 1 ∨ H p = 2) (hL : 6 ≤ L ∧ L ≤ 40) (hPB : PB < 2 ^ 30) {nh : Nat → Int32} (hn : (∀ p, p < PB → nh p = nI (H p)) ∧ ∀ p, PB ≤ p → H p = 1) {z : Nat → Int64} (hz : z 0 = lN L) (hz2 : z 2 = lN k) (hzn : z (34 + e) = lN n) {hd : Nat → Int32} (hh : ∀ p, p < 400 → hd p = nI (H p))
    {P : Nat} {US FI LA BG BP BL EP : Nat → Nat} {bp bl ep fi la bg fd hl us mf ml mbp mbl mep : Nat → Int32} (hP : P ≤ 10 * e)
    (hI : LI L P e H US FI LA BG BP EP) (hX : XL P e e H US FI LA BG BP BL EP bp bl ep fi la bg fd hl) (hM : ML P e T US FI LA BP BL EP us mf ml mbp mbl mep) :
    ∃ (P' : Nat) (US' FI' LA' BG' BP' BL' EP' : Nat → Nat) (bp' bl' ep' fi' la' bg' fd' hl' us' mf' ml' mbp' mbl' mep' : Nat → Int32),
      f_X0_layEntry (nI P) (nI PB) (nI L) (nI (rmN L P H US)) bp bl ep fi la bg fd hl nh (nI e) (nI n) (nI k) = some (nI P', nI (rmN L P' H US'), bp', bl', ep', fi', la', bg', fd', hl') ∧
      f_X6_layEntry (nI P) z hd us mf ml mbp mbl mep (nI e) (nI (P - 1)) = some (nI (P' - 1), nI P', us', mf', ml', mbp', mbl', mep') ∧
      P' ≤ 10 * (e + 1) ∧ LI L P' (e + 1) H US' FI' LA' BG' BP' EP' ∧ XL P' (e + 1) (e + 1) H US' FI' LA' BG' BP' BL' EP' bp' bl' ep' fi' la' bg' fd' hl' ∧ ML P' (e + 1) T US' FI' LA' BP' BL' EP' us' mf' ml' mbp' mbl' mep' := by
  have hF := FU_big
  have he30 : e < 30 := by omega
  have hep : mep e = (-6) := hM.2.2.2 e (Nat.le_refl e) he
  have hrm : rmN L P H US ≤ 40 := by unfold rmN; split <;> omega
  have hhl := here_le n (rmN L P H US) k
  have eM : f_X6_layEntry (nI P) z hd us mf ml mbp mbl mep (nI e) (nI (P - 1)) = L_X6_layEntry_18 (nI e) (nI P) z hd us mf ml mbp mbl mep (nI n) (nI k) ((FU - 1 - 1 + 1) + 1) (nI (P - 1)) := by
    unfold f_X6_layEntry
    rw [bd_eq (m_lines he30 hzn), hz2, lN_i]
    rw [show FU - 1 - 1 + 1 + 1 = FU by omega]
  unfold f_X0_layEntry
  rw [x_here hn1.2 hrm hk, eM]
  have hHP := hH P
  have hUSP : US P = 0 := hI.1 P (Nat.le_refl P)
  have eusP : us P = nI 0 := by rw [hM.1 P (by omega), hUSP]
  have eusP1 : us (P + 1) = nI 0 := by rw [hM.1 (P + 1) (by omega), hI.1 (P + 1) (by omega)]
  by_cases q : hereN n (rmN L P H US) k = 0
  · -- a fresh page
    rw [if_pos (show nI (hereN n (rmN L P H US) k) = (0 : Int32) by rw [q]; rfl), bd_eq (x_open (by omega) hPB hH hL hn _ bg fd hl)]
    dsimp only
    rw [x_here hn1.2 (by omega) hk]
    have hh2 := here_le n (L - H P) k
    obtain ⟨h, hhd, h1, hle, hr4⟩ : ∃ h, ((h = hereN n (L - H P) k ∧ h ≠ 0) ∨ (hereN n (L - H P) k = 0 ∧ h = L - H P)) ∧ 1 ≤ h ∧ (h ≤ n ∧ h ≤ L - H P) ∧ (0 < n - h → 4 ≤ h ∨ n - h ≤ 3) := by
      by_cases r : hereN n (L - H P) k = 0
      · refine ⟨L - H P, Or.inr ⟨r, rfl⟩, by omega, ⟨?_, Nat.le_refl _⟩, fun _ => Or.inl (by omega)⟩
        unfold hereN at r
        by_cases s : n ≤ L - H P
        · rw [if_pos s] at r; omega
        · omega
      · refine ⟨hereN n (L - H P) k, Or.inl ⟨rfl, r⟩, by omega, ⟨hh2.2, hh2.1⟩, fun hp => ?_⟩
        unfold hereN at hp r ⊢
        repeat' split
        all_goals first | omega | (simp_all <;> omega)
    have eX : ∀ e1 : Int32, e1 = nI h → J_X0_layEntry_36 (nI e) (nI n) (nI PB) (nI L) bp bl ep fi la nh (nI (P + 1)) (nI (L - H P)) (upd bg P 0) (upd fd P 0) (upd hl P (nI (H P))) e1 = J_X0_layEntry_36 (nI e) (nI n) (nI PB) (nI L) bp bl ep fi la nh (nI (P + 1)) (nI (L - H P)) (upd bg P 0) (upd fd P 0) (upd hl P (nI (H P))) (nI h) := fun e1 c => by rw [c]
    have eJ : J_X0_layEntry_25 (nI e) (nI n) (nI PB) (nI L) bp bl ep fi la nh (nI (hereN n (L - H P) k)) (nI (P + 1)) (nI (L - H P)) (upd bg P 0) (upd fd P 0) (upd hl P (nI (H P))) = J_X0_layEntry_36 (nI e) (nI n) (nI PB) (nI L) bp bl ep fi la nh (nI (P + 1)) (nI (L - H P)) (upd bg P 0) (upd fd P 0) (upd hl P (nI (H P))) (nI h) := by
      unfold J_X0_layEntry_25
      rcases hhd with ⟨a, b⟩ | ⟨a, b⟩
      · rw [if_neg (show ¬ nI (hereN n (L - H P) k) = (0 : Int32) from fun c => by have := (nI_eq (a := hereN n (L - H P) k) (b := 0) (by omega) (by decide)).mp c; omega), ← a]
      · rw [if_pos (show nI (hereN n (L - H P) k) = (0 : Int32) by rw [a]; rfl), ← b]
    rw [eJ, x_start (p := P) (by omega) he30 hle.1 hle.2, if_pos (show upd fd P 0 P = 0 from upd_eq), upd_eq, upd_eq]
    -- the reference comes to page P
    obtain ⟨f2, hf2, eM2⟩ : ∃ f2, 40 < f2 ∧ L_X6_layEntry_18 (nI e) (nI P) z hd us mf ml mbp mbl mep (nI n) (nI k) ((FU - 1 - 1 + 1) + 1) (nI (P - 1)) = L_X6_pour_9 KR (nI e) z hd f2 (nI (n - h)) (nI (if n - h = 0 then P else P + 1)) (nI (P + 1)) (upd us P (nI (0 + h))) (upd mf P (if us P = 0 then nI e else mf P)) (upd ml P (nI e)) (upd mbp e (nI P)) (upd mbl e (nI 0)) (upd mep e (nI P)) := by
      have ent := fun f => (m_entry (p := P) (u := 0) (by omega) he30 hn1 hk hL hz hzn hH hh (by omega) eusP eusP1 (nI P) mf ml mbp mbl mep hep f).2 h
      rw [Nat.sub_zero] at ent
      by_cases r : P = 0
      · obtain ⟨f2, a, b⟩ := ent (FU - 1 - 1 + 1) (by omega)
        refine ⟨f2, a, ?_⟩
        rw [← b, r]
      · obtain ⟨p0, rfl⟩ : ∃ p0, P = p0 + 1 := ⟨P - 1, by omega⟩
        obtain ⟨f2, a, b⟩ := ent (FU - 1 - 1) (by omega)
        refine ⟨f2, a, ?_⟩
        rw [← b, Nat.add_sub_cancel]
        have hb := hI.2.1 p0 (by omega)
        have er : rmN L (p0 + 1) H US = L - H p0 - US p0 := by unfold rmN; rw [if_neg (by omega), Nat.add_sub_cancel]
        rw [er] at q
        exact (m_entry (p := p0) (u := US p0) (by omega) he30 hn1 hk hL hz hzn hH hh hb.2 (hM.1 p0 (by omega)) eusP (nI (p0 + 1)) mf ml mbp mbl mep hep (FU - 1 - 1 + 1)).1 q (by omega)
    rw [eM2, if_pos (show us P = 0 from eusP)]
    have hX2 : XL (P + 1) (e + 1) e H (put1 P h US) (put1 P e FI) (put1 P e LA) (put1 P 1 BG) (put1 e P BP) (put1 e 0 BL) (put1 e P EP) (upd bp e (nI P)) (upd bl e 0) ep (upd fi P (nI e)) (upd la P (nI e)) (upd (upd bg P 0) P (0 + 1)) (upd (upd fd P 0) P (0 + nI h)) (upd hl P (nI (H P))) :=
      XL_fresh hX rfl (fun p hp => ⟨by rw [upd_ne hp, upd_ne hp], by rw [upd_ne hp, upd_ne hp], by rw [upd_ne hp]⟩) ⟨by rw [upd_eq]; rfl, by rw [upd_eq, Int32.zero_add], upd_eq⟩
    have hM2 := ML_fresh (h := h) hM
    obtain ⟨P', US', FI', LA', BG', EP', ep', fi', la', bg', fd', hl', us', mf', ml', mep', e1, e2, -, e3, e4, e5, e6⟩ := fin_both he30 hH hL hPB hn hz hh (rest := n - h) (p := P) hf2 (by omega) (by omega) (fun _ => by omega) (LI_fresh hI h1 (by omega)) hX2 hM2
    rw [put1_eq] at e1
    rw [Nat.zero_add]
    exact ⟨P', US', FI', LA', BG', _, _, EP', _, _, ep', fi', la', bg', fd', hl', us', mf', ml', _, _, mep', e1, e2, e3, e4, e5, e6⟩
  · -- behind others
    obtain ⟨p0, rfl⟩ : ∃ p0, P = p0 + 1 := ⟨P - 1, by
      have : P ≠ 0 := fun c => q (by unfold rmN hereN; rw [if_pos c, if_neg (by omega), if_pos (by omega)])
      omega⟩
    have he1 : 1 ≤ e := by omega
    have hb := hI.2.1 p0 (by omega)
    have er : rmN L (p0 + 1) H US = L - H p0 - US p0 := by unfold rmN; rw [if_neg (by omega), Nat.add_sub_cancel]
    rw [er] at q hhl ⊢
    rw [if_neg (show ¬ nI (hereN n (L - H p0 - US p0) k) = (0 : Int32) from fun c => by have := (nI_eq (a := hereN n (L - H p0 - US p0) k) (b := 0) (by omega) (by decide)).mp c; omega)]
    obtain ⟨a1, a2, a3, a4, a5⟩ := hX.1 p0 (by omega)
    have nus : ¬ nI (US p0) = (0 : Int32) := fun c => by have := (nI_eq (a := US p0) (b := 0) (by omega) (by decide)).mp c; omega
    generalize hhe : hereN n (L - H p0 - US p0) k = h at *
    have eJ : J_X0_layEntry_25 (nI e) (nI n) (nI PB) (nI L) bp bl ep fi la nh (nI h) (nI (p0 + 1)) (nI (L - H p0 - US p0)) bg fd hl = J_X0_layEntry_36 (nI e) (nI n) (nI PB) (nI L) bp bl ep fi la nh (nI (p0 + 1)) (nI (L - H p0 - US p0)) bg fd hl (nI h) := by
      unfold J_X0_layEntry_25
      rw [if_neg (show ¬ nI h = (0 : Int32) from fun c => by have := (nI_eq (a := h) (b := 0) (by omega) (by decide)).mp c; omega)]
    rw [eJ, x_start (p := p0) (by omega) he30 hhl.2 hhl.1, if_neg (by rw [a4]; exact nus)]
    obtain ⟨f2, hf2, eM2⟩ := (m_entry (p := p0) (u := US p0) (by omega) he30 hn1 hk hL hz hzn hH hh hb.2 (hM.1 p0 (by omega)) eusP (nI (p0 + 1)) mf ml mbp mbl mep hep (FU - 1 - 1 + 1)).2 h (Or.inl ⟨hhe.symm, q⟩)
    rw [Nat.add_sub_cancel, eM2, if_neg (show ¬ us p0 = (0 : Int32) by rw [hM.1 p0 (by omega)]; exact nus)]
    have hX2 := XL_here (h := h) hX
    have hM2 := ML_here (h := h) hM
    obtain ⟨P', US', FI', LA', BG', EP', ep', fi', la', bg', fd', hl', us', mf', ml', mep', e1, e2, -, e3, e4, e5, e6⟩ := fin_both he30 hH hL hPB hn hz hh (rest := n - h) (p := p0) hf2 (by omega) (by omega) (fun _ => by omega) (LI_here (m := h) hI he1 (by omega)) hX2 hM2
    rw [put1_eq, show L - H p0 - (US p0 + h) = L - H p0 - US p0 - h by omega] at e1
    exact ⟨P', US', FI', LA', BG', _, _, EP', _, _, ep', fi', la', bg', fd', hl', us', mf', ml', _, _, mep', e1, e2, e3, e4, e5, e6⟩
