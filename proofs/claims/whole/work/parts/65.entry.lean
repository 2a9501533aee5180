/-! one entry laid, on both sides -/
theorem XL_here {p e h : Nat} {H US FI LA BG BP BL EP : Nat → Nat} {bp bl ep fi la bg fd hl : Nat → Int32} (hx : XL (p + 1) e e H US FI LA BG BP BL EP bp bl ep fi la bg fd hl) :
    XL (p + 1) (e + 1) e H (put1 p (US p + h) US) FI (put1 p e LA) (put1 p (BG p + 1) BG) (put1 e p BP) (put1 e (US p) BL) (put1 e p EP) (upd bp e (nI p)) (upd bl e (fd p)) ep fi (upd la p (nI e)) (upd bg p (bg p + 1)) (upd fd p (fd p + nI h)) hl := by
  obtain ⟨a, b, c⟩ := hx
  obtain ⟨a1, a2, a3, a4, a5⟩ := a p (by omega)
  refine ⟨fun x hx => ?_, fun x hx => ?_, fun x hx => by rw [put1_ne (by omega)]; exact c x hx⟩
  · by_cases q : x = p
    · rw [q, upd_eq, upd_eq, upd_eq, put1_eq, put1_eq, put1_eq, a3, a4, nI_add, nI_1]
      exact ⟨a1, rfl, rfl, rfl, a5⟩
    · rw [upd_ne q, upd_ne q, upd_ne q, put1_ne q, put1_ne q, put1_ne q]
      exact a x hx
  · by_cases q : x = e
    · rw [q, upd_eq, upd_eq, put1_eq, put1_eq]
      exact ⟨rfl, a4⟩
    · rw [upd_ne q, upd_ne q, put1_ne q, put1_ne q]
      exact b x (by omega)
theorem XL_fresh {P e h : Nat} {H US FI LA BG BP BL EP : Nat → Nat} {bp bl ep fi la bg fd hl bg' fd' hl' : Nat → Int32} {b0 : Int32} (hx : XL P e e H US FI LA BG BP BL EP bp bl ep fi la bg fd hl) (hb0 : b0 = nI 0) (h1 : ∀ p, p ≠ P → bg' p = bg p ∧ fd' p = fd p ∧ hl' p = hl p) (h2 : bg' P = nI 1 ∧ fd' P = nI h ∧ hl' P = nI (H P)) :
    XL (P + 1) (e + 1) e H (put1 P h US) (put1 P e FI) (put1 P e LA) (put1 P 1 BG) (put1 e P BP) (put1 e 0 BL) (put1 e P EP) (upd bp e (nI P)) (upd bl e b0) ep (upd fi P (nI e)) (upd la P (nI e)) bg' fd' hl' := by
  obtain ⟨a, b, c⟩ := hx
  refine ⟨fun x hx => ?_, fun x hx => ?_, fun x hx => by rw [put1_ne (by omega)]; exact c x hx⟩
  · by_cases q : x = P
    · rw [q, upd_eq, upd_eq, put1_eq, put1_eq, put1_eq, put1_eq]
      exact ⟨rfl, rfl, h2.1, h2.2.1, h2.2.2⟩
    · rw [upd_ne q, upd_ne q, put1_ne q, put1_ne q, put1_ne q, put1_ne q, (h1 x q).1, (h1 x q).2.1, (h1 x q).2.2]
      exact a x (by omega)
  · by_cases q : x = e
    · rw [q, upd_eq, upd_eq, put1_eq, put1_eq]
      exact ⟨rfl, hb0⟩
    · rw [upd_ne q, upd_ne q, put1_ne q, put1_ne q]
      exact b x (by omega)
theorem ML_here {p e T h : Nat} {US FI LA BP BL EP : Nat → Nat} {us fi la bp bl ep : Nat → Int32} (hm : ML (p + 1) e T US FI LA BP BL EP us fi la bp bl ep) :
    ML (p + 1) (e + 1) T (put1 p (US p + h) US) FI (put1 p e LA) (put1 e p BP) (put1 e (US p) BL) (put1 e p EP) (upd us p (nI (US p + h))) (upd fi p (fi p)) (upd la p (nI e)) (upd bp e (nI p)) (upd bl e (nI (US p))) (upd ep e (nI p)) := by
  obtain ⟨a, b, c, d⟩ := hm
  refine ⟨fun x hx => ?_, fun x hx => ?_, fun x hx => ?_, fun x h1 h2 => by rw [upd_ne (by omega)]; exact d x (by omega) h2⟩
  · by_cases q : x = p
    · rw [q, upd_eq, put1_eq]
    · rw [upd_ne q, put1_ne q]; exact a x hx
  · by_cases q : x = p
    · rw [q, upd_eq, upd_eq, put1_eq]
      exact ⟨(b p (by omega)).1, rfl⟩
    · rw [upd_ne q, upd_ne q, put1_ne q]; exact b x hx
  · by_cases q : x = e
    · rw [q, upd_eq, upd_eq, upd_eq, put1_eq, put1_eq, put1_eq]
      exact ⟨rfl, rfl, rfl⟩
    · rw [upd_ne q, upd_ne q, upd_ne q, put1_ne q, put1_ne q, put1_ne q]
      exact c x (by omega)
theorem ML_fresh {P e T h : Nat} {US FI LA BP BL EP : Nat → Nat} {us fi la bp bl ep : Nat → Int32} (hm : ML P e T US FI LA BP BL EP us fi la bp bl ep) :
    ML (P + 1) (e + 1) T (put1 P h US) (put1 P e FI) (put1 P e LA) (put1 e P BP) (put1 e 0 BL) (put1 e P EP) (upd us P (nI h)) (upd fi P (nI e)) (upd la P (nI e)) (upd bp e (nI P)) (upd bl e (nI 0)) (upd ep e (nI P)) := by
  obtain ⟨a, b, c, d⟩ := hm
  refine ⟨fun x hx => ?_, fun x hx => ?_, fun x hx => ?_, fun x h1 h2 => by rw [upd_ne (by omega)]; exact d x (by omega) h2⟩
  · by_cases q : x = P
    · rw [q, upd_eq, put1_eq]
    · rw [upd_ne q, put1_ne q]; exact a x hx
  · by_cases q : x = P
    · rw [q, upd_eq, upd_eq, put1_eq, put1_eq]
      exact ⟨rfl, rfl⟩
    · rw [upd_ne q, upd_ne q, put1_ne q, put1_ne q]; exact b x (by omega)
  · by_cases q : x = e
    · rw [q, upd_eq, upd_eq, upd_eq, put1_eq, put1_eq, put1_eq]
      exact ⟨rfl, rfl, rfl⟩
    · rw [upd_ne q, upd_ne q, upd_ne q, put1_ne q, put1_ne q, put1_ne q]
      exact c x (by omega)
theorem here_le (n r k : Nat) : hereN n r k ≤ r ∧ hereN n r k ≤ n := by
  unfold hereN
  repeat' split
  all_goals omega
/-- the class begins an entry on page p -/
theorem x_start {p e n h : Nat} (hp : p < 300) (he : e < 30) (hh : h ≤ n) {rm : Nat} (hr : h ≤ rm) (PB L : Int32) (bp bl ep fi la nh bg fd hl : Nat → Int32) :
    J_X0_layEntry_36 (nI e) (nI n) PB L bp bl ep fi la nh (nI (p + 1)) (nI rm) bg fd hl (nI h) = L_X0_layEntry_57 (fun (i6_57 : Int32) (i5_57 : Int32) (v_pages_57 : Int32) (v_room_57 : Int32) (v_first_57 : Nat → Int32) (v_last_57 : Nat → Int32) (v_begun_57 : Nat → Int32) (v_filled_57 : Nat → Int32) (v_headLines_57 : Nat → Int32) => gd (xin (nI e) 30) (some (v_pages_57, v_room_57, upd bp e (nI p), upd bl e (fd p), (upd ep (nI e).toNatClampNeg (v_pages_57 - 1)), v_first_57, v_last_57, v_begun_57, v_filled_57, v_headLines_57))) (nI e) PB L nh FU 0 (nI (n - h)) (nI (p + 1)) (nI (rm - h)) (if fd p = 0 then upd fi p (nI e) else fi) (upd la p (nI e)) (upd bg p (bg p + 1)) (upd fd p (fd p + nI h)) hl := by
  unfold J_X0_layEntry_36
  rw [bd_eq (x_begin hp he bp bl bg fd)]
  dsimp only
  rw [bd_eq (x_fill hp he (nI rm) (nI h) fi la fd)]
  dsimp only
  rw [pk_sub hh, pk_sub hr]
def KR : Int32 → Int32 → Int32 → (Nat → Int32) → (Nat → Int32) → (Nat → Int32) → (Nat → Int32) → (Nat → Int32) → (Nat → Int32) → Option (Int32 × Int32 × (Nat → Int32) × (Nat → Int32) × (Nat → Int32) × (Nat → Int32) × (Nat → Int32) × (Nat → Int32)) := fun (i4_9 : Int32) (i3_9 : Int32) (v_pages_9 : Int32) (v_used_9 : Nat → Int32) (v_firsts_9 : Nat → Int32) (v_lasts_9 : Nat → Int32) (v_beginPages_9 : Nat → Int32) (v_beginLines_9 : Nat → Int32) (v_endPages_9 : Nat → Int32) => some (i3_9, v_pages_9, v_used_9, v_firsts_9, v_lasts_9, v_beginPages_9, v_beginLines_9, v_endPages_9)
theorem m_pour1 {K2 : Int32 → Int32 → Int32 → (Nat → Int32) → (Nat → Int32) → (Nat → Int32) → (Nat → Int32) → (Nat → Int32) → (Nat → Int32) → Option (Int32 × Int32 × (Nat → Int32) × (Nat → Int32) × (Nat → Int32) × (Nat → Int32) × (Nat → Int32) × (Nat → Int32))} {p e n h u L : Nat} (hp : p < 400) (he : e < 30) (hn : 1 ≤ n ∧ n ≤ 40) (hL : L ≤ 40) {z : Nat → Int64} (hz : z 0 = lN L) {H : Nat → Nat} {hd : Nat → Int32} (hh : ∀ p, p < 400 → hd p = nI (H p)) (hHu : H p + u ≤ L) {us : Nat → Int32} (hu : us p = nI u) (hm : (h = n ∧ n ≤ L - H p - u) ∨ (h = L - H p - u ∧ h < n)) (f : Nat) (pg : Int32) (fi la bp bl ep : Nat → Int32) :
    L_X6_pour_9 K2 (nI e) z hd (f + 1) (nI n) (nI p) pg us fi la bp bl ep = L_X6_pour_9 K2 (nI e) z hd f (nI (n - h)) (nI (if n - h = 0 then p else p + 1)) (nI (p + 1)) (upd us p (nI (u + h))) (upd fi p (if us p = 0 then nI e else fi p)) (upd la p (nI e)) (if ep e = (-6) then upd bp e (nI p) else bp) (if ep e = (-6) then upd bl e (us p) else bl) (upd ep e (nI p)) := by
  have J : J_X6_pour_42 (fun (i4_9 : Int32) (i3_9 : Int32) (v_pages_9 : Int32) (v_used_9 : Nat → Int32) (v_firsts_9 : Nat → Int32) (v_lasts_9 : Nat → Int32) (v_beginPages_9 : Nat → Int32) (v_beginLines_9 : Nat → Int32) (v_endPages_9 : Nat → Int32) => L_X6_pour_9 K2 (nI e) z hd f i4_9 i3_9 v_pages_9 v_used_9 v_firsts_9 v_lasts_9 v_beginPages_9 v_beginLines_9 v_endPages_9) (nI e) (nI n) (nI p) us fi la bp bl ep (nI h) = L_X6_pour_9 K2 (nI e) z hd f (nI (n - h)) (nI (if n - h = 0 then p else p + 1)) (nI (p + 1)) (upd us p (nI (u + h))) (upd fi p (if us p = 0 then nI e else fi p)) (upd la p (nI e)) (if ep e = (-6) then upd bp e (nI p) else bp) (if ep e = (-6) then upd bl e (us p) else bl) (upd ep e (nI p)) := by
    unfold J_X6_pour_42
    rw [bd_eq (m_lay hp he (nI h) us fi la bp bl ep)]
    dsimp only
    have e1 : us p + nI h = nI (u + h) := by rw [hu, nI_add]
    rw [pk_sub (by omega), e1]
    by_cases q : n - h = 0
    · rw [if_pos q, if_pos (show nI (n - h) ≤ (0 : Int32) by rw [q]; decide), Int32.add_zero]
    · rw [if_neg q, if_neg (show ¬ nI (n - h) ≤ (0 : Int32) from nI_ge (a := 0) (b := n - h) (by omega) (by omega)), nI_1]
  rw [L_X6_pour_9_s, if_neg (show ¬ nI n ≤ (0 : Int32) from nI_ge (a := 0) (b := n) (by omega) (by omega)), bd_eq (m_room hp hL hz hh (by omega)), gd_t (xin_nI hp (by decide)), clN (by omega), hu, pk_sub (by omega)]
  rw [hu] at J
  by_cases q : L - H p - u ≤ n
  · rw [if_pos (nI_le q (by omega)), show L - H p - u = h by omega]
    exact J
  · rw [if_neg (nI_ge (by omega) (by omega))]
    have e2 : h = n := by omega
    rw [e2] at J ⊢
    exact J
