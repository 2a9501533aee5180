/-! the layout: one page, one piece, on both sides -/
theorem x_open {P PB L : Nat} (hP : P < 300) (hPB : PB < 2 ^ 30) {H : Nat → Nat} (hH : ∀ p, H p = 1 ∨ H p = 2) (hL : 6 ≤ L ∧ L ≤ 40) {nh : Nat → Int32} (hn : (∀ p, p < PB → nh p = nI (H p)) ∧ ∀ p, PB ≤ p → H p = 1) (room : Int32) (bg fd hl : Nat → Int32) :
    f_X0_openPage (nI P) (nI PB) (nI L) room bg fd hl nh = some (nI (P + 1), nI (L - H P), upd bg P 0, upd fd P 0, upd hl P (nI (H P))) := by
  have hh := hH P
  have J : J_X0_openPage_43 (nI P) (nI L) bg fd hl (nI (H P)) = some (nI (P + 1), nI (L - H P), upd bg P 0, upd fd P 0, upd hl P (nI (H P))) := by
    have e : upd hl P (nI (H P)) P = nI (H P) := if_pos rfl
    unfold J_X0_openPage_43
    rw [gd_t (xin_nI hP (by decide)), gd_t (xin_nI hP (by decide)), gd_t (xin_nI hP (by decide)), gd_t (xin_nI hP (by decide)), clN (by omega), nI_1, e, pk_sub (by omega)]
  unfold f_X0_openPage
  rw [if_pos (show nI P < (300 : Int32) from nI_lt (b := 300) hP (by decide))]
  by_cases q : P < PB
  · rw [if_neg (nI_ge q (by omega)), gd_t (xin_nI hP (by decide)), clN (by omega), hn.1 P q, J]
  · rw [if_pos (nI_le (by omega) (by omega))]
    have e1 : H P = 1 := hn.2 P (by omega)
    rw [e1] at J ⊢
    exact J
theorem x_hasPage {P p : Nat} (hP : P < 2 ^ 30) (h : p < P) : f_X0_hasPage (nI P) (nI p) = 1 := by
  unfold f_X0_hasPage
  rw [if_neg (show ¬ nI p < (0 : Int32) from nI_nlt (a := p) (b := 0) (by omega) (by omega)), if_neg (nI_ge h (by omega))]
theorem x_begin {p e : Nat} (hp : p < 300) (he : e < 30) (bp bl bg fd : Nat → Int32) :
    f_X0_begin (nI (p + 1)) bp bl bg fd (nI e) = some (upd bp e (nI p), upd bl e (fd p), upd bg p (bg p + 1)) := by
  unfold f_X0_begin
  rw [nI_pred, x_hasPage (by omega) (by omega), if_neg (by decide), gd_t (xin_nI he (by decide)), gd_t (xin_nI hp (by decide)), gd_t (xin_nI he (by decide)), gd_t (xin_nI hp (by decide)), gd_t (xin_nI hp (by decide)), clN (by omega), clN (by omega)]
theorem x_fill {p e : Nat} (hp : p < 300) (he : e < 30) (room h : Int32) (fi la fd : Nat → Int32) :
    f_X0_fill (nI (p + 1)) room fi la fd (nI e) h = some (room - h, if fd p = 0 then upd fi p (nI e) else fi, upd la p (nI e), upd fd p (fd p + h)) := by
  have J : ∀ fi', J_X0_fill_32 (nI e) h (nI (p + 1)) room la fd fi' = some (room - h, fi', upd la p (nI e), upd fd p (fd p + h)) := fun fi' => by
    unfold J_X0_fill_32
    rw [nI_pred, gd_t (xin_nI hp (by decide)), gd_t (xin_nI hp (by decide)), gd_t (xin_nI hp (by decide)), clN (by omega)]
  unfold f_X0_fill
  rw [nI_pred, x_hasPage (by omega) (by omega), if_neg (by decide), gd_t (xin_nI hp (by decide)), clN (by omega)]
  by_cases q : fd p = 0
  · rw [if_pos q, if_pos q, gd_t (xin_nI hp (by decide)), J]
  · rw [if_neg q, if_neg q, J]
def hereN (n r k : Nat) : Nat := if n ≤ r then n else if r < k then 0 else if k ≤ n - r then r else if k ≤ n - k then n - k else 0
theorem x_here {n r k : Nat} (hn : n ≤ 40) (hr : r ≤ 40) (hk : 1 ≤ k ∧ k ≤ 3) : f_X0_linesHere (nI r) (nI n) (nI k) = nI (hereN n r k) := by
  unfold f_X0_linesHere hereN
  by_cases q1 : n ≤ r
  · rw [if_neg (nI_nlt q1 (by omega)), if_pos q1]
  · rw [if_pos (nI_lt (by omega) (by omega)), if_neg q1]
    by_cases q2 : r < k
    · rw [if_neg (nI_ge q2 (by omega)), if_pos q2]
      rfl
    · rw [if_pos (nI_le (by omega) (by omega)), if_neg q2, pk_sub (by omega)]
      by_cases q3 : k ≤ n - r
      · rw [if_neg (nI_nlt q3 (by omega)), if_pos q3]
      · rw [if_pos (nI_lt (by omega) (by omega)), if_neg q3, pk_sub (by omega)]
        by_cases q4 : k ≤ n - k
        · rw [if_neg (nI_nlt q4 (by omega)), if_pos q4]
        · rw [if_pos (nI_lt (by omega) (by omega)), if_neg q4]
          rfl
/-! the layout as numbers: P pages, N entries begun, M of them ended (by the class) -/
def XL (P N M : Nat) (H US FI LA BG BP BL EP : Nat → Nat) (bp bl ep fi la bg fd hl : Nat → Int32) : Prop :=
  (∀ p, p < P → fi p = nI (FI p) ∧ la p = nI (LA p) ∧ bg p = nI (BG p) ∧ fd p = nI (US p) ∧ hl p = nI (H p)) ∧ (∀ e, e < N → bp e = nI (BP e) ∧ bl e = nI (BL e)) ∧ ∀ e, e < M → ep e = nI (EP e)
def LI (L P N : Nat) (H US FI LA BG BP EP : Nat → Nat) : Prop :=
  (∀ p, P ≤ p → US p = 0) ∧ (∀ p, p < P → 1 ≤ US p ∧ H p + US p ≤ L) ∧ (∀ p, p < P → FI p ≤ LA p ∧ LA p < N ∧ BG p ≤ LA p + 1 ∧ ∀ e, e < N → (BP e = p ↔ LA p < e + BG p ∧ e ≤ LA p)) ∧ (∀ e, e < N → BP e ≤ EP e ∧ EP e < P) ∧ (0 < N → 1 ≤ P ∧ LA (P - 1) = N - 1 ∧ EP (N - 1) = P - 1)
theorem upd_eq {f : Nat → Int32} {k : Nat} {x : Int32} : upd f k x k = x := if_pos rfl
theorem upd_ne {f : Nat → Int32} {k j : Nat} {x : Int32} (h : j ≠ k) : upd f k x j = f j := if_neg h
/-- one more page for the entry of now -/
theorem LI_more {L P e : Nat} {H US FI LA BG BP EP : Nat → Nat} (h : LI L P (e + 1) H US FI LA BG BP EP) {m : Nat} (hm : 1 ≤ m) (hmL : H P + m ≤ L) :
    LI L (P + 1) (e + 1) H (put1 P m US) (put1 P e FI) (put1 P e LA) (put1 P 0 BG) BP (put1 e P EP) := by
  obtain ⟨a, b, c, d, g⟩ := h
  obtain ⟨g1, g2, g3⟩ := g (by omega)
  refine ⟨fun p hp => ?_, fun p hp => ?_, fun p hp => ?_, fun x hx => ?_, fun _ => ⟨by omega, ?_, ?_⟩⟩
  · rw [put1_ne (by omega)]; exact a p (by omega)
  · by_cases q : p = P
    · rw [q, put1_eq]; omega
    · rw [put1_ne q]; exact b p (by omega)
  · by_cases q : p = P
    · subst q
      rw [put1_eq, put1_eq, put1_eq]
      refine ⟨Nat.le_refl _, by omega, by omega, fun x hx => ⟨fun hb => ?_, fun hb => by omega⟩⟩
      have := d x hx
      omega
    · rw [put1_ne q, put1_ne q, put1_ne q]
      exact c p (by omega)
  · have := d x hx
    by_cases q : x = e
    · rw [q, put1_eq]
      rw [q] at this
      omega
    · rw [put1_ne q]
      omega
  · rw [Nat.add_sub_cancel, Nat.add_sub_cancel, put1_eq]
  · rw [Nat.add_sub_cancel, Nat.add_sub_cancel, put1_eq]
/-- an entry begins on a fresh page -/
theorem LI_fresh {L P e : Nat} {H US FI LA BG BP EP : Nat → Nat} (h : LI L P e H US FI LA BG BP EP) {m : Nat} (hm : 1 ≤ m) (hmL : H P + m ≤ L) :
    LI L (P + 1) (e + 1) H (put1 P m US) (put1 P e FI) (put1 P e LA) (put1 P 1 BG) (put1 e P BP) (put1 e P EP) := by
  obtain ⟨a, b, c, d, g⟩ := h
  refine ⟨fun p hp => ?_, fun p hp => ?_, fun p hp => ?_, fun x hx => ?_, fun _ => ⟨by omega, ?_, ?_⟩⟩
  · rw [put1_ne (by omega)]; exact a p (by omega)
  · by_cases q : p = P
    · rw [q, put1_eq]; omega
    · rw [put1_ne q]; exact b p (by omega)
  · by_cases q : p = P
    · subst q
      rw [put1_eq, put1_eq, put1_eq]
      refine ⟨Nat.le_refl _, by omega, by omega, fun x hx => ?_⟩
      by_cases r : x = e
      · rw [r, put1_eq]
        omega
      · rw [put1_ne r]
        have := d x (by omega)
        omega
    · rw [put1_ne q, put1_ne q, put1_ne q]
      obtain ⟨c1, c2, c3, c4⟩ := c p (by omega)
      refine ⟨c1, by omega, c3, fun x hx => ?_⟩
      by_cases r : x = e
      · rw [r, put1_eq]
        omega
      · rw [put1_ne r]
        exact c4 x (by omega)
  · by_cases q : x = e
    · rw [q, put1_eq, put1_eq]
      omega
    · rw [put1_ne q, put1_ne q]
      have := d x (by omega)
      omega
  · rw [Nat.add_sub_cancel, Nat.add_sub_cancel, put1_eq]
  · rw [Nat.add_sub_cancel, Nat.add_sub_cancel, put1_eq]
/-- an entry begins behind others -/
theorem LI_here {L p0 e : Nat} {H US FI LA BG BP EP : Nat → Nat} (h : LI L (p0 + 1) e H US FI LA BG BP EP) (he : 1 ≤ e) {m : Nat} (hmL : H p0 + US p0 + m ≤ L) :
    LI L (p0 + 1) (e + 1) H (put1 p0 (US p0 + m) US) FI (put1 p0 e LA) (put1 p0 (BG p0 + 1) BG) (put1 e p0 BP) (put1 e p0 EP) := by
  obtain ⟨a, b, c, d, g⟩ := h
  obtain ⟨g1, g2, g3⟩ := g (by omega)
  rw [Nat.add_sub_cancel] at g2 g3
  refine ⟨fun p hp => ?_, fun p hp => ?_, fun p hp => ?_, fun x hx => ?_, fun _ => ⟨by omega, ?_, ?_⟩⟩
  · rw [put1_ne (by omega)]; exact a p (by omega)
  · by_cases q : p = p0
    · have := b p0 (by omega)
      rw [q, put1_eq]; omega
    · rw [put1_ne q]; exact b p (by omega)
  · by_cases q : p = p0
    · subst q
      rw [put1_eq, put1_eq]
      obtain ⟨c1, c2, c3, c4⟩ := c p (by omega)
      refine ⟨by omega, by omega, by omega, fun x hx => ?_⟩
      by_cases r : x = e
      · rw [r, put1_eq]
        omega
      · rw [put1_ne r]
        have := c4 x (by omega)
        omega
    · rw [put1_ne q, put1_ne q]
      obtain ⟨c1, c2, c3, c4⟩ := c p (by omega)
      refine ⟨c1, by omega, c3, fun x hx => ?_⟩
      by_cases r : x = e
      · rw [r, put1_eq]
        omega
      · rw [put1_ne r]
        exact c4 x (by omega)
  · by_cases q : x = e
    · rw [q, put1_eq, put1_eq]
      omega
    · rw [put1_ne q, put1_ne q]
      have := d x (by omega)
      omega
  · rw [Nat.add_sub_cancel, Nat.add_sub_cancel, put1_eq]
  · rw [Nat.add_sub_cancel, Nat.add_sub_cancel, put1_eq]
theorem XL_more {P e m : Nat} {H US FI LA BG BP BL EP : Nat → Nat} {bp bl ep fi la bg fd fd' hl : Nat → Int32} (h : XL P (e + 1) e H US FI LA BG BP BL EP bp bl ep fi la bg fd hl) (hf : ∀ p, p ≠ P → fd' p = fd p) (hP : fd' P = nI m) :
    XL (P + 1) (e + 1) e H (put1 P m US) (put1 P e FI) (put1 P e LA) (put1 P 0 BG) BP BL (put1 e P EP) bp bl ep (upd fi P (nI e)) (upd la P (nI e)) (upd bg P 0) fd' (upd hl P (nI (H P))) := by
  obtain ⟨a, b, c⟩ := h
  refine ⟨fun p hp => ?_, b, fun x hx => by rw [put1_ne (by omega)]; exact c x hx⟩
  by_cases q : p = P
  · rw [q, upd_eq, upd_eq, upd_eq, upd_eq, put1_eq, put1_eq, put1_eq, put1_eq, hP]
    exact ⟨rfl, rfl, rfl, rfl, rfl⟩
  · rw [upd_ne q, upd_ne q, upd_ne q, upd_ne q, put1_ne q, put1_ne q, put1_ne q, put1_ne q, hf p q]
    exact a p (by omega)
theorem XL_here {p e h : Nat} {H US FI LA BG BP BL EP : Nat → Nat} {bp bl ep fi la bg fd hl : Nat → Int32} (hx : XL (p + 1) e e H US FI LA BG BP BL EP bp bl ep fi la bg fd hl) :
    XL (p + 1) (e + 1) e H (put1 p (US p + h) US) FI (put1 p e LA) (put1 p (BG p + 1) BG) (put1 e p BP) (put1 e (US p) BL) (put1 e p EP) (upd bp e (nI p)) (upd bl e (fd p)) ep fi (upd la p (nI e)) (upd bg p (bg p + 1)) (upd fd p (fd p + nI h)) hl := by
  obtain ⟨a, b, c⟩ := hx
  obtain ⟨a1, a2, a3, a4, a5⟩ := a p (by omega)
  refine ⟨fun x hx => ?_, fun x hx => ?_, fun x hx => by rw [put1_ne (by omega)]; exact c x hx⟩
  · by_cases q : x = p
    · rw [q, upd_eq, upd_eq, upd_eq, put1_eq, put1_eq, put1_eq, a3, a4, nI_add, nI_1]
      exact ⟨a1, rfl, rfl, rfl, a5⟩
    · rw [upd_ne q, upd_ne q, upd_ne q, put1_ne q, put1_ne q, put1_ne q]
      exact a x hx
  · by_cases q : x = e
    · rw [q, upd_eq, upd_eq, put1_eq, put1_eq]
      exact ⟨rfl, a4⟩
    · rw [upd_ne q, upd_ne q, put1_ne q, put1_ne q]
      exact b x (by omega)
theorem XL_fresh {P e h : Nat} {H US FI LA BG BP BL EP : Nat → Nat} {bp bl ep fi la bg fd hl bg' fd' hl' : Nat → Int32} {b0 : Int32} (hx : XL P e e H US FI LA BG BP BL EP bp bl ep fi la bg fd hl) (hb0 : b0 = nI 0) (h1 : ∀ p, p ≠ P → bg' p = bg p ∧ fd' p = fd p ∧ hl' p = hl p) (h2 : bg' P = nI 1 ∧ fd' P = nI h ∧ hl' P = nI (H P)) :
    XL (P + 1) (e + 1) e H (put1 P h US) (put1 P e FI) (put1 P e LA) (put1 P 1 BG) (put1 e P BP) (put1 e 0 BL) (put1 e P EP) (upd bp e (nI P)) (upd bl e b0) ep (upd fi P (nI e)) (upd la P (nI e)) bg' fd' hl' := by
  obtain ⟨a, b, c⟩ := hx
  refine ⟨fun x hx => ?_, fun x hx => ?_, fun x hx => by rw [put1_ne (by omega)]; exact c x hx⟩
  · by_cases q : x = P
    · rw [q, upd_eq, upd_eq, put1_eq, put1_eq, put1_eq, put1_eq]
      exact ⟨rfl, rfl, h2.1, h2.2.1, h2.2.2⟩
    · rw [upd_ne q, upd_ne q, put1_ne q, put1_ne q, put1_ne q, put1_ne q, (h1 x q).1, (h1 x q).2.1, (h1 x q).2.2]
      exact a x (by omega)
  · by_cases q : x = e
    · rw [q, upd_eq, upd_eq, put1_eq, put1_eq]
      exact ⟨rfl, hb0⟩
    · rw [upd_ne q, upd_ne q, put1_ne q, put1_ne q]
      exact b x (by omega)
theorem here_le (n r k : Nat) : hereN n r k ≤ r ∧ hereN n r k ≤ n := by
  unfold hereN
  repeat' split
  all_goals omega
/-- the class begins an entry on page p -/
theorem x_start {p e n h : Nat} (hp : p < 300) (he : e < 30) (hh : h ≤ n) {rm : Nat} (hr : h ≤ rm) (PB L : Int32) (bp bl ep fi la nh bg fd hl : Nat → Int32) :
    J_X0_layEntry_36 (nI e) (nI n) PB L bp bl ep fi la nh (nI (p + 1)) (nI rm) bg fd hl (nI h) = L_X0_layEntry_57 (fun (i6_57 : Int32) (i5_57 : Int32) (v_pages_57 : Int32) (v_room_57 : Int32) (v_first_57 : Nat → Int32) (v_last_57 : Nat → Int32) (v_begun_57 : Nat → Int32) (v_filled_57 : Nat → Int32) (v_headLines_57 : Nat → Int32) => gd (xin (nI e) 30) (some (v_pages_57, v_room_57, upd bp e (nI p), upd bl e (fd p), (upd ep (nI e).toNatClampNeg (v_pages_57 - 1)), v_first_57, v_last_57, v_begun_57, v_filled_57, v_headLines_57))) (nI e) PB L nh FU 0 (nI (n - h)) (nI (p + 1)) (nI (rm - h)) (if fd p = 0 then upd fi p (nI e) else fi) (upd la p (nI e)) (upd bg p (bg p + 1)) (upd fd p (fd p + nI h)) hl := by
  unfold J_X0_layEntry_36
  rw [bd_eq (x_begin hp he bp bl bg fd)]
  dsimp only
  rw [bd_eq (x_fill hp he (nI rm) (nI h) fi la fd)]
  dsimp only
  rw [pk_sub hh, pk_sub hr]
def rmN (L P : Nat) (H US : Nat → Nat) : Nat := if P = 0 then 0 else L - H (P - 1) - US (P - 1)
def hlN (W : Nat → List Nat) (a b : Nat) : Nat := if b = a then (W a).length else (W a).length + 1 + (W b).length
def wnN (W : Nat → List Nat) (Wd a b : Nat) : Nat := if hlN W a b ≤ Wd then 1 else 2
theorem wn_12 (W : Nat → List Nat) (Wd a b : Nat) : wnN W Wd a b = 1 ∨ wnN W Wd a b = 2 := by unfold wnN; split <;> omega
theorem hl_le {N : Nat} {G : Nat → Nat} {W : Nat → List Nat} (ok : OKE N G W) {a b : Nat} (ha : a < N) (hb : b < N) : hlN W a b ≤ 15 := by
  have h1 := (ok.2.1 a ha).2.2.1.1
  have h2 := (ok.2.1 b hb).2.2.1.1
  unfold hlN
  split <;> omega
theorem x_width {N : Nat} {G : Nat → Nat} {W : Nat → List Nat} (ok : OKE N G W) {wd : Nat → Int64} (hwd : ∀ i, i < N → wd i = lN (pk (W i))) {p a b : Nat} (hp : p < 300) (ha : a < N) (hb : b < N) {fi la : Nat → Int32} (hf : fi p = nI a) (hl : la p = nI b) :
    f_X0_headWidth fi la (nI N) wd (nI p) = some (nI (hlN W a b)) := by
  have hN := ok.1
  have wa := (ok.2.1 a ha).2.2.1
  have wb := (ok.2.1 b hb).2.2.1
  unfold f_X0_headWidth hlN
  rw [gd_t (xin_nI hp (by decide)), clN (by omega), hf, bd_eq (x_wordOf hN ha), gd_t (xin_nI hp (by decide)), gd_t (xin_nI hp (by decide)), hl, hwd a ha, x_letters wa]
  by_cases q : b = a
  · rw [if_pos (by rw [q]), if_pos q]
  · rw [if_neg (fun c => q ((nI_eq (by omega) (by omega)).mp c)), if_neg q, gd_t (xin_nI hp (by decide)), bd_eq (x_wordOf hN hb), hwd b hb, x_letters wb, nI_1, nI_add]
theorem x_ask_loop {K : Int32 → Int32 → (Nat → Int32) → Option (Int32 × (Nat → Int32))} {N : Nat} {G : Nat → Nat} {W : Nat → List Nat} (ok : OKE N G W) {wd : Nat → Int64} (hwd : ∀ i, i < N → wd i = lN (pk (W i))) {Wd P : Nat} (hW : Wd ≤ 30) (hP : P ≤ 300) {H FI LA : Nat → Nat} (hH : ∀ p, H p = 1 ∨ H p = 2) {fi la hl : Nat → Int32} (hx : ∀ p, p < P → FI p < N ∧ LA p < N ∧ fi p = nI (FI p) ∧ la p = nI (LA p) ∧ hl p = nI (H p)) : ∀ (d f i : Nat) (b : Int32) (nh : Nat → Int32), i + d = P → d < f → b = 1 ∨ b = 0 →
    ∃ b' nh', L_X0_askHeads_5 K (nI Wd) (nI P) fi la hl (nI N) wd f (nI i) b nh = K (nI P) b' nh' ∧ (∀ p, p < i → nh' p = nh p) ∧ (∀ p, i ≤ p → p < P → nh' p = nI (wnN W Wd (FI p) (LA p))) ∧ ((b' = 1 ∧ b = 1 ∧ ∀ p, i ≤ p → p < P → wnN W Wd (FI p) (LA p) = H p) ∨ (b' = 0 ∧ (b = 0 ∨ ∃ p, i ≤ p ∧ p < P ∧ wnN W Wd (FI p) (LA p) ≠ H p)))
  | _, 0, _, _, _, _, h, _ => absurd h (by omega)
  | 0, f + 1, i, b, nh, hi, _, hb => by
    refine ⟨b, nh, ?_, fun _ _ => rfl, fun p h1 h2 => absurd h2 (by omega), ?_⟩
    · rw [L_X0_askHeads_5_s, if_pos (nI_le (by omega) (by omega)), show i = P by omega]
    · rcases hb with h | h
      · exact Or.inl ⟨h, h, fun p h1 h2 => absurd h2 (by omega)⟩
      · exact Or.inr ⟨h, Or.inl h⟩
  | d + 1, f + 1, i, b, nh, hi, hf, hb => by
    have hN := ok.1
    obtain ⟨x1, x2, x3, x4, x5⟩ := hx i (by omega)
    have h15 := hl_le ok x1 x2
    have w12 := wn_12 W Wd (FI i) (LA i)
    have hHi := hH i
    have J : ∃ b1, (b1 = 1 ∨ b1 = 0) ∧ (b1 = 1 ↔ b = 1 ∧ wnN W Wd (FI i) (LA i) = H i) ∧ L_X0_askHeads_5 K (nI Wd) (nI P) fi la hl (nI N) wd (f + 1) (nI i) b nh = L_X0_askHeads_5 K (nI Wd) (nI P) fi la hl (nI N) wd f (nI (i + 1)) b1 (upd nh i (nI (wnN W Wd (FI i) (LA i)))) := by
      have J2 : ∀ s, s = nI (wnN W Wd (FI i) (LA i)) → ∃ b1, (b1 = 1 ∨ b1 = 0) ∧ (b1 = 1 ↔ b = 1 ∧ wnN W Wd (FI i) (LA i) = H i) ∧ J_X0_askHeads_36 (fun (i4_5 : Int32) (i3_5 : Int32) (v_nextHeadLines_5 : Nat → Int32) => L_X0_askHeads_5 K (nI Wd) (nI P) fi la hl (nI N) wd f i4_5 i3_5 v_nextHeadLines_5) hl (nI i) b nh s = L_X0_askHeads_5 K (nI Wd) (nI P) fi la hl (nI N) wd f (nI (i + 1)) b1 (upd nh i (nI (wnN W Wd (FI i) (LA i)))) := fun s hs => by
        rw [hs]
        unfold J_X0_askHeads_36
        rw [gd_t (xin_nI (by omega) (by decide)), gd_t (xin_nI (by omega) (by decide)), gd_t (xin_nI (by omega) (by decide)), clN (by omega), upd_eq, x5, nI_1]
        by_cases q : wnN W Wd (FI i) (LA i) = H i
        · rw [if_pos (by rw [q])]
          exact ⟨b, hb, by simp [q], rfl⟩
        · rw [if_neg (fun c => q ((nI_eq (by omega) (by omega)).mp c))]
          exact ⟨0, Or.inr rfl, ⟨fun c => absurd c (by decide), fun c => absurd c.2 q⟩, rfl⟩
      rw [L_X0_askHeads_5_s, if_neg (nI_ge (by omega) (by omega)), bd_eq (x_width ok hwd (by omega) x1 x2 x3 x4)]
      by_cases q : hlN W (FI i) (LA i) ≤ Wd
      · rw [if_neg (nI_nlt q (by omega))]
        exact J2 1 (by unfold wnN; rw [if_pos q]; rfl)
      · rw [if_pos (nI_lt (by omega) (by omega))]
        exact J2 2 (by unfold wnN; rw [if_neg q]; rfl)
    obtain ⟨b1, hb1, hiff, eJ⟩ := J
    obtain ⟨b', nh', e, h1, h2, h3⟩ := x_ask_loop (K := K) ok hwd hW hP hH hx d f (i + 1) b1 (upd nh i (nI (wnN W Wd (FI i) (LA i)))) (by omega) (by omega) hb1
    refine ⟨b', nh', by rw [eJ, e], fun p hp => by rw [h1 p (by omega), upd_ne (by omega)], fun p hp1 hp2 => ?_, ?_⟩
    · by_cases q : p = i
      · rw [q, h1 i (by omega), upd_eq]
      · exact h2 p (by omega) hp2
    · rcases h3 with ⟨a1, a2, a3⟩ | ⟨a1, a2⟩
      · have hh := hiff.mp a2
        refine Or.inl ⟨a1, hh.1, fun p hp1 hp2 => ?_⟩
        by_cases q : p = i
        · rw [q]; exact hh.2
        · exact a3 p (by omega) hp2
      · refine Or.inr ⟨a1, ?_⟩
        rcases a2 with a2 | ⟨p, p1, p2, p3⟩
        · by_cases q : wnN W Wd (FI i) (LA i) = H i
          · rcases hb with hb | hb
            · have := hiff.mpr ⟨hb, q⟩
              rw [a2] at this
              exact absurd this (by decide)
            · exact Or.inl hb
          · exact Or.inr ⟨i, Nat.le_refl _, by omega, q⟩
        · exact Or.inr ⟨p, by omega, p2, p3⟩
