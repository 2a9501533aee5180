/-! the layout: one page, one piece, on both sides -/
theorem x_open {P PB L : Nat} (hP : P < 300) (hPB : PB < 2 ^ 30) {H : Nat → Nat} (hH : ∀ p, H p = 1 ∨ H p = 2) (hL : 6 ≤ L ∧ L ≤ 40) {nh : Nat → Int32} (hn : (∀ p, p < PB → nh p = nI (H p)) ∧ ∀ p, PB ≤ p → H p = 1) (room : Int32) (bg fd hl : Nat → Int32) :
    f_X0_openPage (nI P) (nI PB) (nI L) room bg fd hl nh = some (nI (P + 1), nI (L - H P), upd bg P 0, upd fd P 0, upd hl P (nI (H P))) := by
  have hh := hH P
  have J : J_X0_openPage_43 (nI P) (nI L) bg fd hl (nI (H P)) = some (nI (P + 1), nI (L - H P), upd bg P 0, upd fd P 0, upd hl P (nI (H P))) := by
    have e : upd hl P (nI (H P)) P = nI (H P) := if_pos rfl
    unfold J_X0_openPage_43
    rw [gd_t (xin_nI hP (by decide)), gd_t (xin_nI hP (by decide)), gd_t (xin_nI hP (by decide)), gd_t (xin_nI hP (by decide)), clN (by omega), nI_1, e, pk_sub (by omega)]
  unfold f_X0_openPage
  rw [if_pos (show nI P < (300 : Int32) from nI_lt (b := 300) hP (by decide))]
  by_cases q : P < PB
  · rw [if_neg (nI_ge q (by omega)), gd_t (xin_nI hP (by decide)), clN (by omega), hn.1 P q, J]
  · rw [if_pos (nI_le (by omega) (by omega))]
    have e1 : H P = 1 := hn.2 P (by omega)
    rw [e1] at J ⊢
    exact J
theorem x_hasPage {P p : Nat} (hP : P < 2 ^ 30) (h : p < P) : f_X0_hasPage (nI P) (nI p) = 1 := by
  unfold f_X0_hasPage
  rw [if_neg (show ¬ nI p < (0 : Int32) from nI_nlt (a := p) (b := 0) (by omega) (by omega)), if_neg (nI_ge h (by omega))]
theorem x_begin {p e : Nat} (hp : p < 300) (he : e < 30) (bp bl bg fd : Nat → Int32) :
    f_X0_begin (nI (p + 1)) bp bl bg fd (nI e) = some (upd bp e (nI p), upd bl e (fd p), upd bg p (bg p + 1)) := by
  unfold f_X0_begin
  rw [nI_pred, x_hasPage (by omega) (by omega), if_neg (by decide), gd_t (xin_nI he (by decide)), gd_t (xin_nI hp (by decide)), gd_t (xin_nI he (by decide)), gd_t (xin_nI hp (by decide)), gd_t (xin_nI hp (by decide)), clN (by omega), clN (by omega)]
theorem x_fill {p e : Nat} (hp : p < 300) (he : e < 30) (room h : Int32) (fi la fd : Nat → Int32) :
    f_X0_fill (nI (p + 1)) room fi la fd (nI e) h = some (room - h, if fd p = 0 then upd fi p (nI e) else fi, upd la p (nI e), upd fd p (fd p + h)) := by
  have J : ∀ fi', J_X0_fill_32 (nI e) h (nI (p + 1)) room la fd fi' = some (room - h, fi', upd la p (nI e), upd fd p (fd p + h)) := fun fi' => by
    unfold J_X0_fill_32
    rw [nI_pred, gd_t (xin_nI hp (by decide)), gd_t (xin_nI hp (by decide)), gd_t (xin_nI hp (by decide)), clN (by omega)]
  unfold f_X0_fill
  rw [nI_pred, x_hasPage (by omega) (by omega), if_neg (by decide), gd_t (xin_nI hp (by decide)), clN (by omega)]
  by_cases q : fd p = 0
  · rw [if_pos q, if_pos q, gd_t (xin_nI hp (by decide)), J]
  · rw [if_neg q, if_neg q, J]
theorem m_lay {p e : Nat} (hp : p < 400) (he : e < 30) (h : Int32) (us fi la bp bl ep : Nat → Int32) :
    f_X6_lay us fi la bp bl ep (nI e) (nI p) h = some (nI (p + 1), upd us p (us p + h), upd fi p (if us p = 0 then nI e else fi p), upd la p (nI e), if ep e = (-6) then upd bp e (nI p) else bp, if ep e = (-6) then upd bl e (us p) else bl, upd ep e (nI p)) := by
  have J2 : ∀ s bp' bl', J_X6_lay_62 (nI e) (nI p) h us fi la ep s bp' bl' = some (nI (p + 1), upd us p (us p + h), upd fi p s, upd la p (nI e), bp', bl', upd ep e (nI p)) := fun s bp' bl' => by
    unfold J_X6_lay_62
    rw [gd_t (xin_nI he (by decide)), gd_t (xin_nI hp (by decide)), gd_t (xin_nI hp (by decide)), clN (by omega), clN (by omega), nI_1]
  have J1 : ∀ s, J_X6_lay_24 (nI e) (nI p) h us fi la bp bl ep s = some (nI (p + 1), upd us p (us p + h), upd fi p s, upd la p (nI e), if ep e = (-6) then upd bp e (nI p) else bp, if ep e = (-6) then upd bl e (us p) else bl, upd ep e (nI p)) := fun s => by
    unfold J_X6_lay_24
    rw [gd_t (xin_nI hp (by decide)), gd_t (xin_nI hp (by decide)), gd_t (xin_nI he (by decide)), clN (by omega), clN (by omega)]
    by_cases q : ep e = (-6)
    · rw [if_pos q, if_pos q, if_pos q, gd_t (xin_nI he (by decide)), gd_t (xin_nI hp (by decide)), gd_t (xin_nI he (by decide)), J2]
    · rw [if_neg q, if_neg q, if_neg q, J2]
  unfold f_X6_lay
  rw [gd_t (xin_nI hp (by decide)), clN (by omega)]
  by_cases q : us p = 0
  · rw [if_pos q, if_pos q, J1]
  · rw [if_neg q, if_neg q, gd_t (xin_nI hp (by decide)), J1]
theorem m_room {p : Nat} (hp : p < 400) {L : Nat} (hL : L ≤ 40) {z : Nat → Int64} (hz : z 0 = lN L) {H : Nat → Nat} {hd : Nat → Int32} (hh : ∀ p, p < 400 → hd p = nI (H p)) (h1 : H p ≤ L) : f_X6_room z hd (nI p) = some (nI (L - H p)) := by
  unfold f_X6_room
  rw [gd_t (xin_nI hp (by decide)), clN (by omega), hz, lN_i, hh p hp, pk_sub h1]
def hereN (n r k : Nat) : Nat := if n ≤ r then n else if r < k then 0 else if k ≤ n - r then r else if k ≤ n - k then n - k else 0
theorem x_here {n r k : Nat} (hn : n ≤ 40) (hr : r ≤ 40) (hk : 1 ≤ k ∧ k ≤ 3) : f_X0_linesHere (nI r) (nI n) (nI k) = nI (hereN n r k) := by
  unfold f_X0_linesHere hereN
  by_cases q1 : n ≤ r
  · rw [if_neg (nI_nlt q1 (by omega)), if_pos q1]
  · rw [if_pos (nI_lt (by omega) (by omega)), if_neg q1]
    by_cases q2 : r < k
    · rw [if_neg (nI_ge q2 (by omega)), if_pos q2]
      rfl
    · rw [if_pos (nI_le (by omega) (by omega)), if_neg q2, pk_sub (by omega)]
      by_cases q3 : k ≤ n - r
      · rw [if_neg (nI_nlt q3 (by omega)), if_pos q3]
      · rw [if_pos (nI_lt (by omega) (by omega)), if_neg q3, pk_sub (by omega)]
        by_cases q4 : k ≤ n - k
        · rw [if_neg (nI_nlt q4 (by omega)), if_pos q4]
        · rw [if_pos (nI_lt (by omega) (by omega)), if_neg q4]
          rfl
