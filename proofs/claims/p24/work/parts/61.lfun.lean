/-! the layout as a function of numbers: pages P, filled US, first FI, last LA, begun BG, begin page BP, begin line BL, end page EP -/
abbrev LSt : Type := Nat × (Nat → Nat) × (Nat → Nat) × (Nat → Nat) × (Nat → Nat) × (Nat → Nat) × (Nat → Nat) × (Nat → Nat)
abbrev tP (s : LSt) : Nat := s.1
abbrev tUS (s : LSt) : Nat → Nat := s.2.1
abbrev tFI (s : LSt) : Nat → Nat := s.2.2.1
abbrev tLA (s : LSt) : Nat → Nat := s.2.2.2.1
abbrev tBG (s : LSt) : Nat → Nat := s.2.2.2.2.1
abbrev tBP (s : LSt) : Nat → Nat := s.2.2.2.2.2.1
abbrev tBL (s : LSt) : Nat → Nat := s.2.2.2.2.2.2.1
abbrev tEP (s : LSt) : Nat → Nat := s.2.2.2.2.2.2.2
def lMore (e m : Nat) (s : LSt) : LSt := (tP s + 1, put1 (tP s) m (tUS s), put1 (tP s) e (tFI s), put1 (tP s) e (tLA s), put1 (tP s) 0 (tBG s), tBP s, tBL s, put1 e (tP s) (tEP s))
def lFresh (e h : Nat) (s : LSt) : LSt := (tP s + 1, put1 (tP s) h (tUS s), put1 (tP s) e (tFI s), put1 (tP s) e (tLA s), put1 (tP s) 1 (tBG s), put1 e (tP s) (tBP s), put1 e 0 (tBL s), put1 e (tP s) (tEP s))
def lHere (e h : Nat) (s : LSt) : LSt := (tP s, put1 (tP s - 1) (tUS s (tP s - 1) + h) (tUS s), tFI s, put1 (tP s - 1) e (tLA s), put1 (tP s - 1) (tBG s (tP s - 1) + 1) (tBG s), put1 e (tP s - 1) (tBP s), put1 e (tUS s (tP s - 1)) (tBL s), put1 e (tP s - 1) (tEP s))
def lPour (L : Nat) (H : Nat → Nat) (e : Nat) : Nat → Nat → LSt → LSt
  | 0, _, s => s
  | d + 1, rest, s => if rest = 0 then s else lPour L H e d (rest - min rest (L - H (tP s))) (lMore e (min rest (L - H (tP s))) s)
def h3N (n r k : Nat) : Nat := if hereN n r k = 0 then r else hereN n r k
def lEnt (L k : Nat) (H : Nat → Nat) (e n : Nat) (s : LSt) : LSt :=
  if hereN n (rmN L (tP s) H (tUS s)) k = 0 then lPour L H e 40 (n - h3N n (L - H (tP s)) k) (lFresh e (h3N n (L - H (tP s)) k) s)
  else lPour L H e 40 (n - hereN n (rmN L (tP s) H (tUS s)) k) (lHere e (hereN n (rmN L (tP s) H (tUS s)) k) s)
def l0 : LSt := (0, fun _ => 0, fun _ => 0, fun _ => 0, fun _ => 0, fun _ => 0, fun _ => 0, fun _ => 0)
def lAll (L k : Nat) (H G : Nat → Nat) : Nat → LSt
  | 0 => l0
  | e + 1 => lEnt L k H e (G e) (lAll L k H G e)
def lNext (W : Nat → List Nat) (Wd : Nat) (s : LSt) : Nat → Nat := fun p => if p < tP s then wnN W Wd (tFI s p) (tLA s p) else 1
def lSame (W : Nat → List Nat) (Wd : Nat) (H : Nat → Nat) (s : LSt) : Prop := ∀ p, p < tP s → wnN W Wd (tFI s p) (tLA s p) = H p
noncomputable def lRes (L Wd k N : Nat) (G : Nat → Nat) (W : Nat → List Nat) : Nat → Nat → (Nat → Nat) → Nat × Nat × (Nat → Nat) × LSt
  | 0, i, H => (i, @ite _ (lSame W Wd H (lAll L k H G N)) (Classical.propDecidable _) 1 0, H, lAll L k H G N)
  | d + 1, i, H => @ite _ (lSame W Wd H (lAll L k H G N)) (Classical.propDecidable _) (i, 1, H, lAll L k H G N) (lRes L Wd k N G W d (i + 1) (lNext W Wd (lAll L k H G N)))
noncomputable def layN (L Wd k N : Nat) (G : Nat → Nat) (W : Nat → List Nat) : Nat × Nat × (Nat → Nat) × LSt := lRes L Wd k N G W 9 1 (fun _ => 1)
def LIs (L N : Nat) (H : Nat → Nat) (s : LSt) : Prop := LI L (tP s) N H (tUS s) (tFI s) (tLA s) (tBG s) (tBP s) (tEP s)
def XLs (N M : Nat) (H : Nat → Nat) (s : LSt) (bp bl ep fi la bg fd hl : Nat → Int32) : Prop := XL (tP s) N M H (tUS s) (tFI s) (tLA s) (tBG s) (tBP s) (tBL s) (tEP s) bp bl ep fi la bg fd hl
theorem LIs_more {L e : Nat} {H : Nat → Nat} {s : LSt} (h : LIs L (e + 1) H s) {m : Nat} (hm : 1 ≤ m) (hmL : H (tP s) + m ≤ L) : LIs L (e + 1) H (lMore e m s) := LI_more h hm hmL
theorem LIs_fresh {L e : Nat} {H : Nat → Nat} {s : LSt} (h : LIs L e H s) {m : Nat} (hm : 1 ≤ m) (hmL : H (tP s) + m ≤ L) : LIs L (e + 1) H (lFresh e m s) := LI_fresh h hm hmL
theorem LIs_here {L e : Nat} {H : Nat → Nat} {s : LSt} (h : LIs L e H s) (he : 1 ≤ e) {m : Nat} (hmL : H (tP s - 1) + tUS s (tP s - 1) + m ≤ L) : LIs L (e + 1) H (lHere e m s) := by
  obtain ⟨P, US, FI, LA, BG, BP, BL, EP⟩ := s
  have hp := (h.2.2.2.2 (by omega)).1
  obtain ⟨p, rfl⟩ : ∃ p, P = p + 1 := ⟨P - 1, by dsimp only [tP] at hp; omega⟩
  exact LI_here (p0 := p) h he hmL
theorem pour_s {L e : Nat} {H : Nat → Nat} (hH : ∀ p, H p = 1 ∨ H p = 2) (hL : 6 ≤ L ∧ L ≤ 40) : ∀ (d rest : Nat) (s : LSt), rest ≤ d → tP s ≤ 10 * (e + 1) → (0 < rest → 4 * tP s + rest ≤ 40 * (e + 1)) → LIs L (e + 1) H s → 1 ≤ tP s →
    tP (lPour L H e d rest s) ≤ 10 * (e + 1) ∧ LIs L (e + 1) H (lPour L H e d rest s) ∧ 1 ≤ tP (lPour L H e d rest s)
  | 0, _, _, _, hP, _, h, h1 => ⟨hP, h, h1⟩
  | d + 1, rest, s, hd, hP, h4, h, h1 => by
    unfold lPour
    by_cases q : rest = 0
    · rw [if_pos q]; exact ⟨hP, h, h1⟩
    · rw [if_neg q]
      have hHP := hH (tP s)
      have h4 := h4 (by omega)
      refine pour_s hH hL d _ _ (by omega) ?_ ?_ (LIs_more h (by omega) (by omega)) ?_
      · show tP s + 1 ≤ _
        omega
      · show _ → 4 * (tP s + 1) + _ ≤ _
        omega
      · show 1 ≤ tP s + 1
        omega
theorem h3_s {n r k : Nat} (hn : 1 ≤ n ∧ n ≤ 40) (hr : 4 ≤ r ∧ r ≤ 40) (hk : 1 ≤ k ∧ k ≤ 3) : 1 ≤ h3N n r k ∧ h3N n r k ≤ n ∧ h3N n r k ≤ r ∧ (0 < n - h3N n r k → (4 ≤ h3N n r k ∨ n - h3N n r k ≤ 3) ∧ (k ≤ h3N n r k)) := by
  unfold h3N hereN
  by_cases q1 : n ≤ r
  · rw [if_pos q1]
    by_cases q : n = 0
    · omega
    · rw [if_neg q]; omega
  · rw [if_neg q1, if_neg (show ¬ r < k by omega)]
    by_cases q3 : k ≤ n - r
    · rw [if_pos q3]
      by_cases q : r = 0
      · omega
      · rw [if_neg q]; omega
    · rw [if_neg q3]
      by_cases q4 : k ≤ n - k
      · rw [if_pos q4]
        by_cases q : n - k = 0
        · omega
        · rw [if_neg q]; omega
      · rw [if_neg q4, if_pos rfl]; omega
/-- one entry: the bounds, and that the picture stays a picture -/
theorem ent_s {L k e n : Nat} {H : Nat → Nat} (hH : ∀ p, H p = 1 ∨ H p = 2) (hL : 6 ≤ L ∧ L ≤ 40) (hn : 1 ≤ n ∧ n ≤ 40) (hk : 1 ≤ k ∧ k ≤ 3) {s : LSt} (hP : tP s ≤ 10 * e) (h : LIs L e H s) :
    tP (lEnt L k H e n s) ≤ 10 * (e + 1) ∧ LIs L (e + 1) H (lEnt L k H e n s) ∧ 1 ≤ tP (lEnt L k H e n s) := by
  unfold lEnt
  have hHP := hH (tP s)
  by_cases q : hereN n (rmN L (tP s) H (tUS s)) k = 0
  · rw [if_pos q]
    have h3 := h3_s (r := L - H (tP s)) hn (by omega) hk
    generalize h3N n (L - H (tP s)) k = a at *
    refine pour_s hH hL 40 _ _ (by omega) ?_ ?_ (LIs_fresh h (by omega) (by omega)) ?_
    · show tP s + 1 ≤ _
      omega
    · show _ → 4 * (tP s + 1) + _ ≤ _
      omega
    · show 1 ≤ tP s + 1
      omega
  · rw [if_neg q]
    have hle := here_le n (rmN L (tP s) H (tUS s)) k
    have p0 : tP s ≠ 0 := fun c => q (by unfold rmN hereN; rw [if_pos c, if_neg (by omega), if_pos (by omega)])
    have er : rmN L (tP s) H (tUS s) = L - H (tP s - 1) - tUS s (tP s - 1) := if_neg p0
    have he1 : 1 ≤ e := by omega
    have hb := h.2.1 (tP s - 1) (by omega)
    rw [er] at hle q ⊢
    generalize hereN n (L - H (tP s - 1) - tUS s (tP s - 1)) k = a at *
    refine pour_s hH hL 40 _ _ (by omega) ?_ ?_ (LIs_here h he1 (by omega)) ?_
    · show tP s ≤ _
      omega
    · show _ → 4 * tP s + _ ≤ _
      omega
    · show 1 ≤ tP s
      omega
theorem all_s {L k : Nat} {H G : Nat → Nat} (hH : ∀ p, H p = 1 ∨ H p = 2) (hL : 6 ≤ L ∧ L ≤ 40) (hk : 1 ≤ k ∧ k ≤ 3) : ∀ (e : Nat), (∀ x, x < e → 1 ≤ G x ∧ G x ≤ 40) → tP (lAll L k H G e) ≤ 10 * e ∧ LIs L e H (lAll L k H G e)
  | 0, _ => ⟨Nat.le_refl _, fun _ _ => rfl, fun p h => absurd h (Nat.not_lt_zero _), fun p h => absurd h (Nat.not_lt_zero _), fun p h => absurd h (Nat.not_lt_zero _), fun h => absurd h (Nat.not_lt_zero _)⟩
  | e + 1, hG => by
    obtain ⟨a, b⟩ := all_s hH hL hk e (fun x hx => hG x (by omega))
    have := ent_s hH hL (hG e (by omega)) hk a b
    exact ⟨this.1, this.2.1⟩
