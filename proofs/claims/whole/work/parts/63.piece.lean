/-! the layout as numbers: P pages, N entries begun, M of them ended (by the class) -/
def XL (P N M : Nat) (H US FI LA BG BP BL EP : Nat → Nat) (bp bl ep fi la bg fd hl : Nat → Int32) : Prop :=
  (∀ p, p < P → fi p = nI (FI p) ∧ la p = nI (LA p) ∧ bg p = nI (BG p) ∧ fd p = nI (US p) ∧ hl p = nI (H p)) ∧ (∀ e, e < N → bp e = nI (BP e) ∧ bl e = nI (BL e)) ∧ ∀ e, e < M → ep e = nI (EP e)
def ML (P N T : Nat) (US FI LA BP BL EP : Nat → Nat) (us fi la bp bl ep : Nat → Int32) : Prop :=
  (∀ p, p < 400 → us p = nI (US p)) ∧ (∀ p, p < P → fi p = nI (FI p) ∧ la p = nI (LA p)) ∧ (∀ e, e < N → bp e = nI (BP e) ∧ bl e = nI (BL e) ∧ ep e = nI (EP e)) ∧ ∀ e, N ≤ e → e < T → ep e = (-6)
def LI (L P N : Nat) (H US FI LA BG BP EP : Nat → Nat) : Prop :=
  (∀ p, P ≤ p → US p = 0) ∧ (∀ p, p < P → 1 ≤ US p ∧ H p + US p ≤ L) ∧ (∀ p, p < P → FI p ≤ LA p ∧ LA p < N ∧ BG p ≤ LA p + 1 ∧ ∀ e, e < N → (BP e = p ↔ LA p < e + BG p ∧ e ≤ LA p)) ∧ (∀ e, e < N → BP e ≤ EP e ∧ EP e < P) ∧ (0 < N → 1 ≤ P ∧ LA (P - 1) = N - 1 ∧ EP (N - 1) = P - 1)
theorem upd_eq {f : Nat → Int32} {k : Nat} {x : Int32} : upd f k x k = x := if_pos rfl
theorem upd_ne {f : Nat → Int32} {k j : Nat} {x : Int32} (h : j ≠ k) : upd f k x j = f j := if_neg h
/-- one more page for the entry of now -/
theorem LI_more {L P e : Nat} {H US FI LA BG BP EP : Nat → Nat} (h : LI L P (e + 1) H US FI LA BG BP EP) {m : Nat} (hm : 1 ≤ m) (hmL : H P + m ≤ L) :
    LI L (P + 1) (e + 1) H (put1 P m US) (put1 P e FI) (put1 P e LA) (put1 P 0 BG) BP (put1 e P EP) := by
  obtain ⟨a, b, c, d, g⟩ := h
  obtain ⟨g1, g2, g3⟩ := g (by omega)
  refine ⟨fun p hp => ?_, fun p hp => ?_, fun p hp => ?_, fun x hx => ?_, fun _ => ⟨by omega, ?_, ?_⟩⟩
  · rw [put1_ne (by omega)]; exact a p (by omega)
  · by_cases q : p = P
    · rw [q, put1_eq]; omega
    · rw [put1_ne q]; exact b p (by omega)
  · by_cases q : p = P
    · subst q
      rw [put1_eq, put1_eq, put1_eq]
      refine ⟨Nat.le_refl _, by omega, by omega, fun x hx => ⟨fun hb => ?_, fun hb => by omega⟩⟩
      have := d x hx
      omega
    · rw [put1_ne q, put1_ne q, put1_ne q]
      exact c p (by omega)
  · have := d x hx
    by_cases q : x = e
    · rw [q, put1_eq]
      rw [q] at this
      omega
    · rw [put1_ne q]
      omega
  · rw [Nat.add_sub_cancel, Nat.add_sub_cancel, put1_eq]
  · rw [Nat.add_sub_cancel, Nat.add_sub_cancel, put1_eq]
/-- an entry begins on a fresh page -/
theorem LI_fresh {L P e : Nat} {H US FI LA BG BP EP : Nat → Nat} (h : LI L P e H US FI LA BG BP EP) {m : Nat} (hm : 1 ≤ m) (hmL : H P + m ≤ L) :
    LI L (P + 1) (e + 1) H (put1 P m US) (put1 P e FI) (put1 P e LA) (put1 P 1 BG) (put1 e P BP) (put1 e P EP) := by
  obtain ⟨a, b, c, d, g⟩ := h
  refine ⟨fun p hp => ?_, fun p hp => ?_, fun p hp => ?_, fun x hx => ?_, fun _ => ⟨by omega, ?_, ?_⟩⟩
  · rw [put1_ne (by omega)]; exact a p (by omega)
  · by_cases q : p = P
    · rw [q, put1_eq]; omega
    · rw [put1_ne q]; exact b p (by omega)
  · by_cases q : p = P
    · subst q
      rw [put1_eq, put1_eq, put1_eq]
      refine ⟨Nat.le_refl _, by omega, by omega, fun x hx => ?_⟩
      by_cases r : x = e
      · rw [r, put1_eq]
        omega
      · rw [put1_ne r]
        have := d x (by omega)
        omega
    · rw [put1_ne q, put1_ne q, put1_ne q]
      obtain ⟨c1, c2, c3, c4⟩ := c p (by omega)
      refine ⟨c1, by omega, c3, fun x hx => ?_⟩
      by_cases r : x = e
      · rw [r, put1_eq]
        omega
      · rw [put1_ne r]
        exact c4 x (by omega)
  · by_cases q : x = e
    · rw [q, put1_eq, put1_eq]
      omega
    · rw [put1_ne q, put1_ne q]
      have := d x (by omega)
      omega
  · rw [Nat.add_sub_cancel, Nat.add_sub_cancel, put1_eq]
  · rw [Nat.add_sub_cancel, Nat.add_sub_cancel, put1_eq]
/-- an entry begins behind others -/
theorem LI_here {L p0 e : Nat} {H US FI LA BG BP EP : Nat → Nat} (h : LI L (p0 + 1) e H US FI LA BG BP EP) (he : 1 ≤ e) {m : Nat} (hmL : H p0 + US p0 + m ≤ L) :
    LI L (p0 + 1) (e + 1) H (put1 p0 (US p0 + m) US) FI (put1 p0 e LA) (put1 p0 (BG p0 + 1) BG) (put1 e p0 BP) (put1 e p0 EP) := by
  obtain ⟨a, b, c, d, g⟩ := h
  obtain ⟨g1, g2, g3⟩ := g (by omega)
  rw [Nat.add_sub_cancel] at g2 g3
  refine ⟨fun p hp => ?_, fun p hp => ?_, fun p hp => ?_, fun x hx => ?_, fun _ => ⟨by omega, ?_, ?_⟩⟩
  · rw [put1_ne (by omega)]; exact a p (by omega)
  · by_cases q : p = p0
    · have := b p0 (by omega)
      rw [q, put1_eq]; omega
    · rw [put1_ne q]; exact b p (by omega)
  · by_cases q : p = p0
    · subst q
      rw [put1_eq, put1_eq]
      obtain ⟨c1, c2, c3, c4⟩ := c p (by omega)
      refine ⟨by omega, by omega, by omega, fun x hx => ?_⟩
      by_cases r : x = e
      · rw [r, put1_eq]
        omega
      · rw [put1_ne r]
        have := c4 x (by omega)
        omega
    · rw [put1_ne q, put1_ne q]
      obtain ⟨c1, c2, c3, c4⟩ := c p (by omega)
      refine ⟨c1, by omega, c3, fun x hx => ?_⟩
      by_cases r : x = e
      · rw [r, put1_eq]
        omega
      · rw [put1_ne r]
        exact c4 x (by omega)
  · by_cases q : x = e
    · rw [q, put1_eq, put1_eq]
      omega
    · rw [put1_ne q, put1_ne q]
      have := d x (by omega)
      omega
  · rw [Nat.add_sub_cancel, Nat.add_sub_cancel, put1_eq]
  · rw [Nat.add_sub_cancel, Nat.add_sub_cancel, put1_eq]
