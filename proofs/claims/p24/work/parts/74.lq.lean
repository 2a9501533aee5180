/-! what holds of a layout: sums, neighbours, what is kept together -/
theorem sumN_congr {f g : Nat → Nat} : ∀ (n : Nat), (∀ p, p < n → f p = g p) → sumN f n = sumN g n
  | 0, _ => rfl
  | n + 1, h => by
    rw [sumN_s, sumN_s, sumN_congr n (fun p hp => h p (by omega)), h n (by omega)]
def LQ (k N : Nat) (G : Nat → Nat) (s : LSt) : Prop :=
  sumN (tUS s) (tP s) = sumN G N ∧ sumN (tBG s) (tP s) = N ∧ (0 < tP s → tFI s 0 = 0) ∧ (∀ p, p + 1 < tP s → tFI s (p + 1) = tLA s p ∨ tFI s (p + 1) = tLA s p + 1) ∧
  (∀ e, e + 1 < N → tEP s e ≤ tBP s (e + 1) ∧ tBP s (e + 1) ≤ tEP s e + 1) ∧
  (∀ p, p < tP s → tBP s (tFI s p) ≤ p ∧ p ≤ tEP s (tFI s p) ∧ tBP s (tLA s p) ≤ p ∧ p ≤ tEP s (tLA s p) ∧ tLA s p ≤ tFI s p + tBG s p) ∧
  (∀ e, e < N → tBL s e < tUS s (tBP s e) ∧ (tEP s e = tBP s e → G e ≤ tUS s (tBP s e) - tBL s e) ∧ (tBP s e < tEP s e → tLA s (tBP s e) = e ∧ tUS s (tBP s e) - tBL s e < G e ∧ k ≤ tUS s (tBP s e) - tBL s e))
/-- entry e has begun, h lines of it are on the last page -/
def LB (k e h : Nat) (G : Nat → Nat) (s : LSt) : Prop :=
  1 ≤ tP s ∧ (tLA s (tP s - 1) = e ∧ tBP s e = tP s - 1 ∧ tEP s e = tP s - 1 ∧ tBL s e + h = tUS s (tP s - 1) ∧ 1 ≤ h) ∧ sumN (tUS s) (tP s) = sumN G e + h ∧ sumN (tBG s) (tP s) = e + 1 ∧ (0 < tP s → tFI s 0 = 0) ∧ (∀ p, p + 1 < tP s → tFI s (p + 1) = tLA s p ∨ tFI s (p + 1) = tLA s p + 1) ∧
  (∀ x, x + 1 < e + 1 → tEP s x ≤ tBP s (x + 1) ∧ tBP s (x + 1) ≤ tEP s x + 1) ∧
  (∀ p, p < tP s → tBP s (tFI s p) ≤ p ∧ p ≤ tEP s (tFI s p) ∧ tBP s (tLA s p) ≤ p ∧ p ≤ tEP s (tLA s p) ∧ tLA s p ≤ tFI s p + tBG s p) ∧
  (∀ x, x < e → tBP s x < tP s ∧ tBL s x < tUS s (tBP s x) ∧ (tEP s x = tBP s x → G x ≤ tUS s (tBP s x) - tBL s x) ∧ (tBP s x < tEP s x → tLA s (tBP s x) = x ∧ tUS s (tBP s x) - tBL s x < G x ∧ k ≤ tUS s (tBP s x) - tBL s x))
theorem pour_f {L e : Nat} {H : Nat → Nat} (hH : ∀ p, H p = 1 ∨ H p = 2) (hL : 6 ≤ L) : ∀ (d rest : Nat) (s s' : LSt), rest ≤ d → s' = lPour L H e d rest s →
    tP s ≤ tP s' ∧ (0 < rest → tP s < tP s' ∧ tEP s' e = tP s' - 1) ∧ (rest = 0 → s' = s) ∧ (∀ p, p < tP s → tUS s' p = tUS s p ∧ tFI s' p = tFI s p ∧ tLA s' p = tLA s p ∧ tBG s' p = tBG s p) ∧
    (∀ p, tP s ≤ p → p < tP s' → tFI s' p = e ∧ tLA s' p = e ∧ tBG s' p = 0) ∧ tBP s' = tBP s ∧ tBL s' = tBL s ∧ (∀ x, x ≠ e → tEP s' x = tEP s x) ∧ sumN (tUS s') (tP s') = sumN (tUS s) (tP s) + rest ∧ sumN (tBG s') (tP s') = sumN (tBG s) (tP s)
  | 0, rest, s, s', hd, hs => by
    have e0 : rest = 0 := by omega
    subst e0
    have hs : s' = s := hs
    subst hs
    exact ⟨Nat.le_refl _, fun h => absurd h (by omega), fun _ => rfl, fun p _ => ⟨rfl, rfl, rfl, rfl⟩, fun p h1 h2 => absurd h2 (by omega), rfl, rfl, fun _ _ => rfl, rfl, rfl⟩
  | d + 1, rest, s, s', hd, hs => by
    by_cases q : rest = 0
    · subst q
      have hs : s' = s := hs.trans (if_pos rfl)
      subst hs
      exact ⟨Nat.le_refl _, fun h => absurd h (by omega), fun _ => rfl, fun p _ => ⟨rfl, rfl, rfl, rfl⟩, fun p h1 h2 => absurd h2 (by omega), rfl, rfl, fun _ _ => rfl, rfl, rfl⟩
    · have hs := hs.trans (if_neg q)
      have hHP := hH (tP s)
      generalize hm : min rest (L - H (tP s)) = m at hs
      obtain ⟨a1, a2, a3, a4, a5, a6, a7, a8, a9, a10⟩ := pour_f hH hL d (rest - m) (lMore e m s) s' (by omega) hs
      have p1 : tP (lMore e m s) = tP s + 1 := rfl
      rw [p1] at a1 a2 a4 a5 a9 a10
      have b4 : ∀ p, p < tP s → tUS (lMore e m s) p = tUS s p ∧ tFI (lMore e m s) p = tFI s p ∧ tLA (lMore e m s) p = tLA s p ∧ tBG (lMore e m s) p = tBG s p := fun p hp => ⟨put1_ne (by omega), put1_ne (by omega), put1_ne (by omega), put1_ne (by omega)⟩
      have bP : tUS (lMore e m s) (tP s) = m ∧ tFI (lMore e m s) (tP s) = e ∧ tLA (lMore e m s) (tP s) = e ∧ tBG (lMore e m s) (tP s) = 0 := ⟨put1_eq, put1_eq, put1_eq, put1_eq⟩
      refine ⟨by omega, fun _ => ⟨by omega, ?_⟩, fun h => absurd h q, fun p hp => ?_, fun p h1 h2 => ?_, a6, a7, fun x hx => ?_, ?_, ?_⟩
      · by_cases r : rest - m = 0
        · rw [a3 r]
          show put1 e (tP s) (tEP s) e = tP s + 1 - 1
          rw [put1_eq]; rfl
        · exact (a2 (by omega)).2
      · have x1 := a4 p (by omega)
        have x2 := b4 p hp
        rw [x1.1, x1.2.1, x1.2.2.1, x1.2.2.2]
        exact x2
      · by_cases r : p = tP s
        · subst r
          have x1 := a4 (tP s) (by omega)
          rw [x1.2.1, x1.2.2.1, x1.2.2.2]
          exact bP.2
        · exact a5 p (by omega) h2
      · rw [a8 x hx]
        exact put1_ne hx
      · rw [a9, sumN_s, bP.1, sumN_congr (tP s) (fun p hp => (b4 p hp).1)]
        omega
      · rw [a10, sumN_s, bP.2.2.2, sumN_congr (tP s) (fun p hp => (b4 p hp).2.2.2), Nat.add_zero]
theorem LB_pour {L k e n h : Nat} {H G : Nat → Nat} (hH : ∀ p, H p = 1 ∨ H p = 2) (hL : 6 ≤ L) (hG : G e = n) (hn : n ≤ 40) (hh : h ≤ n) (hk : h < n → k ≤ h) {s : LSt} (hb : LB k e h G s) : LQ k (e + 1) G (lPour L H e 40 (n - h) s) := by
  obtain ⟨b1, ⟨b2, b3, b4, b5, b6⟩, b7, b8, b9, b10, b11, b12, b13⟩ := hb
  obtain ⟨a1, a2, a3, a4, a5, a6, a7, a8, a9, a10⟩ := pour_f hH hL 40 (n - h) s _ (by omega) rfl
  generalize lPour L H e 40 (n - h) s = s' at *
  refine ⟨?_, ?_, ?_, fun p hp => ?_, fun x hx => ?_, fun p hp => ?_, fun x hx => ?_⟩
  · rw [a9, b7, sumN_s, hG]; omega
  · rw [a10, b8]
  · intro _
    rw [(a4 0 (by omega)).2.1]
    exact b9 (by omega)
  · by_cases c1 : p + 1 < tP s
    · rw [(a4 (p + 1) c1).2.1, (a4 p (by omega)).2.2.1]
      exact b10 p c1
    · rw [(a5 (p + 1) (by omega) hp).1]
      by_cases c2 : p < tP s
      · rw [(a4 p c2).2.2.1, show p = tP s - 1 by omega, b2]
        exact Or.inl rfl
      · rw [(a5 p (by omega) (by omega)).2.1]
        exact Or.inl rfl
  · rw [a6, a8 x (by omega)]
    exact b11 x (by omega)
  · have hE : tP s - 1 ≤ tEP s' e ∧ tP s' - 1 ≤ tEP s' e := by
      by_cases c : n - h = 0
      · rw [a3 c, b4]; omega
      · rw [(a2 (by omega)).2]; omega
    by_cases c : p < tP s
    · obtain ⟨d1, d2, d3, d4, d5⟩ := b12 p c
      rw [(a4 p c).2.1, (a4 p c).2.2.1, (a4 p c).2.2.2, a6]
      refine ⟨d1, ?_, d3, ?_, d5⟩
      · by_cases r : tFI s p = e
        · rw [r]; omega
        · rw [a8 _ r]; exact d2
      · by_cases r : tLA s p = e
        · rw [r]; omega
        · rw [a8 _ r]; exact d4
    · obtain ⟨d1, d2, d3⟩ := a5 p (by omega) hp
      rw [d1, d2, d3, a6, b3]
      omega
  · by_cases c : x = e
    · subst c
      rw [a6, a7, b3, (a4 (tP s - 1) (by omega)).1]
      refine ⟨by omega, fun hE => ?_, fun hE => ?_⟩
      · by_cases r : n - h = 0
        · omega
        · have := a2 (by omega)
          omega
      · have r : ¬ n - h = 0 := fun r => by rw [a3 r, b4] at hE; omega
        rw [(a4 (tP s - 1) (by omega)).2.2.1, b2]
        refine ⟨rfl, by omega, ?_⟩
        have := hk (by omega)
        omega
    · obtain ⟨d0, d1, d2, d3⟩ := b13 x (by omega)
      rw [a6, a7, a8 x c, (a4 _ d0).1, (a4 _ d0).2.2.1]
      exact ⟨d1, d2, d3⟩
theorem LB_fresh {L k e h : Nat} {H G : Nat → Nat} {s : LSt} (hI : LIs L e H s) (hq : LQ k e G s) (h1 : 1 ≤ h) : LB k e h G (lFresh e h s) := by
  obtain ⟨q1, q2, q3, q4, q5, q6, q7⟩ := hq
  obtain ⟨i1, i2, i3, i4, i5⟩ := hI
  have pP : tP (lFresh e h s) = tP s + 1 := rfl
  have b4 : ∀ p, p < tP s → tUS (lFresh e h s) p = tUS s p ∧ tFI (lFresh e h s) p = tFI s p ∧ tLA (lFresh e h s) p = tLA s p ∧ tBG (lFresh e h s) p = tBG s p := fun p hp => ⟨put1_ne (by omega), put1_ne (by omega), put1_ne (by omega), put1_ne (by omega)⟩
  have bP : tUS (lFresh e h s) (tP s) = h ∧ tFI (lFresh e h s) (tP s) = e ∧ tLA (lFresh e h s) (tP s) = e ∧ tBG (lFresh e h s) (tP s) = 1 := ⟨put1_eq, put1_eq, put1_eq, put1_eq⟩
  have bE : tBP (lFresh e h s) e = tP s ∧ tBL (lFresh e h s) e = 0 ∧ tEP (lFresh e h s) e = tP s := ⟨put1_eq, put1_eq, put1_eq⟩
  have bN : ∀ x, x ≠ e → tBP (lFresh e h s) x = tBP s x ∧ tBL (lFresh e h s) x = tBL s x ∧ tEP (lFresh e h s) x = tEP s x := fun x hx => ⟨put1_ne hx, put1_ne hx, put1_ne hx⟩
  generalize lFresh e h s = s1 at *
  refine ⟨by omega, ⟨?_, ?_, ?_, ?_, h1⟩, ?_, ?_, fun _ => ?_, fun p hp => ?_, fun x hx => ?_, fun p hp => ?_, fun x hx => ?_⟩
  · rw [pP, Nat.add_sub_cancel]; exact bP.2.2.1
  · rw [pP, Nat.add_sub_cancel]; exact bE.1
  · rw [pP, Nat.add_sub_cancel]; exact bE.2.2
  · rw [pP, Nat.add_sub_cancel, bE.2.1, bP.1, Nat.zero_add]
  · rw [pP, sumN_s, bP.1, sumN_congr (tP s) (fun p hp => (b4 p hp).1), q1]
  · rw [pP, sumN_s, bP.2.2.2, sumN_congr (tP s) (fun p hp => (b4 p hp).2.2.2), q2]
  · by_cases c : tP s = 0
    · have : e = 0 := by
        by_cases r : e = 0
        · exact r
        · have := (i5 (by omega)).1
          omega
      rw [← c, bP.2.1]
      exact this.trans c.symm
    · rw [(b4 0 (by omega)).2.1]
      exact q3 (by omega)
  · rw [pP] at hp
    by_cases c : p + 1 < tP s
    · rw [(b4 (p + 1) c).2.1, (b4 p (by omega)).2.2.1]
      exact q4 p c
    · have hpp : p + 1 = tP s := by omega
      rw [hpp, bP.2.1, (b4 p (by omega)).2.2.1]
      have he0 : 0 < e := by have := i3 p (by omega); omega
      have := (i5 he0).2.1
      rw [show tP s - 1 = p by omega] at this
      right
      omega
  · by_cases c : x + 1 = e
    · have := i5 (by omega)
      rw [c, bE.1, (bN x (by omega)).2.2]
      rw [show e - 1 = x by omega] at this
      omega
    · rw [(bN (x + 1) c).1, (bN x (by omega)).2.2]
      exact q5 x (by omega)
  · rw [pP] at hp
    by_cases c : p < tP s
    · obtain ⟨d1, d2, d3, d4, d5⟩ := q6 p c
      have i := i3 p c
      rw [(b4 p c).2.1, (b4 p c).2.2.1, (b4 p c).2.2.2, (bN (tFI s p) (by omega)).1, (bN (tFI s p) (by omega)).2.2, (bN (tLA s p) (by omega)).1, (bN (tLA s p) (by omega)).2.2]
      exact ⟨d1, d2, d3, d4, d5⟩
    · have : p = tP s := by omega
      subst this
      rw [bP.2.1, bP.2.2.1, bP.2.2.2, bE.1, bE.2.2]
      omega
  · obtain ⟨d1, d2, d3⟩ := q7 x hx
    have i := i4 x hx
    rw [(bN x (by omega)).1, (bN x (by omega)).2.1, (bN x (by omega)).2.2, (b4 (tBP s x) (by omega)).1, (b4 (tBP s x) (by omega)).2.2.1]
    exact ⟨by omega, d1, d2, d3⟩
theorem sumN_put1 {f : Nat → Nat} {q x : Nat} : ∀ (n : Nat), q < n → sumN (put1 q x f) n + f q = sumN f n + x
  | 0, h => absurd h (by omega)
  | n + 1, h => by
    rw [sumN_s, sumN_s]
    by_cases c : q = n
    · subst c
      rw [put1_eq, sumN_congr (f := put1 q x f) (g := f) q (fun p hp => put1_ne (by omega))]
      omega
    · rw [put1_ne (by omega)]
      have := sumN_put1 (f := f) (q := q) (x := x) n (by omega)
      omega
theorem LB_here {L k e h : Nat} {H G : Nat → Nat} {s : LSt} (hI : LIs L e H s) (hq : LQ k e G s) (he : 1 ≤ e) (h1 : 1 ≤ h) : LB k e h G (lHere e h s) := by
  obtain ⟨q1, q2, q3, q4, q5, q6, q7⟩ := hq
  obtain ⟨i1, i2, i3, i4, i5⟩ := hI
  obtain ⟨j1, j2, j3⟩ := i5 (by omega)
  have pP : tP (lHere e h s) = tP s := rfl
  have b4 : ∀ p, p ≠ tP s - 1 → tUS (lHere e h s) p = tUS s p ∧ tLA (lHere e h s) p = tLA s p ∧ tBG (lHere e h s) p = tBG s p := fun p hp => ⟨put1_ne hp, put1_ne hp, put1_ne hp⟩
  have bF : tFI (lHere e h s) = tFI s := rfl
  have bP : tUS (lHere e h s) (tP s - 1) = tUS s (tP s - 1) + h ∧ tLA (lHere e h s) (tP s - 1) = e ∧ tBG (lHere e h s) (tP s - 1) = tBG s (tP s - 1) + 1 := ⟨put1_eq, put1_eq, put1_eq⟩
  have bE : tBP (lHere e h s) e = tP s - 1 ∧ tBL (lHere e h s) e = tUS s (tP s - 1) ∧ tEP (lHere e h s) e = tP s - 1 := ⟨put1_eq, put1_eq, put1_eq⟩
  have bN : ∀ x, x ≠ e → tBP (lHere e h s) x = tBP s x ∧ tBL (lHere e h s) x = tBL s x ∧ tEP (lHere e h s) x = tEP s x := fun x hx => ⟨put1_ne hx, put1_ne hx, put1_ne hx⟩
  have s1 : sumN (tUS (lHere e h s)) (tP s) = sumN (tUS s) (tP s) + h := by
    have := sumN_put1 (f := tUS s) (q := tP s - 1) (x := tUS s (tP s - 1) + h) (tP s) (by omega)
    show sumN (put1 (tP s - 1) (tUS s (tP s - 1) + h) (tUS s)) (tP s) = _
    omega
  have s2 : sumN (tBG (lHere e h s)) (tP s) = sumN (tBG s) (tP s) + 1 := by
    have := sumN_put1 (f := tBG s) (q := tP s - 1) (x := tBG s (tP s - 1) + 1) (tP s) (by omega)
    show sumN (put1 (tP s - 1) (tBG s (tP s - 1) + 1) (tBG s)) (tP s) = _
    omega
  generalize lHere e h s = s' at *
  rw [← pP] at s1 s2
  refine ⟨by omega, ⟨?_, ?_, ?_, ?_, h1⟩, ?_, ?_, fun _ => ?_, fun p hp => ?_, fun x hx => ?_, fun p hp => ?_, fun x hx => ?_⟩
  · rw [pP]; exact bP.2.1
  · rw [pP]; exact bE.1
  · rw [pP]; exact bE.2.2
  · rw [pP, bE.2.1, bP.1]
  · rw [s1, pP, q1]
  · rw [s2, pP, q2]
  · rw [bF]; exact q3 (by omega)
  · rw [pP] at hp
    rw [bF, (b4 p (by omega)).2.1]
    exact q4 p hp
  · by_cases c : x + 1 = e
    · rw [c, bE.1, (bN x (by omega)).2.2]
      rw [show e - 1 = x by omega] at j3
      omega
    · rw [(bN (x + 1) c).1, (bN x (by omega)).2.2]
      exact q5 x (by omega)
  · rw [pP] at hp
    obtain ⟨d1, d2, d3, d4, d5⟩ := q6 p hp
    have i := i3 p hp
    rw [bF, (bN (tFI s p) (by omega)).1, (bN (tFI s p) (by omega)).2.2]
    by_cases c : p = tP s - 1
    · subst c
      rw [bP.2.1, bP.2.2, bE.1, bE.2.2]
      omega
    · rw [(b4 p c).2.1, (b4 p c).2.2, (bN (tLA s p) (by omega)).1, (bN (tLA s p) (by omega)).2.2]
      exact ⟨d1, d2, d3, d4, d5⟩
  · obtain ⟨d1, d2, d3⟩ := q7 x hx
    have i := i4 x hx
    rw [pP, (bN x (by omega)).1, (bN x (by omega)).2.1, (bN x (by omega)).2.2]
    by_cases c : tBP s x = tP s - 1
    · rw [c, bP.1]
      rw [c] at d1 d2
      refine ⟨by omega, by omega, fun hE => ?_, fun hE => absurd hE (by omega)⟩
      have := d2 hE
      omega
    · rw [(b4 _ c).1, (b4 _ c).2.1]
      exact ⟨i.2 |> fun _ => by omega, d1, d2, d3⟩
theorem here_k {n r k : Nat} (h : hereN n r k < n) (h0 : hereN n r k ≠ 0) : k ≤ hereN n r k := by
  unfold hereN at *
  by_cases q1 : n ≤ r
  · rw [if_pos q1] at h; omega
  · rw [if_neg q1] at h h0 ⊢
    by_cases q2 : r < k
    · rw [if_pos q2] at h0; omega
    · rw [if_neg q2] at h h0 ⊢
      by_cases q3 : k ≤ n - r
      · rw [if_pos q3]; omega
      · rw [if_neg q3] at h h0 ⊢
        by_cases q4 : k ≤ n - k
        · rw [if_pos q4]; exact q4
        · rw [if_neg q4] at h0; omega
theorem LQ_ent {L k e n : Nat} {H G : Nat → Nat} (hH : ∀ p, H p = 1 ∨ H p = 2) (hL : 6 ≤ L ∧ L ≤ 40) (hn : 1 ≤ n ∧ n ≤ 40) (hk : 1 ≤ k ∧ k ≤ 3) (hG : G e = n) {s : LSt} (hI : LIs L e H s) (hq : LQ k e G s) : LQ k (e + 1) G (lEnt L k H e n s) := by
  unfold lEnt
  have hHP := hH (tP s)
  by_cases q : hereN n (rmN L (tP s) H (tUS s)) k = 0
  · rw [if_pos q]
    have h3 := h3_s (r := L - H (tP s)) hn (by omega) hk
    generalize h3N n (L - H (tP s)) k = a at *
    exact LB_pour hH hL.1 hG hn.2 (by omega) (fun h => (h3.2.2.2 (by omega)).2) (LB_fresh hI hq (by omega))
  · rw [if_neg q]
    have hle := here_le n (rmN L (tP s) H (tUS s)) k
    have hkk := here_k (n := n) (r := rmN L (tP s) H (tUS s)) (k := k)
    have p0 : tP s ≠ 0 := fun c => q (by unfold rmN hereN; rw [if_pos c, if_neg (by omega), if_pos (by omega)])
    have he1 : 1 ≤ e := by have := hI.2.2.1 0 (by omega); omega
    generalize hereN n (rmN L (tP s) H (tUS s)) k = a at *
    exact LB_pour hH hL.1 hG hn.2 hle.2 (fun h => hkk h q) (LB_here hI hq he1 (by omega))
theorem LQ_all {L k : Nat} {H G : Nat → Nat} (hH : ∀ p, H p = 1 ∨ H p = 2) (hL : 6 ≤ L ∧ L ≤ 40) (hk : 1 ≤ k ∧ k ≤ 3) : ∀ (e : Nat), (∀ x, x < e → 1 ≤ G x ∧ G x ≤ 40) → LQ k e G (lAll L k H G e)
  | 0, _ => ⟨rfl, rfl, fun h => absurd h (Nat.not_lt_zero _), fun p h => absurd h (Nat.not_lt_zero _), fun p h => absurd h (Nat.not_lt_zero _), fun p h => absurd h (Nat.not_lt_zero _), fun p h => absurd h (Nat.not_lt_zero _)⟩
  | e + 1, hG => by
    obtain ⟨a, b⟩ := all_s hH hL hk e (fun x hx => hG x (by omega))
    exact LQ_ent hH hL (hG e (by omega)) hk rfl b (LQ_all hH hL hk e (fun x hx => hG x (by omega)))
theorem lay_q {l : LexT} (ok : OKL l) : LQ (zS l 2) (zN l) (zG l) (yT l) := by
  have h := lay_s ok
  rw [h.2.2.2.1]
  exact LQ_all h.1 ok.1.1 ok.1.2.2 (zN l) (fun e he => ⟨(ok.2.2.1 e he).1, (ok.2.2.1 e he).2.1⟩)
