/-! lexicons: settings S, N entries with lines G and words W; how the class and the reference hold them -/
def XLex (S : Nat → Nat) (N : Nat) (G : Nat → Nat) (W : Nat → List Nat) (st ln : Nat → Int32) (wd : Nat → Int64) (n : Int32) : Prop :=
  n = nI N ∧ (∀ i, i < 3 → st i = nI (S i)) ∧ ∀ i, i < N → ln i = nI (G i) ∧ wd i = lN (pk (W i))
def MLex (S : Nat → Nat) (N : Nat) (G : Nat → Nat) (W : Nat → List Nat) (z : Nat → Int64) (o : Nat) : Prop :=
  z (o + 3) = lN N ∧ (∀ i, i < 3 → z (o + i) = lN (S i)) ∧ ∀ i, i < N → z (o + 4 + i) = lN (b27 (W i)) ∧ z (o + 34 + i) = lN (G i)
def OKE (N : Nat) (G : Nat → Nat) (W : Nat → List Nat) : Prop :=
  N ≤ 30 ∧ (∀ i, i < N → 1 ≤ G i ∧ G i ≤ 40 ∧ wOK (W i) ∧ 1 ≤ (W i).length) ∧ ∀ i j, i < j → j < N → b27 (W i) < b27 (W j)
def OKS (S : Nat → Nat) : Prop := (6 ≤ S 0 ∧ S 0 ≤ 40) ∧ (4 ≤ S 1 ∧ S 1 ≤ 30) ∧ (1 ≤ S 2 ∧ S 2 ≤ 3)
def dl {α : Type} (e : Nat) (f : Nat → α) : Nat → α := fun i => if i < e then f i else f (i + 1)
def ins {α : Type} (p : Nat) (x : α) (f : Nat → α) : Nat → α := fun i => if i < p then f i else if i = p then x else f (i - 1)
def put1 {α : Type} (p : Nat) (x : α) (f : Nat → α) : Nat → α := fun i => if i = p then x else f i
theorem dl_lt {α : Type} {e i : Nat} {f : Nat → α} (h : i < e) : dl e f i = f i := if_pos h
theorem dl_ge {α : Type} {e i : Nat} {f : Nat → α} (h : e ≤ i) : dl e f i = f (i + 1) := if_neg (by omega)
theorem ins_lt {α : Type} {p i : Nat} {x : α} {f : Nat → α} (h : i < p) : ins p x f i = f i := if_pos h
theorem ins_eq {α : Type} {p : Nat} {x : α} {f : Nat → α} : ins p x f p = x := by unfold ins; rw [if_neg (Nat.lt_irrefl p), if_pos rfl]
theorem ins_gt {α : Type} {p i : Nat} {x : α} {f : Nat → α} (h : p < i) : ins p x f i = f (i - 1) := by unfold ins; rw [if_neg (by omega), if_neg (by omega)]
theorem put1_eq {α : Type} {p : Nat} {x : α} {f : Nat → α} : put1 p x f p = x := if_pos rfl
theorem put1_ne {α : Type} {p i : Nat} {x : α} {f : Nat → α} (h : i ≠ p) : put1 p x f i = f i := if_neg h
theorem clN {i : Nat} (h : i < 2 ^ 31) : (nI i).toNatClampNeg = i := nI_clamp h
theorem x_has {N : Nat} (hN : N < 2 ^ 31) {j : Nat} (h : j < N) : f_X1_hasEntry (nI N) (nI j) = 1 := by
  unfold f_X1_hasEntry
  rw [if_neg (nI_pos (by omega)), if_neg (nI_ge h hN)]
theorem x_hasnt {N : Nat} (hN : N < 2 ^ 31) {i : Int32} (h : i.toInt < 0 ∨ (N : Int) ≤ i.toInt) : f_X1_hasEntry (nI N) i = 0 := by
  unfold f_X1_hasEntry
  by_cases h1 : i < 0
  · rw [if_pos h1]
  · rw [if_neg h1, if_pos]
    rw [i32_nIle hN]
    rw [i32_neg] at h1
    omega
theorem x_wordOf {N : Nat} (hN : N ≤ 30) {wd : Nat → Int64} {j : Nat} (h : j < N) : f_X1_wordOf (nI N) wd (nI j) = some (wd j) := by
  unfold f_X1_wordOf
  rw [x_has (by omega) h, if_neg (by decide), gd_t (xin_nI (by omega) (by decide)), clN (by omega)]
/-- where a word belongs -/
def plOf (N : Nat) (W : Nat → List Nat) (w : List Nat) (p : Nat) : Prop := p ≤ N ∧ (∀ i, i < p → b27 (W i) < b27 w) ∧ (∀ i, p ≤ i → i < N → b27 w ≤ b27 (W i))
theorem plOf_one {N : Nat} {W : Nat → List Nat} {w : List Nat} {p q : Nat} (h1 : plOf N W w p) (h2 : plOf N W w q) : p = q := by
  rcases Nat.lt_trichotomy p q with h | h | h
  · have a := h1.2.2 p (Nat.le_refl _) (by have := h2.1; omega)
    have b := h2.2.1 p h
    omega
  · exact h
  · have a := h2.2.2 q (Nat.le_refl _) (by have := h1.1; omega)
    have b := h1.2.1 q h
    omega
theorem x_place_loop {N : Nat} {G : Nat → Nat} {W : Nat → List Nat} (ok : OKE N G W) {wd : Nat → Int64} (hwd : ∀ i, i < N → wd i = lN (pk (W i))) {w : List Nat} (hw : wOK w) :
    ∀ (d n i : Nat), i + d = N → d < n → (∀ j, j < i → b27 (W j) < b27 w) → ∃ p, plOf N W w p ∧ L_X1_placeOf_2 (fun _ => some (nI N)) (lN (pk w)) (nI N) wd n (nI i) = some (nI p)
  | 0, 0, _, _, h, _ => absurd h (by omega)
  | 0, n + 1, i, h, _, hj => by
    have hN := ok.1
    refine ⟨N, ⟨Nat.le_refl _, fun j hj2 => hj j (by omega), fun j h1 h2 => by omega⟩, ?_⟩
    rw [L_X1_placeOf_2_s, if_pos (nI_le (by omega) (by omega))]
  | d + 1, 0, _, _, h, _ => absurd h (by omega)
  | d + 1, n + 1, i, h, hn, hj => by
    have hN := ok.1
    have hi : i < N := by omega
    rw [L_X1_placeOf_2_s, if_neg (nI_ge hi (by omega)), gd_t (xin_nI (by omega) (by decide)), clN (by omega), hwd i hi]
    have hwi := (ok.2.1 i hi).2.2.1
    have hlt : (lN (pk (W i)) < lN (pk w)) ↔ b27 (W i) < b27 w := by rw [pk_lLT (pk_small hwi) (pk_small hw), pk_lt_b hwi hw]
    by_cases hc : b27 (W i) < b27 w
    · rw [if_pos (hlt.mpr hc), nI_1]
      exact x_place_loop ok hwd hw d n (i + 1) (by omega) (by omega) (fun j hj2 => by
        rcases Nat.lt_succ_iff_lt_or_eq.mp hj2 with q | q
        · exact hj j q
        · rw [q]; exact hc)
    · rw [if_neg (fun q => hc (hlt.mp q))]
      refine ⟨i, ⟨by omega, hj, fun j h1 h2 => ?_⟩, rfl⟩
      rcases Nat.lt_or_ge i j with q | q
      · have := ok.2.2 i j q h2; omega
      · have : j = i := by omega
        rw [this]; omega
theorem x_place {N : Nat} {G : Nat → Nat} {W : Nat → List Nat} (ok : OKE N G W) {wd : Nat → Int64} (hwd : ∀ i, i < N → wd i = lN (pk (W i))) {w : List Nat} (hw : wOK w) :
    ∃ p, plOf N W w p ∧ f_X1_placeOf (nI N) wd (lN (pk w)) = some (nI p) := by
  have hN := ok.1
  exact x_place_loop ok hwd hw N FU 0 (by omega) (by have := FU_big; omega) (fun j hj => absurd hj (Nat.not_lt_zero _))
theorem pl_found {N : Nat} {G : Nat → Nat} {W : Nat → List Nat} (ok : OKE N G W) {w : List Nat} (hw : wOK w) {p e : Nat} (hp : plOf N W w p) (he : e < N) (h : W e = w) : e = p := by
  rcases Nat.lt_trichotomy e p with q | q | q
  · have := hp.2.1 e q; rw [h] at this; omega
  · exact q
  · have h1 := hp.2.2 p (Nat.le_refl _) (by omega)
    have h2 := ok.2.2 p e q he
    rw [h] at h2
    omega
theorem x_number {N : Nat} {G : Nat → Nat} {W : Nat → List Nat} (ok : OKE N G W) {wd : Nat → Int64} (hwd : ∀ i, i < N → wd i = lN (pk (W i))) {w : List Nat} (hw : wOK w) :
    (∃ e, e < N ∧ W e = w ∧ f_X1_numberOf (nI N) wd (lN (pk w)) = some (nI e)) ∨ ((∀ e, e < N → W e ≠ w) ∧ f_X1_numberOf (nI N) wd (lN (pk w)) = some (-6)) := by
  have hN := ok.1
  obtain ⟨p, hp, e⟩ := x_place ok hwd hw
  unfold f_X1_numberOf
  rw [bd_eq e]
  by_cases h : p < N
  · rw [x_has (by omega) h, if_neg (by decide), gd_t (xin_nI (by omega) (by decide)), clN (by omega), hwd p h]
    have hwp := (ok.2.1 p h).2.2.1
    by_cases hq : W p = w
    · left
      exact ⟨p, h, hq, by rw [if_pos (by rw [hq])]⟩
    · right
      refine ⟨fun e2 he h2 => hq (by rw [← pl_found ok hw hp he h2]; exact h2), ?_⟩
      rw [if_neg]
      rw [pk_lEQ (pk_small hwp) (pk_small hw), pk_eq_w hwp hw]
      exact hq
  · right
    refine ⟨fun e2 he h2 => h (by rw [← pl_found ok hw hp he h2]; exact he), ?_⟩
    rw [x_hasnt (by omega) (Or.inr (by rw [nI_toInt (by have := hp.1; omega)]; omega)), if_pos rfl]
/-! ===== making place ===== -/
theorem x_make_loop {K : Int32 → (Nat → Int32) → (Nat → Int64) → Option (Int32 × (Nat → Int32) × (Nat → Int64))} {p : Nat} : ∀ (d n i : Nat) (ln : Nat → Int32) (wd : Nat → Int64), i = p + d → i < 30 → d < n →
    ∃ ln' wd', L_X1_makePlaceAt_5 K (nI p) n (nI i) ln wd = K (nI p) ln' wd' ∧ (∀ j, (j ≤ p ∨ i < j) → ln' j = ln j ∧ wd' j = wd j) ∧ (∀ j, p < j → j ≤ i → ln' j = ln (j - 1) ∧ wd' j = wd (j - 1))
  | 0, 0, _, _, _, _, _, h => absurd h (by omega)
  | 0, n + 1, i, ln, wd, hi, h30, _ => by
    refine ⟨ln, wd, ?_, fun j _ => ⟨rfl, rfl⟩, fun j h1 h2 => by omega⟩
    rw [L_X1_makePlaceAt_5_s, if_pos (nI_le (by omega) (by omega)), show i = p by omega]
  | d + 1, 0, _, _, _, _, _, h => absurd h (by omega)
  | d + 1, n + 1, i, ln, wd, hi, h30, hn => by
    obtain ⟨i', rfl⟩ : ∃ i', i = i' + 1 := ⟨i - 1, by omega⟩
    obtain ⟨ln', wd', e, h1, h2⟩ := x_make_loop (K := K) (p := p) d n i' (upd ln (i' + 1) (ln i')) (vp_updL wd (i' + 1) (wd i')) (by omega) (by omega) (by omega)
    refine ⟨ln', wd', ?_, fun j hj => ?_, fun j hj1 hj2 => ?_⟩
    · rw [L_X1_makePlaceAt_5_s, if_neg (nI_ge (by omega) (by omega)), nI_pred, pk_m1, gd_t (xin_nI (by omega) (by decide)), gd_t (xin_nI (by omega) (by decide)), gd_t (xin_nI (by omega) (by decide)), gd_t (xin_nI (by omega) (by decide)), clN (by omega), clN (by omega), e]
    · by_cases q : j ≤ p
      · have := h1 j (Or.inl q)
        rw [this.1, this.2, pk_un (by omega), pk_uLn (by omega)]
        exact ⟨rfl, rfl⟩
      · have := h1 j (Or.inr (by omega))
        rw [this.1, this.2, pk_un (by omega), pk_uLn (by omega)]
        exact ⟨rfl, rfl⟩
    · by_cases q : j ≤ i'
      · have := h2 j hj1 q
        rw [this.1, this.2, pk_un (by omega), pk_uLn (by omega)]
        exact ⟨rfl, rfl⟩
      · have hj : j = i' + 1 := by omega
        have := h1 j (Or.inr (by omega))
        rw [this.1, this.2, hj, pk_us, pk_uLs]
        exact ⟨rfl, rfl⟩
theorem x_make {N p : Nat} (hN : N < 30) (hp : p ≤ N) (ln : Nat → Int32) (wd : Nat → Int64) :
    ∃ ln' wd', f_X1_makePlaceAt (nI N) ln wd (nI p) = some (nI (N + 1), ln', wd') ∧ (∀ j, j ≤ p → ln' j = ln j ∧ wd' j = wd j) ∧ (∀ j, p < j → j ≤ N → ln' j = ln (j - 1) ∧ wd' j = wd (j - 1)) := by
  obtain ⟨ln', wd', e, h1, h2⟩ := x_make_loop (K := fun _ v_lines_5 v_words_5 => some ((nI N + 1), v_lines_5, v_words_5)) (p := p) (N - p) FU N ln wd (by omega) hN (by have := FU_big; omega)
  refine ⟨ln', wd', ?_, fun j hj => h1 j (Or.inl hj), fun j hj1 hj2 => h2 j hj1 hj2⟩
  unfold f_X1_makePlaceAt
  rw [e, nI_1]
/-- an entry is told: it is there, or it comes, or there is no place -/
theorem x_tell {N : Nat} {G : Nat → Nat} {W : Nat → List Nat} (ok : OKE N G W) {ln : Nat → Int32} {wd : Nat → Int64} (hx : ∀ i, i < N → ln i = nI (G i) ∧ wd i = lN (pk (W i))) {w : List Nat} (hw : wOK w) (g : Nat) :
    (∃ e ln', e < N ∧ W e = w ∧ f_X1_tell (nI N) ln wd (lN (pk w)) (nI g) = some (1, nI N, ln', wd) ∧ ∀ i, i < N → ln' i = nI (put1 e g G i)) ∨
    ((∀ e, e < N → W e ≠ w) ∧ N = 30 ∧ f_X1_tell (nI N) ln wd (lN (pk w)) (nI g) = some (0, nI N, ln, wd)) ∨
    ((∀ e, e < N → W e ≠ w) ∧ N < 30 ∧ ∃ p ln' wd', plOf N W w p ∧ f_X1_tell (nI N) ln wd (lN (pk w)) (nI g) = some (1, nI (N + 1), ln', wd') ∧ ∀ i, i < N + 1 → ln' i = nI (ins p g G i) ∧ wd' i = lN (pk (ins p w W i))) := by
  have hN := ok.1
  have hwd : ∀ i, i < N → wd i = lN (pk (W i)) := fun i h => (hx i h).2
  obtain ⟨p, hp, e⟩ := x_place ok hwd hw
  have hpN := hp.1
  have J : ∀ (_ : ∀ e, e < N → W e ≠ w), (N = 30 ∧ J_X1_tell_28 (lN (pk w)) (nI g) (nI N) ln wd (nI p) = some (0, nI N, ln, wd)) ∨
      (N < 30 ∧ ∃ ln' wd', J_X1_tell_28 (lN (pk w)) (nI g) (nI N) ln wd (nI p) = some (1, nI (N + 1), ln', wd') ∧ ∀ i, i < N + 1 → ln' i = nI (ins p g G i) ∧ wd' i = lN (pk (ins p w W i))) := by
    intro _
    unfold J_X1_tell_28
    by_cases h30 : N < 30
    · right
      refine ⟨h30, ?_⟩
      rw [if_pos (show nI N < (30 : Int32) from nI_lt (b := 30) h30 (by decide))]
      obtain ⟨ln', wd', e2, h1, h2⟩ := x_make h30 hpN ln wd
      rw [bd_eq e2, gd_t (xin_nI (by omega) (by decide))]
      unfold J_X1_tell_53
      rw [gd_t (xin_nI (by omega) (by decide)), clN (by omega)]
      refine ⟨upd ln' p (nI g), vp_updL wd' p (lN (pk w)), rfl, fun i hi => ?_⟩
      rcases Nat.lt_trichotomy i p with q | q | q
      · have a := h1 i (by omega)
        have b := hx i (by omega)
        rw [pk_un (by omega), pk_uLn (by omega), a.1, a.2, b.1, b.2, ins_lt q, ins_lt q]
        exact ⟨rfl, rfl⟩
      · rw [q, pk_us, pk_uLs, ins_eq, ins_eq]
        exact ⟨rfl, rfl⟩
      · have a := h2 i q (by omega)
        have b := hx (i - 1) (by omega)
        rw [pk_un (by omega), pk_uLn (by omega), a.1, a.2, b.1, b.2, ins_gt q, ins_gt q]
        exact ⟨rfl, rfl⟩
    · left
      refine ⟨by omega, ?_⟩
      rw [if_neg (show ¬ nI N < (30 : Int32) from nI_nlt (a := N) (b := 30) (by omega) (by omega))]
  unfold f_X1_tell
  rw [bd_eq e]
  by_cases h : p < N
  · rw [x_has (by omega) h, if_neg (by decide), gd_t (xin_nI (by omega) (by decide)), clN (by omega), hwd p h]
    have hwp := (ok.2.1 p h).2.2.1
    by_cases hq : W p = w
    · left
      refine ⟨p, upd ln p (nI g), h, hq, ?_, fun i hi => ?_⟩
      · rw [if_pos (by rw [hq])]
        unfold J_X1_tell_53
        rw [gd_t (xin_nI (by omega) (by decide)), clN (by omega)]
      · unfold put1
        by_cases q : i = p
        · rw [q, pk_us, if_pos rfl]
        · rw [pk_un q, if_neg q, (hx i hi).1]
    · right
      have hno : ∀ e, e < N → W e ≠ w := fun e2 he h2 => hq (by rw [← pl_found ok hw hp he h2]; exact h2)
      rw [if_neg (by rw [pk_lEQ (pk_small hwp) (pk_small hw), pk_eq_w hwp hw]; exact hq)]
      rcases J hno with ⟨a, b⟩ | ⟨a, ln', wd', b, c⟩
      · exact Or.inl ⟨hno, a, b⟩
      · exact Or.inr ⟨hno, a, p, ln', wd', hp, b, c⟩
  · right
    have hno : ∀ e, e < N → W e ≠ w := fun e2 he h2 => h (by rw [← pl_found ok hw hp he h2]; exact he)
    rw [x_hasnt (by omega) (Or.inr (by rw [nI_toInt (by omega)]; omega)), if_pos rfl]
    rcases J hno with ⟨a, b⟩ | ⟨a, ln', wd', b, c⟩
    · exact Or.inl ⟨hno, a, b⟩
    · exact Or.inr ⟨hno, a, p, ln', wd', hp, b, c⟩
/-! ===== taking out ===== -/
theorem x_take_loop {K : Int32 → (Nat → Int32) → (Nat → Int64) → Option (Int32 × (Nat → Int32) × (Nat → Int64))} {N : Nat} (hN : N ≤ 30) : ∀ (d n i : Nat) (ln : Nat → Int32) (wd : Nat → Int64), i + d = N → 1 ≤ i → d < n →
    ∃ ln' wd', L_X1_takeOut_13 K (nI N) n (nI i) ln wd = K (nI N) ln' wd' ∧ (∀ j, j + 1 < i → ln' j = ln j ∧ wd' j = wd j) ∧ (∀ j, i ≤ j + 1 → j + 1 < N → ln' j = ln (j + 1) ∧ wd' j = wd (j + 1))
  | 0, 0, _, _, _, _, _, h => absurd h (by omega)
  | 0, n + 1, i, ln, wd, hi, _, _ => by
    refine ⟨ln, wd, ?_, fun j _ => ⟨rfl, rfl⟩, fun j h1 h2 => by omega⟩
    rw [L_X1_takeOut_13_s, if_pos (nI_le (by omega) (by omega)), show i = N by omega]
  | d + 1, 0, _, _, _, _, _, h => absurd h (by omega)
  | d + 1, n + 1, i, ln, wd, hi, h1i, hn => by
    obtain ⟨i', rfl⟩ : ∃ i', i = i' + 1 := ⟨i - 1, by omega⟩
    obtain ⟨ln', wd', e, h1, h2⟩ := x_take_loop hN d n (i' + 2) (upd ln i' (ln (i' + 1))) (vp_updL wd i' (wd (i' + 1))) (by omega) (by omega) (by omega)
    refine ⟨ln', wd', ?_, fun j hj => ?_, fun j hj1 hj2 => ?_⟩
    · rw [L_X1_takeOut_13_s, if_neg (nI_ge (by omega) (by omega)), nI_pred, nI_1, gd_t (xin_nI (by omega) (by decide)), gd_t (xin_nI (by omega) (by decide)), gd_t (xin_nI (by omega) (by decide)), gd_t (xin_nI (by omega) (by decide)), clN (by omega), clN (by omega), e]
    · have := h1 j (by omega)
      rw [this.1, this.2, pk_un (by omega), pk_uLn (by omega)]
      exact ⟨rfl, rfl⟩
    · by_cases q : j = i'
      · have := h1 j (by omega)
        rw [this.1, this.2, q, pk_us, pk_uLs]
        exact ⟨rfl, rfl⟩
      · have := h2 j (by omega) hj2
        rw [this.1, this.2, pk_un (by omega), pk_uLn (by omega)]
        exact ⟨rfl, rfl⟩
theorem x_take {N e : Nat} {G : Nat → Nat} {W : Nat → List Nat} (hN : N ≤ 30) (he : e < N) {ln : Nat → Int32} {wd : Nat → Int64} (hx : ∀ i, i < N → ln i = nI (G i) ∧ wd i = lN (pk (W i))) :
    ∃ ln' wd', f_X1_takeOut (nI N) ln wd (nI e) = some (nI (N - 1), ln', wd') ∧ ∀ i, i < N - 1 → ln' i = nI (dl e G i) ∧ wd' i = lN (pk (dl e W i)) := by
  obtain ⟨ln', wd', e1, h1, h2⟩ := x_take_loop (K := fun _ v_lines_13 v_words_13 => some ((nI N - 1), v_lines_13, v_words_13)) hN (N - (e + 1)) FU (e + 1) ln wd (by omega) (by omega) (by have := FU_big; omega)
  refine ⟨ln', wd', ?_, fun i hi => ?_⟩
  · unfold f_X1_takeOut
    rw [x_has (by omega) he, if_neg (by decide), nI_1, e1]
    obtain ⟨M, rfl⟩ : ∃ M, N = M + 1 := ⟨N - 1, by omega⟩
    rw [nI_pred]
    rfl
  · unfold dl
    by_cases q : i < e
    · have a := h1 i (by omega)
      have b := hx i (by omega)
      rw [a.1, a.2, b.1, b.2, if_pos q, if_pos q]
      exact ⟨rfl, rfl⟩
    · have a := h2 i (by omega) (by omega)
      have b := hx (i + 1) (by omega)
      rw [a.1, a.2, b.1, b.2, if_neg q, if_neg q]
      exact ⟨rfl, rfl⟩
/-! ===== copying ===== -/
theorem x_copy_set {K : Int32 → (Nat → Int32) → Option (Int32 × (Nat → Int32) × (Nat → Int32) × (Nat → Int64))} {st0 : Nat → Int32} : ∀ (d n i : Nat) (st : Nat → Int32), i + d = 3 → d < n →
    ∃ st', L_X1_copyOf_2 K st0 n (nI i) st = K (nI 3) st' ∧ (∀ j, j < i → st' j = st j) ∧ ∀ j, i ≤ j → j < 3 → st' j = st0 j
  | 0, 0, _, _, _, h => absurd h (by omega)
  | 0, n + 1, i, st, hi, _ => by
    refine ⟨st, ?_, fun j _ => rfl, fun j h1 h2 => by omega⟩
    rw [L_X1_copyOf_2_s, if_pos (show (3 : Int32) ≤ nI i from nI_le (a := 3) (by omega) (by omega)), show i = 3 by omega]
  | d + 1, 0, _, _, _, h => absurd h (by omega)
  | d + 1, n + 1, i, st, hi, hn => by
    obtain ⟨st', e, h1, h2⟩ := x_copy_set d n (i + 1) (upd st i (st0 i)) (by omega) (by omega)
    refine ⟨st', ?_, fun j hj => ?_, fun j hj1 hj2 => ?_⟩
    · rw [L_X1_copyOf_2_s, if_neg (show ¬ (3 : Int32) ≤ nI i from nI_ge (a := i) (b := 3) (by omega) (by decide)), gd_t (xin_nI (by omega) (by decide)), gd_t (xin_nI (by omega) (by decide)), clN (by omega), nI_1, e]
    · rw [h1 j (by omega), pk_un (by omega)]
    · by_cases q : j = i
      · rw [h1 j (by omega), q, pk_us]
      · exact h2 j (by omega) hj2
theorem x_copy_ent {K : Int32 → (Nat → Int32) → (Nat → Int64) → Option (Int32 × (Nat → Int32) × (Nat → Int32) × (Nat → Int64))} {N : Nat} (hN : N ≤ 30) {ln0 : Nat → Int32} {wd0 : Nat → Int64} : ∀ (d n i : Nat) (ln : Nat → Int32) (wd : Nat → Int64), i + d = N → d < n →
    ∃ ln' wd', L_X1_copyOf_27 K (nI N) ln0 wd0 n (nI i) ln wd = K (nI N) ln' wd' ∧ (∀ j, j < i → ln' j = ln j ∧ wd' j = wd j) ∧ ∀ j, i ≤ j → j < N → ln' j = ln0 j ∧ wd' j = wd0 j
  | 0, 0, _, _, _, _, h => absurd h (by omega)
  | 0, n + 1, i, ln, wd, hi, _ => by
    refine ⟨ln, wd, ?_, fun j _ => ⟨rfl, rfl⟩, fun j h1 h2 => by omega⟩
    rw [L_X1_copyOf_27_s, if_pos (nI_le (by omega) (by omega)), show i = N by omega]
  | d + 1, 0, _, _, _, _, h => absurd h (by omega)
  | d + 1, n + 1, i, ln, wd, hi, hn => by
    obtain ⟨ln', wd', e, h1, h2⟩ := x_copy_ent hN d n (i + 1) (upd ln i (ln0 i)) (vp_updL wd i (wd0 i)) (by omega) (by omega)
    refine ⟨ln', wd', ?_, fun j hj => ?_, fun j hj1 hj2 => ?_⟩
    · rw [L_X1_copyOf_27_s, if_neg (nI_ge (by omega) (by omega)), gd_t (xin_nI (by omega) (by decide)), gd_t (xin_nI (by omega) (by decide)), gd_t (xin_nI (by omega) (by decide)), gd_t (xin_nI (by omega) (by decide)), clN (by omega), nI_1, e]
    · have := h1 j (by omega)
      rw [this.1, this.2, pk_un (by omega), pk_uLn (by omega)]
      exact ⟨rfl, rfl⟩
    · by_cases q : j = i
      · have := h1 j (by omega)
        rw [this.1, this.2, q, pk_us, pk_uLs]
        exact ⟨rfl, rfl⟩
      · exact h2 j (by omega) hj2
/-- a copy holds what the other one holds -/
theorem x_copy {S : Nat → Nat} {N : Nat} {G : Nat → Nat} {W : Nat → List Nat} (hN : N ≤ 30) {st0 ln0 : Nat → Int32} {wd0 : Nat → Int64} {n0 : Int32} (h : XLex S N G W st0 ln0 wd0 n0) (st ln : Nat → Int32) (wd : Nat → Int64) :
    ∃ st' ln' wd', f_X1_copyOf st ln wd n0 st0 ln0 wd0 = some (n0, st', ln', wd') ∧ XLex S N G W st' ln' wd' n0 := by
  obtain ⟨hn, hs, he⟩ := h
  subst hn
  obtain ⟨ln', wd', e2, -, h2⟩ := x_copy_ent (K := fun _ ln' wd' => some (nI N, st, ln', wd')) hN (ln0 := ln0) (wd0 := wd0) N FU 0 ln wd (by omega) (by have := FU_big; omega)
  obtain ⟨st', e1, -, h1⟩ := x_copy_set (K := fun _ st' => L_X1_copyOf_27 (fun _ ln' wd' => some (nI N, st', ln', wd')) (nI N) ln0 wd0 FU 0 ln wd) (st0 := st0) 3 FU 0 st (by omega) (by have := FU_big; omega)
  obtain ⟨ln', wd', e2, -, h2⟩ := x_copy_ent (K := fun _ ln' wd' => some (nI N, st', ln', wd')) hN (ln0 := ln0) (wd0 := wd0) N FU 0 ln wd (by omega) (by have := FU_big; omega)
  refine ⟨st', ln', wd', ?_, rfl, fun i hi => by rw [h1 i (Nat.zero_le _) hi]; exact hs i hi, fun i hi => by
    have a := h2 i (Nat.zero_le _) hi
    rw [a.1, a.2]
    exact he i hi⟩
  unfold f_X1_copyOf
  exact e1.trans e2
