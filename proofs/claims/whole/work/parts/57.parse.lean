/-! the pad read as entries: the class by a place for each character, the reference by descent -/
def pbN (p c : Nat) : Nat :=
  if p < 7 ∧ 97 ≤ c ∧ c ≤ 122 then p + 1 else if 0 < p ∧ p ≤ 7 ∧ c = 58 then 8 else if 9 ≤ p ∧ c = 44 then 0
  else if 48 ≤ c ∧ c ≤ 57 then (if p = 8 ∧ c ≠ 48 then (if c = 52 then 10 else if c < 52 then 9 else 11) else if p = 9 ∨ (p = 10 ∧ c = 48) then 11 else 12) else 12
theorem pb_all : ∀ p, p < 13 → ∀ c, c < 127 → f_X2_placeBehind (nI p) (nI c) = nI (pbN p c) := by decide +kernel
theorem pbN_le {p c : Nat} (hp : p ≤ 12) : pbN p c ≤ 12 := by
  unfold pbN
  repeat' split
  all_goals omega
def FK (n : Nat) : Int32 → Int32 → Option Int32 := fun _ i1_4 => if i1_4 < 9 then (some (nI n)) else (some (-6))
def Fx (n : Nat) (codes : Nat → Int32) (s p : Nat) : Option Int32 := L_X2_firstFault_4 (FK n) (nI n) codes FU (nI s) (nI p)
theorem F_fuel {n : Nat} {cs : Nat → Nat} (ok : OKP n cs) {codes : Nat → Int32} (h : PadIs n cs codes) : ∀ (d f1 f2 s p : Nat), s + d = n → p ≤ 12 → d < f1 → d < f2 → L_X2_firstFault_4 (FK n) (nI n) codes f1 (nI s) (nI p) = L_X2_firstFault_4 (FK n) (nI n) codes f2 (nI s) (nI p)
  | _, 0, _, _, _, _, _, h1, _ => absurd h1 (by omega)
  | _, _, 0, _, _, _, _, _, h2 => absurd h2 (by omega)
  | 0, f1 + 1, f2 + 1, s, p, hs, _, _, _ => by
    have hn := ok.1
    rw [L_X2_firstFault_4_s, L_X2_firstFault_4_s, if_pos (nI_le (by omega) (by omega)), if_pos (nI_le (by omega) (by omega))]
  | d + 1, f1 + 1, f2 + 1, s, p, hs, hp, h1, h2 => by
    have hn := ok.1
    have hc := ok.2 s (by omega)
    rw [L_X2_firstFault_4_s, L_X2_firstFault_4_s, if_neg (nI_ge (by omega) (by omega)), if_neg (nI_ge (by omega) (by omega)), gd_t (xin_nI (by omega) (by decide)), gd_t (xin_nI (by omega) (by decide)), clN (by omega), h s (by omega), pb_all p (by omega) (cs s) (by omega), nI_1]
    rw [F_fuel ok h d f1 f2 (s + 1) (pbN p (cs s)) (by omega) (pbN_le hp) (by omega) (by omega)]
theorem F_end {n : Nat} {cs : Nat → Nat} (ok : OKP n cs) {codes : Nat → Int32} {p : Nat} (hp : p ≤ 12) : Fx n codes n p = if p < 9 then some (nI n) else some (-6) := by
  have hn := ok.1
  unfold Fx
  rw [FU_s 1 (by decide), L_X2_firstFault_4_s, if_pos (nI_le (by omega) (by omega))]
  unfold FK
  by_cases q : p < 9
  · rw [if_pos (show nI p < (9 : Int32) from nI_lt (b := 9) q (by decide)), if_pos q]
  · rw [if_neg (show ¬ nI p < (9 : Int32) from nI_nlt (a := p) (b := 9) (by omega) (by omega)), if_neg q]
theorem F_step {n : Nat} {cs : Nat → Nat} (ok : OKP n cs) {codes : Nat → Int32} (h : PadIs n cs codes) {s p : Nat} (hs : s < n) (hp : p ≤ 12) : Fx n codes s p = if pbN p (cs s) = 12 then some (nI s) else Fx n codes (s + 1) (pbN p (cs s)) := by
  have hn := ok.1
  have hc := ok.2 s hs
  have hb := pbN_le (c := cs s) hp
  have hF := FU_big
  unfold Fx
  rw [F_fuel ok h (n - (s + 1)) FU (FU - 1) (s + 1) (pbN p (cs s)) (by omega) hb (by omega) (by omega)]
  have e : L_X2_firstFault_4 (FK n) (nI n) codes FU (nI s) (nI p) = L_X2_firstFault_4 (FK n) (nI n) codes ((FU - 1) + 1) (nI s) (nI p) := by rw [← FU_s 1 (by decide)]
  rw [e, L_X2_firstFault_4_s, if_neg (nI_ge hs (by omega)), gd_t (xin_nI (by omega) (by decide)), clN (by omega), h s hs, pb_all p (by omega) (cs s) (by omega), nI_1]
  by_cases q : pbN p (cs s) = 12
  · rw [if_pos (show nI (pbN p (cs s)) = (12 : Int32) by rw [q]; rfl), if_pos q]
  · rw [if_neg (show ¬ nI (pbN p (cs s)) = (12 : Int32) from fun c => q ((nI_eq (b := 12) (by omega) (by decide)).mp c)), if_neg q]
theorem F_letters {n : Nat} {cs : Nat → Nat} (ok : OKP n cs) {codes : Nat → Int32} (h : PadIs n cs codes) : ∀ (k i s : Nat), i + k = 7 → s ≤ n → Fx n codes s i = Fx n codes (s + (run n cs k s).length) (i + (run n cs k s).length)
  | 0, i, s, _, _ => by simp [run]
  | k + 1, i, s, hk, hs => by
    by_cases q : s < n ∧ 97 ≤ cs s ∧ cs s ≤ 122
    · have er : run n cs (k + 1) s = (cs s - 96) :: run n cs k (s + 1) := by
        show (if _ then _ else _) = _
        rw [if_pos q]
      have ep : pbN i (cs s) = i + 1 := by unfold pbN; rw [if_pos ⟨by omega, q.2⟩]
      rw [F_step ok h q.1 (by omega), ep, if_neg (by omega), F_letters ok h k (i + 1) (s + 1) (by omega) (by omega), er, List.length_cons]
      congr 1 <;> omega
    · have er : run n cs (k + 1) s = [] := by
        show (if _ then _ else _) = _
        rw [if_neg q]
      rw [er]
      rfl
theorem run_stop {n : Nat} {cs : Nat → Nat} : ∀ (k s : Nat), (run n cs k s).length < k → ¬ (s + (run n cs k s).length < n ∧ 97 ≤ cs (s + (run n cs k s).length) ∧ cs (s + (run n cs k s).length) ≤ 122)
  | 0, s, h => by omega
  | k + 1, s, h => by
    by_cases q : s < n ∧ 97 ≤ cs s ∧ cs s ≤ 122
    · have er : run n cs (k + 1) s = (cs s - 96) :: run n cs k (s + 1) := by
        show (if _ then _ else _) = _
        rw [if_pos q]
      rw [er, List.length_cons] at h ⊢
      have := run_stop (n := n) (cs := cs) k (s + 1) (by omega)
      rw [show s + ((run n cs k (s + 1)).length + 1) = s + 1 + (run n cs k (s + 1)).length by omega]
      exact this
    · have er : run n cs (k + 1) s = [] := by
        show (if _ then _ else _) = _
        rw [if_neg q]
      rw [er]
      exact q
/-- an entry that ends at e, with lines g; t is where its letters end -/
def entGood (n : Nat) (cs : Nat → Nat) (s g e : Nat) : Prop := ∃ t d, t = s + (run n cs 7 s).length ∧ 1 ≤ (run n cs 7 s).length ∧ t + 1 < n ∧ cs t = 58 ∧ 1 ≤ d ∧ d ≤ 9 ∧ cs (t + 1) = 48 + d ∧
  ((e = t + 3 ∧ t + 2 < n ∧ 48 ≤ cs (t + 2) ∧ cs (t + 2) ≤ 57 ∧ g = 10 * d + (cs (t + 2) - 48) ∧ g ≤ 40) ∨ (e = t + 2 ∧ g = d ∧ ¬ (t + 2 < n ∧ 48 ≤ cs (t + 2) ∧ cs (t + 2) ≤ 57 ∧ 10 * d + (cs (t + 2) - 48) ≤ 40)))
theorem m_takes {n : Nat} {cs : Nat → Nat} (ok : OKP n cs) {pd : Nat → Int32} (h : PadIs n cs pd) {s x : Nat} (hs : s < 2 ^ 30) (hx : x < 2 ^ 31) :
    f_X6_takes (nI n) (nI s) pd (nI x) = some (if s < n ∧ cs s = x then (1, nI (s + 1)) else (0, nI s)) := by
  unfold f_X6_takes
  rw [bd_eq (m_sees ok h (by omega) hx hx)]
  by_cases q : s < n ∧ cs s = x
  · rw [if_pos (show s < n ∧ x ≤ cs s ∧ cs s ≤ x from ⟨q.1, by omega, by omega⟩), if_pos q]
    show gd (isb (1 : Int32)) (some ((1 : Int32), nI s + 1)) = _
    rw [gd_t (by decide), nI_1]
  · rw [if_neg (show ¬ (s < n ∧ x ≤ cs s ∧ cs s ≤ x) from fun c => q ⟨c.1, by omega⟩), if_neg q]
    show gd (isb (0 : Int32)) (some ((0 : Int32), nI s + 0)) = _
    rw [gd_t (by decide), Int32.add_zero]
theorem b27_0 {w : List Nat} (h : wOK w) : lN (b27 w) = 0 ↔ w.length = 0 := by
  have h1 := b27_small h
  rw [lN_0 (by omega)]
  have e : b27 [] = 0 := rfl
  constructor
  · intro q
    have := (b27_eq_w h (v := []) ⟨by simp, fun x hx => by cases hx⟩).mp (by rw [q, e])
    rw [this]
    rfl
  · intro q
    rw [List.length_eq_zero_iff.mp q, e]
/-- one entry, on both sides -/
theorem ent_both {n : Nat} {cs : Nat → Nat} (ok : OKP n cs) {codes pd : Nat → Int32} (h1 : PadIs n cs codes) (h2 : PadIs n cs pd) {s k : Nat} (hs : s ≤ n) (hk : k < 20) (tw tl : Nat → Int64) :
    (∃ f, f ≤ n ∧ Fx n codes s 0 = some (nI f) ∧ f_X6_readEntry (nI n) (nI s) (nI k) pd tw tl = some (0, nI f, nI k, tw, tl)) ∨
    (∃ g e p, entGood n cs s g e ∧ s + 3 ≤ e ∧ e ≤ n ∧ 1 ≤ g ∧ g ≤ 40 ∧ 9 ≤ p ∧ p ≤ 11 ∧ (e < n → pbN p (cs e) = if cs e = 44 then 0 else 12) ∧ Fx n codes s 0 = Fx n codes e p ∧
      f_X6_readEntry (nI n) (nI s) (nI k) pd tw tl = some (1, nI e, nI (k + 1), vp_updL tw k (lN (b27 (run n cs 7 s))), vp_updL tl k (lN g))) := by
  have hn := ok.1
  have hw := run_w n cs (Nat.le_refl 7) s
  have hin := run_in n cs 7 s hs
  have hstop := run_stop (n := n) (cs := cs) 7 s
  have hL := F_letters ok h1 7 0 s (by omega) hs
  rw [Nat.zero_add] at hL
  generalize hl : (run n cs 7 s).length = l at hin hstop hL
  have hl7 : l ≤ 7 := by rw [← hl]; exact hw.1
  unfold f_X6_readEntry
  rw [bd_eq (m_readWord ok h2 hs), hL, hl]
  dsimp only
  by_cases l0 : l = 0
  · -- no letter
    left
    refine ⟨s, hs, ?_, ?_⟩
    · rw [l0, Nat.add_zero]
      by_cases q : s = n
      · rw [q, F_end ok (by omega), if_pos (by omega)]
      · have hc := hstop (by omega)
        rw [l0, Nat.add_zero] at hc
        have ep : pbN 0 (cs s) = 12 := by
          unfold pbN
          repeat' split
          all_goals first | omega | rfl
        rw [F_step ok h1 (by omega) (by omega), if_pos ep]
    · rw [if_pos ((b27_0 hw).mpr (by omega)), l0, Nat.add_zero]
  · rw [if_neg (fun q => l0 (by rw [← hl]; exact (b27_0 hw).mp q)), show (58 : Int32) = nI 58 by rfl, bd_eq (m_takes ok h2 (by omega) (by decide))]
    by_cases q1 : s + l < n ∧ cs (s + l) = 58
    · rw [if_pos q1]
      dsimp only
      rw [if_neg (by decide), show (49 : Int32) = nI 49 by rfl, show (57 : Int32) = nI 57 by rfl, bd_eq (m_sees ok h2 (by omega) (by decide) (by decide))]
      have ep1 : pbN l (cs (s + l)) = 8 := by
        unfold pbN
        rw [q1.2, if_neg (by omega), if_pos (by omega)]
      have hF1 : Fx n codes (s + l) l = Fx n codes (s + l + 1) 8 := by
        rw [F_step ok h1 q1.1 (by omega), ep1, if_neg (by omega)]
      rw [hF1]
      by_cases q2 : s + l + 1 < n ∧ 49 ≤ cs (s + l + 1) ∧ cs (s + l + 1) ≤ 57
      · rw [if_pos q2, if_neg (by decide), gd_t (xin_nI (by omega) (by decide)), nI_1, show (48 : Int32) = nI 48 by rfl, bd_eq (m_sees ok h2 (by omega) (by decide) (by decide)), clN (by omega), clN (by omega), h2 (s + l + 1) q2.1]
        right
        have ed : nI (cs (s + l + 1)) - nI 48 = nI (cs (s + l + 1) - 48) := pk_sub (by omega)
        rw [ed]
        -- the place behind the first digit
        have ep2 : pbN 8 (cs (s + l + 1)) = if cs (s + l + 1) = 52 then 10 else if cs (s + l + 1) < 52 then 9 else 11 := by
          unfold pbN
          rw [if_neg (by omega), if_neg (by omega), if_neg (by omega), if_pos (by omega), if_pos (by omega)]
        have hp2 : 9 ≤ pbN 8 (cs (s + l + 1)) ∧ pbN 8 (cs (s + l + 1)) ≤ 11 := by
          rw [ep2]
          split
          · omega
          · split <;> omega
        have hF2 : Fx n codes (s + l + 1) 8 = Fx n codes (s + l + 2) (pbN 8 (cs (s + l + 1))) := by
          rw [F_step ok h1 q2.1 (by omega), if_neg (by omega)]
        by_cases q3 : s + l + 2 < n ∧ 48 ≤ cs (s + l + 2) ∧ cs (s + l + 2) ≤ 57
        · rw [show s + l + 1 + 1 = s + l + 2 by rfl, if_pos q3, if_neg (by decide), gd_t (xin_nI (by omega) (by decide)), h2 (s + l + 2) q3.1]
          have eg : (10 : Int32) * nI (cs (s + l + 1) - 48) + nI (cs (s + l + 2)) - nI 48 = nI (10 * (cs (s + l + 1) - 48) + (cs (s + l + 2) - 48)) := by
            rw [show (10 : Int32) = nI 10 by rfl, pk_mul, nI_add, pk_sub (by omega)]
            congr 1
            omega
          rw [eg]
          by_cases q4 : 10 * (cs (s + l + 1) - 48) + (cs (s + l + 2) - 48) ≤ 40
          · rw [if_neg (show ¬ (40 : Int32) < nI (10 * (cs (s + l + 1) - 48) + (cs (s + l + 2) - 48)) from nI_nlt (a := 40) (by omega) (by decide)), gd_t (xin_nI (by omega) (by decide))]
            have ep3 : pbN (pbN 8 (cs (s + l + 1))) (cs (s + l + 2)) = 11 := by
              rw [ep2]
              by_cases a : cs (s + l + 1) = 52
              · rw [if_pos a]
                have b : cs (s + l + 2) = 48 := by omega
                rw [b]
                rfl
              · rw [if_neg a, if_pos (by omega)]
                unfold pbN
                rw [if_neg (by omega), if_neg (by omega), if_neg (by omega), if_pos (by omega), if_neg (by omega), if_pos (by omega)]
            refine ⟨10 * (cs (s + l + 1) - 48) + (cs (s + l + 2) - 48), s + l + 3, 11, ⟨s + l, cs (s + l + 1) - 48, by rw [hl], by omega, by omega, q1.2, by omega, by omega, by omega, Or.inl ⟨rfl, q3.1, q3.2.1, q3.2.2, rfl, q4⟩⟩, by omega, by omega, by omega, q4, by omega, by omega, fun he => ?_, ?_, ?_⟩
            · unfold pbN
              rw [if_neg (by omega), if_neg (by omega)]
              by_cases a : cs (s + l + 3) = 44
              · rw [if_pos (by omega), if_pos a]
              · rw [if_neg (by omega), if_neg a]
                split
                · rw [if_neg (by omega), if_neg (by omega)]
                · rfl
            · rw [hF2, F_step ok h1 q3.1 (by omega), ep3, if_neg (by omega)]
            · unfold J_X6_readEntry_117
              dsimp only
              rw [gd_t (xin_nI (by omega) (by decide)), gd_t (xin_nI (by omega) (by decide)), clN (by omega), nI_1, nI_1, nI_l (by omega)]
          · rw [if_pos (show (40 : Int32) < nI (10 * (cs (s + l + 1) - 48) + (cs (s + l + 2) - 48)) from nI_lt (a := 40) (by omega) (by omega))]
            refine ⟨cs (s + l + 1) - 48, s + l + 2, pbN 8 (cs (s + l + 1)), ⟨s + l, cs (s + l + 1) - 48, by rw [hl], by omega, by omega, q1.2, by omega, by omega, by omega, Or.inr ⟨rfl, rfl, fun c => q4 c.2.2.2⟩⟩, by omega, by omega, by omega, by omega, hp2.1, hp2.2, fun he => ?_, hF2, ?_⟩
            · rw [ep2]
              have n44 : cs (s + l + 2) ≠ 44 := by omega
              rw [if_neg n44]
              by_cases a : cs (s + l + 1) = 52
              · rw [if_pos a]
                unfold pbN
                rw [if_neg (by omega), if_neg (by omega), if_neg (by omega), if_pos (by omega), if_neg (by omega), if_neg (by omega)]
              · rw [if_neg a]
                by_cases b : cs (s + l + 1) < 52
                · omega
                · rw [if_neg b]
                  unfold pbN
                  rw [if_neg (by omega), if_neg (by omega), if_neg (by omega), if_pos (by omega), if_neg (by omega), if_neg (by omega)]
            · unfold J_X6_readEntry_117
              dsimp only
              rw [gd_t (xin_nI (by omega) (by decide)), gd_t (xin_nI (by omega) (by decide)), clN (by omega), nI_1, nI_l (by omega)]
        · rw [show s + l + 1 + 1 = s + l + 2 by rfl, if_neg q3, if_pos rfl]
          refine ⟨cs (s + l + 1) - 48, s + l + 2, pbN 8 (cs (s + l + 1)), ⟨s + l, cs (s + l + 1) - 48, by rw [hl], by omega, by omega, q1.2, by omega, by omega, by omega, Or.inr ⟨rfl, rfl, fun c => q3 ⟨c.1, c.2.1, c.2.2.1⟩⟩⟩, by omega, by omega, by omega, by omega, hp2.1, hp2.2, fun he => ?_, hF2, ?_⟩
          · generalize pbN 8 (cs (s + l + 1)) = p at hp2
            unfold pbN
            rw [if_neg (by omega), if_neg (by omega)]
            by_cases a : cs (s + l + 2) = 44
            · rw [if_pos (by omega), if_pos a]
            · rw [if_neg (by omega), if_neg a, if_neg (by omega)]
          · unfold J_X6_readEntry_117
            dsimp only
            rw [gd_t (xin_nI (by omega) (by decide)), gd_t (xin_nI (by omega) (by decide)), clN (by omega), nI_1, nI_l (by omega)]
      · rw [if_neg q2, if_pos rfl]
        left
        refine ⟨s + l + 1, by omega, ?_, rfl⟩
        by_cases q : s + l + 1 = n
        · rw [q, F_end ok (by omega), if_pos (by omega)]
        · have ep2 : pbN 8 (cs (s + l + 1)) = 12 := by
            unfold pbN
            rw [if_neg (by omega), if_neg (by omega), if_neg (by omega)]
            split
            · rw [if_neg (by omega), if_neg (by omega)]
            · rfl
          rw [F_step ok h1 (by omega) (by omega), if_pos ep2]
    · rw [if_neg q1]
      left
      refine ⟨s + l, by omega, ?_, rfl⟩
      by_cases q : s + l = n
      · rw [q, F_end ok (by omega), if_pos (by omega)]
      · have hc : l < 7 → ¬ (97 ≤ cs (s + l) ∧ cs (s + l) ≤ 122) := fun h7 c => hstop h7 ⟨by omega, c⟩
        have ep1 : pbN l (cs (s + l)) = 12 := by
          unfold pbN
          rw [if_neg (fun c => hc c.1 c.2), if_neg (by omega), if_neg (by omega)]
          split
          · rw [if_neg (by omega), if_neg (by omega)]
          · rfl
        rw [F_step ok h1 (by omega) (by omega), if_pos ep1]
