/-! whether a setting can have a value, both sides -/
theorem m_inL {lo hi : Nat} (hl : lo < 2 ^ 31) (hh : hi < 2 ^ 31) (i : Int32) : f_X6_in i.toInt64 (lN lo) (lN hi) = if (lo : Int) ≤ i.toInt ∧ i.toInt ≤ (hi : Int) then 1 else 0 := by
  unfold f_X6_in
  have h1 : (i.toInt64 < lN lo) ↔ i.toInt < (lo : Int) := by rw [Int64.lt_iff_toInt_lt, Int32.toInt_toInt64, lN_toInt (by omega)]
  have h2 : (lN hi < i.toInt64) ↔ (hi : Int) < i.toInt := by rw [Int64.lt_iff_toInt_lt, Int32.toInt_toInt64, lN_toInt (by omega)]
  by_cases a : i.toInt < (lo : Int)
  · rw [if_pos (h1.mpr a), if_neg (by omega)]
  · rw [if_neg (fun q => a (h1.mp q))]
    by_cases b : (hi : Int) < i.toInt
    · rw [if_pos (h2.mpr b), if_neg (by omega)]
    · rw [if_neg (fun q => b (h2.mp q)), if_pos (by omega)]
theorem x_value {jn lo hi : Nat} (hj : jn < 3) (hl : lo < 2 ^ 31) (hh : hi < 2 ^ 31) (e1 : lowF jn = nI lo) (e2 : highF jn = nI hi) (v : Int32) : f_X5_isSettingValue (nI jn) v = some (if (lo : Int) ≤ v.toInt ∧ v.toInt ≤ (hi : Int) then 1 else 0) := by
  unfold f_X5_isSettingValue
  rw [if_neg (show ¬ nI jn < (0 : Int32) from nI_nlt (a := jn) (b := 0) (by omega) (by omega)), if_neg (show ¬ (3 : Int32) ≤ nI jn from nI_ge (a := jn) (b := 3) (by omega) (by decide)), gd_t (xin_nI hj (by decide)), clN (by omega), e1, e2]
  by_cases a : v.toInt < (lo : Int)
  · rw [if_pos ((i32_ltnI hl).mpr a), if_neg (by omega)]
  · rw [if_neg (fun q => a ((i32_ltnI hl).mp q)), gd_t (xin_nI hj (by decide))]
    by_cases b : (hi : Int) < v.toInt
    · rw [if_pos ((i32_nIlt hh).mpr b), if_neg (by omega)]
    · rw [if_neg (fun q => b ((i32_nIlt hh).mp q)), if_pos (by omega)]
theorem value_both (j v : Int32) :
    (∃ jn vn, jn < 3 ∧ j = nI jn ∧ v = nI vn ∧ vn ≤ 40 ∧ (∀ S, OKS S → OKS (put1 jn vn S)) ∧ f_X5_isSettingValue j v = some 1 ∧ f_X6_isValue j v = some 1) ∨ (f_X5_isSettingValue j v = some 0 ∧ f_X6_isValue j v = some 0) := by
  rcases ix_cases j (show 3 < 2 ^ 31 by omega) with ⟨jn, hj, rfl⟩ | hout
  · have V : ∀ lo hi : Nat, lo < 2 ^ 31 → hi ≤ 40 → (lo : Int) ≤ v.toInt ∧ v.toInt ≤ (hi : Int) → ∃ vn, v = nI vn ∧ lo ≤ vn ∧ vn ≤ hi := fun lo hi hl hh h => by
      refine ⟨v.toInt.toNat, Int32.toInt_inj.mp ?_, by omega, by omega⟩
      rw [nI_toInt (by omega)]
      omega
    rcases (show jn = 0 ∨ jn = 1 ∨ jn = 2 by omega) with rfl | rfl | rfl
    · have ex := x_value (jn := 0) (lo := 6) (hi := 40) (by omega) (by omega) (by omega) rfl rfl v
      have em : f_X6_isValue (nI 0) v = some (if ((6 : Nat) : Int) ≤ v.toInt ∧ v.toInt ≤ ((40 : Nat) : Int) then 1 else 0) := by
        unfold f_X6_isValue
        rw [if_pos (show nI 0 = (0 : Int32) by decide), show (6 : Int64) = lN 6 by rfl, show (40 : Int64) = lN 40 by rfl, m_inL (by omega) (by omega)]
        split <;> rfl
      by_cases g : ((6 : Nat) : Int) ≤ v.toInt ∧ v.toInt ≤ ((40 : Nat) : Int)
      · rw [if_pos g] at ex em
        obtain ⟨vn, h1, h2, h3⟩ := V 6 40 (by omega) (by omega) g
        exact Or.inl ⟨0, vn, by omega, rfl, h1, h3, fun S o => ⟨by rw [put1_eq]; exact ⟨h2, h3⟩, by rw [put1_ne (by omega)]; exact o.2.1, by rw [put1_ne (by omega)]; exact o.2.2⟩, ex, em⟩
      · rw [if_neg g] at ex em
        exact Or.inr ⟨ex, em⟩
    · have ex := x_value (jn := 1) (lo := 4) (hi := 30) (by omega) (by omega) (by omega) rfl rfl v
      have em : f_X6_isValue (nI 1) v = some (if ((4 : Nat) : Int) ≤ v.toInt ∧ v.toInt ≤ ((30 : Nat) : Int) then 1 else 0) := by
        unfold f_X6_isValue
        rw [if_neg (show ¬ nI 1 = (0 : Int32) by decide), if_pos (show nI 1 = (1 : Int32) by decide), show (4 : Int64) = lN 4 by rfl, show (30 : Int64) = lN 30 by rfl, m_inL (by omega) (by omega)]
        split <;> rfl
      by_cases g : ((4 : Nat) : Int) ≤ v.toInt ∧ v.toInt ≤ ((30 : Nat) : Int)
      · rw [if_pos g] at ex em
        obtain ⟨vn, h1, h2, h3⟩ := V 4 30 (by omega) (by omega) g
        exact Or.inl ⟨1, vn, by omega, rfl, h1, by omega, fun S o => ⟨by rw [put1_ne (by omega)]; exact o.1, by rw [put1_eq]; exact ⟨h2, h3⟩, by rw [put1_ne (by omega)]; exact o.2.2⟩, ex, em⟩
      · rw [if_neg g] at ex em
        exact Or.inr ⟨ex, em⟩
    · have ex := x_value (jn := 2) (lo := 1) (hi := 3) (by omega) (by omega) (by omega) rfl rfl v
      have em : f_X6_isValue (nI 2) v = some (if ((1 : Nat) : Int) ≤ v.toInt ∧ v.toInt ≤ ((3 : Nat) : Int) then 1 else 0) := by
        unfold f_X6_isValue
        rw [if_neg (show ¬ nI 2 = (0 : Int32) by decide), if_neg (show ¬ nI 2 = (1 : Int32) by decide), if_pos (show nI 2 = (2 : Int32) by decide), show (1 : Int64) = lN 1 by rfl, show (3 : Int64) = lN 3 by rfl, m_inL (by omega) (by omega)]
        split <;> rfl
      by_cases g : ((1 : Nat) : Int) ≤ v.toInt ∧ v.toInt ≤ ((3 : Nat) : Int)
      · rw [if_pos g] at ex em
        obtain ⟨vn, h1, h2, h3⟩ := V 1 3 (by omega) (by omega) g
        exact Or.inl ⟨2, vn, by omega, rfl, h1, by omega, fun S o => ⟨by rw [put1_ne (by omega)]; exact o.1, by rw [put1_ne (by omega)]; exact o.2.1, by rw [put1_eq]; exact ⟨h2, h3⟩⟩, ex, em⟩
      · rw [if_neg g] at ex em
        exact Or.inr ⟨ex, em⟩
  · right
    have n0 : ∀ k : Nat, k < 3 → ¬ j = nI k := fun k hk c => by rw [c, nI_toInt (by omega)] at hout; omega
    constructor
    · unfold f_X5_isSettingValue
      by_cases a : j < 0
      · rw [if_pos a]
      · rw [if_neg a, if_pos]
        rw [i32_neg] at a
        exact (i32_nIle (n := 3) (by decide)).mpr (by omega)
    · unfold f_X6_isValue
      rw [if_neg (show ¬ j = (0 : Int32) from n0 0 (by omega)), if_neg (show ¬ j = (1 : Int32) from n0 1 (by omega)), if_neg (show ¬ j = (2 : Int32) from n0 2 (by omega))]
