/-! the reference lays an entry -/
theorem bd_eta {A B C D E F G H : Type} (o : Option (A × B × C × D × E × F × G × H)) : Option.bind o (fun r => some (r.1, r.2.1, r.2.2.1, r.2.2.2.1, r.2.2.2.2.1, r.2.2.2.2.2.1, r.2.2.2.2.2.2.1, r.2.2.2.2.2.2.2)) = o := by
  cases o <;> rfl
theorem m_pourAt {p e n h u L : Nat} (hp : p < 400) (he : e < 30) (hn : 1 ≤ n ∧ n ≤ 40) (hL : L ≤ 40) {z : Nat → Int64} (hz : z 0 = lN L) (hzn : z (34 + e) = lN n) {H : Nat → Nat} {hd : Nat → Int32} (hh : ∀ p, p < 400 → hd p = nI (H p)) (hHu : H p + u ≤ L) {us : Nat → Int32} (hu : us p = nI u) (hm : (h = n ∧ n ≤ L - H p - u) ∨ (h = L - H p - u ∧ h < n)) (pg : Int32) (fi la bp bl ep : Nat → Int32) (hep : ep e = (-6)) :
    f_X6_pour pg z hd us fi la bp bl ep (nI e) (nI p) = L_X6_pour_9 KR (nI e) z hd (FU - 1) (nI (n - h)) (nI (if n - h = 0 then p else p + 1)) (nI (p + 1)) (upd us p (nI (u + h))) (upd fi p (if us p = 0 then nI e else fi p)) (upd la p (nI e)) (upd bp e (nI p)) (upd bl e (nI u)) (upd ep e (nI p)) := by
  have e1 := m_pour1 (K2 := KR) hp he hn hL hz hh hHu hu hm (FU - 1) pg fi la bp bl ep
  rw [if_pos hep, if_pos hep, hu, ← FU_s 1 (by decide)] at e1
  rw [hu]
  unfold f_X6_pour
  rw [bd_eq (m_lines he hzn)]
  exact e1
theorem m_split {p e n k u L : Nat} (hp : p + 1 < 400) (he : e < 30) (hn : 1 ≤ n ∧ n ≤ 40) (hk : 1 ≤ k ∧ k ≤ 3) (hkn : k ≤ n) (hL : 6 ≤ L ∧ L ≤ 40) {z : Nat → Int64} (hz : z 0 = lN L) {H : Nat → Nat} (hH : ∀ p, H p = 1 ∨ H p = 2) {hd : Nat → Int32} (hh : ∀ p, p < 400 → hd p = nI (H p)) {us : Nat → Int32} (hu : us p = nI u) (hu1 : us (p + 1) = nI 0) (fi la bp bl ep : Nat → Int32) (hep : ep e = (-6)) :
    Option.bind (f_X6_lay us fi la bp bl ep (nI e) (nI p) (nI n - nI k)) (fun (r_88 : Int32 × (Nat → Int32) × (Nat → Int32) × (Nat → Int32) × (Nat → Int32) × (Nat → Int32) × (Nat → Int32)) => Option.bind (f_X6_lay r_88.2.1 r_88.2.2.1 r_88.2.2.2.1 r_88.2.2.2.2.1 r_88.2.2.2.2.2.1 r_88.2.2.2.2.2.2 (nI e) (nI p + 1) (nI k)) (fun (r_98 : Int32 × (Nat → Int32) × (Nat → Int32) × (Nat → Int32) × (Nat → Int32) × (Nat → Int32) × (Nat → Int32)) => some (nI p + 1, r_98.1, r_98.2.1, r_98.2.2.1, r_98.2.2.2.1, r_98.2.2.2.2.1, r_98.2.2.2.2.2.1, r_98.2.2.2.2.2.2)))
     = L_X6_pour_9 KR (nI e) z hd 42 (nI k) (nI (p + 1)) (nI (p + 1)) (upd us p (nI (u + (n - k)))) (upd fi p (if us p = 0 then nI e else fi p)) (upd la p (nI e)) (upd bp e (nI p)) (upd bl e (nI u)) (upd ep e (nI p)) := by
  have hH1 := hH (p + 1)
  have e2 : (upd us p (nI (u + (n - k)))) (p + 1) = nI 0 := by rw [upd_ne (by omega)]; exact hu1
  rw [m_pour1 (K2 := KR) (h := k) hp he ⟨hk.1, by omega⟩ hL.2 hz hh (show H (p + 1) + 0 ≤ L by omega) e2 (Or.inl ⟨rfl, by omega⟩) 41 (nI (p + 1)) (upd fi p (if us p = 0 then nI e else fi p)) (upd la p (nI e)) (upd bp e (nI p)) (upd bl e (nI u)) (upd ep e (nI p)), Nat.sub_self, if_pos rfl, L_X6_pour_9_s, if_pos (show nI 0 ≤ (0 : Int32) by decide)]
  rw [pk_sub hkn, bd_eq (m_lay (by omega) he (nI (n - k)) us fi la bp bl ep)]
  dsimp only
  rw [nI_1, bd_eq (m_lay hp he (nI k) _ _ _ _ _ _)]
  dsimp only
  rw [if_pos hep, if_pos hep, hu, nI_add, e2, nI_add]
  rfl
theorem m_entry {p e n k u L : Nat} (hp : p + 1 < 400) (he : e < 30) (hn : 1 ≤ n ∧ n ≤ 40) (hk : 1 ≤ k ∧ k ≤ 3) (hL : 6 ≤ L ∧ L ≤ 40) {z : Nat → Int64} (hz : z 0 = lN L) (hzn : z (34 + e) = lN n) {H : Nat → Nat} (hH : ∀ p, H p = 1 ∨ H p = 2) {hd : Nat → Int32} (hh : ∀ p, p < 400 → hd p = nI (H p)) (hHu : H p + u ≤ L) {us : Nat → Int32} (hu : us p = nI u) (hu1 : us (p + 1) = nI 0) (pg : Int32) (fi la bp bl ep : Nat → Int32) (hep : ep e = (-6)) (f : Nat) :
    (hereN n (L - H p - u) k = 0 → u ≠ 0 → L_X6_layEntry_18 (nI e) pg z hd us fi la bp bl ep (nI n) (nI k) (f + 1) (nI p) = L_X6_layEntry_18 (nI e) pg z hd us fi la bp bl ep (nI n) (nI k) f (nI (p + 1))) ∧
    (∀ h, (h = hereN n (L - H p - u) k ∧ h ≠ 0) ∨ (hereN n (L - H p - u) k = 0 ∧ u = 0 ∧ h = L - H p - u) → ∃ f', 40 < f' ∧ L_X6_layEntry_18 (nI e) pg z hd us fi la bp bl ep (nI n) (nI k) (f + 1) (nI p) = L_X6_pour_9 KR (nI e) z hd f' (nI (n - h)) (nI (if n - h = 0 then p else p + 1)) (nI (p + 1)) (upd us p (nI (u + h))) (upd fi p (if us p = 0 then nI e else fi p)) (upd la p (nI e)) (upd bp e (nI p)) (upd bl e (nI u)) (upd ep e (nI p))) := by
  have hF := FU_big
  have ps : nI (L - H p) - us p = nI (L - H p - u) := by rw [hu, pk_sub (by omega)]
  have P56 : ∀ h, (h = n ∧ n ≤ L - H p - u) ∨ (h = L - H p - u ∧ h < n) → J_X6_layEntry_56 (nI e) pg z hd us fi la bp bl ep (nI p) = L_X6_pour_9 KR (nI e) z hd (FU - 1) (nI (n - h)) (nI (if n - h = 0 then p else p + 1)) (nI (p + 1)) (upd us p (nI (u + h))) (upd fi p (if us p = 0 then nI e else fi p)) (upd la p (nI e)) (upd bp e (nI p)) (upd bl e (nI u)) (upd ep e (nI p)) := fun h hm => by
    unfold J_X6_layEntry_56
    rw [bd_eta]
    exact m_pourAt (by omega) he hn hL.2 hz hzn hh hHu hu hm pg fi la bp bl ep hep
  have P105 : ∀ REC, (u ≠ 0 → J_X6_layEntry_105 REC (nI e) pg z hd us fi la bp bl ep (nI p) = REC (nI (p + 1))) ∧ (∀ h, u = 0 → (h = n ∧ n ≤ L - H p - u) ∨ (h = L - H p - u ∧ h < n) → J_X6_layEntry_105 REC (nI e) pg z hd us fi la bp bl ep (nI p) = L_X6_pour_9 KR (nI e) z hd (FU - 1) (nI (n - h)) (nI (if n - h = 0 then p else p + 1)) (nI (p + 1)) (upd us p (nI (u + h))) (upd fi p (if us p = 0 then nI e else fi p)) (upd la p (nI e)) (upd bp e (nI p)) (upd bl e (nI u)) (upd ep e (nI p))) := fun REC => by
    unfold J_X6_layEntry_105
    refine ⟨fun h0 => ?_, fun h h0 hm => ?_⟩
    · rw [gd_t (xin_nI (by omega) (by decide)), clN (by omega), if_neg (show ¬ us p = 0 from fun c => h0 ((nI_eq (a := u) (b := 0) (by omega) (by decide)).mp (by rw [← hu, c]; rfl))), nI_1]
    · rw [gd_t (xin_nI (by omega) (by decide)), clN (by omega), if_pos (show us p = 0 by rw [hu, h0]; rfl), bd_eta]
      exact m_pourAt (by omega) he hn hL.2 hz hzn hh hHu hu hm pg fi la bp bl ep hep
  rw [L_X6_layEntry_18_s, bd_eq (m_room (by omega) hL.2 hz hh (by omega)), gd_t (xin_nI (by omega) (by decide)), clN (by omega), ps]
  generalize hr : L - H p - u = r at *
  unfold hereN
  by_cases q1 : n ≤ r
  · rw [if_pos (nI_le q1 (by omega)), if_pos q1]
    refine ⟨fun c => by omega, fun h hc => ⟨FU - 1, by omega, P56 h (Or.inl ⟨?_, q1⟩)⟩⟩
    omega
  · rw [if_neg (nI_ge (by omega) (by omega)), if_neg q1]
    by_cases q2 : r < k
    · rw [if_pos (nI_lt q2 (by omega)), if_pos q2]
      unfold J_X6_layEntry_63
      rw [clN (by omega), ps, if_pos (nI_lt q2 (by omega))]
      refine ⟨fun _ h0 => (P105 _).1 h0, fun h hc => ⟨FU - 1, by omega, ?_⟩⟩
      refine (P105 _).2 h (by omega) (Or.inr ⟨by omega, by omega⟩)
    · rw [if_neg (nI_nlt (by omega) (by omega)), if_neg q2, pk_sub (by omega)]
      by_cases q3 : k ≤ n - r
      · rw [if_neg (nI_nlt q3 (by omega)), if_pos q3]
        refine ⟨fun c => by omega, fun h hc => ⟨FU - 1, by omega, P56 h (Or.inr ⟨by omega, by omega⟩)⟩⟩
      · rw [if_pos (nI_lt (by omega) (by omega)), if_neg q3]
        unfold J_X6_layEntry_63
        rw [clN (by omega), ps, if_neg (nI_nlt (by omega) (by omega)), pk_sub (by omega)]
        by_cases q4 : k ≤ n - k
        · rw [if_neg (nI_nlt q4 (by omega)), if_pos q4]
          refine ⟨fun c => by omega, fun h hc => ⟨42, by omega, ?_⟩⟩
          have hh2 : h = n - k := by omega
          have ms := m_split hp he hn hk (by omega) hL hz hH hh hu hu1 fi la bp bl ep hep
          rw [pk_sub (by omega)] at ms
          rw [hh2, show n - (n - k) = k by omega, if_neg (show ¬ k = 0 by omega)]
          exact ms
        · rw [if_pos (nI_lt (by omega) (by omega)), if_neg q4]
          refine ⟨fun _ h0 => (P105 _).1 h0, fun h hc => ⟨FU - 1, by omega, ?_⟩⟩
          refine (P105 _).2 h (by omega) (Or.inr ⟨by omega, by omega⟩)
