/-! the whole pad: a chain of entries, or one fault, on both sides -/
def chain (n : Nat) (cs : Nat → Nat) : List (List Nat × Nat) → Nat → Prop
  | [], _ => False
  | x :: rest, s => x.1 = run n cs 7 s ∧ ∃ e, entGood n cs s x.2 e ∧ s + 3 ≤ e ∧ 1 ≤ x.2 ∧ x.2 ≤ 40 ∧ ((rest = [] ∧ e = n) ∨ (rest ≠ [] ∧ e < n ∧ cs e = 44 ∧ chain n cs rest (e + 1)))
def told (tw tl : Nat → Int64) : List (List Nat × Nat) → Nat → Prop
  | [], _ => True
  | x :: r, k => (tw k = lN (b27 x.1) ∧ tl k = lN x.2) ∧ told tw tl r (k + 1)
def MK : Int32 → Int32 → Int32 → (Nat → Int64) → (Nat → Int64) → Option (Int32 × Int32 × Int32 × (Nat → Int64) × (Nat → Int64)) := fun (i1_15 : Int32) (v_spot_15 : Int32) (v_toldMany_15 : Int32) (v_toldWords_15 : Nat → Int64) (v_toldLines_15 : Nat → Int64) => gd (isb i1_15) (some (i1_15, v_spot_15, v_toldMany_15, v_toldWords_15, v_toldLines_15))
def Mx (n : Nat) (pd : Nat → Int32) (f s k : Nat) (tw tl : Nat → Int64) : Option (Int32 × Int32 × Int32 × (Nat → Int64) × (Nat → Int64)) := Option.bind (f_X6_readEntry (nI n) (nI s) (nI k) pd tw tl) (fun (r_40 : Int32 × Int32 × Int32 × (Nat → Int64) × (Nat → Int64)) => if r_40.1 = 0 then (L_X6_readPad_15 MK (nI n) pd f 0 r_40.2.1 r_40.2.2.1 r_40.2.2.2.1 r_40.2.2.2.2) else (L_X6_readPad_15 MK (nI n) pd f 1 r_40.2.1 r_40.2.2.1 r_40.2.2.2.1 r_40.2.2.2.2))
theorem m_end0 {n : Nat} {pd : Nat → Int32} {f : Nat} (hf : 0 < f) (sp k : Int32) (tw tl : Nat → Int64) : L_X6_readPad_15 MK (nI n) pd f 0 sp k tw tl = some (0, sp, k, tw, tl) := by
  obtain ⟨g, rfl⟩ : ∃ g, f = g + 1 := ⟨f - 1, by omega⟩
  rw [L_X6_readPad_15_s, if_pos rfl]
  rfl
theorem up_told {tw tl : Nat → Int64} : ∀ (es : List (List Nat × Nat)) (k j : Nat) (x y : Int64), j < k → told (vp_updL tw j x) (vp_updL tl j y) es k → told tw tl es k
  | [], _, _, _, _, _, _ => trivial
  | a :: r, k, j, x, y, hj, h => by
    refine ⟨?_, up_told r (k + 1) j x y (by omega) h.2⟩
    have h1 : vp_updL tw j x k = tw k := if_neg (by omega)
    have h2 : vp_updL tl j y k = tl k := if_neg (by omega)
    rw [← h1, ← h2]
    exact h.1
theorem parse_loop {n : Nat} {cs : Nat → Nat} (ok : OKP n cs) {codes pd : Nat → Int32} (h1 : PadIs n cs codes) (h2 : PadIs n cs pd) : ∀ (f s k : Nat) (tw tl : Nat → Int64), s ≤ n → 4 * k ≤ s → n - s < f →
    (∃ fa k' tw' tl', fa ≤ n ∧ Fx n codes s 0 = some (nI fa) ∧ Mx n pd f s k tw tl = some (0, nI fa, nI k', tw', tl')) ∨
    (∃ es tw' tl', chain n cs es s ∧ told tw' tl' es k ∧ (∀ j, j < k → tw' j = tw j ∧ tl' j = tl j) ∧ Fx n codes s 0 = some (-6) ∧ k + es.length ≤ 20 ∧ Mx n pd f s k tw tl = some (1, nI n, nI (k + es.length), tw', tl'))
  | 0, _, _, _, _, _, _, h => absurd h (by omega)
  | f + 1, s, k, tw, tl, hs, hk, hf => by
    have hn := ok.1
    rcases ent_both ok h1 h2 hs (show k < 20 by omega) tw tl with ⟨fa, hfa, e1, e2⟩ | ⟨g, e, p, hg, he3, hen, hg1, hg40, hp9, hp11, hpb, e1, e2⟩
    · left
      refine ⟨fa, k, tw, tl, hfa, e1, ?_⟩
      unfold Mx
      rw [bd_eq e2]
      dsimp only
      rw [if_pos rfl, m_end0 (by omega)]
    · have eM : Mx n pd (f + 1) s k tw tl = L_X6_readPad_15 MK (nI n) pd (f + 1) 1 (nI e) (nI (k + 1)) (vp_updL tw k (lN (b27 (run n cs 7 s)))) (vp_updL tl k (lN g)) := by
        unfold Mx
        rw [bd_eq e2]
        dsimp only
        rw [if_neg (by decide)]
      rw [eM, L_X6_readPad_15_s, if_neg (by decide), e1]
      by_cases q : e = n
      · right
        refine ⟨[(run n cs 7 s, g)], vp_updL tw k (lN (b27 (run n cs 7 s))), vp_updL tl k (lN g), ⟨rfl, e, hg, he3, hg1, hg40, Or.inl ⟨rfl, q⟩⟩, ⟨⟨if_pos rfl, if_pos rfl⟩, trivial⟩, fun j hj => ⟨if_neg (by omega), if_neg (by omega)⟩, ?_, ?_, ?_⟩
        · rw [q, F_end ok (by omega), if_neg (by omega)]
        · show k + 1 ≤ 20
          omega
        · rw [if_pos (nI_le (by omega) (by omega)), q]
          rfl
      · have hlt : e < n := by omega
        rw [if_neg (nI_ge hlt (by omega)), show (44 : Int32) = nI 44 by rfl, bd_eq (m_takes ok h2 (by omega) (by decide))]
        by_cases q2 : cs e = 44
        · rw [if_pos (show e < n ∧ cs e = 44 from ⟨hlt, q2⟩)]
          dsimp only
          rw [if_neg (by decide)]
          have hb := hpb hlt
          rw [if_pos q2] at hb
          rw [F_step ok h1 hlt (by omega), hb, if_neg (by decide)]
          rcases parse_loop ok h1 h2 f (e + 1) (k + 1) (vp_updL tw k (lN (b27 (run n cs 7 s)))) (vp_updL tl k (lN g)) (by omega) (by omega) (by omega) with ⟨fa, k', tw', tl', i1, i2, i3⟩ | ⟨es, tw', tl', i1, i2, i3, i4, i5, i6⟩
          · left
            exact ⟨fa, k', tw', tl', i1, i2, i3⟩
          · right
            have hne : es ≠ [] := fun c => by rw [c] at i1; exact i1
            refine ⟨(run n cs 7 s, g) :: es, tw', tl', ⟨rfl, e, hg, he3, hg1, hg40, Or.inr ⟨hne, hlt, q2, i1⟩⟩, ⟨⟨?_, ?_⟩, i2⟩, fun j hj => ⟨?_, ?_⟩, i4, ?_, ?_⟩
            · rw [(i3 k (by omega)).1]; exact if_pos rfl
            · rw [(i3 k (by omega)).2]; exact if_pos rfl
            · rw [(i3 j (by omega)).1]; exact if_neg (by omega)
            · rw [(i3 j (by omega)).2]; exact if_neg (by omega)
            · rw [List.length_cons]; omega
            · rw [List.length_cons, show k + (es.length + 1) = k + 1 + es.length by omega]
              exact i6
        · rw [if_neg (show ¬ (e < n ∧ cs e = 44) from fun c => q2 c.2)]
          dsimp only
          rw [if_pos rfl, m_end0 (by omega)]
          have hb := hpb hlt
          rw [if_neg q2] at hb
          left
          refine ⟨e, k + 1, vp_updL tw k (lN (b27 (run n cs 7 s))), vp_updL tl k (lN g), hen, ?_, rfl⟩
          rw [F_step ok h1 hlt (by omega), hb, if_pos rfl]
theorem parse_both {n : Nat} {cs : Nat → Nat} (ok : OKP n cs) {codes pd : Nat → Int32} (h1 : PadIs n cs codes) (h2 : PadIs n cs pd) (tw tl : Nat → Int64) :
    (∃ fa k' tw' tl', fa ≤ n ∧ f_X2_firstFault (nI n) codes = some (nI fa) ∧ f_X6_readPad (nI n) pd tw tl = some (0, nI fa, k', tw', tl')) ∨
    (∃ es tw' tl', chain n cs es 0 ∧ told tw' tl' es 0 ∧ es.length ≤ 20 ∧ f_X2_firstFault (nI n) codes = some (-6) ∧ f_X6_readPad (nI n) pd tw tl = some (1, nI n, nI es.length, tw', tl')) := by
  have hn := ok.1
  have hF := FU_big
  have eM : f_X6_readPad (nI n) pd tw tl = Mx n pd FU 0 0 tw tl := by
    have e0 : f_X6_readPad (nI n) pd tw tl = Option.bind (f_X6_readEntry (nI n) (nI 0) (nI 0) pd tw tl) (fun (r_11 : Int32 × Int32 × Int32 × (Nat → Int64) × (Nat → Int64)) => L_X6_readPad_15 MK (nI n) pd FU r_11.1 r_11.2.1 r_11.2.2.1 r_11.2.2.2.1 r_11.2.2.2.2) := rfl
    rw [e0]
    unfold Mx
    rcases ent_both ok h1 h2 (Nat.zero_le n) (show 0 < 20 by decide) tw tl with ⟨fa, hfa, e1, e2⟩ | ⟨g, e, p, hg, he3, hen, hg1, hg40, hp9, hp11, hpb, e1, e2⟩
    · rw [bd_eq e2, bd_eq e2]
      dsimp only
      rw [if_pos rfl]
    · rw [bd_eq e2, bd_eq e2]
      dsimp only
      rw [if_neg (by decide)]
  have eF : f_X2_firstFault (nI n) codes = Fx n codes 0 0 := rfl
  rw [eM, eF]
  rcases parse_loop ok h1 h2 FU 0 0 tw tl (Nat.zero_le n) (by omega) (by omega) with ⟨fa, k', tw', tl', i1, i2, i3⟩ | ⟨es, tw', tl', i1, i2, i3, i4, i5, i6⟩
  · exact Or.inl ⟨fa, nI k', tw', tl', i1, i2, i3⟩
  · refine Or.inr ⟨es, tw', tl', i1, i2, by omega, i4, ?_⟩
    rw [i6, Nat.zero_add]
/-- what fault answers -/
theorem fault_both {n : Nat} {cs : Nat → Nat} (ok : OKP n cs) {codes pd : Nat → Int32} (h1 : PadIs n cs codes) (h2 : PadIs n cs pd) (tw tl : Nat → Int64) :
    ∃ r sp k' tw' tl', f_X5_fault (nI n) codes = some r ∧ f_X6_fault (nI n) pd tw tl = some (r, sp, k', tw', tl') := by
  rcases parse_both ok h1 h2 tw tl with ⟨fa, k', tw', tl', -, i2, i3⟩ | ⟨es, tw', tl', -, -, -, i4, i6⟩
  · refine ⟨nI fa, nI fa, k', tw', tl', ?_, ?_⟩
    · unfold f_X5_fault
      rw [bd_eq i2]
    · unfold f_X6_fault
      rw [bd_eq i3]
      rfl
  · refine ⟨-6, nI n, nI es.length, tw', tl', ?_, ?_⟩
    · unfold f_X5_fault
      rw [bd_eq i4]
    · unfold f_X6_fault
      rw [bd_eq i6]
      rfl
