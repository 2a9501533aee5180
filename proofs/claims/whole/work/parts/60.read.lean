/-! reading the pad into the lexicon of now, on both sides -/
theorem tell_both {S : Nat → Nat} {N : Nat} {G : Nat → Nat} {W : Nat → List Nat} (ok : OKE N G W) {ln : Nat → Int32} {wd : Nat → Int64} (hx : ∀ i, i < N → ln i = nI (G i) ∧ wd i = lN (pk (W i))) {z : Nat → Int64} (hz : MLex S N G W z 0) {w : List Nat} (hw : wOK w) (hw1 : 1 ≤ w.length) {g : Nat} (hg : 1 ≤ g ∧ g ≤ 40) {K : Int32 → (Nat → Int64) → Option (Int32 × Int32 × Int32 × Int32 × Int32 × (Nat → Int64) × (Nat → Int64) × (Nat → Int64) × (Nat → Int64) × (Nat → Int64))} {a b : Int32} {past r20 : Nat → Int64} {sp : Int32} {m : Nat} {tw tl : Nat → Int64} {k : Nat} (hk : k < m) (hm : m ≤ 20) (h1 : tw k = lN (b27 w)) (h2 : tl k = lN g) (f : Nat) :
    ((∃ ln' wd' r87, f_X1_tell (nI N) ln wd (lN (pk w)) (nI g) = some (0, nI N, ln', wd') ∧ (∀ j, j < 64 → r87 j = r20 j) ∧ L_X6_read_25 K a b past r20 sp (nI m) tw tl (f + 1) (nI k) z = some (-4, a, b, sp, nI m, r87, r20, past, tw, tl)) ∨
     (∃ N' G' W' ln' wd' z', OKE N' G' W' ∧ (∀ i, i < N' → ln' i = nI (G' i) ∧ wd' i = lN (pk (W' i))) ∧ MLex S N' G' W' z' 0 ∧ f_X1_tell (nI N) ln wd (lN (pk w)) (nI g) = some (1, nI N', ln', wd') ∧ L_X6_read_25 K a b past r20 sp (nI m) tw tl (f + 1) (nI k) z = L_X6_read_25 K a b past r20 sp (nI m) tw tl f (nI (k + 1)) z')) := by
  have hN := ok.1
  have h3 : z 3 = lN N := hz.1
  have hzw : ∀ i, i < N → z (4 + i) = lN (b27 (W i)) := fun i hi => by have := (hz.2.2 i hi).1; rwa [Nat.zero_add] at this
  rw [L_X6_read_25_s, if_neg (nI_ge hk (by omega)), gd_t (xin_nI (by omega) (by decide)), clN (by omega), h1, h2]
  rcases x_tell ok hx hw g with ⟨e, ln', he, hWe, ex, hl⟩ | ⟨hno, hN30, ex⟩ | ⟨hno, hN30, p, ln', wd', hp, ex, hl⟩
  · right
    rcases m_with ok h3 hzw hw with ⟨e', he', hWe', em⟩ | ⟨hno, em⟩
    · have hee : e' = e := w_one ok he' he (by rw [hWe', hWe])
      subst hee
      refine ⟨N, put1 e' g G, W, ln', wd, vp_updL z (34 + e') (lN g), ok.put1 hg, fun i hi => ⟨hl i hi, (hx i hi).2⟩, ?_, ex, ?_⟩
      · refine ⟨?_, fun i hi => ?_, fun i hi => ⟨?_, ?_⟩⟩
        · exact (show vp_updL z (34 + e') (lN g) (0 + 3) = z (0 + 3) from if_neg (by omega)).trans hz.1
        · exact (show vp_updL z (34 + e') (lN g) (0 + i) = z (0 + i) from if_neg (by omega)).trans (hz.2.1 i hi)
        · exact (show vp_updL z (34 + e') (lN g) (0 + 4 + i) = z (0 + 4 + i) from if_neg (by omega)).trans (hz.2.2 i hi).1
        · by_cases q : i = e'
          · rw [q, put1_eq]
            exact (if_pos (by omega) : vp_updL z (34 + e') (lN g) (0 + 34 + e') = lN g)
          · rw [put1_ne q]
            exact (show vp_updL z (34 + e') (lN g) (0 + 34 + i) = z (0 + 34 + i) from if_neg (by omega)).trans (hz.2.2 i hi).2
      · rw [bd_eq em, if_neg (nI_m6 (by omega)), gd_t (xin_nI (by omega) (by decide)), n34, gd_t (xin64 (by omega)), clN (by omega), nI_1]
    · exact absurd hWe (hno e he)
  · left
    rcases m_with ok h3 hzw hw with ⟨e', he', hWe', em⟩ | ⟨hno2, em⟩
    · exact absurd hWe' (hno e' he')
    · obtain ⟨r87, ec, -, hc⟩ := m_copy (a := 0) (b := 0) (n0 := 64) (n2 := 64) r20 z (by omega) (by omega) (by decide) (by decide)
      refine ⟨ln, wd, r87, ex, fun j hj => ?_, ?_⟩
      · have := hc j hj
        rwa [Nat.zero_add] at this
      · rw [bd_eq em, if_pos rfl, m_many h3, hN30, if_pos (show nI 30 = (30 : Int32) from rfl), show (0 : Int32) = nI 0 by rfl, bd_eq ec]
  · right
    rcases m_with ok h3 hzw hw with ⟨e', he', hWe', em⟩ | ⟨hno2, em⟩
    · exact absurd hWe' (hno e' he')
    · obtain ⟨p', z', hp', ei, hz'⟩ := m_insert ok hN30 hz hw hno g
      have hpp : p' = p := plOf_one hp' hp
      subst hpp
      refine ⟨N + 1, ins p' g G, ins p' w W, ln', wd', z', ok.ins hN30 hp hno hw hw1 hg, hl, hz', ex, ?_⟩
      rw [bd_eq em, if_pos rfl, m_many h3, if_neg (show ¬ nI N = (30 : Int32) from fun c => by have := (nI_eq (a := N) (b := 30) (by omega) (by decide)).mp c; omega), gd_t (xin_nI (by omega) (by decide)), gd_t (xin_nI (by omega) (by decide)), bd_eq ei, nI_1]
def XF : Int32 → Int32 → Int64 → Int32 → (Nat → Int32) → (Nat → Int64) → Option (Int32 × Int32 × (Nat → Int32) × (Nat → Int64)) := fun (i5_8 : Int32) (i4_8 : Int32) (j2_8 : Int64) (v_x1_entries_8 : Int32) (v_x1_lines_8 : Nat → Int32) (v_x1_words_8 : Nat → Int64) => Option.bind (f_X1_tell v_x1_entries_8 v_x1_lines_8 v_x1_words_8 j2_8 i4_8) (fun (r_102 : Int32 × Int32 × (Nat → Int32) × (Nat → Int64)) => gd (isb r_102.1) (some (r_102.1, r_102.2.1, r_102.2.2.1, r_102.2.2.2)))
theorem read_loop {S : Nat → Nat} {n : Nat} {cs : Nat → Nat} (okp : OKP n cs) {codes : Nat → Int32} (hp : PadIs n cs codes) {K : Int32 → (Nat → Int64) → Option (Int32 × Int32 × Int32 × Int32 × Int32 × (Nat → Int64) × (Nat → Int64) × (Nat → Int64) × (Nat → Int64) × (Nat → Int64))} {a b : Int32} {past r20 : Nat → Int64} {sp : Int32} {m : Nat} (hm : m ≤ 20) {tw tl : Nat → Int64} : ∀ (es : List (List Nat × Nat)) (f s k f2 : Nat) (N : Nat) (G : Nat → Nat) (W : Nat → List Nat) (ln : Nat → Int32) (wd z : Nat → Int64), chain n cs es s → told tw tl es k → k + es.length = m → s ≤ n → n - s < f → es.length < f2 → OKE N G W → (∀ i, i < N → ln i = nI (G i) ∧ wd i = lN (pk (W i))) → MLex S N G W z 0 →
    ((∃ N' ln' wd' r87, L_X2_addEntriesTo_8 XF (nI n) codes f (nI s) 0 0 (nI N) ln wd = some (0, N', ln', wd') ∧ (∀ j, j < 64 → r87 j = r20 j) ∧ L_X6_read_25 K a b past r20 sp (nI m) tw tl f2 (nI k) z = some (-4, a, b, sp, nI m, r87, r20, past, tw, tl)) ∨
     (∃ N' G' W' ln' wd' z', OKE N' G' W' ∧ (∀ i, i < N' → ln' i = nI (G' i) ∧ wd' i = lN (pk (W' i))) ∧ MLex S N' G' W' z' 0 ∧ L_X2_addEntriesTo_8 XF (nI n) codes f (nI s) 0 0 (nI N) ln wd = some (1, nI N', ln', wd') ∧ L_X6_read_25 K a b past r20 sp (nI m) tw tl f2 (nI k) z = K (nI m) z'))
  | [], _, _, _, _, _, _, _, _, _, _, h, _, _, _, _, _, _, _, _ => h.elim
  | x :: rest, f, s, k, 0, _, _, _, _, _, _, _, _, _, _, _, h, _, _, _ => absurd h (by omega)
  | x :: rest, f, s, k, f2 + 1, N, G, W, ln, wd, z, hch, htd, hkm, hs, hf, hf2, ok, hx, hz => by
    have hn := okp.1
    obtain ⟨hx1, e, hg, he3, hg1, hg40, hend⟩ := hch
    have hw : wOK x.1 := by rw [hx1]; exact run_w n cs (Nat.le_refl 7) s
    have hw1 : 1 ≤ x.1.length := by
      rw [hx1]
      obtain ⟨t, d, -, h, -⟩ := hg
      exact h
    rw [List.length_cons] at hkm hf2
    obtain ⟨f', hf', eL⟩ := add_entry (K := XF) okp hp (nI N) ln wd hg hs hf
    rw [eL, ← hx1]
    obtain ⟨f'', rfl⟩ : ∃ f'', f' = f'' + 1 := ⟨f' - 1, by omega⟩
    rw [L_X2_addEntriesTo_8_s]
    rcases hend with ⟨hr, hen⟩ | ⟨hr, hlt, h44, hch2⟩
    · rw [if_pos (nI_le (by omega) (by omega))]
      have hk1 : k + 1 = m := by rw [hr, List.length_nil] at hkm; omega
      rcases tell_both (K := K) (a := a) (b := b) (past := past) (r20 := r20) (sp := sp) ok hx hz hw hw1 ⟨hg1, hg40⟩ (show k < m by omega) hm htd.1.1 htd.1.2 f2 with ⟨ln', wd', r87, i1, i2, i3⟩ | ⟨N', G', W', ln', wd', z', i1, i2, i3, i4, i5⟩
      · left
        refine ⟨nI N, ln', wd', r87, ?_, i2, i3⟩
        unfold XF
        rw [bd_eq i1]
        rfl
      · right
        refine ⟨N', G', W', ln', wd', z', i1, i2, i3, ?_, ?_⟩
        · unfold XF
          rw [bd_eq i4]
          rfl
        · obtain ⟨f3, rfl⟩ : ∃ f3, f2 = f3 + 1 := ⟨f2 - 1, by omega⟩
          rw [i5, L_X6_read_25_s, if_pos (nI_le (by omega) (by omega)), hk1]
    · have hc := okp.2 e hlt
      rw [if_neg (nI_ge hlt (by omega)), gd_t (xin_nI (by omega) (by decide)), clN (by omega), hp e hlt, x_letN (by omega) (by omega), if_pos rfl, x_digN (by omega) (by omega), if_pos rfl, h44, if_pos (by rfl), nI_1]
      rcases tell_both (K := K) (a := a) (b := b) (past := past) (r20 := r20) (sp := sp) ok hx hz hw hw1 ⟨hg1, hg40⟩ (show k < m by omega) hm htd.1.1 htd.1.2 f2 with ⟨ln', wd', r87, i1, i2, i3⟩ | ⟨N', G', W', ln', wd', z', i1, i2, i3, i4, i5⟩
      · left
        refine ⟨nI N, ln', wd', r87, ?_, i2, i3⟩
        rw [bd_eq i1]
        rfl
      · have e2 : Option.bind (f_X1_tell (nI N) ln wd (lN (pk x.1)) (nI x.2)) (fun (r_79 : Int32 × Int32 × (Nat → Int32) × (Nat → Int64)) => if r_79.1 = 0 then (some (0, r_79.2.1, r_79.2.2.1, r_79.2.2.2)) else (L_X2_addEntriesTo_8 XF (nI n) codes f'' (nI (e + 1)) 0 0 r_79.2.1 r_79.2.2.1 r_79.2.2.2)) = L_X2_addEntriesTo_8 XF (nI n) codes f'' (nI (e + 1)) 0 0 (nI N') ln' wd' := by
          rw [bd_eq i4]
          rfl
        rw [e2, i5]
        exact read_loop okp hp hm rest f'' (e + 1) (k + 1) f2 N' G' W' ln' wd' z' hch2 htd.2 (by omega) (by omega) (by omega) (by omega) i1 i2 i3
