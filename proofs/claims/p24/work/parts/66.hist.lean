/-! the history -/
theorem up_eq {α : Type} {f : Nat → α} {k : Nat} {v : α} : va_up f k v k = v := if_pos rfl
theorem up_ne {α : Type} {f : Nat → α} {k j : Nat} {v : α} (h : j ≠ k) : va_up f k v j = f j := if_neg h
theorem x_copyR {st0 ln0 : Nat → Int32} {wd0 : Nat → Int64} {n0 : Int32} {l : LexT} (h : HLex l st0 ln0 wd0 n0) (st ln : Nat → Int32) (wd : Nat → Int64) :
    ∃ st' ln' wd', f_X1_copyOf st ln wd n0 st0 ln0 wd0 = some (n0, st', ln', wd') ∧ HLex l st' ln' wd' n0 := by
  obtain ⟨ok, h3⟩ := h
  obtain ⟨st', ln', wd', e, h5⟩ := x_copy ok.2.1 h3 st ln wd
  exact ⟨st', ln', wd', e, ok, h5⟩
theorem x_rem_lt {st ln : Nat → Int32} {wd : Nat → Int64} {n : Int32} {l : LexT} (h : HLex l st ln wd n) (ps pl : Nat → Nat → Int32) (pw : Nat → Nat → Int64) (pn : Nat → Int32) {k : Nat} (hk : k < 6) :
    ∃ st' ln' wd', f_X3_remember (nI k) ps pl pw pn n st ln wd = some (nI (k + 1), va_up ps k st', va_up pl k ln', va_up pw k wd', va_up pn k n) ∧ HLex l st' ln' wd' n := by
  rcases (show k = 0 ∨ k = 1 ∨ k = 2 ∨ k = 3 ∨ k = 4 ∨ k = 5 by omega) with rfl | rfl | rfl | rfl | rfl | rfl
  · obtain ⟨st', ln', wd', e, h5⟩ := x_copyR h (ps 0) (pl 0) (pw 0)
    refine ⟨st', ln', wd', ?_, h5⟩
    unfold f_X3_remember
    rw [if_pos (by decide), gd_t (by decide), if_pos (by decide), bd_eq e]
    rfl
  · obtain ⟨st', ln', wd', e, h5⟩ := x_copyR h (ps 1) (pl 1) (pw 1)
    refine ⟨st', ln', wd', ?_, h5⟩
    unfold f_X3_remember
    rw [if_pos (by decide), gd_t (by decide), if_neg (by decide), if_pos (by decide), bd_eq e]
    rfl
  · obtain ⟨st', ln', wd', e, h5⟩ := x_copyR h (ps 2) (pl 2) (pw 2)
    refine ⟨st', ln', wd', ?_, h5⟩
    unfold f_X3_remember
    rw [if_pos (by decide), gd_t (by decide), if_neg (by decide), if_neg (by decide), if_pos (by decide), bd_eq e]
    rfl
  · obtain ⟨st', ln', wd', e, h5⟩ := x_copyR h (ps 3) (pl 3) (pw 3)
    refine ⟨st', ln', wd', ?_, h5⟩
    unfold f_X3_remember
    rw [if_pos (by decide), gd_t (by decide), if_neg (by decide), if_neg (by decide), if_neg (by decide), if_pos (by decide), bd_eq e]
    rfl
  · obtain ⟨st', ln', wd', e, h5⟩ := x_copyR h (ps 4) (pl 4) (pw 4)
    refine ⟨st', ln', wd', ?_, h5⟩
    unfold f_X3_remember
    rw [if_pos (by decide), gd_t (by decide), if_neg (by decide), if_neg (by decide), if_neg (by decide), if_neg (by decide), if_pos (by decide), bd_eq e]
    rfl
  · obtain ⟨st', ln', wd', e, h5⟩ := x_copyR h (ps 5) (pl 5) (pw 5)
    refine ⟨st', ln', wd', ?_, h5⟩
    unfold f_X3_remember
    rw [if_pos (by decide), gd_t (by decide), if_neg (by decide), if_neg (by decide), if_neg (by decide), if_neg (by decide), if_neg (by decide), bd_eq e]
    rfl
theorem x_rem_6 {st ln : Nat → Int32} {wd : Nat → Int64} {n : Int32} {l : LexT} (h : HLex l st ln wd n) (ps pl : Nat → Nat → Int32) (pw : Nat → Nat → Int64) (pn : Nat → Int32) :
    ∃ st' ln' wd', f_X3_remember (nI 6) ps pl pw pn n st ln wd = some (nI 6, va_up (rotF ps) 5 st', va_up (rotF pl) 5 ln', va_up (rotF pw) 5 wd', va_up (rotF pn) 5 n) ∧ HLex l st' ln' wd' n := by
  obtain ⟨st', ln', wd', e, h5⟩ := x_copyR h (rotF ps 5) (rotF pl 5) (rotF pw 5)
  refine ⟨st', ln', wd', ?_, h5⟩
  have d : f_X3_dropOldest ps pl pw pn = (5, rotF ps, rotF pl, rotF pw, rotF pn) := rfl
  unfold f_X3_remember
  rw [if_neg (by decide), d]
  dsimp only
  rw [gd_t (by decide), if_neg (by decide), if_neg (by decide), if_neg (by decide), if_neg (by decide), if_neg (by decide), bd_eq e]
  rfl
theorem x_back {ps pl : Nat → Nat → Int32} {pw : Nat → Nat → Int64} {pn : Nat → Int32} {l : LexT} {k : Nat} (hk : k < 6) (h : HLex l (ps k) (pl k) (pw k) (pn k)) (n : Int32) (st ln : Nat → Int32) (wd : Nat → Int64) :
    ∃ st' ln' wd', f_X3_goBack (nI (k + 1)) ps pl pw pn n st ln wd = some (nI k, pn k, st', ln', wd') ∧ HLex l st' ln' wd' (pn k) := by
  rcases (show k = 0 ∨ k = 1 ∨ k = 2 ∨ k = 3 ∨ k = 4 ∨ k = 5 by omega) with rfl | rfl | rfl | rfl | rfl | rfl
  · obtain ⟨st', ln', wd', e, h5⟩ := x_copyR h st ln wd
    refine ⟨st', ln', wd', ?_, h5⟩
    unfold f_X3_goBack
    rw [if_neg (by decide), gd_t (by decide), if_pos (by decide), bd_eq e]
    rfl
  · obtain ⟨st', ln', wd', e, h5⟩ := x_copyR h st ln wd
    refine ⟨st', ln', wd', ?_, h5⟩
    unfold f_X3_goBack
    rw [if_neg (by decide), gd_t (by decide), if_neg (by decide), if_pos (by decide), bd_eq e]
    rfl
  · obtain ⟨st', ln', wd', e, h5⟩ := x_copyR h st ln wd
    refine ⟨st', ln', wd', ?_, h5⟩
    unfold f_X3_goBack
    rw [if_neg (by decide), gd_t (by decide), if_neg (by decide), if_neg (by decide), if_pos (by decide), bd_eq e]
    rfl
  · obtain ⟨st', ln', wd', e, h5⟩ := x_copyR h st ln wd
    refine ⟨st', ln', wd', ?_, h5⟩
    unfold f_X3_goBack
    rw [if_neg (by decide), gd_t (by decide), if_neg (by decide), if_neg (by decide), if_neg (by decide), if_pos (by decide), bd_eq e]
    rfl
  · obtain ⟨st', ln', wd', e, h5⟩ := x_copyR h st ln wd
    refine ⟨st', ln', wd', ?_, h5⟩
    unfold f_X3_goBack
    rw [if_neg (by decide), gd_t (by decide), if_neg (by decide), if_neg (by decide), if_neg (by decide), if_neg (by decide), if_pos (by decide), bd_eq e]
    rfl
  · obtain ⟨st', ln', wd', e, h5⟩ := x_copyR h st ln wd
    refine ⟨st', ln', wd', ?_, h5⟩
    unfold f_X3_goBack
    rw [if_neg (by decide), gd_t (by decide), if_neg (by decide), if_neg (by decide), if_neg (by decide), if_neg (by decide), if_neg (by decide), bd_eq e]
    rfl
def rec6 (h : List LexT) (l : LexT) : List LexT := if h.length < 6 then h ++ [l] else h.tail ++ [l]
theorem x_record {st ln : Nat → Int32} {wd : Nat → Int64} {n : Int32} {l : LexT} (h : HLex l st ln wd n) {hi : List LexT} {k : Int32} {ps pl : Nat → Nat → Int32} {pw : Nat → Nat → Int64} {pn : Nat → Int32} (hh : XHist hi k ps pl pw pn) :
    ∃ k' ps' pl' pw' pn', f_X3_remember k ps pl pw pn n st ln wd = some (k', ps', pl', pw', pn') ∧ XHist (rec6 hi l) k' ps' pl' pw' pn' := by
  obtain ⟨rfl, hk, hj⟩ := hh
  unfold rec6
  by_cases h6 : hi.length < 6
  · obtain ⟨st', ln', wd', e1, h1⟩ := x_rem_lt h ps pl pw pn h6
    rw [if_pos h6]
    refine ⟨_, _, _, _, _, e1, by rw [List.length_append, List.length_singleton], by rw [List.length_append, List.length_singleton]; omega, fun j hj2 => ?_⟩
    by_cases q : j = hi.length
    · subst q
      rw [up_eq, up_eq, up_eq, up_eq, List.getElem_append_right (Nat.le_refl _)]
      simpa using h1
    · have hjl : j < hi.length := by rw [List.length_append, List.length_singleton] at hj2; omega
      rw [up_ne q, up_ne q, up_ne q, up_ne q, List.getElem_append_left hjl]
      exact hj j hjl
  · have hk6 : hi.length = 6 := by omega
    rw [if_neg h6, hk6]
    obtain ⟨st', ln', wd', e1, h1⟩ := x_rem_6 h ps pl pw pn
    have hlen : (hi.tail ++ [l]).length = 6 := by rw [List.length_append, List.length_singleton, List.length_tail, hk6]
    refine ⟨_, _, _, _, _, e1, by rw [hlen], by omega, fun j hj2 => ?_⟩
    by_cases q : j = 5
    · subst q
      rw [up_eq, up_eq, up_eq, up_eq, List.getElem_append_right (by rw [List.length_tail, hk6]; omega)]
      simpa using h1
    · have hjl : j < hi.tail.length := by rw [List.length_tail, hk6]; omega
      rw [up_ne q, up_ne q, up_ne q, up_ne q, List.getElem_append_left hjl, List.getElem_tail]
      have e : ∀ {α : Type} (f : Nat → α), rotF f j = f (j + 1) := fun f => by unfold rotF; rw [if_pos (by omega)]
      rw [e, e, e, e]
      exact hj (j + 1) (by omega)
theorem x_undone {hi : List LexT} {k : Int32} {ps pl : Nat → Nat → Int32} {pw : Nat → Nat → Int64} {pn : Nat → Int32} (hh : XHist hi k ps pl pw pn) (hne : hi ≠ []) (n : Int32) (st ln : Nat → Int32) (wd : Nat → Int64) :
    ∃ k' n' st' ln' wd', f_X3_goBack k ps pl pw pn n st ln wd = some (k', n', st', ln', wd') ∧ HLex (hi.getLast hne) st' ln' wd' n' ∧ XHist hi.dropLast k' ps pl pw pn := by
  obtain ⟨rfl, hk, hj⟩ := hh
  obtain ⟨m, hm⟩ : ∃ m, hi.length = m + 1 := ⟨hi.length - 1, by have := List.length_pos_iff.mpr hne; omega⟩
  obtain ⟨st', ln', wd', e1, h1⟩ := x_back (k := m) (by omega) (hj m (by omega)) n st ln wd
  rw [hm]
  refine ⟨_, _, st', ln', wd', e1, ?_, by rw [List.length_dropLast, hm, Nat.add_sub_cancel], by rw [List.length_dropLast]; omega, fun j hj2 => ?_⟩
  · rw [List.getLast_eq_getElem]
    simp only [hm, Nat.add_sub_cancel]
    exact h1
  · rw [List.getElem_dropLast]
    exact hj j (by rw [List.length_dropLast] at hj2; omega)
