/-! the three tables, the classes of arrays, the private members: what the law's start has -/
theorem ar_int {A : Array Value} {s : State} (h : (Cond.arrayClass .int).before A s = true) : ∃ c, ArrOfT s c .int ∧ va_RA s c .int := by
  obtain ⟨c, k, comp, h1, h2, h3⟩ := Cond.arrayClass_spec h
  exact ⟨c, fun n z => ⟨fun k h => (by cases h), k, h2, comp, h3⟩, h1⟩
theorem ar_long {A : Array Value} {s : State} (h : (Cond.arrayClass .long).before A s = true) : ∃ c, ArrOfT s c .long ∧ va_RA s c .long := by
  obtain ⟨c, k, comp, h1, h2, h3⟩ := Cond.arrayClass_spec h
  exact ⟨c, fun n z => ⟨fun k h => (by cases h), k, h2, comp, h3⟩, h1⟩
theorem ar_bool {A : Array Value} {s : State} (h : (Cond.arrayClass .boolean).before A s = true) : ∃ c, ArrOfT s c .boolean ∧ va_RA s c .boolean := by
  obtain ⟨c, k, comp, h1, h2, h3⟩ := Cond.arrayClass_spec h
  exact ⟨c, fun n z => ⟨fun k h => (by cases h), k, h2, comp, h3⟩, h1⟩
theorem ar_obj {A : Array Value} {s : State} {C : String} (h : (Cond.arrayOver (.object C)).before A s = true) : ∃ c, ArrOfT s c (.object C) ∧ va_RA s c (.object C) := by
  obtain ⟨comp, c, k, h1, h2, h3, h4, h5⟩ := Cond.arrayOver_spec h
  exact ⟨c, fun n z => ⟨fun k h => (by cases h), k, h3, comp, h4⟩, k, comp, h3, h4, h1, h5⟩
theorem st_one {args : Array Value} {s : State} {n : String} {f : Nat → Int32} {A : Nat → Prop} {x0 x1 x2 : Int32} (e0 : f 0 = x0) (e1 : f 1 = x1) (e2 : f 2 = x2)
    (hl : (Cond.laysStatic "RunningHeads" n "[I").before args s = true) (hi : (Cond.initialized "RunningHeads").before args s = true) (ha : (Cond.arrayOf (.static "RunningHeads" n "[I") .int).before args s = true) (hn : (Cond.eq (.length (.static "RunningHeads" n "[I")) (.int 3)).before args s = true)
    (h0 : (Cond.eq (.elem (.static "RunningHeads" n "[I") (.int 0)) (.int x0)).before args s = true) (h1 : (Cond.eq (.elem (.static "RunningHeads" n "[I") (.int 1)) (.int x1)).before args s = true) (h2 : (Cond.eq (.elem (.static "RunningHeads" n "[I") (.int 2)) (.int x2)).before args s = true)
    (hA : ∀ a : Nat, a < s.heap.size → ¬ A a) : ∃ t, va_Z "RunningHeads" n "[I" (.ref t) A s s.heap ∧ va_T .int t 3 (fun j => .int (f j)) A s s.heap := by
  obtain ⟨t, e, hT⟩ := va_Tof (N := 3) (f := fun j => .int (f j)) (A := A) (by decide) ha (va_eqt hn) (fun j hj => by
    rcases (show j = 0 ∨ j = 1 ∨ j = 2 by omega) with rfl | rfl | rfl
    · rw [e0]
      exact va_eqt h0
    · rw [e1]
      exact va_eqt h1
    · rw [e2]
      exact va_eqt h2) hA
  exact ⟨t, va_Zof hl hi e hA, hT⟩
theorem law_st {p : Program} {s : State} {m : MethodId} {meth : Method} {c : Code} {b L : Nat} {xs : Nat → Int32} (C0 : lw_At p s m meth c b L xs) : ∃ tL tH tF, stA tL tH tF (fun q : Nat => s.heap.size ≤ q) s s.heap := by
  obtain ⟨-, -, -, -, -, hts, -, -, -, hgv⟩ := C0
  have hs := flat_of_before _ hgv
  have hA : ∀ a : Nat, a < s.heap.size → ¬ (fun q : Nat => s.heap.size ≤ q) a := fun a h1 h2 => absurd h1 (Nat.not_lt.mpr h2)
  have hi := hts (.initialized "RunningHeads") (by decide +kernel)
  obtain ⟨tL, a1, a2⟩ := st_one (n := "LOWEST") (f := lowF) (x0 := 6) (x1 := 4) (x2 := 1) rfl rfl rfl (hts (.laysStatic "RunningHeads" "LOWEST" "[I") (by decide +kernel)) hi (hs _ (by decide +kernel)) (hs _ (by decide +kernel)) (hs _ (by decide +kernel)) (hs _ (by decide +kernel)) (hs _ (by decide +kernel)) hA
  obtain ⟨tH, b1, b2⟩ := st_one (n := "HIGHEST") (f := highF) (x0 := 40) (x1 := 30) (x2 := 3) rfl rfl rfl (hts (.laysStatic "RunningHeads" "HIGHEST" "[I") (by decide +kernel)) hi (hs _ (by decide +kernel)) (hs _ (by decide +kernel)) (hs _ (by decide +kernel)) (hs _ (by decide +kernel)) (hs _ (by decide +kernel)) hA
  obtain ⟨tF, c1, c2⟩ := st_one (n := "AT_FIRST") (f := firstF) (x0 := 12) (x1 := 12) (x2 := 2) rfl rfl rfl (hts (.laysStatic "RunningHeads" "AT_FIRST" "[I") (by decide +kernel)) hi (hs _ (by decide +kernel)) (hs _ (by decide +kernel)) (hs _ (by decide +kernel)) (hs _ (by decide +kernel)) (hs _ (by decide +kernel)) hA
  exact ⟨tL, tH, tF, a1, a2, b1, b2, c1, c2⟩
theorem law_nw {p : Program} {s : State} {m : MethodId} {meth : Method} {c : Code} {b L : Nat} {xs : Nat → Int32} (C0 : lw_At p s m meth c b L xs) : nwA s := by
  obtain ⟨-, -, -, -, -, hts, -, -, -, -⟩ := C0
  exact ⟨va_Nw.of rfl (hts (.fieldLinkNest RX1 9 "RunningHeads" "AT_FIRST" "[I" "RunningHeads") (by decide +kernel)), va_Nw.of rfl (hts (.methodLinkNest RX3 21 yX1_init "RunningHeads") (by decide +kernel)), va_Nw.of rfl (hts (.methodLinkNest RX5 11 yX1_init "RunningHeads") (by decide +kernel)), va_Nw.of rfl (hts (.methodLinkNest RX5 21 yX0_init "RunningHeads") (by decide +kernel)), va_Nw.of rfl (hts (.methodLinkNest RX5 31 yX2_init "RunningHeads") (by decide +kernel)), va_AO.of (hts (.arrayOver (.object RX1)) (by decide +kernel))⟩
set_option maxRecDepth 20000 in
theorem law_K {p : Program} {s : State} {m : MethodId} {meth : Method} {c : Code} {b L : Nat} {xs : Nat → Int32} (C0 : lw_At p s m meth c b L xs) : ∃ (dC : Nat → ClassId) (dI : Nat → Nat → Nat) (cI cJ cZ cO : ClassId), va_K (dC, dI) vwCl [(cI, .int), (cJ, .long), (cZ, .boolean), (cO, .object RX1)] s := by
  obtain ⟨-, -, -, -, -, hts0, -, -, -, -⟩ := C0
  have hts : ∀ w ∈ wsL_law, w.before #[Value.ref b] s = true := fun w hw => hts0 w (wsL_law_in w hw)
  obtain ⟨c0, i0, k0⟩ := u_known (C := RX0) (T := TX0) (N := 15) (n := 15) hts inlX0 (hts0 (.instantiable RX0 15) (by decide +kernel))
  obtain ⟨c1, i1, k1⟩ := u_known (C := RX1) (T := TX1) (N := 4) (n := 4) hts inlX1 (hts0 (.instantiable RX1 4) (by decide +kernel))
  obtain ⟨c2, i2, k2⟩ := u_known (C := RX2) (T := TX2) (N := 2) (n := 2) hts inlX2 (hts0 (.instantiable RX2 2) (by decide +kernel))
  obtain ⟨c3, i3, k3⟩ := u_known (C := RX3) (T := TX3) (N := 2) (n := 2) hts inlX3 (hts0 (.instantiable RX3 2) (by decide +kernel))
  obtain ⟨c4, i4, k4⟩ := u_known (C := RX5) (T := TX5) (N := 8) (n := 8) hts inlX5 (hts0 (.instantiable RX5 8) (by decide +kernel))
  obtain ⟨cI, hI⟩ := ar_int (hts0 (.arrayClass .int) (by decide +kernel))
  obtain ⟨cJ, hJ⟩ := ar_long (hts0 (.arrayClass .long) (by decide +kernel))
  obtain ⟨cZ, hZ⟩ := ar_bool (hts0 (.arrayClass .boolean) (by decide +kernel))
  obtain ⟨cO, hO⟩ := ar_obj (hts0 (.arrayOver (.object RX1)) (by decide +kernel))
  refine ⟨fun k => match k with | 0 => c0 | 1 => c1 | 2 => c2 | 3 => c3 | _ => c4, fun k => match k with | 0 => i0 | 1 => i1 | 2 => i2 | 3 => i3 | _ => i4, cI, cJ, cZ, cO, fun k q hq => ?_, fun k q hq => ?_⟩
  · match k, hq with
    | 0, hq => cases hq; exact k0
    | 1, hq => cases hq; exact k1
    | 2, hq => cases hq; exact k2
    | 3, hq => cases hq; exact k3
    | 4, hq => cases hq; exact k4
    | k + 5, hq => simp [vwCl] at hq
  · match k, hq with
    | 0, hq => cases hq; exact hI
    | 1, hq => cases hq; exact hJ
    | 2, hq => cases hq; exact hZ
    | 3, hq => cases hq; exact hO
    | k + 4, hq => simp at hq
