def FU : Nat := 1000000
def gd {α : Type} (c : Bool) (o : Option α) : Option α := if c = true then o else none
theorem gd_some {α : Type} {c : Bool} {o : Option α} {r : α} (h : gd c o = some r) : c = true ∧ o = some r := by
  unfold gd at h
  split at h
  · exact ⟨by assumption, h⟩
  · cases h
theorem gd_t {α : Type} {c : Bool} {o : Option α} (h : c = true) : gd c o = o := if_pos h
theorem bd_some {α β : Type} {o : Option α} {f : α → Option β} {b : β} (h : Option.bind o f = some b) : ∃ a, o = some a ∧ f a = some b := by
  cases o with
  | none => cases h
  | some a => exact ⟨a, rfl, h⟩
def xin (i : Int32) (n : Nat) : Bool := !(decide (i < 0) || decide (n ≤ i.toNatClampNeg))
theorem xin_vp {i : Int32} {n : Nat} (h : xin i n = true) : vp_in i n := by
  unfold xin at h
  unfold vp_in
  intro q
  rcases q with q | q <;> simp [q] at h
theorem xin_nI {i n : Nat} (h : i < n) (hn : n < 2 ^ 31) : xin (nI i) n = true := by
  unfold xin
  have h1 := nI_pos (n := i) (by omega)
  rw [nI_clamp (by omega)]
  simp [h1]
  omega
def isb (v : Int32) : Bool := v == 0 || v == 1
theorem isb_nar {v : Int32} (h : isb v = true) : narrow .boolean (.int v) = .int v := by
  unfold isb at h
  rcases (Bool.or_eq_true _ _).mp h with q | q <;> (have q2 := eq_of_beq q; subst q2; rfl)
theorem isb_fit {v : Int32} (h : isb v = true) : fits .boolean (.int v) = true := h
theorem nz_of64 {x : Int64} (h : (!(x == 0)) = true) : ¬ x = 0 := by
  intro q
  subst q
  cases h
theorem nz_of {x : Int64} (h : (!(x == 0)) = true) : ¬ x = 0 := nz_of64 h
def ushrL (x : Int64) (y : Int32) : Int64 := (x.toUInt64 >>> (y.toInt64.toUInt64 &&& Int64.toUInt64 63)).toInt64
def shlL (x : Int64) (y : Int32) : Int64 := x <<< (y.toInt64 &&& 63)
def lowF : Nat → Int32 := fun j => if j = 0 then 6 else if j = 1 then 4 else 1
def highF : Nat → Int32 := fun j => if j = 0 then 40 else if j = 1 then 30 else 3
def firstF : Nat → Int32 := fun j => if j = 0 then 12 else if j = 1 then 12 else 2
theorem sw_lt {x k : Int32} {a : Int} (h : x < k) (hk : k.toInt = a) : x.toInt < a := by rw [← hk]; exact Int32.lt_iff_toInt_lt.mp h
theorem sw_gt {x k : Int32} {a : Int} (h : k < x) (hk : k.toInt = a) : a < x.toInt := by rw [← hk]; exact Int32.lt_iff_toInt_lt.mp h
theorem sw_nlt {x k : Int32} {a : Int} (h : ¬ x < k) (hk : k.toInt = a) : ¬ x.toInt < a := by rw [← hk]; exact fun q => h (Int32.lt_iff_toInt_lt.mpr q)
theorem sw_ngt {x k : Int32} {a : Int} (h : ¬ k < x) (hk : k.toInt = a) : ¬ a < x.toInt := by rw [← hk]; exact fun q => h (Int32.lt_iff_toInt_lt.mpr q)
theorem sw_eq {x k : Int32} {a : Int} (hk : k.toInt = a) (h : x.toInt = a) : x = k := Int32.toInt_inj.mp (h.trans hk.symm)
/-- the three tables of the class: where they are, and what they hold; A doesn't have them -/
def stA (tL tH tF : Nat) (A : Nat → Prop) (U : State) (H : Heap) : Prop :=
  va_Z "RunningHeads" "LOWEST" "[I" (.ref tL) A U H ∧ va_T .int tL 3 (fun j => .int (lowF j)) A U H ∧ va_Z "RunningHeads" "HIGHEST" "[I" (.ref tH) A U H ∧ va_T .int tH 3 (fun j => .int (highF j)) A U H ∧ va_Z "RunningHeads" "AT_FIRST" "[I" (.ref tF) A U H ∧ va_T .int tF 3 (fun j => .int (firstF j)) A U H
theorem stA.moved {tL tH tF : Nat} {A : Nat → Prop} {u U : State} {H : Heap} (hvm : u.vm.Alike U.vm) (h : stA tL tH tF A u H) : stA tL tH tF A U H :=
  ⟨h.1.moved hvm, h.2.1.moved hvm, h.2.2.1.moved hvm, h.2.2.2.1.moved hvm, h.2.2.2.2.1.moved hvm, h.2.2.2.2.2.moved hvm⟩
theorem stA.kept {tL tH tF : Nat} {A : Nat → Prop} {U : State} {H H1 : Heap} (h : stA tL tH tF A U H) (hq : ∀ a : Nat, a < H.size → ¬ A a → H1[a]? = H[a]?) : stA tL tH tF A U H1 :=
  ⟨h.1.kept hq, h.2.1.kept hq, h.2.2.1.kept hq, h.2.2.2.1.kept hq, h.2.2.2.2.1.kept hq, h.2.2.2.2.2.kept hq⟩
theorem stA.narrow {tL tH tF : Nat} {A B : Nat → Prop} {U : State} {H : Heap} (h : stA tL tH tF A U H) (hAB : ∀ q, B q → A q) : stA tL tH tF B U H :=
  ⟨h.1.narrow hAB, h.2.1.narrow hAB, h.2.2.1.narrow hAB, h.2.2.2.1.narrow hAB, h.2.2.2.2.1.narrow hAB, h.2.2.2.2.2.narrow hAB⟩
section WROWS
variable {p : Program} {l : Launch} {e : Env} {R : Room} {s : State} {m : MethodId} {args : Array Value} {below : List Frame} {meth : Method} {c : Code} {H : Heap} {locs : List Loc} {cells slots : Nat} {Q : State → Prop}
theorem lv_rei {pc : Nat} {ls : Array Slot} {rest : List Value} {x x' : Int32} (h : x' = x) (k : W p l e R s m args below meth c H locs cells slots Q (F0 m pc ls (.int x' :: rest))) : W p l e R s m args below meth c H locs cells slots Q (F0 m pc ls (.int x :: rest)) := h ▸ k
theorem lv_rel {pc : Nat} {ls : Array Slot} {rest : List Value} {x x' : Int64} (h : x' = x) (k : W p l e R s m args below meth c H locs cells slots Q (F0 m pc ls (.long x' :: rest))) : W p l e R s m args below meth c H locs cells slots Q (F0 m pc ls (.long x :: rest)) := h ▸ k
theorem W_gen {g : JFrame} (h : ∀ Q' : State → Prop, Q' = Q → W p l e R s m args below meth c H locs cells slots Q' g) : W p l e R s m args below meth c H locs cells slots Q g := h Q rfl
theorem W_start {g : JFrame} {A : Nat → Prop} {D : va_G} {cl : List vw_C} {ws : va_W} (hP : va_P D cl ws s.heap) (k : ∀ (H : Heap) (locs : List Loc), va_P D cl ws H → va_S A s.heap H locs → W p l e R s m args below meth c H locs cells slots Q g) : W p l e R s m args below meth c s.heap [] cells slots Q g := k _ _ hP va_S.rf
end WROWS
