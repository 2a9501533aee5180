/-! what changes a lexicon -/
theorem OKE.put1 {N : Nat} {G : Nat → Nat} {W : Nat → List Nat} (ok : OKE N G W) {e g : Nat} (hg : 1 ≤ g ∧ g ≤ 40) : OKE N (put1 e g G) W := by
  refine ⟨ok.1, fun i hi => ?_, ok.2.2⟩
  have := ok.2.1 i hi
  by_cases q : i = e
  · rw [q, put1_eq, ← q]
    exact ⟨hg.1, hg.2, this.2.2⟩
  · rw [put1_ne q]
    exact this
theorem OKE.ins {N : Nat} {G : Nat → Nat} {W : Nat → List Nat} (ok : OKE N G W) (hN : N < 30) {p g : Nat} {w : List Nat} (hp : plOf N W w p) (hno : ∀ e, e < N → W e ≠ w) (hw : wOK w) (h1 : 1 ≤ w.length) (hg : 1 ≤ g ∧ g ≤ 40) : OKE (N + 1) (ins p g G) (ins p w W) := by
  refine ⟨by omega, fun i hi => ?_, fun i j hij hj => ?_⟩
  · rcases Nat.lt_trichotomy i p with q | q | q
    · rw [ins_lt q, ins_lt q]
      exact ok.2.1 i (by have := hp.1; omega)
    · rw [q, ins_eq, ins_eq]
      exact ⟨hg.1, hg.2, hw, h1⟩
    · rw [ins_gt q, ins_gt q]
      exact ok.2.1 (i - 1) (by omega)
  · have hlt : ∀ m, p ≤ m → m < N → b27 w < b27 (W m) := fun m a b => by
      have h2 := hp.2.2 m a b
      have h3 : b27 w ≠ b27 (W m) := fun c => hno m b ((b27_eq_w hw (ok.2.1 m b).2.2.1).mp c).symm
      omega
    have hpN := hp.1
    rcases Nat.lt_trichotomy i p with q | q | q
    · rw [ins_lt q]
      rcases Nat.lt_trichotomy j p with r | r | r
      · rw [ins_lt r]
        exact ok.2.2 i j hij (by omega)
      · rw [r, ins_eq]
        exact hp.2.1 i q
      · rw [ins_gt r]
        exact ok.2.2 i (j - 1) (by omega) (by omega)
    · rw [q, ins_eq, ins_gt (by omega)]
      exact hlt (j - 1) (by omega) (by omega)
    · rw [ins_gt q, ins_gt (by omega)]
      exact ok.2.2 (i - 1) (j - 1) (by omega) (by omega)
theorem OKE.dl {N : Nat} {G : Nat → Nat} {W : Nat → List Nat} (ok : OKE N G W) {e : Nat} (he : e < N) : OKE (N - 1) (dl e G) (dl e W) := by
  refine ⟨by have := ok.1; omega, fun i hi => ?_, fun i j hij hj => ?_⟩
  · by_cases q : i < e
    · rw [dl_lt q, dl_lt q]
      exact ok.2.1 i (by omega)
    · rw [dl_ge (by omega), dl_ge (by omega)]
      exact ok.2.1 (i + 1) (by omega)
  · by_cases q : i < e
    · rw [dl_lt q]
      by_cases r : j < e
      · rw [dl_lt r]
        exact ok.2.2 i j hij (by omega)
      · rw [dl_ge (by omega)]
        exact ok.2.2 i (j + 1) (by omega) (by omega)
    · rw [dl_ge (by omega), dl_ge (by omega)]
      exact ok.2.2 (i + 1) (j + 1) (by omega) (by omega)
theorem w_one {N : Nat} {G : Nat → Nat} {W : Nat → List Nat} (ok : OKE N G W) {a b : Nat} (ha : a < N) (hb : b < N) (h : W a = W b) : a = b := by
  rcases Nat.lt_trichotomy a b with q | q | q
  · have := ok.2.2 a b q hb; rw [h] at this; omega
  · exact q
  · have := ok.2.2 b a q ha; rw [h] at this; omega
def findE (W : Nat → List Nat) (w : List Nat) : Nat → Option Nat
  | 0 => none
  | n + 1 => match findE W w n with
    | some e => some e
    | none => if W n = w then some n else none
theorem findE_s (W : Nat → List Nat) (w : List Nat) : ∀ n, (∃ e, e < n ∧ W e = w ∧ findE W w n = some e) ∨ ((∀ e, e < n → W e ≠ w) ∧ findE W w n = none)
  | 0 => Or.inr ⟨fun e h => absurd h (Nat.not_lt_zero e), rfl⟩
  | n + 1 => by
    unfold findE
    rcases findE_s W w n with ⟨e, h1, h2, h3⟩ | ⟨h1, h2⟩
    · rw [h3]
      exact Or.inl ⟨e, by omega, h2, rfl⟩
    · rw [h2]
      by_cases q : W n = w
      · exact Or.inl ⟨n, by omega, q, if_pos q⟩
      · refine Or.inr ⟨fun e he => ?_, if_neg q⟩
        by_cases c : e = n
        · rw [c]; exact q
        · exact h1 e (by omega)
def placeW (W : Nat → List Nat) (w : List Nat) : Nat → Nat
  | 0 => 0
  | n + 1 => if b27 (W n) < b27 w then n + 1 else placeW W w n
theorem placeW_s {N : Nat} {G : Nat → Nat} {W : Nat → List Nat} (ok : OKE N G W) (w : List Nat) : ∀ n, n ≤ N → plOf n W w (placeW W w n)
  | 0, _ => ⟨Nat.le_refl _, fun i h => absurd h (Nat.not_lt_zero i), fun i _ h => absurd h (Nat.not_lt_zero i)⟩
  | n + 1, hn => by
    unfold placeW
    by_cases q : b27 (W n) < b27 w
    · rw [if_pos q]
      refine ⟨Nat.le_refl _, fun i hi => ?_, fun i h1 h2 => by omega⟩
      by_cases c : i = n
      · rw [c]; exact q
      · have := ok.2.2 i n (by omega) (by omega)
        omega
    · rw [if_neg q]
      obtain ⟨a, b, c⟩ := placeW_s ok w n (by omega)
      refine ⟨by omega, b, fun i h1 h2 => ?_⟩
      by_cases d : i = n
      · rw [d]; omega
      · exact c i h1 (by omega)
/-- an entry is told: the lexicon then, if there is place -/
def tellL (l : LexT) (w : List Nat) (g : Nat) : Option LexT := match findE (zW l) w (zN l) with
  | some e => some (zS l, zN l, put1 e g (zG l), zW l)
  | none => if zN l < 30 then some (zS l, zN l + 1, ins (placeW (zW l) w (zN l)) g (zG l), ins (placeW (zW l) w (zN l)) w (zW l)) else none
theorem x_tellL {l : LexT} (ok : OKL l) {ln : Nat → Int32} {wd : Nat → Int64} (hx : ∀ i, i < zN l → ln i = nI (zG l i) ∧ wd i = lN (pk (zW l i))) {w : List Nat} (hw : wOK w) (h1 : 1 ≤ w.length) {g : Nat} (hg : 1 ≤ g ∧ g ≤ 40) :
    (∃ l' ln' wd', tellL l w g = some l' ∧ OKL l' ∧ zS l' = zS l ∧ f_X1_tell (nI (zN l)) ln wd (lN (pk w)) (nI g) = some (1, nI (zN l'), ln', wd') ∧ ∀ i, i < zN l' → ln' i = nI (zG l' i) ∧ wd' i = lN (pk (zW l' i))) ∨
    (tellL l w g = none ∧ f_X1_tell (nI (zN l)) ln wd (lN (pk w)) (nI g) = some (0, nI (zN l), ln, wd)) := by
  unfold tellL
  rcases x_tell ok.2 hx hw g with ⟨e, ln', he, hwe, e1, e2⟩ | ⟨hno, h30, e1⟩ | ⟨hno, h30, p, ln', wd', hp, e1, e2⟩
  · rcases findE_s (zW l) w (zN l) with ⟨e', h2, h3, h4⟩ | ⟨h2, -⟩
    · have := w_one ok.2 he h2 (hwe.trans h3.symm)
      subst this
      rw [h4]
      exact Or.inl ⟨_, ln', wd, rfl, ⟨ok.1, ok.2.put1 hg⟩, rfl, e1, fun i hi => ⟨e2 i hi, (hx i hi).2⟩⟩
    · exact absurd hwe (h2 e he)
  · rcases findE_s (zW l) w (zN l) with ⟨e', h2, h3, h4⟩ | ⟨h2, h4⟩
    · exact absurd h3 (hno e' h2)
    · rw [h4]
      exact Or.inr ⟨if_neg (by omega), e1⟩
  · rcases findE_s (zW l) w (zN l) with ⟨e', h2, h3, h4⟩ | ⟨h2, h4⟩
    · exact absurd h3 (hno e' h2)
    · have ep := plOf_one (placeW_s ok.2 w (zN l) (Nat.le_refl _)) hp
      rw [h4, ep]
      exact Or.inl ⟨_, ln', wd', if_pos h30, ⟨ok.1, ok.2.ins h30 hp hno hw h1 hg⟩, rfl, e1, e2⟩
theorem x_relay {l : LexT} {st ln : Nat → Int32} {wd : Nat → Int64} {n : Int32} (h : HLex l st ln wd n) (ps pb rm : Int32) (bp bl ep fi la bg fd hl nh : Nat → Int32) :
    ∃ (pg' ps' s' pb' lop' rm' : Int32) (bp' bl' ep' fi' la' bg' fd' hl' nh' : Nat → Int32),
      f_X5_layPages ps pb rm bp bl ep fi la bg fd hl nh n st ln wd = some (pg', ps', s', pb', lop', rm', bp', bl', ep', fi', la', bg', fd', hl', nh') ∧ XNow l pg' ps' s' lop' bp' bl' ep' fi' la' bg' fd' hl' n st ln wd := by
  obtain ⟨ok, rfl, hs, he⟩ := id h
  obtain ⟨pg', ps', s', pb', lop', rm', bp', bl', ep', fi', la', bg', fd', hl', nh', e1, e2⟩ := x_lay ok.1.1 ok.1.2.1.2 ok.1.2.2 ok.2 he ps pb rm bp bl ep fi la bg fd hl nh
  refine ⟨pg', ps', s', pb', lop', rm', bp', bl', ep', fi', la', bg', fd', hl', nh', ?_, h, e2⟩
  unfold f_X5_layPages
  rw [hs 0 (by omega), hs 1 (by omega), hs 2 (by omega), bd_eq e1]
/-! ===== what each call answers and does ===== -/
def okV (i v : Int32) : Bool := decide ((i.toInt = 0 ∧ 6 ≤ v.toInt ∧ v.toInt ≤ 40) ∨ (i.toInt = 1 ∧ 4 ≤ v.toInt ∧ v.toInt ≤ 30) ∨ (i.toInt = 2 ∧ 1 ≤ v.toInt ∧ v.toInt ≤ 3))
def setL (l : LexT) (i v : Int32) : LexT := (put1 i.toInt.toNat v.toInt.toNat (zS l), zN l, zG l, zW l)
def inE (l : LexT) (i : Int32) : Bool := decide (0 ≤ i.toInt ∧ i.toInt < (zN l : Int))
def withL (M : ObjT) (l : LexT) : ObjT := (l, oP M, rec6 (oH M) (oL M), oA M, oB M)
def withP (M : ObjT) (q : List Nat) : ObjT := (oL M, q, oH M, oA M, oB M)
def aSet (M : ObjT) (i v : Int32) : Int32 × ObjT := if okV i v then (nI (zS (oL M) i.toInt.toNat), withL M (setL (oL M) i v)) else (-2, M)
noncomputable def aIfSet (M : ObjT) (i v : Int32) : Int32 := if okV i v then nI (tP (yT (setL (oL M) i v))) else -2
def chgL (l : LexT) (e g : Nat) : LexT := (zS l, zN l, put1 e g (zG l), zW l)
def delL (l : LexT) (e : Nat) : LexT := (zS l, zN l - 1, dl e (zG l), dl e (zW l))
def aChange (M : ObjT) (i v : Int32) : Int32 × ObjT := if inE (oL M) i then (if 1 ≤ v.toInt ∧ v.toInt ≤ 40 then (nI (zG (oL M) i.toInt.toNat), withL M (chgL (oL M) i.toInt.toNat v.toInt.toNat)) else (-2, M)) else (-1, M)
def aDrop (M : ObjT) (i : Int32) : Int32 × ObjT := if inE (oL M) i then (nI (zG (oL M) i.toInt.toNat), withL M (delL (oL M) i.toInt.toNat)) else (-1, M)
def aJoin (M : ObjT) (i : Int32) : Int32 × ObjT := if 0 ≤ i.toInt ∧ i.toInt + 1 < (zN (oL M) : Int) then (if zG (oL M) i.toInt.toNat + zG (oL M) (i.toInt.toNat + 1) ≤ 40 then (nI (zG (oL M) i.toInt.toNat + zG (oL M) (i.toInt.toNat + 1)), withL M (delL (chgL (oL M) i.toInt.toNat (zG (oL M) i.toInt.toNat + zG (oL M) (i.toInt.toNat + 1))) (i.toInt.toNat + 1))) else (-4, M)) else (-1, M)
def renL (l : LexT) (e : Nat) (w : List Nat) : LexT := (zS l, zN l - 1 + 1, ins (placeW (dl e (zW l)) w (zN l - 1)) (zG l e) (dl e (zG l)), ins (placeW (dl e (zW l)) w (zN l - 1)) w (dl e (zW l)))
noncomputable def aRename (M : ObjT) (i : Int32) : Int32 × ObjT := if inE (oL M) i then @ite _ (isW (oP M)) (Classical.propDecidable _) (match findE (zW (oL M)) (wOf (oP M)) (zN (oL M)) with
    | some e => if e = i.toInt.toNat then (nI (placeW (dl i.toInt.toNat (zW (oL M))) (wOf (oP M)) (zN (oL M) - 1)), withP (withL M (renL (oL M) i.toInt.toNat (wOf (oP M)))) []) else (-5, M)
    | none => (nI (placeW (dl i.toInt.toNat (zW (oL M))) (wOf (oP M)) (zN (oL M) - 1)), withP (withL M (renL (oL M) i.toInt.toNat (wOf (oP M)))) [])) (-3, M) else (-1, M)
noncomputable def aFind (M : ObjT) : Int32 := @ite _ (isW (oP M)) (Classical.propDecidable _) (match findE (zW (oL M)) (wOf (oP M)) (zN (oL M)) with
    | some e => nI e
    | none => -6) (-3)
def isEnt (q : List Nat) (wg : List Nat × Nat) : Prop := wOK wg.1 ∧ 1 ≤ wg.1.length ∧ (1 ≤ wg.2 ∧ wg.2 ≤ 40) ∧ q = encE wg.1 wg.2
noncomputable def aRead (M : ObjT) : Option (Int32 × ObjT) := if oP M = [] then some (-3, M) else
  @dite _ (∃ wg, isEnt (oP M) wg) (Classical.propDecidable _) (fun h => some (match tellL (oL M) (Classical.choose h).1 (Classical.choose h).2 with
    | some l => (nI (zN l), withP (withL M l) [])
    | none => (-4, M))) (fun _ => none)
def aPut (M : ObjT) (j : Int64) : Option (Int32 × ObjT) :=
  if 33 ≤ j.toBitVec.toNat ∧ j.toBitVec.toNat ≤ 126 ∧ (oP M).length < 60 then some (nI ((oP M).length + 1), withP M (oP M ++ [j.toBitVec.toNat]))
  else if j.toBitVec.toNat = 6371893 ∧ (oP M).length + 3 ≤ 60 then some (nI ((oP M).length + 3), withP M (oP M ++ [97, 58, 53])) else none
def aWipe (M : ObjT) : Int32 × ObjT := (nI (oP M).length, withP M [])
def aUndo (M : ObjT) : Int32 × ObjT := match (oH M).getLast? with
  | none => (-5, M)
  | some l => (nI ((oH M).length - 1), (l, oP M, (oH M).dropLast, oA M, oB M))
def aSave (M : ObjT) (i : Int32) : Int32 × ObjT := if i = 0 then (nI (zN (oL M)), (oL M, oP M, oH M, some (oL M), oB M)) else if i = 1 then (nI (zN (oL M)), (oL M, oP M, oH M, oA M, some (oL M))) else (-2, M)
def fromS (M : ObjT) (o : Option LexT) : Int32 × ObjT := match o with
  | none => (-5, M)
  | some l => (nI (zN l), withL M l)
def aRestore (M : ObjT) (i : Int32) : Int32 × ObjT := if i = 0 then fromS M (oA M) else if i = 1 then fromS M (oB M) else (-2, M)
noncomputable def aEntry (M : ObjT) (i w : Int32) : Int32 := aEntryL (oL M) i w
noncomputable def aPage (M : ObjT) (i w : Int32) : Int32 := aPageL (oL M) i w
noncomputable def aCount (M : ObjT) (i : Int32) : Int32 := aCountL (oL M) (oP M).length (oH M).length i
noncomputable def aLookFor (M : ObjT) : Option Int32 := @ite _ (isW (oP M)) (Classical.propDecidable _) none (some (-3))
noncomputable def aFold (M : ObjT) (i _j : Int32) : Option Int32 := if i.toInt < 0 ∨ (((tP (yT (oL M)) + 1) / 2 : Nat) : Int) ≤ i.toInt then some (-1) else none
def aLeastLines (_M : ObjT) (i : Int32) : Option Int32 := if i.toInt < 1 ∨ 200 < i.toInt then some (-2) else none
def aBestLines (_M : ObjT) (i : Int32) : Option Int32 := if i.toInt = 0 ∨ i.toInt = 1 then none else some (-2)
/-- what an object may be -/
def OKM (M : ObjT) : Prop := OKL (oL M) ∧ OKQ (oP M) ∧ (oH M).length ≤ 6 ∧ (∀ l ∈ oH M, OKL l) ∧ (∀ l, oA M = some l → OKL l) ∧ (∀ l, oB M = some l → OKL l)
