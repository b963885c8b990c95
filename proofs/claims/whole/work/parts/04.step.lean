/-! ===== one step of straight code ===== -/
abbrev ix (i : Int32) : Nat := i.toNatClampNeg
abbrev inb (i : Int32) (n : Nat) : Prop := ¬ i < 0 ∧ i.toNatClampNeg < n
theorem inb_vp {i : Int32} {n : Nat} (h : inb i n) : vp_in i n := fun q => q.elim h.1 (fun q => Nat.not_lt.mpr q h.2)
abbrev bz (v : Int32) : Prop := v = 0 ∨ v = 1
abbrev ENT : Type := Instr × (Nat × Nat × Nat) × Int
abbrev SS : Type := Nat × List (Option Value) × List Value × List va_E
def st2i (f : Int32 → Int32 → Value) : List Value → Option (List Value)
  | .int y :: .int x :: r => some (f x y :: r)
  | _ => none
def st1i (f : Int32 → Value) : List Value → Option (List Value)
  | .int x :: r => some (f x :: r)
  | _ => none
def st2l (f : Int64 → Int64 → Value) : List Value → Option (List Value)
  | .long y :: .long x :: r => some (f x y :: r)
  | _ => none
def st1l (f : Int64 → Value) : List Value → Option (List Value)
  | .long x :: r => some (f x :: r)
  | _ => none
def stli (f : Int64 → Int32 → Value) : List Value → Option (List Value)
  | .int y :: .long x :: r => some (f x y :: r)
  | _ => none
theorem st2i_eq {f : Int32 → Int32 → Value} {s t : List Value} (h : st2i f s = some t) : ∃ x y r, s = .int y :: .int x :: r ∧ t = f x y :: r := by
  unfold st2i at h; split at h
  · exact ⟨_, _, _, rfl, (Option.some.inj h).symm⟩
  · cases h
theorem st1i_eq {f : Int32 → Value} {s t : List Value} (h : st1i f s = some t) : ∃ x r, s = .int x :: r ∧ t = f x :: r := by
  unfold st1i at h; split at h
  · exact ⟨_, _, rfl, (Option.some.inj h).symm⟩
  · cases h
theorem st2l_eq {f : Int64 → Int64 → Value} {s t : List Value} (h : st2l f s = some t) : ∃ x y r, s = .long y :: .long x :: r ∧ t = f x y :: r := by
  unfold st2l at h; split at h
  · exact ⟨_, _, _, rfl, (Option.some.inj h).symm⟩
  · cases h
theorem st1l_eq {f : Int64 → Value} {s t : List Value} (h : st1l f s = some t) : ∃ x r, s = .long x :: r ∧ t = f x :: r := by
  unfold st1l at h; split at h
  · exact ⟨_, _, rfl, (Option.some.inj h).symm⟩
  · cases h
theorem stli_eq {f : Int64 → Int32 → Value} {s t : List Value} (h : stli f s = some t) : ∃ x y r, s = .int y :: .long x :: r ∧ t = f x y :: r := by
  unfold stli at h; split at h
  · exact ⟨_, _, _, rfl, (Option.some.inj h).symm⟩
  · cases h
/-- behind a pure operation on the stack -/
def nx (n : Nat) (s : SS) (o : Option (List Value)) : Option (Option Prop × SS) := match o with
  | some t => some (none, s.1 + n, s.2.1, t, s.2.2.2)
  | none => none
theorem nx_eq {n : Nat} {s : SS} {o : Option (List Value)} {g : Option Prop} {s' : SS} (h : nx n s o = some (g, s')) : ∃ t, o = some t ∧ g = none ∧ s' = (s.1 + n, s.2.1, t, s.2.2.2) := by
  unfold nx at h; split at h
  · cases h; exact ⟨_, rfl, rfl, rfl⟩
  · cases h
def ldI (ls : List (Option Value)) (i : Nat) (st : List Value) : Option (List Value) := match ls[i]? with
  | some (some (.int v)) => some (.int v :: st)
  | _ => none
def ldJ (ls : List (Option Value)) (i : Nat) (st : List Value) : Option (List Value) := match ls[i]? with
  | some (some (.long v)) => some (.long v :: st)
  | _ => none
def ldA (ls : List (Option Value)) (i : Nat) (st : List Value) : Option (List Value) := match ls[i]? with
  | some (some (.ref v)) => some (.ref v :: st)
  | _ => none
theorem ldI_eq {ls : List (Option Value)} {i : Nat} {st t : List Value} (h : ldI ls i st = some t) : ∃ v, ls[i]? = some (some (.int v)) ∧ t = .int v :: st := by
  unfold ldI at h; split at h
  · rename_i v e; exact ⟨v, e, (Option.some.inj h).symm⟩
  · cases h
theorem ldJ_eq {ls : List (Option Value)} {i : Nat} {st t : List Value} (h : ldJ ls i st = some t) : ∃ v, ls[i]? = some (some (.long v)) ∧ t = .long v :: st := by
  unfold ldJ at h; split at h
  · rename_i v e; exact ⟨v, e, (Option.some.inj h).symm⟩
  · cases h
theorem ldA_eq {ls : List (Option Value)} {i : Nat} {st t : List Value} (h : ldA ls i st = some t) : ∃ v, ls[i]? = some (some (.ref v)) ∧ t = .ref v :: st := by
  unfold ldA at h; split at h
  · rename_i v e; exact ⟨v, e, (Option.some.inj h).symm⟩
  · cases h
/-- stores: the place must be one of the method's (checked against nL) -/
def stI (nL n : Nat) (s : SS) (i : Nat) : Option (Option Prop × SS) := match s.2.2.1 with
  | .int v :: r => if i < nL then some (none, s.1 + n, sto1 s.2.1 i (.int v), r, s.2.2.2) else none
  | _ => none
def stJ (nL n : Nat) (s : SS) (i : Nat) : Option (Option Prop × SS) := match s.2.2.1 with
  | .long v :: r => if i + 1 < nL then some (none, s.1 + n, sto2 s.2.1 i (.long v), r, s.2.2.2) else none
  | _ => none
def stA (nL n : Nat) (s : SS) (i : Nat) : Option (Option Prop × SS) := match s.2.2.1 with
  | .ref v :: r => if i < nL then some (none, s.1 + n, sto1 s.2.1 i (.ref v), r, s.2.2.2) else none
  | _ => none
theorem stI_eq {nL n : Nat} {s s' : SS} {i : Nat} {g : Option Prop} (h : stI nL n s i = some (g, s')) : ∃ v r, s.2.2.1 = .int v :: r ∧ i < nL ∧ g = none ∧ s' = (s.1 + n, sto1 s.2.1 i (.int v), r, s.2.2.2) := by
  unfold stI at h; split at h
  · rename_i v r e
    split at h
    · rename_i hi; cases h; exact ⟨v, r, e, hi, rfl, rfl⟩
    · cases h
  · cases h
theorem stJ_eq {nL n : Nat} {s s' : SS} {i : Nat} {g : Option Prop} (h : stJ nL n s i = some (g, s')) : ∃ v r, s.2.2.1 = .long v :: r ∧ i + 1 < nL ∧ g = none ∧ s' = (s.1 + n, sto2 s.2.1 i (.long v), r, s.2.2.2) := by
  unfold stJ at h; split at h
  · rename_i v r e
    split at h
    · rename_i hi; cases h; exact ⟨v, r, e, hi, rfl, rfl⟩
    · cases h
  · cases h
theorem stA_eq {nL n : Nat} {s s' : SS} {i : Nat} {g : Option Prop} (h : stA nL n s i = some (g, s')) : ∃ v r, s.2.2.1 = .ref v :: r ∧ i < nL ∧ g = none ∧ s' = (s.1 + n, sto1 s.2.1 i (.ref v), r, s.2.2.2) := by
  unfold stA at h; split at h
  · rename_i v r e
    split at h
    · rename_i hi; cases h; exact ⟨v, r, e, hi, rfl, rfl⟩
    · cases h
  · cases h
def incI (nL : Nat) (s : SS) (i : Nat) (n : Int) : Option (Option Prop × SS) := match s.2.1[i]? with
  | some (some (.int v)) => if i < nL then some (none, s.1 + 3, sto1 s.2.1 i (.int (v + Int32.ofInt n)), s.2.2.1, s.2.2.2) else none
  | _ => none
theorem incI_eq {nL : Nat} {s s' : SS} {i : Nat} {n : Int} {g : Option Prop} (h : incI nL s i n = some (g, s')) : ∃ v, s.2.1[i]? = some (some (.int v)) ∧ i < nL ∧ g = none ∧ s' = (s.1 + 3, sto1 s.2.1 i (.int (v + Int32.ofInt n)), s.2.2.1, s.2.2.2) := by
  unfold incI at h; split at h
  · rename_i v e
    split at h
    · rename_i hi; cases h; exact ⟨v, e, hi, rfl, rfl⟩
    · cases h
  · cases h
/-- division: a guard -/
def gdI (s : SS) (f : Int32 → Int32 → Int32) : Option (Option Prop × SS) := match s.2.2.1 with
  | .int y :: .int x :: r => some (some (¬ y = 0), s.1 + 1, s.2.1, .int (f x y) :: r, s.2.2.2)
  | _ => none
def gdJ (s : SS) (f : Int64 → Int64 → Int64) : Option (Option Prop × SS) := match s.2.2.1 with
  | .long y :: .long x :: r => some (some (¬ y = 0), s.1 + 1, s.2.1, .long (f x y) :: r, s.2.2.2)
  | _ => none
theorem gdI_eq {s s' : SS} {f : Int32 → Int32 → Int32} {g : Option Prop} (h : gdI s f = some (g, s')) : ∃ x y r, s.2.2.1 = .int y :: .int x :: r ∧ g = some (¬ y = 0) ∧ s' = (s.1 + 1, s.2.1, .int (f x y) :: r, s.2.2.2) := by
  unfold gdI at h; split at h
  · rename_i y x r e; cases h; exact ⟨x, y, r, e, rfl, rfl⟩
  · cases h
theorem gdJ_eq {s s' : SS} {f : Int64 → Int64 → Int64} {g : Option Prop} (h : gdJ s f = some (g, s')) : ∃ x y r, s.2.2.1 = .long y :: .long x :: r ∧ g = some (¬ y = 0) ∧ s' = (s.1 + 1, s.2.1, .long (f x y) :: r, s.2.2.2) := by
  unfold gdJ at h; split at h
  · rename_i y x r e; cases h; exact ⟨x, y, r, e, rfl, rfl⟩
  · cases h
/-- fields -/
def getF (s : SS) (ci k : Nat) : Option (Option Prop × SS) := match s.2.2.1 with
  | .ref q :: r => match s.2.2.2[q]? with
    | some (.inr (c, fs)) => match decide (c = ci), fs[k]? with
      | true, some v => some (none, s.1 + 3, s.2.1, v :: r, s.2.2.2)
      | _, _ => none
    | _ => none
  | _ => none
theorem getF_eq {s s' : SS} {ci k : Nat} {g : Option Prop} (h : getF s ci k = some (g, s')) : ∃ q r fs v, s.2.2.1 = .ref q :: r ∧ s.2.2.2[q]? = some (.inr (ci, fs)) ∧ fs[k]? = some v ∧ g = none ∧ s' = (s.1 + 3, s.2.1, v :: r, s.2.2.2) := by
  unfold getF at h; split at h
  · rename_i q r e
    split at h
    · rename_i c fs e2
      split at h
      · rename_i v e3 e4
        cases h
        have e3 := of_decide_eq_true e3
        subst e3
        exact ⟨q, r, fs, v, e, e2, e4, rfl, rfl⟩
      · cases h
    · cases h
  · cases h
/-- what a value must be for a field of a type: ints and longs; of a boolean 0 or 1 -/
def fitG : FieldType → Value → Option (Option Prop)
  | .int, .int _ => some none
  | .long, .long _ => some none
  | .boolean, .int v => some (some (bz v))
  | _, _ => none
def putF (s : SS) (ci k : Nat) (ty : FieldType) : Option (Option Prop × SS) := match s.2.2.1 with
  | v :: .ref q :: r => match s.2.2.2[q]?, fitG ty v with
    | some (.inr (c, fs)), some g => match decide (c = ci), decide (k < fs.length) with
      | true, true => some (g, s.1 + 3, s.2.1, r, s.2.2.2.set q (.inr (c, fs.set k v)))
      | _, _ => none
    | _, _ => none
  | _ => none
theorem putF_eq {s s' : SS} {ci k : Nat} {ty : FieldType} {g : Option Prop} (h : putF s ci k ty = some (g, s')) : ∃ v q r fs, s.2.2.1 = v :: .ref q :: r ∧ s.2.2.2[q]? = some (.inr (ci, fs)) ∧ k < fs.length ∧ fitG ty v = some g ∧ s' = (s.1 + 3, s.2.1, r, s.2.2.2.set q (.inr (ci, fs.set k v))) := by
  unfold putF at h; split at h
  · rename_i v q r e
    split at h
    · rename_i c fs g' e2 e5
      split at h
      · rename_i e3 e4
        cases h
        have e3 := of_decide_eq_true e3
        subst e3
        exact ⟨v, q, r, fs, e, e2, of_decide_eq_true e4, e5, rfl⟩
      · cases h
    · cases h
  · cases h
/-- arrays of ints (kind 0) and booleans (kind 2) -/
def aldI (s : SS) (kd : Nat) : Option (Option Prop × SS) := match s.2.2.1 with
  | .int i :: .ref q :: r => match s.2.2.2[q]? with
    | some (.inl (k, n, .inl f)) => match decide (k = kd) with
      | true => some (some (inb i n), s.1 + 1, s.2.1, .int (f (ix i)) :: r, s.2.2.2)
      | false => none
    | _ => none
  | _ => none
theorem aldI_eq {s s' : SS} {kd : Nat} {g : Option Prop} (h : aldI s kd = some (g, s')) : ∃ i q r n f, s.2.2.1 = .int i :: .ref q :: r ∧ s.2.2.2[q]? = some (.inl (kd, n, .inl f)) ∧ g = some (inb i n) ∧ s' = (s.1 + 1, s.2.1, .int (f (ix i)) :: r, s.2.2.2) := by
  unfold aldI at h; split at h
  · rename_i i q r e
    split at h
    · rename_i k n f e2
      split at h
      · rename_i e3
        cases h
        have e3 := of_decide_eq_true e3
        subst e3
        exact ⟨i, q, r, n, f, e, e2, rfl, rfl⟩
      · cases h
    · cases h
  · cases h
def astI (s : SS) (kd : Nat) (nr : Int32 → Int32) : Option (Option Prop × SS) := match s.2.2.1 with
  | .int x :: .int i :: .ref q :: r => match s.2.2.2[q]? with
    | some (.inl (k, n, .inl f)) => match decide (k = kd) with
      | true => some (some (inb i n), s.1 + 1, s.2.1, r, s.2.2.2.set q (.inl (k, n, .inl (upd f (ix i) (nr x)))))
      | false => none
    | _ => none
  | _ => none
theorem astI_eq {s s' : SS} {kd : Nat} {nr : Int32 → Int32} {g : Option Prop} (h : astI s kd nr = some (g, s')) : ∃ x i q r n f, s.2.2.1 = .int x :: .int i :: .ref q :: r ∧ s.2.2.2[q]? = some (.inl (kd, n, .inl f)) ∧ g = some (inb i n) ∧ s' = (s.1 + 1, s.2.1, r, s.2.2.2.set q (.inl (kd, n, .inl (upd f (ix i) (nr x))))) := by
  unfold astI at h; split at h
  · rename_i x i q r e
    split at h
    · rename_i k n f e2
      split at h
      · rename_i e3
        cases h
        have e3 := of_decide_eq_true e3
        subst e3
        exact ⟨x, i, q, r, n, f, e, e2, rfl, rfl⟩
      · cases h
    · cases h
  · cases h
def aldJ (s : SS) : Option (Option Prop × SS) := match s.2.2.1 with
  | .int i :: .ref q :: r => match s.2.2.2[q]? with
    | some (.inl (k, n, .inr (.inl f))) => match decide (k = 1) with
      | true => some (some (inb i n), s.1 + 1, s.2.1, .long (f (ix i)) :: r, s.2.2.2)
      | false => none
    | _ => none
  | _ => none
theorem aldJ_eq {s s' : SS} {g : Option Prop} (h : aldJ s = some (g, s')) : ∃ i q r n f, s.2.2.1 = .int i :: .ref q :: r ∧ s.2.2.2[q]? = some (.inl (1, n, .inr (.inl f))) ∧ g = some (inb i n) ∧ s' = (s.1 + 1, s.2.1, .long (f (ix i)) :: r, s.2.2.2) := by
  unfold aldJ at h; split at h
  · rename_i i q r e
    split at h
    · rename_i k n f e2
      split at h
      · rename_i e3
        cases h
        have e3 := of_decide_eq_true e3
        subst e3
        exact ⟨i, q, r, n, f, e, e2, rfl, rfl⟩
      · cases h
    · cases h
  · cases h
def astJ (s : SS) : Option (Option Prop × SS) := match s.2.2.1 with
  | .long x :: .int i :: .ref q :: r => match s.2.2.2[q]? with
    | some (.inl (k, n, .inr (.inl f))) => match decide (k = 1) with
      | true => some (some (inb i n), s.1 + 1, s.2.1, r, s.2.2.2.set q (.inl (k, n, .inr (.inl (vp_updL f (ix i) x)))))
      | false => none
    | _ => none
  | _ => none
theorem astJ_eq {s s' : SS} {g : Option Prop} (h : astJ s = some (g, s')) : ∃ x i q r n f, s.2.2.1 = .long x :: .int i :: .ref q :: r ∧ s.2.2.2[q]? = some (.inl (1, n, .inr (.inl f))) ∧ g = some (inb i n) ∧ s' = (s.1 + 1, s.2.1, r, s.2.2.2.set q (.inl (1, n, .inr (.inl (vp_updL f (ix i) x))))) := by
  unfold astJ at h; split at h
  · rename_i x i q r e
    split at h
    · rename_i k n f e2
      split at h
      · rename_i e3
        cases h
        have e3 := of_decide_eq_true e3
        subst e3
        exact ⟨x, i, q, r, n, f, e, e2, rfl, rfl⟩
      · cases h
    · cases h
  · cases h
def alnA (s : SS) : Option (Option Prop × SS) := match s.2.2.1 with
  | .ref q :: r => match s.2.2.2[q]? with
    | some (.inl (k, n, _)) => match decide (k < 3) with
      | true => some (none, s.1 + 1, s.2.1, .int (Int32.ofNat n) :: r, s.2.2.2)
      | false => none
    | some (.inr (c, fs)) => match decide (c = 103 ∨ c = 104) with
      | true => some (none, s.1 + 1, s.2.1, .int (Int32.ofNat fs.length) :: r, s.2.2.2)
      | false => none
    | _ => none
  | _ => none
theorem alnA_eq {s s' : SS} {g : Option Prop} (h : alnA s = some (g, s')) : ∃ q r e n, s.2.2.1 = .ref q :: r ∧ s.2.2.2[q]? = some e ∧ ((∃ k a, e = .inl (k, n, a) ∧ k < 3) ∨ (∃ c fs, e = .inr (c, fs) ∧ (c = 103 ∨ c = 104) ∧ n = fs.length)) ∧ g = none ∧ s' = (s.1 + 1, s.2.1, .int (Int32.ofNat n) :: r, s.2.2.2) := by
  unfold alnA at h; split at h
  · rename_i q r e
    split at h
    · rename_i k n a e2
      split at h
      · rename_i e3
        cases h
        exact ⟨q, r, _, n, e, e2, Or.inl ⟨k, a, rfl, of_decide_eq_true e3⟩, rfl, rfl⟩
      · cases h
    · rename_i c fs e2
      split at h
      · rename_i e3
        cases h
        exact ⟨q, r, _, _, e, e2, Or.inr ⟨c, fs, rfl, of_decide_eq_true e3, rfl⟩, rfl, rfl⟩
      · cases h
    · cases h
  · cases h
def dup1 : List Value → Option (List Value)
  | .int v :: r => some (.int v :: .int v :: r)
  | .ref v :: r => some (.ref v :: .ref v :: r)
  | _ => none
theorem dup1_eq {s t : List Value} (h : dup1 s = some t) : ∃ v r, s = v :: r ∧ t = v :: v :: r ∧ v.category = 1 := by
  unfold dup1 at h; split at h
  · exact ⟨_, _, rfl, (Option.some.inj h).symm, rfl⟩
  · exact ⟨_, _, rfl, (Option.some.inj h).symm, rfl⟩
  · cases h
def dup2s : List Value → Option (List Value)
  | .int v :: .int w :: r => some (.int v :: .int w :: .int v :: .int w :: r)
  | .int v :: .ref w :: r => some (.int v :: .ref w :: .int v :: .ref w :: r)
  | _ => none
theorem dup2s_eq {s t : List Value} (h : dup2s s = some t) : ∃ v w r, s = v :: w :: r ∧ t = v :: w :: v :: w :: r ∧ v.category = 1 ∧ w.category = 1 := by
  unfold dup2s at h; split at h
  · exact ⟨_, _, _, rfl, (Option.some.inj h).symm, rfl, rfl⟩
  · exact ⟨_, _, _, rfl, (Option.some.inj h).symm, rfl, rfl⟩
  · cases h
def pop1 : List Value → Option (List Value)
  | .int _ :: r => some r
  | .ref _ :: r => some r
  | _ => none
theorem pop1_eq {s t : List Value} (h : pop1 s = some t) : ∃ v r, s = v :: r ∧ t = r ∧ v.category = 1 := by
  unfold pop1 at h; split at h
  · exact ⟨_, _, rfl, (Option.some.inj h).symm, rfl⟩
  · exact ⟨_, _, rfl, (Option.some.inj h).symm, rfl⟩
  · cases h
def gotoS (s : SS) (off : Int) (tgt : Nat) : Option (Option Prop × SS) := match decide ((s.1 : Int) + off = (tgt : Int)) with
  | true => some (none, tgt, s.2.1, s.2.2.1, s.2.2.2)
  | false => none
theorem gotoS_eq {s s' : SS} {off : Int} {tgt : Nat} {g : Option Prop} (h : gotoS s off tgt = some (g, s')) : (s.1 : Int) + off = (tgt : Int) ∧ g = none ∧ s' = (tgt, s.2.1, s.2.2.1, s.2.2.2) := by
  unfold gotoS at h; split at h
  · rename_i e; cases h; exact ⟨of_decide_eq_true e, rfl, rfl⟩
  · cases h
/-- one instruction; aux: a field's class, its number, its word's place; a jump's aim; a constant -/
def pin (nL : Nat) (e : ENT) (s : SS) : Option (Option Prop × SS) := match e.1 with
  | .iconst n => nx 1 s (some (.int (Int32.ofInt n) :: s.2.2.1))
  | .bipush n => nx 2 s (some (.int ((Int8.ofInt n).toInt32) :: s.2.2.1))
  | .sipush n => nx 3 s (some (.int ((Int16.ofInt n).toInt32) :: s.2.2.1))
  | .ldc _ => nx 2 s (some (.int (Int32.ofInt e.2.2) :: s.2.2.1))
  | .ldc2_w _ => nx 3 s (some (.long (Int64.ofInt e.2.2) :: s.2.2.1))
  | .lconst n => nx 1 s (some (.long (Int64.ofNat n) :: s.2.2.1))
  | .iload_n k => nx 1 s (ldI s.2.1 k s.2.2.1)
  | .iload k => nx 2 s (ldI s.2.1 k s.2.2.1)
  | .lload_n k => nx 1 s (ldJ s.2.1 k s.2.2.1)
  | .lload k => nx 2 s (ldJ s.2.1 k s.2.2.1)
  | .aload_n k => nx 1 s (ldA s.2.1 k s.2.2.1)
  | .aload k => nx 2 s (ldA s.2.1 k s.2.2.1)
  | .istore_n k => stI nL 1 s k
  | .istore k => stI nL 2 s k
  | .lstore_n k => stJ nL 1 s k
  | .lstore k => stJ nL 2 s k
  | .astore_n k => stA nL 1 s k
  | .astore k => stA nL 2 s k
  | .iinc i n => incI nL s i n
  | .dup => nx 1 s (dup1 s.2.2.1)
  | .dup2 => nx 1 s (dup2s s.2.2.1)
  | .pop => nx 1 s (pop1 s.2.2.1)
  | .iadd => nx 1 s (st2i (fun x y => .int (x + y)) s.2.2.1)
  | .isub => nx 1 s (st2i (fun x y => .int (x - y)) s.2.2.1)
  | .imul => nx 1 s (st2i (fun x y => .int (x * y)) s.2.2.1)
  | .iand => nx 1 s (st2i (fun x y => .int (x &&& y)) s.2.2.1)
  | .ior => nx 1 s (st2i (fun x y => .int (x ||| y)) s.2.2.1)
  | .ixor => nx 1 s (st2i (fun x y => .int (x ^^^ y)) s.2.2.1)
  | .ishl => nx 1 s (st2i (fun x y => .int (x <<< (y &&& 31))) s.2.2.1)
  | .ishr => nx 1 s (st2i (fun x y => .int (x >>> (y &&& 31))) s.2.2.1)
  | .iushr => nx 1 s (st2i (fun x y => .int ((x.toUInt32 >>> (y.toUInt32 &&& Int32.toUInt32 31)).toInt32)) s.2.2.1)
  | .ineg => nx 1 s (st1i (fun x => .int (-x)) s.2.2.1)
  | .idiv => gdI s (fun x y => x / y)
  | .irem => gdI s (fun x y => x - x / y * y)
  | .ladd => nx 1 s (st2l (fun x y => .long (x + y)) s.2.2.1)
  | .lsub => nx 1 s (st2l (fun x y => .long (x - y)) s.2.2.1)
  | .lmul => nx 1 s (st2l (fun x y => .long (x * y)) s.2.2.1)
  | .land => nx 1 s (st2l (fun x y => .long (x &&& y)) s.2.2.1)
  | .lor => nx 1 s (st2l (fun x y => .long (x ||| y)) s.2.2.1)
  | .lcmp => nx 1 s (st2l (fun x y => .int (lg_cmp x y)) s.2.2.1)
  | .lneg => nx 1 s (st1l (fun x => .long (-x)) s.2.2.1)
  | .ldiv => gdJ s (fun x y => x / y)
  | .lrem => gdJ s (fun x y => x - x / y * y)
  | .lshl => nx 1 s (stli (fun x y => .long (x <<< (y.toInt64 &&& 63))) s.2.2.1)
  | .lushr => nx 1 s (stli (fun x y => .long ((x.toUInt64 >>> (y.toInt64.toUInt64 &&& Int64.toUInt64 63)).toInt64)) s.2.2.1)
  | .i2l => nx 1 s (st1i (fun x => .long x.toInt64) s.2.2.1)
  | .l2i => nx 1 s (st1l (fun x => .int x.toInt32) s.2.2.1)
  | .i2c => nx 1 s (st1i (fun x => .int ((x.toUInt32 % 65536).toInt32)) s.2.2.1)
  | .goto off => gotoS s off e.2.1.1
  | .getfield _ => getF s e.2.1.1 e.2.1.2.1
  | .putfield _ => match vwCl[e.2.1.1]? with
    | some c => match parseFieldDescriptor (c.2.1 e.2.1.2.1).2.2.1 with
      | some ty => putF s e.2.1.1 e.2.1.2.1 ty
      | none => none
    | none => none
  | .iaload => aldI s 0
  | .baload => aldI s 2
  | .laload => aldJ s
  | .iastore => astI s 0 (fun x => x)
  | .bastore => astI s 2 (vp_nar .boolean)
  | .lastore => astJ s
  | .arraylength => alnA s
  | _ => none
def iln : Instr → Nat
  | .bipush _ => 2 | .sipush _ => 3 | .ldc _ => 2 | .ldc2_w _ => 3
  | .iload _ => 2 | .lload _ => 2 | .aload _ => 2 | .istore _ => 2 | .lstore _ => 2 | .astore _ => 2
  | .iinc _ _ => 3 | .goto _ => 3 | .getfield _ => 3 | .putfield _ => 3
  | .ifCond _ _ => 3 | .if_icmp _ _ => 3 | .ifnull _ => 3 | .ifnonnull _ => 3
  | .invokevirtual _ => 3 | .invokestatic _ => 3 | .invokespecial _ => 3
  | _ => 1
/-- the words that an instruction needs; a field of a nest mate: the constant is 1 -/
def lnkF (own : String) (i : Nat) (e : ENT) (c : vw_C) : Bool := decide (e.2.1.2.1 < c.2.2) && (bif decide (e.2.2 = 1) then nwOK e.2.1.2.2 (.fieldLinkNest own i (c.2.1 e.2.1.2.1).1 (c.2.1 e.2.1.2.1).2.1 (c.2.1 e.2.1.2.1).2.2.1 "LastName") else wdOK e.2.1.2.2 (.fieldLink own i (c.2.1 e.2.1.2.1).1 (c.2.1 e.2.1.2.1).2.1 (c.2.1 e.2.1.2.1).2.2.1))
def lnk (own : String) (e : ENT) : Bool := match e.1 with
  | .getfield i => match vwCl[e.2.1.1]? with
    | some c => lnkF own i e c
    | none => false
  | .putfield i => match vwCl[e.2.1.1]? with
    | some c => !(c.2.1 e.2.1.2.1).2.2.2 && lnkF own i e c
    | none => false
  | .ldc i => wdOK e.2.1.2.2 (.constant own i (Int32.ofInt e.2.2))
  | .ldc2_w i => wdOK e.2.1.2.2 (.constantLong own i (Int64.ofInt e.2.2))
  | _ => true
def chk (own : String) (cc : ByteArray) (pc : Nat) (e : ENT) : Bool := decide (decode cc pc = .ok (e.1, iln e.1)) && lnk own e
theorem chk_eq {own : String} {cc : ByteArray} {pc : Nat} {e : ENT} (h : chk own cc pc e = true) : decode cc pc = .ok (e.1, iln e.1) ∧ lnk own e = true := by
  unfold chk at h
  rw [Bool.and_eq_true, decide_eq_true_eq] at h
  exact h
