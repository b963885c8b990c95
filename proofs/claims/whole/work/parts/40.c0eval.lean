/-! ===== PURE: what a clause is worth ===== -/
def zI (z : Int) : Int32 := Int32.ofInt z
def wI (z : Int) : Int64 := Int64.ofInt z
theorem zI_iN {n : Nat} : zI (n : Int) = iN n := Int32.ofInt_eq_ofNat
theorem wlit {z : Int} : Int64.ofInt z = wI z := rfl
theorem wl0 : (0 : Int64) = wI 0 := rfl
theorem wl1 : (1 : Int64) = wI 1 := rfl
theorem zI_toInt {z : Int} (h1 : -2147483648 ≤ z) (h2 : z < 2147483648) : (zI z).toInt = z := Int32.toInt_ofInt_of_le h1 h2
theorem wI_toInt {z : Int} (h1 : -9223372036854775808 ≤ z) (h2 : z < 9223372036854775808) : (wI z).toInt = z := Int64.toInt_ofInt_of_le h1 h2
theorem zI_w {z : Int} (h1 : -2147483648 ≤ z) (h2 : z < 2147483648) : (zI z).toInt64 = wI z := by
  apply Int64.toInt_inj.mp
  rw [Int32.toInt_toInt64, zI_toInt h1 h2, wI_toInt (by omega) (by omega)]
theorem wI_z {z : Int} : (wI z).toInt32 = zI z := Int64.toInt32_ofInt
theorem wI_add {a b : Int} : wI a + wI b = wI (a + b) := (Int64.ofInt_add a b).symm
theorem wI_sub {a b : Int} : wI a - wI b = wI (a - b) := (Int64.ofInt_sub a b).symm
theorem wI_mul {a b : Int} : wI a * wI b = wI (a * b) := (Int64.ofInt_mul a b).symm
theorem wI_neg {a : Int} : -wI a = wI (-a) := (Int64.ofInt_neg a).symm
theorem zI_neg {a : Int} : -zI a = zI (-a) := (Int32.ofInt_neg a).symm
theorem wI_div {a b : Int} (h1 : -9223372036854775808 ≤ a) (h2 : a < 9223372036854775808) (h3 : -9223372036854775808 ≤ b) (h4 : b < 9223372036854775808) : wI a / wI b = wI (a.tdiv b) :=
  (Int64.ofInt_tdiv (show Int64.minValue.toInt ≤ a from h1) (show a ≤ Int64.maxValue.toInt from by show a ≤ 9223372036854775807; omega) (show Int64.minValue.toInt ≤ b from h3) (show b ≤ Int64.maxValue.toInt from by show b ≤ 9223372036854775807; omega)).symm
theorem wI_inj {a b : Int} (h1 : -9223372036854775808 ≤ a) (h2 : a < 9223372036854775808) (h3 : -9223372036854775808 ≤ b) (h4 : b < 9223372036854775808) : (wI a = wI b) = (a = b) := by
  apply propext
  constructor
  · intro h
    have := congrArg Int64.toInt h
    rwa [wI_toInt h1 h2, wI_toInt h3 h4] at this
  · intro h; rw [h]
theorem zI_inj {a b : Int} (h1 : -2147483648 ≤ a) (h2 : a < 2147483648) (h3 : -2147483648 ≤ b) (h4 : b < 2147483648) : (zI a = zI b) = (a = b) := by
  apply propext
  constructor
  · intro h
    have := congrArg Int32.toInt h
    rwa [zI_toInt h1 h2, zI_toInt h3 h4] at this
  · intro h; rw [h]
theorem zI_lt {a b : Int} (h1 : -2147483648 ≤ a) (h2 : a < 2147483648) (h3 : -2147483648 ≤ b) (h4 : b < 2147483648) : (zI a < zI b) = (a < b) := by
  rw [Int32.lt_iff_toInt_lt, zI_toInt h1 h2, zI_toInt h3 h4]
theorem lg_def {a b : Int} (h1 : -9223372036854775808 ≤ a) (h2 : a < 9223372036854775808) (h3 : -9223372036854775808 ≤ b) (h4 : b < 9223372036854775808) : lg_cmp (wI a) (wI b) = if b < a then iN 1 else if a = b then iN 0 else mI := by
  unfold lg_cmp
  have e1 : (wI a > wI b) = (b < a) := by
    show (wI b < wI a) = _
    rw [Int64.lt_iff_toInt_lt, wI_toInt h1 h2, wI_toInt h3 h4]
  simp only [e1, wI_inj h1 h2 h3 h4]; rfl
theorem lg_lt {a b : Int} (h1 : -9223372036854775808 ≤ a) (h2 : a < 9223372036854775808) (h3 : -9223372036854775808 ≤ b) (h4 : b < 9223372036854775808) : (lg_cmp (wI a) (wI b) < iN 0) = (a < b) := by
  rw [lg_def h1 h2 h3 h4]
  by_cases q : b < a
  · rw [if_pos q]
    exact propext ⟨fun h => absurd h (by decide), fun h => by omega⟩
  · rw [if_neg q]
    by_cases r : a = b
    · rw [if_pos r]
      exact propext ⟨fun h => absurd h (by decide), fun h => by omega⟩
    · rw [if_neg r]
      exact propext ⟨fun _ => by omega, fun _ => by decide⟩
theorem lg_gt {a b : Int} (h1 : -9223372036854775808 ≤ a) (h2 : a < 9223372036854775808) (h3 : -9223372036854775808 ≤ b) (h4 : b < 9223372036854775808) : (iN 0 < lg_cmp (wI a) (wI b)) = (b < a) := by
  rw [lg_def h1 h2 h3 h4]
  by_cases q : b < a
  · rw [if_pos q]
    exact propext ⟨fun h => q, fun h => by decide⟩
  · rw [if_neg q]
    by_cases r : a = b
    · rw [if_pos r]
      exact propext ⟨fun h => absurd h (by decide), fun h => by omega⟩
    · rw [if_neg r]
      exact propext ⟨fun h => absurd h (by decide), fun h => by omega⟩
theorem lg_eq {a b : Int} (h1 : -9223372036854775808 ≤ a) (h2 : a < 9223372036854775808) (h3 : -9223372036854775808 ≤ b) (h4 : b < 9223372036854775808) : (lg_cmp (wI a) (wI b) = iN 0) = (a = b) := by
  rw [lg_def h1 h2 h3 h4]
  by_cases q : b < a
  · rw [if_pos q]
    exact propext ⟨fun h => absurd h (by decide), fun h => by omega⟩
  · rw [if_neg q]
    by_cases r : a = b
    · rw [if_pos r]
      exact propext ⟨fun h => r, fun h => rfl⟩
    · rw [if_neg r]
      exact propext ⟨fun h => absurd h (by decide), fun h => absurd h r⟩
/-- held within a million -/
def clp (z : Int) : Int := if 1000000 < z then 1000000 else if z < -1000000 then -1000000 else z
theorem clp_le (z : Int) : -1000000 ≤ clp z ∧ clp z ≤ 1000000 := by unfold clp; omega
theorem clp_id {z : Int} (h1 : -1000000 ≤ z) (h2 : z ≤ 1000000) : clp z = z := by unfold clp; omega
def b01 (b : Bool) : Int32 := if b then iN 1 else iN 0
def binI (o : Nat) (x y : Int) : Int := if o = 3 then clp (x + y) else if o = 4 then clp (x - y) else if o = 5 then clp (x * y) else if o = 6 then (if y = 0 then 0 else x.tdiv y) else (if y = 0 then 0 else x - x.tdiv y * y)
def cmpI (o : Nat) (x y : Int) : Bool := if o = 10 then decide (x < y) else if o = 11 then decide (x ≤ y) else if o = 12 then decide (y < x) else if o = 13 then decide (y ≤ x) else if o = 14 then decide (x = y) else decide (x ≠ y)
/-- one sign of a clause's code: (0, n) a number, (1, v) a name, 2 minus, 3-7 two values, 10-15 asked, 20 not, 21 and, 22 or -/
def evS (env : Nat → Int) (o : Nat × Nat) (ts : List Bool) (vs : List Int) : List Bool × List Int :=
  if o.1 = 0 then (ts, (o.2 : Int) :: vs)
  else if o.1 = 1 then (ts, env o.2 :: vs)
  else if o.1 = 2 then match vs with
    | x :: r => (ts, -x :: r)
    | [] => (ts, vs)
  else if o.1 < 10 then match vs with
    | y :: x :: r => (ts, binI o.1 x y :: r)
    | _ => (ts, vs)
  else if o.1 < 20 then match vs with
    | y :: x :: r => (cmpI o.1 x y :: ts, r)
    | _ => (ts, vs)
  else if o.1 = 20 then match ts with
    | b :: r => ((!b) :: r, vs)
    | [] => (ts, vs)
  else if o.1 = 21 then match ts with
    | b :: a :: r => ((a && b) :: r, vs)
    | _ => (ts, vs)
  else match ts with
    | b :: a :: r => ((a || b) :: r, vs)
    | _ => (ts, vs)
def evR (env : Nat → Int) : List (Nat × Nat) → List Bool → List Int → List Bool × List Int
  | [], ts, vs => (ts, vs)
  | o :: r, ts, vs => evR env r (evS env o ts vs).1 (evS env o ts vs).2
/-- how many truths and values there are behind a sign; none: it can't be -/
def tyS (al : Nat → Bool) (o : Nat × Nat) (t v : Nat) : Option (Nat × Nat) :=
  if o.1 = 0 then (if o.2 ≤ 9999 ∧ t + v < 60 then some (t, v + 1) else none)
  else if o.1 = 1 then (if (o.2 < 8 ∧ al o.2 = true) ∧ t + v < 60 then some (t, v + 1) else none)
  else if o.1 = 2 then (if 1 ≤ v then some (t, v) else none)
  else if o.1 < 8 then (if 2 ≤ v then some (t, v - 1) else none)
  else if o.1 < 10 then none
  else if o.1 < 16 then (if v = 2 then some (t + 1, 0) else none)
  else if o.1 = 20 then (if 1 ≤ t ∧ v = 0 then some (t, v) else none)
  else if o.1 = 21 ∨ o.1 = 22 then (if 2 ≤ t ∧ v = 0 then some (t - 1, v) else none)
  else none
def tyR (al : Nat → Bool) : List (Nat × Nat) → Nat → Nat → Option (Nat × Nat)
  | [], t, v => some (t, v)
  | o :: r, t, v => (tyS al o t v).bind fun q => tyR al r q.1 q.2
def bdd (l : List Int) : Prop := ∀ x ∈ l, -1000000 ≤ x ∧ x ≤ 1000000
theorem tdiv_b {x y : Int} (h1 : -1000000 ≤ x) (h2 : x ≤ 1000000) : -1000000 ≤ x.tdiv y ∧ x.tdiv y ≤ 1000000 := by
  have h := Int.natAbs_tdiv_le_natAbs x y
  omega
theorem tmod_b {x y : Int} (h1 : -1000000 ≤ x) (h2 : x ≤ 1000000) : -1000000 ≤ x - x.tdiv y * y ∧ x - x.tdiv y * y ≤ 1000000 := by
  have e : x - x.tdiv y * y = x.tmod y := by
    have := Int.tmod_def x y
    rw [this, Int.mul_comm]
  rw [e]
  have h : (x.tmod y).natAbs ≤ x.natAbs := by rw [Int.natAbs_tmod]; exact Nat.mod_le _ _
  omega
theorem binI_b {o : Nat} {x y : Int} (h1 : -1000000 ≤ x) (h2 : x ≤ 1000000) : -1000000 ≤ binI o x y ∧ binI o x y ≤ 1000000 := by
  unfold binI
  have a := clp_le (x + y)
  have b := clp_le (x - y)
  have c := clp_le (x * y)
  have d := tdiv_b (y := y) h1 h2
  have e := tmod_b (y := y) h1 h2
  split
  · exact a
  · split
    · exact b
    · split
      · exact c
      · split
        · split
          · omega
          · exact d
        · split
          · omega
          · exact e
/-- the reference's values: the top one last -/
def agV (f : Nat → Int64) : List Int → Prop
  | [] => True
  | x :: r => f r.length = wI x ∧ agV f r
def agB (f : Nat → Int32) : List Bool → Prop
  | [] => True
  | x :: r => f r.length = b01 x ∧ agB f r
/-- the class's values, behind b truths -/
def agI (f : Nat → Int32) (b : Nat) : List Int → Prop
  | [] => True
  | x :: r => f (b + r.length) = zI x ∧ agI f b r
theorem updL_same {f : Nat → Int64} {k : Nat} {x : Int64} : vp_updL f k x k = x := by unfold vp_updL; rw [if_pos rfl]
theorem updL_ne {f : Nat → Int64} {k j : Nat} {x : Int64} (h : j ≠ k) : vp_updL f k x j = f j := by unfold vp_updL; rw [if_neg h]
theorem agV.upd {f : Nat → Int64} {k : Nat} {x : Int64} : ∀ {l : List Int}, l.length ≤ k → agV f l → agV (vp_updL f k x) l
  | [], _, _ => trivial
  | y :: r, h, hf => by
    rw [List.length_cons] at h
    exact ⟨by rw [updL_ne (by omega)]; exact hf.1, agV.upd (by omega) hf.2⟩
theorem agB.upd {f : Nat → Int32} {k : Nat} {x : Int32} : ∀ {l : List Bool}, l.length ≤ k → agB f l → agB (upd f k x) l
  | [], _, _ => trivial
  | y :: r, h, hf => by
    rw [List.length_cons] at h
    exact ⟨by rw [upd_ne (by omega)]; exact hf.1, agB.upd (by omega) hf.2⟩
theorem agI.upd {f : Nat → Int32} {b k : Nat} {x : Int32} : ∀ {l : List Int}, b + l.length ≤ k → agI f b l → agI (upd f k x) b l
  | [], _, _ => trivial
  | y :: r, h, hf => by
    rw [List.length_cons] at h
    exact ⟨by rw [upd_ne (by omega)]; exact hf.1, agI.upd (by omega) hf.2⟩
