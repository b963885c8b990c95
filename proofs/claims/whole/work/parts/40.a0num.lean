/-! ===== PURE: numbers ===== -/
def iN (n : Nat) : Int32 := Int32.ofNat n
def mI : Int32 := -1
theorem nlit (n : Nat) : (no_index (OfNat.ofNat n) : Int32) = iN n := rfl
theorem onl (n : Nat) : Int32.ofNat n = iN n := rfl
theorem iN_add {a b : Nat} : iN a + iN b = iN (a + b) := (Int32.ofNat_add a b).symm
theorem iN_mul {a b : Nat} : iN a * iN b = iN (a * b) := (Int32.ofNat_mul a b).symm
theorem negone : -(iN 1) = mI := rfl
theorem iN_sub {a b : Nat} (h : b ≤ a) : iN a - iN b = iN (a - b) := (Int32.ofNat_sub a b h).symm
theorem iN_ix {n : Nat} (h : n < 2147483648) : ix (iN n) = n := Int32.toNatClampNeg_ofNat_of_lt h
theorem iN_nneg {a : Nat} (h : a < 2147483648) : (iN a < iN 0) = False := by
  apply propext
  exact ⟨fun q => absurd ((Int32.ofNat_lt_iff_lt h (show 0 < 2 ^ 31 by decide)).mp q) (Nat.not_lt_zero a), False.elim⟩
theorem iN_lt {a b : Nat} (ha : a < 2147483648) (hb : b < 2147483648) : (iN a < iN b) = (a < b) := propext (Int32.ofNat_lt_iff_lt ha hb)
theorem iN_eq {a b : Nat} (ha : a < 2147483648) (hb : b < 2147483648) : (iN a = iN b) = (a = b) := by
  apply propext
  constructor
  · intro h
    have := congrArg ix h
    rwa [iN_ix ha, iN_ix hb] at this
  · intro h; rw [h]
theorem iN_inb {n m : Nat} (h : n < 2147483648) : inb (iN n) m = (n < m) := by
  apply propext
  constructor
  · intro q; have := q.2; rwa [show (iN n).toNatClampNeg = n from iN_ix h] at this
  · intro q
    refine ⟨?_, by rw [show (iN n).toNatClampNeg = n from iN_ix h]; exact q⟩
    have := iN_nneg h
    intro z
    rw [← this]; exact z
theorem mI_toInt : mI.toInt = -1 := rfl
theorem iN_toInt {n : Nat} (h : n < 2147483648) : (iN n).toInt = (n : Int) := Int32.toInt_ofNat_of_lt h
theorem iN_nm {n : Nat} (h : n < 2147483648) : (iN n = mI) = False := by
  apply propext
  refine ⟨fun q => ?_, False.elim⟩
  have := congrArg Int32.toInt q
  rw [iN_toInt h, mI_toInt] at this
  omega
theorem nm_iN {n : Nat} (h : n < 2147483648) : (mI = iN n) = False := by
  apply propext
  refine ⟨fun q => ?_, False.elim⟩
  have := congrArg Int32.toInt q
  rw [iN_toInt h, mI_toInt] at this
  omega
theorem mI_neg : (mI < iN 0) = True := by
  apply propext
  exact ⟨fun _ => trivial, fun _ => by decide⟩
theorem mI_nnn {n : Nat} (h : n < 2147483648) : (mI < iN n) = True := by
  apply propext
  refine ⟨fun _ => trivial, fun _ => ?_⟩
  rw [Int32.lt_iff_toInt_lt, iN_toInt h, mI_toInt]
  omega
theorem iN_pm {a : Nat} (h : 1 ≤ a) : iN a + mI = iN (a - 1) := by
  rw [← iN_sub h]
  exact Int32.add_neg_eq_sub
theorem iN_addneg {a b : Nat} (h : b ≤ a) : iN a + -(iN b) = iN (a - b) := by
  rw [← iN_sub h]
  exact Int32.add_neg_eq_sub
theorem ltT {a b : Nat} (h : a < b) : (a < b) = True := eq_true h
theorem ltF {a b : Nat} (h : ¬ a < b) : (a < b) = False := eq_false h
theorem eqT {a b : Nat} (h : a = b) : (a = b) = True := eq_true h
theorem eqF {a b : Nat} (h : ¬ a = b) : (a = b) = False := eq_false h
theorem leT {a b : Nat} (h : a ≤ b) : (a ≤ b) = True := eq_true h
theorem leF {a b : Nat} (h : ¬ a ≤ b) : (a ≤ b) = False := eq_false h
theorem ltTi {a b : Int} (h : a < b) : (a < b) = True := eq_true h
theorem ltFi {a b : Int} (h : ¬ a < b) : (a < b) = False := eq_false h
theorem eqTi {a b : Int} (h : a = b) : (a = b) = True := eq_true h
theorem eqFi {a b : Int} (h : ¬ a = b) : (a = b) = False := eq_false h
theorem leTi {a b : Int} (h : a ≤ b) : (a ≤ b) = True := eq_true h
theorem leFi {a b : Int} (h : ¬ a ≤ b) : (a ≤ b) = False := eq_false h
theorem kf_lt {n : Nat} (h : n < 4294967296) : n < KF := Nat.lt_of_lt_of_le h (by decide)
/-! ===== PURE: loops ===== -/
theorem itr_step {σ ε : Type} {f : σ → Option (σ ⊕ ε)} {n : Nat} {s s' : σ} (h : f s = some (.inl s')) : itr f (n + 1) s = itr f n s' := by
  rw [itr, h]; rfl
theorem itr_end {σ ε : Type} {f : σ → Option (σ ⊕ ε)} {n : Nat} {s : σ} {e : ε} (h : f s = some (.inr e)) : itr f (n + 1) s = some e := by
  rw [itr, h]; rfl
theorem itr_seq {σ ε : Type} {f : σ → Option (σ ⊕ ε)} (st : Nat → σ) {e : ε} : ∀ (N n : Nat), (∀ k, k < N → f (st k) = some (.inl (st (k + 1)))) → f (st N) = some (.inr e) → N < n → itr f n (st 0) = some e := by
  suffices h : ∀ (N n j : Nat), (∀ k, k < N → f (st (j + k)) = some (.inl (st (j + k + 1)))) → f (st (j + N)) = some (.inr e) → N < n → itr f n (st j) = some e by
    intro N n h1 h2 h3
    exact h N n 0 (fun k hk => by rw [Nat.zero_add]; exact h1 k hk) (by rw [Nat.zero_add]; exact h2) h3
  intro N
  induction N with
  | zero =>
    intro n j _ h2 h3
    obtain ⟨n, rfl⟩ : ∃ m, n = m + 1 := ⟨n - 1, by omega⟩
    exact itr_end h2
  | succ N ih =>
    intro n j h1 h2 h3
    obtain ⟨n, rfl⟩ : ∃ m, n = m + 1 := ⟨n - 1, by omega⟩
    have h10 : f (st j) = some (.inl (st (j + 1))) := h1 0 (by omega)
    rw [itr_step h10]
    refine ih n (j + 1) (fun k hk => ?_) ?_ (by omega)
    · have := h1 (k + 1) (by omega)
      rw [show j + 1 + k = j + (k + 1) by omega]
      exact this
    · rw [show j + 1 + N = j + (N + 1) by omega]; exact h2
/-- from s in at most k steps to s' -/
def stps {σ ε : Type} (f : σ → Option (σ ⊕ ε)) : Nat → σ → σ → Prop
  | 0, s, s' => s = s'
  | k + 1, s, s' => ∃ u, f s = some (.inl u) ∧ stps f k u s'
theorem stps_itr {σ ε : Type} {f : σ → Option (σ ⊕ ε)} : ∀ (k n : Nat) (s s' : σ), stps f k s s' → itr f (n + k) s = itr f n s'
  | 0, n, s, s', h => by rw [show s = s' from h]; rfl
  | k + 1, n, s, s', h => by
    obtain ⟨u, h1, h2⟩ := h
    rw [show n + (k + 1) = (n + k) + 1 from rfl, itr_step h1]
    exact stps_itr k n u s' h2
theorem stps_trans {σ ε : Type} {f : σ → Option (σ ⊕ ε)} : ∀ (k j : Nat) (s u v : σ), stps f k s u → stps f j u v → stps f (k + j) s v
  | 0, j, s, u, v, h1, h2 => by rw [show s = u from h1, Nat.zero_add]; exact h2
  | k + 1, j, s, u, v, h1, h2 => by
    obtain ⟨w, a, b⟩ := h1
    rw [show k + 1 + j = (k + j) + 1 by omega]
    exact ⟨w, a, stps_trans k j w u v b h2⟩
theorem stps_one {σ ε : Type} {f : σ → Option (σ ⊕ ε)} {s u : σ} (h : f s = some (.inl u)) : stps f 1 s u := ⟨u, h, rfl⟩
/-- a loop by a measure -/
theorem itr_rule {σ ε : Type} {f : σ → Option (σ ⊕ ε)} (P : σ → Nat → Prop) (Q : ε → Prop) (h : ∀ s m, P s m → (∃ e, f s = some (.inr e) ∧ Q e) ∨ (∃ s' m', m' < m ∧ f s = some (.inl s') ∧ P s' m')) : ∀ (n m : Nat) (s : σ), P s m → m < n → ∃ e, itr f n s = some e ∧ Q e
  | 0, m, s, _, hn => absurd hn (Nat.not_lt_zero m)
  | n + 1, m, s, hp, hn => by
    rcases h s m hp with ⟨e, h1, h2⟩ | ⟨s', m', h1, h2, h3⟩
    · exact ⟨e, itr_end h1, h2⟩
    · rw [itr_step h2]
      exact itr_rule P Q h n m' s' h3 (by omega)
/-! ===== PURE: arrays ===== -/
theorem upd_same {f : Nat → Int32} {k : Nat} {x : Int32} : upd f k x k = x := by unfold upd; rw [if_pos rfl]
theorem upd_ne {f : Nat → Int32} {k j : Nat} {x : Int32} (h : j ≠ k) : upd f k x j = f j := by unfold upd; rw [if_neg h]
theorem upd_eq {f : Nat → Int32} {k j : Nat} {x : Int32} (h : j = k) : upd f k x j = x := by unfold upd; rw [if_pos h]
theorem setR_same {H : Nat → Nat → Int32} {k : Nat} {f : Nat → Int32} : setR H k f k = f := by unfold setR; rw [if_pos rfl]
theorem setR_ne {H : Nat → Nat → Int32} {k j : Nat} {f : Nat → Int32} (h : j ≠ k) : setR H k f j = H j := by unfold setR; rw [if_neg h]
