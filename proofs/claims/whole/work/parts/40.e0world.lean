/-! ===== PURE: the whole state, as both hold it ===== -/
/-- (people, gates, hour, texts, ruling, X), (born, lot, paid, done), the town, deeds (name, coins, doer), the row (who, gate), the book (none: lost; in, name, gate) -/
abbrev Wd : Type := (Nat × Nat × Nat × Nat × Option Nat × Nat) × ((Nat → Bool) × (Nat → Bool) × (Nat → Int32) × (Nat → Int32)) × Tn × List (Nat × Nat × Nat) × List (Nat × Nat) × List (Option (Bool × Nat × Nat))
def CB (pe ga hr tx rl xx : Int32) (s : Wd) : Prop := pe = iN s.1.1 ∧ ga = iN s.1.2.1 ∧ hr = iN s.1.2.2.1 ∧ tx = iN s.1.2.2.2.1 ∧ rl = enO s.1.2.2.2.2.1 ∧ xx = iN s.1.2.2.2.2.2
def CA (bo lo pa dn : Nat → Int32) (s : Wd) : Prop := (∀ i, i < 8 → bo i = b01 (s.2.1.1 i)) ∧ (∀ g, g < 3 → lo g = b01 (s.2.1.2.1 g)) ∧ (∀ i, i < 8 → pa i = s.2.1.2.2.1 i) ∧ ∀ i, i < 8 → dn i = s.2.1.2.2.2 i
def CD (n : Int32) (f : Nat → Int32) (l : List (Nat × Nat × Nat)) : Prop := n = iN l.length ∧ ∀ (k : Nat) (q : Nat × Nat × Nat), l[k]? = some q → f (k * 3) = iN q.1 ∧ f (k * 3 + 1) = iN q.2.1 ∧ f (k * 3 + 2) = iN q.2.2
def CR (n : Int32) (f : Nat → Int32) (l : List (Nat × Nat)) : Prop := n = iN l.length ∧ ∀ (k : Nat) (q : Nat × Nat), l[k]? = some q → f (k * 3) = iN q.1 ∧ f (k * 3 + 1) = iN q.2
def CK (n : Int32) (f : Nat → Int32) (l : List (Option (Bool × Nat × Nat))) : Prop := n = iN l.length ∧ (∀ k, l[k]? = some none → f (k * 3 + 1) = mI) ∧ ∀ (k : Nat) (q : Bool × Nat × Nat), l[k]? = some (some q) → f (k * 3) = b01 q.1 ∧ f (k * 3 + 1) = iN q.2.1 ∧ f (k * 3 + 2) = iN q.2.2
def CW (pe ga hr tx rl xx : Int32) (bo lo pa dn nm sz : Nat → Int32) (hp : Nat → Nat → Int32) (dz : Int32) (dc : Nat → Int32) (rz : Int32) (rc : Nat → Int32) (kz : Int32) (kc : Nat → Int32) (s : Wd) : Prop := CB pe ga hr tx rl xx s ∧ CA bo lo pa dn s ∧ CT nm sz hp s.2.2.1 ∧ CD dz dc s.2.2.2.1 ∧ CR rz rc s.2.2.2.2.1 ∧ CK kz kc s.2.2.2.2.2
/-- the reference's row a -/
def MA (a : Nat → Int32) (s : Wd) : Prop := (a 0 = iN s.1.1 ∧ a 1 = iN s.1.2.1 ∧ a 2 = iN s.1.2.2.1 ∧ a 3 = iN s.1.2.2.2.1 ∧ a 4 = enO s.1.2.2.2.2.1 ∧ a 8 = iN s.1.2.2.2.2.2) ∧ ((∀ i, i < 8 → a (10 + 3 * i) = b01 (s.2.1.1 i)) ∧ (∀ g, g < 3 → a (36 + g) = b01 (s.2.1.2.1 g)) ∧ (∀ i, i < 8 → a (10 + 3 * i + 1) = s.2.1.2.2.1 i) ∧ ∀ i, i < 8 → a (10 + 3 * i + 2) = s.2.1.2.2.2 i) ∧
  (a 5 = iN s.2.2.2.1.length ∧ ∀ (k : Nat) (q : Nat × Nat × Nat), s.2.2.2.1[k]? = some q → a (40 + 3 * k) = iN q.1 ∧ a (40 + 3 * k + 1) = iN q.2.1 ∧ a (40 + 3 * k + 2) = iN q.2.2) ∧
  (a 6 = iN s.2.2.2.2.1.length ∧ ∀ (k : Nat) (q : Nat × Nat), s.2.2.2.2.1[k]? = some q → a (100 + 2 * k) = iN q.1 ∧ a (100 + 2 * k + 1) = iN q.2) ∧
  (a 7 = iN s.2.2.2.2.2.length ∧ (∀ k, s.2.2.2.2.2[k]? = some none → a (125 + 3 * k + 1) = mI) ∧ ∀ (k : Nat) (q : Bool × Nat × Nat), s.2.2.2.2.2[k]? = some (some q) → a (125 + 3 * k) = b01 q.1 ∧ a (125 + 3 * k + 1) = iN q.2.1 ∧ a (125 + 3 * k + 2) = iN q.2.2)
def WOK (s : Wd) : Prop := (s.1.1 ≤ 8 ∧ s.1.2.1 ≤ 3 ∧ s.1.2.2.1 < 24 ∧ s.1.2.2.2.1 ≤ 4 ∧ (∀ r, s.1.2.2.2.2.1 = some r → r < s.1.2.2.2.1) ∧ s.1.2.2.2.2.2 < 200000) ∧ (TW s.2.2.1 ∧ (∀ i n, s.2.2.1.1 i = some n → i < s.1.1 ∧ n < s.1.1) ∧ ∀ g n, n ∈ s.2.2.1.2 g → g < s.1.2.1 ∧ n < s.1.1) ∧
  (s.2.2.2.1.length ≤ 20 ∧ ∀ q ∈ s.2.2.2.1, q.1 < 8 ∧ q.2.1 < 1000 ∧ q.2.2 < 8) ∧ (s.2.2.2.2.1.length ≤ 12 ∧ ∀ q ∈ s.2.2.2.2.1, q.1 < s.1.1 ∧ q.2 < s.1.2.1) ∧ (s.2.2.2.2.2.length ≤ 6 ∧ ∀ q ∈ s.2.2.2.2.2, ∀ z, q = some z → z.2.1 < 8 ∧ z.2.2 < s.1.2.1)
/-- what goings see of it -/
def cxO (s : Wd) (laws : Nat → Lw) : Cx := (s.1.1, s.1.2.1, s.1.2.2.1, s.2.1.2.1, s.2.1.1, s.1.2.2.2.2.1.map laws)
theorem cxO_ok {s : Wd} {laws : Nat → Lw} (h : WOK s) : CxOK (cxO s laws) := ⟨h.1.1, h.1.2.1, h.1.2.2.1⟩
/-- the texts, as the class has them: eight rows a law -/
def CLs (cL sz tk fe : Nat → Int32) (cd kd fr to : Nat → Nat → Int32) (n : Nat) (laws : Nat → Lw) : Prop := ∀ T, T < n → CL (cL T) (sz T) (tk T) (fe T) (cd T) (kd T) (fr T) (to T) (laws T)
def MLs (texts : Nat → Int32) (n : Nat) (laws : Nat → Lw) : Prop := ∀ T, T < n → ML texts T (laws T) ∧ LW (laws T)
theorem MX.of {a texts : Nat → Int32} {s : Wd} {laws : Nat → Lw} (h : MA a s) (hok : WOK s) (hl : MLs texts s.1.2.2.2.1 laws) : MX a texts (cxO s laws) := by
  obtain ⟨⟨h1, h2, h3, h4, h5, h6⟩, ⟨h7, h8, h9, h10⟩, -⟩ := h
  refine ⟨h1, h2, h3, h8, h7, fun q => ?_, fun lw q => ?_⟩
  · cases hr : s.1.2.2.2.2.1 with
    | none => rw [hr] at h5; exact h5
    | some r =>
      have q' : s.1.2.2.2.2.1.map laws = none := q
      rw [hr] at q'; cases q'
  · have q' : s.1.2.2.2.2.1.map laws = some lw := q
    cases hr : s.1.2.2.2.2.1 with
    | none => rw [hr] at q'; cases q'
    | some r =>
      rw [hr] at q' h5
      have hlt := hok.1.2.2.2.2.1 r hr
      have h4' := hok.1.2.2.2.1
      have e : laws r = lw := Option.some.inj q'
      subst e
      exact ⟨r, by omega, h5, (hl r hlt).1, (hl r hlt).2⟩
/-- the number under which the law in force is told -/
def ruO (s : Wd) : Nat := s.1.2.2.2.2.1.getD 0
theorem CX.of {pe ga hr tx rl xx : Int32} {bo lo pa dn : Nat → Int32} {s : Wd} {laws : Nat → Lw} {texts cL sz tk fe : Nat → Int32} {cd kd fr to : Nat → Nat → Int32} (h : CB pe ga hr tx rl xx s) (ha : CA bo lo pa dn s) (hok : WOK s) (hc : CLs cL sz tk fe cd kd fr to s.1.2.2.2.1 laws) (hl : MLs texts s.1.2.2.2.1 laws) : CX pe ga hr rl lo bo (ruO s) (cL (ruO s)) (sz (ruO s)) (tk (ruO s)) (fe (ruO s)) (cd (ruO s)) (kd (ruO s)) (fr (ruO s)) (to (ruO s)) (cxO s laws) := by
  obtain ⟨h1, h2, h3, h4, h5, h6⟩ := h
  refine ⟨h1, h2, h3, ha.2.1, ha.1, fun q => ?_, fun lw q => ?_⟩
  · cases hr : s.1.2.2.2.2.1 with
    | none => rw [hr] at h5; exact h5
    | some r =>
      have q' : s.1.2.2.2.2.1.map laws = none := q
      rw [hr] at q'; cases q'
  · have q' : s.1.2.2.2.2.1.map laws = some lw := q
    cases hr : s.1.2.2.2.2.1 with
    | none => rw [hr] at q'; cases q'
    | some r =>
      rw [hr] at q' h5
      have hlt := hok.1.2.2.2.2.1 r hr
      have h4' := hok.1.2.2.2.1
      have e : laws r = lw := Option.some.inj q'
      subst e
      have er : ruO s = r := by unfold ruO; rw [hr]; rfl
      rw [er]
      exact ⟨h5, by omega, hc r hlt, (hl r hlt).2⟩
theorem MX.a {a a' texts : Nat → Int32} {x : Cx} (h : MX a texts x) (he : ∀ j, j < 5 ∨ (36 ≤ j ∧ j < 39) ∨ (∃ i, i < 8 ∧ j = 10 + 3 * i) → a' j = a j) : MX a' texts x := by
  obtain ⟨h1, h2, h3, h4, h5, h6, h7⟩ := h
  refine ⟨by rw [he 0 (by omega)]; exact h1, by rw [he 1 (by omega)]; exact h2, by rw [he 2 (by omega)]; exact h3, fun g hg => by rw [he _ (by omega)]; exact h4 g hg, fun i hi => by rw [he _ (Or.inr (Or.inr ⟨i, hi, rfl⟩))]; exact h5 i hi, fun q => by rw [he 4 (by omega)]; exact h6 q, fun lw q => ?_⟩
  obtain ⟨T, a1, a2, a3⟩ := h7 lw q
  exact ⟨T, a1, by rw [he 4 (by omega)]; exact a2, a3⟩
