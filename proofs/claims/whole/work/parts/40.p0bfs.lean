/-! ===== PURE: fewest: states gone through ===== -/
abbrev Sr : Type := List Tn × (Nat → Nat) × (Nat → Nat)
/-- goes on; else (false: spent, true: found) -/
abbrev Oc : Type := Sr ⊕ (Bool × Sr)
noncomputable def inB (t : Tn) (l : List Tn) : Bool := @decide (t ∈ l) (Classical.propDecidable _)
theorem inB_t {t : Tn} {l : List Tn} (h : t ∈ l) : inB t l = true := @decide_eq_true _ (Classical.propDecidable _) h
theorem inB_f {t : Tn} {l : List Tn} (h : t ∉ l) : inB t l = false := @decide_eq_false _ (Classical.propDecidable _) h
def adS (s : Sr) (t : Tn) (k v : Nat) : Sr := (s.1 ++ [t], setF s.2.1 s.1.length k, setF s.2.2 s.1.length v)
def okW (x : Cx) (set w g : Nat) : Bool := set.testBit w && decide (g < x.2.1) && !(x.2.2.2.1 g)
noncomputable def go1 (x : Cx) (W : Nat → Option Nat) (set k : Nat) (u : Tn) (s : Sr) (w g : Nat) : Oc := if okW x set w g = true then
    (match goS x u w g with
    | none => .inl s
    | some q => if inB q.2 s.1 = true then .inl s else if s.1.length = 3000 then .inr (false, s) else if asW W q.2 = true then .inr (true, adS s q.2 k (10 * w + g)) else .inl (adS s q.2 k (10 * w + g)))
  else .inl s
noncomputable def wyS (x : Cx) (W : Nat → Option Nat) (set k : Nat) (u : Tn) : List (Nat × Nat) → Sr → Oc
  | [], s => .inl s
  | q :: l, s => match go1 x W set k u s q.1 q.2 with
    | .inl s' => wyS x W set k u l s'
    | .inr z => .inr z
section
variable {x : Cx} {W : Nat → Option Nat} {set k : Nat} {u : Tn}
theorem wy_cons {q : Nat × Nat} {l : List (Nat × Nat)} {s : Sr} : wyS x W set k u (q :: l) s = (match go1 x W set k u s q.1 q.2 with
    | .inl s' => wyS x W set k u l s'
    | .inr z => .inr z) := rfl
theorem wy_app : ∀ (l m : List (Nat × Nat)) (s : Sr), wyS x W set k u (l ++ m) s = (match wyS x W set k u l s with
    | .inl s' => wyS x W set k u m s'
    | .inr z => .inr z)
  | [], m, s => rfl
  | q :: l, m, s => by
    rw [List.cons_append, wy_cons, wy_cons]
    cases go1 x W set k u s q.1 q.2 with
    | inl s' => exact wy_app l m s'
    | inr z => rfl
theorem wy_skip : ∀ (l : List (Nat × Nat)) (s : Sr), (∀ q ∈ l, okW x set q.1 q.2 = false) → wyS x W set k u l s = .inl s
  | [], s, _ => rfl
  | q :: l, s, h => by
    have h1 := h q List.mem_cons_self
    rw [wy_cons]
    have e : go1 x W set k u s q.1 q.2 = .inl s := by unfold go1; rw [if_neg (by rw [h1]; decide)]
    rw [e]
    exact wy_skip l s (fun p hp => h p (List.mem_cons_of_mem _ hp))
theorem wy_flat {A B : Nat → List (Nat × Nat)} (h : ∀ w s, wyS x W set k u (A w) s = wyS x W set k u (B w) s) : ∀ (l : List Nat) (s : Sr), wyS x W set k u (l.flatMap A) s = wyS x W set k u (l.flatMap B) s
  | [], s => rfl
  | w :: l, s => by
    rw [List.flatMap_cons, List.flatMap_cons, wy_app, wy_app, h w s]
    cases wyS x W set k u (B w) s with
    | inl s' => exact wy_flat h l s'
    | inr z => rfl
/-- all goings, in their order -/
def wsG (P G : Nat) : List (Nat × Nat) := (List.range P).flatMap (fun w => (List.range G).map (fun g => (w, g)))
theorem range_cut {a b : Nat} (h : a ≤ b) : List.range b = List.range a ++ (List.range (b - a)).map (a + ·) := by
  have := List.range_add (n := a) (m := b - a)
  rwa [show a + (b - a) = b by omega] at this
theorem wy_all (hx : CxOK x) (hs : ∀ w, set.testBit w = true → w < x.1) (s : Sr) : wyS x W set k u (wsG 8 3) s = wyS x W set k u (wsG x.1 x.2.1) s := by
  have hP := hx.1
  have hG := hx.2.1
  have e1 : wyS x W set k u (wsG 8 3) s = wyS x W set k u (wsG 8 x.2.1) s := by
    refine wy_flat (fun w s => ?_) _ s
    rw [range_cut hG, List.map_append, wy_app]
    cases wyS x W set k u ((List.range x.2.1).map (fun g => (w, g))) s with
    | inr z => rfl
    | inl s' =>
      refine wy_skip _ s' (fun q hq => ?_)
      obtain ⟨g, hg, rfl⟩ := List.mem_map.mp hq
      obtain ⟨j, hj, rfl⟩ := List.mem_map.mp hg
      unfold okW
      rw [decide_eq_false (show ¬ (x.2.1 + j < x.2.1) by omega), Bool.and_false, Bool.false_and]
  rw [e1]
  unfold wsG
  rw [range_cut hP, List.flatMap_append, wy_app]
  cases wyS x W set k u ((List.range x.1).flatMap (fun w => (List.range x.2.1).map (fun g => (w, g)))) s with
  | inr z => rfl
  | inl s' =>
    refine wy_skip _ s' (fun q hq => ?_)
    obtain ⟨w, hw, hq⟩ := List.mem_flatMap.mp hq
    obtain ⟨g, hg, rfl⟩ := List.mem_map.mp hq
    obtain ⟨j, hj, rfl⟩ := List.mem_map.mp hw
    unfold okW
    have : set.testBit (x.1 + j) = false := by
      cases q : set.testBit (x.1 + j) with
      | false => rfl
      | true => have := hs _ q; omega
    rw [this, Bool.false_and, Bool.false_and]
end
theorem ws_24 : wsG 8 3 = (List.range 24).map (fun j => (j / 3, j % 3)) := by decide
noncomputable def bfS (x : Cx) (W : Nat → Option Nat) (set : Nat) : Nat → Nat → Sr → Oc
  | 0, _, s => .inl s
  | f + 1, k, s => if k < s.1.length then
      (match wyS x W set k (s.1.getD k t00) (wsG x.1 x.2.1) s with
      | .inl s' => bfS x W set f (k + 1) s'
      | .inr z => .inr z)
    else .inl s
/-- well-made: what all of it keeps -/
def SOK (s : Sr) : Prop := s.1.length ≤ 3000 ∧ (∀ t ∈ s.1, TW t) ∧ ∀ i, 0 < i → i < s.1.length → s.2.1 i < i ∧ s.2.2 i < 100
def OcOK (s : Sr) (o : Oc) : Prop := match o with
  | .inl s' => SOK s' ∧ s.1.length ≤ s'.1.length ∧ ∀ i, i < s.1.length → s'.1[i]? = s.1[i]?
  | .inr (b, s') => SOK s' ∧ (b = true → 0 < s'.1.length)
theorem SOK.ad {s : Sr} (h : SOK s) {t : Tn} (ht : TW t) (hl : s.1.length < 3000) {k v : Nat} (hk : k < s.1.length) (hv : v < 100) : SOK (adS s t k v) := by
  obtain ⟨h1, h2, h3⟩ := h
  have hlen : (adS s t k v).1.length = s.1.length + 1 := by show (s.1 ++ [t]).length = _; rw [List.length_append]; rfl
  refine ⟨by omega, fun u hu => ?_, fun i hi hi2 => ?_⟩
  · rcases List.mem_append.mp (show u ∈ s.1 ++ [t] from hu) with q | q
    · exact h2 u q
    · rw [List.mem_singleton.mp q]; exact ht
  · show setF s.2.1 s.1.length k i < i ∧ setF s.2.2 s.1.length v i < 100
    by_cases c : i = s.1.length
    · rw [c, setF_same, setF_same]; exact ⟨hk, hv⟩
    · rw [setF_ne c, setF_ne c]; exact h3 i hi (by omega)
theorem ad_get {s : Sr} {t : Tn} {k v i : Nat} (hi : i < s.1.length) : (adS s t k v).1[i]? = s.1[i]? := List.getElem?_append_left hi
theorem ad_len {s : Sr} {t : Tn} {k v : Nat} : (adS s t k v).1.length = s.1.length + 1 := by show (s.1 ++ [t]).length = _; rw [List.length_append]; rfl
section
variable {x : Cx} {W : Nat → Option Nat} {set k : Nat} {u : Tn}
theorem go1_ok (hx : CxOK x) {s : Sr} (hs : SOK s) (hk : k < s.1.length) (hu : TW u) {w g : Nat} (hw : w < 8) (hg : g < 3) : OcOK s (go1 x W set k u s w g) := by
  have triv : OcOK s (.inl s) := ⟨hs, Nat.le_refl _, fun _ _ => rfl⟩
  unfold go1
  by_cases c : okW x set w g = true
  · rw [if_pos c]
    cases q : goS x u w g with
    | none => exact triv
    | some p =>
      dsimp only
      by_cases c2 : inB p.2 s.1 = true
      · rw [if_pos c2]; exact triv
      · rw [if_neg c2]
        by_cases c3 : s.1.length = 3000
        · rw [if_pos c3]; exact ⟨hs, fun z => by cases z⟩
        · rw [if_neg c3]
          have ht : TW p.2 := by have := goS_TW (x := x) hu hw hg; rw [q] at this; exact this
          have h1 := hs.1
          have ha : SOK (adS s p.2 k (10 * w + g)) := hs.ad ht (by omega) hk (by omega)
          by_cases c4 : asW W p.2 = true
          · rw [if_pos c4]; exact ⟨ha, fun _ => by rw [ad_len]; omega⟩
          · rw [if_neg c4]; exact ⟨ha, by rw [ad_len]; omega, fun i hi => ad_get hi⟩
  · rw [if_neg c]; exact triv
theorem wy_ok (hx : CxOK x) (hu : TW u) : ∀ (l : List (Nat × Nat)) (s : Sr), (∀ q ∈ l, q.1 < 8 ∧ q.2 < 3) → SOK s → k < s.1.length → OcOK s (wyS x W set k u l s)
  | [], s, _, hs, _ => ⟨hs, Nat.le_refl _, fun _ _ => rfl⟩
  | q :: l, s, hl, hs, hk => by
    have h1 := hl q List.mem_cons_self
    have h2 := go1_ok (W := W) (set := set) hx hs hk hu h1.1 h1.2
    rw [wy_cons]
    cases e : go1 x W set k u s q.1 q.2 with
    | inr z => rw [e] at h2; exact h2
    | inl s' =>
      rw [e] at h2
      obtain ⟨a1, a2, a3⟩ := h2
      have h3 := wy_ok hx hu l s' (fun p hp => hl p (List.mem_cons_of_mem _ hp)) a1 (by omega)
      show OcOK s (wyS x W set k u l s')
      cases e2 : wyS x W set k u l s' with
      | inr z => rw [e2] at h3; exact h3
      | inl s2 =>
        rw [e2] at h3
        obtain ⟨b1, b2, b3⟩ := h3
        exact ⟨b1, by omega, fun i hi => (b3 i (by omega)).trans (a3 i hi)⟩
end
theorem ws_mem {P G : Nat} {q : Nat × Nat} (h : q ∈ wsG P G) : q.1 < P ∧ q.2 < G := by
  obtain ⟨w, hw, hq⟩ := List.mem_flatMap.mp h
  obtain ⟨g, hg, rfl⟩ := List.mem_map.mp hq
  exact ⟨List.mem_range.mp hw, List.mem_range.mp hg⟩
