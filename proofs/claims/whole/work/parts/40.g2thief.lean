/-! ===== PURE: thief ===== -/
/-- r is the least of V, none without any -/
def mnV (r : Option Nat) (V : Nat → Prop) : Prop := (∀ u, V u → ∃ v, r = some v ∧ v ≤ u) ∧ ∀ v, r = some v → V v
theorem mnV_uniq {r r' : Option Nat} {V : Nat → Prop} (h : mnV r V) (h' : mnV r' V) : r = r' := by
  cases r with
  | none =>
    cases r' with
    | none => rfl
    | some v =>
      obtain ⟨w, hw, -⟩ := h.1 v (h'.2 v rfl)
      cases hw
  | some v =>
    obtain ⟨w, hw, h1⟩ := h'.1 v (h.2 v rfl)
    obtain ⟨z, hz, h2⟩ := h.1 w (h'.2 w hw)
    cases hz
    rw [hw, Nat.le_antisymm h1 h2]
def omin : Option Nat → Option Nat → Option Nat
  | none, b => b
  | a, none => a
  | some a, some b => some (if b < a then b else a)
theorem mnV_or {r r' : Option Nat} {V V' : Nat → Prop} (h : mnV r V) (h' : mnV r' V') : mnV (omin r r') (fun u => V u ∨ V' u) := by
  cases r with
  | none =>
    refine ⟨fun u hu => ?_, fun v hv => Or.inr (h'.2 v hv)⟩
    rcases hu with hu | hu
    · obtain ⟨w, hw, -⟩ := h.1 u hu; cases hw
    · exact h'.1 u hu
  | some a =>
    cases r' with
    | none =>
      refine ⟨fun u hu => ?_, fun v hv => Or.inl (h.2 v hv)⟩
      rcases hu with hu | hu
      · exact h.1 u hu
      · obtain ⟨w, hw, -⟩ := h'.1 u hu; cases hw
    | some b =>
      refine ⟨fun u hu => ⟨_, rfl, ?_⟩, fun v hv => ?_⟩
      · rcases hu with hu | hu
        · obtain ⟨w, hw, h1⟩ := h.1 u hu
          cases hw
          split <;> omega
        · obtain ⟨w, hw, h1⟩ := h'.1 u hu
          cases hw
          split <;> omega
      · have e : (if b < a then b else a) = v := Option.some.inj hv
        split at e
        · exact Or.inr (h'.2 v (by rw [e]))
        · exact Or.inl (h.2 v (by rw [e]))
theorem mnV_none : mnV none (fun _ => False) := ⟨fun _ h => h.elim, fun _ h => by cases h⟩
theorem mnV_opt {o : Option Nat} : mnV o (fun u => o = some u) := ⟨fun u hu => ⟨u, hu, Nat.le_refl _⟩, fun _ h => h⟩
theorem mnV_cg {r : Option Nat} {V V' : Nat → Prop} (h : mnV r V) (e : ∀ u, V u ↔ V' u) : mnV r V' := ⟨fun u hu => h.1 u ((e u).mpr hu), fun v hv => (e v).mp (h.2 v hv)⟩
theorem swS_b {p : Nat × Nat × Nat → Bool} : ∀ {l : List (Nat × Nat × Nat)}, (∀ q ∈ l, q.2.1 < 1000) → swS p l ≤ 1000 * l.length
  | [], _ => Nat.le_refl _
  | q :: r, h => by
    have h1 := swS_b (p := p) (l := r) (fun z hz => h z (List.mem_cons_of_mem _ hz))
    have h2 := h q List.mem_cons_self
    rw [swS, List.length_cons]
    split <;> omega
/-- what the name that he has owes -/
def owS (de : List (Nat × Nat × Nat)) (t : Tn) (w : Nat) : Option Nat := (t.1 w).map fun n => swS (fun q => decide (some n = some q.1)) de
/-- by m goings of his, u -/
def Pth (x : Cx) (de : List (Nat × Nat × Nat)) (w : Nat) : Nat → Tn → Nat → Prop
  | 0, t, u => owS de t w = some u
  | m + 1, t, u => ∃ g, g < x.2.1 ∧ x.2.2.2.1 g = false ∧ ∃ z, goS x t w g = some z ∧ Pth x de w m z.2 u
theorem Pth_b {x : Cx} {de : List (Nat × Nat × Nat)} {w : Nat} (hl : de.length ≤ 20) (hq : ∀ q ∈ de, q.2.1 < 1000) : ∀ {m : Nat} {t : Tn} {u : Nat}, Pth x de w m t u → u < 100000
  | 0, t, u, h => by
    have h : owS de t w = some u := h
    unfold owS at h
    cases q : t.1 w with
    | none => rw [q] at h; cases h
    | some n =>
      rw [q] at h
      have e : swS (fun q => decide (some n = some q.1)) de = u := Option.some.inj h
      have := swS_b (p := fun q => decide (some n = some q.1)) hq
      omega
  | m + 1, t, u, h => by
    obtain ⟨g, -, -, z, -, h4⟩ := h
    exact Pth_b hl hq h4
theorem enO_lt {o : Option Nat} {k : Nat} (h : ∀ v, o = some v → v < 100000) : (enO o = mI) = (o = none) := by
  cases o with
  | none => exact propext ⟨fun _ => rfl, fun _ => rfl⟩
  | some m =>
    have := h m rfl
    rw [enO_some, iN_nm (by omega)]; exact propext ⟨False.elim, fun q => by cases q⟩
theorem C_lesser {a b : Option Nat} (ha : ∀ v, a = some v → v < 100000) (hb : ∀ v, b = some v → v < 100000) : f_crw_lesser (enO a) (enO b) = some (enO (omin a b)) := by
  cases a with
  | none =>
    cases b with
    | none => rfl
    | some b =>
      have := hb b rfl
      show f_crw_lesser mI (iN b) = some (iN b)
      simp (disch := omega) only [f_crw_lesser, fj_crw_lesser_10, f_math_max_II, nlit, onl, negone, iN_add, iN_mul, iN_sub, iN_pm, iN_addneg, iN_ix, iN_inb, iN_lt, iN_eq, iN_nneg, iN_nm, nm_iN, mI_neg, mI_nnn, ne_eq, not_true_eq_false, not_false_eq_true, true_and, and_true, bnd, Option.bind_some, ↓reduceIte, ltT, ltF, eqT, eqF, leT, leF]
  | some a =>
    have h1 := ha a rfl
    cases b with
    | none =>
      show f_crw_lesser (iN a) mI = some (iN a)
      have e : ¬ iN a < mI := by rw [Int32.lt_iff_toInt_lt, iN_toInt (by omega), mI_toInt]; omega
      simp (disch := omega) only [f_crw_lesser, fj_crw_lesser_10, f_math_max_II, e, nlit, onl, negone, iN_add, iN_mul, iN_sub, iN_pm, iN_addneg, iN_ix, iN_inb, iN_lt, iN_eq, iN_nneg, iN_nm, nm_iN, mI_neg, mI_nnn, ne_eq, not_true_eq_false, not_false_eq_true, true_and, and_true, bnd, Option.bind_some, ↓reduceIte, ltT, ltF, eqT, eqF, leT, leF]
    | some b =>
      have h2 := hb b rfl
      show f_crw_lesser (iN a) (iN b) = some (iN (if b < a then b else a))
      by_cases q : b < a
      · simp (disch := omega) only [f_crw_lesser, f_math_min_II, nlit, onl, negone, iN_add, iN_mul, iN_sub, iN_pm, iN_addneg, iN_ix, iN_inb, iN_lt, iN_eq, iN_nneg, iN_nm, nm_iN, mI_neg, mI_nnn, ne_eq, not_true_eq_false, not_false_eq_true, true_and, and_true, bnd, Option.bind_some, ↓reduceIte, ltT, ltF, eqT, eqF, leT, leF]
      · simp (disch := omega) only [f_crw_lesser, f_math_min_II, nlit, onl, negone, iN_add, iN_mul, iN_sub, iN_pm, iN_addneg, iN_ix, iN_inb, iN_lt, iN_eq, iN_nneg, iN_nm, nm_iN, mI_neg, mI_nnn, ne_eq, not_true_eq_false, not_false_eq_true, true_and, and_true, bnd, Option.bind_some, ↓reduceIte, ltT, ltF, eqT, eqF, leT, leF]
section
variable {x : Cx} {de : List (Nat × Nat × Nat)} {w : Nat} {pe ga hr rl cL sz tk fe dz : Int32} {lot born cd kd fr to dc : Nat → Int32} {ru : Nat}
theorem C_least (hx : CxOK x) (hm : CX pe ga hr rl lot born ru cL sz tk fe cd kd fr to x) (hD : CD dz dc de) (hl : de.length ≤ 20) (hq : ∀ q ∈ de, q.1 < 8 ∧ q.2.1 < 1000 ∧ q.2.2 < 8) (hw : w < x.1) : ∀ (more k : Nat) (t : Tn) (names sizes values stack : Nat → Int32) (heaps : Nat → Nat → Int32), more < k → more < 100 → CT names sizes heaps t → TW t → ∃ r n' s' h' v' st', FG_crw_leastFrom k pe ga hr rl names dz sizes heaps lot ru born dc values cL sz tk stack kd to fr cd (iN w) (iN more) = some (enO r, n', s', h', v', st') ∧ CT n' s' h' t ∧ mnV r (fun u => ∃ m, m ≤ more ∧ Pth x de w m t u) := by
  have hw8 : w < 8 := by have := hx.1; omega
  have hq2 : ∀ q ∈ de, q.2.1 < 1000 := fun q h => (hq q h).2.1
  have hB : ∀ {V : Nat → Prop} {r : Option Nat}, mnV r V → (∀ u, V u → ∃ m t, Pth x de w m t u) → ∀ v, r = some v → v < 100000 := by
    intro V r h h2 v hv
    obtain ⟨m, t, hp⟩ := h2 v (h.2 v hv)
    exact Pth_b hl hq2 hp
  intro more
  induction more with
  | zero =>
    intro k t names sizes values stack heaps hk h100 hd ht
    obtain ⟨k, rfl⟩ : ∃ z, k = z + 1 := ⟨k - 1, by omega⟩
    refine ⟨owS de t w, names, sizes, heaps, values, stack, ?_, hd, mnV_cg mnV_opt (fun u => ⟨fun h => ⟨0, Nat.le_refl _, h⟩, fun ⟨m, h1, h2⟩ => ?_⟩)⟩
    · show fR_crw_leastFrom _ _ _ _ _ _ _ _ _ _ _ _ _ _ _ _ _ _ _ _ _ _ _ _ = _
      unfold fR_crw_leastFrom owS
      rw [hd.nameOf hw8, Option.bind_some]
      cases q : t.1 w with
      | none => simp (disch := omega) only [enO_none, fj_crw_leastFrom_26, nlit, onl, negone, iN_add, iN_mul, iN_sub, iN_pm, iN_addneg, iN_ix, iN_inb, iN_lt, iN_eq, iN_nneg, iN_nm, nm_iN, mI_neg, mI_nnn, ne_eq, not_true_eq_false, not_false_eq_true, true_and, and_true, bnd, Option.bind_some, ↓reduceIte, ltT, ltF, eqT, eqF, leT, leF]; rfl
      | some n =>
        have hn := (ht.1 w n q).2
        have e1 := C_owed hD hl hq (o := some n) (fun m z => by cases z; exact hn)
        rw [enO_some] at e1
        simp (disch := omega) only [enO_some, e1, fj_crw_leastFrom_26, nlit, onl, negone, iN_add, iN_mul, iN_sub, iN_pm, iN_addneg, iN_ix, iN_inb, iN_lt, iN_eq, iN_nneg, iN_nm, nm_iN, mI_neg, mI_nnn, ne_eq, not_true_eq_false, not_false_eq_true, true_and, and_true, bnd, Option.bind_some, ↓reduceIte, ltT, ltF, eqT, eqF, leT, leF]; rfl
    · have : m = 0 := by omega
      subst this
      exact h2
  | succ more ih =>
    intro k t names sizes values stack heaps hk h100 hd ht
    obtain ⟨k, rfl⟩ : ∃ z, k = z + 1 := ⟨k - 1, by omega⟩
    have hpk := C_packed hd ht
    have hx2 := hx.2.1
    -- the loop over gates
    have loop : ∀ (m g n : Nat) (r : Option Nat) (names sizes values stack : Nat → Int32) (heaps : Nat → Nat → Int32), g + m = x.2.1 → m < n → CT names sizes heaps t → mnV r (fun u => owS de t w = some u ∨ ∃ g', g' < g ∧ x.2.2.2.1 g' = false ∧ ∃ z, goS x t w g' = some z ∧ ∃ m, m ≤ more ∧ Pth x de w m z.2 u) → ∃ r' n' s' h' v' st', itr (un7 (fb_crw_leastFrom_47 (FG_crw_leastFrom k) pe ga hr rl dz lot ru born dc cL sz tk kd to fr cd (iN w) (iN (more + 1)) (jN (pkS t)))) n (enO r, iN g, names, sizes, heaps, values, stack) = some (enO r', n', s', h', v', st') ∧ CT n' s' h' t ∧ mnV r' (fun u => owS de t w = some u ∨ ∃ g', g' < x.2.1 ∧ x.2.2.2.1 g' = false ∧ ∃ z, goS x t w g' = some z ∧ ∃ m, m ≤ more ∧ Pth x de w m z.2 u) := by
      intro m
      induction m with
      | zero =>
        intro g n r names sizes values stack heaps hg hn hd hr
        obtain ⟨n, rfl⟩ : ∃ z, n = z + 1 := ⟨n - 1, by omega⟩
        have hg : g = x.2.1 := hg
        subst hg
        refine ⟨r, names, sizes, heaps, values, stack, itr_end ?_, hd, hr⟩
        have h2 := hm.2.1
        rw [h2]
        simp (disch := omega) only [un7, fb_crw_leastFrom_47, nlit, onl, negone, iN_add, iN_mul, iN_sub, iN_pm, iN_addneg, iN_ix, iN_inb, iN_lt, iN_eq, iN_nneg, iN_nm, nm_iN, mI_neg, mI_nnn, ne_eq, not_true_eq_false, not_false_eq_true, true_and, and_true, bnd, Option.bind_some, ↓reduceIte, ltT, ltF, eqT, eqF, leT, leF]
      | succ m ihm =>
        intro g n r names sizes values stack heaps hg hn hd hr
        obtain ⟨n, rfl⟩ : ∃ z, n = z + 1 := ⟨n - 1, by omega⟩
        have hgG : g < x.2.1 := by omega
        have hg3 : g < 3 := by omega
        have hlt := hm.2.2.2.1 g hg3
        have hga : (iN g < ga) = True := by rw [hm.2.1, iN_lt (by omega) (by omega)]; exact eq_true hgG
        cases hlot : x.2.2.2.1 g with
        | true =>
          rw [hlot] at hlt
          obtain ⟨r', n', s', h', v', st', g1, g2, g3⟩ := ihm (g + 1) n r names sizes values stack heaps (by omega) (by omega) hd (mnV_cg hr (fun u => by
            constructor
            · rintro (h | ⟨g', h1, h2⟩)
              · exact Or.inl h
              · exact Or.inr ⟨g', by omega, h2⟩
            · rintro (h | ⟨g', h1, h2, h3⟩)
              · exact Or.inl h
              · refine Or.inr ⟨g', ?_, h2, h3⟩
                have : g' ≠ g := fun z => by rw [z, hlot] at h2; cases h2
                omega))
          refine ⟨r', n', s', h', v', st', ?_, g2, g3⟩
          rw [itr_step (s' := (enO r, iN (g + 1), names, sizes, heaps, values, stack)), g1]
          simp (disch := omega) only [un7, fb_crw_leastFrom_47, hga, hlt, bT0, nlit, iN_inb, iN_ix, iN_add, ltT, ↓reduceIte]
        | false =>
          rw [hlot] at hlt
          obtain ⟨v1, s1, n1, z1, h1, e1, e2⟩ := C_doTried (values := values) (stack := stack) hx hm hd ht hw hgG
          have hTW := goS_TW (x := x) ht hw8 hg3
          cases hgo : goS x t w g with
          | none =>
            rw [hgo] at e1 e2
            rw [Option.map_none, enO_none] at e1
            obtain ⟨r', n', s', h', v', st', g1, g2, g3⟩ := ihm (g + 1) n r n1 z1 v1 s1 h1 (by omega) (by omega) e2 (mnV_cg hr (fun u => by
              constructor
              · rintro (h | ⟨g', h1, h2⟩)
                · exact Or.inl h
                · exact Or.inr ⟨g', by omega, h2⟩
              · rintro (h | ⟨g', h1, h2, z, h3, h4⟩)
                · exact Or.inl h
                · refine Or.inr ⟨g', ?_, h2, z, h3, h4⟩
                  have : g' ≠ g := fun q => by rw [q, hgo] at h3; cases h3
                  omega))
            refine ⟨r', n', s', h', v', st', ?_, g2, g3⟩
            rw [itr_step (s' := (enO r, iN (g + 1), n1, z1, h1, v1, s1)), g1]
            simp (disch := omega) only [un7, fb_crw_leastFrom_47, hga, hlt, bF0, e1, un6, nlit, negone, iN_inb, iN_ix, iN_add, ltT, ↓reduceIte, Option.bind_some]
          | some z =>
            rw [hgo] at e1 e2 hTW
            have hz8 := goS_name ht hgo
            rw [Option.map_some, enO_some] at e1
            obtain ⟨r2, n2, z2, h2, v2, s2, f1, f2, f3⟩ := ih k z.2 n1 z1 v1 s1 h1 (by omega) (by omega) e2 hTW
            obtain ⟨n3, z3, h3, u1, u2⟩ := C_unpack (nm := n2) (sz := z2) (hp := h2) ht
            have hb1 := hB hr (fun u hu => by
              rcases hu with hu | ⟨g', -, -, z', -, m', -, hp'⟩
              · exact ⟨0, t, hu⟩
              · exact ⟨m', z'.2, hp'⟩)
            have hb2 := hB f3 (fun u hu => by obtain ⟨m', -, hp'⟩ := hu; exact ⟨m', z.2, hp'⟩)
            have hls := C_lesser hb1 hb2
            obtain ⟨r', n', s', h', v', st', g1, g2, g3⟩ := ihm (g + 1) n (omin r r2) n3 z3 v2 s2 h3 (by omega) (by omega) u2 (mnV_cg (mnV_or hr f3) (fun u => by
              constructor
              · rintro ((h | ⟨g', h1, h2⟩) | h)
                · exact Or.inl h
                · exact Or.inr ⟨g', by omega, h2⟩
                · exact Or.inr ⟨g, by omega, hlot, z, hgo, h⟩
              · rintro (h | ⟨g', h1, h2, z', h3, h4⟩)
                · exact Or.inl (Or.inl h)
                · by_cases q : g' = g
                  · subst q
                    rw [hgo] at h3
                    cases h3
                    exact Or.inr h4
                  · exact Or.inl (Or.inr ⟨g', by omega, h2, z', h3, h4⟩)))
            refine ⟨r', n', s', h', v', st', ?_, g2, g3⟩
            rw [itr_step (s' := (enO (omin r r2), iN (g + 1), n3, z3, h3, v2, s2)), g1]
            simp (disch := omega) only [un7, fb_crw_leastFrom_47, hga, hlt, bF0, e1, un6, f1, hls, u1, un3, nlit, negone, iN_inb, iN_ix, iN_add, iN_sub, iN_nm, ltT, Nat.add_sub_cancel, ↓reduceIte, Option.bind_some]
    obtain ⟨r', n', s', h', v', st', g1, g2, g3⟩ := loop x.2.1 0 KF (owS de t w) names sizes values stack heaps (by omega) (kf_lt (by omega)) hd (mnV_cg mnV_opt (fun u => ⟨Or.inl, fun h => by
      rcases h with h | ⟨g', h1, -⟩
      · exact h
      · omega⟩))
    refine ⟨r', n', s', h', v', st', ?_, g2, mnV_cg g3 (fun u => ?_)⟩
    · show fR_crw_leastFrom _ _ _ _ _ _ _ _ _ _ _ _ _ _ _ _ _ _ _ _ _ _ _ _ = _
      unfold fR_crw_leastFrom
      rw [hd.nameOf hw8, Option.bind_some]
      unfold owS at g1
      cases q : t.1 w with
      | none =>
        rw [q, Option.map_none, enO_none] at g1
        simp (disch := omega) only [enO_none, fj_crw_leastFrom_26, hpk, g1, un6, nlit, onl, negone, iN_add, iN_mul, iN_sub, iN_pm, iN_addneg, iN_ix, iN_inb, iN_lt, iN_eq, iN_nneg, iN_nm, nm_iN, mI_neg, mI_nnn, ne_eq, not_true_eq_false, not_false_eq_true, true_and, and_true, bnd, Option.bind_some, ↓reduceIte, ltT, ltF, eqT, eqF, leT, leF]
      | some n =>
        have hn := (ht.1 w n q).2
        have e1 := C_owed hD hl hq (o := some n) (fun m z => by cases z; exact hn)
        rw [enO_some] at e1
        rw [q, Option.map_some, enO_some] at g1
        simp (disch := omega) only [enO_some, e1, fj_crw_leastFrom_26, hpk, g1, un6, nlit, onl, negone, iN_add, iN_mul, iN_sub, iN_pm, iN_addneg, iN_ix, iN_inb, iN_lt, iN_eq, iN_nneg, iN_nm, nm_iN, mI_neg, mI_nnn, ne_eq, not_true_eq_false, not_false_eq_true, true_and, and_true, bnd, Option.bind_some, ↓reduceIte, ltT, ltF, eqT, eqF, leT, leF]
    · constructor
      · rintro (h | ⟨g, h1, h2, z, h3, m, h4, h5⟩)
        · exact ⟨0, Nat.zero_le _, h⟩
        · exact ⟨m + 1, by omega, g, h1, h2, z, h3, h5⟩
      · rintro ⟨m, h1, h2⟩
        cases m with
        | zero => exact Or.inl h2
        | succ m =>
          obtain ⟨g, q1, q2, z, q3, q4⟩ := h2
          exact Or.inr ⟨g, q1, q2, z, q3, m, by omega, q4⟩
end
