/-- the reference's: m goings told by the digits of way -/
def runT (x : Cx) (w : Nat) : Nat → Nat → Tn → Option Tn
  | 0, _, t => some t
  | m + 1, way, t => if way % 3 < x.2.1 ∧ x.2.2.2.1 (way % 3) = false then (match goS x t w (way % 3) with
      | none => none
      | some z => runT x w m (way / 3) z.2) else none
theorem runT_TW {x : Cx} {w : Nat} (hw : w < 8) : ∀ {m way : Nat} {t t' : Tn}, TW t → runT x w m way t = some t' → TW t'
  | 0, way, t, t', ht, h => by cases h; exact ht
  | m + 1, way, t, t', ht, h => by
    rw [runT] at h
    split at h
    · have hT := goS_TW (x := x) ht hw (Nat.mod_lt way (show 3 > 0 by decide))
      cases hgo : goS x t w (way % 3) with
      | none => rw [hgo] at h; cases h
      | some z => rw [hgo] at h hT; exact runT_TW hw hT h
    · cases h
theorem runT_Pth {x : Cx} {de : List (Nat × Nat × Nat)} {w : Nat} (hx : CxOK x) : ∀ (m : Nat) (t : Tn) (u : Nat), (∃ way, way < 3 ^ m ∧ (runT x w m way t).bind (fun t' => owS de t' w) = some u) ↔ Pth x de w m t u
  | 0, t, u => ⟨fun ⟨_, _, h⟩ => h, fun h => ⟨0, by decide, h⟩⟩
  | m + 1, t, u => by
    constructor
    · rintro ⟨way, h1, h2⟩
      rw [runT] at h2
      by_cases hc : way % 3 < x.2.1 ∧ x.2.2.2.1 (way % 3) = false
      · rw [if_pos hc] at h2
        cases hgo : goS x t w (way % 3) with
        | none => rw [hgo] at h2; cases h2
        | some z =>
          rw [hgo] at h2
          exact ⟨way % 3, hc.1, hc.2, z, hgo, (runT_Pth hx m z.2 u).mp ⟨way / 3, by rw [Nat.pow_succ] at h1; omega, h2⟩⟩
      · rw [if_neg hc] at h2; cases h2
    · rintro ⟨g, h1, h2, z, h3, h4⟩
      obtain ⟨way, h5, h6⟩ := (runT_Pth hx m z.2 u).mpr h4
      have hg : g < 3 := by have := hx.2.1; omega
      refine ⟨g + 3 * way, by rw [Nat.pow_succ]; omega, ?_⟩
      rw [runT, show (g + 3 * way) % 3 = g by omega, show (g + 3 * way) / 3 = way by omega, if_pos ⟨h1, h2⟩, h3]
      exact h6
section
variable {x : Cx} {de : List (Nat × Nat × Nat)} {w : Nat} {a texts : Nat → Int32}
theorem M_run (hx : CxOK x) (hm : MX a texts x) (hw : w < 8) {M : Nat} (hM : M ≤ 4) : ∀ (m k n way : Nat) (t : Tn) (d named truth : Nat → Int32) (values : Nat → Int64), k + m = M → m < n → way < 1000 → MT d 70 t → TW t → ∃ d' n' v' t1, itr (un7 (fb_m_thief_64 (iN 70) a texts (iN w) (iN M))) n (iN way, iN 1, iN k, d, named, values, truth) = some (b01 (runT x w m way t).isSome, d', n', v', t1) ∧ (∀ t', runT x w m way t = some t' → MT d' 70 t') ∧ ∀ j, j < 70 → d' j = d j
  | 0, k, n, way, t, d, named, truth, values, hk, hn, hway, hd, ht => by
    obtain ⟨n, rfl⟩ : ∃ z, n = z + 1 := ⟨n - 1, by omega⟩
    refine ⟨d, named, values, truth, itr_end ?_, fun t' h => ?_, fun _ _ => rfl⟩
    · simp (disch := omega) only [un7, fb_m_thief_64, runT, Option.isSome_some, nlit, onl, negone, iN_add, iN_mul, iN_sub, iN_pm, iN_addneg, iN_ix, iN_inb, iN_lt, iN_eq, iN_nneg, iN_nm, nm_iN, mI_neg, mI_nnn, ne_eq, not_true_eq_false, not_false_eq_true, true_and, and_true, bnd, Option.bind_some, ↓reduceIte, ltT, ltF, eqT, eqF, leT, leF]; rfl
    · cases h; exact hd
  | m + 1, k, n, way, t, d, named, truth, values, hk, hn, hway, hd, ht => by
    obtain ⟨n, rfl⟩ : ∃ z, n = z + 1 := ⟨n - 1, by omega⟩
    have hg3 : way % 3 < 3 := Nat.mod_lt _ (by decide)
    have hx2 := hx.2.1
    have e10 : ¬ iN 1 = iN 0 := by decide
    have hG := M_isGate (l := iN (way % 3)) hm.2.1 (show x.2.1 < 1000 by omega)
    rw [inR_iN (by omega)] at hG
    -- a failed one ends it
    have stop : ∀ (n : Nat) (way' : Nat) (d named truth : Nat → Int32) (values : Nat → Int64), 0 < n → itr (un7 (fb_m_thief_64 (iN 70) a texts (iN w) (iN M))) n (iN way', iN 0, iN (k + 1), d, named, values, truth) = some (b01 false, d, named, values, truth) := by
      intro n way' d named truth values hn
      obtain ⟨n, rfl⟩ : ∃ z, n = z + 1 := ⟨n - 1, by omega⟩
      refine itr_end ?_
      by_cases q : k + 1 < M
      · simp (disch := omega) only [un7, fb_m_thief_64, nlit, onl, negone, iN_add, iN_mul, iN_sub, iN_pm, iN_addneg, iN_ix, iN_inb, iN_lt, iN_eq, iN_nneg, iN_nm, nm_iN, mI_neg, mI_nnn, ne_eq, not_true_eq_false, not_false_eq_true, true_and, and_true, bnd, Option.bind_some, ↓reduceIte, ltT, ltF, eqT, eqF, leT, leF]; rfl
      · simp (disch := omega) only [un7, fb_m_thief_64, nlit, onl, negone, iN_add, iN_mul, iN_sub, iN_pm, iN_addneg, iN_ix, iN_inb, iN_lt, iN_eq, iN_nneg, iN_nm, nm_iN, mI_neg, mI_nnn, ne_eq, not_true_eq_false, not_false_eq_true, true_and, and_true, bnd, Option.bind_some, ↓reduceIte, ltT, ltF, eqT, eqF, leT, leF]; rfl
    rw [runT]
    by_cases h1 : way % 3 < x.2.1
    · rw [decide_eq_true h1] at hG
      have hL := M_isLot (g := way % 3) hm hg3
      cases h2 : x.2.2.2.1 (way % 3) with
      | true =>
        rw [h2] at hL
        rw [if_neg (fun z => absurd z.2 (by decide))]
        refine ⟨d, named, values, truth, ?_, fun t' h => (by cases h), fun _ _ => rfl⟩
        rw [itr_step (s' := (iN (way / 3), iN 0, iN (k + 1), d, named, values, truth)), stop n _ d named truth values (by omega)]
        · rfl
        · simp (disch := omega) only [un7, fb_m_thief_64, iN_rem, iN_div, hG, hL, bT0, e10, nlit, onl, negone, iN_add, iN_mul, iN_sub, iN_pm, iN_addneg, iN_ix, iN_inb, iN_lt, iN_eq, iN_nneg, iN_nm, nm_iN, mI_neg, mI_nnn, ne_eq, not_true_eq_false, not_false_eq_true, true_and, and_true, bnd, Option.bind_some, ↓reduceIte, ltT, ltF, eqT, eqF, leT, leF]
      | false =>
        rw [h2] at hL
        rw [if_pos ⟨h1, rfl⟩]
        obtain ⟨d1, n1, v1, t1, g1, g2, g3⟩ := M_goes (named := named) (values := values) (truth := truth) hx hm hd (show 70 ≤ 525 by decide) ht hw hg3
        have hTW := goS_TW (x := x) ht hw hg3
        cases hgo : goS x t w (way % 3) with
        | none =>
          rw [hgo] at g1 g2
          rw [Option.isSome_none] at g1
          refine ⟨d1, n1, v1, t1, ?_, fun t' h => (by cases h), fun j hj => g3 j (Or.inl hj)⟩
          rw [itr_step (s' := (iN (way / 3), iN 0, iN (k + 1), d1, n1, v1, t1)), stop n _ d1 n1 t1 v1 (by omega)]
          · rfl
          · simp (disch := omega) only [un7, fb_m_thief_64, iN_rem, iN_div, hG, hL, g1, un5, bT0, bF0, e10, nlit, onl, negone, iN_add, iN_mul, iN_sub, iN_pm, iN_addneg, iN_ix, iN_inb, iN_lt, iN_eq, iN_nneg, iN_nm, nm_iN, mI_neg, mI_nnn, ne_eq, not_true_eq_false, not_false_eq_true, true_and, and_true, bnd, Option.bind_some, ↓reduceIte, ltT, ltF, eqT, eqF, leT, leF]
        | some z =>
          rw [hgo] at g1 g2 hTW
          rw [Option.isSome_some] at g1
          obtain ⟨d2, n2, v2, t2, f1, f2, f3⟩ := M_run hx hm hw hM m (k + 1) n (way / 3) z.2 d1 n1 t1 v1 (by omega) (by omega) (by omega) g2 hTW
          refine ⟨d2, n2, v2, t2, ?_, f2, fun j hj => (f3 j hj).trans (g3 j (Or.inl hj))⟩
          rw [itr_step (s' := (iN (way / 3), iN 1, iN (k + 1), d1, n1, v1, t1)), f1]
          simp (disch := omega) only [un7, fb_m_thief_64, iN_rem, iN_div, hG, hL, g1, un5, bT0, bF0, e10, nlit, onl, negone, iN_add, iN_mul, iN_sub, iN_pm, iN_addneg, iN_ix, iN_inb, iN_lt, iN_eq, iN_nneg, iN_nm, nm_iN, mI_neg, mI_nnn, ne_eq, not_true_eq_false, not_false_eq_true, true_and, and_true, bnd, Option.bind_some, ↓reduceIte, ltT, ltF, eqT, eqF, leT, leF]
    · rw [decide_eq_false h1] at hG
      rw [if_neg (fun z => h1 z.1)]
      refine ⟨d, named, values, truth, ?_, fun t' h => (by cases h), fun _ _ => rfl⟩
      rw [itr_step (s' := (iN (way / 3), iN 0, iN (k + 1), d, named, values, truth)), stop n _ d named truth values (by omega)]
      · rfl
      · simp (disch := omega) only [un7, fb_m_thief_64, iN_rem, iN_div, hG, bF0, e10, nlit, onl, negone, iN_add, iN_mul, iN_sub, iN_pm, iN_addneg, iN_ix, iN_inb, iN_lt, iN_eq, iN_nneg, iN_nm, nm_iN, mI_neg, mI_nnn, ne_eq, not_true_eq_false, not_false_eq_true, true_and, and_true, bnd, Option.bind_some, ↓reduceIte, ltT, ltF, eqT, eqF, leT, leF]
theorem M_thiefWays (hx : CxOK x) (hm : MX a texts x) (hw : w < 8) (h5 : a 5 = iN de.length) (ha : ∀ (k : Nat) (q : Nat × Nat × Nat), de[k]? = some q → a (40 + 3 * k) = iN q.1 ∧ a (40 + 3 * k + 1) = iN q.2.1 ∧ a (40 + 3 * k + 2) = iN q.2.2) (hl : de.length ≤ 20) (hq : ∀ q ∈ de, q.1 < 8 ∧ q.2.1 < 1000 ∧ q.2.2 < 8) {M : Nat} (hM : M ≤ 4) {t : Tn} (ht : TW t) {V : Nat → Prop} (hV : ∀ u, V u → u < 100000) : ∀ (m way n : Nat) (r : Option Nat) (b : Int32) (d named truth : Nat → Int32) (values : Nat → Int64), way + m = 3 ^ M → m < n → MT d 0 t → mnV r (fun u => V u ∨ ∃ way', way' < way ∧ (runT x w M way' t).bind (fun t' => owS de t' w) = some u) → ∃ r' b' d' n' v' t1, itr (un7 (fb_m_thief_36 a texts (iN w) (iN (3 ^ M)) (iN M))) n (enO r, iN way, b, d, named, values, truth) = some (enO r', b', d', n', v', t1) ∧ (∀ j, j < 70 → d' j = d j) ∧ mnV r' (fun u => V u ∨ ∃ way', way' < 3 ^ M ∧ (runT x w M way' t).bind (fun t' => owS de t' w) = some u)
  | 0, way, n, r, b, d, named, truth, values, hway, hn, hd, hr => by
    obtain ⟨n, rfl⟩ : ∃ z, n = z + 1 := ⟨n - 1, by omega⟩
    have h3 : 3 ^ M ≤ 3 ^ 4 := Nat.pow_le_pow_right (by decide) hM
    have h34 : 3 ^ 4 = 81 := rfl
    have hway : way = 3 ^ M := hway
    refine ⟨r, b, d, named, values, truth, itr_end ?_, fun _ _ => rfl, by rw [← hway]; exact hr⟩
    simp (disch := omega) only [un7, fb_m_thief_36, nlit, onl, negone, iN_add, iN_mul, iN_sub, iN_pm, iN_addneg, iN_ix, iN_inb, iN_lt, iN_eq, iN_nneg, iN_nm, nm_iN, mI_neg, mI_nnn, ne_eq, not_true_eq_false, not_false_eq_true, true_and, and_true, bnd, Option.bind_some, ↓reduceIte, ltT, ltF, eqT, eqF, leT, leF]
  | m + 1, way, n, r, b, d, named, truth, values, hway, hn, hd, hr => by
    obtain ⟨n, rfl⟩ : ∃ z, n = z + 1 := ⟨n - 1, by omega⟩
    have h3 : 3 ^ M ≤ 3 ^ 4 := Nat.pow_le_pow_right (by decide) hM
    have h34 : 3 ^ 4 = 81 := rfl
    have hq2 : ∀ q ∈ de, q.2.1 < 1000 := fun q h => (hq q h).2.1
    have e10 : ¬ iN 1 = iN 0 := by decide
    obtain ⟨d1, c1, c2, c3⟩ := M_copyT (i := 0) (j := 2) hd ht (by decide) (by decide) (by decide)
    obtain ⟨d2, n2, v2, t2, f1, f2, f3⟩ := M_run hx hm hw hM M 0 KF way t d1 named truth values (by omega) (kf_lt (by omega)) (by omega) c2 ht
    have hfr : ∀ j, j < 70 → d2 j = d j := fun j hj => (f3 j hj).trans (c3 j (Or.inl (by omega)))
    have hd2 : MT d2 0 t := hd.moved ht (fun k hk => by rw [hfr _ (by omega)])
    have hb : ∀ v, r = some v → v < 100000 := fun v hv => by
      rcases hr.2 v hv with h | ⟨way', h1, h2⟩
      · exact hV v h
      · have hp := (runT_Pth (de := de) (w := w) hx M t v).mp ⟨way', by omega, h2⟩
        exact Pth_b hl hq2 hp
    have hr2 : mnV (omin r ((runT x w M way t).bind fun t' => owS de t' w)) (fun u => V u ∨ ∃ way', way' < way + 1 ∧ (runT x w M way' t).bind (fun t' => owS de t' w) = some u) := mnV_cg (mnV_or hr mnV_opt) (fun u => by
      constructor
      · rintro ((h | ⟨way', h1, h2⟩) | h)
        · exact Or.inl h
        · exact Or.inr ⟨way', by omega, h2⟩
        · exact Or.inr ⟨way, by omega, h⟩
      · rintro (h | ⟨way', h1, h2⟩)
        · exact Or.inl (Or.inl h)
        · by_cases q : way' = way
          · subst q; exact Or.inr h2
          · exact Or.inl (Or.inr ⟨way', by omega, h2⟩))
    obtain ⟨r', b', d', n', v', t1, g1, g2, g3⟩ := M_thiefWays hx hm hw h5 ha hl hq hM ht hV m (way + 1) n _ (iN 70) d2 n2 t2 v2 (by omega) (by omega) hd2 hr2
    refine ⟨r', b', d', n', v', t1, ?_, fun j hj => (g2 j hj).trans (hfr j hj), g3⟩
    rw [itr_step (s' := (enO (omin r ((runT x w M way t).bind fun t' => owS de t' w)), iN (way + 1), iN 70, d2, n2, v2, t2)), g1]
    have base : ∀ q : Option Int32, un7 (fb_m_thief_36 a texts (iN w) (iN (3 ^ M)) (iN M)) (enO r, iN way, b, d, named, values, truth) = fj_m_thief_129_36 (iN 70) a d2 texts n2 v2 t2 (iN w) (enO r) (iN (3 ^ M)) (iN M) (iN way) (b01 (runT x w M way t).isSome) := by
      intro _
      have f1' : itr (un7 (fb_m_thief_64 (iN 70) a texts (iN w) (iN M))) KF (iN way, iN 1, iN 0, d1, named, values, truth) = some (b01 (runT x w M way t).isSome, d2, n2, v2, t2) := f1
      simp (disch := omega) only [un7, fb_m_thief_36, f_m_tries, c1, f1', un5, nlit, onl, negone, iN_add, iN_mul, iN_sub, iN_pm, iN_addneg, iN_ix, iN_inb, iN_lt, iN_eq, iN_nneg, iN_nm, nm_iN, mI_neg, mI_nnn, ne_eq, not_true_eq_false, not_false_eq_true, true_and, and_true, bnd, Option.bind_some, ↓reduceIte, ltT, ltF, eqT, eqF, leT, leF, Nat.reduceMul]
    rw [base none]
    cases hrun : runT x w M way t with
    | none =>
      rw [Option.isSome_none, Option.bind_none]
      have eo : omin r none = r := by cases r <;> rfl
      rw [eo]
      simp (disch := omega) only [fj_m_thief_129_36, bF0, nlit, onl, negone, iN_add, iN_mul, iN_sub, iN_pm, iN_addneg, iN_ix, iN_inb, iN_lt, iN_eq, iN_nneg, iN_nm, nm_iN, mI_neg, mI_nnn, ne_eq, not_true_eq_false, not_false_eq_true, true_and, and_true, bnd, Option.bind_some, ↓reduceIte, ltT, ltF, eqT, eqF, leT, leF]
    | some t' =>
      rw [Option.isSome_some, Option.bind_some]
      have hmt := f2 t' hrun
      have hT' := runT_TW hw ht hrun
      have hna := hmt.nameAt (show 70 ≤ 525 by decide) hw
      unfold owS
      cases hn' : t'.1 w with
      | none =>
        rw [hn', enO_none] at hna
        have eo : omin r none = r := by cases r <;> rfl
        rw [Option.map_none, eo]
        simp (disch := omega) only [fj_m_thief_129_36, bT0, hna, nlit, onl, negone, iN_add, iN_mul, iN_sub, iN_pm, iN_addneg, iN_ix, iN_inb, iN_lt, iN_eq, iN_nneg, iN_nm, nm_iN, mI_neg, mI_nnn, ne_eq, not_true_eq_false, not_false_eq_true, true_and, and_true, bnd, Option.bind_some, ↓reduceIte, ltT, ltF, eqT, eqF, leT, leF]
      | some nn =>
        have hn8 := (hT'.1 w nn hn').2
        rw [hn', enO_some] at hna
        have how := M_owed h5 ha hl hq hn8
        have hsb := swS_b (p := fun q => decide (some nn = some q.1)) hq2
        rw [Option.map_some]
        cases r with
        | none =>
          show _ = some (Sum.inl (iN _, _))
          simp (disch := omega) only [fj_m_thief_129_36, bT0, hna, how, enO_none, nlit, onl, negone, iN_add, iN_mul, iN_sub, iN_pm, iN_addneg, iN_ix, iN_inb, iN_lt, iN_eq, iN_nneg, iN_nm, nm_iN, mI_neg, mI_nnn, ne_eq, not_true_eq_false, not_false_eq_true, true_and, and_true, bnd, Option.bind_some, ↓reduceIte, ltT, ltF, eqT, eqF, leT, leF]
        | some v =>
          have hv := hb v rfl
          by_cases hlt : swS (fun q => decide (some nn = some q.1)) de < v
          · have eo : omin (some v) (some (swS (fun q => decide (some nn = some q.1)) de)) = some (swS (fun q => decide (some nn = some q.1)) de) := by show some (if _ < _ then _ else _) = _; rw [if_pos hlt]
            rw [eo]
            simp (disch := omega) only [fj_m_thief_129_36, bT0, hna, how, enO_some, nlit, onl, negone, iN_add, iN_mul, iN_sub, iN_pm, iN_addneg, iN_ix, iN_inb, iN_lt, iN_eq, iN_nneg, iN_nm, nm_iN, mI_neg, mI_nnn, ne_eq, not_true_eq_false, not_false_eq_true, true_and, and_true, bnd, Option.bind_some, ↓reduceIte, ltT, ltF, eqT, eqF, leT, leF]
          · have eo : omin (some v) (some (swS (fun q => decide (some nn = some q.1)) de)) = some v := by show some (if _ < _ then _ else _) = _; rw [if_neg hlt]
            rw [eo]
            simp (disch := omega) only [fj_m_thief_129_36, bT0, hna, how, enO_some, nlit, onl, negone, iN_add, iN_mul, iN_sub, iN_pm, iN_addneg, iN_ix, iN_inb, iN_lt, iN_eq, iN_nneg, iN_nm, nm_iN, mI_neg, mI_nnn, ne_eq, not_true_eq_false, not_false_eq_true, true_and, and_true, bnd, Option.bind_some, ↓reduceIte, ltT, ltF, eqT, eqF, leT, leF]
theorem M_thiefLoop (hx : CxOK x) (hm : MX a texts x) (hw : w < 8) (h5 : a 5 = iN de.length) (ha : ∀ (k : Nat) (q : Nat × Nat × Nat), de[k]? = some q → a (40 + 3 * k) = iN q.1 ∧ a (40 + 3 * k + 1) = iN q.2.1 ∧ a (40 + 3 * k + 2) = iN q.2.2) (hl : de.length ≤ 20) (hq : ∀ q ∈ de, q.1 < 8 ∧ q.2.1 < 1000 ∧ q.2.2 < 8) {N : Nat} (hN : N ≤ 4) {t : Tn} (ht : TW t) : ∀ (m M n : Nat) (r : Option Nat) (b : Int32) (d named truth : Nat → Int32) (values : Nat → Int64), M + m = N + 1 → m < n → MT d 0 t → mnV r (fun u => ∃ m, m < M ∧ Pth x de w m t u) → ∃ r' b' d' n' v' t1, itr (un8 (fb_m_thief_27 a texts (iN w) (iN N))) n (enO r, iN (3 ^ M), iN M, b, d, named, values, truth) = some (enO r', b', d', n', v', t1) ∧ (∀ j, j < 70 → d' j = d j) ∧ mnV r' (fun u => ∃ m, m ≤ N ∧ Pth x de w m t u)
  | 0, M, n, r, b, d, named, truth, values, hM, hn, hd, hr => by
    obtain ⟨n, rfl⟩ : ∃ z, n = z + 1 := ⟨n - 1, by omega⟩
    refine ⟨r, b, d, named, values, truth, itr_end ?_, fun _ _ => rfl, mnV_cg hr (fun u => ⟨fun ⟨m, h1, h2⟩ => ⟨m, by omega, h2⟩, fun ⟨m, h1, h2⟩ => ⟨m, by omega, h2⟩⟩)⟩
    simp (disch := omega) only [un8, fb_m_thief_27, nlit, onl, negone, iN_add, iN_mul, iN_sub, iN_pm, iN_addneg, iN_ix, iN_inb, iN_lt, iN_eq, iN_nneg, iN_nm, nm_iN, mI_neg, mI_nnn, ne_eq, not_true_eq_false, not_false_eq_true, true_and, and_true, bnd, Option.bind_some, ↓reduceIte, ltT, ltF, eqT, eqF, leT, leF]
  | m + 1, M, n, r, b, d, named, truth, values, hM, hn, hd, hr => by
    obtain ⟨n, rfl⟩ : ∃ z, n = z + 1 := ⟨n - 1, by omega⟩
    have hq2 : ∀ q ∈ de, q.2.1 < 1000 := fun q h => (hq q h).2.1
    have h3 : 3 ^ M ≤ 3 ^ 4 := Nat.pow_le_pow_right (by decide) (by omega)
    have h34 : 3 ^ 4 = 81 := rfl
    obtain ⟨r1, b1, d1, n1, v1, t1, g1, g2, g3⟩ := M_thiefWays hx hm hw h5 ha hl hq (show M ≤ 4 by omega) ht (V := fun u => ∃ m, m < M ∧ Pth x de w m t u) (fun u hu => by obtain ⟨m', -, hp⟩ := hu; exact Pth_b hl hq2 hp) (3 ^ M) 0 KF r b d named truth values (by omega) (kf_lt (by omega)) hd (mnV_cg hr (fun u => ⟨Or.inl, fun h => by
      rcases h with h | ⟨way', h1, -⟩
      · exact h
      · omega⟩))
    have hd1 : MT d1 0 t := hd.moved ht (fun k hk => by rw [g2 _ (by omega)])
    obtain ⟨r', b', d', n', v', t2, f1, f2, f3⟩ := M_thiefLoop hx hm hw h5 ha hl hq hN ht m (M + 1) n r1 b1 d1 n1 t1 v1 (by omega) (by omega) hd1 (mnV_cg g3 (fun u => by
      constructor
      · rintro (⟨m', h1, h2⟩ | h)
        · exact ⟨m', by omega, h2⟩
        · exact ⟨M, by omega, (runT_Pth hx M t u).mp h⟩
      · rintro ⟨m', h1, h2⟩
        by_cases q : m' = M
        · subst q; exact Or.inr ((runT_Pth hx m' t u).mpr h2)
        · exact Or.inl ⟨m', by omega, h2⟩))
    refine ⟨r', b', d', n', v', t2, ?_, fun j hj => (f2 j hj).trans (g2 j hj), f3⟩
    rw [itr_step (s' := (enO r1, iN (3 ^ (M + 1)), iN (M + 1), b1, d1, n1, v1, t1)), f1]
    have g1' : itr (un7 (fb_m_thief_36 a texts (iN w) (iN (3 ^ M)) (iN M))) KF (enO r, iN 0, b, d, named, values, truth) = some (enO r1, b1, d1, n1, v1, t1) := g1
    rw [Nat.pow_succ]
    simp (disch := omega) only [un8, fb_m_thief_27, g1', un6, nlit, onl, negone, iN_add, iN_mul, iN_sub, iN_pm, iN_addneg, iN_ix, iN_inb, iN_lt, iN_eq, iN_nneg, iN_nm, nm_iN, mI_neg, mI_nnn, ne_eq, not_true_eq_false, not_false_eq_true, true_and, and_true, bnd, Option.bind_some, ↓reduceIte, ltT, ltF, eqT, eqF, leT, leF]
end
section
variable {pe ga hr tx rl xx dz rz kz : Int32} {bo lo pa dn nm sz dc rc kc a d : Nat → Int32} {hp : Nat → Nat → Int32} {s : Wd} {laws : Nat → Lw} {texts cL lz tk fe : Nat → Int32} {cd kd fr to : Nat → Nat → Int32} {values stack tn tz named truth : Nat → Int32} {th : Nat → Nat → Int32} {mv : Nat → Int64}
theorem J_thief (hC : CW pe ga hr tx rl xx bo lo pa dn nm sz hp dz dc rz rc kz kc s) (hM : MA a s) (hok : WOK s) (hT : MT d 0 s.2.2.1) (hcl : CLs cL lz tk fe cd kd fr to s.1.2.2.2.1 laws) (hml : MLs texts s.1.2.2.2.1 laws) (l v : Int32) : ∃ r n' s' h' v' k' d' mn mv' mt, f_x_thief pe ga hr rl (ruO s) dz lo (cL (ruO s)) (lz (ruO s)) (tk (ruO s)) bo nm tn sz tz hp th dc values (kd (ruO s)) (to (ruO s)) (fr (ruO s)) stack (cd (ruO s)) l v = some (r, n', s', h', v', k') ∧ f_m_thief (iN 0) a d texts named mv truth l v = some (r, iN 0, d', mn, mv', mt) ∧ ∀ j, j < 70 → d' j = d j := by
  have hX := cxO_ok (laws := laws) hok
  have hcx := CX.of (texts := texts) hC.1 hC.2.1 hok hcl hml
  have hmx := MX.of hM hok hml
  have hP := hok.1.1
  have hpe := hC.1.1
  have g1 := C_hasPerson (l := l) (show s.1.1 < 100 by omega)
  rw [← hpe] at g1
  have g2 := M_isPerson (l := l) hM.1.1 (show s.1.1 < 1000 by omega)
  cases h : inR l s.1.1 with
  | false =>
    rw [h] at g1 g2
    refine ⟨mI, tn, tz, th, values, stack, d, named, mv, truth, ?_, ?_, fun _ _ => rfl⟩
    · simp only [f_x_thief, g1, Option.bind_some, nlit, negone, bF0, ↓reduceIte]
    · simp only [f_m_thief, g2, Option.bind_some, nlit, negone, bF0, ↓reduceIte]
  | true =>
    rw [h] at g1 g2
    obtain ⟨w, hw, rfl⟩ := inR_some h
    have hw8 : w < 8 := by omega
    have g4 := M_isInK (l := v) (n := 4) (by decide)
    have i4 : (iN 4).toInt = 4 := rfl
    cases h' : inR v 5 with
    | false =>
      rw [h'] at g4
      have hv : v.toInt < 0 ∨ 4 < v.toInt := by
        unfold inR at h'
        rw [decide_eq_false_iff_not] at h'
        omega
      refine ⟨mI, tn, tz, th, values, stack, d, named, mv, truth, ?_, ?_, fun _ _ => rfl⟩
      · unfold f_x_thief
        rw [g1, Option.bind_some]
        simp only [nlit, negone, bT0, ↓reduceIte, Int32.lt_iff_toInt_lt, i4, i0_toInt]
        by_cases q : v.toInt < 0
        · rw [if_pos q]
        · rw [if_neg q, if_pos (by omega)]
      · simp only [f_m_thief, g2, g4, Option.bind_some, nlit, negone, bT0, bF0, ↓reduceIte]
    | true =>
      rw [h'] at g4
      obtain ⟨n, hn, rfl⟩ := inR_some h'
      obtain ⟨n1, s1, h1, e1, e2⟩ := C_copyTown (nm := tn) (sz := tz) (hp := th) hC.2.2.1 hok.2.1.1
      obtain ⟨r, n2, z2, h2, v2, k2, f1, -, f3⟩ := C_least (w := w) hX hcx hC.2.2.2.1 hok.2.2.1.1 hok.2.2.1.2 hw n 7 s.2.2.1 n1 s1 values stack h1 (by omega) (by omega) e2 hok.2.1.1
      obtain ⟨r', b', d', mn, mv', mt, k1, k2', k3⟩ := M_thiefLoop (w := w) hX hmx hw8 hM.2.2.1.1 hM.2.2.1.2 hok.2.2.1.1 hok.2.2.1.2 (show n ≤ 4 by omega) hok.2.1.1 (n + 1) 0 KF none (iN 0) d named truth mv (by omega) (kf_lt (by omega)) hT (mnV_cg mnV_none (fun u => ⟨False.elim, fun ⟨m, h1, _⟩ => absurd h1 (Nat.not_lt_zero m)⟩))
      have er : r = r' := mnV_uniq f3 k3
      subst er
      refine ⟨enO r, n2, z2, h2, v2, k2, d', mn, mv', mt, ?_, ?_, k2'⟩
      · have f1' : f_crw_leastFrom pe ga hr rl n1 dz s1 h1 lo (ruO s) bo dc values (cL (ruO s)) (lz (ruO s)) (tk (ruO s)) stack (kd (ruO s)) (to (ruO s)) (fr (ruO s)) (cd (ruO s)) (iN w) (iN n) = some (enO r, n2, z2, h2, v2, k2) := f1
        simp (disch := omega) only [f_x_thief, f_crw_leastOwed, g1, bT0, e1, un3, f1', un6, nlit, onl, negone, iN_add, iN_mul, iN_sub, iN_pm, iN_addneg, iN_ix, iN_inb, iN_lt, iN_eq, iN_nneg, iN_nm, nm_iN, mI_neg, mI_nnn, ne_eq, not_true_eq_false, not_false_eq_true, true_and, and_true, bnd, Option.bind_some, ↓reduceIte, ltT, ltF, eqT, eqF, leT, leF]
      · have k1' : itr (un8 (fb_m_thief_27 a texts (iN w) (iN n))) KF (mI, iN 1, iN 0, iN 0, d, named, mv, truth) = some (enO r, b', d', mn, mv', mt) := k1
        have eb : f_m_tries b' (iN 0) = some (iN 0) := rfl
        simp only [f_m_thief, g2, g4, nlit, negone, bT0, k1', un6, eb, Option.bind_some, ↓reduceIte]
end
