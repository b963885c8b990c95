/-! ===== PURE: of, called, heap, owes, about, row, deed, line (written by genops.py) ===== -/
theorem ex2 {o : Option Int32} (h : o.isSome = true) : ∃ r, o = some r ∧ o = some r := by
  cases o with
  | none => cases h
  | some r => exact ⟨r, rfl, rfl⟩
theorem C_isName {l : Int32} : f_x_isName l = some (b01 (inR l 8)) := by
  refine (rng (l := l) (n := 8) (A := some (iN 0)) (B := some (iN 1)) (by decide)).trans ?_
  cases inR l 8 <;> rfl
theorem M_isName {l : Int32} : f_m_isIn l (iN 0) (iN 7) = some (b01 (inR l 8)) := M_isInK (by decide)
theorem tri_add {n N : Nat} {f : Nat → Int32} {x y z : Int32} (h : n * 3 + 3 ≤ N) (hN : N < 1000) : f_tri_add (iN n) N f x y z = some (iN (n + 1), iN (n + 1), upd (upd (upd f (n * 3) x) (n * 3 + 1) y) (n * 3 + 2) z) := by
  simp (disch := omega) only [f_tri_add, nlit, onl, negone, iN_add, iN_mul, iN_sub, iN_pm, iN_addneg, iN_ix, iN_inb, iN_lt, iN_eq, iN_nneg, iN_nm, nm_iN, mI_neg, mI_nnn, ne_eq, not_true_eq_false, not_false_eq_true, true_and, and_true, bnd, Option.bind_some, ↓reduceIte, ltT, ltF, eqT, eqF, leT, leF]
theorem tri_add0 {n N : Nat} {f : Nat → Int32} {x y z : Int32} (h : N < n * 3 + 3) (hN : N < 1000) (hn : n < 1000) : f_tri_add (iN n) N f x y z = some (mI, iN n, f) := by
  simp (disch := omega) only [f_tri_add, nlit, onl, negone, iN_add, iN_mul, iN_sub, iN_pm, iN_addneg, iN_ix, iN_inb, iN_lt, iN_eq, iN_nneg, iN_nm, nm_iN, mI_neg, mI_nnn, ne_eq, not_true_eq_false, not_false_eq_true, true_and, and_true, bnd, Option.bind_some, ↓reduceIte, ltT, ltF, eqT, eqF, leT, leF]
theorem in_app {α : Type} {l : List α} {x : α} {k : Nat} {q : α} (h : (l ++ [x])[k]? = some q) : (k < l.length ∧ l[k]? = some q) ∨ (k = l.length ∧ q = x) := by
  by_cases hk : k < l.length
  · rw [List.getElem?_append_left hk] at h
    exact Or.inl ⟨hk, h⟩
  · have := (List.getElem?_eq_some_iff.mp h).1
    rw [List.length_append, List.length_singleton] at this
    have e : k = l.length := by omega
    subst e
    rw [List.getElem?_concat_length] at h
    exact Or.inr ⟨rfl, (Option.some.inj h).symm⟩
section
variable {pe ga hr tx rl xx dz rz kz : Int32} {bo lo pa dn nm sz dc rc kc a d : Nat → Int32} {hp : Nat → Nat → Int32} {s : Wd}
theorem J_called (hC : CW pe ga hr tx rl xx bo lo pa dn nm sz hp dz dc rz rc kz kc s) (hM : MA a s) (hok : WOK s) (hT : MT d 0 s.2.2.1) (l : Int32) : ∃ r, f_x_called nm l = some r ∧ f_m_called (iN 0) a d l = some r := by
  cases h : inR l 8 with
  | false =>
    refine ⟨mI, ?_, ?_⟩
    · simp only [f_x_called, C_isName, h, Option.bind_some, nlit, bF0, ↓reduceIte]; rfl
    · simp only [f_m_called, nlit, M_isName, h, Option.bind_some, bF0, ↓reduceIte]; rfl
  | true =>
    obtain ⟨w, hw, rfl⟩ := inR_some h
    refine ⟨enO (hoS s.2.2.1 w 8 0), ?_, ?_⟩
    · simp only [f_x_called, C_isName, h, Option.bind_some, nlit, bT0, ↓reduceIte, C_holder hC.2.2.1 hok.2.1.1 hw]
    · simp only [f_m_called, nlit, M_isName, h, Option.bind_some, bT0, ↓reduceIte, M_holder hok.1.1 hM.1.1 hT (by decide) hok.2.1.1 (fun i n q => (hok.2.1.2.1 i n q).1) hw]
theorem J_owes (hC : CW pe ga hr tx rl xx bo lo pa dn nm sz hp dz dc rz rc kz kc s) (hM : MA a s) (hok : WOK s) (l : Int32) : ∃ r, f_x_owes dz dc l = some r ∧ f_m_owes a l = some r := by
  cases h : inR l 8 with
  | false =>
    refine ⟨mI, ?_, ?_⟩
    · simp only [f_x_owes, C_isName, h, Option.bind_some, nlit, bF0, ↓reduceIte]; rfl
    · simp only [f_m_owes, nlit, M_isName, h, Option.bind_some, bF0, ↓reduceIte]; rfl
  | true =>
    obtain ⟨w, hw, rfl⟩ := inR_some h
    have e1 := C_owed hC.2.2.2.1 hok.2.2.1.1 hok.2.2.1.2 (o := some w) (fun m q => by cases q; exact hw)
    rw [enO_some] at e1
    have e2 := M_owed hM.2.2.1.1 hM.2.2.1.2 hok.2.2.1.1 hok.2.2.1.2 hw
    exact ⟨iN (swS (fun q => decide (some w = some q.1)) s.2.2.2.1), by simp only [f_x_owes, C_isName, h, Option.bind_some, nlit, bT0, ↓reduceIte, e1], by simp only [f_m_owes, nlit, M_isName, h, Option.bind_some, bT0, ↓reduceIte, e2]⟩
theorem J_of (hC : CW pe ga hr tx rl xx bo lo pa dn nm sz hp dz dc rz rc kz kc s) (hM : MA a s) (hok : WOK s) (hT : MT d 0 s.2.2.1) (l v : Int32) : ∃ r, f_x_of pe bo dz dn pa dc nm l v = some r ∧ f_m_of a d l v = some r := by
  have hP := hok.1.1
  have hpe := hC.1.1
  subst hpe
  have g1 := C_hasPerson (l := l) (show s.1.1 < 100 by omega)
  have g2 := M_isPerson (l := l) hM.1.1 (show s.1.1 < 1000 by omega)
  cases h : inR l s.1.1 with
  | false =>
    rw [h] at g1 g2
    refine ⟨-2, ?_, ?_⟩
    · unfold f_x_of; rw [g1, Option.bind_some]; rfl
    · unfold f_m_of; rw [g2, Option.bind_some]; rfl
  | true =>
    rw [h] at g1 g2
    obtain ⟨w, hw, rfl⟩ := inR_some h
    have hw8 : w < 8 := by omega
    unfold f_x_of f_m_of
    rw [g1, g2, Option.bind_some, Option.bind_some]
    have hd : d w = enO (s.2.2.1.1 w) := by
      have := hT.1 w hw8
      rwa [Nat.zero_add] at this
    by_cases v0 : v = iN 0
    · subst v0
      refine ⟨enO (s.2.2.1.1 w), ?_, ?_⟩
      · simp (disch := omega) only [bT0, hC.2.2.1.nameOf hw8, nlit, onl, negone, iN_add, iN_mul, iN_sub, iN_pm, iN_addneg, iN_ix, iN_inb, iN_lt, iN_eq, iN_nneg, iN_nm, nm_iN, mI_neg, mI_nnn, ne_eq, not_true_eq_false, not_false_eq_true, true_and, and_true, bnd, Option.bind_some, ↓reduceIte, ltT, ltF, eqT, eqF, leT, leF]
      · simp (disch := omega) only [bT0, hd, nlit, onl, negone, iN_add, iN_mul, iN_sub, iN_pm, iN_addneg, iN_ix, iN_inb, iN_lt, iN_eq, iN_nneg, iN_nm, nm_iN, mI_neg, mI_nnn, ne_eq, not_true_eq_false, not_false_eq_true, true_and, and_true, bnd, Option.bind_some, ↓reduceIte, ltT, ltF, eqT, eqF, leT, leF]
    by_cases v1 : v = iN 1
    · subst v1
      refine ⟨s.2.1.2.2.1 w, ?_, ?_⟩
      · simp (disch := omega) only [bT0, hC.2.1.2.2.1 w hw8, nlit, onl, negone, iN_add, iN_mul, iN_sub, iN_pm, iN_addneg, iN_ix, iN_inb, iN_lt, iN_eq, iN_nneg, iN_nm, nm_iN, mI_neg, mI_nnn, ne_eq, not_true_eq_false, not_false_eq_true, true_and, and_true, bnd, Option.bind_some, ↓reduceIte, ltT, ltF, eqT, eqF, leT, leF]
      · simp (disch := omega) only [bT0, hM.2.1.2.2.1 w hw8, nlit, onl, negone, iN_add, iN_mul, iN_sub, iN_pm, iN_addneg, iN_ix, iN_inb, iN_lt, iN_eq, iN_nneg, iN_nm, nm_iN, mI_neg, mI_nnn, ne_eq, not_true_eq_false, not_false_eq_true, true_and, and_true, bnd, Option.bind_some, ↓reduceIte, ltT, ltF, eqT, eqF, leT, leF]
    by_cases v2 : v = iN 2
    · subst v2
      refine ⟨s.2.1.2.2.2 w, ?_, ?_⟩
      · simp (disch := omega) only [bT0, hC.2.1.2.2.2 w hw8, nlit, onl, negone, iN_add, iN_mul, iN_sub, iN_pm, iN_addneg, iN_ix, iN_inb, iN_lt, iN_eq, iN_nneg, iN_nm, nm_iN, mI_neg, mI_nnn, ne_eq, not_true_eq_false, not_false_eq_true, true_and, and_true, bnd, Option.bind_some, ↓reduceIte, ltT, ltF, eqT, eqF, leT, leF]
      · simp (disch := omega) only [bT0, hM.2.1.2.2.2 w hw8, nlit, onl, negone, iN_add, iN_mul, iN_sub, iN_pm, iN_addneg, iN_ix, iN_inb, iN_lt, iN_eq, iN_nneg, iN_nm, nm_iN, mI_neg, mI_nnn, ne_eq, not_true_eq_false, not_false_eq_true, true_and, and_true, bnd, Option.bind_some, ↓reduceIte, ltT, ltF, eqT, eqF, leT, leF]
    by_cases v3 : v = iN 3
    · subst v3
      have e1 := C_owed hC.2.2.2.1 hok.2.2.1.1 hok.2.2.1.2 (o := s.2.2.1.1 w) (fun m q => (hok.2.1.1.1 w m q).2)
      refine ⟨iN (swS (fun q => decide (s.2.2.1.1 w = some q.1)) s.2.2.2.1), ?_, ?_⟩
      · simp (disch := omega) only [bT0, hC.2.2.1.nameOf hw8, e1, nlit, onl, negone, iN_add, iN_mul, iN_sub, iN_pm, iN_addneg, iN_ix, iN_inb, iN_lt, iN_eq, iN_nneg, iN_nm, nm_iN, mI_neg, mI_nnn, ne_eq, not_true_eq_false, not_false_eq_true, true_and, and_true, bnd, Option.bind_some, ↓reduceIte, ltT, ltF, eqT, eqF, leT, leF]
      · cases hn : s.2.2.1.1 w with
        | none =>
          rw [hn, enO_none] at hd
          have e0 : ∀ l : List (Nat × Nat × Nat), swS (fun q => decide ((none : Option Nat) = some q.1)) l = 0 := by
            intro l
            induction l with
            | nil => rfl
            | cons q r ih => rw [swS, ih, if_neg (by rw [decide_eq_true_eq]; intro z; cases z)]
          rw [e0]
          simp (disch := omega) only [bT0, hd, nlit, onl, negone, iN_add, iN_mul, iN_sub, iN_pm, iN_addneg, iN_ix, iN_inb, iN_lt, iN_eq, iN_nneg, iN_nm, nm_iN, mI_neg, mI_nnn, ne_eq, not_true_eq_false, not_false_eq_true, true_and, and_true, bnd, Option.bind_some, ↓reduceIte, ltT, ltF, eqT, eqF, leT, leF]
        | some n =>
          have hn8 := (hok.2.1.1.1 w n hn).2
          rw [hn, enO_some] at hd
          have e2 := M_owed hM.2.2.1.1 hM.2.2.1.2 hok.2.2.1.1 hok.2.2.1.2 hn8
          simp (disch := omega) only [bT0, hd, e2, nlit, onl, negone, iN_add, iN_mul, iN_sub, iN_pm, iN_addneg, iN_ix, iN_inb, iN_lt, iN_eq, iN_nneg, iN_nm, nm_iN, mI_neg, mI_nnn, ne_eq, not_true_eq_false, not_false_eq_true, true_and, and_true, bnd, Option.bind_some, ↓reduceIte, ltT, ltF, eqT, eqF, leT, leF]
    by_cases v4 : v = iN 4
    · subst v4
      have e1 := C_did hC.2.2.2.1 hok.2.2.1.1 hok.2.2.1.2 hw8
      have e2 := M_did hM.2.2.1.1 hM.2.2.1.2 hok.2.2.1.1 hok.2.2.1.2 hw8
      refine ⟨iN (swS (fun q => decide (w = q.2.2)) s.2.2.2.1), ?_, ?_⟩
      · simp (disch := omega) only [bT0, e1, nlit, onl, negone, iN_add, iN_mul, iN_sub, iN_pm, iN_addneg, iN_ix, iN_inb, iN_lt, iN_eq, iN_nneg, iN_nm, nm_iN, mI_neg, mI_nnn, ne_eq, not_true_eq_false, not_false_eq_true, true_and, and_true, bnd, Option.bind_some, ↓reduceIte, ltT, ltF, eqT, eqF, leT, leF]
      · simp (disch := omega) only [bT0, e2, nlit, onl, negone, iN_add, iN_mul, iN_sub, iN_pm, iN_addneg, iN_ix, iN_inb, iN_lt, iN_eq, iN_nneg, iN_nm, nm_iN, mI_neg, mI_nnn, ne_eq, not_true_eq_false, not_false_eq_true, true_and, and_true, bnd, Option.bind_some, ↓reduceIte, ltT, ltF, eqT, eqF, leT, leF]
    by_cases v5 : v = iN 5
    · subst v5
      have e1 := hC.2.1.1 w hw8
      have e2 := hM.2.1.1 w hw8
      refine ⟨b01 (s.2.1.1 w), ?_, ?_⟩
      · cases hb : s.2.1.1 w with
        | true => rw [hb] at e1; simp (disch := omega) only [bT0, e1, nlit, onl, negone, iN_add, iN_mul, iN_sub, iN_pm, iN_addneg, iN_ix, iN_inb, iN_lt, iN_eq, iN_nneg, iN_nm, nm_iN, mI_neg, mI_nnn, ne_eq, not_true_eq_false, not_false_eq_true, true_and, and_true, bnd, Option.bind_some, ↓reduceIte, ltT, ltF, eqT, eqF, leT, leF]; rfl
        | false => rw [hb] at e1; simp (disch := omega) only [bT0, bF0, e1, nlit, onl, negone, iN_add, iN_mul, iN_sub, iN_pm, iN_addneg, iN_ix, iN_inb, iN_lt, iN_eq, iN_nneg, iN_nm, nm_iN, mI_neg, mI_nnn, ne_eq, not_true_eq_false, not_false_eq_true, true_and, and_true, bnd, Option.bind_some, ↓reduceIte, ltT, ltF, eqT, eqF, leT, leF]; rfl
      · simp (disch := omega) only [bT0, e2, nlit, onl, negone, iN_add, iN_mul, iN_sub, iN_pm, iN_addneg, iN_ix, iN_inb, iN_lt, iN_eq, iN_nneg, iN_nm, nm_iN, mI_neg, mI_nnn, ne_eq, not_true_eq_false, not_false_eq_true, true_and, and_true, bnd, Option.bind_some, ↓reduceIte, ltT, ltF, eqT, eqF, leT, leF]
    refine ⟨-2, ?_, ?_⟩
    · simp only [nlit, bT0, v0, v1, v2, v3, v4, v5, ↓reduceIte]
    · simp only [nlit, bT0, v0, v1, v2, v3, v4, v5, ↓reduceIte]
theorem J_heap (hC : CW pe ga hr tx rl xx bo lo pa dn nm sz hp dz dc rz rc kz kc s) (hM : MA a s) (hok : WOK s) (hT : MT d 0 s.2.2.1) (l v : Int32) : ∃ r, f_x_heap ga sz hp l v = some r ∧ f_m_heap a d l v = some r := by
  have hG := hok.1.2.1
  have hga := hC.1.2.1
  subst hga
  have g1 := C_hasGate (l := l) (show s.1.2.1 < 100 by omega)
  have g2 := M_isGate (l := l) hM.1.2.1 (show s.1.2.1 < 1000 by omega)
  cases h : inR l s.1.2.1 with
  | false =>
    rw [h] at g1 g2
    refine ⟨-1, ?_, ?_⟩
    · unfold f_x_heap; rw [g1, Option.bind_some]; rfl
    · unfold f_m_heap; rw [g2, Option.bind_some]; rfl
  | true =>
    rw [h] at g1 g2
    obtain ⟨g, hg, rfl⟩ := inR_some h
    have hg3 : g < 3 := by omega
    have hl8 := hok.2.1.1.len g
    have hd : d (8 + g) = iN (s.2.2.1.2 g).length := by
      have := hT.2.1 g hg3
      rwa [show 0 + 8 + g = 8 + g by omega] at this
    unfold f_x_heap f_m_heap
    rw [g1, g2, Option.bind_some, Option.bind_some]
    by_cases v0 : v = mI
    · subst v0
      refine ⟨iN (s.2.2.1.2 g).length, ?_, ?_⟩
      · simp (disch := omega) only [bT0, hC.2.2.1.sizeOf hg3, nlit, onl, negone, iN_add, iN_mul, iN_sub, iN_pm, iN_addneg, iN_ix, iN_inb, iN_lt, iN_eq, iN_nneg, iN_nm, nm_iN, mI_neg, mI_nnn, ne_eq, not_true_eq_false, not_false_eq_true, true_and, and_true, bnd, Option.bind_some, ↓reduceIte, ltT, ltF, eqT, eqF, leT, leF]
      · simp (disch := omega) only [bT0, hd, nlit, onl, negone, iN_add, iN_mul, iN_sub, iN_pm, iN_addneg, iN_ix, iN_inb, iN_lt, iN_eq, iN_nneg, iN_nm, nm_iN, mI_neg, mI_nnn, ne_eq, not_true_eq_false, not_false_eq_true, true_and, and_true, bnd, Option.bind_some, ↓reduceIte, ltT, ltF, eqT, eqF, leT, leF]
    · cases hv : inR v (s.2.2.1.2 g).length with
      | true =>
        obtain ⟨k, hk, rfl⟩ := inR_some hv
        have hkk : (s.2.2.1.2 g)[k]? = some (s.2.2.1.2 g)[k] := List.getElem?_eq_getElem hk
        have hh := hT.2.2 g k _ hg3 hkk
        rw [show 0 + 11 + 8 * g + k = 11 + 8 * g + k by omega] at hh
        have e2 := M_isIn0 (l := iN k) (show (s.2.2.1.2 g).length < 1000 by omega)
        rw [hv] at e2
        refine ⟨iN (s.2.2.1.2 g)[k], ?_, ?_⟩
        · simp (disch := omega) only [bT0, hC.2.2.1.nameAt hok.2.1.1 hg3 hkk, nlit, onl, negone, iN_add, iN_mul, iN_sub, iN_pm, iN_addneg, iN_ix, iN_inb, iN_lt, iN_eq, iN_nneg, iN_nm, nm_iN, mI_neg, mI_nnn, ne_eq, not_true_eq_false, not_false_eq_true, true_and, and_true, bnd, Option.bind_some, ↓reduceIte, ltT, ltF, eqT, eqF, leT, leF]
        · rw [show (8 : Int32) + iN g = iN (8 + g) from iN_add]
          simp only [nlit, iN_ix (show 8 + g < 2147483648 by omega), hd, e2, Option.bind_some]
          simp (disch := omega) only [bT0, hh, nlit, onl, negone, iN_add, iN_mul, iN_sub, iN_pm, iN_addneg, iN_ix, iN_inb, iN_lt, iN_eq, iN_nneg, iN_nm, nm_iN, mI_neg, mI_nnn, ne_eq, not_true_eq_false, not_false_eq_true, true_and, and_true, bnd, Option.bind_some, ↓reduceIte, ltT, ltF, eqT, eqF, leT, leF]
      | false =>
        have e2 := M_isIn0 (l := v) (show (s.2.2.1.2 g).length < 1000 by omega)
        rw [hv] at e2
        have hv' : v.toInt < 0 ∨ ((s.2.2.1.2 g).length : Int) ≤ v.toInt := by
          unfold inR at hv
          rw [decide_eq_false_iff_not] at hv
          omega
        refine ⟨mI, ?_, ?_⟩
        · have e3 : f_town_nameAt sz hp (iN g) v = some mI := by
            unfold f_town_nameAt
            rw [hC.2.2.1.sizeOf hg3, Option.bind_some]
            simp only [nlit, negone, Int32.lt_iff_toInt_lt, iN_toInt (show (s.2.2.1.2 g).length < 2147483648 by omega), i0_toInt]
            by_cases q : v.toInt < 0
            · rw [if_pos q]
            · rw [if_neg q, if_neg (by omega)]
          simp only [nlit, negone, bT0, v0, e3, ↓reduceIte, Option.bind_some]
        · rw [show (8 : Int32) + iN g = iN (8 + g) from iN_add]
          simp (disch := omega) only [nlit, negone, iN_ix, iN_inb, hd, e2, Option.bind_some, bT0, bF0, v0, ↓reduceIte, ltT, ltF, eqT, eqF, leT, leF]
def ciS (t : Tn) : Nat → Nat → Nat
  | 0, _ => 0
  | m + 1, i => (if (t.1 i).isSome then 1 else 0) + ciS t m (i + 1)
theorem C_ciLoop {t : Tn} {P : Nat} (hP : P ≤ 8) (h : CT nm sz hp t) (ht : TW t) : ∀ (m i k acc : Nat), i + m = P → m < k → itr (un2 (fb_world_countInside_4 (iN P) nm)) k (iN acc, iN i) = some (iN (acc + ciS t m i))
  | 0, i, k, acc, hi, hk => by
    obtain ⟨k, rfl⟩ : ∃ z, k = z + 1 := ⟨k - 1, by omega⟩
    refine itr_end ?_
    simp (disch := omega) only [un2, fb_world_countInside_4, nlit, onl, negone, iN_add, iN_mul, iN_sub, iN_pm, iN_addneg, iN_ix, iN_inb, iN_lt, iN_eq, iN_nneg, iN_nm, nm_iN, mI_neg, mI_nnn, ne_eq, not_true_eq_false, not_false_eq_true, true_and, and_true, bnd, Option.bind_some, ↓reduceIte, ltT, ltF, eqT, eqF, leT, leF, ciS, Nat.add_zero]
  | m + 1, i, k, acc, hi, hk => by
    obtain ⟨k, rfl⟩ : ∃ z, k = z + 1 := ⟨k - 1, by omega⟩
    have hi8 : i < 8 := by omega
    have hp1 := C_hasPerson (l := iN i) (show P < 100 by omega)
    rw [inR_iN (by omega), decide_eq_true (show i < P by omega)] at hp1
    rw [ciS]
    cases q : t.1 i with
    | none =>
      rw [itr_step (s' := (iN acc, iN (i + 1))), C_ciLoop hP h ht m (i + 1) k acc (by omega) (by omega), Option.isSome_none, if_neg (by decide), Nat.zero_add]
      simp (disch := omega) only [un2, fb_world_countInside_4, f_world_isInside, hp1, bT0, h.nameOf hi8, q, enO_none, nlit, onl, negone, iN_add, iN_mul, iN_sub, iN_pm, iN_addneg, iN_ix, iN_inb, iN_lt, iN_eq, iN_nneg, iN_nm, nm_iN, mI_neg, mI_nnn, ne_eq, not_true_eq_false, not_false_eq_true, true_and, and_true, bnd, Option.bind_some, ↓reduceIte, ltT, ltF, eqT, eqF, leT, leF]
    | some n =>
      have hn := (ht.1 i n q).2
      rw [itr_step (s' := (iN (acc + 1), iN (i + 1))), C_ciLoop hP h ht m (i + 1) k (acc + 1) (by omega) (by omega), Option.isSome_some, if_pos rfl, Nat.add_assoc]
      simp (disch := omega) only [un2, fb_world_countInside_4, f_world_isInside, hp1, bT0, h.nameOf hi8, q, enO_some, nlit, onl, negone, iN_add, iN_mul, iN_sub, iN_pm, iN_addneg, iN_ix, iN_inb, iN_lt, iN_eq, iN_nneg, iN_nm, nm_iN, mI_neg, mI_nnn, ne_eq, not_true_eq_false, not_false_eq_true, true_and, and_true, bnd, Option.bind_some, ↓reduceIte, ltT, ltF, eqT, eqF, leT, leF]
theorem M_ciLoop {t : Tn} {P : Nat} (hP : P ≤ 8) (h0 : a 0 = iN P) (h : MT d 0 t) (ht : TW t) : ∀ (m i k acc : Nat), i + m = P → m < k → itr (un2 (fb_m_about_4 a d)) k (iN acc, iN i) = some (iN (acc + ciS t m i))
  | 0, i, k, acc, hi, hk => by
    obtain ⟨k, rfl⟩ : ∃ z, k = z + 1 := ⟨k - 1, by omega⟩
    refine itr_end ?_
    simp (disch := omega) only [un2, fb_m_about_4, h0, nlit, onl, negone, iN_add, iN_mul, iN_sub, iN_pm, iN_addneg, iN_ix, iN_inb, iN_lt, iN_eq, iN_nneg, iN_nm, nm_iN, mI_neg, mI_nnn, ne_eq, not_true_eq_false, not_false_eq_true, true_and, and_true, bnd, Option.bind_some, ↓reduceIte, ltT, ltF, eqT, eqF, leT, leF, ciS, Nat.add_zero]
  | m + 1, i, k, acc, hi, hk => by
    obtain ⟨k, rfl⟩ : ∃ z, k = z + 1 := ⟨k - 1, by omega⟩
    have hi8 : i < 8 := by omega
    have hd : d i = enO (t.1 i) := by
      have := h.1 i hi8
      rwa [Nat.zero_add] at this
    rw [ciS]
    cases q : t.1 i with
    | none =>
      rw [q, enO_none] at hd
      rw [itr_step (s' := (iN acc, iN (i + 1))), M_ciLoop hP h0 h ht m (i + 1) k acc (by omega) (by omega), Option.isSome_none, if_neg (by decide), Nat.zero_add]
      simp (disch := omega) only [un2, fb_m_about_4, h0, hd, nlit, onl, negone, iN_add, iN_mul, iN_sub, iN_pm, iN_addneg, iN_ix, iN_inb, iN_lt, iN_eq, iN_nneg, iN_nm, nm_iN, mI_neg, mI_nnn, ne_eq, not_true_eq_false, not_false_eq_true, true_and, and_true, bnd, Option.bind_some, ↓reduceIte, ltT, ltF, eqT, eqF, leT, leF, Nat.add_zero]
    | some n =>
      have hn := (ht.1 i n q).2
      rw [q, enO_some] at hd
      rw [itr_step (s' := (iN (acc + 1), iN (i + 1))), M_ciLoop hP h0 h ht m (i + 1) k (acc + 1) (by omega) (by omega), Option.isSome_some, if_pos rfl, Nat.add_assoc]
      simp (disch := omega) only [un2, fb_m_about_4, h0, hd, nlit, onl, negone, iN_add, iN_mul, iN_sub, iN_pm, iN_addneg, iN_ix, iN_inb, iN_lt, iN_eq, iN_nneg, iN_nm, nm_iN, mI_neg, mI_nnn, ne_eq, not_true_eq_false, not_false_eq_true, true_and, and_true, bnd, Option.bind_some, ↓reduceIte, ltT, ltF, eqT, eqF, leT, leF]
theorem C_countInside {t : Tn} {P : Nat} (hP : P ≤ 8) (h : CT nm sz hp t) (ht : TW t) : f_world_countInside (iN P) nm = some (iN (ciS t P 0)) := by
  have := C_ciLoop hP h ht P 0 KF 0 (by omega) (kf_lt (by omega))
  rw [Nat.zero_add] at this
  simp only [f_world_countInside, nlit, this, Option.bind_some]
theorem J_about (hC : CW pe ga hr tx rl xx bo lo pa dn nm sz hp dz dc rz rc kz kc s) (hM : MA a s) (hok : WOK s) (hT : MT d 0 s.2.2.1) (len l : Int32) : ∃ r, f_x_about pe ga hr tx rl xx len kz rz dz nm l = some r ∧ f_m_about len a d l = some r := by
  obtain ⟨⟨c1, c2, c3, c4, c5, c6⟩, -, cT, cD, cR, cK⟩ := hC
  obtain ⟨⟨m1, m2, m3, m4, m5, m6⟩, -, ⟨m11, -⟩, ⟨m13, -⟩, ⟨m15, -⟩⟩ := hM
  have hP := hok.1.1
  have e1 := C_countInside hP cT hok.2.1.1
  have e2 := M_ciLoop hP m1 hT hok.2.1.1 s.1.1 0 KF 0 (by omega) (kf_lt (by omega))
  rw [Nat.zero_add] at e2
  have d1 := cD.1
  have d2 := cR.1
  have d3 := cK.1
  subst c1 c2 c3 c4 c5 c6 d1 d2 d3
  unfold f_x_about f_m_about
  simp only [nlit, negone, e1, e2, Option.bind_some, m1, m2, m3, m4, m5, m6, m11, m13, m15]
  exact ex2 (by
    repeat' (first | rfl | split)
    all_goals (by_cases hz : l = iN 10 <;> (simp only [hz, ↓reduceIte]; rfl)))

theorem J_row (hC : CW pe ga hr tx rl xx bo lo pa dn nm sz hp dz dc rz rc kz kc s) (hM : MA a s) (hok : WOK s) (l v : Int32) : ∃ r rz' rc' a' s', f_x_row pe ga rz rc l v = some (r, rz', rc') ∧ f_m_row a l v = some (r, a') ∧ CW pe ga hr tx rl xx bo lo pa dn nm sz hp dz dc rz' rc' kz kc s' ∧ MA a' s' ∧ s'.2.2.1 = s.2.2.1 ∧ WOK s' ∧ s'.1.2.2.2.1 = s.1.2.2.2.1 := by
  obtain ⟨⟨c1, c2, c3, c4, c5, c6⟩, ⟨c7, c8, c9, c10⟩, cT, cD, cR, cK⟩ := hC
  obtain ⟨⟨m1, m2, m3, m4, m5, m6⟩, ⟨m7, m8, m9, m10⟩, ⟨m11, m12⟩, ⟨m13, m14⟩, ⟨m15, m16, m17⟩⟩ := hM
  obtain ⟨⟨k1, k2, k3, k4, k5, k6⟩, ⟨k7, k8, k9⟩, ⟨kD, kD2⟩, ⟨kR, kR2⟩, ⟨kK, kK2⟩⟩ := id hok
  by_cases h1 : l = mI
  · subst h1
    refine ⟨iN 0, iN 0, rc, upd a 6 (iN 0), (s.1, s.2.1, s.2.2.1, s.2.2.2.1, [], s.2.2.2.2.2), ?_, ?_, ⟨⟨c1, c2, c3, c4, c5, c6⟩, ⟨c7, c8, c9, c10⟩, cT, cD, ⟨rfl, fun k q hk => by cases hk⟩, cK⟩, ⟨⟨?_, ?_, ?_, ?_, ?_, ?_⟩, ⟨fun i hi => ?_, fun g hg => ?_, fun i hi => ?_, fun i hi => ?_⟩, ⟨?_, fun k q hk => ?_⟩, ⟨?_, fun k q hk => ?_⟩, ⟨?_, fun k hk => ?_, fun k q hk => ?_⟩⟩, rfl, ⟨⟨k1, k2, k3, k4, k5, k6⟩, ⟨k7, k8, k9⟩, ⟨kD, kD2⟩, ⟨Nat.zero_le _, fun q hq => absurd hq List.not_mem_nil⟩, ⟨kK, kK2⟩⟩, rfl⟩
    · simp (disch := omega) only [f_x_row, nlit, onl, negone, iN_add, iN_mul, iN_sub, iN_pm, iN_addneg, iN_ix, iN_inb, iN_lt, iN_eq, iN_nneg, iN_nm, nm_iN, mI_neg, mI_nnn, ne_eq, not_true_eq_false, not_false_eq_true, true_and, and_true, bnd, Option.bind_some, ↓reduceIte, ltT, ltF, eqT, eqF, leT, leF]
    · simp (disch := omega) only [f_m_row, nlit, onl, negone, iN_add, iN_mul, iN_sub, iN_pm, iN_addneg, iN_ix, iN_inb, iN_lt, iN_eq, iN_nneg, iN_nm, nm_iN, mI_neg, mI_nnn, ne_eq, not_true_eq_false, not_false_eq_true, true_and, and_true, bnd, Option.bind_some, ↓reduceIte, ltT, ltF, eqT, eqF, leT, leF]
    · simp (disch := omega) only [upd_same, upd_ne, upd_eq]; exact m1
    · simp (disch := omega) only [upd_same, upd_ne, upd_eq]; exact m2
    · simp (disch := omega) only [upd_same, upd_ne, upd_eq]; exact m3
    · simp (disch := omega) only [upd_same, upd_ne, upd_eq]; exact m4
    · simp (disch := omega) only [upd_same, upd_ne, upd_eq]; exact m5
    · simp (disch := omega) only [upd_same, upd_ne, upd_eq]; exact m6
    · simp (disch := omega) only [upd_same, upd_ne, upd_eq]; exact m7 i hi
    · simp (disch := omega) only [upd_same, upd_ne, upd_eq]; exact m8 g hg
    · simp (disch := omega) only [upd_same, upd_ne, upd_eq]; exact m9 i hi
    · simp (disch := omega) only [upd_same, upd_ne, upd_eq]; exact m10 i hi
    · simp (disch := omega) only [upd_same, upd_ne, upd_eq]; exact m11
    · have hkl : k < s.2.2.2.1.length := (List.getElem?_eq_some_iff.mp hk).1
      simp (disch := omega) only [upd_same, upd_ne, upd_eq]; exact m12 k q hk
    · simp (disch := omega) only [upd_same, upd_ne, upd_eq]; rfl
    · cases hk
    · simp (disch := omega) only [upd_same, upd_ne, upd_eq]; exact m15
    · have hkl : k < s.2.2.2.2.2.length := (List.getElem?_eq_some_iff.mp hk).1
      simp (disch := omega) only [upd_same, upd_ne, upd_eq]; exact m16 k hk
    · have hkl : k < s.2.2.2.2.2.length := (List.getElem?_eq_some_iff.mp hk).1
      simp (disch := omega) only [upd_same, upd_ne, upd_eq]; exact m17 k q hk
  · subst c1 c2
    have g1 := C_hasPerson (l := l) (show s.1.1 < 100 by omega)
    have g2 := M_isPerson (l := l) m1 (show s.1.1 < 1000 by omega)
    have same : ∀ (q1 : f_x_row (iN s.1.1) (iN s.1.2.1) rz rc l v = some (mI, rz, rc)) (q2 : f_m_row a l v = some (mI, a)), ∃ r rz' rc' a' s', f_x_row (iN s.1.1) (iN s.1.2.1) rz rc l v = some (r, rz', rc') ∧ f_m_row a l v = some (r, a') ∧ CW (iN s.1.1) (iN s.1.2.1) hr tx rl xx bo lo pa dn nm sz hp dz dc rz' rc' kz kc s' ∧ MA a' s' ∧ s'.2.2.1 = s.2.2.1 ∧ WOK s' ∧ s'.1.2.2.2.1 = s.1.2.2.2.1 := fun q1 q2 => ⟨mI, rz, rc, a, s, q1, q2, ⟨⟨rfl, rfl, c3, c4, c5, c6⟩, ⟨c7, c8, c9, c10⟩, cT, cD, cR, cK⟩, ⟨⟨m1, m2, m3, m4, m5, m6⟩, ⟨m7, m8, m9, m10⟩, ⟨m11, m12⟩, ⟨m13, m14⟩, ⟨m15, m16, m17⟩⟩, rfl, hok, rfl⟩
    cases h : inR l s.1.1 with
    | false =>
      rw [h] at g1 g2
      refine same ?_ ?_
      · simp only [f_x_row, nlit, negone, h1, g1, bF0, Option.bind_some, ↓reduceIte]
      · simp only [f_m_row, nlit, negone, h1, g2, bF0, Option.bind_some, ↓reduceIte]
    | true =>
      rw [h] at g1 g2
      have g3 := C_hasGate (l := v) (show s.1.2.1 < 100 by omega)
      have g4 := M_isGate (l := v) m2 (show s.1.2.1 < 1000 by omega)
      cases h' : inR v s.1.2.1 with
      | false =>
        rw [h'] at g3 g4
        refine same ?_ ?_
        · simp only [f_x_row, nlit, negone, h1, g1, g3, bT0, bF0, Option.bind_some, ↓reduceIte]
        · simp only [f_m_row, nlit, negone, h1, g2, g4, bT0, bF0, Option.bind_some, ↓reduceIte]
      | true =>
        rw [h'] at g3 g4
        have c1' := cR.1
        by_cases h12 : s.2.2.2.2.1.length = 12
        · refine same ?_ ?_
          · rw [c1']
            simp (disch := omega) only [f_x_row, h1, g1, g3, bT0, tri_add0, un3, nlit, onl, negone, iN_add, iN_mul, iN_sub, iN_pm, iN_addneg, iN_ix, iN_inb, iN_lt, iN_eq, iN_nneg, iN_nm, nm_iN, mI_neg, mI_nnn, ne_eq, not_true_eq_false, not_false_eq_true, true_and, and_true, bnd, Option.bind_some, ↓reduceIte, ltT, ltF, eqT, eqF, leT, leF]
          · simp (disch := omega) only [f_m_row, h1, g2, g4, bT0, m13, nlit, onl, negone, iN_add, iN_mul, iN_sub, iN_pm, iN_addneg, iN_ix, iN_inb, iN_lt, iN_eq, iN_nneg, iN_nm, nm_iN, mI_neg, mI_nnn, ne_eq, not_true_eq_false, not_false_eq_true, true_and, and_true, bnd, Option.bind_some, ↓reduceIte, ltT, ltF, eqT, eqF, leT, leF]
        · obtain ⟨w, hw, rfl⟩ := inR_some h
          obtain ⟨g, hg, rfl⟩ := inR_some h'
          refine ⟨iN (s.2.2.2.2.1.length + 1), iN (s.2.2.2.2.1.length + 1), upd (upd (upd rc (s.2.2.2.2.1.length * 3) (iN w)) (s.2.2.2.2.1.length * 3 + 1) (iN g)) (s.2.2.2.2.1.length * 3 + 2) (iN 0), upd (upd (upd a (100 + 2 * s.2.2.2.2.1.length) (iN w)) (100 + 2 * s.2.2.2.2.1.length + 1) (iN g)) 6 (iN (s.2.2.2.2.1.length + 1)), (s.1, s.2.1, s.2.2.1, s.2.2.2.1, s.2.2.2.2.1 ++ [(w, g)], s.2.2.2.2.2), ?_, ?_, ⟨⟨rfl, rfl, c3, c4, c5, c6⟩, ⟨c7, c8, c9, c10⟩, cT, cD, ⟨by rw [List.length_append]; rfl, fun k q hk => ?_⟩, cK⟩, ⟨⟨?_, ?_, ?_, ?_, ?_, ?_⟩, ⟨fun i hi => ?_, fun g hg => ?_, fun i hi => ?_, fun i hi => ?_⟩, ⟨?_, fun k q hk => ?_⟩, ⟨?_, fun k q hk => ?_⟩, ⟨?_, fun k hk => ?_, fun k q hk => ?_⟩⟩, rfl, ⟨⟨k1, k2, k3, k4, k5, k6⟩, ⟨k7, k8, k9⟩, ⟨kD, kD2⟩, ⟨by rw [List.length_append, List.length_singleton]; omega, fun q hq => ?_⟩, ⟨kK, kK2⟩⟩, rfl⟩
          · rw [c1']
            simp (disch := omega) only [f_x_row, h1, g1, g3, bT0, tri_add, un3, nlit, onl, negone, iN_add, iN_mul, iN_sub, iN_pm, iN_addneg, iN_ix, iN_inb, iN_lt, iN_eq, iN_nneg, iN_nm, nm_iN, mI_neg, mI_nnn, ne_eq, not_true_eq_false, not_false_eq_true, true_and, and_true, bnd, Option.bind_some, ↓reduceIte, ltT, ltF, eqT, eqF, leT, leF]
          · simp (disch := omega) only [f_m_row, h1, g2, g4, bT0, m13, nlit, onl, negone, iN_add, iN_mul, iN_sub, iN_pm, iN_addneg, iN_ix, iN_inb, iN_lt, iN_eq, iN_nneg, iN_nm, nm_iN, mI_neg, mI_nnn, ne_eq, not_true_eq_false, not_false_eq_true, true_and, and_true, bnd, Option.bind_some, ↓reduceIte, ltT, ltF, eqT, eqF, leT, leF, upd_same, upd_ne, upd_eq]
          · rcases in_app hk with ⟨hkl, hk⟩ | ⟨rfl, rfl⟩
            · simp (disch := omega) only [upd_same, upd_ne, upd_eq]; exact cR.2 k q hk
            · simp (disch := omega) only [upd_same, upd_ne, upd_eq]; exact ⟨trivial, trivial⟩
          · simp (disch := omega) only [upd_same, upd_ne, upd_eq]; exact m1
          · simp (disch := omega) only [upd_same, upd_ne, upd_eq]; exact m2
          · simp (disch := omega) only [upd_same, upd_ne, upd_eq]; exact m3
          · simp (disch := omega) only [upd_same, upd_ne, upd_eq]; exact m4
          · simp (disch := omega) only [upd_same, upd_ne, upd_eq]; exact m5
          · simp (disch := omega) only [upd_same, upd_ne, upd_eq]; exact m6
          · simp (disch := omega) only [upd_same, upd_ne, upd_eq]; exact m7 i hi
          · simp (disch := omega) only [upd_same, upd_ne, upd_eq]; exact m8 g hg
          · simp (disch := omega) only [upd_same, upd_ne, upd_eq]; exact m9 i hi
          · simp (disch := omega) only [upd_same, upd_ne, upd_eq]; exact m10 i hi
          · simp (disch := omega) only [upd_same, upd_ne, upd_eq]; exact m11
          · have hkl : k < s.2.2.2.1.length := (List.getElem?_eq_some_iff.mp hk).1
            simp (disch := omega) only [upd_same, upd_ne, upd_eq]; exact m12 k q hk
          · rw [upd_same, List.length_append]; rfl
          · rcases in_app hk with ⟨hkl, hk⟩ | ⟨rfl, rfl⟩
            · simp (disch := omega) only [upd_same, upd_ne, upd_eq]; exact m14 k q hk
            · simp (disch := omega) only [upd_same, upd_ne, upd_eq]; exact ⟨trivial, trivial⟩
          · simp (disch := omega) only [upd_same, upd_ne, upd_eq]; exact m15
          · have hkl : k < s.2.2.2.2.2.length := (List.getElem?_eq_some_iff.mp hk).1
            simp (disch := omega) only [upd_same, upd_ne, upd_eq]; exact m16 k hk
          · have hkl : k < s.2.2.2.2.2.length := (List.getElem?_eq_some_iff.mp hk).1
            simp (disch := omega) only [upd_same, upd_ne, upd_eq]; exact m17 k q hk
          · rcases List.mem_append.mp hq with hq | hq
            · exact kR2 q hq
            · rw [List.mem_singleton] at hq
              subst hq
              exact ⟨hw, hg⟩

theorem J_deed (hC : CW pe ga hr tx rl xx bo lo pa dn nm sz hp dz dc rz rc kz kc s) (hM : MA a s) (hok : WOK s) (hT : MT d 0 s.2.2.1) (l v : Int32) : ∃ r dz' dc' a' s', f_x_deed dz nm dc l v = some (r, dz', dc') ∧ f_m_deed (iN 0) a d l v = some (r, a') ∧ CW pe ga hr tx rl xx bo lo pa dn nm sz hp dz' dc' rz rc kz kc s' ∧ MA a' s' ∧ s'.2.2.1 = s.2.2.1 ∧ WOK s' ∧ s'.1.2.2.2.1 = s.1.2.2.2.1 := by
  obtain ⟨⟨c1, c2, c3, c4, c5, c6⟩, ⟨c7, c8, c9, c10⟩, cT, cD, cR, cK⟩ := hC
  obtain ⟨⟨m1, m2, m3, m4, m5, m6⟩, ⟨m7, m8, m9, m10⟩, ⟨m11, m12⟩, ⟨m13, m14⟩, ⟨m15, m16, m17⟩⟩ := hM
  obtain ⟨⟨k1, k2, k3, k4, k5, k6⟩, ⟨k7, k8, k9⟩, ⟨kD, kD2⟩, ⟨kR, kR2⟩, ⟨kK, kK2⟩⟩ := id hok
  have same : ∀ (q1 : f_x_deed dz nm dc l v = some (mI, dz, dc)) (q2 : f_m_deed (iN 0) a d l v = some (mI, a)), ∃ r dz' dc' a' s', f_x_deed dz nm dc l v = some (r, dz', dc') ∧ f_m_deed (iN 0) a d l v = some (r, a') ∧ CW pe ga hr tx rl xx bo lo pa dn nm sz hp dz' dc' rz rc kz kc s' ∧ MA a' s' ∧ s'.2.2.1 = s.2.2.1 ∧ WOK s' ∧ s'.1.2.2.2.1 = s.1.2.2.2.1 := fun q1 q2 => ⟨mI, dz, dc, a, s, q1, q2, ⟨⟨c1, c2, c3, c4, c5, c6⟩, ⟨c7, c8, c9, c10⟩, cT, cD, cR, cK⟩, ⟨⟨m1, m2, m3, m4, m5, m6⟩, ⟨m7, m8, m9, m10⟩, ⟨m11, m12⟩, ⟨m13, m14⟩, ⟨m15, m16, m17⟩⟩, rfl, hok, rfl⟩
  cases h : inR l 8 with
  | false =>
    refine same ?_ ?_
    · simp only [f_x_deed, nlit, negone, C_isName, h, bF0, Option.bind_some, ↓reduceIte]
    · simp only [f_m_deed, nlit, negone, M_isName, h, bF0, Option.bind_some, ↓reduceIte]
  | true =>
    have i1 : (iN 1).toInt = 1 := rfl
    have i9 : (iN 999).toInt = 999 := rfl
    by_cases hv : 1 ≤ v.toInt ∧ v.toInt ≤ 999
    · obtain ⟨w, hw, rfl⟩ := inR_some h
      obtain ⟨n, hn1, hn2, rfl⟩ : ∃ n, 1 ≤ n ∧ n ≤ 999 ∧ v = iN n := by
        refine ⟨v.toInt.toNat, by omega, by omega, ?_⟩
        rw [← zI_iN, Int.toNat_of_nonneg (by omega)]
        exact (Int32.ofInt_toInt v).symm
      have e0 : f_m_isIn (iN n) (iN 1) (iN 999) = some (iN 1) := by simp (disch := omega) only [f_m_isIn, nlit, onl, negone, iN_add, iN_mul, iN_sub, iN_pm, iN_addneg, iN_ix, iN_inb, iN_lt, iN_eq, iN_nneg, iN_nm, nm_iN, mI_neg, mI_nnn, ne_eq, not_true_eq_false, not_false_eq_true, true_and, and_true, bnd, Option.bind_some, ↓reduceIte, ltT, ltF, eqT, eqF, leT, leF]
      have e3 : ¬ iN 1 = iN 0 := by decide
      have e1 := C_holder cT k7 hw
      have e2 := fun (a' : Nat → Int32) (ha : a' 0 = iN s.1.1) => M_holder (a := a') k1 ha hT (by decide) k7 (fun i n q => (k8 i n q).1) hw
      have e2a := e2 a m1
      cases ho : hoS s.2.2.1 w 8 0 with
      | none =>
        rw [ho, enO_none] at e1 e2a
        refine same ?_ ?_
        · simp (disch := omega) only [f_x_deed, C_isName, h, bT0, e1, nlit, onl, negone, iN_add, iN_mul, iN_sub, iN_pm, iN_addneg, iN_ix, iN_inb, iN_lt, iN_eq, iN_nneg, iN_nm, nm_iN, mI_neg, mI_nnn, ne_eq, not_true_eq_false, not_false_eq_true, true_and, and_true, bnd, Option.bind_some, ↓reduceIte, ltT, ltF, eqT, eqF, leT, leF]
        · simp (disch := omega) only [f_m_deed, nlit, M_isName, h, bT0, e0, e3, e2a, nlit, onl, negone, iN_add, iN_mul, iN_sub, iN_pm, iN_addneg, iN_ix, iN_inb, iN_lt, iN_eq, iN_nneg, iN_nm, nm_iN, mI_neg, mI_nnn, ne_eq, not_true_eq_false, not_false_eq_true, true_and, and_true, bnd, Option.bind_some, ↓reduceIte, ltT, ltF, eqT, eqF, leT, leF]
      | some j =>
        have hj := hoS_lt 8 0 j ho
        rw [ho, enO_some] at e1 e2a
        have cD1 := cD.1
        by_cases h20 : s.2.2.2.1.length = 20
        · refine same ?_ ?_
          · rw [cD1]
            simp (disch := omega) only [f_x_deed, C_isName, h, bT0, e1, tri_add0, un3, nlit, onl, negone, iN_add, iN_mul, iN_sub, iN_pm, iN_addneg, iN_ix, iN_inb, iN_lt, iN_eq, iN_nneg, iN_nm, nm_iN, mI_neg, mI_nnn, ne_eq, not_true_eq_false, not_false_eq_true, true_and, and_true, bnd, Option.bind_some, ↓reduceIte, ltT, ltF, eqT, eqF, leT, leF]
          · simp (disch := omega) only [f_m_deed, nlit, M_isName, h, bT0, e0, e3, e2a, m11, nlit, onl, negone, iN_add, iN_mul, iN_sub, iN_pm, iN_addneg, iN_ix, iN_inb, iN_lt, iN_eq, iN_nneg, iN_nm, nm_iN, mI_neg, mI_nnn, ne_eq, not_true_eq_false, not_false_eq_true, true_and, and_true, bnd, Option.bind_some, ↓reduceIte, ltT, ltF, eqT, eqF, leT, leF]
        · have e2b := e2 (upd (upd a (40 + 3 * s.2.2.2.1.length) (iN w)) (40 + 3 * s.2.2.2.1.length + 1) (iN n)) (by simp (disch := omega) only [upd_same, upd_ne, upd_eq]; exact m1)
          rw [ho, enO_some] at e2b
          refine ⟨iN (s.2.2.2.1.length + 1), iN (s.2.2.2.1.length + 1), upd (upd (upd dc (s.2.2.2.1.length * 3) (iN w)) (s.2.2.2.1.length * 3 + 1) (iN n)) (s.2.2.2.1.length * 3 + 2) (iN j), upd (upd (upd (upd a (40 + 3 * s.2.2.2.1.length) (iN w)) (40 + 3 * s.2.2.2.1.length + 1) (iN n)) (40 + 3 * s.2.2.2.1.length + 2) (iN j)) 5 (iN (s.2.2.2.1.length + 1)), (s.1, s.2.1, s.2.2.1, s.2.2.2.1 ++ [(w, n, j)], s.2.2.2.2.1, s.2.2.2.2.2), ?_, ?_, ⟨⟨c1, c2, c3, c4, c5, c6⟩, ⟨c7, c8, c9, c10⟩, cT, ⟨by rw [List.length_append]; rfl, fun k q hk => ?_⟩, cR, cK⟩, ⟨⟨?_, ?_, ?_, ?_, ?_, ?_⟩, ⟨fun i hi => ?_, fun g hg => ?_, fun i hi => ?_, fun i hi => ?_⟩, ⟨?_, fun k q hk => ?_⟩, ⟨?_, fun k q hk => ?_⟩, ⟨?_, fun k hk => ?_, fun k q hk => ?_⟩⟩, rfl, ⟨⟨k1, k2, k3, k4, k5, k6⟩, ⟨k7, k8, k9⟩, ⟨by rw [List.length_append, List.length_singleton]; omega, fun q hq => ?_⟩, ⟨kR, kR2⟩, ⟨kK, kK2⟩⟩, rfl⟩
          · rw [cD1]
            simp (disch := omega) only [f_x_deed, C_isName, h, bT0, e1, tri_add, un3, nlit, onl, negone, iN_add, iN_mul, iN_sub, iN_pm, iN_addneg, iN_ix, iN_inb, iN_lt, iN_eq, iN_nneg, iN_nm, nm_iN, mI_neg, mI_nnn, ne_eq, not_true_eq_false, not_false_eq_true, true_and, and_true, bnd, Option.bind_some, ↓reduceIte, ltT, ltF, eqT, eqF, leT, leF]
          · simp (disch := omega) only [f_m_deed, nlit, M_isName, h, bT0, e0, e3, e2a, e2b, m11, nlit, onl, negone, iN_add, iN_mul, iN_sub, iN_pm, iN_addneg, iN_ix, iN_inb, iN_lt, iN_eq, iN_nneg, iN_nm, nm_iN, mI_neg, mI_nnn, ne_eq, not_true_eq_false, not_false_eq_true, true_and, and_true, bnd, Option.bind_some, ↓reduceIte, ltT, ltF, eqT, eqF, leT, leF, upd_same, upd_ne, upd_eq]
          · rcases in_app hk with ⟨hkl, hk⟩ | ⟨rfl, rfl⟩
            · simp (disch := omega) only [upd_same, upd_ne, upd_eq]; exact cD.2 k q hk
            · simp (disch := omega) only [upd_same, upd_ne, upd_eq]; exact ⟨trivial, trivial, trivial⟩
          · simp (disch := omega) only [upd_same, upd_ne, upd_eq]; exact m1
          · simp (disch := omega) only [upd_same, upd_ne, upd_eq]; exact m2
          · simp (disch := omega) only [upd_same, upd_ne, upd_eq]; exact m3
          · simp (disch := omega) only [upd_same, upd_ne, upd_eq]; exact m4
          · simp (disch := omega) only [upd_same, upd_ne, upd_eq]; exact m5
          · simp (disch := omega) only [upd_same, upd_ne, upd_eq]; exact m6
          · simp (disch := omega) only [upd_same, upd_ne, upd_eq]; exact m7 i hi
          · simp (disch := omega) only [upd_same, upd_ne, upd_eq]; exact m8 g hg
          · simp (disch := omega) only [upd_same, upd_ne, upd_eq]; exact m9 i hi
          · simp (disch := omega) only [upd_same, upd_ne, upd_eq]; exact m10 i hi
          · rw [upd_same, List.length_append]; rfl
          · rcases in_app hk with ⟨hkl, hk⟩ | ⟨rfl, rfl⟩
            · simp (disch := omega) only [upd_same, upd_ne, upd_eq]; exact m12 k q hk
            · simp (disch := omega) only [upd_same, upd_ne, upd_eq]; exact ⟨trivial, trivial, trivial⟩
          · simp (disch := omega) only [upd_same, upd_ne, upd_eq]; exact m13
          · have hkl : k < s.2.2.2.2.1.length := (List.getElem?_eq_some_iff.mp hk).1
            simp (disch := omega) only [upd_same, upd_ne, upd_eq]; exact m14 k q hk
          · simp (disch := omega) only [upd_same, upd_ne, upd_eq]; exact m15
          · have hkl : k < s.2.2.2.2.2.length := (List.getElem?_eq_some_iff.mp hk).1
            simp (disch := omega) only [upd_same, upd_ne, upd_eq]; exact m16 k hk
          · have hkl : k < s.2.2.2.2.2.length := (List.getElem?_eq_some_iff.mp hk).1
            simp (disch := omega) only [upd_same, upd_ne, upd_eq]; exact m17 k q hk
          · rcases List.mem_append.mp hq with hq | hq
            · exact kD2 q hq
            · rw [List.mem_singleton] at hq
              subst hq
              exact ⟨hw, by show n < 1000; omega, by show j < 8; omega⟩
    · refine same ?_ ?_
      · unfold f_x_deed
        simp only [nlit, negone, C_isName, h, bT0, Option.bind_some, ↓reduceIte, Int32.lt_iff_toInt_lt, i1, i9]
        by_cases q : v.toInt < 1
        · rw [if_pos q]
        · rw [if_neg q, if_pos (by omega)]
      · have e0 : f_m_isIn v (iN 1) (iN 999) = some (iN 0) := by
          unfold f_m_isIn
          simp only [nlit, Int32.lt_iff_toInt_lt, i1, i9]
          by_cases q : v.toInt < 1
          · rw [if_pos q]
          · rw [if_neg q, if_pos (by omega)]
        simp only [f_m_deed, nlit, negone, M_isName, h, bT0, e0, Option.bind_some, ↓reduceIte]

theorem C_lostLoop {l : List (Option (Bool × Nat × Nat))} (h : CK kz kc l) (hl : l.length ≤ 6) (hq : ∀ q ∈ l, ∀ z, q = some z → z.2.1 < 8) : ∀ (m i k : Nat), i + m = l.length → m < k → itr (fb_ways_hasLost_2 kz kc) k (iN i) = some (if (l.drop i).any Option.isNone then .inl () else .inr ())
  | 0, i, k, hi, hk => by
    obtain ⟨k, rfl⟩ : ∃ z, k = z + 1 := ⟨k - 1, by omega⟩
    refine itr_end ?_
    rw [List.drop_eq_nil_of_le (by omega), h.1]
    simp (disch := omega) only [fb_ways_hasLost_2, nlit, onl, negone, iN_add, iN_mul, iN_sub, iN_pm, iN_addneg, iN_ix, iN_inb, iN_lt, iN_eq, iN_nneg, iN_nm, nm_iN, mI_neg, mI_nnn, ne_eq, not_true_eq_false, not_false_eq_true, true_and, and_true, bnd, Option.bind_some, ↓reduceIte, ltT, ltF, eqT, eqF, leT, leF, List.any_nil, Bool.false_eq_true]
  | m + 1, i, k, hi, hk => by
    obtain ⟨k, rfl⟩ : ∃ z, k = z + 1 := ⟨k - 1, by omega⟩
    have hlt : i < l.length := by omega
    have hc0 : l[i]? = some l[i] := List.getElem?_eq_getElem hlt
    have hdr : l.drop i = l[i] :: l.drop (i + 1) := List.drop_eq_getElem_cons hlt
    have h1 := h.1
    rw [hdr, List.any_cons]
    cases hli : l[i] with
    | none =>
      rw [hli] at hc0
      have e1 := h.2.1 i hc0
      rw [Option.isNone_none, Bool.true_or, if_pos rfl]
      refine itr_end ?_
      rw [h1]
      simp (disch := omega) only [fb_ways_hasLost_2, f_ways_isLost, nlit, tri_at, e1, nlit, onl, negone, iN_add, iN_mul, iN_sub, iN_pm, iN_addneg, iN_ix, iN_inb, iN_lt, iN_eq, iN_nneg, iN_nm, nm_iN, mI_neg, mI_nnn, ne_eq, not_true_eq_false, not_false_eq_true, true_and, and_true, bnd, Option.bind_some, ↓reduceIte, ltT, ltF, eqT, eqF, leT, leF]
    | some z =>
      rw [hli] at hc0
      have e1 := (h.2.2 i z hc0).2.1
      have hz := hq _ (List.mem_of_getElem? hc0) z rfl
      rw [Option.isNone_some, Bool.false_or, itr_step (s' := iN (i + 1)), C_lostLoop h hl hq m (i + 1) k (by omega) (by omega)]
      rw [h1]
      simp (disch := omega) only [fb_ways_hasLost_2, f_ways_isLost, nlit, tri_at, e1, nlit, onl, negone, iN_add, iN_mul, iN_sub, iN_pm, iN_addneg, iN_ix, iN_inb, iN_lt, iN_eq, iN_nneg, iN_nm, nm_iN, mI_neg, mI_nnn, ne_eq, not_true_eq_false, not_false_eq_true, true_and, and_true, bnd, Option.bind_some, ↓reduceIte, ltT, ltF, eqT, eqF, leT, leF]
theorem C_hasLost {l : List (Option (Bool × Nat × Nat))} (h : CK kz kc l) (hl : l.length ≤ 6) (hq : ∀ q ∈ l, ∀ z, q = some z → z.2.1 < 8) : f_ways_hasLost kz kc = some (b01 (l.any Option.isNone)) := by
  have := C_lostLoop h hl hq l.length 0 KF (by omega) (kf_lt (by omega))
  rw [List.drop_zero] at this
  unfold f_ways_hasLost
  rw [show (0 : Int32) = iN 0 from rfl, this]
  cases l.any Option.isNone <;> rfl
theorem M_lostLoop {l : List (Option (Bool × Nat × Nat))} (h7 : a 7 = iN l.length) (h1 : ∀ k, l[k]? = some none → a (125 + 3 * k + 1) = mI) (h2 : ∀ (k : Nat) (q : Bool × Nat × Nat), l[k]? = some (some q) → a (125 + 3 * k) = b01 q.1 ∧ a (125 + 3 * k + 1) = iN q.2.1 ∧ a (125 + 3 * k + 2) = iN q.2.2) (hl : l.length ≤ 6) (hq : ∀ q ∈ l, ∀ z, q = some z → z.2.1 < 8) : ∀ (m i k : Nat), i + m = l.length → m < k → itr (fb_m_line_55 a mI) k (iN i) = some (if (l.drop i).any Option.isNone then .inl () else .inr ())
  | 0, i, k, hi, hk => by
    obtain ⟨k, rfl⟩ : ∃ z, k = z + 1 := ⟨k - 1, by omega⟩
    refine itr_end ?_
    rw [List.drop_eq_nil_of_le (by omega)]
    simp (disch := omega) only [fb_m_line_55, h7, nlit, onl, negone, iN_add, iN_mul, iN_sub, iN_pm, iN_addneg, iN_ix, iN_inb, iN_lt, iN_eq, iN_nneg, iN_nm, nm_iN, mI_neg, mI_nnn, ne_eq, not_true_eq_false, not_false_eq_true, true_and, and_true, bnd, Option.bind_some, ↓reduceIte, ltT, ltF, eqT, eqF, leT, leF, List.any_nil, Bool.false_eq_true]
  | m + 1, i, k, hi, hk => by
    obtain ⟨k, rfl⟩ : ∃ z, k = z + 1 := ⟨k - 1, by omega⟩
    have hlt : i < l.length := by omega
    have hc0 : l[i]? = some l[i] := List.getElem?_eq_getElem hlt
    have hdr : l.drop i = l[i] :: l.drop (i + 1) := List.drop_eq_getElem_cons hlt
    rw [hdr, List.any_cons]
    cases hli : l[i] with
    | none =>
      rw [hli] at hc0
      have e1 := h1 i hc0
      rw [Option.isNone_none, Bool.true_or, if_pos rfl]
      refine itr_end ?_
      simp (disch := omega) only [fb_m_line_55, h7, e1, nlit, onl, negone, iN_add, iN_mul, iN_sub, iN_pm, iN_addneg, iN_ix, iN_inb, iN_lt, iN_eq, iN_nneg, iN_nm, nm_iN, mI_neg, mI_nnn, ne_eq, not_true_eq_false, not_false_eq_true, true_and, and_true, bnd, Option.bind_some, ↓reduceIte, ltT, ltF, eqT, eqF, leT, leF]
    | some z =>
      rw [hli] at hc0
      have e1 := (h2 i z hc0).2.1
      have hz := hq _ (List.mem_of_getElem? hc0) z rfl
      rw [Option.isNone_some, Bool.false_or, itr_step (s' := iN (i + 1)), M_lostLoop h7 h1 h2 hl hq m (i + 1) k (by omega) (by omega)]
      simp (disch := omega) only [fb_m_line_55, h7, e1, nlit, onl, negone, iN_add, iN_mul, iN_sub, iN_pm, iN_addneg, iN_ix, iN_inb, iN_lt, iN_eq, iN_nneg, iN_nm, nm_iN, mI_neg, mI_nnn, ne_eq, not_true_eq_false, not_false_eq_true, true_and, and_true, bnd, Option.bind_some, ↓reduceIte, ltT, ltF, eqT, eqF, leT, leF]
theorem M_noLost {n : Nat} {v : Int32} (h7 : a 7 = iN n) (hn : n ≤ 6) (hv : ¬ v = mI) : itr (fb_m_line_55 a v) KF (iN 0) = some (.inr ()) := by
  have := itr_seq (f := fb_m_line_55 a v) (fun k => iN k) (e := .inr ()) n KF (fun k hk => by simp (disch := omega) only [fb_m_line_55, h7, hv, nlit, onl, negone, iN_add, iN_mul, iN_sub, iN_pm, iN_addneg, iN_ix, iN_inb, iN_lt, iN_eq, iN_nneg, iN_nm, nm_iN, mI_neg, mI_nnn, ne_eq, not_true_eq_false, not_false_eq_true, true_and, and_true, bnd, Option.bind_some, ↓reduceIte, ltT, ltF, eqT, eqF, leT, leF]) (by simp (disch := omega) only [fb_m_line_55, h7, nlit, onl, negone, iN_add, iN_mul, iN_sub, iN_pm, iN_addneg, iN_ix, iN_inb, iN_lt, iN_eq, iN_nneg, iN_nm, nm_iN, mI_neg, mI_nnn, ne_eq, not_true_eq_false, not_false_eq_true, true_and, and_true, bnd, Option.bind_some, ↓reduceIte, ltT, ltF, eqT, eqF, leT, leF]) (kf_lt (by omega))
  exact this

theorem J_line (hC : CW pe ga hr tx rl xx bo lo pa dn nm sz hp dz dc rz rc kz kc s) (hM : MA a s) (hok : WOK s) (b : Bool) (v l : Int32) : ∃ r kz' kc' a' s', f_x_line ga kz kc (b01 b) v l = some (r, kz', kc') ∧ f_m_line a (b01 b) v l = some (r, a') ∧ CW pe ga hr tx rl xx bo lo pa dn nm sz hp dz dc rz rc kz' kc' s' ∧ MA a' s' ∧ s'.2.2.1 = s.2.2.1 ∧ WOK s' ∧ s'.1.2.2.2.1 = s.1.2.2.2.1 := by
  obtain ⟨⟨c1, c2, c3, c4, c5, c6⟩, ⟨c7, c8, c9, c10⟩, cT, cD, cR, cK⟩ := hC
  obtain ⟨⟨m1, m2, m3, m4, m5, m6⟩, ⟨m7, m8, m9, m10⟩, ⟨m11, m12⟩, ⟨m13, m14⟩, ⟨m15, m16, m17⟩⟩ := hM
  obtain ⟨⟨k1, k2, k3, k4, k5, k6⟩, ⟨k7, k8, k9⟩, ⟨kD, kD2⟩, ⟨kR, kR2⟩, ⟨kK, kK2⟩⟩ := id hok
  have hq8 : ∀ q ∈ s.2.2.2.2.2, ∀ z, q = some z → z.2.1 < 8 := fun q hq z hz => (kK2 q hq z hz).1
  have cK1 := cK.1
  by_cases h1 : l = mI
  · subst h1
    refine ⟨iN 0, iN 0, kc, upd a 7 (iN 0), (s.1, s.2.1, s.2.2.1, s.2.2.2.1, s.2.2.2.2.1, []), ?_, ?_, ⟨⟨c1, c2, c3, c4, c5, c6⟩, ⟨c7, c8, c9, c10⟩, cT, cD, cR, ⟨rfl, fun k hk => (by cases hk), fun k q hk => (by cases hk)⟩⟩, ⟨⟨?_, ?_, ?_, ?_, ?_, ?_⟩, ⟨fun i hi => ?_, fun g hg => ?_, fun i hi => ?_, fun i hi => ?_⟩, ⟨?_, fun k q hk => ?_⟩, ⟨?_, fun k q hk => ?_⟩, ⟨?_, fun k hk => ?_, fun k q hk => ?_⟩⟩, rfl, ⟨⟨k1, k2, k3, k4, k5, k6⟩, ⟨k7, k8, k9⟩, ⟨kD, kD2⟩, ⟨kR, kR2⟩, ⟨Nat.zero_le _, fun q hq => absurd hq List.not_mem_nil⟩⟩, rfl⟩
    · simp (disch := omega) only [f_x_line, nlit, onl, negone, iN_add, iN_mul, iN_sub, iN_pm, iN_addneg, iN_ix, iN_inb, iN_lt, iN_eq, iN_nneg, iN_nm, nm_iN, mI_neg, mI_nnn, ne_eq, not_true_eq_false, not_false_eq_true, true_and, and_true, bnd, Option.bind_some, ↓reduceIte, ltT, ltF, eqT, eqF, leT, leF]
    · simp (disch := omega) only [f_m_line, nlit, onl, negone, iN_add, iN_mul, iN_sub, iN_pm, iN_addneg, iN_ix, iN_inb, iN_lt, iN_eq, iN_nneg, iN_nm, nm_iN, mI_neg, mI_nnn, ne_eq, not_true_eq_false, not_false_eq_true, true_and, and_true, bnd, Option.bind_some, ↓reduceIte, ltT, ltF, eqT, eqF, leT, leF]
    · simp (disch := omega) only [upd_same, upd_ne, upd_eq]; exact m1
    · simp (disch := omega) only [upd_same, upd_ne, upd_eq]; exact m2
    · simp (disch := omega) only [upd_same, upd_ne, upd_eq]; exact m3
    · simp (disch := omega) only [upd_same, upd_ne, upd_eq]; exact m4
    · simp (disch := omega) only [upd_same, upd_ne, upd_eq]; exact m5
    · simp (disch := omega) only [upd_same, upd_ne, upd_eq]; exact m6
    · simp (disch := omega) only [upd_same, upd_ne, upd_eq]; exact m7 i hi
    · simp (disch := omega) only [upd_same, upd_ne, upd_eq]; exact m8 g hg
    · simp (disch := omega) only [upd_same, upd_ne, upd_eq]; exact m9 i hi
    · simp (disch := omega) only [upd_same, upd_ne, upd_eq]; exact m10 i hi
    · simp (disch := omega) only [upd_same, upd_ne, upd_eq]; exact m11
    · have hkl : k < s.2.2.2.1.length := (List.getElem?_eq_some_iff.mp hk).1
      simp (disch := omega) only [upd_same, upd_ne, upd_eq]; exact m12 k q hk
    · simp (disch := omega) only [upd_same, upd_ne, upd_eq]; exact m13
    · have hkl : k < s.2.2.2.2.1.length := (List.getElem?_eq_some_iff.mp hk).1
      simp (disch := omega) only [upd_same, upd_ne, upd_eq]; exact m14 k q hk
    · simp (disch := omega) only [upd_same, upd_ne, upd_eq]; rfl
    · cases hk
    · cases hk
  have same : ∀ (q1 : f_x_line ga kz kc (b01 b) v l = some (mI, kz, kc)) (q2 : f_m_line a (b01 b) v l = some (mI, a)), ∃ r kz' kc' a' s', f_x_line ga kz kc (b01 b) v l = some (r, kz', kc') ∧ f_m_line a (b01 b) v l = some (r, a') ∧ CW pe ga hr tx rl xx bo lo pa dn nm sz hp dz dc rz rc kz' kc' s' ∧ MA a' s' ∧ s'.2.2.1 = s.2.2.1 ∧ WOK s' ∧ s'.1.2.2.2.1 = s.1.2.2.2.1 := fun q1 q2 => ⟨mI, kz, kc, a, s, q1, q2, ⟨⟨c1, c2, c3, c4, c5, c6⟩, ⟨c7, c8, c9, c10⟩, cT, cD, cR, cK⟩, ⟨⟨m1, m2, m3, m4, m5, m6⟩, ⟨m7, m8, m9, m10⟩, ⟨m11, m12⟩, ⟨m13, m14⟩, ⟨m15, m16, m17⟩⟩, rfl, hok, rfl⟩
  have put : ∀ (it : Option (Bool × Nat × Nat)) (x y z x' y' z' : Int32), s.2.2.2.2.2.length < 6 → (∀ q, it = some q → q.2.1 < 8 ∧ q.2.2 < s.1.2.1) → (it = none → y = mI ∧ y' = mI) → (∀ q, it = some q → x = b01 q.1 ∧ y = iN q.2.1 ∧ z = iN q.2.2 ∧ x' = b01 q.1 ∧ y' = iN q.2.1 ∧ z' = iN q.2.2) → f_x_line ga kz kc (b01 b) v l = some (iN (s.2.2.2.2.2.length + 1), iN (s.2.2.2.2.2.length + 1), upd (upd (upd kc (s.2.2.2.2.2.length * 3) x) (s.2.2.2.2.2.length * 3 + 1) y) (s.2.2.2.2.2.length * 3 + 2) z) → f_m_line a (b01 b) v l = some (iN (s.2.2.2.2.2.length + 1), upd (upd (upd (upd a (125 + 3 * s.2.2.2.2.2.length) x') (125 + 3 * s.2.2.2.2.2.length + 1) y') (125 + 3 * s.2.2.2.2.2.length + 2) z') 7 (iN (s.2.2.2.2.2.length + 1))) → ∃ r kz' kc' a' s', f_x_line ga kz kc (b01 b) v l = some (r, kz', kc') ∧ f_m_line a (b01 b) v l = some (r, a') ∧ CW pe ga hr tx rl xx bo lo pa dn nm sz hp dz dc rz rc kz' kc' s' ∧ MA a' s' ∧ s'.2.2.1 = s.2.2.1 ∧ WOK s' ∧ s'.1.2.2.2.1 = s.1.2.2.2.1 := by
    intro it x y z x' y' z' h6 hit hno hso q1 q2
    refine ⟨_, _, _, _, (s.1, s.2.1, s.2.2.1, s.2.2.2.1, s.2.2.2.2.1, s.2.2.2.2.2 ++ [it]), q1, q2, ⟨⟨c1, c2, c3, c4, c5, c6⟩, ⟨c7, c8, c9, c10⟩, cT, cD, cR, ⟨by rw [List.length_append]; rfl, fun k hk => ?_, fun k q hk => ?_⟩⟩, ⟨⟨?_, ?_, ?_, ?_, ?_, ?_⟩, ⟨fun i hi => ?_, fun g hg => ?_, fun i hi => ?_, fun i hi => ?_⟩, ⟨?_, fun k q hk => ?_⟩, ⟨?_, fun k q hk => ?_⟩, ⟨?_, fun k hk => ?_, fun k q hk => ?_⟩⟩, rfl, ⟨⟨k1, k2, k3, k4, k5, k6⟩, ⟨k7, k8, k9⟩, ⟨kD, kD2⟩, ⟨kR, kR2⟩, ⟨by rw [List.length_append, List.length_singleton]; omega, fun q hq z hz => ?_⟩⟩, rfl⟩
    · rcases in_app hk with ⟨hkl, hk⟩ | ⟨rfl, hx⟩
      · simp (disch := omega) only [upd_same, upd_ne, upd_eq]; exact cK.2.1 k hk
      · simp (disch := omega) only [upd_same, upd_ne, upd_eq]; exact (hno hx.symm).1
    · rcases in_app hk with ⟨hkl, hk⟩ | ⟨rfl, hx⟩
      · simp (disch := omega) only [upd_same, upd_ne, upd_eq]; exact cK.2.2 k q hk
      · obtain ⟨e1, e2, e3, -⟩ := hso q hx.symm
        simp (disch := omega) only [upd_same, upd_ne, upd_eq]; exact ⟨e1, e2, e3⟩
    · simp (disch := omega) only [upd_same, upd_ne, upd_eq]; exact m1
    · simp (disch := omega) only [upd_same, upd_ne, upd_eq]; exact m2
    · simp (disch := omega) only [upd_same, upd_ne, upd_eq]; exact m3
    · simp (disch := omega) only [upd_same, upd_ne, upd_eq]; exact m4
    · simp (disch := omega) only [upd_same, upd_ne, upd_eq]; exact m5
    · simp (disch := omega) only [upd_same, upd_ne, upd_eq]; exact m6
    · simp (disch := omega) only [upd_same, upd_ne, upd_eq]; exact m7 i hi
    · simp (disch := omega) only [upd_same, upd_ne, upd_eq]; exact m8 g hg
    · simp (disch := omega) only [upd_same, upd_ne, upd_eq]; exact m9 i hi
    · simp (disch := omega) only [upd_same, upd_ne, upd_eq]; exact m10 i hi
    · simp (disch := omega) only [upd_same, upd_ne, upd_eq]; exact m11
    · have hkl : k < s.2.2.2.1.length := (List.getElem?_eq_some_iff.mp hk).1
      simp (disch := omega) only [upd_same, upd_ne, upd_eq]; exact m12 k q hk
    · simp (disch := omega) only [upd_same, upd_ne, upd_eq]; exact m13
    · have hkl : k < s.2.2.2.2.1.length := (List.getElem?_eq_some_iff.mp hk).1
      simp (disch := omega) only [upd_same, upd_ne, upd_eq]; exact m14 k q hk
    · rw [upd_same, List.length_append]; rfl
    · rcases in_app hk with ⟨hkl, hk⟩ | ⟨rfl, hx⟩
      · simp (disch := omega) only [upd_same, upd_ne, upd_eq]; exact m16 k hk
      · simp (disch := omega) only [upd_same, upd_ne, upd_eq]; exact (hno hx.symm).2
    · rcases in_app hk with ⟨hkl, hk⟩ | ⟨rfl, hx⟩
      · simp (disch := omega) only [upd_same, upd_ne, upd_eq]; exact m17 k q hk
      · obtain ⟨-, -, -, e1, e2, e3⟩ := hso q hx.symm
        simp (disch := omega) only [upd_same, upd_ne, upd_eq]; exact ⟨e1, e2, e3⟩
    · rcases List.mem_append.mp hq with hq | hq
      · exact kK2 q hq z hz
      · rw [List.mem_singleton] at hq
        exact hit z (hq ▸ hz)
  by_cases h2 : v = mI
  · have e1 := C_hasLost cK kK hq8
    have e2 := M_lostLoop m15 m16 m17 kK hq8 s.2.2.2.2.2.length 0 KF (by omega) (kf_lt (by omega))
    rw [List.drop_zero] at e2
    cases hlo : s.2.2.2.2.2.any Option.isNone with
    | true =>
      rw [hlo] at e1 e2
      rw [if_pos rfl] at e2
      refine same ?_ ?_
      · simp only [f_x_line, nlit, negone, h1, h2, e1, bT0, Option.bind_some, ↓reduceIte]
      · by_cases h6 : s.2.2.2.2.2.length = 6
        · simp (disch := omega) only [f_m_line, fj_m_line_38, h1, h2, m15, nlit, onl, negone, iN_add, iN_mul, iN_sub, iN_pm, iN_addneg, iN_ix, iN_inb, iN_lt, iN_eq, iN_nneg, iN_nm, nm_iN, mI_neg, mI_nnn, ne_eq, not_true_eq_false, not_false_eq_true, true_and, and_true, bnd, Option.bind_some, ↓reduceIte, ltT, ltF, eqT, eqF, leT, leF]
        · simp (disch := omega) only [f_m_line, fj_m_line_38, h1, h2, m15, nlit, onl, negone, iN_add, iN_mul, iN_sub, iN_pm, iN_addneg, iN_ix, iN_inb, iN_lt, iN_eq, iN_nneg, iN_nm, nm_iN, mI_neg, mI_nnn, ne_eq, not_true_eq_false, not_false_eq_true, true_and, and_true, bnd, Option.bind_some, ↓reduceIte, ltT, ltF, eqT, eqF, leT, leF, e2, Sum.elim_inl]
    | false =>
      rw [hlo] at e1 e2
      rw [if_neg (by decide)] at e2
      by_cases h6 : s.2.2.2.2.2.length = 6
      · refine same ?_ ?_
        · rw [cK1] at e1 ⊢
          simp (disch := omega) only [f_x_line, h1, h2, e1, bF0, tri_add0, un3, nlit, onl, negone, iN_add, iN_mul, iN_sub, iN_pm, iN_addneg, iN_ix, iN_inb, iN_lt, iN_eq, iN_nneg, iN_nm, nm_iN, mI_neg, mI_nnn, ne_eq, not_true_eq_false, not_false_eq_true, true_and, and_true, bnd, Option.bind_some, ↓reduceIte, ltT, ltF, eqT, eqF, leT, leF]
        · simp (disch := omega) only [f_m_line, fj_m_line_38, h1, h2, m15, nlit, onl, negone, iN_add, iN_mul, iN_sub, iN_pm, iN_addneg, iN_ix, iN_inb, iN_lt, iN_eq, iN_nneg, iN_nm, nm_iN, mI_neg, mI_nnn, ne_eq, not_true_eq_false, not_false_eq_true, true_and, and_true, bnd, Option.bind_some, ↓reduceIte, ltT, ltF, eqT, eqF, leT, leF]
      · refine put none (iN 0) mI mI (b01 b) mI l (by omega) (fun q hq => by cases hq) (fun _ => ⟨rfl, rfl⟩) (fun q hq => by cases hq) ?_ ?_
        · rw [cK1] at e1 ⊢
          simp (disch := omega) only [f_x_line, h1, h2, e1, bF0, tri_add, un3, nlit, onl, negone, iN_add, iN_mul, iN_sub, iN_pm, iN_addneg, iN_ix, iN_inb, iN_lt, iN_eq, iN_nneg, iN_nm, nm_iN, mI_neg, mI_nnn, ne_eq, not_true_eq_false, not_false_eq_true, true_and, and_true, bnd, Option.bind_some, ↓reduceIte, ltT, ltF, eqT, eqF, leT, leF]
        · cases b with
          | true => simp (disch := omega) only [f_m_line, fj_m_line_38, fj_m_line_127, h1, h2, m15, bT0, nlit, onl, negone, iN_add, iN_mul, iN_sub, iN_pm, iN_addneg, iN_ix, iN_inb, iN_lt, iN_eq, iN_nneg, iN_nm, nm_iN, mI_neg, mI_nnn, ne_eq, not_true_eq_false, not_false_eq_true, true_and, and_true, bnd, Option.bind_some, ↓reduceIte, ltT, ltF, eqT, eqF, leT, leF, upd_same, upd_ne, upd_eq, e2, Sum.elim_inr]; rfl
          | false => simp (disch := omega) only [f_m_line, fj_m_line_38, fj_m_line_127, h1, h2, m15, bF0, nlit, onl, negone, iN_add, iN_mul, iN_sub, iN_pm, iN_addneg, iN_ix, iN_inb, iN_lt, iN_eq, iN_nneg, iN_nm, nm_iN, mI_neg, mI_nnn, ne_eq, not_true_eq_false, not_false_eq_true, true_and, and_true, bnd, Option.bind_some, ↓reduceIte, ltT, ltF, eqT, eqF, leT, leF, upd_same, upd_ne, upd_eq, e2, Sum.elim_inr]; rfl
  · cases h3 : inR v 8 with
    | false =>
      refine same ?_ ?_
      · simp only [f_x_line, nlit, negone, h1, h2, C_isName, h3, bF0, Option.bind_some, ↓reduceIte]
      · simp only [f_m_line, nlit, negone, h1, h2, M_isName, h3, bF0, Option.bind_some, ↓reduceIte]
    | true =>
      have g3 := C_hasGate (l := l) (show s.1.2.1 < 100 by omega)
      have g4 := M_isGate (l := l) m2 (show s.1.2.1 < 1000 by omega)
      cases h4 : inR l s.1.2.1 with
      | false =>
        rw [h4] at g3 g4
        refine same ?_ ?_
        · rw [c2]; simp only [f_x_line, nlit, negone, h1, h2, C_isName, h3, g3, bT0, bF0, Option.bind_some, ↓reduceIte]
        · simp only [f_m_line, nlit, negone, h1, h2, M_isName, h3, g4, bT0, bF0, Option.bind_some, ↓reduceIte]
      | true =>
        rw [h4] at g3 g4
        obtain ⟨n, hn, hvn⟩ := inR_some h3
        obtain ⟨g, hg, hlg⟩ := inR_some h4
        have e2 := M_noLost m15 kK h2
        by_cases h6 : s.2.2.2.2.2.length = 6
        · refine same ?_ ?_
          · rw [c2, cK1]
            cases b with
            | true => simp (disch := omega) only [f_x_line, fj_x_line_87, h1, h2, C_isName, h3, g3, bT0, tri_add0, un3, nlit, onl, negone, iN_add, iN_mul, iN_sub, iN_pm, iN_addneg, iN_ix, iN_inb, iN_lt, iN_eq, iN_nneg, iN_nm, nm_iN, mI_neg, mI_nnn, ne_eq, not_true_eq_false, not_false_eq_true, true_and, and_true, bnd, Option.bind_some, ↓reduceIte, ltT, ltF, eqT, eqF, leT, leF]
            | false => simp (disch := omega) only [f_x_line, fj_x_line_87, h1, h2, C_isName, h3, g3, bT0, bF0, tri_add0, un3, nlit, onl, negone, iN_add, iN_mul, iN_sub, iN_pm, iN_addneg, iN_ix, iN_inb, iN_lt, iN_eq, iN_nneg, iN_nm, nm_iN, mI_neg, mI_nnn, ne_eq, not_true_eq_false, not_false_eq_true, true_and, and_true, bnd, Option.bind_some, ↓reduceIte, ltT, ltF, eqT, eqF, leT, leF]
          · simp (disch := omega) only [f_m_line, fj_m_line_38, h1, h2, nlit, M_isName, h3, g4, bT0, m15, nlit, onl, negone, iN_add, iN_mul, iN_sub, iN_pm, iN_addneg, iN_ix, iN_inb, iN_lt, iN_eq, iN_nneg, iN_nm, nm_iN, mI_neg, mI_nnn, ne_eq, not_true_eq_false, not_false_eq_true, true_and, and_true, bnd, Option.bind_some, ↓reduceIte, ltT, ltF, eqT, eqF, leT, leF]
        · refine put (some (b, n, g)) (b01 b) v l (b01 b) v l (by omega) (fun q hq => by cases hq; exact ⟨hn, hg⟩) (fun hq => by cases hq) (fun q hq => by cases hq; exact ⟨rfl, hvn, hlg, rfl, hvn, hlg⟩) ?_ ?_
          · rw [c2, cK1]
            cases b with
            | true => simp (disch := omega) only [f_x_line, fj_x_line_87, h1, h2, C_isName, h3, g3, bT0, tri_add, un3, nlit, onl, negone, iN_add, iN_mul, iN_sub, iN_pm, iN_addneg, iN_ix, iN_inb, iN_lt, iN_eq, iN_nneg, iN_nm, nm_iN, mI_neg, mI_nnn, ne_eq, not_true_eq_false, not_false_eq_true, true_and, and_true, bnd, Option.bind_some, ↓reduceIte, ltT, ltF, eqT, eqF, leT, leF]; rfl
            | false => simp (disch := omega) only [f_x_line, fj_x_line_87, h1, h2, C_isName, h3, g3, bT0, bF0, tri_add, un3, nlit, onl, negone, iN_add, iN_mul, iN_sub, iN_pm, iN_addneg, iN_ix, iN_inb, iN_lt, iN_eq, iN_nneg, iN_nm, nm_iN, mI_neg, mI_nnn, ne_eq, not_true_eq_false, not_false_eq_true, true_and, and_true, bnd, Option.bind_some, ↓reduceIte, ltT, ltF, eqT, eqF, leT, leF]; rfl
          · cases b with
            | true => simp (disch := omega) only [f_m_line, fj_m_line_38, fj_m_line_127, h1, h2, nlit, M_isName, h3, g4, bT0, m15, nlit, onl, negone, iN_add, iN_mul, iN_sub, iN_pm, iN_addneg, iN_ix, iN_inb, iN_lt, iN_eq, iN_nneg, iN_nm, nm_iN, mI_neg, mI_nnn, ne_eq, not_true_eq_false, not_false_eq_true, true_and, and_true, bnd, Option.bind_some, ↓reduceIte, ltT, ltF, eqT, eqF, leT, leF, upd_same, upd_ne, upd_eq, e2, Sum.elim_inr]; rfl
            | false => simp (disch := omega) only [f_m_line, fj_m_line_38, fj_m_line_127, h1, h2, nlit, M_isName, h3, g4, bT0, bF0, m15, nlit, onl, negone, iN_add, iN_mul, iN_sub, iN_pm, iN_addneg, iN_ix, iN_inb, iN_lt, iN_eq, iN_nneg, iN_nm, nm_iN, mI_neg, mI_nnn, ne_eq, not_true_eq_false, not_false_eq_true, true_and, and_true, bnd, Option.bind_some, ↓reduceIte, ltT, ltF, eqT, eqF, leT, leF, upd_same, upd_ne, upd_eq, e2, Sum.elim_inr]; rfl

end
