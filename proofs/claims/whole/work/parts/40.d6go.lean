/-! ===== PURE: goings ===== -/
def goS (x : Cx) (t : Tn) (w g : Nat) : Option (Nat × Tn) := if canS x t w g then
    match t.1 w with
    | some n => some (n, outT t w g n)
    | none => if x.2.2.2.1 g then none else some ((t.2 g).getD (pickS x t w g) 0, inT t w g (pickS x t w g) ((t.2 g).getD (pickS x t w g) 0))
  else none
def aft (t : Tn) (o : Option (Nat × Tn)) : Tn := match o with
  | none => t
  | some q => q.2
theorem can_ne {x : Cx} {t : Tn} {w g : Nat} (h : canS x t w g = true) (hn : t.1 w = none) : t.2 g ≠ [] := by
  intro q
  unfold canS at h
  rw [hn, q] at h
  simp at h
theorem pick_at {x : Cx} {t : Tn} {w g : Nat} (h : t.2 g ≠ []) : (t.2 g)[pickS x t w g]? = some ((t.2 g).getD (pickS x t w g) 0) := by
  rw [List.getD_eq_getElem?_getD, List.getElem?_eq_getElem (pickS_lt h)]; rfl
theorem goS_TW {x : Cx} {t : Tn} {w g : Nat} (ht : TW t) (hw : w < 8) (hg : g < 3) : TW (aft t (goS x t w g)) := by
  unfold goS
  by_cases hc : canS x t w g = true
  · rw [if_pos hc]
    cases q : t.1 w with
    | some n => exact ht.out q hg
    | none =>
      show TW (aft t (if x.2.2.2.1 g then none else _))
      cases x.2.2.2.1 g with
      | true => exact ht
      | false => exact ht.in hw q (pick_at (can_ne hc q))
  · rw [if_neg hc]; exact ht
theorem goS_name {x : Cx} {t : Tn} {w g n : Nat} {t' : Tn} (ht : TW t) (h : goS x t w g = some (n, t')) : n < 8 := by
  unfold goS at h
  by_cases hc : canS x t w g = true
  · rw [if_pos hc] at h
    cases q : t.1 w with
    | some m =>
      rw [q] at h
      cases h
      exact (ht.1 w n q).2
    | none =>
      rw [q] at h
      dsimp only at h
      cases hl : x.2.2.2.1 g with
      | true => rw [hl] at h; cases h
      | false =>
        rw [hl] at h
        cases h
        exact (ht.2.1 g _ (List.mem_of_getElem? (pick_at (can_ne hc q)))).2
  · rw [if_neg hc] at h; cases h
theorem bT0 : (b01 true = iN 0) = False := propext ⟨fun q => absurd q (by decide), False.elim⟩
theorem bF0 : (b01 false = iN 0) = True := propext ⟨fun _ => trivial, fun _ => rfl⟩
theorem bT1 : (b01 true = iN 1) = True := propext ⟨fun _ => trivial, fun _ => rfl⟩
theorem bF1 : (b01 false = iN 1) = False := propext ⟨fun q => absurd q (by decide), False.elim⟩
section
variable {x : Cx} {t : Tn} {w g b : Nat}
theorem C_doTried {pe ga hr rl cL sz tk fe : Int32} {lot born cd kd fr to values stack names sizes : Nat → Int32} {heaps : Nat → Nat → Int32} {ru : Nat} (hx : CxOK x) (hm : CX pe ga hr rl lot born ru cL sz tk fe cd kd fr to x) (hd : CT names sizes heaps t) (ht : TW t) (hw : w < x.1) (hg : g < x.2.1) : ∃ values' stack' names' sizes' heaps', f_go_doTried pe ga hr rl ru values cL sz tk stack lot born kd to fr cd names sizes heaps (iN w) (iN g) = some (enO ((goS x t w g).map Prod.fst), values', stack', names', sizes', heaps') ∧ CT names' sizes' heaps' (aft t (goS x t w g)) := by
  have hw8 : w < 8 := by have := hx.1; omega
  have hg3 : g < 3 := by have := hx.2.1; omega
  obtain ⟨v1, s1, e1⟩ := C_can (values := values) (stack := stack) hx hm hd ht hw hg
  unfold goS
  cases hc : canS x t w g with
  | false =>
    refine ⟨v1, s1, names, sizes, heaps, ?_, hd⟩
    rw [hc] at e1
    simp (disch := omega) only [f_go_doTried, e1, un3, bF0, nlit, onl, negone, iN_add, iN_mul, iN_sub, iN_pm, iN_addneg, iN_ix, iN_inb, iN_lt, iN_eq, iN_nneg, iN_nm, nm_iN, mI_neg, mI_nnn, ne_eq, not_true_eq_false, not_false_eq_true, true_and, and_true, bnd, Option.bind_some, ↓reduceIte, ltT, ltF, eqT, eqF, leT, leF, Bool.false_eq_true]; rfl
  | true =>
    rw [hc] at e1
    cases q : t.1 w with
    | some n =>
      have hn := (ht.1 w n q).2
      obtain ⟨n', z', h', e2, e3⟩ := hd.leave ht hg3 q
      refine ⟨v1, s1, n', z', h', ?_, e3⟩
      simp (disch := omega) only [f_go_doTried, e1, un3, bT0, hd.nameOf hw8, q, enO_some, e2, un4, nlit, onl, negone, iN_add, iN_mul, iN_sub, iN_pm, iN_addneg, iN_ix, iN_inb, iN_lt, iN_eq, iN_nneg, iN_nm, nm_iN, mI_neg, mI_nnn, ne_eq, not_true_eq_false, not_false_eq_true, true_and, and_true, bnd, Option.bind_some, ↓reduceIte, ltT, ltF, eqT, eqF, leT, leF]; rfl
    | none =>
      have hl := hm.2.2.2.1 g hg3
      cases hlot : x.2.2.2.1 g with
      | true =>
        rw [hlot] at hl
        refine ⟨v1, s1, names, sizes, heaps, ?_, hd⟩
        simp (disch := omega) only [f_go_doTried, e1, un3, bT0, hd.nameOf hw8, q, enO_none, hl, nlit, onl, negone, iN_add, iN_mul, iN_sub, iN_pm, iN_addneg, iN_ix, iN_inb, iN_lt, iN_eq, iN_nneg, iN_nm, nm_iN, mI_neg, mI_nnn, ne_eq, not_true_eq_false, not_false_eq_true, true_and, and_true, bnd, Option.bind_some, ↓reduceIte, ltT, ltF, eqT, eqF, leT, leF]; rfl
      | false =>
        rw [hlot] at hl
        have hne := can_ne hc q
        obtain ⟨v2, s2, e2⟩ := C_pick (values := v1) (stack := s1) hx hm hd ht hw8 hg3 hne
        obtain ⟨z', h', n', e3, e4⟩ := hd.enter ht hg3 hw8 q (pick_at (x := x) (w := w) hne)
        refine ⟨v2, s2, n', z', h', ?_, e4⟩
        simp (disch := omega) only [f_go_doTried, e1, un3, bT0, bF0, hd.nameOf hw8, q, enO_none, hl, e2, e3, un4, nlit, onl, negone, iN_add, iN_mul, iN_sub, iN_pm, iN_addneg, iN_ix, iN_inb, iN_lt, iN_eq, iN_nneg, iN_nm, nm_iN, mI_neg, mI_nnn, ne_eq, not_true_eq_false, not_false_eq_true, true_and, and_true, bnd, Option.bind_some, ↓reduceIte, ltT, ltF, eqT, eqF, leT, leF, Bool.false_eq_true]; rfl
theorem M_isLot {a texts : Nat → Int32} (hm : MX a texts x) (hg : g < 3) : f_m_isLot a (iN g) = some (b01 (x.2.2.2.1 g)) := by
  have hl := hm.2.2.2.1 g hg
  cases hlot : x.2.2.2.1 g with
  | true => rw [hlot] at hl; simp (disch := omega) only [f_m_isLot, hl, bT1, nlit, onl, negone, iN_add, iN_mul, iN_sub, iN_pm, iN_addneg, iN_ix, iN_inb, iN_lt, iN_eq, iN_nneg, iN_nm, nm_iN, mI_neg, mI_nnn, ne_eq, not_true_eq_false, not_false_eq_true, true_and, and_true, bnd, Option.bind_some, ↓reduceIte, ltT, ltF, eqT, eqF, leT, leF]; rfl
  | false => rw [hlot] at hl; simp (disch := omega) only [f_m_isLot, hl, bF1, nlit, onl, negone, iN_add, iN_mul, iN_sub, iN_pm, iN_addneg, iN_ix, iN_inb, iN_lt, iN_eq, iN_nneg, iN_nm, nm_iN, mI_neg, mI_nnn, ne_eq, not_true_eq_false, not_false_eq_true, true_and, and_true, bnd, Option.bind_some, ↓reduceIte, ltT, ltF, eqT, eqF, leT, leF]; rfl
theorem M_goes {a texts d named truth : Nat → Int32} {values : Nat → Int64} (hx : CxOK x) (hm : MX a texts x) (hd : MT d b t) (hb : b ≤ 525) (ht : TW t) (hw : w < 8) (hg : g < 3) : ∃ d' named' values' truth', f_m_goes (iN b) a d texts named values truth (iN w) (iN g) = some (b01 (goS x t w g).isSome, d', named', values', truth') ∧ MT d' b (aft t (goS x t w g)) ∧ ∀ j, j < b ∨ b + 35 ≤ j → d' j = d j := by
  obtain ⟨n1, v1, t1, e1⟩ := M_can (named := named) (values := values) (truth := truth) hx hm hd hb ht hw hg
  have hl := M_isLot (g := g) hm hg
  unfold goS
  cases q : t.1 w with
  | some n =>
    have hn := (ht.1 w n q).2
    cases hc : canS x t w g with
    | false =>
      rw [hc] at e1
      refine ⟨d, n1, v1, t1, ?_, hd, fun _ _ => rfl⟩
      simp (disch := omega) only [f_m_goes, fj_m_goes_16, hd.nameAt hb hw, q, enO_some, e1, un4, bF0, nlit, onl, negone, iN_add, iN_mul, iN_sub, iN_pm, iN_addneg, iN_ix, iN_inb, iN_lt, iN_eq, iN_nneg, iN_nm, nm_iN, mI_neg, mI_nnn, ne_eq, not_true_eq_false, not_false_eq_true, true_and, and_true, bnd, Option.bind_some, ↓reduceIte, ltT, ltF, eqT, eqF, leT, leF, Bool.false_eq_true]; rfl
    | true =>
      rw [hc] at e1
      obtain ⟨d', e2, e3, e4⟩ := hd.leave ht hb hg q
      refine ⟨d', n1, v1, t1, ?_, e3, e4⟩
      simp (disch := omega) only [f_m_goes, fj_m_goes_16, hd.nameAt hb hw, q, enO_some, e1, un4, bT0, e2, nlit, onl, negone, iN_add, iN_mul, iN_sub, iN_pm, iN_addneg, iN_ix, iN_inb, iN_lt, iN_eq, iN_nneg, iN_nm, nm_iN, mI_neg, mI_nnn, ne_eq, not_true_eq_false, not_false_eq_true, true_and, and_true, bnd, Option.bind_some, ↓reduceIte, ltT, ltF, eqT, eqF, leT, leF]; rfl
  | none =>
    cases hlot : x.2.2.2.1 g with
    | true =>
      rw [hlot] at hl
      refine ⟨d, named, values, truth, ?_, ?_, fun _ _ => rfl⟩
      · cases canS x t w g <;> (simp (disch := omega) only [f_m_goes, hd.nameAt hb hw, q, enO_none, hl, bT0, nlit, onl, negone, iN_add, iN_mul, iN_sub, iN_pm, iN_addneg, iN_ix, iN_inb, iN_lt, iN_eq, iN_nneg, iN_nm, nm_iN, mI_neg, mI_nnn, ne_eq, not_true_eq_false, not_false_eq_true, true_and, and_true, bnd, Option.bind_some, ↓reduceIte, ltT, ltF, eqT, eqF, leT, leF, Bool.false_eq_true]; rfl)
      · cases canS x t w g <;> exact hd
    | false =>
      rw [hlot] at hl
      cases hc : canS x t w g with
      | false =>
        rw [hc] at e1
        refine ⟨d, n1, v1, t1, ?_, hd, fun _ _ => rfl⟩
        simp (disch := omega) only [f_m_goes, fj_m_goes_16, hd.nameAt hb hw, q, enO_none, hl, e1, un4, bF0, nlit, onl, negone, iN_add, iN_mul, iN_sub, iN_pm, iN_addneg, iN_ix, iN_inb, iN_lt, iN_eq, iN_nneg, iN_nm, nm_iN, mI_neg, mI_nnn, ne_eq, not_true_eq_false, not_false_eq_true, true_and, and_true, bnd, Option.bind_some, ↓reduceIte, ltT, ltF, eqT, eqF, leT, leF, Bool.false_eq_true]; rfl
      | true =>
        rw [hc] at e1
        have hne := can_ne hc q
        obtain ⟨n2, v2, t2, e2⟩ := M_pick (named := n1) (values := v1) (truth := t1) hx hm hd hb ht hw hg hne
        obtain ⟨d', e3, e4, e5⟩ := hd.come ht hb hg hw q (pick_at (x := x) (w := w) hne)
        refine ⟨d', n2, v2, t2, ?_, e4, e5⟩
        simp (disch := omega) only [f_m_goes, fj_m_goes_16, hd.nameAt hb hw, q, enO_none, hl, e1, e2, e3, un4, bF0, bT0, nlit, onl, negone, iN_add, iN_mul, iN_sub, iN_pm, iN_addneg, iN_ix, iN_inb, iN_lt, iN_eq, iN_nneg, iN_nm, nm_iN, mI_neg, mI_nnn, ne_eq, not_true_eq_false, not_false_eq_true, true_and, and_true, bnd, Option.bind_some, ↓reduceIte, ltT, ltF, eqT, eqF, leT, leF, Bool.false_eq_true]; rfl
end
