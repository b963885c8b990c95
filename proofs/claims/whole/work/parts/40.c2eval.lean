/-- the reference's step of a clause -/
theorem M_step {texts named truth : Nat → Int32} {values : Nat → Int64} {al : Nat → Bool} {env : Nat → Int} {o q : Nat × Nat} {ts : List Bool} {vs : List Int} {X K i e : Nat} (hX : X + 2 < 2720) (hK : K + 2 * i + 1 < 2720) (he : texts (X + 2) = iN e) (hie : i < e) (heb : e < 1000) (h0 : texts (K + 2 * i) = iN o.1) (h1 : texts (K + 2 * i + 1) = iN o.2) (hn : ∀ v, v < 8 → al v = true → named v = zI (env v)) (hb : ∀ v, v < 8 → al v = true → -1000000 ≤ env v ∧ env v ≤ 1000000) (ht : tyS al o ts.length vs.length = some q) (hl : ts.length ≤ 300) (hl2 : vs.length ≤ 300) (hv : agV values vs) (hr : agB truth ts) (hbd : bdd vs) :
    ∃ values' truth', fb_m_work_47 texts named (iN X) (iN K) (iN vs.length) (iN ts.length) (iN i) values truth = some (.inl (iN (evS env o ts vs).2.length, iN (evS env o ts vs).1.length, iN (i + 1), values', truth')) ∧ agV values' (evS env o ts vs).2 ∧ agB truth' (evS env o ts vs).1 := by
  rcases tyS_cases ht with ⟨h, h2, h3, rfl⟩ | ⟨h, h2, h3, rfl⟩ | ⟨h, h2, rfl⟩ | ⟨h, h2, rfl⟩ | ⟨h, h2, rfl⟩ | ⟨h, h2, h3, rfl⟩ | ⟨h, h2, h3, rfl⟩
  · have e1 : evS env o ts vs = (ts, (o.2 : Int) :: vs) := by unfold evS; rw [if_pos h]
    rw [e1]
    refine ⟨vp_updL values vs.length (wI o.2), truth, ?_, ⟨updL_same, hv.upd (Nat.le_refl _)⟩, hr⟩
    simp (disch := omega) only [fb_m_work_47, nlit, onl, negone, iN_add, iN_mul, iN_sub, iN_pm, iN_addneg, iN_ix, iN_inb, iN_lt, iN_eq, iN_nneg, iN_nm, nm_iN, mI_neg, mI_nnn, ne_eq, not_true_eq_false, not_false_eq_true, true_and, and_true, bnd, Option.bind_some, ↓reduceIte, ltT, ltF, eqT, eqF, leT, leF, he, h0, h1, iN_w, List.length_cons]
  · have e1 : evS env o ts vs = (ts, env o.2 :: vs) := by unfold evS; rw [if_neg (by omega), if_pos h]
    rw [e1]
    have hb2 := hb o.2 h2.1 h2.2
    refine ⟨vp_updL values vs.length (wI (env o.2)), truth, ?_, ⟨updL_same, hv.upd (Nat.le_refl _)⟩, hr⟩
    simp (disch := omega) only [fb_m_work_47, nlit, onl, negone, iN_add, iN_mul, iN_sub, iN_pm, iN_addneg, iN_ix, iN_inb, iN_lt, iN_eq, iN_nneg, iN_nm, nm_iN, mI_neg, mI_nnn, ne_eq, not_true_eq_false, not_false_eq_true, true_and, and_true, bnd, Option.bind_some, ↓reduceIte, ltT, ltF, eqT, eqF, leT, leF, he, h0, h1, hn o.2 h2.1 h2.2, zI_w, List.length_cons]
  · match vs, h2, hv, hbd, hl2 with
    | x :: r, _, hv, hbd, hl2 =>
      have e1 : evS env o ts (x :: r) = (ts, -x :: r) := by unfold evS; simp (disch := omega) only [if_pos, if_neg]
      rw [e1]
      rw [List.length_cons] at hl2
      refine ⟨vp_updL values r.length (wI (-x)), truth, ?_, ⟨updL_same, hv.2.upd (Nat.le_refl _)⟩, hr⟩
      simp (disch := omega) only [fb_m_work_47, nlit, onl, negone, iN_add, iN_mul, iN_sub, iN_pm, iN_addneg, iN_ix, iN_inb, iN_lt, iN_eq, iN_nneg, iN_nm, nm_iN, mI_neg, mI_nnn, ne_eq, not_true_eq_false, not_false_eq_true, true_and, and_true, bnd, Option.bind_some, ↓reduceIte, ltT, ltF, eqT, eqF, leT, leF, he, h0, h1, List.length_cons, Nat.add_sub_cancel, hv.1, wI_neg]
  · match vs, h2, hv, hbd, hl2 with
    | y :: x :: r, _, hv, hbd, hl2 =>
      have e1 : evS env o ts (y :: x :: r) = (ts, binI o.1 x y :: r) := by unfold evS; simp (disch := omega) only [if_pos, if_neg]
      rw [e1]
      rw [List.length_cons, List.length_cons] at hl2
      have by_ := hbd y List.mem_cons_self
      have bx := hbd x (List.mem_cons_of_mem _ List.mem_cons_self)
      have hv1 : values (r.length + 1) = wI y := hv.1
      refine ⟨vp_updL values r.length (wI (binI o.1 x y)), truth, ?_, ⟨updL_same, hv.2.2.upd (Nat.le_refl _)⟩, hr⟩
      simp (disch := omega) only [fb_m_work_47, nlit, onl, negone, iN_add, iN_mul, iN_sub, iN_pm, iN_addneg, iN_ix, iN_inb, iN_lt, iN_eq, iN_nneg, iN_nm, nm_iN, mI_neg, mI_nnn, ne_eq, not_true_eq_false, not_false_eq_true, true_and, and_true, bnd, Option.bind_some, ↓reduceIte, ltT, ltF, eqT, eqF, leT, leF, he, h0, h1, List.length_cons, Nat.add_sub_cancel, hv1, hv.2.1, M_two h bx.1 bx.2 by_.1 by_.2]
  · match vs, h2, hv, hbd with
    | [y, x], _, hv, hbd =>
      have e1 : evS env o ts [y, x] = (cmpI o.1 x y :: ts, []) := by unfold evS; simp (disch := omega) only [if_pos, if_neg]
      rw [e1]
      have by_ := hbd y List.mem_cons_self
      have bx := hbd x (List.mem_cons_of_mem _ List.mem_cons_self)
      have hv1 : values 1 = wI y := hv.1
      have hv0 : values 0 = wI x := hv.2.1
      refine ⟨values, upd truth ts.length (b01 (cmpI o.1 x y)), ?_, trivial, ⟨upd_same, hr.upd (Nat.le_refl _)⟩⟩
      simp (disch := omega) only [fb_m_work_47, nlit, onl, negone, iN_add, iN_mul, iN_sub, iN_pm, iN_addneg, iN_ix, iN_inb, iN_lt, iN_eq, iN_nneg, iN_nm, nm_iN, mI_neg, mI_nnn, ne_eq, not_true_eq_false, not_false_eq_true, true_and, and_true, bnd, Option.bind_some, ↓reduceIte, ltT, ltF, eqT, eqF, leT, leF, he, h0, h1, List.length_cons, List.length_nil, Nat.zero_add, Nat.reduceAdd, Nat.reduceSub, Nat.sub_self, hv1, hv0, M_asked h bx.1 bx.2 by_.1 by_.2, nar_b01]
  · match ts, h2, hr, hl with
    | b :: r, _, hr, hl =>
      have e1 : evS env o (b :: r) vs = ((!b) :: r, vs) := by unfold evS; simp (disch := omega) only [if_pos, if_neg]
      rw [e1]
      rw [List.length_cons] at hl
      refine ⟨values, upd truth r.length (b01 (!b)), ?_, hv, ⟨upd_same, hr.2.upd (Nat.le_refl _)⟩⟩
      cases b with
      | true =>
        have e2 : (b01 true = iN 0) = False := propext ⟨fun q => absurd q (by decide), False.elim⟩
        simp (disch := omega) only [fb_m_work_47, nlit, onl, negone, iN_add, iN_mul, iN_sub, iN_pm, iN_addneg, iN_ix, iN_inb, iN_lt, iN_eq, iN_nneg, iN_nm, nm_iN, mI_neg, mI_nnn, ne_eq, not_true_eq_false, not_false_eq_true, true_and, and_true, bnd, Option.bind_some, ↓reduceIte, ltT, ltF, eqT, eqF, leT, leF, he, h0, h1, List.length_cons, Nat.add_sub_cancel, hr.1, e2]; rfl
      | false =>
        have e2 : (b01 false = iN 0) = True := propext ⟨fun _ => trivial, fun _ => rfl⟩
        simp (disch := omega) only [fb_m_work_47, nlit, onl, negone, iN_add, iN_mul, iN_sub, iN_pm, iN_addneg, iN_ix, iN_inb, iN_lt, iN_eq, iN_nneg, iN_nm, nm_iN, mI_neg, mI_nnn, ne_eq, not_true_eq_false, not_false_eq_true, true_and, and_true, bnd, Option.bind_some, ↓reduceIte, ltT, ltF, eqT, eqF, leT, leF, he, h0, h1, List.length_cons, Nat.add_sub_cancel, hr.1, e2]; rfl
  · match ts, h2, hr, hl with
    | b :: a :: r, _, hr, hl =>
      rw [List.length_cons, List.length_cons] at hl
      have hr1 : truth (r.length + 1) = b01 b := hr.1
      have eT : (b01 true = iN 0) = False := propext ⟨fun q => absurd q (by decide), False.elim⟩
      have eF : (b01 false = iN 0) = True := propext ⟨fun _ => trivial, fun _ => rfl⟩
      rcases h with h | h
      · have e1 : evS env o (b :: a :: r) vs = ((a && b) :: r, vs) := by unfold evS; simp (disch := omega) only [if_pos, if_neg]
        rw [e1]
        refine ⟨values, upd truth r.length (b01 (a && b)), ?_, hv, ⟨upd_same, hr.2.2.upd (Nat.le_refl _)⟩⟩
        cases a <;> cases b <;> (simp (disch := omega) only [fb_m_work_47, nlit, onl, negone, iN_add, iN_mul, iN_sub, iN_pm, iN_addneg, iN_ix, iN_inb, iN_lt, iN_eq, iN_nneg, iN_nm, nm_iN, mI_neg, mI_nnn, ne_eq, not_true_eq_false, not_false_eq_true, true_and, and_true, bnd, Option.bind_some, ↓reduceIte, ltT, ltF, eqT, eqF, leT, leF, he, h0, h1, List.length_cons, Nat.add_sub_cancel, hr1, hr.2.1, eT, eF]; rfl)
      · have e1 : evS env o (b :: a :: r) vs = ((a || b) :: r, vs) := by unfold evS; simp (disch := omega) only [if_pos, if_neg]
        rw [e1]
        refine ⟨values, upd truth r.length (b01 (a || b)), ?_, hv, ⟨upd_same, hr.2.2.upd (Nat.le_refl _)⟩⟩
        cases a <;> cases b <;> (simp (disch := omega) only [fb_m_work_47, nlit, onl, negone, iN_add, iN_mul, iN_sub, iN_pm, iN_addneg, iN_ix, iN_inb, iN_lt, iN_eq, iN_nneg, iN_nm, nm_iN, mI_neg, mI_nnn, ne_eq, not_true_eq_false, not_false_eq_true, true_and, and_true, bnd, Option.bind_some, ↓reduceIte, ltT, ltF, eqT, eqF, leT, leF, he, h0, h1, List.length_cons, Nat.add_sub_cancel, hr1, hr.2.1, eT, eF]; rfl)
/-- the reference's clause: the whole of it -/
theorem M_loop {texts named : Nat → Int32} {al : Nat → Bool} {env : Nat → Int} {X K e : Nat} (hX : X + 2 < 2720) (hK : K + 2 * e < 2720) (he : texts (X + 2) = iN e) (heb : e ≤ 300) (hn : ∀ v, v < 8 → al v = true → named v = zI (env v)) (hb : ∀ v, v < 8 → al v = true → -1000000 ≤ env v ∧ env v ≤ 1000000) : ∀ (ops : List (Nat × Nat)) (i n : Nat) (ts : List Bool) (vs : List Int) (values : Nat → Int64) (truth : Nat → Int32) (q : Nat × Nat), i + ops.length = e → (∀ j o, ops[j]? = some o → texts (K + 2 * (i + j)) = iN o.1 ∧ texts (K + 2 * (i + j) + 1) = iN o.2) → tyR al ops ts.length vs.length = some q → ts.length + vs.length ≤ 60 → agV values vs → agB truth ts → bdd vs → ops.length < n →
    ∃ values' truth', itr (un5 (fb_m_work_47 texts named (iN X) (iN K))) n (iN vs.length, iN ts.length, iN i, values, truth) = some (values', truth') ∧ agV values' (evR env ops ts vs).2 ∧ agB truth' (evR env ops ts vs).1 ∧ bdd (evR env ops ts vs).2 ∧ (evR env ops ts vs).1.length = q.1 ∧ (evR env ops ts vs).2.length = q.2
  | [], i, n, ts, vs, values, truth, q, hi, _, hq, hl, hv, hr, hbd, hnn => by
    obtain ⟨n, rfl⟩ : ∃ m, n = m + 1 := ⟨n - 1, by omega⟩
    have hi : i = e := hi
    have hq : (ts.length, vs.length) = q := Option.some.inj hq
    subst hi; subst hq
    refine ⟨values, truth, itr_end ?_, hv, hr, hbd, rfl, rfl⟩
    simp (disch := omega) only [un5, fb_m_work_47, nlit, onl, negone, iN_add, iN_mul, iN_sub, iN_pm, iN_addneg, iN_ix, iN_inb, iN_lt, iN_eq, iN_nneg, iN_nm, nm_iN, mI_neg, mI_nnn, ne_eq, not_true_eq_false, not_false_eq_true, true_and, and_true, bnd, Option.bind_some, ↓reduceIte, ltT, ltF, eqT, eqF, leT, leF, he]
  | o :: ops, i, n, ts, vs, values, truth, q, hi, hc, hq, hl, hv, hr, hbd, hnn => by
    rw [List.length_cons] at hi hnn
    obtain ⟨n, rfl⟩ : ∃ m, n = m + 1 := ⟨n - 1, by omega⟩
    obtain ⟨h0, h1⟩ := hc 0 o rfl
    rw [Nat.add_zero] at h0 h1
    unfold tyR at hq
    cases hty : tyS al o ts.length vs.length with
    | none => rw [hty] at hq; cases hq
    | some q1 =>
      rw [hty, Option.bind_some] at hq
      obtain ⟨hb1, hb2, hb3⟩ := evS_ok (env := env) hty hb hbd
      obtain ⟨v', t', g1, g2, g3⟩ := M_step (env := env) hX (by omega) he (by omega) (by omega) h0 h1 hn hb hty (by omega) (by omega) hv hr hbd
      have hl' : q1.1 + q1.2 ≤ 60 := by
        rcases tyS_cases hty with ⟨_, _, h3, rfl⟩ | ⟨_, _, h3, rfl⟩ | ⟨_, _, rfl⟩ | ⟨_, h2, rfl⟩ | ⟨_, h2, rfl⟩ | ⟨_, _, _, rfl⟩ | ⟨_, h2, _, rfl⟩ <;> dsimp only <;> omega
      have hst : un5 (fb_m_work_47 texts named (iN X) (iN K)) (iN vs.length, iN ts.length, iN i, values, truth) = _ := g1
      rw [itr_step hst]
      rw [← hb2, ← hb3] at hq
      exact M_loop hX hK he heb hn hb ops (i + 1) n _ _ v' t' q (by omega) (fun j o' hj => by
        have := hc (j + 1) o' hj
        rw [show i + 1 + j = i + (j + 1) by omega]
        exact this) hq (by rw [hb2, hb3]; exact hl') g2 g3 hb1 (by omega)
