theorem tyS_cases {al : Nat → Bool} {o q : Nat × Nat} {t v : Nat} (h : tyS al o t v = some q) : (o.1 = 0 ∧ o.2 ≤ 9999 ∧ t + v < 60 ∧ q = (t, v + 1)) ∨ (o.1 = 1 ∧ (o.2 < 8 ∧ al o.2 = true) ∧ t + v < 60 ∧ q = (t, v + 1)) ∨ (o.1 = 2 ∧ 1 ≤ v ∧ q = (t, v)) ∨ ((3 ≤ o.1 ∧ o.1 ≤ 7) ∧ 2 ≤ v ∧ q = (t, v - 1)) ∨ ((10 ≤ o.1 ∧ o.1 ≤ 15) ∧ v = 2 ∧ q = (t + 1, 0)) ∨ (o.1 = 20 ∧ 1 ≤ t ∧ v = 0 ∧ q = (t, v)) ∨ ((o.1 = 21 ∨ o.1 = 22) ∧ 2 ≤ t ∧ v = 0 ∧ q = (t - 1, v)) := by
  unfold tyS at h
  by_cases h0 : o.1 = 0
  · rw [if_pos h0] at h
    split at h
    · rename_i c; exact Or.inl ⟨h0, c.1, c.2, (Option.some.inj h).symm⟩
    · cases h
  rw [if_neg h0] at h
  by_cases h1 : o.1 = 1
  · rw [if_pos h1] at h
    split at h
    · rename_i c; exact Or.inr (Or.inl ⟨h1, c.1, c.2, (Option.some.inj h).symm⟩)
    · cases h
  rw [if_neg h1] at h
  by_cases h2 : o.1 = 2
  · rw [if_pos h2] at h
    split at h
    · rename_i c; exact Or.inr (Or.inr (Or.inl ⟨h2, c, (Option.some.inj h).symm⟩))
    · cases h
  rw [if_neg h2] at h
  by_cases h3 : o.1 < 8
  · rw [if_pos h3] at h
    split at h
    · rename_i c; exact Or.inr (Or.inr (Or.inr (Or.inl ⟨⟨by omega, by omega⟩, c, (Option.some.inj h).symm⟩)))
    · cases h
  rw [if_neg h3] at h
  by_cases h4 : o.1 < 10
  · rw [if_pos h4] at h; cases h
  rw [if_neg h4] at h
  by_cases h5 : o.1 < 16
  · rw [if_pos h5] at h
    split at h
    · rename_i c; exact Or.inr (Or.inr (Or.inr (Or.inr (Or.inl ⟨⟨by omega, by omega⟩, c, (Option.some.inj h).symm⟩))))
    · cases h
  rw [if_neg h5] at h
  by_cases h6 : o.1 = 20
  · rw [if_pos h6] at h
    split at h
    · rename_i c; exact Or.inr (Or.inr (Or.inr (Or.inr (Or.inr (Or.inl ⟨h6, c.1, c.2, (Option.some.inj h).symm⟩)))))
    · cases h
  rw [if_neg h6] at h
  by_cases h7 : o.1 = 21 ∨ o.1 = 22
  · rw [if_pos h7] at h
    split at h
    · rename_i c; exact Or.inr (Or.inr (Or.inr (Or.inr (Or.inr (Or.inr ⟨h7, c.1, c.2, (Option.some.inj h).symm⟩)))))
    · cases h
  rw [if_neg h7] at h; cases h
theorem iN_w {n : Nat} (h : n < 2147483648) : (iN n).toInt64 = wI (n : Int) := by
  rw [← zI_iN, zI_w (by omega) (by omega)]
theorem nar_b01 {b : Bool} : vp_nar .boolean (b01 b) = b01 b := by cases b <;> decide
theorem b01_0 {b : Bool} : (b01 b = iN 0) = (b = false) := by cases b <;> exact propext (by decide)
/-- what a sign does: lengths and bounds -/
theorem evS_ok {al : Nat → Bool} {env : Nat → Int} {o q : Nat × Nat} {ts : List Bool} {vs : List Int} (ht : tyS al o ts.length vs.length = some q) (hb : ∀ v, v < 8 → al v = true → -1000000 ≤ env v ∧ env v ≤ 1000000) (hbd : bdd vs) : bdd (evS env o ts vs).2 ∧ (evS env o ts vs).1.length = q.1 ∧ (evS env o ts vs).2.length = q.2 := by
  rcases tyS_cases ht with ⟨h, h2, h3, rfl⟩ | ⟨h, h2, h3, rfl⟩ | ⟨h, h2, rfl⟩ | ⟨h, h2, rfl⟩ | ⟨h, h2, rfl⟩ | ⟨h, h2, h3, rfl⟩ | ⟨h, h2, h3, rfl⟩
  · unfold evS
    simp (disch := omega) only [if_pos]
    refine ⟨fun x hx => ?_, (by first | rfl | trivial), (by first | rfl | trivial)⟩
    rcases List.mem_cons.mp hx with rfl | hx
    · omega
    · exact hbd x hx
  · unfold evS
    simp (disch := omega) only [if_pos, if_neg]
    refine ⟨fun x hx => ?_, (by first | rfl | trivial), (by first | rfl | trivial)⟩
    rcases List.mem_cons.mp hx with rfl | hx
    · exact hb _ h2.1 h2.2
    · exact hbd x hx
  · unfold evS
    simp (disch := omega) only [if_pos, if_neg]
    match vs, h2 with
    | x :: r, _ =>
      refine ⟨fun y hy => ?_, (by first | rfl | trivial), (by first | rfl | trivial)⟩
      rcases List.mem_cons.mp hy with rfl | hy
      · have := hbd x List.mem_cons_self; omega
      · exact hbd y (List.mem_cons_of_mem _ hy)
  · unfold evS
    simp (disch := omega) only [if_pos, if_neg]
    match vs, h2 with
    | y :: x :: r, _ =>
      refine ⟨fun z hz => ?_, (by first | rfl | trivial), (by first | rfl | trivial)⟩
      rcases List.mem_cons.mp hz with rfl | hz
      · have := hbd x (List.mem_cons_of_mem _ List.mem_cons_self)
        exact binI_b this.1 this.2
      · exact hbd z (List.mem_cons_of_mem _ (List.mem_cons_of_mem _ hz))
  · unfold evS
    simp (disch := omega) only [if_pos, if_neg]
    match vs, h2 with
    | [y, x], _ =>
      exact ⟨fun z hz => absurd hz List.not_mem_nil, (by first | rfl | trivial), (by first | rfl | trivial)⟩
  · unfold evS
    simp (disch := omega) only [if_pos, if_neg]
    match ts, h2 with
    | b :: r, _ => exact ⟨hbd, (by first | rfl | trivial), (by first | rfl | trivial)⟩
  · unfold evS
    match ts, h2 with
    | b :: a :: r, _ =>
      rcases h with h | h
      · simp (disch := omega) only [if_pos, if_neg]
        exact ⟨hbd, (by first | rfl | trivial), (by first | rfl | trivial)⟩
      · simp (disch := omega) only [if_pos, if_neg]
        exact ⟨hbd, (by first | rfl | trivial), (by first | rfl | trivial)⟩
theorem M_clip {z : Int} (h1 : -9000000000000000000 ≤ z) (h2 : z ≤ 9000000000000000000) : f_m_clip (wI z) = some (wI (clp z)) := by
  unfold f_m_clip clp
  simp (disch := omega) only [nlit, onl, negone, iN_add, iN_mul, iN_sub, iN_pm, iN_addneg, iN_ix, iN_inb, iN_lt, iN_eq, iN_nneg, iN_nm, nm_iN, mI_neg, mI_nnn, ne_eq, not_true_eq_false, not_false_eq_true, true_and, and_true, bnd, Option.bind_some, ltTi, ltFi, eqTi, eqFi, leTi, leFi, wlit, wl0, wl1, wI_add, wI_sub, wI_mul, wI_neg, wI_inj, lg_lt, lg_gt, lg_eq, wI_z]
  split
  · rfl
  · split <;> rfl
theorem mul_b {x y : Int} (h1 : -1000000 ≤ x) (h2 : x ≤ 1000000) (h3 : -1000000 ≤ y) (h4 : y ≤ 1000000) : -1000000000000 ≤ x * y ∧ x * y ≤ 1000000000000 := by
  have h : (x * y).natAbs ≤ 1000000 * 1000000 := by
    rw [Int.natAbs_mul]
    exact Nat.mul_le_mul (by omega) (by omega)
  omega
theorem M_two {o : Nat} {x y : Int} (h : 3 ≤ o ∧ o ≤ 7) (h1 : -1000000 ≤ x) (h2 : x ≤ 1000000) (h3 : -1000000 ≤ y) (h4 : y ≤ 1000000) : f_m_two (iN o) (wI x) (wI y) = some (wI (binI o x y)) := by
  have hm := mul_b h1 h2 h3 h4
  have hd := tdiv_b (y := y) h1 h2
  have hr : rem64 (wI x) (wI y) = wI (x - x.tdiv y * y) := by
    unfold rem64
    rw [wI_div (by omega) (by omega) (by omega) (by omega), wI_mul, wI_sub]
  have : o = 3 ∨ o = 4 ∨ o = 5 ∨ o = 6 ∨ o = 7 := by omega
  unfold f_m_two binI
  rcases this with rfl | rfl | rfl | rfl | rfl
  · simp (disch := omega) only [nlit, onl, negone, iN_add, iN_mul, iN_sub, iN_pm, iN_addneg, iN_ix, iN_inb, iN_lt, iN_eq, iN_nneg, iN_nm, nm_iN, mI_neg, mI_nnn, ne_eq, not_true_eq_false, not_false_eq_true, true_and, and_true, bnd, Option.bind_some, ↓reduceIte, ltT, ltF, eqT, eqF, leT, leF, ltTi, ltFi, eqTi, eqFi, leTi, leFi, wlit, wl0, wl1, wI_add, wI_sub, wI_mul, wI_neg, wI_inj, lg_lt, lg_gt, lg_eq, wI_z, M_clip]
  · simp (disch := omega) only [nlit, onl, negone, iN_add, iN_mul, iN_sub, iN_pm, iN_addneg, iN_ix, iN_inb, iN_lt, iN_eq, iN_nneg, iN_nm, nm_iN, mI_neg, mI_nnn, ne_eq, not_true_eq_false, not_false_eq_true, true_and, and_true, bnd, Option.bind_some, ↓reduceIte, ltT, ltF, eqT, eqF, leT, leF, ltTi, ltFi, eqTi, eqFi, leTi, leFi, wlit, wl0, wl1, wI_add, wI_sub, wI_mul, wI_neg, wI_inj, lg_lt, lg_gt, lg_eq, wI_z, M_clip]
  · simp (disch := omega) only [nlit, onl, negone, iN_add, iN_mul, iN_sub, iN_pm, iN_addneg, iN_ix, iN_inb, iN_lt, iN_eq, iN_nneg, iN_nm, nm_iN, mI_neg, mI_nnn, ne_eq, not_true_eq_false, not_false_eq_true, true_and, and_true, bnd, Option.bind_some, ↓reduceIte, ltT, ltF, eqT, eqF, leT, leF, ltTi, ltFi, eqTi, eqFi, leTi, leFi, wlit, wl0, wl1, wI_add, wI_sub, wI_mul, wI_neg, wI_inj, lg_lt, lg_gt, lg_eq, wI_z, M_clip]
  · by_cases hy : y = 0
    · simp (disch := omega) only [nlit, onl, negone, iN_add, iN_mul, iN_sub, iN_pm, iN_addneg, iN_ix, iN_inb, iN_lt, iN_eq, iN_nneg, iN_nm, nm_iN, mI_neg, mI_nnn, ne_eq, not_true_eq_false, not_false_eq_true, true_and, and_true, bnd, Option.bind_some, ↓reduceIte, ltT, ltF, eqT, eqF, leT, leF, ltTi, ltFi, eqTi, eqFi, leTi, leFi, wlit, wl0, wl1, wI_add, wI_sub, wI_mul, wI_neg, wI_inj, lg_lt, lg_gt, lg_eq, wI_z, M_clip]
    · simp (disch := omega) only [nlit, onl, negone, iN_add, iN_mul, iN_sub, iN_pm, iN_addneg, iN_ix, iN_inb, iN_lt, iN_eq, iN_nneg, iN_nm, nm_iN, mI_neg, mI_nnn, ne_eq, not_true_eq_false, not_false_eq_true, true_and, and_true, bnd, Option.bind_some, ↓reduceIte, ltT, ltF, eqT, eqF, leT, leF, ltTi, ltFi, eqTi, eqFi, leTi, leFi, wlit, wl0, wl1, wI_add, wI_sub, wI_mul, wI_neg, wI_inj, lg_lt, lg_gt, lg_eq, wI_z, wI_div, M_clip, clp_id]
  · by_cases hy : y = 0
    · simp (disch := omega) only [nlit, onl, negone, iN_add, iN_mul, iN_sub, iN_pm, iN_addneg, iN_ix, iN_inb, iN_lt, iN_eq, iN_nneg, iN_nm, nm_iN, mI_neg, mI_nnn, ne_eq, not_true_eq_false, not_false_eq_true, true_and, and_true, bnd, Option.bind_some, ↓reduceIte, ltT, ltF, eqT, eqF, leT, leF, ltTi, ltFi, eqTi, eqFi, leTi, leFi, wlit, wl0, wl1, wI_add, wI_sub, wI_mul, wI_neg, wI_inj, lg_lt, lg_gt, lg_eq, wI_z, M_clip]
    · simp (disch := omega) only [nlit, onl, negone, iN_add, iN_mul, iN_sub, iN_pm, iN_addneg, iN_ix, iN_inb, iN_lt, iN_eq, iN_nneg, iN_nm, nm_iN, mI_neg, mI_nnn, ne_eq, not_true_eq_false, not_false_eq_true, true_and, and_true, bnd, Option.bind_some, ↓reduceIte, ltT, ltF, eqT, eqF, leT, leF, ltTi, ltFi, eqTi, eqFi, leTi, leFi, wlit, wl0, wl1, wI_add, wI_sub, wI_mul, wI_neg, wI_inj, lg_lt, lg_gt, lg_eq, wI_z, hr]
theorem M_asked {o : Nat} {x y : Int} (h : 10 ≤ o ∧ o ≤ 15) (h1 : -1000000 ≤ x) (h2 : x ≤ 1000000) (h3 : -1000000 ≤ y) (h4 : y ≤ 1000000) : f_m_isAsked (iN o) (wI x) (wI y) = some (b01 (cmpI o x y)) := by
  have : o = 10 ∨ o = 11 ∨ o = 12 ∨ o = 13 ∨ o = 14 ∨ o = 15 := by omega
  unfold f_m_isAsked cmpI b01
  rcases this with rfl | rfl | rfl | rfl | rfl | rfl
  · by_cases hy : x < y <;> simp (disch := omega) only [nlit, onl, negone, iN_add, iN_mul, iN_sub, iN_pm, iN_addneg, iN_ix, iN_inb, iN_lt, iN_eq, iN_nneg, iN_nm, nm_iN, mI_neg, mI_nnn, ne_eq, not_true_eq_false, not_false_eq_true, true_and, and_true, bnd, Option.bind_some, ↓reduceIte, ltT, ltF, eqT, eqF, leT, leF, ltTi, ltFi, eqTi, eqFi, leTi, leFi, wlit, wl0, wl1, wI_add, wI_sub, wI_mul, wI_neg, wI_inj, lg_lt, lg_gt, lg_eq, wI_z, decide_eq_true_eq]
  · by_cases hy : x ≤ y <;> simp (disch := omega) only [nlit, onl, negone, iN_add, iN_mul, iN_sub, iN_pm, iN_addneg, iN_ix, iN_inb, iN_lt, iN_eq, iN_nneg, iN_nm, nm_iN, mI_neg, mI_nnn, ne_eq, not_true_eq_false, not_false_eq_true, true_and, and_true, bnd, Option.bind_some, ↓reduceIte, ltT, ltF, eqT, eqF, leT, leF, ltTi, ltFi, eqTi, eqFi, leTi, leFi, wlit, wl0, wl1, wI_add, wI_sub, wI_mul, wI_neg, wI_inj, lg_lt, lg_gt, lg_eq, wI_z, decide_eq_true_eq]
  · by_cases hy : y < x <;> simp (disch := omega) only [nlit, onl, negone, iN_add, iN_mul, iN_sub, iN_pm, iN_addneg, iN_ix, iN_inb, iN_lt, iN_eq, iN_nneg, iN_nm, nm_iN, mI_neg, mI_nnn, ne_eq, not_true_eq_false, not_false_eq_true, true_and, and_true, bnd, Option.bind_some, ↓reduceIte, ltT, ltF, eqT, eqF, leT, leF, ltTi, ltFi, eqTi, eqFi, leTi, leFi, wlit, wl0, wl1, wI_add, wI_sub, wI_mul, wI_neg, wI_inj, lg_lt, lg_gt, lg_eq, wI_z, decide_eq_true_eq]
  · by_cases hy : y ≤ x <;> simp (disch := omega) only [nlit, onl, negone, iN_add, iN_mul, iN_sub, iN_pm, iN_addneg, iN_ix, iN_inb, iN_lt, iN_eq, iN_nneg, iN_nm, nm_iN, mI_neg, mI_nnn, ne_eq, not_true_eq_false, not_false_eq_true, true_and, and_true, bnd, Option.bind_some, ↓reduceIte, ltT, ltF, eqT, eqF, leT, leF, ltTi, ltFi, eqTi, eqFi, leTi, leFi, wlit, wl0, wl1, wI_add, wI_sub, wI_mul, wI_neg, wI_inj, lg_lt, lg_gt, lg_eq, wI_z, decide_eq_true_eq]
  · by_cases hy : x = y <;> simp (disch := omega) only [nlit, onl, negone, iN_add, iN_mul, iN_sub, iN_pm, iN_addneg, iN_ix, iN_inb, iN_lt, iN_eq, iN_nneg, iN_nm, nm_iN, mI_neg, mI_nnn, ne_eq, not_true_eq_false, not_false_eq_true, true_and, and_true, bnd, Option.bind_some, ↓reduceIte, ltT, ltF, eqT, eqF, leT, leF, ltTi, ltFi, eqTi, eqFi, leTi, leFi, wlit, wl0, wl1, wI_add, wI_sub, wI_mul, wI_neg, wI_inj, lg_lt, lg_gt, lg_eq, wI_z, decide_eq_true_eq]
  · by_cases hy : x = y <;> simp (disch := omega) only [nlit, onl, negone, iN_add, iN_mul, iN_sub, iN_pm, iN_addneg, iN_ix, iN_inb, iN_lt, iN_eq, iN_nneg, iN_nm, nm_iN, mI_neg, mI_nnn, ne_eq, not_true_eq_false, not_false_eq_true, true_and, and_true, bnd, Option.bind_some, ↓reduceIte, ltT, ltF, eqT, eqF, leT, leF, ltTi, ltFi, eqTi, eqFi, leTi, leFi, wlit, wl0, wl1, wI_add, wI_sub, wI_mul, wI_neg, wI_inj, lg_lt, lg_gt, lg_eq, wI_z, decide_eq_true_eq]
