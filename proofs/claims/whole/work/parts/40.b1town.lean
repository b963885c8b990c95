section
variable {d : Nat → Int32} {b : Nat} {t : Tn} {w g k n : Nat}
theorem MT.nameAt (h : MT d b t) (hb : b ≤ 525) (hw : w < 8) : f_m_nameAt (iN b) d (iN w) = some (enO (t.1 w)) := by
  simp (disch := omega) only [f_m_nameAt, nlit, onl, negone, iN_add, iN_mul, iN_sub, iN_pm, iN_addneg, iN_ix, iN_inb, iN_lt, iN_eq, iN_nneg, iN_nm, nm_iN, mI_neg, mI_nnn, ne_eq, not_true_eq_false, not_false_eq_true, true_and, and_true, bnd, Option.bind_some, ↓reduceIte, ltT, ltF, eqT, eqF, leT, leF, h.1 w hw]
theorem MT.hung (h : MT d b t) (hb : b ≤ 525) (hg : g < 3) : f_m_hung (iN b) d (iN g) = some (iN (t.2 g).length) := by
  simp (disch := omega) only [f_m_hung, nlit, onl, negone, iN_add, iN_mul, iN_sub, iN_pm, iN_addneg, iN_ix, iN_inb, iN_lt, iN_eq, iN_nneg, iN_nm, nm_iN, mI_neg, mI_nnn, ne_eq, not_true_eq_false, not_false_eq_true, true_and, and_true, bnd, Option.bind_some, ↓reduceIte, ltT, ltF, eqT, eqF, leT, leF, h.2.1 g hg]
theorem MT.heapAt (h : MT d b t) (ht : TW t) (hb : b ≤ 525) (hg : g < 3) (hk : (t.2 g)[k]? = some n) : f_m_heapAt (iN b) d (iN g) (iN k) = some (iN n) := by
  have h1 := ht.len g
  have h2 : k < (t.2 g).length := (List.getElem?_eq_some_iff.mp hk).1
  simp (disch := omega) only [f_m_heapAt, nlit, onl, negone, iN_add, iN_mul, iN_sub, iN_pm, iN_addneg, iN_ix, iN_inb, iN_lt, iN_eq, iN_nneg, iN_nm, nm_iN, mI_neg, mI_nnn, ne_eq, not_true_eq_false, not_false_eq_true, true_and, and_true, bnd, Option.bind_some, ↓reduceIte, ltT, ltF, eqT, eqF, leT, leF, h.2.2 g k n hg hk]
theorem MT.leave (h : MT d b t) (ht : TW t) (hb : b ≤ 525) (hg : g < 3) (hw : t.1 w = some n) : ∃ d', f_m_leave (iN b) d (iN w) (iN g) = some d' ∧ MT d' b (outT t w g n) ∧ ∀ j, j < b ∨ b + 35 ≤ j → d' j = d j := by
  have hw8 : w < 8 ∧ n < 8 := ht.1 w n hw
  have h7 := ht.len7 hw g
  refine ⟨upd (upd (upd d (b + 11 + 8 * g + (t.2 g).length) (iN n)) (b + 8 + g) (iN ((t.2 g).length + 1))) (b + w) mI, ?_, ⟨fun i hi => ?_, fun j hj => ?_, fun j k' m hj hm => ?_⟩, fun j hj => ?_⟩
  · simp (disch := omega) only [f_m_leave, h.nameAt hb hw8.1, h.hung hb hg, hw, enO_some, nlit, onl, negone, iN_add, iN_mul, iN_sub, iN_pm, iN_addneg, iN_ix, iN_inb, iN_lt, iN_eq, iN_nneg, iN_nm, nm_iN, mI_neg, mI_nnn, ne_eq, not_true_eq_false, not_false_eq_true, true_and, and_true, bnd, Option.bind_some, ↓reduceIte, ltT, ltF, eqT, eqF, leT, leF, upd_same, upd_ne, upd_eq, h.2.1 g hg]
  · by_cases q : i = w
    · subst q
      rw [upd_same, show (outT t i g n).1 i = none from setF_same]; rfl
    · rw [show (outT t w g n).1 i = t.1 i from setF_ne q]
      simp (disch := omega) only [upd_same, upd_ne, upd_eq]
      exact h.1 i hi
  · by_cases q : j = g
    · subst q
      rw [show (outT t w j n).2 j = t.2 j ++ [n] from setF_same, List.length_append]
      simp (disch := omega) only [upd_same, upd_ne, upd_eq]; rfl
    · rw [show (outT t w g n).2 j = t.2 j from setF_ne q]
      simp (disch := omega) only [upd_same, upd_ne, upd_eq]
      exact h.2.1 j hj
  · have hl8 := ht.len j
    by_cases q : j = g
    · subst q
      rw [show (outT t w j n).2 j = t.2 j ++ [n] from setF_same] at hm
      have hl := (List.getElem?_eq_some_iff.mp hm).1
      rw [List.length_append, List.length_singleton] at hl
      by_cases r : k' = (t.2 j).length
      · subst r
        rw [List.getElem?_concat_length] at hm
        simp (disch := omega) only [upd_same, upd_ne, upd_eq]
        rw [Option.some.inj hm]
      · simp (disch := omega) only [upd_same, upd_ne, upd_eq]
        rw [List.getElem?_append_left (by omega)] at hm
        exact h.2.2 j k' m hj hm
    · rw [show (outT t w g n).2 j = t.2 j from setF_ne q] at hm
      have hl := (List.getElem?_eq_some_iff.mp hm).1
      simp (disch := omega) only [upd_same, upd_ne, upd_eq]
      exact h.2.2 j k' m hj hm
  · simp (disch := omega) only [upd_same, upd_ne, upd_eq]
theorem MT.come (h : MT d b t) (ht : TW t) (hb : b ≤ 525) (hg : g < 3) (hw : w < 8) (hn : t.1 w = none) (hk : (t.2 g)[k]? = some n) : ∃ d', f_m_come (iN b) d (iN w) (iN g) (iN k) = some d' ∧ MT d' b (inT t w g k n) ∧ ∀ j, j < b ∨ b + 35 ≤ j → d' j = d j := by
  have h1 := ht.len g
  have h2 : k < (t.2 g).length := (List.getElem?_eq_some_iff.mp hk).1
  have hn8 : n < 8 := (ht.2.1 g n (List.mem_of_getElem? hk)).2
  let D0 : Nat → Int32 := upd d (b + w) (iN n)
  let D : Nat → Nat → Int32 := fun z j => if b + 11 + 8 * g + k ≤ j ∧ j < b + 11 + 8 * g + k + z then d (j + 1) else D0 j
  have hD0 : D 0 = D0 := funext fun j => if_neg (by omega)
  have hup : ∀ z, upd (D z) (b + 11 + 8 * g + (k + z)) (d (b + 11 + 8 * g + (k + z + 1))) = D (z + 1) := by
    intro z; funext j
    show upd (D z) (b + 11 + 8 * g + (k + z)) (d (b + 11 + 8 * g + (k + z + 1))) j = if _ then _ else _
    by_cases q : j = b + 11 + 8 * g + (k + z)
    · subst q
      rw [upd_same, if_pos (by omega)]
      congr 1
    · rw [upd_ne q]
      show (if _ then _ else _) = _
      by_cases r : b + 11 + 8 * g + k ≤ j ∧ j < b + 11 + 8 * g + k + z
      · rw [if_pos r, if_pos (by omega)]
      · rw [if_neg r, if_neg (by omega)]
  have hout : ∀ z j, j < b + 11 + 8 * g + k ∨ b + 11 + 8 * g + k + z ≤ j → D z j = D0 j := by
    intro z j hj
    exact if_neg (by omega)
  have hh : ∀ z, D z (b + 8 + g) = iN (t.2 g).length := by
    intro z
    rw [hout z _ (Or.inl (by omega))]
    show upd d (b + w) (iN n) (b + 8 + g) = _
    rw [upd_ne (by omega)]
    exact h.2.1 g hg
  have hit : itr (un2 (fb_m_come_20 (iN b) (iN g))) KF (iN k, D0) = some (D ((t.2 g).length - 1 - k)) := by
    have := itr_seq (f := un2 (fb_m_come_20 (iN b) (iN g))) (fun z => (iN (k + z), D z)) (e := D ((t.2 g).length - 1 - k)) ((t.2 g).length - 1 - k) KF (fun z hz => ?_) ?_ (kf_lt (by omega))
    · rw [hD0] at this
      exact this
    · have e1 : D z (b + 11 + 8 * g + (k + z + 1)) = d (b + 11 + 8 * g + (k + z + 1)) := by
        rw [hout z _ (Or.inr (by omega))]
        exact upd_ne (by omega)
      simp (disch := omega) only [un2, fb_m_come_20, f_m_hung, f_m_heapAt, nlit, onl, negone, iN_add, iN_mul, iN_sub, iN_pm, iN_addneg, iN_ix, iN_inb, iN_lt, iN_eq, iN_nneg, iN_nm, nm_iN, mI_neg, mI_nnn, ne_eq, not_true_eq_false, not_false_eq_true, true_and, and_true, bnd, Option.bind_some, ↓reduceIte, ltT, ltF, eqT, eqF, leT, leF, hh, e1, hup]
      rfl
    · simp (disch := omega) only [un2, fb_m_come_20, f_m_hung, nlit, onl, negone, iN_add, iN_mul, iN_sub, iN_pm, iN_addneg, iN_ix, iN_inb, iN_lt, iN_eq, iN_nneg, iN_nm, nm_iN, mI_neg, mI_nnn, ne_eq, not_true_eq_false, not_false_eq_true, true_and, and_true, bnd, Option.bind_some, ↓reduceIte, ltT, ltF, eqT, eqF, leT, leF, hh]
  refine ⟨upd (D ((t.2 g).length - 1 - k)) (b + 8 + g) (iN ((t.2 g).length - 1)), ?_, ⟨fun i hi => ?_, fun j hj => ?_, fun j k' m hj hm => ?_⟩, fun j hj => ?_⟩
  · have hit' : itr (un2 (fb_m_come_20 (iN b) (iN g))) KF (iN k, upd d (b + w) (iN n)) = some (D ((t.2 g).length - 1 - k)) := hit
    simp (disch := omega) only [f_m_come, h.heapAt ht hb hg hk, nlit, onl, negone, iN_add, iN_mul, iN_sub, iN_pm, iN_addneg, iN_ix, iN_inb, iN_lt, iN_eq, iN_nneg, iN_nm, nm_iN, mI_neg, mI_nnn, ne_eq, not_true_eq_false, not_false_eq_true, true_and, and_true, bnd, Option.bind_some, ↓reduceIte, ltT, ltF, eqT, eqF, leT, leF, hit', hh]
  · rw [upd_ne (by omega), hout _ _ (Or.inl (by omega))]
    show upd d (b + w) (iN n) (b + i) = _
    by_cases q : i = w
    · subst q
      rw [upd_same, show (inT t i g k n).1 i = some n from setF_same]; rfl
    · rw [show (inT t w g k n).1 i = t.1 i from setF_ne q, upd_ne (by omega)]
      exact h.1 i hi
  · by_cases q : j = g
    · subst q
      rw [show (inT t w j k n).2 j = (t.2 j).eraseIdx k from setF_same, List.length_eraseIdx, if_pos h2, upd_same]
    · rw [show (inT t w g k n).2 j = t.2 j from setF_ne q, upd_ne (by omega), hout _ _ (Or.inl (by omega))]
      show upd d (b + w) (iN n) _ = _
      rw [upd_ne (by omega)]
      exact h.2.1 j hj
  · have hl8 := ht.len j
    by_cases q : j = g
    · subst q
      rw [show (inT t w j k n).2 j = (t.2 j).eraseIdx k from setF_same] at hm
      have hl := (List.getElem?_eq_some_iff.mp hm).1
      rw [List.length_eraseIdx, if_pos h2] at hl
      rw [List.getElem?_eraseIdx] at hm
      rw [upd_ne (by omega)]
      by_cases r : k' < k
      · rw [if_pos r] at hm
        rw [hout _ _ (Or.inl (by omega))]
        show upd d (b + w) (iN n) _ = _
        rw [upd_ne (by omega)]
        exact h.2.2 j k' m hj hm
      · rw [if_neg r] at hm
        show (if _ then _ else _) = _
        rw [if_pos (by omega)]
        exact h.2.2 j (k' + 1) m hj hm
    · rw [show (inT t w g k n).2 j = t.2 j from setF_ne q] at hm
      have hl := (List.getElem?_eq_some_iff.mp hm).1
      rw [upd_ne (by omega), hout _ _ (by omega)]
      show upd d (b + w) (iN n) _ = _
      rw [upd_ne (by omega)]
      exact h.2.2 j k' m hj hm
  · rw [upd_ne (by omega), hout _ _ (by omega)]
    exact upd_ne (by omega)
end
