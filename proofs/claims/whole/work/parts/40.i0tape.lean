/-! ===== PURE: the tape: feed, end, fault ===== -/
theorem bt_eq {x : BitVec 32} {s : Nat} (hs : s ≤ 24) : (x.sshiftRight s) &&& 255#32 = (x >>> s) &&& 255#32 := by
  apply BitVec.eq_of_getLsbD_eq
  intro i hi
  rw [BitVec.getLsbD_and, BitVec.getLsbD_and]
  by_cases q : i < 8
  · rw [BitVec.getLsbD_sshiftRight, BitVec.getLsbD_ushiftRight]
    have a : decide (32 ≤ i) = false := decide_eq_false (by omega)
    rw [a, if_pos (show s + i < 32 by omega)]
    rfl
  · have e : (255#32).getLsbD i = false := by
      have h : ∀ j, j < 24 → (255#32).getLsbD (8 + j) = false := by decide
      have := h (i - 8) (by omega)
      rw [show 8 + (i - 8) = i by omega] at this
      exact this
    rw [e, Bool.and_false, Bool.and_false]
/-- the byte of l that lies s bits up -/
def byL (l : Int32) (s : Nat) : Int32 := Int32.ofBitVec ((l.toBitVec >>> s) &&& 255#32)
theorem byL_ok (l : Int32) (s : Nat) : ∃ v, v < 256 ∧ byL l s = iN v := by
  refine ⟨((l.toBitVec >>> s) &&& 255#32).toNat, ?_, ?_⟩
  · rw [BitVec.toNat_and]
    exact Nat.lt_of_le_of_lt Nat.and_le_right (by decide)
  · apply Int32.toBitVec_inj.mp
    show _ = BitVec.ofNat 32 _
    rw [BitVec.ofNat_toNat, BitVec.setWidth_eq]; rfl
theorem C_shr {l : Int32} {s : Nat} (h : s = 24 ∨ s = 16 ∨ s = 8 ∨ s = 0) : ((l.toUInt32 >>> ((iN s).toUInt32 &&& Int32.toUInt32 (iN 31))).toInt32) &&& iN 255 = byL l s := by
  rcases h with rfl | rfl | rfl | rfl <;> rfl
theorem M_shr {l : Int32} {s : Nat} (h : s = 24 ∨ s = 16 ∨ s = 8 ∨ s = 0) : (l >>> (iN s &&& iN 31)) &&& iN 255 = byL l s := by
  rcases h with rfl | rfl | rfl | rfl
  · exact Int32.toBitVec_inj.mp (bt_eq (x := l.toBitVec) (s := 24) (by decide))
  · exact Int32.toBitVec_inj.mp (bt_eq (x := l.toBitVec) (s := 16) (by decide))
  · exact Int32.toBitVec_inj.mp (bt_eq (x := l.toBitVec) (s := 8) (by decide))
  · exact Int32.toBitVec_inj.mp (bt_eq (x := l.toBitVec) (s := 0) (by decide))
def up4 (b : Nat → Int32) (n : Nat) (l : Int32) : Nat → Int32 := upd (upd (upd (upd b n (byL l 24)) (n + 1) (byL l 16)) (n + 2) (byL l 8)) (n + 3) (byL l 0)
/-- the tape, as both have it -/
def TP (ln : Int32) (by_ : Nat → Int32) (td : Int32) (tp : Nat → Int32) (n : Nat) : Prop := ln = iN n ∧ td = iN n ∧ n ≤ 300 ∧ ∀ k, k < n → ∃ v, v < 256 ∧ by_ k = iN v ∧ tp k = iN v
theorem kf5 : ∃ z, KF = z + 5 := ⟨KF - 5, by have : 100 < KF := kf_lt (by decide); omega⟩
theorem C_addFour {n : Nat} {b : Nat → Int32} (l : Int32) (h : n + 4 ≤ 300) : f_rd_addFour (iN n) b l = some (iN (n + 4), up4 b n l) := by
  have s0 : un3 (fb_rd_addFour_3 l) (iN 24, iN n, b) = some (.inl (iN 16, iN (n + 1), upd b n (byL l 24))) := by
    simp (disch := omega) only [un3, fb_rd_addFour_3, nlit, C_shr (l := l) (s := 24) (Or.inl rfl), nlit, onl, negone, iN_add, iN_mul, iN_sub, iN_pm, iN_addneg, iN_ix, iN_inb, iN_lt, iN_eq, iN_nneg, iN_nm, nm_iN, mI_neg, mI_nnn, ne_eq, not_true_eq_false, not_false_eq_true, true_and, and_true, bnd, Option.bind_some, ↓reduceIte, ltT, ltF, eqT, eqF, leT, leF]
  have s1 : un3 (fb_rd_addFour_3 l) (iN 16, iN (n + 1), upd b n (byL l 24)) = some (.inl (iN 8, iN (n + 1 + 1), upd (upd b n (byL l 24)) (n + 1) (byL l 16))) := by
    simp (disch := omega) only [un3, fb_rd_addFour_3, nlit, C_shr (l := l) (s := 16) (Or.inr (Or.inl rfl)), nlit, onl, negone, iN_add, iN_mul, iN_sub, iN_pm, iN_addneg, iN_ix, iN_inb, iN_lt, iN_eq, iN_nneg, iN_nm, nm_iN, mI_neg, mI_nnn, ne_eq, not_true_eq_false, not_false_eq_true, true_and, and_true, bnd, Option.bind_some, ↓reduceIte, ltT, ltF, eqT, eqF, leT, leF]
  have s2 : un3 (fb_rd_addFour_3 l) (iN 8, iN (n + 1 + 1), upd (upd b n (byL l 24)) (n + 1) (byL l 16)) = some (.inl (iN 0, iN (n + 1 + 1 + 1), upd (upd (upd b n (byL l 24)) (n + 1) (byL l 16)) (n + 2) (byL l 8))) := by
    simp (disch := omega) only [un3, fb_rd_addFour_3, nlit, C_shr (l := l) (s := 8) (Or.inr (Or.inr (Or.inl rfl))), nlit, onl, negone, iN_add, iN_mul, iN_sub, iN_pm, iN_addneg, iN_ix, iN_inb, iN_lt, iN_eq, iN_nneg, iN_nm, nm_iN, mI_neg, mI_nnn, ne_eq, not_true_eq_false, not_false_eq_true, true_and, and_true, bnd, Option.bind_some, ↓reduceIte, ltT, ltF, eqT, eqF, leT, leF]
  have s3 : un3 (fb_rd_addFour_3 l) (iN 0, iN (n + 1 + 1 + 1), upd (upd (upd b n (byL l 24)) (n + 1) (byL l 16)) (n + 2) (byL l 8)) = some (.inl (iN 0 + iN 8 * mI, iN (n + 4), up4 b n l)) := by
    simp (disch := omega) only [un3, fb_rd_addFour_3, nlit, C_shr (l := l) (s := 0) (Or.inr (Or.inr (Or.inr rfl))), nlit, onl, negone, iN_add, iN_mul, iN_sub, iN_pm, iN_addneg, iN_ix, iN_inb, iN_lt, iN_eq, iN_nneg, iN_nm, nm_iN, mI_neg, mI_nnn, ne_eq, not_true_eq_false, not_false_eq_true, true_and, and_true, bnd, Option.bind_some, ↓reduceIte, ltT, ltF, eqT, eqF, leT, leF]
    rfl
  have s4 : un3 (fb_rd_addFour_3 l) (iN 0 + iN 8 * mI, iN (n + 4), up4 b n l) = some (.inr (iN (n + 4), up4 b n l)) := by
    have c : (iN 0 + iN 8 * mI < iN 0) = True := eq_true (by decide)
    simp (disch := omega) only [un3, fb_rd_addFour_3, nlit, c, ↓reduceIte]
  obtain ⟨z, hz⟩ := kf5
  have e : itr (un3 (fb_rd_addFour_3 l)) KF (iN 24, iN n, b) = some (iN (n + 4), up4 b n l) := by
    rw [hz, itr_step s0, itr_step s1, itr_step s2, itr_step s3, itr_end s4]
  simp only [f_rd_addFour, nlit, e, Option.bind_some, un2]
theorem M_four {n : Nat} {b : Nat → Int32} (l : Int32) (h : n + 4 ≤ 300) : f_m_four (iN n) b l = some (iN (n + 4), up4 b n l) := by
  have s0 : un3 (fb_m_four_3 l) (iN 24, iN n, b) = some (.inl (iN 16, iN (n + 1), upd b n (byL l 24))) := by
    simp (disch := omega) only [un3, fb_m_four_3, nlit, M_shr (l := l) (s := 24) (Or.inl rfl), nlit, onl, negone, iN_add, iN_mul, iN_sub, iN_pm, iN_addneg, iN_ix, iN_inb, iN_lt, iN_eq, iN_nneg, iN_nm, nm_iN, mI_neg, mI_nnn, ne_eq, not_true_eq_false, not_false_eq_true, true_and, and_true, bnd, Option.bind_some, ↓reduceIte, ltT, ltF, eqT, eqF, leT, leF]
  have s1 : un3 (fb_m_four_3 l) (iN 16, iN (n + 1), upd b n (byL l 24)) = some (.inl (iN 8, iN (n + 1 + 1), upd (upd b n (byL l 24)) (n + 1) (byL l 16))) := by
    simp (disch := omega) only [un3, fb_m_four_3, nlit, M_shr (l := l) (s := 16) (Or.inr (Or.inl rfl)), nlit, onl, negone, iN_add, iN_mul, iN_sub, iN_pm, iN_addneg, iN_ix, iN_inb, iN_lt, iN_eq, iN_nneg, iN_nm, nm_iN, mI_neg, mI_nnn, ne_eq, not_true_eq_false, not_false_eq_true, true_and, and_true, bnd, Option.bind_some, ↓reduceIte, ltT, ltF, eqT, eqF, leT, leF]
  have s2 : un3 (fb_m_four_3 l) (iN 8, iN (n + 1 + 1), upd (upd b n (byL l 24)) (n + 1) (byL l 16)) = some (.inl (iN 0, iN (n + 1 + 1 + 1), upd (upd (upd b n (byL l 24)) (n + 1) (byL l 16)) (n + 2) (byL l 8))) := by
    simp (disch := omega) only [un3, fb_m_four_3, nlit, M_shr (l := l) (s := 8) (Or.inr (Or.inr (Or.inl rfl))), nlit, onl, negone, iN_add, iN_mul, iN_sub, iN_pm, iN_addneg, iN_ix, iN_inb, iN_lt, iN_eq, iN_nneg, iN_nm, nm_iN, mI_neg, mI_nnn, ne_eq, not_true_eq_false, not_false_eq_true, true_and, and_true, bnd, Option.bind_some, ↓reduceIte, ltT, ltF, eqT, eqF, leT, leF]
  have s3 : un3 (fb_m_four_3 l) (iN 0, iN (n + 1 + 1 + 1), upd (upd (upd b n (byL l 24)) (n + 1) (byL l 16)) (n + 2) (byL l 8)) = some (.inl (iN 0 + iN 8 * mI, iN (n + 4), up4 b n l)) := by
    simp (disch := omega) only [un3, fb_m_four_3, nlit, M_shr (l := l) (s := 0) (Or.inr (Or.inr (Or.inr rfl))), nlit, onl, negone, iN_add, iN_mul, iN_sub, iN_pm, iN_addneg, iN_ix, iN_inb, iN_lt, iN_eq, iN_nneg, iN_nm, nm_iN, mI_neg, mI_nnn, ne_eq, not_true_eq_false, not_false_eq_true, true_and, and_true, bnd, Option.bind_some, ↓reduceIte, ltT, ltF, eqT, eqF, leT, leF]
    rfl
  have s4 : un3 (fb_m_four_3 l) (iN 0 + iN 8 * mI, iN (n + 4), up4 b n l) = some (.inr (iN (n + 4), up4 b n l)) := by
    have c : (iN 0 + iN 8 * mI < iN 0) = True := eq_true (by decide)
    simp (disch := omega) only [un3, fb_m_four_3, nlit, c, ↓reduceIte]
  obtain ⟨z, hz⟩ := kf5
  have e : itr (un3 (fb_m_four_3 l)) KF (iN 24, iN n, b) = some (iN (n + 4), up4 b n l) := by
    rw [hz, itr_step s0, itr_step s1, itr_step s2, itr_step s3, itr_end s4]
  simp only [f_m_four, nlit, e, Option.bind_some, un2]
theorem up4_ok {b t : Nat → Int32} {n : Nat} {l : Int32} (h : ∀ k, k < n → ∃ v, v < 256 ∧ b k = iN v ∧ t k = iN v) : ∀ k, k < n + 4 → ∃ v, v < 256 ∧ up4 b n l k = iN v ∧ up4 t n l k = iN v := by
  intro k hk
  unfold up4
  by_cases q : k = n + 3
  · obtain ⟨v, hv, e⟩ := byL_ok l 0
    subst q
    exact ⟨v, hv, by simp (disch := omega) only [upd_same, upd_ne, upd_eq]; exact e, by simp (disch := omega) only [upd_same, upd_ne, upd_eq]; exact e⟩
  by_cases q2 : k = n + 2
  · obtain ⟨v, hv, e⟩ := byL_ok l 8
    subst q2
    exact ⟨v, hv, by simp (disch := omega) only [upd_same, upd_ne, upd_eq]; exact e, by simp (disch := omega) only [upd_same, upd_ne, upd_eq]; exact e⟩
  by_cases q1 : k = n + 1
  · obtain ⟨v, hv, e⟩ := byL_ok l 16
    subst q1
    exact ⟨v, hv, by simp (disch := omega) only [upd_same, upd_ne, upd_eq]; exact e, by simp (disch := omega) only [upd_same, upd_ne, upd_eq]; exact e⟩
  by_cases q0 : k = n
  · obtain ⟨v, hv, e⟩ := byL_ok l 24
    subst q0
    exact ⟨v, hv, by simp (disch := omega) only [upd_same, upd_ne, upd_eq]; exact e, by simp (disch := omega) only [upd_same, upd_ne, upd_eq]; exact e⟩
  obtain ⟨v, hv, e1, e2⟩ := h k (by omega)
  exact ⟨v, hv, by simp (disch := omega) only [upd_same, upd_ne, upd_eq]; exact e1, by simp (disch := omega) only [upd_same, upd_ne, upd_eq]; exact e2⟩
section
variable {ln td : Int32} {by_ tp : Nat → Int32} {n : Nat}
theorem J_feed (h : TP ln by_ td tp n) (p q u v w : Int32) : ∃ r ln' by' td' tp' n', f_x_feed ln by_ p q u v w = some (r, ln', by') ∧ f_m_feed td tp p q u v w = some (r, td', tp') ∧ TP ln' by' td' tp' n' := by
  obtain ⟨rfl, rfl, hn, hk⟩ := h
  by_cases c : 300 < n + 20
  · refine ⟨mI, iN n, by_, iN n, tp, n, ?_, ?_, rfl, rfl, hn, hk⟩
    · simp (disch := omega) only [f_x_feed, nlit, onl, negone, iN_add, iN_mul, iN_sub, iN_pm, iN_addneg, iN_ix, iN_inb, iN_lt, iN_eq, iN_nneg, iN_nm, nm_iN, mI_neg, mI_nnn, ne_eq, not_true_eq_false, not_false_eq_true, true_and, and_true, bnd, Option.bind_some, ↓reduceIte, ltT, ltF, eqT, eqF, leT, leF]
    · simp (disch := omega) only [f_m_feed, nlit, onl, negone, iN_add, iN_mul, iN_sub, iN_pm, iN_addneg, iN_ix, iN_inb, iN_lt, iN_eq, iN_nneg, iN_nm, nm_iN, mI_neg, mI_nnn, ne_eq, not_true_eq_false, not_false_eq_true, true_and, and_true, bnd, Option.bind_some, ↓reduceIte, ltT, ltF, eqT, eqF, leT, leF]
  · refine ⟨iN (n + 4 + 4 + 4 + 4 + 4), iN (n + 4 + 4 + 4 + 4 + 4), _, iN (n + 4 + 4 + 4 + 4 + 4), _, n + 4 + 4 + 4 + 4 + 4, ?_, ?_, rfl, rfl, by omega, up4_ok (l := w) (up4_ok (l := v) (up4_ok (l := u) (up4_ok (l := q) (up4_ok (l := p) hk))))⟩
    · simp (disch := omega) only [f_x_feed, C_addFour, un2, nlit, onl, negone, iN_add, iN_mul, iN_sub, iN_pm, iN_addneg, iN_ix, iN_inb, iN_lt, iN_eq, iN_nneg, iN_nm, nm_iN, mI_neg, mI_nnn, ne_eq, not_true_eq_false, not_false_eq_true, true_and, and_true, bnd, Option.bind_some, ↓reduceIte, ltT, ltF, eqT, eqF, leT, leF]
    · simp (disch := omega) only [f_m_feed, M_four, un2, nlit, onl, negone, iN_add, iN_mul, iN_sub, iN_pm, iN_addneg, iN_ix, iN_inb, iN_lt, iN_eq, iN_nneg, iN_nm, nm_iN, mI_neg, mI_nnn, ne_eq, not_true_eq_false, not_false_eq_true, true_and, and_true, bnd, Option.bind_some, ↓reduceIte, ltT, ltF, eqT, eqF, leT, leF]
theorem J_end (h : TP ln by_ td tp n) (l : Int32) : ∃ r ln' td' n', f_x_end ln l = some (r, ln') ∧ f_m_end td l = some (r, td') ∧ TP ln' by_ td' tp n' := by
  obtain ⟨rfl, rfl, hn, hk⟩ := h
  cases q : inR l (n + 1) with
  | false =>
    refine ⟨mI, iN n, iN n, n, ?_, ?_, rfl, rfl, hn, hk⟩
    · have e : f_x_end (iN n) l = if inR l (n + 1) = true then some (l, l) else some (mI, iN n) := rng2 (n := n) (by omega)
      rw [e, q]; rfl
    · simp (disch := omega) only [f_m_end, nlit, M_isInK, q, bF0, nlit, onl, negone, iN_add, iN_mul, iN_sub, iN_pm, iN_addneg, iN_ix, iN_inb, iN_lt, iN_eq, iN_nneg, iN_nm, nm_iN, mI_neg, mI_nnn, ne_eq, not_true_eq_false, not_false_eq_true, true_and, and_true, bnd, Option.bind_some, ↓reduceIte, ltT, ltF, eqT, eqF, leT, leF]
  | true =>
    obtain ⟨w, hw, rfl⟩ := inR_some q
    refine ⟨iN w, iN w, iN w, w, ?_, ?_, rfl, rfl, by omega, fun k z => hk k (by omega)⟩
    · simp (disch := omega) only [f_x_end, nlit, onl, negone, iN_add, iN_mul, iN_sub, iN_pm, iN_addneg, iN_ix, iN_inb, iN_lt, iN_eq, iN_nneg, iN_nm, nm_iN, mI_neg, mI_nnn, ne_eq, not_true_eq_false, not_false_eq_true, true_and, and_true, bnd, Option.bind_some, ↓reduceIte, ltT, ltF, eqT, eqF, leT, leF]
    · simp (disch := omega) only [f_m_end, nlit, M_isInK, q, bT0, nlit, onl, negone, iN_add, iN_mul, iN_sub, iN_pm, iN_addneg, iN_ix, iN_inb, iN_lt, iN_eq, iN_nneg, iN_nm, nm_iN, mI_neg, mI_nnn, ne_eq, not_true_eq_false, not_false_eq_true, true_and, and_true, bnd, Option.bind_some, ↓reduceIte, ltT, ltF, eqT, eqF, leT, leF]
/-- what the last reading found, as both have it -/
def FP (hr fa pl mf mp : Int32) : Prop := (hr = iN 0 ∧ mf = mI ∧ mp = mI) ∨ (hr = iN 1 ∧ mf = fa ∧ mp = pl)
theorem J_fault {hr fa pl mf mp : Int32} (h : FP hr fa pl mf mp) (l : Int32) : ∃ r, f_x_fault hr fa pl l = some r ∧ f_m_fault mf mp l = some r := by
  unfold f_x_fault f_m_fault
  simp only [nlit, onl, negone]
  rcases h with ⟨rfl, rfl, rfl⟩ | ⟨rfl, rfl, rfl⟩
  · refine ⟨mI, by simp only [↓reduceIte], ?_⟩
    by_cases a : l = iN 0
    · simp only [a, ↓reduceIte]
    · by_cases b : l = iN 1
      · simp only [b, ↓reduceIte, ite_self]
      · simp only [a, b, ↓reduceIte]
  · have c : (iN 1 = iN 0) = False := eq_false (by decide)
    simp only [c, ↓reduceIte]
    by_cases a : l = iN 0
    · exact ⟨mf, by simp only [a, ↓reduceIte], by simp only [a, ↓reduceIte]⟩
    · by_cases b : l = iN 1
      · have d : (iN 1 = iN 0) = False := eq_false (by decide)
        exact ⟨mp, by simp only [b, d, ↓reduceIte], by simp only [b, d, ↓reduceIte]⟩
      · exact ⟨mI, by simp only [a, b, ↓reduceIte], by simp only [a, b, ↓reduceIte]⟩
end
