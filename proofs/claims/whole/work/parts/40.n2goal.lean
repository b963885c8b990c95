/-! ===== PURE: fewest: the reference's third goal; the class's row of what is wanted ===== -/
section
variable {x : Cx} {a texts d : Nat → Int32} {b : Nat} {t : Tn}
theorem M_goal2 (hx : CxOK x) (hm : MX a texts x) (hd : MT d b t) (hb : b ≤ 525) (ht : TW t) (l2 l3 : Int32) : f_m_isGoal (iN b) a d (iN 2) l2 l3 = some (b01 (asW (W2 x) t)) := by
  have hx1 := hx.1
  have h0 : a 0 = iN x.1 := hm.1
  have key : ∀ m k n, k + m = x.1 → m < n → (∀ j, j < k → x.2.2.2.2.1 j = true → t.1 j = some j) → (itr (fb_m_isGoal_61 (iN b) a d) n (iN k) = some (.inr ()) ∧ asW (W2 x) t = true) ∨ (itr (fb_m_isGoal_61 (iN b) a d) n (iN k) = some (.inl ()) ∧ asW (W2 x) t = false) := by
    intro m
    induction m with
    | zero =>
      intro k n hk hn h
      obtain ⟨n, rfl⟩ : ∃ z, n = z + 1 := ⟨n - 1, by omega⟩
      refine Or.inl ⟨itr_end ?_, asW_iff.mpr (fun j hj z hz => ?_)⟩
      · simp (disch := omega) only [fb_m_isGoal_61, h0, iN_lt, ltF, ↓reduceIte]
      · unfold W2 at hz
        by_cases c : j < x.1 ∧ x.2.2.2.2.1 j = true
        · rw [if_pos c] at hz; cases hz; exact h j (by omega) c.2
        · rw [if_neg c] at hz; cases hz
    | succ m ih =>
      intro k n hk hn h
      obtain ⟨n, rfl⟩ : ∃ z, n = z + 1 := ⟨n - 1, by omega⟩
      have hB : a (10 + 3 * k) = b01 (x.2.2.2.2.1 k) := hm.2.2.2.2.1 k (by omega)
      have hN := hd.nameAt hb (show k < 8 by omega)
      cases q : x.2.2.2.2.1 k with
      | false =>
        rw [q] at hB
        have st : fb_m_isGoal_61 (iN b) a d (iN k) = some (.inl (iN (k + 1))) := by
          simp (disch := omega) only [fb_m_isGoal_61, f_m_isBorn, nlit, h0, hB, bF1, iN_add, iN_mul, iN_lt, iN_inb, iN_ix, ltT, Option.bind_some, ↓reduceIte]
        rw [itr_step st]
        refine ih (k + 1) n (by omega) (by omega) (fun j hj z => ?_)
        by_cases c : j = k
        · rw [c, q] at z; cases z
        · exact h j (by omega) z
      | true =>
        rw [q] at hB
        have e10 : (iN 1 = iN 0) = False := eq_false (by decide)
        have hE := enO_inj (o := t.1 k) (q := some k) (fun m hm => (ht.1 k m hm).2) (fun m hm => by cases hm; omega)
        by_cases e : t.1 k = some k
        · have hE' : (enO (t.1 k) = iN k) = True := hE.trans (eq_true e)
          have st : fb_m_isGoal_61 (iN b) a d (iN k) = some (.inl (iN (k + 1))) := by
            simp (disch := omega) only [fb_m_isGoal_61, f_m_isBorn, nlit, h0, hB, bT1, e10, hN, hE', iN_add, iN_mul, iN_lt, iN_inb, iN_ix, ltT, Option.bind_some, ↓reduceIte]
          rw [itr_step st]
          refine ih (k + 1) n (by omega) (by omega) (fun j hj z => ?_)
          by_cases c : j = k
          · rw [c]; exact e
          · exact h j (by omega) z
        · have hE' : (enO (t.1 k) = iN k) = False := hE.trans (eq_false e)
          refine Or.inr ⟨itr_end ?_, ?_⟩
          · simp (disch := omega) only [fb_m_isGoal_61, f_m_isBorn, nlit, h0, hB, bT1, e10, hN, hE', iN_add, iN_mul, iN_lt, iN_inb, iN_ix, ltT, Option.bind_some, ↓reduceIte]
          · cases z : asW (W2 x) t with
            | false => rfl
            | true => exact absurd (asW_iff.mp z k (by omega) k (by unfold W2; rw [if_pos ⟨by omega, q⟩])) e
  have e20 : (iN 2 = iN 0) = False := eq_false (by decide)
  have e21 : (iN 2 = iN 1) = False := eq_false (by decide)
  rcases key x.1 0 KF (by omega) (kf_lt (by omega)) (fun j hj => absurd hj (Nat.not_lt_zero _)) with ⟨w1, w2⟩ | ⟨w1, w2⟩
  · rw [w2]; simp only [f_m_isGoal, nlit, e20, e21, w1, Sum.elim_inr, Option.bind_some, ↓reduceIte]; rfl
  · rw [w2]; simp only [f_m_isGoal, nlit, e20, e21, w1, Sum.elim_inl, Option.bind_some, ↓reduceIte]; rfl
end
theorem C_wantNo {wn : Nat → Int32} : ∃ w', f_srch_wantNothing wn = some w' ∧ WN w' (fun _ => none) := by
  obtain ⟨f, e1, e2, -⟩ := C_fill (n := 8) (f := wn) (v := mI) (by decide)
  refine ⟨f, ?_, fun k hk => ⟨e2 k hk, fun m hm => by cases hm⟩⟩
  simp only [f_srch_wantNothing, nlit, negone, e1, Option.bind_some]
theorem C_want {wn : Nat → Int32} {W : Nat → Option Nat} (h : WN wn W) {p : Nat} (hp : p < 8) {o : Option Nat} (ho : ∀ m, o = some m → m < 8) : ∃ w', f_srch_want wn (iN p) (enO o) = some w' ∧ WN w' (fun k => if k = p then o else W k) := by
  refine ⟨upd wn p (enO o), ?_, fun k hk => ?_⟩
  · simp (disch := omega) only [f_srch_want, nlit, bnd, iN_lt, iN_nneg, iN_inb, iN_ix, ltT, ltF, ↓reduceIte]
  · show upd wn p (enO o) k = enO (if k = p then o else W k) ∧ ∀ m, (if k = p then o else W k) = some m → m < 8
    by_cases c : k = p
    · rw [upd_eq c, if_pos c]; exact ⟨rfl, ho⟩
    · rw [upd_ne c, if_neg c]; exact h k hk
