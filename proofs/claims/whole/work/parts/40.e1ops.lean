/-! ===== PURE: person, gate, hour, by, seed ===== -/
theorem CT.setName {nm sz : Nat → Int32} {hp : Nat → Nat → Int32} {t : Tn} (h : CT nm sz hp t) {w : Nat} {o : Option Nat} : CT (upd nm w (enO o)) sz hp (setF t.1 w o, t.2) := by
  refine ⟨fun i hi => ?_, h.2.1, h.2.2⟩
  by_cases q : i = w
  · subst q; rw [upd_same]; show _ = enO (setF t.1 i o i); rw [setF_same]
  · rw [upd_ne q]; show _ = enO (setF t.1 w o i); rw [setF_ne q]; exact h.1 i hi
theorem MT.setName {d : Nat → Int32} {b : Nat} {t : Tn} (h : MT d b t) {w : Nat} {o : Option Nat} (hw : w < 8) : MT (upd d (b + w) (enO o)) b (setF t.1 w o, t.2) := by
  refine ⟨fun i hi => ?_, fun g hg => ?_, fun g k n hg hk => ?_⟩
  · by_cases q : i = w
    · subst q; rw [upd_same]; show _ = enO (setF t.1 i o i); rw [setF_same]
    · rw [upd_ne (by omega)]; show _ = enO (setF t.1 w o i); rw [setF_ne q]; exact h.1 i hi
  · rw [upd_ne (by omega)]; exact h.2.1 g hg
  · rw [upd_ne (by omega)]; exact h.2.2 g k n hg hk
theorem TW.setName {t : Tn} (h : TW t) {w n : Nat} (hw : w < 8) (hn : n < 8) (h0 : ∀ i, t.1 i ≠ some n) (h1 : ∀ g, n ∉ t.2 g) : TW (setF t.1 w (some n), t.2) := by
  obtain ⟨a1, a2, a3, a4, a5, a6⟩ := h
  have e : ∀ i m, setF t.1 w (some n) i = some m → (i = w ∧ m = n) ∨ (i ≠ w ∧ t.1 i = some m) := by
    intro i m hi
    by_cases q : i = w
    · subst q; rw [setF_same] at hi; exact Or.inl ⟨rfl, (Option.some.inj hi).symm⟩
    · rw [setF_ne q] at hi; exact Or.inr ⟨q, hi⟩
  refine ⟨fun i m hi => ?_, a2, fun i j m hi hj => ?_, fun i m g hi hg => ?_, a5, a6⟩
  · rcases e i m hi with ⟨rfl, rfl⟩ | ⟨_, q⟩
    · exact ⟨hw, hn⟩
    · exact a1 i m q
  · rcases e i m hi with ⟨rfl, rfl⟩ | ⟨_, q⟩ <;> rcases e j m hj with ⟨rfl, r⟩ | ⟨_, r⟩
    · rfl
    · exact absurd r (h0 j)
    · subst r; exact absurd q (h0 i)
    · exact a3 i j m q r
  · rcases e i m hi with ⟨rfl, rfl⟩ | ⟨_, q⟩
    · exact h1 g hg
    · exact a4 i m g q hg
theorem setF_id {α : Type} {f : Nat → α} {k : Nat} {x : α} (h : f k = x) : setF f k x = f := by
  funext j
  by_cases q : j = k
  · subst q; rw [setF_same, h]
  · rw [setF_ne q]
theorem nar_b {b : Bool} : vp_nar .boolean (b01 b) = b01 b := nar_b01
def spPerson (s : Wd) (b : Bool) : Wd := ((s.1.1 + 1, s.1.2), (setF s.2.1.1 s.1.1 b, s.2.1.2.1, setF s.2.1.2.2.1 s.1.1 (iN 0), setF s.2.1.2.2.2 s.1.1 (iN 0)), (setF s.2.2.1.1 s.1.1 (if b then some s.1.1 else none), s.2.2.1.2), s.2.2.2)
section
variable {pe ga hr tx rl xx dz rz kz : Int32} {bo lo pa dn nm sz dc rc kc a d : Nat → Int32} {hp : Nat → Nat → Int32} {s : Wd}
theorem WOK.person (hok : WOK s) (h8 : s.1.1 < 8) (b : Bool) : WOK (spPerson s b) := by
  obtain ⟨⟨a1, a2, a3, a4, a5, a6⟩, ⟨b1, b2, b3⟩, hD, hR, hK⟩ := hok
  have hnn : s.2.2.1.1 s.1.1 = none := by
    cases q : s.2.2.1.1 s.1.1 with
    | none => rfl
    | some n => have := (b2 _ n q).1; omega
  refine ⟨⟨h8, a2, a3, a4, a5, a6⟩, ⟨?_, fun i n hi => ?_, fun g n hg => ?_⟩, hD, ⟨hR.1, fun q hq => ?_⟩, hK⟩
  · cases b with
    | false =>
      show TW (setF s.2.2.1.1 s.1.1 none, s.2.2.1.2)
      rw [setF_id hnn]; exact b1
    | true =>
      exact b1.setName h8 h8 (fun i q => by have := (b2 i _ q).2; omega) (fun g q => by have := (b3 g _ q).2; omega)
  · by_cases q : i = s.1.1
    · subst q
      have hi' : setF s.2.2.1.1 s.1.1 (if b then some s.1.1 else none) s.1.1 = some n := hi
      rw [setF_same] at hi'
      cases b with
      | false => cases hi'
      | true =>
        cases hi'
        exact ⟨Nat.lt_succ_self _, Nat.lt_succ_self _⟩
    · have hi' : setF s.2.2.1.1 s.1.1 (if b then some s.1.1 else none) i = some n := hi
      rw [setF_ne q] at hi'
      have := b2 i n hi'
      exact ⟨Nat.lt_succ_of_lt this.1, Nat.lt_succ_of_lt this.2⟩
  · have := b3 g n hg
    exact ⟨this.1, Nat.lt_succ_of_lt this.2⟩
  · have := hR.2 q hq
    exact ⟨Nat.lt_succ_of_lt this.1, this.2⟩
theorem J_person (hC : CW pe ga hr tx rl xx bo lo pa dn nm sz hp dz dc rz rc kz kc s) (hM : MA a s) (hT : MT d 0 s.2.2.1) (hok : WOK s) (b : Bool) : ∃ r pe' bo' pa' dn' nm' a' d' s', f_x_person pe bo pa dn nm (b01 b) = some (r, pe', bo', pa', dn', nm') ∧ f_m_person a d (b01 b) = some (r, a', d') ∧ CW pe' ga hr tx rl xx bo' lo pa' dn' nm' sz hp dz dc rz rc kz kc s' ∧ MA a' s' ∧ MT d' 0 s'.2.2.1 ∧ (∀ j, 35 ≤ j → d' j = d j) ∧ WOK s' ∧ s'.1.2.2.2.1 = s.1.2.2.2.1 := by
  obtain ⟨⟨c1, c2, c3, c4, c5, c6⟩, ⟨c7, c8, c9, c10⟩, cT, cD, cR, cK⟩ := hC
  obtain ⟨⟨m1, m2, m3, m4, m5, m6⟩, ⟨m7, m8, m9, m10⟩, ⟨m11, m12⟩, ⟨m13, m14⟩, ⟨m15, m16, m17⟩⟩ := hM
  have hP := hok.1.1
  by_cases h8 : s.1.1 = 8
  · refine ⟨mI, pe, bo, pa, dn, nm, a, d, s, ?_, ?_, ⟨⟨c1, c2, c3, c4, c5, c6⟩, ⟨c7, c8, c9, c10⟩, cT, cD, cR, cK⟩, ⟨⟨m1, m2, m3, m4, m5, m6⟩, ⟨m7, m8, m9, m10⟩, ⟨m11, m12⟩, ⟨m13, m14⟩, ⟨m15, m16, m17⟩⟩, hT, fun _ _ => rfl, hok, rfl⟩
    · rw [c1]
      simp (disch := omega) only [f_x_person, f_world_addPerson, un6, nlit, onl, negone, iN_add, iN_mul, iN_sub, iN_pm, iN_addneg, iN_ix, iN_inb, iN_lt, iN_eq, iN_nneg, iN_nm, nm_iN, mI_neg, mI_nnn, ne_eq, not_true_eq_false, not_false_eq_true, true_and, and_true, bnd, Option.bind_some, ↓reduceIte, ltT, ltF, eqT, eqF, leT, leF]
    · simp (disch := omega) only [f_m_person, m1, nlit, onl, negone, iN_add, iN_mul, iN_sub, iN_pm, iN_addneg, iN_ix, iN_inb, iN_lt, iN_eq, iN_nneg, iN_nm, nm_iN, mI_neg, mI_nnn, ne_eq, not_true_eq_false, not_false_eq_true, true_and, and_true, bnd, Option.bind_some, ↓reduceIte, ltT, ltF, eqT, eqF, leT, leF]
  · have hnew : ∀ (i : Nat), i < 8 → i ≠ s.1.1 → True := fun _ _ _ => trivial
    refine ⟨iN s.1.1, iN (s.1.1 + 1), upd bo s.1.1 (b01 b), upd pa s.1.1 (iN 0), upd dn s.1.1 (iN 0), upd nm s.1.1 (enO (if b then some s.1.1 else none)), upd (upd (upd (upd a (10 + 3 * s.1.1) (b01 b)) (10 + 3 * s.1.1 + 1) (iN 0)) (10 + 3 * s.1.1 + 2) (iN 0)) 0 (iN (s.1.1 + 1)), upd d (0 + s.1.1) (enO (if b then some s.1.1 else none)), spPerson s b, ?_, ?_, ⟨⟨rfl, c2, c3, c4, c5, c6⟩, ⟨fun i hi => ?_, c8, fun i hi => ?_, fun i hi => ?_⟩, cT.setName, cD, cR, cK⟩, ⟨⟨upd_same, ?_, ?_, ?_, ?_, ?_⟩, ⟨fun i hi => ?_, fun g hg => ?_, fun i hi => ?_, fun i hi => ?_⟩, ⟨?_, fun k q hk => ?_⟩, ⟨?_, fun k q hk => ?_⟩, ⟨?_, fun k hk => ?_, fun k q hk => ?_⟩⟩, hT.setName (by omega), fun j hj => upd_ne (by omega), hok.person (by omega) b, rfl⟩
    · rw [c1]
      cases b with
      | true =>
        simp (disch := omega) only [f_x_person, f_world_addPerson, fj_world_addPerson_51, f_town_nameAtBirth, nar_b, bT0, un6, nlit, onl, negone, iN_add, iN_mul, iN_sub, iN_pm, iN_addneg, iN_ix, iN_inb, iN_lt, iN_eq, iN_nneg, iN_nm, nm_iN, mI_neg, mI_nnn, ne_eq, not_true_eq_false, not_false_eq_true, true_and, and_true, bnd, Option.bind_some, ↓reduceIte, ltT, ltF, eqT, eqF, leT, leF]; rfl
      | false =>
        simp (disch := omega) only [f_x_person, f_world_addPerson, fj_world_addPerson_51, f_town_nameAtBirth, nar_b, bF0, un6, nlit, onl, negone, iN_add, iN_mul, iN_sub, iN_pm, iN_addneg, iN_ix, iN_inb, iN_lt, iN_eq, iN_nneg, iN_nm, nm_iN, mI_neg, mI_nnn, ne_eq, not_true_eq_false, not_false_eq_true, true_and, and_true, bnd, Option.bind_some, ↓reduceIte, ltT, ltF, eqT, eqF, leT, leF]; rfl
    · cases b with
      | true =>
        simp (disch := omega) only [f_m_person, fj_m_person_39, fj_m_person_82, m1, bT0, nlit, onl, negone, iN_add, iN_mul, iN_sub, iN_pm, iN_addneg, iN_ix, iN_inb, iN_lt, iN_eq, iN_nneg, iN_nm, nm_iN, mI_neg, mI_nnn, ne_eq, not_true_eq_false, not_false_eq_true, true_and, and_true, bnd, Option.bind_some, ↓reduceIte, ltT, ltF, eqT, eqF, leT, leF, upd_same, upd_ne, upd_eq, Nat.zero_add]; rfl
      | false =>
        simp (disch := omega) only [f_m_person, fj_m_person_39, fj_m_person_82, m1, bF0, nlit, onl, negone, iN_add, iN_mul, iN_sub, iN_pm, iN_addneg, iN_ix, iN_inb, iN_lt, iN_eq, iN_nneg, iN_nm, nm_iN, mI_neg, mI_nnn, ne_eq, not_true_eq_false, not_false_eq_true, true_and, and_true, bnd, Option.bind_some, ↓reduceIte, ltT, ltF, eqT, eqF, leT, leF, upd_same, upd_ne, upd_eq, Nat.zero_add]; rfl
    · show _ = b01 (setF s.2.1.1 s.1.1 b i)
      by_cases q : i = s.1.1
      · subst q; rw [upd_same, setF_same]
      · rw [upd_ne q, setF_ne q]; exact c7 i hi
    · show _ = setF s.2.1.2.2.1 s.1.1 (iN 0) i
      by_cases q : i = s.1.1
      · subst q; rw [upd_same, setF_same]
      · rw [upd_ne q, setF_ne q]; exact c9 i hi
    · show _ = setF s.2.1.2.2.2 s.1.1 (iN 0) i
      by_cases q : i = s.1.1
      · subst q; rw [upd_same, setF_same]
      · rw [upd_ne q, setF_ne q]; exact c10 i hi
    · simp (disch := omega) only [upd_same, upd_ne, upd_eq]; exact m2
    · simp (disch := omega) only [upd_same, upd_ne, upd_eq]; exact m3
    · simp (disch := omega) only [upd_same, upd_ne, upd_eq]; exact m4
    · simp (disch := omega) only [upd_same, upd_ne, upd_eq]; exact m5
    · simp (disch := omega) only [upd_same, upd_ne, upd_eq]; exact m6
    · show _ = b01 (setF s.2.1.1 s.1.1 b i)
      by_cases q : i = s.1.1
      · subst q; rw [setF_same]; simp (disch := omega) only [upd_same, upd_ne, upd_eq]
      · rw [setF_ne q]; simp (disch := omega) only [upd_same, upd_ne, upd_eq]; exact m7 i hi
    · simp (disch := omega) only [upd_same, upd_ne, upd_eq]; exact m8 g hg
    · show _ = setF s.2.1.2.2.1 s.1.1 (iN 0) i
      by_cases q : i = s.1.1
      · subst q; rw [setF_same]; simp (disch := omega) only [upd_same, upd_ne, upd_eq]
      · rw [setF_ne q]; simp (disch := omega) only [upd_same, upd_ne, upd_eq]; exact m9 i hi
    · show _ = setF s.2.1.2.2.2 s.1.1 (iN 0) i
      by_cases q : i = s.1.1
      · subst q; rw [setF_same]; simp (disch := omega) only [upd_same, upd_ne, upd_eq]
      · rw [setF_ne q]; simp (disch := omega) only [upd_same, upd_ne, upd_eq]; exact m10 i hi
    · simp (disch := omega) only [upd_same, upd_ne, upd_eq]; exact m11
    · simp (disch := omega) only [upd_same, upd_ne, upd_eq]; exact m12 k q hk
    · simp (disch := omega) only [upd_same, upd_ne, upd_eq]; exact m13
    · simp (disch := omega) only [upd_same, upd_ne, upd_eq]; exact m14 k q hk
    · simp (disch := omega) only [upd_same, upd_ne, upd_eq]; exact m15
    · simp (disch := omega) only [upd_same, upd_ne, upd_eq]; exact m16 k hk
    · simp (disch := omega) only [upd_same, upd_ne, upd_eq]; exact m17 k q hk
end
