/-! ===== PURE: gate, hour, by, seed, row, deed, line (written by genops.py) ===== -/
theorem rng {α : Type} {l : Int32} {n : Nat} {A B : α} (hn : n < 1000000) : (if l < iN 0 then A else if l < iN n then B else A) = if inR l n = true then B else A := by
  simp only [Int32.lt_iff_toInt_lt, iN_toInt (show n < 2147483648 by omega), i0_toInt]
  unfold inR
  by_cases h1 : l.toInt < 0
  · rw [if_pos h1, if_neg (by rw [decide_eq_true_eq]; omega)]
  · rw [if_neg h1]
    by_cases h2 : l.toInt < (n : Int)
    · rw [if_pos h2, if_pos (by rw [decide_eq_true_eq]; omega)]
    · rw [if_neg h2, if_neg (by rw [decide_eq_true_eq]; omega)]
theorem rng2 {α : Type} {l : Int32} {n : Nat} {A B : α} (hn : n < 1000000) : (if l < iN 0 then A else if iN n < l then A else B) = if inR l (n + 1) = true then B else A := by
  simp only [Int32.lt_iff_toInt_lt, iN_toInt (show n < 2147483648 by omega), i0_toInt]
  unfold inR
  by_cases h1 : l.toInt < 0
  · rw [if_pos h1, if_neg (by rw [decide_eq_true_eq]; omega)]
  · rw [if_neg h1]
    by_cases h2 : (n : Int) < l.toInt
    · rw [if_pos h2, if_neg (by rw [decide_eq_true_eq]; omega)]
    · rw [if_neg h2, if_pos (by rw [decide_eq_true_eq]; omega)]
theorem M_isInK {l : Int32} {n : Nat} (hn : n < 1000000) : f_m_isIn l (iN 0) (iN n) = some (b01 (inR l (n + 1))) := by
  unfold f_m_isIn
  rw [rng2 hn]
  cases inR l (n + 1) <;> rfl
theorem bT0' : ¬ b01 true = iN 0 := by decide
section
variable {pe ga hr tx rl xx dz rz kz : Int32} {bo lo pa dn nm sz dc rc kc a d : Nat → Int32} {hp : Nat → Nat → Int32} {s : Wd}

theorem J_gate (hC : CW pe ga hr tx rl xx bo lo pa dn nm sz hp dz dc rz rc kz kc s) (hM : MA a s) (hok : WOK s) (hT : MT d 0 s.2.2.1) (b : Bool) : ∃ r ga' lo' a' d' s', f_x_gate ga lo (b01 b) = some (r, ga', lo') ∧ f_m_gate a d (b01 b) = some (r, a', d') ∧ CW pe ga' hr tx rl xx bo lo' pa dn nm sz hp dz dc rz rc kz kc s' ∧ MA a' s' ∧ MT d' 0 s'.2.2.1 ∧ (∀ j, 35 ≤ j → d' j = d j) ∧ WOK s' ∧ s'.1.2.2.2.1 = s.1.2.2.2.1 := by
  obtain ⟨⟨c1, c2, c3, c4, c5, c6⟩, ⟨c7, c8, c9, c10⟩, cT, cD, cR, cK⟩ := hC
  obtain ⟨⟨m1, m2, m3, m4, m5, m6⟩, ⟨m7, m8, m9, m10⟩, ⟨m11, m12⟩, ⟨m13, m14⟩, ⟨m15, m16, m17⟩⟩ := hM
  obtain ⟨⟨k1, k2, k3, k4, k5, k6⟩, ⟨k7, k8, k9⟩, ⟨kD, kD2⟩, ⟨kR, kR2⟩, ⟨kK, kK2⟩⟩ := id hok
  by_cases h8 : s.1.2.1 = 3
  · refine ⟨mI, ga, lo, a, d, s, ?_, ?_, ⟨⟨c1, c2, c3, c4, c5, c6⟩, ⟨c7, c8, c9, c10⟩, cT, cD, cR, cK⟩, ⟨⟨m1, m2, m3, m4, m5, m6⟩, ⟨m7, m8, m9, m10⟩, ⟨m11, m12⟩, ⟨m13, m14⟩, ⟨m15, m16, m17⟩⟩, hT, fun _ _ => rfl, hok, rfl⟩
    · rw [c2]
      simp (disch := omega) only [f_x_gate, f_world_addGate, un3, nlit, onl, negone, iN_add, iN_mul, iN_sub, iN_pm, iN_addneg, iN_ix, iN_inb, iN_lt, iN_eq, iN_nneg, iN_nm, nm_iN, mI_neg, mI_nnn, ne_eq, not_true_eq_false, not_false_eq_true, true_and, and_true, bnd, Option.bind_some, ↓reduceIte, ltT, ltF, eqT, eqF, leT, leF]
    · simp (disch := omega) only [f_m_gate, m2, nlit, onl, negone, iN_add, iN_mul, iN_sub, iN_pm, iN_addneg, iN_ix, iN_inb, iN_lt, iN_eq, iN_nneg, iN_nm, nm_iN, mI_neg, mI_nnn, ne_eq, not_true_eq_false, not_false_eq_true, true_and, and_true, bnd, Option.bind_some, ↓reduceIte, ltT, ltF, eqT, eqF, leT, leF]
  · have he : s.2.2.1.2 s.1.2.1 = [] := by
      cases q : s.2.2.1.2 s.1.2.1 with
      | nil => rfl
      | cons n l => have := (k9 s.1.2.1 n (by rw [q]; exact List.mem_cons_self)).1; omega
    have hd0 : d (0 + 8 + s.1.2.1) = iN 0 := by rw [hT.2.1 _ (by omega), he]; rfl
    refine ⟨iN s.1.2.1, iN (s.1.2.1 + 1), upd lo s.1.2.1 (b01 b), upd (upd a (36 + s.1.2.1) (b01 b)) 1 (iN (s.1.2.1 + 1)), upd d (8 + s.1.2.1) (iN 0), ((s.1.1, s.1.2.1 + 1, s.1.2.2), (s.2.1.1, setF s.2.1.2.1 s.1.2.1 b, s.2.1.2.2), s.2.2), ?_, ?_, ⟨⟨c1, rfl, c3, c4, c5, c6⟩, ⟨c7, fun g hg => ?_, c9, c10⟩, cT, cD, cR, cK⟩, ⟨⟨?_, ?_, ?_, ?_, ?_, ?_⟩, ⟨fun i hi => ?_, fun g hg => ?_, fun i hi => ?_, fun i hi => ?_⟩, ⟨?_, fun k q hk => ?_⟩, ⟨?_, fun k q hk => ?_⟩, ⟨?_, fun k hk => ?_, fun k q hk => ?_⟩⟩, ?_, fun j hj => upd_ne (by omega), ?_, rfl⟩
    · rw [c2]
      simp (disch := omega) only [f_x_gate, f_world_addGate, nar_b, un3, nlit, onl, negone, iN_add, iN_mul, iN_sub, iN_pm, iN_addneg, iN_ix, iN_inb, iN_lt, iN_eq, iN_nneg, iN_nm, nm_iN, mI_neg, mI_nnn, ne_eq, not_true_eq_false, not_false_eq_true, true_and, and_true, bnd, Option.bind_some, ↓reduceIte, ltT, ltF, eqT, eqF, leT, leF, Nat.add_sub_cancel]
    · cases b with
      | true => simp (disch := omega) only [f_m_gate, fj_m_gate_34, m2, bT0, nlit, onl, negone, iN_add, iN_mul, iN_sub, iN_pm, iN_addneg, iN_ix, iN_inb, iN_lt, iN_eq, iN_nneg, iN_nm, nm_iN, mI_neg, mI_nnn, ne_eq, not_true_eq_false, not_false_eq_true, true_and, and_true, bnd, Option.bind_some, ↓reduceIte, ltT, ltF, eqT, eqF, leT, leF, upd_same, upd_ne, upd_eq, Nat.add_sub_cancel]; rfl
      | false => simp (disch := omega) only [f_m_gate, fj_m_gate_34, m2, bF0, nlit, onl, negone, iN_add, iN_mul, iN_sub, iN_pm, iN_addneg, iN_ix, iN_inb, iN_lt, iN_eq, iN_nneg, iN_nm, nm_iN, mI_neg, mI_nnn, ne_eq, not_true_eq_false, not_false_eq_true, true_and, and_true, bnd, Option.bind_some, ↓reduceIte, ltT, ltF, eqT, eqF, leT, leF, upd_same, upd_ne, upd_eq, Nat.add_sub_cancel]; rfl
    · show _ = b01 (setF s.2.1.2.1 s.1.2.1 b g)
      by_cases q : g = s.1.2.1
      · subst q; rw [upd_same, setF_same]
      · rw [upd_ne q, setF_ne q]; exact c8 g hg
    · simp (disch := omega) only [upd_same, upd_ne, upd_eq]; exact m1
    · simp (disch := omega) only [upd_same, upd_ne, upd_eq]
    · simp (disch := omega) only [upd_same, upd_ne, upd_eq]; exact m3
    · simp (disch := omega) only [upd_same, upd_ne, upd_eq]; exact m4
    · simp (disch := omega) only [upd_same, upd_ne, upd_eq]; exact m5
    · simp (disch := omega) only [upd_same, upd_ne, upd_eq]; exact m6
    · simp (disch := omega) only [upd_same, upd_ne, upd_eq]; exact m7 i hi
    · show _ = b01 (setF s.2.1.2.1 s.1.2.1 b g)
      by_cases q : g = s.1.2.1
      · subst q; rw [setF_same]; simp (disch := omega) only [upd_same, upd_ne, upd_eq]
      · rw [setF_ne q]; simp (disch := omega) only [upd_same, upd_ne, upd_eq]; exact m8 g hg
    · simp (disch := omega) only [upd_same, upd_ne, upd_eq]; exact m9 i hi
    · simp (disch := omega) only [upd_same, upd_ne, upd_eq]; exact m10 i hi
    · simp (disch := omega) only [upd_same, upd_ne, upd_eq]; exact m11
    · have hkl : k < s.2.2.2.1.length := (List.getElem?_eq_some_iff.mp hk).1
      simp (disch := omega) only [upd_same, upd_ne, upd_eq]; exact m12 k q hk
    · simp (disch := omega) only [upd_same, upd_ne, upd_eq]; exact m13
    · have hkl : k < s.2.2.2.2.1.length := (List.getElem?_eq_some_iff.mp hk).1
      simp (disch := omega) only [upd_same, upd_ne, upd_eq]; exact m14 k q hk
    · simp (disch := omega) only [upd_same, upd_ne, upd_eq]; exact m15
    · have hkl : k < s.2.2.2.2.2.length := (List.getElem?_eq_some_iff.mp hk).1
      simp (disch := omega) only [upd_same, upd_ne, upd_eq]; exact m16 k hk
    · have hkl : k < s.2.2.2.2.2.length := (List.getElem?_eq_some_iff.mp hk).1
      simp (disch := omega) only [upd_same, upd_ne, upd_eq]; exact m17 k q hk
    · refine ⟨fun i hi => ?_, fun g hg => ?_, fun g k n hg hk => ?_⟩
      · rw [upd_ne (by omega)]; exact hT.1 i hi
      · by_cases q : g = s.1.2.1
        · subst q
          rw [show 0 + 8 + s.1.2.1 = 8 + s.1.2.1 by omega, upd_same]
          show iN 0 = iN (s.2.2.1.2 s.1.2.1).length
          rw [he]; rfl
        · rw [upd_ne (by omega)]; exact hT.2.1 g hg
      · rw [upd_ne (by omega)]; exact hT.2.2 g k n hg hk
    · refine ⟨⟨k1, by show s.1.2.1 + 1 ≤ 3; omega, k3, k4, k5, k6⟩, ⟨k7, k8, fun g n hg => ?_⟩, ⟨kD, kD2⟩, ⟨kR, fun q hq => ?_⟩, ⟨kK, fun q hq z hz => ?_⟩⟩
      · have := k9 g n hg
        exact ⟨Nat.lt_succ_of_lt this.1, this.2⟩
      · have := kR2 q hq
        exact ⟨this.1, Nat.lt_succ_of_lt this.2⟩
      · have := kK2 q hq z hz
        exact ⟨this.1, Nat.lt_succ_of_lt this.2⟩

theorem J_hour (hC : CW pe ga hr tx rl xx bo lo pa dn nm sz hp dz dc rz rc kz kc s) (hM : MA a s) (hok : WOK s) (l : Int32) : ∃ r hr' a' s', f_x_hour hr l = some (r, hr') ∧ f_m_hour a l = some (r, a') ∧ CW pe ga hr' tx rl xx bo lo pa dn nm sz hp dz dc rz rc kz kc s' ∧ MA a' s' ∧ s'.2.2.1 = s.2.2.1 ∧ WOK s' ∧ s'.1.2.2.2.1 = s.1.2.2.2.1 := by
  obtain ⟨⟨c1, c2, c3, c4, c5, c6⟩, ⟨c7, c8, c9, c10⟩, cT, cD, cR, cK⟩ := hC
  obtain ⟨⟨m1, m2, m3, m4, m5, m6⟩, ⟨m7, m8, m9, m10⟩, ⟨m11, m12⟩, ⟨m13, m14⟩, ⟨m15, m16, m17⟩⟩ := hM
  obtain ⟨⟨k1, k2, k3, k4, k5, k6⟩, ⟨k7, k8, k9⟩, ⟨kD, kD2⟩, ⟨kR, kR2⟩, ⟨kK, kK2⟩⟩ := id hok
  have e1 : f_x_hour hr l = if inR l 24 = true then some (iN 1, l) else some (iN 0, hr) := by
    unfold f_x_hour
    simp only [nlit]
    exact rng (by decide)
  cases h : inR l 24 with
  | false =>
    refine ⟨iN 0, hr, a, s, ?_, ?_, ⟨⟨c1, c2, c3, c4, c5, c6⟩, ⟨c7, c8, c9, c10⟩, cT, cD, cR, cK⟩, ⟨⟨m1, m2, m3, m4, m5, m6⟩, ⟨m7, m8, m9, m10⟩, ⟨m11, m12⟩, ⟨m13, m14⟩, ⟨m15, m16, m17⟩⟩, rfl, hok, rfl⟩
    · rw [e1, h]; rfl
    · simp (disch := omega) only [f_m_hour, nlit, M_isInK, h, bF0, nlit, onl, negone, iN_add, iN_mul, iN_sub, iN_pm, iN_addneg, iN_ix, iN_inb, iN_lt, iN_eq, iN_nneg, iN_nm, nm_iN, mI_neg, mI_nnn, ne_eq, not_true_eq_false, not_false_eq_true, true_and, and_true, bnd, Option.bind_some, ↓reduceIte, ltT, ltF, eqT, eqF, leT, leF]
  | true =>
    obtain ⟨w, hw, rfl⟩ := inR_some h
    refine ⟨iN 1, iN w, upd a 2 (iN w), ((s.1.1, s.1.2.1, w, s.1.2.2.2), s.2), ?_, ?_, ⟨⟨c1, c2, rfl, c4, c5, c6⟩, ⟨c7, c8, c9, c10⟩, cT, cD, cR, cK⟩, ⟨⟨?_, ?_, ?_, ?_, ?_, ?_⟩, ⟨fun i hi => ?_, fun g hg => ?_, fun i hi => ?_, fun i hi => ?_⟩, ⟨?_, fun k q hk => ?_⟩, ⟨?_, fun k q hk => ?_⟩, ⟨?_, fun k hk => ?_, fun k q hk => ?_⟩⟩, rfl, ⟨⟨k1, k2, hw, k4, k5, k6⟩, ⟨k7, k8, k9⟩, ⟨kD, kD2⟩, ⟨kR, kR2⟩, ⟨kK, kK2⟩⟩, rfl⟩
    · rw [e1, h]; rfl
    · simp (disch := omega) only [f_m_hour, nlit, M_isInK, h, bT0, nlit, onl, negone, iN_add, iN_mul, iN_sub, iN_pm, iN_addneg, iN_ix, iN_inb, iN_lt, iN_eq, iN_nneg, iN_nm, nm_iN, mI_neg, mI_nnn, ne_eq, not_true_eq_false, not_false_eq_true, true_and, and_true, bnd, Option.bind_some, ↓reduceIte, ltT, ltF, eqT, eqF, leT, leF]
    · simp (disch := omega) only [upd_same, upd_ne, upd_eq]; exact m1
    · simp (disch := omega) only [upd_same, upd_ne, upd_eq]; exact m2
    · simp (disch := omega) only [upd_same, upd_ne, upd_eq]
    · simp (disch := omega) only [upd_same, upd_ne, upd_eq]; exact m4
    · simp (disch := omega) only [upd_same, upd_ne, upd_eq]; exact m5
    · simp (disch := omega) only [upd_same, upd_ne, upd_eq]; exact m6
    · simp (disch := omega) only [upd_same, upd_ne, upd_eq]; exact m7 i hi
    · simp (disch := omega) only [upd_same, upd_ne, upd_eq]; exact m8 g hg
    · simp (disch := omega) only [upd_same, upd_ne, upd_eq]; exact m9 i hi
    · simp (disch := omega) only [upd_same, upd_ne, upd_eq]; exact m10 i hi
    · simp (disch := omega) only [upd_same, upd_ne, upd_eq]; exact m11
    · have hkl : k < s.2.2.2.1.length := (List.getElem?_eq_some_iff.mp hk).1
      simp (disch := omega) only [upd_same, upd_ne, upd_eq]; exact m12 k q hk
    · simp (disch := omega) only [upd_same, upd_ne, upd_eq]; exact m13
    · have hkl : k < s.2.2.2.2.1.length := (List.getElem?_eq_some_iff.mp hk).1
      simp (disch := omega) only [upd_same, upd_ne, upd_eq]; exact m14 k q hk
    · simp (disch := omega) only [upd_same, upd_ne, upd_eq]; exact m15
    · have hkl : k < s.2.2.2.2.2.length := (List.getElem?_eq_some_iff.mp hk).1
      simp (disch := omega) only [upd_same, upd_ne, upd_eq]; exact m16 k hk
    · have hkl : k < s.2.2.2.2.2.length := (List.getElem?_eq_some_iff.mp hk).1
      simp (disch := omega) only [upd_same, upd_ne, upd_eq]; exact m17 k q hk

theorem J_seed (hC : CW pe ga hr tx rl xx bo lo pa dn nm sz hp dz dc rz rc kz kc s) (hM : MA a s) (hok : WOK s) (l : Int32) : ∃ r xx' a' s', f_x_seed xx l = some (r, xx') ∧ f_m_seed a l = some (r, a') ∧ CW pe ga hr tx rl xx' bo lo pa dn nm sz hp dz dc rz rc kz kc s' ∧ MA a' s' ∧ s'.2.2.1 = s.2.2.1 ∧ WOK s' ∧ s'.1.2.2.2.1 = s.1.2.2.2.1 := by
  obtain ⟨⟨c1, c2, c3, c4, c5, c6⟩, ⟨c7, c8, c9, c10⟩, cT, cD, cR, cK⟩ := hC
  obtain ⟨⟨m1, m2, m3, m4, m5, m6⟩, ⟨m7, m8, m9, m10⟩, ⟨m11, m12⟩, ⟨m13, m14⟩, ⟨m15, m16, m17⟩⟩ := hM
  obtain ⟨⟨k1, k2, k3, k4, k5, k6⟩, ⟨k7, k8, k9⟩, ⟨kD, kD2⟩, ⟨kR, kR2⟩, ⟨kK, kK2⟩⟩ := id hok
  have e1 : f_x_seed xx l = if inR l 10000 = true then some (iN 1, l * iN 11 + iN 5) else some (iN 0, xx) := by
    unfold f_x_seed f_world_sow
    simp only [nlit, Option.bind_some]
    exact rng2 (by decide)
  cases h : inR l 10000 with
  | false =>
    refine ⟨iN 0, xx, a, s, ?_, ?_, ⟨⟨c1, c2, c3, c4, c5, c6⟩, ⟨c7, c8, c9, c10⟩, cT, cD, cR, cK⟩, ⟨⟨m1, m2, m3, m4, m5, m6⟩, ⟨m7, m8, m9, m10⟩, ⟨m11, m12⟩, ⟨m13, m14⟩, ⟨m15, m16, m17⟩⟩, rfl, hok, rfl⟩
    · rw [e1, h]; rfl
    · simp (disch := omega) only [f_m_seed, nlit, M_isInK, h, bF0, nlit, onl, negone, iN_add, iN_mul, iN_sub, iN_pm, iN_addneg, iN_ix, iN_inb, iN_lt, iN_eq, iN_nneg, iN_nm, nm_iN, mI_neg, mI_nnn, ne_eq, not_true_eq_false, not_false_eq_true, true_and, and_true, bnd, Option.bind_some, ↓reduceIte, ltT, ltF, eqT, eqF, leT, leF]
  | true =>
    obtain ⟨w, hw, rfl⟩ := inR_some h
    refine ⟨iN 1, iN (w * 11 + 5), upd a 8 (iN (w * 11 + 5)), ((s.1.1, s.1.2.1, s.1.2.2.1, s.1.2.2.2.1, s.1.2.2.2.2.1, w * 11 + 5), s.2), ?_, ?_, ⟨⟨c1, c2, c3, c4, c5, rfl⟩, ⟨c7, c8, c9, c10⟩, cT, cD, cR, cK⟩, ⟨⟨?_, ?_, ?_, ?_, ?_, ?_⟩, ⟨fun i hi => ?_, fun g hg => ?_, fun i hi => ?_, fun i hi => ?_⟩, ⟨?_, fun k q hk => ?_⟩, ⟨?_, fun k q hk => ?_⟩, ⟨?_, fun k hk => ?_, fun k q hk => ?_⟩⟩, rfl, ⟨⟨k1, k2, k3, k4, k5, by show w * 11 + 5 < 200000; omega⟩, ⟨k7, k8, k9⟩, ⟨kD, kD2⟩, ⟨kR, kR2⟩, ⟨kK, kK2⟩⟩, rfl⟩
    · rw [e1, h]
      simp (disch := omega) only [nlit, onl, negone, iN_add, iN_mul, iN_sub, iN_pm, iN_addneg, iN_ix, iN_inb, iN_lt, iN_eq, iN_nneg, iN_nm, nm_iN, mI_neg, mI_nnn, ne_eq, not_true_eq_false, not_false_eq_true, true_and, and_true, bnd, Option.bind_some, ↓reduceIte, ltT, ltF, eqT, eqF, leT, leF]
    · simp (disch := omega) only [f_m_seed, nlit, M_isInK, h, bT0, nlit, onl, negone, iN_add, iN_mul, iN_sub, iN_pm, iN_addneg, iN_ix, iN_inb, iN_lt, iN_eq, iN_nneg, iN_nm, nm_iN, mI_neg, mI_nnn, ne_eq, not_true_eq_false, not_false_eq_true, true_and, and_true, bnd, Option.bind_some, ↓reduceIte, ltT, ltF, eqT, eqF, leT, leF]
    · simp (disch := omega) only [upd_same, upd_ne, upd_eq]; exact m1
    · simp (disch := omega) only [upd_same, upd_ne, upd_eq]; exact m2
    · simp (disch := omega) only [upd_same, upd_ne, upd_eq]; exact m3
    · simp (disch := omega) only [upd_same, upd_ne, upd_eq]; exact m4
    · simp (disch := omega) only [upd_same, upd_ne, upd_eq]; exact m5
    · simp (disch := omega) only [upd_same, upd_ne, upd_eq]
    · simp (disch := omega) only [upd_same, upd_ne, upd_eq]; exact m7 i hi
    · simp (disch := omega) only [upd_same, upd_ne, upd_eq]; exact m8 g hg
    · simp (disch := omega) only [upd_same, upd_ne, upd_eq]; exact m9 i hi
    · simp (disch := omega) only [upd_same, upd_ne, upd_eq]; exact m10 i hi
    · simp (disch := omega) only [upd_same, upd_ne, upd_eq]; exact m11
    · have hkl : k < s.2.2.2.1.length := (List.getElem?_eq_some_iff.mp hk).1
      simp (disch := omega) only [upd_same, upd_ne, upd_eq]; exact m12 k q hk
    · simp (disch := omega) only [upd_same, upd_ne, upd_eq]; exact m13
    · have hkl : k < s.2.2.2.2.1.length := (List.getElem?_eq_some_iff.mp hk).1
      simp (disch := omega) only [upd_same, upd_ne, upd_eq]; exact m14 k q hk
    · simp (disch := omega) only [upd_same, upd_ne, upd_eq]; exact m15
    · have hkl : k < s.2.2.2.2.2.length := (List.getElem?_eq_some_iff.mp hk).1
      simp (disch := omega) only [upd_same, upd_ne, upd_eq]; exact m16 k hk
    · have hkl : k < s.2.2.2.2.2.length := (List.getElem?_eq_some_iff.mp hk).1
      simp (disch := omega) only [upd_same, upd_ne, upd_eq]; exact m17 k q hk

theorem J_by (hC : CW pe ga hr tx rl xx bo lo pa dn nm sz hp dz dc rz rc kz kc s) (hM : MA a s) (hok : WOK s) (l : Int32) : ∃ r rl' a' s', f_x_by tx rl l = some (r, rl') ∧ f_m_by a l = some (r, a') ∧ CW pe ga hr tx rl' xx bo lo pa dn nm sz hp dz dc rz rc kz kc s' ∧ MA a' s' ∧ s'.2.2.1 = s.2.2.1 ∧ WOK s' ∧ s'.1.2.2.2.1 = s.1.2.2.2.1 := by
  obtain ⟨⟨c1, c2, c3, c4, c5, c6⟩, ⟨c7, c8, c9, c10⟩, cT, cD, cR, cK⟩ := hC
  obtain ⟨⟨m1, m2, m3, m4, m5, m6⟩, ⟨m7, m8, m9, m10⟩, ⟨m11, m12⟩, ⟨m13, m14⟩, ⟨m15, m16, m17⟩⟩ := hM
  obtain ⟨⟨k1, k2, k3, k4, k5, k6⟩, ⟨k7, k8, k9⟩, ⟨kD, kD2⟩, ⟨kR, kR2⟩, ⟨kK, kK2⟩⟩ := id hok
  have ht4 : (iN s.1.2.2.2.1).toInt = (s.1.2.2.2.1 : Int) := iN_toInt (by omega)
  by_cases h1 : l = mI
  · refine ⟨iN 1, mI, upd a 4 mI, ((s.1.1, s.1.2.1, s.1.2.2.1, s.1.2.2.2.1, none, s.1.2.2.2.2.2), s.2), ?_, ?_, ⟨⟨c1, c2, c3, c4, rfl, c6⟩, ⟨c7, c8, c9, c10⟩, cT, cD, cR, cK⟩, ⟨⟨?_, ?_, ?_, ?_, ?_, ?_⟩, ⟨fun i hi => ?_, fun g hg => ?_, fun i hi => ?_, fun i hi => ?_⟩, ⟨?_, fun k q hk => ?_⟩, ⟨?_, fun k q hk => ?_⟩, ⟨?_, fun k hk => ?_, fun k q hk => ?_⟩⟩, rfl, ⟨⟨k1, k2, k3, k4, fun r hr => (by cases hr), k6⟩, ⟨k7, k8, k9⟩, ⟨kD, kD2⟩, ⟨kR, kR2⟩, ⟨kK, kK2⟩⟩, rfl⟩
    · subst h1
      have e : ¬ mI < mI := by decide
      simp (disch := omega) only [f_x_by, c4, nlit, onl, negone, iN_add, iN_mul, iN_sub, iN_pm, iN_addneg, iN_ix, iN_inb, iN_lt, iN_eq, iN_nneg, iN_nm, nm_iN, mI_neg, mI_nnn, ne_eq, not_true_eq_false, not_false_eq_true, true_and, and_true, bnd, Option.bind_some, ↓reduceIte, ltT, ltF, eqT, eqF, leT, leF, e]
    · subst h1
      have e : ¬ mI < mI := by decide
      have e2 : ¬ iN s.1.2.2.2.1 - iN 1 < mI := by
        rw [Int32.lt_iff_toInt_lt, sub1_toInt (by omega), mI_toInt]; omega
      have e3 : ¬ iN 1 = iN 0 := by decide
      simp only [f_m_by, f_m_isIn, m4, nlit, negone, e, e2, e3, ↓reduceIte, Option.bind_some, bnd]
    · simp (disch := omega) only [upd_same, upd_ne, upd_eq]; exact m1
    · simp (disch := omega) only [upd_same, upd_ne, upd_eq]; exact m2
    · simp (disch := omega) only [upd_same, upd_ne, upd_eq]; exact m3
    · simp (disch := omega) only [upd_same, upd_ne, upd_eq]; exact m4
    · simp (disch := omega) only [upd_same, upd_ne, upd_eq]; rfl
    · simp (disch := omega) only [upd_same, upd_ne, upd_eq]; exact m6
    · simp (disch := omega) only [upd_same, upd_ne, upd_eq]; exact m7 i hi
    · simp (disch := omega) only [upd_same, upd_ne, upd_eq]; exact m8 g hg
    · simp (disch := omega) only [upd_same, upd_ne, upd_eq]; exact m9 i hi
    · simp (disch := omega) only [upd_same, upd_ne, upd_eq]; exact m10 i hi
    · simp (disch := omega) only [upd_same, upd_ne, upd_eq]; exact m11
    · have hkl : k < s.2.2.2.1.length := (List.getElem?_eq_some_iff.mp hk).1
      simp (disch := omega) only [upd_same, upd_ne, upd_eq]; exact m12 k q hk
    · simp (disch := omega) only [upd_same, upd_ne, upd_eq]; exact m13
    · have hkl : k < s.2.2.2.2.1.length := (List.getElem?_eq_some_iff.mp hk).1
      simp (disch := omega) only [upd_same, upd_ne, upd_eq]; exact m14 k q hk
    · simp (disch := omega) only [upd_same, upd_ne, upd_eq]; exact m15
    · have hkl : k < s.2.2.2.2.2.length := (List.getElem?_eq_some_iff.mp hk).1
      simp (disch := omega) only [upd_same, upd_ne, upd_eq]; exact m16 k hk
    · have hkl : k < s.2.2.2.2.2.length := (List.getElem?_eq_some_iff.mp hk).1
      simp (disch := omega) only [upd_same, upd_ne, upd_eq]; exact m17 k q hk
  · cases h : inR l s.1.2.2.2.1 with
    | true =>
      obtain ⟨w, hw, rfl⟩ := inR_some h
      refine ⟨iN 1, iN w, upd a 4 (iN w), ((s.1.1, s.1.2.1, s.1.2.2.1, s.1.2.2.2.1, some w, s.1.2.2.2.2.2), s.2), ?_, ?_, ⟨⟨c1, c2, c3, c4, rfl, c6⟩, ⟨c7, c8, c9, c10⟩, cT, cD, cR, cK⟩, ⟨⟨?_, ?_, ?_, ?_, ?_, ?_⟩, ⟨fun i hi => ?_, fun g hg => ?_, fun i hi => ?_, fun i hi => ?_⟩, ⟨?_, fun k q hk => ?_⟩, ⟨?_, fun k q hk => ?_⟩, ⟨?_, fun k hk => ?_, fun k q hk => ?_⟩⟩, rfl, ⟨⟨k1, k2, k3, k4, fun r hr => (by cases hr; exact hw), k6⟩, ⟨k7, k8, k9⟩, ⟨kD, kD2⟩, ⟨kR, kR2⟩, ⟨kK, kK2⟩⟩, rfl⟩
      · have e : ¬ iN w < mI := by rw [Int32.lt_iff_toInt_lt, iN_toInt (by omega), mI_toInt]; omega
        simp (disch := omega) only [f_x_by, c4, e, nlit, onl, negone, iN_add, iN_mul, iN_sub, iN_pm, iN_addneg, iN_ix, iN_inb, iN_lt, iN_eq, iN_nneg, iN_nm, nm_iN, mI_neg, mI_nnn, ne_eq, not_true_eq_false, not_false_eq_true, true_and, and_true, bnd, Option.bind_some, ↓reduceIte, ltT, ltF, eqT, eqF, leT, leF]
      · have e : ¬ iN w < mI := by rw [Int32.lt_iff_toInt_lt, iN_toInt (by omega), mI_toInt]; omega
        have e3 : ¬ iN 1 = iN 0 := by decide
        simp (disch := omega) only [f_m_by, f_m_isIn, m4, e, e3, nlit, onl, negone, iN_add, iN_mul, iN_sub, iN_pm, iN_addneg, iN_ix, iN_inb, iN_lt, iN_eq, iN_nneg, iN_nm, nm_iN, mI_neg, mI_nnn, ne_eq, not_true_eq_false, not_false_eq_true, true_and, and_true, bnd, Option.bind_some, ↓reduceIte, ltT, ltF, eqT, eqF, leT, leF]
      · simp (disch := omega) only [upd_same, upd_ne, upd_eq]; exact m1
      · simp (disch := omega) only [upd_same, upd_ne, upd_eq]; exact m2
      · simp (disch := omega) only [upd_same, upd_ne, upd_eq]; exact m3
      · simp (disch := omega) only [upd_same, upd_ne, upd_eq]; exact m4
      · simp (disch := omega) only [upd_same, upd_ne, upd_eq]; rfl
      · simp (disch := omega) only [upd_same, upd_ne, upd_eq]; exact m6
      · simp (disch := omega) only [upd_same, upd_ne, upd_eq]; exact m7 i hi
      · simp (disch := omega) only [upd_same, upd_ne, upd_eq]; exact m8 g hg
      · simp (disch := omega) only [upd_same, upd_ne, upd_eq]; exact m9 i hi
      · simp (disch := omega) only [upd_same, upd_ne, upd_eq]; exact m10 i hi
      · simp (disch := omega) only [upd_same, upd_ne, upd_eq]; exact m11
      · have hkl : k < s.2.2.2.1.length := (List.getElem?_eq_some_iff.mp hk).1
        simp (disch := omega) only [upd_same, upd_ne, upd_eq]; exact m12 k q hk
      · simp (disch := omega) only [upd_same, upd_ne, upd_eq]; exact m13
      · have hkl : k < s.2.2.2.2.1.length := (List.getElem?_eq_some_iff.mp hk).1
        simp (disch := omega) only [upd_same, upd_ne, upd_eq]; exact m14 k q hk
      · simp (disch := omega) only [upd_same, upd_ne, upd_eq]; exact m15
      · have hkl : k < s.2.2.2.2.2.length := (List.getElem?_eq_some_iff.mp hk).1
        simp (disch := omega) only [upd_same, upd_ne, upd_eq]; exact m16 k hk
      · have hkl : k < s.2.2.2.2.2.length := (List.getElem?_eq_some_iff.mp hk).1
        simp (disch := omega) only [upd_same, upd_ne, upd_eq]; exact m17 k q hk
    | false =>
      have hl : l.toInt < -1 ∨ (s.1.2.2.2.1 : Int) ≤ l.toInt := by
        unfold inR at h
        rw [decide_eq_false_iff_not] at h
        have : l.toInt ≠ -1 := fun q => h1 (Int32.toInt_inj.mp (q.trans mI_toInt.symm))
        omega
      refine ⟨iN 0, rl, a, s, ?_, ?_, ⟨⟨c1, c2, c3, c4, c5, c6⟩, ⟨c7, c8, c9, c10⟩, cT, cD, cR, cK⟩, ⟨⟨m1, m2, m3, m4, m5, m6⟩, ⟨m7, m8, m9, m10⟩, ⟨m11, m12⟩, ⟨m13, m14⟩, ⟨m15, m16, m17⟩⟩, rfl, hok, rfl⟩
      · unfold f_x_by
        simp only [nlit, negone, c4, Int32.lt_iff_toInt_lt, ht4, mI_toInt]
        by_cases q : l.toInt < -1
        · rw [if_pos q]
        · rw [if_neg q, if_neg (by omega)]
      · unfold f_m_by f_m_isIn
        simp only [nlit, negone, m4, Int32.lt_iff_toInt_lt, sub1_toInt (show s.1.2.2.2.1 < 1000 by omega), mI_toInt]
        by_cases q : l.toInt < -1
        · rw [if_pos q]; rfl
        · rw [if_neg q, if_pos (by omega)]; rfl

end
