theorem MLs.keep {texts : Nat → Int32} {n m : Nat} {laws : Nat → Lw} (h : MLs texts n laws) (e : m = n) : MLs texts m laws := e ▸ h
theorem CLs.keep {cL sz tk fe : Nat → Int32} {cd kd fr to : Nat → Nat → Int32} {n m : Nat} {laws : Nat → Lw} (h : CLs cL sz tk fe cd kd fr to n laws) (e : m = n) : CLs cL sz tk fe cd kd fr to m laws := e ▸ h
theorem enO_c {o : Option Nat} (ho : ∀ m, o = some m → m < 8) : (enO o = mI) = (o = none) ∧ (enO o < iN 0) = (o = none) := by
  cases o with
  | none => exact ⟨propext ⟨fun _ => rfl, fun _ => rfl⟩, propext ⟨fun _ => rfl, fun _ => by decide⟩⟩
  | some m =>
    have := ho m rfl
    rw [enO_some]
    refine ⟨?_, ?_⟩
    · rw [iN_nm (by omega)]; exact propext ⟨False.elim, fun q => by cases q⟩
    · rw [iN_nneg (by omega)]; exact propext ⟨False.elim, fun q => by cases q⟩
section
variable {pe ga hr tx rl dz rz kz : Int32} {bo lo dc rc kc : Nat → Int32} {laws : Nat → Lw} {texts cL lz tk fe : Nat → Int32} {cd kd fr to : Nat → Nat → Int32}
theorem J_go {s : Wd} {xx : Int32} {pa dn nm sz a d values stack named truth : Nat → Int32} {hp : Nat → Nat → Int32} {mv : Nat → Int64} (hC : CW pe ga hr tx rl xx bo lo pa dn nm sz hp dz dc rz rc kz kc s) (hM : MA a s) (hok : WOK s) (hT : MT d 0 s.2.2.1) (hcl : CLs cL lz tk fe cd kd fr to s.1.2.2.2.1 laws) (hml : MLs texts s.1.2.2.2.1 laws) (l v : Int32) : ∃ r xx' values' stack' pa' dn' nm' sz' hp' a' d' named' mv' truth' s', f_x_go pe ga hr rl xx (ruO s) (cL (ruO s)) (lz (ruO s)) (tk (ruO s)) (fe (ruO s)) pa dn lo bo nm values sz (kd (ruO s)) (to (ruO s)) (fr (ruO s)) stack (cd (ruO s)) hp l v = some (r, xx', pa', dn', nm', values', sz', stack', hp') ∧ f_m_go (iN 0) a d texts named mv truth l v = some (r, a', d', named', mv', truth') ∧ CW pe ga hr tx rl xx' bo lo pa' dn' nm' sz' hp' dz dc rz rc kz kc s' ∧ MA a' s' ∧ WOK s' ∧ MT d' 0 s'.2.2.1 ∧ (∀ j, 35 ≤ j → d' j = d j) ∧ s'.1.2.2.2.1 = s.1.2.2.2.1 := by
  obtain ⟨o, xx', v1, s1, p1, d1, n1, z1, h1, a', d', mn, mv', mt, s', e1, e2, e3, e4, e5, e6, e7, -, e9, -⟩ := J_step (values := values) (stack := stack) (named := named) (truth := truth) (mv := mv) hC hM hok hT hcl hml l v
  exact ⟨enO o, xx', v1, s1, p1, d1, n1, z1, h1, a', d', mn, mv', mt, s', by simp only [f_x_go, e1, un9, Option.bind_some], e2, e3, e4, e5, e6, e7, e9⟩
theorem J_daysLoop {n : Nat} (hn : n ≤ 100) (ru : Nat) : ∀ (m i c k : Nat) (s : Wd) (xx : Int32) (pa dn nm sz a d values stack named truth : Nat → Int32) (hp : Nat → Nat → Int32) (mv : Nat → Int64), i + m = n → m < k → CW pe ga hr tx rl xx bo lo pa dn nm sz hp dz dc rz rc kz kc s → MA a s → WOK s → MT d 0 s.2.2.1 → CLs cL lz tk fe cd kd fr to s.1.2.2.2.1 laws → MLs texts s.1.2.2.2.1 laws → 0 < s.1.1 → 0 < s.1.2.1 → ruO s = ru →
    ∃ c' xx' values' stack' pa' dn' nm' sz' hp' a' d' named' mv' truth' s', itr (un10 (fb_x_days_37 pe ga hr rl ru (cL ru) (lz ru) (tk ru) (fe ru) lo bo (kd ru) (to ru) (fr ru) (cd ru) (iN n))) k (iN c, iN i, xx, pa, dn, nm, values, sz, stack, hp) = some (iN c', xx', pa', dn', nm', values', sz', stack', hp') ∧ itr (un7 (fb_m_days_34 (iN 0) texts (iN n))) k (iN c, iN i, a, d, named, mv, truth) = some (iN c', a', d', named', mv', truth') ∧ CW pe ga hr tx rl xx' bo lo pa' dn' nm' sz' hp' dz dc rz rc kz kc s' ∧ MA a' s' ∧ WOK s' ∧ MT d' 0 s'.2.2.1 ∧ (∀ j, 35 ≤ j → d' j = d j) ∧ s'.1.2.2.2.1 = s.1.2.2.2.1
  | 0, i, c, k, s, xx, pa, dn, nm, sz, a, d, values, stack, named, truth, hp, mv, hi, hk, hC, hM, hok, hT, hcl, hml, hp0, hg0, hru => by
    obtain ⟨k, rfl⟩ : ∃ z, k = z + 1 := ⟨k - 1, by omega⟩
    refine ⟨c, xx, values, stack, pa, dn, nm, sz, hp, a, d, named, mv, truth, s, itr_end ?_, itr_end ?_, hC, hM, hok, hT, fun _ _ => rfl, rfl⟩
    · simp (disch := omega) only [un10, fb_x_days_37, nlit, onl, negone, iN_add, iN_mul, iN_sub, iN_pm, iN_addneg, iN_ix, iN_inb, iN_lt, iN_eq, iN_nneg, iN_nm, nm_iN, mI_neg, mI_nnn, ne_eq, not_true_eq_false, not_false_eq_true, true_and, and_true, bnd, Option.bind_some, ↓reduceIte, ltT, ltF, eqT, eqF, leT, leF]
    · simp (disch := omega) only [un7, fb_m_days_34, nlit, onl, negone, iN_add, iN_mul, iN_sub, iN_pm, iN_addneg, iN_ix, iN_inb, iN_lt, iN_eq, iN_nneg, iN_nm, nm_iN, mI_neg, mI_nnn, ne_eq, not_true_eq_false, not_false_eq_true, true_and, and_true, bnd, Option.bind_some, ↓reduceIte, ltT, ltF, eqT, eqF, leT, leF]
  | m + 1, i, c, k, s, xx, pa, dn, nm, sz, a, d, values, stack, named, truth, hp, mv, hi, hk, hC, hM, hok, hT, hcl, hml, hp0, hg0, hru => by
    obtain ⟨k, rfl⟩ : ∃ z, k = z + 1 := ⟨k - 1, by omega⟩
    have hP := hok.1.1
    have hG := hok.1.2.1
    have hXb := hok.1.2.2.2.2.2
    have hX1 : drX s.1.2.2.2.2.2 < 200000 := by unfold drX; omega
    have hX2 : drX (drX s.1.2.2.2.2.2) < 200000 := by unfold drX; omega
    obtain ⟨⟨c1, c2, c3, c4, c5, c6⟩, hA, cT, cD, cR, cK⟩ := id hC
    have q1 := C_draw (m := s.1.1) hXb hp0 (by omega)
    have q2 := C_draw (m := s.1.2.1) hX1 hg0 (by omega)
    rw [← c6, ← c1] at q1
    rw [← c2] at q2
    have hM2 : MA (upd (upd a 8 (iN (drX s.1.2.2.2.2.2))) 8 (iN (drX (drX s.1.2.2.2.2.2)))) ((s.1.1, s.1.2.1, s.1.2.2.1, s.1.2.2.2.1, s.1.2.2.2.2.1, drX (drX s.1.2.2.2.2.2)), s.2) := by
      obtain ⟨⟨m1, m2, m3, m4, m5, m6⟩, ⟨m7, m8, m9, m10⟩, ⟨m11, m12⟩, ⟨m13, m14⟩, ⟨m15, m16, m17⟩⟩ := hM
      have hs : ∀ j, j ≠ 8 → upd (upd a 8 (iN (drX s.1.2.2.2.2.2))) 8 (iN (drX (drX s.1.2.2.2.2.2))) j = a j := fun j hj => by rw [upd_ne hj, upd_ne hj]
      refine ⟨⟨?_, ?_, ?_, ?_, ?_, upd_same⟩, ⟨fun i hi => ?_, fun g hg => ?_, fun i hi => ?_, fun i hi => ?_⟩, ⟨?_, fun k q hk => ?_⟩, ⟨?_, fun k q hk => ?_⟩, ⟨?_, fun k hk => ?_, fun k q hk => ?_⟩⟩
      · rw [hs _ (by omega)]; exact m1
      · rw [hs _ (by omega)]; exact m2
      · rw [hs _ (by omega)]; exact m3
      · rw [hs _ (by omega)]; exact m4
      · rw [hs _ (by omega)]; exact m5
      · rw [hs _ (by omega)]; exact m7 i hi
      · rw [hs _ (by omega)]; exact m8 g hg
      · rw [hs _ (by omega)]; exact m9 i hi
      · rw [hs _ (by omega)]; exact m10 i hi
      · rw [hs _ (by omega)]; exact m11
      · rw [hs _ (by omega), hs _ (by omega), hs _ (by omega)]; exact m12 k q hk
      · rw [hs _ (by omega)]; exact m13
      · rw [hs _ (by omega), hs _ (by omega)]; exact m14 k q hk
      · rw [hs _ (by omega)]; exact m15
      · rw [hs _ (by omega)]; exact m16 k hk
      · rw [hs _ (by omega), hs _ (by omega), hs _ (by omega)]; exact m17 k q hk
    have hok2 : WOK ((s.1.1, s.1.2.1, s.1.2.2.1, s.1.2.2.2.1, s.1.2.2.2.2.1, drX (drX s.1.2.2.2.2.2)), s.2) := by
      obtain ⟨⟨k1, k2, k3, k4, k5, k6⟩, hrest⟩ := hok
      exact ⟨⟨k1, k2, k3, k4, k5, hX2⟩, hrest⟩
    have hC2 : CW pe ga hr tx rl (iN (drX (drX s.1.2.2.2.2.2))) bo lo pa dn nm sz hp dz dc rz rc kz kc ((s.1.1, s.1.2.1, s.1.2.2.1, s.1.2.2.2.1, s.1.2.2.2.2.1, drX (drX s.1.2.2.2.2.2)), s.2) := ⟨⟨c1, c2, c3, c4, c5, rfl⟩, hA, cT, cD, cR, cK⟩
    have q3 := M_draw (m := s.1.1) hM.1.2.2.2.2.2 hXb hp0 (by omega)
    have q4 := M_draw (a := upd a 8 (iN (drX s.1.2.2.2.2.2))) (m := s.1.2.1) upd_same hX1 hg0 (by omega)
    have q5 : upd a 8 (iN (drX s.1.2.2.2.2.2)) 1 = iN s.1.2.1 := by rw [upd_ne (by decide)]; exact hM.1.2.1
    obtain ⟨o, xx', v1, s1, p1, dn1, n1, z1, h1, a', d', mn, mv', mt, s', e1, e2, e3, e4, e5, e6, e7, e8, e9, e10, e11, e12⟩ := J_step (values := values) (stack := stack) (named := named) (truth := truth) (mv := mv) hC2 hM2 hok2 hT hcl hml (iN (s.1.2.2.2.2.2 % s.1.1)) (iN (drX s.1.2.2.2.2.2 % s.1.2.1))
    have hru2 : ruO ((s.1.1, s.1.2.1, s.1.2.2.1, s.1.2.2.2.1, s.1.2.2.2.2.1, drX (drX s.1.2.2.2.2.2)), s.2) = ru := hru
    rw [hru2] at e1
    have hco := enO_c e8
    obtain ⟨cc, xx2, v2, s2, p2, dn2, n2, z2, h2, a2, d2, mn2, mv2, mt2, s2', f1, f2, f3, f4, f5, f6, f7, f8⟩ := J_daysLoop hn ru m (i + 1) (if o = none then c else c + 1) k s' xx' p1 dn1 n1 z1 a' d' v1 s1 mn mt h1 mv' (by omega) (by omega) e3 e4 e5 e6 (hcl.keep e9) (hml.keep e9) (by rw [e11]; exact hp0) (by rw [e12]; exact hg0) (e10.trans hru)
    refine ⟨cc, xx2, v2, s2, p2, dn2, n2, z2, h2, a2, d2, mn2, mv2, mt2, s2', ?_, ?_, f3, f4, f5, f6, fun j hj => (f7 j hj).trans (e7 j hj), f8.trans e9⟩
    · rw [itr_step (s' := (iN (if o = none then c else c + 1), iN (i + 1), xx', p1, dn1, n1, v1, z1, s1, h1)), f1]
      by_cases ho : o = none
      · simp (disch := omega) only [un10, fb_x_days_37, q1, q2, un2, e1, un9, nlit, negone, hco.1, ho, enO_none, iN_lt, ltT, iN_add, ↓reduceIte, Option.bind_some]
      · simp (disch := omega) only [un10, fb_x_days_37, q1, q2, un2, e1, un9, nlit, negone, hco.1, ho, enO_none, iN_lt, ltT, iN_add, ↓reduceIte, Option.bind_some]
    · rw [itr_step (s' := (iN (if o = none then c else c + 1), iN (i + 1), a', d', mn, mv', mt)), f2]
      by_cases ho : o = none
      · simp (disch := omega) only [un7, fb_m_days_34, hM.1.1, q3, q4, q5, un2, e2, un6, nlit, hco.2, ho, enO_none, mI_neg, iN_lt, ltT, iN_add, ↓reduceIte, Option.bind_some, Nat.add_zero]
      · simp (disch := omega) only [un7, fb_m_days_34, hM.1.1, q3, q4, q5, un2, e2, un6, nlit, hco.2, ho, enO_none, mI_neg, iN_lt, ltT, iN_add, ↓reduceIte, Option.bind_some, Nat.add_zero]
theorem J_days {s : Wd} {xx : Int32} {pa dn nm sz a d values stack named truth : Nat → Int32} {hp : Nat → Nat → Int32} {mv : Nat → Int64} (hC : CW pe ga hr tx rl xx bo lo pa dn nm sz hp dz dc rz rc kz kc s) (hM : MA a s) (hok : WOK s) (hT : MT d 0 s.2.2.1) (hcl : CLs cL lz tk fe cd kd fr to s.1.2.2.2.1 laws) (hml : MLs texts s.1.2.2.2.1 laws) (l : Int32) : ∃ r xx' values' stack' pa' dn' nm' sz' hp' a' d' named' mv' truth' s', f_x_days pe ga hr rl xx (ruO s) (cL (ruO s)) (lz (ruO s)) (tk (ruO s)) (fe (ruO s)) pa dn lo bo nm values sz (kd (ruO s)) (to (ruO s)) (fr (ruO s)) stack (cd (ruO s)) hp l = some (r, xx', pa', dn', nm', values', sz', stack', hp') ∧ f_m_days (iN 0) a d texts named mv truth l = some (r, a', d', named', mv', truth') ∧ CW pe ga hr tx rl xx' bo lo pa' dn' nm' sz' hp' dz dc rz rc kz kc s' ∧ MA a' s' ∧ WOK s' ∧ MT d' 0 s'.2.2.1 ∧ (∀ j, 35 ≤ j → d' j = d j) ∧ s'.1.2.2.2.1 = s.1.2.2.2.1 := by
  have hP := hok.1.1
  have hG := hok.1.2.1
  have i1 : (iN 1).toInt = 1 := rfl
  have i100 : (iN 100).toInt = 100 := rfl
  have same : f_x_days pe ga hr rl xx (ruO s) (cL (ruO s)) (lz (ruO s)) (tk (ruO s)) (fe (ruO s)) pa dn lo bo nm values sz (kd (ruO s)) (to (ruO s)) (fr (ruO s)) stack (cd (ruO s)) hp l = some (mI, xx, pa, dn, nm, values, sz, stack, hp) → f_m_days (iN 0) a d texts named mv truth l = some (mI, a, d, named, mv, truth) → ∃ r xx' values' stack' pa' dn' nm' sz' hp' a' d' named' mv' truth' s', f_x_days pe ga hr rl xx (ruO s) (cL (ruO s)) (lz (ruO s)) (tk (ruO s)) (fe (ruO s)) pa dn lo bo nm values sz (kd (ruO s)) (to (ruO s)) (fr (ruO s)) stack (cd (ruO s)) hp l = some (r, xx', pa', dn', nm', values', sz', stack', hp') ∧ f_m_days (iN 0) a d texts named mv truth l = some (r, a', d', named', mv', truth') ∧ CW pe ga hr tx rl xx' bo lo pa' dn' nm' sz' hp' dz dc rz rc kz kc s' ∧ MA a' s' ∧ WOK s' ∧ MT d' 0 s'.2.2.1 ∧ (∀ j, 35 ≤ j → d' j = d j) ∧ s'.1.2.2.2.1 = s.1.2.2.2.1 := fun q1 q2 => ⟨mI, xx, values, stack, pa, dn, nm, sz, hp, a, d, named, mv, truth, s, q1, q2, hC, hM, hok, hT, fun _ _ => rfl, rfl⟩
  by_cases hv : 1 ≤ l.toInt ∧ l.toInt ≤ 100
  · obtain ⟨n, hn1, hn2, rfl⟩ : ∃ n, 1 ≤ n ∧ n ≤ 100 ∧ l = iN n := by
      refine ⟨l.toInt.toNat, by omega, by omega, ?_⟩
      rw [← zI_iN, Int.toNat_of_nonneg (by omega)]
      exact (Int32.ofInt_toInt l).symm
    have e0 : f_m_isIn (iN n) (iN 1) (iN 100) = some (iN 1) := by simp (disch := omega) only [f_m_isIn, nlit, onl, negone, iN_add, iN_mul, iN_sub, iN_pm, iN_addneg, iN_ix, iN_inb, iN_lt, iN_eq, iN_nneg, iN_nm, nm_iN, mI_neg, mI_nnn, ne_eq, not_true_eq_false, not_false_eq_true, true_and, and_true, bnd, Option.bind_some, ↓reduceIte, ltT, ltF, eqT, eqF, leT, leF]
    have e3 : ¬ iN 1 = iN 0 := by decide
    by_cases hp0 : s.1.1 = 0
    · refine same ?_ ?_
      · rw [hC.1.1]; simp (disch := omega) only [f_x_days, nlit, onl, negone, iN_add, iN_mul, iN_sub, iN_pm, iN_addneg, iN_ix, iN_inb, iN_lt, iN_eq, iN_nneg, iN_nm, nm_iN, mI_neg, mI_nnn, ne_eq, not_true_eq_false, not_false_eq_true, true_and, and_true, bnd, Option.bind_some, ↓reduceIte, ltT, ltF, eqT, eqF, leT, leF]
      · simp (disch := omega) only [f_m_days, e0, hM.1.1, nlit, e3, nlit, onl, negone, iN_add, iN_mul, iN_sub, iN_pm, iN_addneg, iN_ix, iN_inb, iN_lt, iN_eq, iN_nneg, iN_nm, nm_iN, mI_neg, mI_nnn, ne_eq, not_true_eq_false, not_false_eq_true, true_and, and_true, bnd, Option.bind_some, ↓reduceIte, ltT, ltF, eqT, eqF, leT, leF]
    · by_cases hg0 : s.1.2.1 = 0
      · refine same ?_ ?_
        · rw [hC.1.1, hC.1.2.1]; simp (disch := omega) only [f_x_days, nlit, onl, negone, iN_add, iN_mul, iN_sub, iN_pm, iN_addneg, iN_ix, iN_inb, iN_lt, iN_eq, iN_nneg, iN_nm, nm_iN, mI_neg, mI_nnn, ne_eq, not_true_eq_false, not_false_eq_true, true_and, and_true, bnd, Option.bind_some, ↓reduceIte, ltT, ltF, eqT, eqF, leT, leF]
        · simp (disch := omega) only [f_m_days, e0, hM.1.1, hM.1.2.1, nlit, e3, nlit, onl, negone, iN_add, iN_mul, iN_sub, iN_pm, iN_addneg, iN_ix, iN_inb, iN_lt, iN_eq, iN_nneg, iN_nm, nm_iN, mI_neg, mI_nnn, ne_eq, not_true_eq_false, not_false_eq_true, true_and, and_true, bnd, Option.bind_some, ↓reduceIte, ltT, ltF, eqT, eqF, leT, leF]
      · obtain ⟨c', xx2, v2, s2, p2, dn2, n2, z2, h2, a2, d2, mn2, mv2, mt2, s2', f1, f2, f3, f4, f5, f6, f7, f8⟩ := J_daysLoop hn2 (ruO s) n 0 0 KF s xx pa dn nm sz a d values stack named truth hp mv (by omega) (kf_lt (by omega)) hC hM hok hT hcl hml (by omega) (by omega) rfl
        refine ⟨iN c', xx2, v2, s2, p2, dn2, n2, z2, h2, a2, d2, mn2, mv2, mt2, s2', ?_, ?_, f3, f4, f5, f6, f7, f8⟩
        · have c1 := hC.1.1
          have c2 := hC.1.2.1
          subst c1 c2
          simp (disch := omega) only [f_x_days, f1, un9, nlit, onl, negone, iN_add, iN_mul, iN_sub, iN_pm, iN_addneg, iN_ix, iN_inb, iN_lt, iN_eq, iN_nneg, iN_nm, nm_iN, mI_neg, mI_nnn, ne_eq, not_true_eq_false, not_false_eq_true, true_and, and_true, bnd, Option.bind_some, ↓reduceIte, ltT, ltF, eqT, eqF, leT, leF]
        · simp (disch := omega) only [f_m_days, e0, hM.1.1, hM.1.2.1, nlit, e3, f2, un6, nlit, onl, negone, iN_add, iN_mul, iN_sub, iN_pm, iN_addneg, iN_ix, iN_inb, iN_lt, iN_eq, iN_nneg, iN_nm, nm_iN, mI_neg, mI_nnn, ne_eq, not_true_eq_false, not_false_eq_true, true_and, and_true, bnd, Option.bind_some, ↓reduceIte, ltT, ltF, eqT, eqF, leT, leF]
  · have e0 : f_m_isIn l (iN 1) (iN 100) = some (iN 0) := by
      unfold f_m_isIn
      simp only [nlit, Int32.lt_iff_toInt_lt, i1, i100]
      by_cases q : l.toInt < 1
      · rw [if_pos q]
      · rw [if_neg q, if_pos (by omega)]
    refine same ?_ ?_
    · unfold f_x_days
      simp only [nlit, negone, Int32.lt_iff_toInt_lt, i1, i100]
      by_cases q : l.toInt < 1
      · rw [if_pos q]
      · rw [if_neg q, if_pos (by omega)]
    · simp (disch := omega) only [f_m_days, e0, nlit, nlit, onl, negone, iN_add, iN_mul, iN_sub, iN_pm, iN_addneg, iN_ix, iN_inb, iN_lt, iN_eq, iN_nneg, iN_nm, nm_iN, mI_neg, mI_nnn, ne_eq, not_true_eq_false, not_false_eq_true, true_and, and_true, bnd, Option.bind_some, ↓reduceIte, ltT, ltF, eqT, eqF, leT, leF]
end
