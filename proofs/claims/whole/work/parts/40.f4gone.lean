section
variable {pe ga hr tx rl dz rz kz : Int32} {bo lo dc rc kc : Nat → Int32} {laws : Nat → Lw} {texts cL lz tk fe : Nat → Int32} {cd kd fr to : Nat → Nat → Int32}
theorem J_goneLoop {T : Nat} (hT4 : T < 4) (ru : Nat) (hcT : CL (cL T) (lz T) (tk T) (fe T) (cd T) (kd T) (fr T) (to T) (laws T)) (hmT : ML texts T (laws T)) (hlT : LW (laws T)) : ∀ (m i c k : Nat) (s : Wd) (xx : Int32) (pa dn nm sz a d values stack named truth : Nat → Int32) (hp : Nat → Nat → Int32) (mv : Nat → Int64), i + m = (laws T).length → m < k → CW pe ga hr tx rl xx bo lo pa dn nm sz hp dz dc rz rc kz kc s → MA a s → WOK s → MT d 0 s.2.2.1 → CLs cL lz tk fe cd kd fr to s.1.2.2.2.1 laws → MLs texts s.1.2.2.2.1 laws → ruO s = ru →
    ∃ c' xx' values' stack' pa' dn' nm' sz' hp' a' d' named' mv' truth' s', itr (un10 (fb_x_gone2_38 pe ga hr rl ru (lz T) (cL ru) (lz ru) (tk ru) (fe ru) lo bo (kd T) (fr T) (to T) (kd ru) (to ru) (fr ru) (cd ru))) k (iN c, iN i, xx, pa, dn, nm, values, sz, stack, hp) = some (iN c', xx', pa', dn', nm', values', sz', stack', hp') ∧ itr (un7 (fb_m_gone_22 (iN 0) texts (iN T))) k (iN c, iN i, a, d, named, mv, truth) = some (iN c', a', d', named', mv', truth') ∧ CW pe ga hr tx rl xx' bo lo pa' dn' nm' sz' hp' dz dc rz rc kz kc s' ∧ MA a' s' ∧ WOK s' ∧ MT d' 0 s'.2.2.1 ∧ (∀ j, 35 ≤ j → d' j = d j) ∧ s'.1.2.2.2.1 = s.1.2.2.2.1
  | 0, i, c, k, s, xx, pa, dn, nm, sz, a, d, values, stack, named, truth, hp, mv, hi, hk, hC, hM, hok, hT, hcl, hml, hru => by
    obtain ⟨k, rfl⟩ : ∃ z, k = z + 1 := ⟨k - 1, by omega⟩
    have hl := hlT.1
    have hz := hcT.1
    refine ⟨c, xx, values, stack, pa, dn, nm, sz, hp, a, d, named, mv, truth, s, itr_end ?_, itr_end ?_, hC, hM, hok, hT, fun _ _ => rfl, rfl⟩
    · rw [hz]
      simp (disch := omega) only [un10, fb_x_gone2_38, nlit, onl, negone, iN_add, iN_mul, iN_sub, iN_pm, iN_addneg, iN_ix, iN_inb, iN_lt, iN_eq, iN_nneg, iN_nm, nm_iN, mI_neg, mI_nnn, ne_eq, not_true_eq_false, not_false_eq_true, true_and, and_true, bnd, Option.bind_some, ↓reduceIte, ltT, ltF, eqT, eqF, leT, leF]
    · simp (disch := omega) only [un7, fb_m_gone_22, hmT.1, nlit, onl, negone, iN_add, iN_mul, iN_sub, iN_pm, iN_addneg, iN_ix, iN_inb, iN_lt, iN_eq, iN_nneg, iN_nm, nm_iN, mI_neg, mI_nnn, ne_eq, not_true_eq_false, not_false_eq_true, true_and, and_true, bnd, Option.bind_some, ↓reduceIte, ltT, ltF, eqT, eqF, leT, leF]
  | m + 1, i, c, k, s, xx, pa, dn, nm, sz, a, d, values, stack, named, truth, hp, mv, hi, hk, hC, hM, hok, hT, hcl, hml, hru => by
    obtain ⟨k, rfl⟩ : ∃ z, k = z + 1 := ⟨k - 1, by omega⟩
    have hl := hlT.1
    have hz := hcT.1
    have hlt : i < (laws T).length := by omega
    have hc0 : (laws T)[i]? = some (laws T)[i] := List.getElem?_eq_getElem hlt
    have hcw := hlT.2 _ (List.mem_of_getElem? hc0)
    have hkd := hcT.kindOf hl hc0
    obtain ⟨L, hL, hLc, hall⟩ := hcT.2.2.2
    have hso := (hmT.2 i _ hc0).1
    have hc1 := hcw.1
    by_cases h3 : (laws T)[i].1 = 3
    · obtain ⟨x1, x2⟩ := (hall i _ hc0).2.2 h3
      obtain ⟨y1, y2⟩ := (hmT.2 i _ hc0).2.2 h3
      obtain ⟨w8, g3⟩ := hcw.2.2.2.2 h3
      have hfr : f_law_fromOf (lz T) (fr T) (iN i) = some (iN (laws T)[i].2.2.1) := by
        rw [hz]; simp (disch := omega) only [f_law_fromOf, x1, nlit, onl, negone, iN_add, iN_mul, iN_sub, iN_pm, iN_addneg, iN_ix, iN_inb, iN_lt, iN_eq, iN_nneg, iN_nm, nm_iN, mI_neg, mI_nnn, ne_eq, not_true_eq_false, not_false_eq_true, true_and, and_true, bnd, Option.bind_some, ↓reduceIte, ltT, ltF, eqT, eqF, leT, leF]
      have hto : f_law_toOf (lz T) (to T) (iN i) = some (iN (laws T)[i].2.2.2) := by
        rw [hz]; simp (disch := omega) only [f_law_toOf, x2, nlit, onl, negone, iN_add, iN_mul, iN_sub, iN_pm, iN_addneg, iN_ix, iN_inb, iN_lt, iN_eq, iN_nneg, iN_nm, nm_iN, mI_neg, mI_nnn, ne_eq, not_true_eq_false, not_false_eq_true, true_and, and_true, bnd, Option.bind_some, ↓reduceIte, ltT, ltF, eqT, eqF, leT, leF]
      obtain ⟨o, xx', v1, s1, p1, dn1, n1, z1, h1, a', d', mn, mv', mt, s', e1, e2, e3, e4, e5, e6, e7, e8, e9, e10, e11, e12⟩ := J_step (values := values) (stack := stack) (named := named) (truth := truth) (mv := mv) hC hM hok hT hcl hml (iN (laws T)[i].2.2.1) (iN (laws T)[i].2.2.2)
      rw [hru] at e1
      have hco := enO_c e8
      obtain ⟨cc, xx2, v2, s2, p2, dn2, n2, z2, h2, a2, d2, mn2, mv2, mt2, s2', f1, f2, f3, f4, f5, f6, f7, f8⟩ := J_goneLoop hT4 ru hcT hmT hlT m (i + 1) (if o = none then c else c + 1) k s' xx' p1 dn1 n1 z1 a' d' v1 s1 mn mt h1 mv' (by omega) (by omega) e3 e4 e5 e6 (hcl.keep e9) (hml.keep e9) (e10.trans hru)
      refine ⟨cc, xx2, v2, s2, p2, dn2, n2, z2, h2, a2, d2, mn2, mv2, mt2, s2', ?_, ?_, f3, f4, f5, f6, fun j hj => (f7 j hj).trans (e7 j hj), f8.trans e9⟩
      · rw [itr_step (s' := (iN (if o = none then c else c + 1), iN (i + 1), xx', p1, dn1, n1, v1, z1, s1, h1)), f1]
        rw [h3] at hkd
        have hlt2 : (iN i < lz T) = True := by rw [hz, iN_lt (by omega) (by omega)]; exact eq_true hlt
        by_cases ho : o = none
        · simp (disch := omega) only [un10, fb_x_gone2_38, hkd, hfr, hto, hlt2, e1, un9, nlit, negone, hco.1, ho, enO_none, iN_eq, eqT, iN_add, ↓reduceIte, Option.bind_some]
        · simp (disch := omega) only [un10, fb_x_gone2_38, hkd, hfr, hto, hlt2, e1, un9, nlit, negone, hco.1, ho, iN_eq, eqT, iN_add, ↓reduceIte, Option.bind_some]
      · rw [itr_step (s' := (iN (if o = none then c else c + 1), iN (i + 1), a', d', mn, mv', mt)), f2]
        by_cases ho : o = none
        · simp (disch := omega) only [un7, fb_m_gone_22, hmT.1, hso, h3, y1, y2, e2, un6, hco.2, ho, enO_none, nlit, onl, negone, iN_add, iN_mul, iN_sub, iN_pm, iN_addneg, iN_ix, iN_inb, iN_lt, iN_eq, iN_nneg, iN_nm, nm_iN, mI_neg, mI_nnn, ne_eq, not_true_eq_false, not_false_eq_true, true_and, and_true, bnd, Option.bind_some, ↓reduceIte, ltT, ltF, eqT, eqF, leT, leF]
        · simp (disch := omega) only [un7, fb_m_gone_22, hmT.1, hso, h3, y1, y2, e2, un6, hco.2, ho, nlit, onl, negone, iN_add, iN_mul, iN_sub, iN_pm, iN_addneg, iN_ix, iN_inb, iN_lt, iN_eq, iN_nneg, iN_nm, nm_iN, mI_neg, mI_nnn, ne_eq, not_true_eq_false, not_false_eq_true, true_and, and_true, bnd, Option.bind_some, ↓reduceIte, ltT, ltF, eqT, eqF, leT, leF]
    · obtain ⟨cc, xx2, v2, s2, p2, dn2, n2, z2, h2, a2, d2, mn2, mv2, mt2, s2', f1, f2, f3, f4, f5, f6, f7, f8⟩ := J_goneLoop hT4 ru hcT hmT hlT m (i + 1) c k s xx pa dn nm sz a d values stack named truth hp mv (by omega) (by omega) hC hM hok hT hcl hml hru
      refine ⟨cc, xx2, v2, s2, p2, dn2, n2, z2, h2, a2, d2, mn2, mv2, mt2, s2', ?_, ?_, f3, f4, f5, f6, f7, f8⟩
      · rw [itr_step (s' := (iN c, iN (i + 1), xx, pa, dn, nm, values, sz, stack, hp)), f1]
        have hlt2 : (iN i < lz T) = True := by rw [hz, iN_lt (by omega) (by omega)]; exact eq_true hlt
        simp (disch := omega) only [un10, fb_x_gone2_38, hkd, hlt2, nlit, iN_eq, eqF, iN_add, ↓reduceIte, Option.bind_some]
      · rw [itr_step (s' := (iN c, iN (i + 1), a, d, named, mv, truth)), f2]
        simp (disch := omega) only [un7, fb_m_gone_22, hmT.1, hso, nlit, onl, negone, iN_add, iN_mul, iN_sub, iN_pm, iN_addneg, iN_ix, iN_inb, iN_lt, iN_eq, iN_nneg, iN_nm, nm_iN, mI_neg, mI_nnn, ne_eq, not_true_eq_false, not_false_eq_true, true_and, and_true, bnd, Option.bind_some, ↓reduceIte, ltT, ltF, eqT, eqF, leT, leF]
theorem J_gone {s : Wd} {xx : Int32} {pa dn nm sz a d values stack named truth : Nat → Int32} {hp : Nat → Nat → Int32} {mv : Nat → Int64} (hC : CW pe ga hr tx rl xx bo lo pa dn nm sz hp dz dc rz rc kz kc s) (hM : MA a s) (hok : WOK s) (hT : MT d 0 s.2.2.1) (hcl : CLs cL lz tk fe cd kd fr to s.1.2.2.2.1 laws) (hml : MLs texts s.1.2.2.2.1 laws) (l : Int32) (rt : Nat) (hrt : ∀ T, T < s.1.2.2.2.1 → l = iN T → rt = T) : ∃ r xx' values' stack' pa' dn' nm' sz' hp' a' d' named' mv' truth' s', (rt = ruO s → f_x_gone1 pe ga hr tx rl xx (ruO s) (cL (ruO s)) (lz (ruO s)) (tk (ruO s)) (fe (ruO s)) pa dn lo bo (kd (ruO s)) (fr (ruO s)) (to (ruO s)) nm values sz stack (cd (ruO s)) hp l = some (r, xx', pa', dn', nm', values', sz', stack', hp')) ∧ (rt ≠ ruO s → f_x_gone2 pe ga hr tx rl xx (ruO s) rt (lz rt) (cL (ruO s)) (lz (ruO s)) (tk (ruO s)) (fe (ruO s)) pa dn lo bo (kd rt) (fr rt) (to rt) nm values sz (kd (ruO s)) (to (ruO s)) (fr (ruO s)) stack (cd (ruO s)) hp l = some (r, xx', pa', dn', nm', values', sz', stack', hp')) ∧ f_m_gone (iN 0) a d texts named mv truth l = some (r, a', d', named', mv', truth') ∧ CW pe ga hr tx rl xx' bo lo pa' dn' nm' sz' hp' dz dc rz rc kz kc s' ∧ MA a' s' ∧ WOK s' ∧ MT d' 0 s'.2.2.1 ∧ (∀ j, 35 ≤ j → d' j = d j) ∧ s'.1.2.2.2.1 = s.1.2.2.2.1 := by
  have h4 := hok.1.2.2.2.1
  have e0 := M_isIn0 (l := l) (show s.1.2.2.2.1 < 1000 by omega)
  have c4 := hC.1.2.2.2.1
  cases h : inR l s.1.2.2.2.1 with
  | false =>
    rw [h] at e0
    have hl : l.toInt < 0 ∨ (s.1.2.2.2.1 : Int) ≤ l.toInt := by
      unfold inR at h
      rw [decide_eq_false_iff_not] at h
      omega
    have ht : (iN s.1.2.2.2.1).toInt = (s.1.2.2.2.1 : Int) := iN_toInt (by omega)
    refine ⟨mI, xx, values, stack, pa, dn, nm, sz, hp, a, d, named, mv, truth, s, fun _ => ?_, fun _ => ?_, ?_, hC, hM, hok, hT, fun _ _ => rfl, rfl⟩
    · unfold f_x_gone1
      rw [c4]
      simp only [nlit, negone, Int32.lt_iff_toInt_lt, ht, i0_toInt]
      by_cases q : l.toInt < 0
      · rw [if_pos q]
      · rw [if_neg q, if_neg (by omega)]
    · unfold f_x_gone2
      rw [c4]
      simp only [nlit, negone, Int32.lt_iff_toInt_lt, ht, i0_toInt]
      by_cases q : l.toInt < 0
      · rw [if_pos q]
      · rw [if_neg q, if_neg (by omega)]
    · simp only [f_m_gone, hM.1.2.2.2.1, nlit, negone, e0, bF0, Option.bind_some, ↓reduceIte]
  | true =>
    rw [h] at e0
    obtain ⟨T, hTt, rfl⟩ := inR_some h
    have hrT : rt = T := hrt T hTt rfl
    subst hrT
    have hl := (hml rt hTt).2.1
    obtain ⟨c', xx2, v2, s2, p2, dn2, n2, z2, h2, a2, d2, mn2, mv2, mt2, s2', f1, f2, f3, f4, f5, f6, f7, f8⟩ := J_goneLoop (show rt < 4 by omega) (ruO s) (hcl rt hTt) (hml rt hTt).1 (hml rt hTt).2 (laws rt).length 0 0 KF s xx pa dn nm sz a d values stack named truth hp mv (by omega) (kf_lt (by omega)) hC hM hok hT hcl hml rfl
    refine ⟨iN c', xx2, v2, s2, p2, dn2, n2, z2, h2, a2, d2, mn2, mv2, mt2, s2', fun q => ?_, fun _ => ?_, ?_, f3, f4, f5, f6, f7, f8⟩
    · rw [c4]
      subst q
      have f1' : itr (un10 (fb_x_gone1_38 pe ga hr rl (ruO s) (cL (ruO s)) (lz (ruO s)) (tk (ruO s)) (fe (ruO s)) lo bo (kd (ruO s)) (fr (ruO s)) (to (ruO s)) (cd (ruO s)))) KF (iN 0, iN 0, xx, pa, dn, nm, values, sz, stack, hp) = some (iN c', xx2, p2, dn2, n2, v2, z2, s2, h2) := f1
      simp (disch := omega) only [f_x_gone1, f1', un9, nlit, onl, negone, iN_add, iN_mul, iN_sub, iN_pm, iN_addneg, iN_ix, iN_inb, iN_lt, iN_eq, iN_nneg, iN_nm, nm_iN, mI_neg, mI_nnn, ne_eq, not_true_eq_false, not_false_eq_true, true_and, and_true, bnd, Option.bind_some, ↓reduceIte, ltT, ltF, eqT, eqF, leT, leF]
    · rw [c4]
      simp (disch := omega) only [f_x_gone2, f1, un9, nlit, onl, negone, iN_add, iN_mul, iN_sub, iN_pm, iN_addneg, iN_ix, iN_inb, iN_lt, iN_eq, iN_nneg, iN_nm, nm_iN, mI_neg, mI_nnn, ne_eq, not_true_eq_false, not_false_eq_true, true_and, and_true, bnd, Option.bind_some, ↓reduceIte, ltT, ltF, eqT, eqF, leT, leF]
    · simp only [f_m_gone, hM.1.2.2.2.1, nlit, e0, bT0, f2, un6, Option.bind_some, ↓reduceIte]
end
