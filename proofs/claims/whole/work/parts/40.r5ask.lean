/-! ===== PURE: text: ASK ===== -/
section
variable {by_ tp kd st nu tx0 : Nat → Int32} {n : Nat} {B : Nat → Nat} {L : List Tk} {al so : Int32} {aF : Nat → Bool} {T : Nat}
theorem tyS_cmp {w t : Nat} (h1 : 10 ≤ w) (h2 : w < 16) : tyS aF (w, 0) t 2 = some (t + 1, 0) := by
  show (if w = 0 then _ else if w = 1 then _ else if w = 2 then _ else if w < 8 then _ else if w < 10 then _ else if w < 16 then (if 2 = 2 then some (t + 1, 0) else none) else _) = _
  rw [if_neg (by omega), if_neg (by omega), if_neg (by omega), if_neg (by omega), if_neg (by omega), if_pos h2, if_pos rfl]
theorem tyS_not {t : Nat} (h : 1 ≤ t) : tyS aF (20, 0) t 0 = some (t, 0) := by
  show (if (20 : Nat) = 0 then _ else if (20 : Nat) = 1 then _ else if (20 : Nat) = 2 then _ else if (20 : Nat) < 8 then _ else if (20 : Nat) < 10 then _ else if (20 : Nat) < 16 then _ else if (20 : Nat) = 20 then (if 1 ≤ t ∧ (0 : Nat) = 0 then some (t, 0) else none) else _) = _
  rw [if_neg (by decide), if_neg (by decide), if_neg (by decide), if_neg (by decide), if_neg (by decide), if_neg (by decide), if_pos rfl, if_pos ⟨h, rfl⟩]
theorem tyS_two {w t : Nat} (hw : w = 21 ∨ w = 22) (h : 2 ≤ t) : tyS aF (w, 0) t 0 = some (t - 1, 0) := by
  show (if w = 0 then _ else if w = 1 then _ else if w = 2 then _ else if w < 8 then _ else if w < 10 then _ else if w < 16 then _ else if w = 20 then _ else if w = 21 ∨ w = 22 then (if 2 ≤ t ∧ (0 : Nat) = 0 then some (t - 1, 0) else none) else _) = _
  rw [if_neg (by omega), if_neg (by omega), if_neg (by omega), if_neg (by omega), if_neg (by omega), if_neg (by omega), if_neg (by omega), if_pos hw, if_pos ⟨h, rfl⟩]
end
section
variable (tp kd st nu tx0 : Nat → Int32) (n : Nat) (B : Nat → Nat) (L : List Tk) (al so : Int32) (aF : Nat → Bool) (T : Nat)
def HA (o d zz : Nat) : Prop := ∀ (z i x : Nat) (cs : List (Nat × Nat)) (code : Nat → Int32) (a p t b : Int32) (wd : Int64) (tx pile : Nat → Int32) (pi wh : Int32), zz ≤ z → CC code cs → cs.length + o + x ≤ i → RS B n L i a p t b wd → MC tx T cs → TX tx0 tx T →
    (∃ i' c code' a' p' t' b' wd' tx' pile', (FG_rd_readAsk d) (iN (L.length + 1)) (iN 0) mI (iN i) (iN (kI L n i)) al st (iN cs.length) kd nu code (iN o) = some (iN 0, mI, iN i', iN (kI L n i'), iN (cs ++ c).length, code') ∧ CC code' (cs ++ c) ∧ i < i' ∧ i' ≤ L.length ∧ (cs ++ c).length + o + x ≤ i' ∧ (itr (un7 (fb_m_asks_2 (iN n) tp)) z (iN o, a, p, t, b, wd, iN o)).bind (askE tp n T so (iN cs.length) pi wh tx pile) = some (iN 0, a', p', t', b', wd', iN ((cs ++ c).length + o), iN 0, iN 0, b01 true, tx', pile') ∧ RS B n L i' a' p' t' b' wd' ∧ MC tx' T (cs ++ c ++ List.replicate o (20, 0)) ∧ TX tx0 tx' T ∧ ∀ t, t + 20 ≤ 60 → tyR aF c t 0 = some (t + 1, 0)) ∨
    (∃ f q i2 k2 c2 code2 a' t' b' wd' wr' pi' op' wh' tx' pile', (FG_rd_readAsk d) (iN (L.length + 1)) (iN 0) mI (iN i) (iN (kI L n i)) al st (iN cs.length) kd nu code (iN o) = some (iN f, iN q, iN i2, k2, iN c2, code2) ∧ f ≠ 0 ∧ f < 10 ∧ i2 ≤ 300 ∧ c2 ≤ 300 ∧ (itr (un7 (fb_m_asks_2 (iN n) tp)) z (iN o, a, p, t, b, wd, iN o)).bind (askE tp n T so (iN cs.length) pi wh tx pile) = some (iN f, a', iN q, t', b', wd', wr', pi', op', wh', tx', pile') ∧ TX tx0 tx' T)
end
section
variable {by_ tp kd st nu tx0 : Nat → Int32} {n : Nat} {B : Nat → Nat} {L : List Tk} {al so : Int32} {aF : Nat → Bool} {T : Nat}
theorem A_of (hX : PX by_ tp kd st nu n B L al so aF T) {o d zz : Nat} (ho : o ≤ 8) (hA : o < 8 → HA tp kd st nu tx0 n B L al so aF T (o + 1) d zz) : HA tp kd st nu tx0 n B L al so aF T o (d + 1) (zz + 1) := by
  intro z i x cs code a p t b wd tx pile pi wh hz hcc hlen hr hmc htx
  obtain ⟨z, rfl⟩ : ∃ y, z = y + 1 := ⟨z - 1, by omega⟩
  have hFG : ∀ A B C D E F G H I J K M, FG_rd_readAsk (d + 1) A B C D E F G H I J K M = fR_rd_readAsk (FG_rd_readAsk d) A B C D E F G H I J K M := fun _ _ _ _ _ _ _ _ _ _ _ _ => rfl
  rw [hFG]
  have hL := hX.len
  have hT := hX.2.2.2.1
  have hi := hr.1
  have k4 := (hX.tok hi).2.2.2.1
  have hMK : MK (kI L n i) (tI L n i).2.1 t b wd := hr.2.2.1
  have hpp : p = iN (pI L n i) := hr.2.1
  have hnot := hMK.isWord (k := 7) (by decide) rfl
  by_cases c27 : kI L n i = 27
  · have hil := kI_lt (show kI L n i ≠ 0 by omega)
    have e27 : (iN (kI L n i) = iN 27) = True := eq_true (by rw [c27])
    rw [decide_eq_true (show kI L n i = 20 + 7 by omega)] at hnot
    have w_not' : f_m_w3 (iN 110) (iN 111) (iN 116) = some (jN (pkL (WD.getD 7 []))) := w_not
    by_cases c8 : o < 8
    · have o8 : (iN o < iN 8) = True := by rw [iN_lt (by omega) (by omega)]; exact eq_true c8
      have o8' : (iN o = iN 8) = False := by rw [iN_eq (by omega) (by omega)]; exact eq_false (by omega)
      have e4 := C_stepT hX hil (k := iN (kI L n i))
      have h10 : (iN 1 = iN 0) = False := eq_false (by decide)
      obtain ⟨a', p', t', b', wd', n1, n2⟩ := M_nextT hX.1 hr hil
      have st1 : un7 (fb_m_asks_2 (iN n) tp) (iN o, a, p, t, b, wd, iN o) = some (.inl (iN (o + 1), a', p', t', b', wd', iN (o + 1))) := by
        simp only [un7, fb_m_asks_2, nlit, w_not', hnot, bT0, o8', n1, un5, iN_add, Option.bind_some, ↓reduceIte]
      rw [itr_step st1]
      rcases hA c8 z (i + 1) x cs code a' p' t' b' wd' tx pile pi wh (by omega) hcc (by omega) n2 hmc htx with ⟨i1, c, code1, a2, p2, t2, b2, wd2, tx2, pile2, r1, r2, r3, r4, r5, r6, r7, r8, r9, r10⟩ | ⟨f, q, i2, k2, c2, code2, a2, t2, b2, wd2, wr2, pi2, op2, wh2, tx2, pile2, r1, r2, r3, r4, r5, r6, r7⟩
      · obtain ⟨code3, e5, e6⟩ := C_put r2 (show (cs ++ c).length < 300 by omega) (20, 0) (v := iN 20027) rfl
        have hl1 : (cs ++ c ++ [(20, 0)]).length = (cs ++ c).length + 1 := by rw [List.length_append (as := cs ++ c)]; rfl
        rw [show cs ++ c ++ [(20, 0)] = cs ++ (c ++ [(20, 0)]) from List.append_assoc _ _ _] at e5 e6 hl1
        refine Or.inl ⟨i1, c ++ [(20, 0)], code3, a2, p2, t2, b2, wd2, tx2, pile2, ?_, e6, by omega, r4, by omega, ?_, r7, ?_, r9, fun tt htt => ?_⟩
        · simp only [fR_rd_readAsk, f_rd_opens, fj_rd_opens_11, nlit, e27, o8, e4, h10, iN_add, r1, e5, un2, un5, un6, Option.bind_some, ↓reduceIte]
        · rw [r6, hl1, show (cs ++ c).length + (o + 1) = (cs ++ c).length + 1 + o by omega]
        · rw [← rep_snoc] at r8
          rw [← List.append_assoc]; exact r8
        · rw [tyR_app, r10 tt htt, Option.bind_some, tyR_one]; exact tyS_not (by omega)
      · obtain ⟨c', code', e5, e6⟩ := C_emitA (code := code2) (v := iN 20027) r5
        refine Or.inr ⟨f, q, i2, k2, c', code', a2, t2, b2, wd2, wr2, pi2, op2, wh2, tx2, pile2, ?_, r2, r3, r4, e6, r6, r7⟩
        simp only [fR_rd_readAsk, f_rd_opens, fj_rd_opens_11, nlit, e27, o8, e4, h10, iN_add, r1, e5, un2, un5, un6, Option.bind_some, ↓reduceIte]
    · have hoe : o = 8 := by omega
      have o8 : (iN o < iN 8) = False := by rw [iN_lt (by omega) (by omega)]; exact eq_false (by omega)
      have o8' : (iN o = iN 8) = True := eq_true (by rw [hoe])
      have e3 := C_failT hX hi (w := iN 3)
      have e4 := H_step (tokens := iN (L.length + 1)) (k := iN (kI L n i)) (kd := kd) (f := 3) (i := i) (by decide) (by decide)
      have h30 : (iN 3 = iN 0) = False := eq_false (by decide)
      have st1 : un7 (fb_m_asks_2 (iN n) tp) (iN o, a, p, t, b, wd, iN o) = some (.inr (.inl (a, p, t, b, wd, iN o))) := by
        simp only [un7, fb_m_asks_2, nlit, w_not', hnot, bT0, o8', Option.bind_some, ↓reduceIte]
      rw [itr_end st1, Option.bind_some]
      refine Or.inr ⟨3, pI L n i, i, iN (kI L n i), cs.length, code, a, t, b, wd, iN cs.length, pi, iN o, wh, tx, pile, ?_, by decide, by decide, by omega, by omega, ?_, htx⟩
      · simp only [fR_rd_readAsk, f_rd_opens, fj_rd_opens_11, nlit, e27, o8, e3, e4, h30, un2, un5, Option.bind_some, ↓reduceIte]
      · rw [← hpp]; rfl
  · have e27 : (iN (kI L n i) = iN 27) = False := by rw [iN_eq (by omega) (by omega)]; exact eq_false c27
    rw [decide_eq_false (show ¬ kI L n i = 20 + 7 by omega)] at hnot
    have w_not' : f_m_w3 (iN 110) (iN 111) (iN 116) = some (jN (pkL (WD.getD 7 []))) := w_not
    have st1 : un7 (fb_m_asks_2 (iN n) tp) (iN o, a, p, t, b, wd, iN o) = some (.inr (.inr (iN o, a, p, t, b, wd, iN o))) := by
      simp only [un7, fb_m_asks_2, nlit, w_not', hnot, bF0, Option.bind_some, ↓reduceIte]
    rw [itr_end st1, Option.bind_some]
    simp only [askE, Sum.elim_inr, un7]
    rcases J_sum (tx0 := tx0) (pi := pi) (wh := wh) (pile := pile) (x := o + x) hX ho hcc (by omega) hr hmc htx with ⟨i1, c, code1, a1, p1, t1, b1, wd1, tx1, pile1, r1, r2, r3, r4, r5, r6, r7, r8, r9, r10⟩ | ⟨f, q, i2, k2, c2, code2, a2, t2, b2, wd2, wr2, pi2, op2, wh2, tx2, pile2, r1, r2, r3, r4, r5, r6, r7⟩
    · rw [r6, Option.bind_some]
      have h00 : (iN 0 = 0) = True := eq_true rfl
      simp only [un12, h00, ↓reduceIte]
      have hMK1 : MK (kI L n i1) (tI L n i1).2.1 t1 b1 wd1 := r7.2.2.1
      have hp1 : p1 = iN (pI L n i1) := r7.2.1
      have k41 := (hX.tok r4).2.2.2.1
      obtain ⟨cm1, cm2, cm3⟩ := cm_ok (kI L n i1) k41
      rw [M_compareOf hMK1, Option.bind_some]
      by_cases cc : (3 ≤ kI L n i1 ∧ kI L n i1 ≤ 6) ∨ kI L n i1 = 15 ∨ kI L n i1 = 16
      · rw [decide_eq_true cc] at cm1
        obtain ⟨g1, g2, g3, g4⟩ := cm2 cc
        rw [g4]
        have hneg : (iN (cmO (kI L n i1)) < 0) = False := iN_nneg (by omega)
        simp only [hneg, ↓reduceIte]
        have hil1 := kI_lt (show kI L n i1 ≠ 0 by omega)
        obtain ⟨a2, p2, t2, b2, wd2, n1, n2⟩ := M_nextT hX.1 r7 hil1
        rw [n1, Option.bind_some]
        simp only [un5]
        have e4 := C_stepT hX hil1 (k := iN (kI L n i1))
        rcases J_sum (tx0 := tx0) (pi := iN 0) (wh := b01 true) (pile := pile1) (x := o + x + 1) hX ho r2 (by omega) n2 r8 r9 with ⟨i3, c3, code3, a3, p3, t3, b3, wd3, tx3, pile3, y1, y2, y3, y4, y5, y6, y7, y8, y9, y10⟩ | ⟨f, q, i2, k2, c2, code2, a3, t3, b3, wd3, wr3, pi3, op3, wh3, tx3, pile3, y1, y2, y3, y4, y5, y6, y7⟩
        · rw [y6, Option.bind_some]
          simp only [un12, h00, ↓reduceIte]
          obtain ⟨tx4, m1, m2, m3⟩ := M_emit hT y8 y9 (show (cs ++ c ++ c3).length < 300 by omega) (cmO (kI L n i1)) 0
          have m1' : f_m_emit (iN (680 * T)) (iN (cs ++ c ++ c3).length) tx3 (iN (cmO (kI L n i1))) 0 = some (iN ((cs ++ c ++ c3).length + 1), tx4) := m1
          rw [m1', Option.bind_some]
          simp only [un2]
          obtain ⟨code4, e5, e6⟩ := C_put y2 (show (cs ++ c ++ c3).length < 300 by omega) (cmO (kI L n i1), 0) (v := iN (20000 + kI L n i1)) (by rw [g1])
          have hass : cs ++ c ++ c3 ++ [(cmO (kI L n i1), 0)] = cs ++ (c ++ (c3 ++ [(cmO (kI L n i1), 0)])) := by
            rw [List.append_assoc, List.append_assoc]
          have hl1 : (cs ++ c ++ c3 ++ [(cmO (kI L n i1), 0)]).length = (cs ++ c ++ c3).length + 1 := by rw [List.length_append (as := cs ++ c ++ c3)]; rfl
          obtain ⟨tx5, u1, u2, u3⟩ := M_nots (tx0 := tx0) hT (show o < 100 by omega) o 0 KF (cs ++ c ++ c3 ++ [(cmO (kI L n i1), 0)]) tx4 (by omega) (kf_lt (by omega)) (by omega) m2 m3
          rw [hl1] at u1
          have u1' : itr (un3 (fb_m_asks_105 (iN (680 * T)) (iN o))) KF (0, iN ((cs ++ c ++ c3).length + 1), tx4) = _ := u1
          rw [u1', Option.bind_some]
          simp only [un2]
          rw [hass] at e5 e6 u2 hl1
          have hoo : iN o - iN o = iN 0 := by rw [iN_sub (Nat.le_refl _), Nat.sub_self]
          refine Or.inl ⟨i3, c ++ (c3 ++ [(cmO (kI L n i1), 0)]), code4, a3, p3, t3, b3, wd3, tx5, pile3, ?_, e6, by omega, y4, by omega, ?_, y7, u2, u3, fun tt htt => ?_⟩
          · simp only [fR_rd_readAsk, fj_rd_readAsk_57, nlit, e27, r1, cm1, bT0, e4, y1, iN_add, e5, un2, un6, Option.bind_some, ↓reduceIte]
          · rw [hl1, hoo]; rfl
          · rw [tyR_app, r10 tt 0 (by omega), Option.bind_some, tyR_app]
            show (tyR aF c3 tt (0 + 1)).bind _ = _
            rw [y10 tt (0 + 1) (by omega), Option.bind_some, tyR_one]
            exact tyS_cmp g2 g3
        · have hf0 : (iN f = 0) = False := by
            show (iN f = iN 0) = False
            rw [iN_eq (by omega) (by omega)]; exact eq_false y2
          rw [y6, Option.bind_some]
          simp only [un12, hf0, ↓reduceIte]
          obtain ⟨c', code', e5, e6⟩ := C_emitA (code := code2) (v := iN (20000 + kI L n i1)) y5
          refine Or.inr ⟨f, q, i2, k2, c', code', a3, t3, b3, wd3, wr3, pi3, op3, wh3, tx3, pile3, ?_, y2, y3, y4, e6, rfl, y7⟩
          simp only [fR_rd_readAsk, fj_rd_readAsk_57, nlit, e27, r1, cm1, bT0, e4, y1, iN_add, e5, un2, un6, Option.bind_some, ↓reduceIte]
      · rw [decide_eq_false cc] at cm1
        rw [cm3 cc]
        have hneg : (mI < 0) = True := mI_neg
        simp only [hneg, ↓reduceIte]
        have e5 := C_failT hX r4 (w := iN 1)
        obtain ⟨c', code', e6, e7⟩ := H_ask57 (F := FG_rd_readAsk d) (tokens := iN (L.length + 1)) (p := iN (pI L n i1)) (k := iN (kI L n i1)) (al := al) (l1 := iN o) (w := iN (kI L n i1)) (kd := kd) (st := st) (nu := nu) (code := code1) (f := 1) (i := i1) (c := (cs ++ c).length) (by decide) (by decide) (by omega) (by omega)
        refine Or.inr ⟨1, pI L n i1, i1, iN (kI L n i1), c', code', a1, t1, b1, wd1, iN (cs ++ c).length, iN 0, iN o, b01 true, tx1, pile1, ?_, by decide, by decide, by omega, e7, by rw [← hp1]; rfl, r9⟩
        simp only [fR_rd_readAsk, nlit, e27, r1, cm1, bF0, e5, e6, un2, un6, Option.bind_some, ↓reduceIte]
    · have hf0 : (iN f = 0) = False := by
        show (iN f = iN 0) = False
        rw [iN_eq (by omega) (by omega)]; exact eq_false r2
      rw [r6, Option.bind_some]
      simp only [un12, hf0, ↓reduceIte]
      obtain ⟨v, hv⟩ : ∃ v, f_rd_compares k2 = some v := by
        unfold f_rd_compares fj_rd_compares_11
        split
        · split
          · exact ⟨_, rfl⟩
          · split <;> exact ⟨_, rfl⟩
        · split
          · split
            · exact ⟨_, rfl⟩
            · split <;> exact ⟨_, rfl⟩
          · exact ⟨_, rfl⟩
      obtain ⟨c', code', e6, e7⟩ := H_ask57 (F := FG_rd_readAsk d) (tokens := iN (L.length + 1)) (p := iN q) (k := k2) (al := al) (l1 := iN o) (w := k2) (kd := kd) (st := st) (nu := nu) (code := code2) (f := f) (i := i2) (c := c2) r2 r3 r4 r5
      have e5 := H_fail (p := iN q) (st := st) (w := iN 1) (i := i2) r2 r3
      refine Or.inr ⟨f, q, i2, k2, c', code', a2, t2, b2, wd2, wr2, pi2, op2, wh2, tx2, pile2, ?_, r2, r3, r4, e7, rfl, r7⟩
      by_cases c4 : v = iN 0
      · have c4' : (v = iN 0) = True := eq_true c4
        simp only [fR_rd_readAsk, nlit, e27, r1, hv, c4', e5, e6, un2, un6, Option.bind_some, ↓reduceIte]
      · have c4' : (v = iN 0) = False := eq_false c4
        simp only [fR_rd_readAsk, nlit, e27, r1, hv, c4', e6, un6, Option.bind_some, ↓reduceIte]
theorem A_all (hX : PX by_ tp kd st nu n B L al so aF T) : ∀ (r o d : Nat), o + r = 8 → r ≤ d → HA tp kd st nu tx0 n B L al so aF T o (d + 1) (r + 1)
  | 0, o, d, ho, hd => A_of hX (by omega) (fun h => absurd h (by omega))
  | r + 1, o, d, ho, hd => by
    obtain ⟨e, rfl⟩ : ∃ e, d = e + 1 := ⟨d - 1, by omega⟩
    exact A_of hX (by omega) (fun _ => A_all hX r (o + 1) e (by omega) (by omega))
end
