/-! ===== PURE: text: EITHER whole; go NUMBER by NUMBER ===== -/
section
variable {by_ tp kd st nu tx0 : Nat → Int32} {n : Nat} {B : Nat → Nat} {L : List Tk} {al so : Int32} {aF : Nat → Bool} {T : Nat}
theorem J_either (hX : PX by_ tp kd st nu n B L al so aF T) {i : Nat} {cs : List (Nat × Nat)} {code : Nat → Int32} (hcc : CC code cs) (hlen : cs.length ≤ i) {a p t b : Int32} {wd : Int64} (hr : RS B n L i a p t b wd) {tx pile : Nat → Int32} (hmc : MC tx T cs) (htx : TX tx0 tx T) {pi wh : Int32} :
    (∃ i' c code' a' p' t' b' wd' tx' pile', f_rd_readEither (iN (L.length + 1)) (iN 0) mI (iN i) (iN (kI L n i)) al st (iN cs.length) kd nu code = some (iN 0, mI, iN i', iN (kI L n i'), iN (cs ++ c).length, code') ∧ CC code' (cs ++ c) ∧ i < i' ∧ i' ≤ L.length ∧ (cs ++ c).length ≤ i' ∧ f_m_either (iN n) a p t b wd (iN (680 * T)) (iN cs.length) pi (iN 0) wh so tx tp pile = some (iN 0, a', p', t', b', wd', iN (cs ++ c).length, iN 0, iN 0, b01 true, tx', pile') ∧ RS B n L i' a' p' t' b' wd' ∧ MC tx' T (cs ++ c) ∧ TX tx0 tx' T ∧ tyR aF c 0 0 = some (1, 0)) ∨
    (∃ f q i2 k2 c2 code2 a' t' b' wd' wr' pi' op' wh' tx' pile', f_rd_readEither (iN (L.length + 1)) (iN 0) mI (iN i) (iN (kI L n i)) al st (iN cs.length) kd nu code = some (iN f, iN q, iN i2, k2, iN c2, code2) ∧ f ≠ 0 ∧ f < 10 ∧ i2 ≤ 300 ∧ c2 ≤ 300 ∧ f_m_either (iN n) a p t b wd (iN (680 * T)) (iN cs.length) pi (iN 0) wh so tx tp pile = some (iN f, a', iN q, t', b', wd', wr', pi', op', wh', tx', pile') ∧ TX tx0 tx' T) := by
  have hL := hX.len
  have h03 : (iN 0 < iN 300) = True := eq_true (by decide)
  have h10 : (iN 1 = iN 0) = False := eq_false (by decide)
  obtain ⟨zK, hzK⟩ : ∃ y, KF = y + 1 := ⟨KF - 1, by have : 1000 < KF := kf_lt (by decide); omega⟩
  have hbig : 1000 < KF := kf_lt (by decide)
  have hC : itr (un8 (fb_rd_readEither_4 (iN (L.length + 1)) al st kd nu)) KF (1, 0, iN 0, mI, iN i, iN (kI L n i), iN cs.length, code) = itrB (un8 (fb_rd_readEither_4 (iN (L.length + 1)) al st kd nu)) zK (un8 (fb_rd_readEither_4 (iN (L.length + 1)) al st kd nu) (iN 1, iN 0, iN 0, mI, iN i, iN (kI L n i), iN cs.length, code)) := by rw [hzK]; exact itr_B
  have hM : itr (un14 (fb_m_either_6 (iN n) (iN (680 * T)) so tp)) KF (0, 0, 1, a, p, t, b, wd, iN cs.length, pi, iN 0, wh, tx, pile) = itrB (un14 (fb_m_either_6 (iN n) (iN (680 * T)) so tp)) zK (un14 (fb_m_either_6 (iN n) (iN (680 * T)) so tp) (iN 0, iN 0, iN 1, a, p, t, b, wd, iN cs.length, pi, iN 0, wh, tx, pile)) := by rw [hzK]; exact itr_B
  unfold f_rd_readEither f_m_either
  rw [hC, hM]
  rcases J_askT (tx0 := tx0) (pi := pi) (wh := wh) (pile := pile) (x := 0) hX hcc hlen hr hmc htx with ⟨i1, c, code2, a2, p2, t2, b2, wd2, tx2, pile2, r1, r2, r3, r4, r5, r6, r7, r8, r9, r10⟩ | ⟨f, q, i2, k2, c2, code2, a2, t2, b2, wd2, wr2, pi2, op2, wh2, tx2, pile2, r1, r2, r3, r4, r5, r6, r7⟩
  · have stC : un8 (fb_rd_readEither_4 (iN (L.length + 1)) al st kd nu) (iN 1, iN 0, iN 0, mI, iN i, iN (kI L n i), iN cs.length, code) = (itr (un7 (fb_rd_readEither_22 (iN (L.length + 1)) al st kd nu)) KF (iN 0, iN 0, mI, iN i1, iN (kI L n i1), iN (cs ++ c).length, code2)).bind (cI6 kd st nu L al 0) := by
      simp only [un8, fb_rd_readEither_4, nlit, h03, h10, r1, un6, Option.bind_some, ↓reduceIte]; rfl
    have stR : un14 (fb_m_either_6 (iN n) (iN (680 * T)) so tp) (iN 0, iN 0, iN 1, a, p, t, b, wd, iN cs.length, pi, iN 0, wh, tx, pile) = fj_m_either_35_6 (iN n) a2 p2 t2 b2 wd2 (iN (680 * T)) (iN (cs ++ c).length) (iN 0) (iN 0) (b01 true) so tx2 tp pile2 (b01 (decide (0 < 0))) := by
      simp only [un14, fb_m_either_6, nlit, h10, r6, un12, Option.bind_some, ↓reduceIte]; rfl
    rw [stC, stR]
    rcases E_in (tx0 := tx0) hX (cs0 := cs) (L.length - i1) i1 0 0 0 KF zK zK c code2 a2 p2 t2 b2 wd2 tx2 pile2 (Nat.le_refl _) (by omega) (by omega) (by omega) (by omega) (by omega) r2 (by rw [if_neg (by omega)]; omega) r7 r8 r9 (by rw [if_neg (by omega)]; exact r10 0 (by decide)) with ⟨i', c', code', a3, p3, t3, b3, wd3, tx4, pile3, y1, y2, y3, y4, y5, y6, y7⟩ | ⟨f, q, i2, k2, c2, code3, a3, t3, b3, wd3, wr3, pi3, op3, wh3, tx3, pile3, y1, y2, y3, y4, y5, y6, y7⟩
    · refine Or.inl ⟨i', c', code', a3, p3, t3, b3, wd3, tx4, pile3, ?_, y2, by omega, y4, by omega, ?_, y7⟩
      · rw [y1, Option.bind_some]; rfl
      · rw [y6, Option.bind_some]; rfl
    · refine Or.inr ⟨f, q, i2, k2, c2, code3, a3, t3, b3, wd3, wr3, pi3, op3, wh3, tx3, pile3, ?_, y2, y3, y4, y5, ?_, y7⟩
      · rw [y1, Option.bind_some]; rfl
      · rw [y6, Option.bind_some]; rfl
  · have hf0 : (iN f = iN 0) = False := by rw [iN_eq (by omega) (by omega)]; exact eq_false r2
    obtain ⟨zK2, hzK2⟩ : ∃ y, zK = y + 1 := ⟨zK - 1, by omega⟩
    obtain ⟨c3, code3, e7, e8⟩ := H_end70 (L := L) (al := al) (st := st) (kd := kd) (nu := nu) (p := iN q) (k := k2) (code := code2) (i := i2) (c := c2) (I := 0) (z := zK2) r2 r3 (by decide) r5
    have hin := H_inner (L := L) (al := al) (st := st) (kd := kd) (nu := nu) (p := iN q) (k := k2) (code := code2) (i := i2) (c := c2) (J := 0) (z := zK) r2 r3 (by decide)
    rw [← hzK] at hin
    have stC : un8 (fb_rd_readEither_4 (iN (L.length + 1)) al st kd nu) (iN 1, iN 0, iN 0, mI, iN i, iN (kI L n i), iN cs.length, code) = fj_rd_readEither_70_4 (iN (L.length + 1)) (iN f) (iN q) (iN i2) k2 al st (iN c2) kd nu code2 (iN 0) := by
      simp only [un8, fb_rd_readEither_4, nlit, h03, h10, r1, un6, hin, Option.bind_some, ↓reduceIte]
    have stR : un14 (fb_m_either_6 (iN n) (iN (680 * T)) so tp) (iN 0, iN 0, iN 1, a, p, t, b, wd, iN cs.length, pi, iN 0, wh, tx, pile) = some (.inr (.inl (iN f, a2, iN q, t2, b2, wd2, wr2, pi2, op2, wh2, tx2, pile2))) := by
      simp only [un14, fb_m_either_6, nlit, h10, r6, un12, hf0, Option.bind_some, ↓reduceIte]
    refine Or.inr ⟨f, q, i2, k2, c3, code3, a2, t2, b2, wd2, wr2, pi2, op2, wh2, tx2, pile2, ?_, r2, r3, r4, e8, ?_, r7⟩
    · rw [stC, hzK2, e7, Option.bind_some]; rfl
    · rw [stR]; rfl
/-- a number of a go clause -/
theorem J_figure (hX : PX by_ tp kd st nu n B L al so aF T) {i : Nat} {a p t b : Int32} {wd : Int64} (hr : RS B n L i a p t b wd) {tx : Nat → Int32} {X top : Nat} (hX2 : X < 2720) (ht : top ≤ 9999) :
    (∃ v a' p' t' b' wd', v ≤ top ∧ i < L.length ∧ f_rd_readNumber (iN (L.length + 1)) (iN 0) mI (iN i) (iN (kI L n i)) nu kd st (iN top) = some (iN v, iN 0, mI, iN (i + 1), iN (kI L n (i + 1))) ∧ f_m_figure (iN n) a p t b wd tx tp (iN X) (iN top) = some (iN 0, a', p', t', b', wd', upd tx X (iN v)) ∧ RS B n L (i + 1) a' p' t' b' wd') ∨
    (∃ f v, f_rd_readNumber (iN (L.length + 1)) (iN 0) mI (iN i) (iN (kI L n i)) nu kd st (iN top) = some (v, iN f, iN (pI L n i), iN i, iN (kI L n i)) ∧ f ≠ 0 ∧ f < 10 ∧ f_m_figure (iN n) a p t b wd tx tp (iN X) (iN top) = some (iN f, a, iN (pI L n i), t, b, wd, tx)) := by
  have hL := hX.len
  have hi := hr.1
  obtain ⟨k1, k2, k3, k4, k5, k6⟩ := hX.tok hi
  have hMK : MK (kI L n i) (tI L n i).2.1 t b wd := hr.2.2.1
  have hpp : p = iN (pI L n i) := hr.2.1
  have hin : inb (iN i) 301 = True := by rw [iN_inb (by omega)]; exact eq_true (by omega)
  have hix : ix (iN i) = i := iN_ix (by omega)
  by_cases c2 : kI L n i = 2
  · have hil := kI_lt (show kI L n i ≠ 0 by omega)
    have e2 : (iN (kI L n i) = iN 2) = True := eq_true (by rw [c2])
    have t1 : (t = iN 1) = True := hMK.t1.trans (eq_true c2)
    obtain ⟨m, hm1, hm2, hm3, hm4⟩ : ∃ m, b = iN m ∧ m < 2000000 ∧ ((tI L n i).2.1 ≤ 9999 → m = (tI L n i).2.1) ∧ (9999 < (tI L n i).2.1 → 9999 < m) := by
      rcases hMK with ⟨-, -, h3⟩ | ⟨-, h2, -⟩
      · exact h3 c2
      · omega
    by_cases c3 : top < (tI L n i).2.1
    · refine Or.inr ⟨2, iN (tI L n i).2.1, ?_, by decide, by decide, ?_⟩
      · have c3' : (iN top < iN (tI L n i).2.1) = True := by rw [iN_lt (by omega) (by omega)]; exact eq_true c3
        have e3 := C_failT hX hi (w := iN 2)
        have e4 := H_step (tokens := iN (L.length + 1)) (k := iN (kI L n i)) (kd := kd) (f := 2) (i := i) (by decide) (by decide)
        simp only [f_rd_readNumber, fj_rd_readNumber_36, nlit, e2, hin, hix, k3, c3', e3, e4, un2, Option.bind_some, ↓reduceIte]
      · have c4' : (iN top < b) = True := by
          rw [hm1, iN_lt (by omega) (by omega)]
          refine eq_true ?_
          by_cases c9 : (tI L n i).2.1 ≤ 9999
          · rw [hm3 c9]; exact c3
          · have := hm4 (by omega); omega
        rw [← hpp]
        simp only [f_m_figure, nlit, t1, c4', ↓reduceIte]
    · have hmn := hm3 (by omega)
      obtain ⟨a', p', t', b', wd', n1, n2⟩ := M_nextT hX.1 hr hil
      refine Or.inl ⟨(tI L n i).2.1, a', p', t', b', wd', by omega, hil, ?_, ?_, n2⟩
      · have c3' : (iN top < iN (tI L n i).2.1) = False := by rw [iN_lt (by omega) (by omega)]; exact eq_false c3
        have e4 := C_stepT hX hil (k := iN (kI L n i))
        simp only [f_rd_readNumber, fj_rd_readNumber_36, nlit, e2, hin, hix, k3, c3', e4, un2, Option.bind_some, ↓reduceIte]
      · have c4' : (iN top < b) = False := by rw [hm1, hmn, iN_lt (by omega) (by omega)]; exact eq_false c3
        rw [hm1, hmn] at n1 c4' ⊢
        simp (disch := omega) only [f_m_figure, nlit, t1, c4', bnd, iN_inb, iN_ix, ltT, n1, un5, Option.bind_some, ↓reduceIte]
  · have e2 : (iN (kI L n i) = iN 2) = False := by rw [iN_eq (by omega) (by omega)]; exact eq_false c2
    have t1 : (t = iN 1) = False := hMK.t1.trans (eq_false c2)
    refine Or.inr ⟨1, iN (tI L n i).2.1, ?_, by decide, by decide, ?_⟩
    · have e3 := C_failT hX hi (w := iN 1)
      have e4 := H_step (tokens := iN (L.length + 1)) (k := iN (kI L n i)) (kd := kd) (f := 1) (i := i) (by decide) (by decide)
      simp only [f_rd_readNumber, fj_rd_readNumber_36, nlit, e2, hin, hix, k3, e3, e4, un2, Option.bind_some, ↓reduceIte]
    · rw [← hpp]
      simp only [f_m_figure, nlit, t1, ↓reduceIte]
theorem C_expT (hX : PX by_ tp kd st nu n B L al so aF T) {i w : Nat} (hi : i ≤ L.length) (hw0 : w ≠ 0) (hw : w < 100) : f_rd_expect (iN (L.length + 1)) (iN 0) mI (iN i) (iN (kI L n i)) kd st (iN w) = if kI L n i = w then some (iN 0, mI, iN (i + 1), iN (kI L n (i + 1))) else some (iN 1, iN (pI L n i), iN i, iN (kI L n i)) := by
  have k4 := (hX.tok hi).2.2.2.1
  by_cases c : kI L n i = w
  · have hil := kI_lt (show kI L n i ≠ 0 by omega)
    have e : (iN (kI L n i) = iN w) = True := eq_true (by rw [c])
    have e4 := C_stepT hX hil (k := iN (kI L n i))
    rw [if_pos c]
    simp only [f_rd_expect, fj_rd_expect_13, e, e4, un2, Option.bind_some, ↓reduceIte]
  · have e : (iN (kI L n i) = iN w) = False := by rw [iN_eq (by omega) (by omega)]; exact eq_false c
    have e3 := C_failT hX hi (w := iN 1)
    have e4 := H_step (tokens := iN (L.length + 1)) (k := iN (kI L n i)) (kd := kd) (f := 1) (i := i) (by decide) (by decide)
    rw [if_neg c]
    simp only [f_rd_expect, fj_rd_expect_13, nlit, e, e3, e4, un2, Option.bind_some, ↓reduceIte]
end
