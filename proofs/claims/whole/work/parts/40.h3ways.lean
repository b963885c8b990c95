/-! ===== PURE: ways: the reference's walk ===== -/
def MAc (c : Int32) (my pa : Nat → Int32) (ac : Ac) : Prop := c = ac.1 ∧ (∀ n, n < 8 → my n = ac.2.1 n) ∧ ∀ p, p < 8 → pa (9 * p + 8) = ac.2.2 p 0 ∧ ∀ n, n < 8 → pa (9 * p + n) = ac.2.2 p (n + 1)
section
variable {x : Cx} {a texts : Nat → Int32} {b : Nat} {book : List (Option (Bool × Nat × Nat))}
theorem M_count {c : Int32} {my pa d : Nat → Int32} {t : Tn} {ac : Ac} (hx : CxOK x) (h0 : a 0 = iN x.1) (h1 : a 1 = iN x.2.1) (hac : MAc c my pa ac) (hd : MT d b t) (hb : b ≤ 525) (ht : TW t) : ∃ c' my' pa', f_m_count (iN b) c a d my pa = some (c', my', pa') ∧ MAc c' my' pa' (tellS x t ac) := by
  have hx1 := hx.1
  have hx2 := hx.2.1
  obtain ⟨e, e1, e2⟩ := itr_itF (f := un3 (fb_m_count_12 (iN b) a d)) (fun k s ac' => ∃ my pa, s = (iN k, my, pa) ∧ MAc ac'.1 my pa ac') (fun e ac' => MAc ac'.1 e.1 e.2 ac') (tP t) (N := x.1) (fun k s ac' hk hR => by
    obtain ⟨my, pa, rfl, q1, q2, q3⟩ := hR
    have hk8 : k < 8 := by omega
    have hn := hd.nameAt hb hk8
    cases q : t.1 k with
    | none =>
      rw [q, enO_none] at hn
      refine ⟨(iN (k + 1), my, upd pa (9 * k + 8) (pa (9 * k + 8) + iN 1)), ?_, my, _, rfl, rfl, fun n hn9 => ?_, fun p hp => ⟨?_, fun n hn9 => ?_⟩⟩
      · simp (disch := omega) only [un3, fb_m_count_12, fj_m_count_46_12, h0, hn, nlit, onl, negone, iN_add, iN_mul, iN_sub, iN_pm, iN_addneg, iN_ix, iN_inb, iN_lt, iN_eq, iN_nneg, iN_nm, nm_iN, mI_neg, mI_nnn, ne_eq, not_true_eq_false, not_false_eq_true, true_and, and_true, bnd, Option.bind_some, ↓reduceIte, ltT, ltF, eqT, eqF, leT, leF]
      · show _ = (match t.1 k with
          | none => ac'.2.1
          | some n => upd ac'.2.1 n (ac'.2.1 n ||| bitI k)) n
        rw [q]; exact q2 n hn9
      · show _ = if p = k ∧ 0 = nmX (t.1 k) then _ else _
        rw [q]
        by_cases hp2 : p = k
        · subst hp2; rw [upd_same, if_pos ⟨rfl, rfl⟩, (q3 p hp).1]
        · rw [upd_ne (by omega), if_neg (fun z => hp2 z.1)]; exact (q3 p hp).1
      · show _ = if p = k ∧ n + 1 = nmX (t.1 k) then _ else _
        rw [q, upd_ne (by omega), if_neg (fun z => absurd (show n + 1 = 0 from z.2) (by omega))]
        exact (q3 p hp).2 n hn9
    | some m =>
      have hm8 := (ht.1 k m q).2
      rw [q, enO_some] at hn
      refine ⟨(iN (k + 1), upd my m (my m ||| bitI k), upd pa (9 * k + m) (pa (9 * k + m) + iN 1)), ?_, _, _, rfl, rfl, fun n hn9 => ?_, fun p hp => ⟨?_, fun n hn9 => ?_⟩⟩
      · simp (disch := omega) only [un3, fb_m_count_12, fj_m_count_46_12, h0, hn, nlit, onl, negone, iN_add, iN_mul, iN_sub, iN_pm, iN_addneg, iN_ix, iN_inb, iN_lt, iN_eq, iN_nneg, iN_nm, nm_iN, mI_neg, mI_nnn, ne_eq, not_true_eq_false, not_false_eq_true, true_and, and_true, bnd, Option.bind_some, ↓reduceIte, ltT, ltF, eqT, eqF, leT, leF]; rfl
      · show _ = (match t.1 k with
          | none => ac'.2.1
          | some n => upd ac'.2.1 n (ac'.2.1 n ||| bitI k)) n
        rw [q]
        show _ = upd ac'.2.1 m (ac'.2.1 m ||| bitI k) n
        by_cases z : n = m
        · subst z; rw [upd_same, upd_same, q2 n hn9]
        · rw [upd_ne z, upd_ne z]; exact q2 n hn9
      · show _ = if p = k ∧ 0 = nmX (t.1 k) then _ else _
        rw [q, upd_ne (by omega), if_neg (fun z => absurd (show 0 = m + 1 from z.2) (by omega))]
        exact (q3 p hp).1
      · show _ = if p = k ∧ n + 1 = nmX (t.1 k) then _ else _
        rw [q]
        by_cases hp2 : p = k
        · subst hp2
          by_cases hj2 : n = m
          · subst hj2; rw [upd_same, if_pos ⟨rfl, rfl⟩, (q3 p hp).2 n hn9]
          · rw [upd_ne (by omega), if_neg (fun z => hj2 (by have : n + 1 = m + 1 := z.2; omega))]; exact (q3 p hp).2 n hn9
        · rw [upd_ne (by omega), if_neg (fun z => hp2 z.1)]; exact (q3 p hp).2 n hn9) (fun s ac' hR => by
    obtain ⟨my, pa, rfl, h⟩ := hR
    refine ⟨(my, pa), ?_, h⟩
    simp (disch := omega) only [un3, fb_m_count_12, h0, nlit, onl, negone, iN_add, iN_mul, iN_sub, iN_pm, iN_addneg, iN_ix, iN_inb, iN_lt, iN_eq, iN_nneg, iN_nm, nm_iN, mI_neg, mI_nnn, ne_eq, not_true_eq_false, not_false_eq_true, true_and, and_true, bnd, Option.bind_some, ↓reduceIte, ltT, ltF, eqT, eqF, leT, leF]) (s := (iN 0, my, pa)) (a := ac) (n := KF) ⟨my, pa, rfl, rfl, hac.2.1, hac.2.2⟩ (kf_lt (by omega))
  obtain ⟨my1, pa1⟩ := e
  obtain ⟨e', e3, e4⟩ := itr_itF (f := un2 (fb_m_count_76 (iN b) a d)) (fun k s (P : Nat → Int32) => ∃ pl, s = (iN k, pl) ∧ ∀ n, n < 8 → pl n = P n) (fun e P => ∀ n, n < 8 → e n = P n) (fun g => itF (tH (t.2 g)) (t.2 g).length) (N := x.2.1) (fun g s P hg hR => by
    obtain ⟨pl, rfl, h2⟩ := hR
    have hg3 : g < 3 := by omega
    have hl := ht.len g
    obtain ⟨e, f1, f2⟩ := itr_itF (f := un2 (fb_m_count_88 (iN b) d (iN g))) (fun k s (P : Nat → Int32) => ∃ pl, s = (iN k, pl) ∧ ∀ n, n < 8 → pl n = P n) (fun e P => ∀ n, n < 8 → e n = P n) (tH (t.2 g)) (N := (t.2 g).length) (fun k s P hk hR => by
      obtain ⟨pl, rfl, h2⟩ := hR
      have hkk : (t.2 g)[k]? = some ((t.2 g).getD k 0) := by rw [List.getD_eq_getElem?_getD, List.getElem?_eq_getElem hk]; rfl
      have hm8 := (ht.2.1 g _ (List.mem_of_getElem? hkk)).2
      refine ⟨(iN (k + 1), upd pl ((t.2 g).getD k 0) (pl ((t.2 g).getD k 0) ||| iN 256)), ?_, _, rfl, fun n hn => ?_⟩
      · simp (disch := omega) only [un2, fb_m_count_88, hd.hung hb hg3, hd.heapAt ht hb hg3 hkk, nlit, onl, negone, iN_add, iN_mul, iN_sub, iN_pm, iN_addneg, iN_ix, iN_inb, iN_lt, iN_eq, iN_nneg, iN_nm, nm_iN, mI_neg, mI_nnn, ne_eq, not_true_eq_false, not_false_eq_true, true_and, and_true, bnd, Option.bind_some, ↓reduceIte, ltT, ltF, eqT, eqF, leT, leF]
      · show _ = upd P ((t.2 g).getD k 0) (P ((t.2 g).getD k 0) ||| iN 256) n
        by_cases z : n = (t.2 g).getD k 0
        · rw [upd_eq z, upd_eq z, h2 _ hm8]
        · rw [upd_ne z, upd_ne z]; exact h2 n hn) (fun s P hR => by
      obtain ⟨pl, rfl, h2⟩ := hR
      refine ⟨pl, ?_, h2⟩
      simp (disch := omega) only [un2, fb_m_count_88, hd.hung hb hg3, nlit, onl, negone, iN_add, iN_mul, iN_sub, iN_pm, iN_addneg, iN_ix, iN_inb, iN_lt, iN_eq, iN_nneg, iN_nm, nm_iN, mI_neg, mI_nnn, ne_eq, not_true_eq_false, not_false_eq_true, true_and, and_true, bnd, Option.bind_some, ↓reduceIte, ltT, ltF, eqT, eqF, leT, leF]) (s := (iN 0, pl)) (a := P) (n := KF) ⟨pl, rfl, h2⟩ (kf_lt (by omega))
    refine ⟨(iN (g + 1), e), ?_, e, rfl, f2⟩
    simp (disch := omega) only [un2, fb_m_count_76, h1, f1, nlit, onl, negone, iN_add, iN_mul, iN_sub, iN_pm, iN_addneg, iN_ix, iN_inb, iN_lt, iN_eq, iN_nneg, iN_nm, nm_iN, mI_neg, mI_nnn, ne_eq, not_true_eq_false, not_false_eq_true, true_and, and_true, bnd, Option.bind_some, ↓reduceIte, ltT, ltF, eqT, eqF, leT, leF]) (fun s P hR => by
    obtain ⟨pl, rfl, h2⟩ := hR
    refine ⟨pl, ?_, h2⟩
    simp (disch := omega) only [un2, fb_m_count_76, h1, nlit, onl, negone, iN_add, iN_mul, iN_sub, iN_pm, iN_addneg, iN_ix, iN_inb, iN_lt, iN_eq, iN_nneg, iN_nm, nm_iN, mI_neg, mI_nnn, ne_eq, not_true_eq_false, not_false_eq_true, true_and, and_true, bnd, Option.bind_some, ↓reduceIte, ltT, ltF, eqT, eqF, leT, leF]) (s := (iN 0, my1)) (a := (itF (tP t) x.1 ac).2.1) (n := KF) ⟨my1, rfl, e2.2.1⟩ (kf_lt (by omega))
  have hc1 : ∀ k (a : Ac), (itF (tP t) k a).1 = a.1 := by
    intro k a
    induction k with
    | zero => rfl
    | succ k ih => exact ih
  refine ⟨c + iN 1, e', pa1, ?_, ?_, e4, e2.2.2⟩
  · simp only [f_m_count, nlit, e1, un2, e3, Option.bind_some]
  · show c + iN 1 = (itF (tP t) x.1 ac).1 + iN 1
    rw [hc1, hac.1]
theorem b01T : b01 true = iN 1 := rfl
theorem b01F : b01 false = iN 0 := rfl
def aftW (t : Tn) (o : Option Tn) : Tn := match o with
  | none => t
  | some z => z
theorem M_soOut {d named truth : Nat → Int32} {values : Nat → Int64} {t : Tn} (hx : CxOK x) (hm : MX a texts x) (hk1 : ∀ k, book[k]? = some none → a (125 + 3 * k + 1) = mI) (hk2 : ∀ (k : Nat) (q : Bool × Nat × Nat), book[k]? = some (some q) → a (125 + 3 * k) = b01 q.1 ∧ a (125 + 3 * k + 1) = iN q.2.1 ∧ a (125 + 3 * k + 2) = iN q.2.2) (hlen : book.length ≤ 6) (hq8 : ∀ q ∈ book, ∀ z, q = some z → z.2.1 < 8 ∧ z.2.2 < x.2.1) {k w g i : Nat} {q : Option (Bool × Nat × Nat)} (hk : book[k]? = some q) (hd : MT d b t) (hb : b ≤ 525) (ht : TW t) (hw : w < 8) (hg : g < 3) (hi : i < 8) (hcond : w < x.1 ∧ g < x.2.1 ∧ gOK q g = true) {m : Nat} (hn : t.1 w = some m) : ∃ d' n' v' t1, fj_m_isSo_64 (iN b) a d texts named values truth (iN w) (iN g) (iN i) (iN (125 + 3 * k)) (b01 q.isNone) = some (b01 (nxW x q t w g i).isSome, d', n', v', t1) ∧ MT d' b (aftW t (nxW x q t w g i)) ∧ ∀ j, j < b ∨ b + 35 ≤ j → d' j = d j := by
  have hkl := (List.getElem?_eq_some_iff.mp hk).1
  have hx1 := hx.1
  have hx2 := hx.2.1
  have hL := M_isLot (g := g) hm hg
  have hH := hd.hung hb hg
  have hl8 := ht.len g
  have hN := hd.nameAt hb hw
  have e10 : ¬ iN 1 = iN 0 := by decide
  have e01 : ¬ iN 0 = iN 1 := by decide
  obtain ⟨n1, v1, t1, e1⟩ := M_can (named := named) (values := values) (truth := truth) hx hm hd hb ht hw hg
  have no : ∀ {n' v' t1'}, nxW x q t w g i = none → fj_m_isSo_64 (iN b) a d texts named values truth (iN w) (iN g) (iN i) (iN (125 + 3 * k)) (b01 q.isNone) = some (iN 0, d, n', v', t1') → ∃ d' n' v' t1, fj_m_isSo_64 (iN b) a d texts named values truth (iN w) (iN g) (iN i) (iN (125 + 3 * k)) (b01 q.isNone) = some (b01 (nxW x q t w g i).isSome, d', n', v', t1) ∧ MT d' b (aftW t (nxW x q t w g i)) ∧ ∀ j, j < b ∨ b + 35 ≤ j → d' j = d j := by
    intro n' v' t1' h1 h2
    rw [h1]
    exact ⟨d, n', v', t1', h2, hd, fun _ _ => rfl⟩
  have hm8 := (ht.1 w m hn).2
  rw [hn, enO_some] at hN
  have hnx : nxW x q t w g i = if i = 0 ∧ iOK q false = true ∧ nOK q m = true ∧ canS x t w g = true then some (outT t w g m) else none := by
    unfold nxW; rw [if_pos hcond, hn]
  by_cases hi0 : ¬ i = 0
  · refine no (n' := named) (v' := values) (t1' := truth) (by rw [hnx, if_neg (fun z => hi0 z.1)]) ?_
    simp (disch := omega) only [fj_m_isSo_64, fj_m_isSo_77, fj_m_isSo_97, hN, nlit, onl, negone, iN_add, iN_mul, iN_sub, iN_pm, iN_addneg, iN_ix, iN_inb, iN_lt, iN_eq, iN_nneg, iN_nm, nm_iN, mI_neg, mI_nnn, ne_eq, not_true_eq_false, not_false_eq_true, true_and, and_true, bnd, Option.bind_some, ↓reduceIte, ltT, ltF, eqT, eqF, leT, leF]
  replace hi0 := Classical.not_not.mp hi0
  have h64 : fj_m_isSo_64 (iN b) a d texts named values truth (iN w) (iN g) (iN i) (iN (125 + 3 * k)) (b01 q.isNone) = fj_m_isSo_124 (iN b) a d texts named values truth (iN w) (iN g) (iN i) (iN (125 + 3 * k)) (b01 q.isNone) (iN 0) (iN 0) := by
    simp (disch := omega) only [fj_m_isSo_64, fj_m_isSo_77, fj_m_isSo_97, hN, nlit, onl, negone, iN_add, iN_mul, iN_sub, iN_pm, iN_addneg, iN_ix, iN_inb, iN_lt, iN_eq, iN_nneg, iN_nm, nm_iN, mI_neg, mI_nnn, ne_eq, not_true_eq_false, not_false_eq_true, true_and, and_true, bnd, Option.bind_some, ↓reduceIte, ltT, ltF, eqT, eqF, leT, leF]
  rw [h64] at no ⊢
  cases hio : (iOK q false && nOK q m) with
  | false =>
    refine no (n' := named) (v' := values) (t1' := truth) (by rw [hnx, if_neg (fun z => by rw [z.2.1, z.2.2.1] at hio; cases hio)]) ?_
    cases q with
    | none => cases hio
    | some z =>
      obtain ⟨c0, c1, -⟩ := hk2 k z hk
      have hz := (hq8 _ (List.mem_of_getElem? hk) z rfl).1
      cases hz1 : z.1 with
      | true =>
        rw [hz1] at c0
        simp (disch := omega) only [fj_m_isSo_124, fj_m_isSo_147, Option.isNone_some, bF0, bT1, c0, nlit, onl, negone, iN_add, iN_mul, iN_sub, iN_pm, iN_addneg, iN_ix, iN_inb, iN_lt, iN_eq, iN_nneg, iN_nm, nm_iN, mI_neg, mI_nnn, ne_eq, not_true_eq_false, not_false_eq_true, true_and, and_true, bnd, Option.bind_some, ↓reduceIte, ltT, ltF, eqT, eqF, leT, leF]
      | false =>
        rw [hz1] at c0
        have hne : ¬ m = z.2.1 := fun e => by
          have : ((z.1 == false) && (z.2.1 == m)) = false := hio
          rw [hz1, e, beq_self_eq_true, beq_self_eq_true] at this; cases this
        simp (disch := omega) only [fj_m_isSo_124, fj_m_isSo_147, Option.isNone_some, bF0, bF1, c0, c1, hN, nlit, onl, negone, iN_add, iN_mul, iN_sub, iN_pm, iN_addneg, iN_ix, iN_inb, iN_lt, iN_eq, iN_nneg, iN_nm, nm_iN, mI_neg, mI_nnn, ne_eq, not_true_eq_false, not_false_eq_true, true_and, and_true, bnd, Option.bind_some, ↓reduceIte, ltT, ltF, eqT, eqF, leT, leF]
  | true =>
    have hio' := Bool.and_eq_true _ _ ▸ hio
    have h124 : fj_m_isSo_124 (iN b) a d texts named values truth (iN w) (iN g) (iN i) (iN (125 + 3 * k)) (b01 q.isNone) (iN 0) (iN 0) = fj_m_isSo_172 (iN b) a d texts named values truth (iN w) (iN g) (iN i) (iN (125 + 3 * k)) (b01 q.isNone) (iN 0) (iN 0) := by
      cases q with
      | none => simp only [fj_m_isSo_124, Option.isNone_none, nlit, bT0, ↓reduceIte]
      | some z =>
        obtain ⟨c0, c1, -⟩ := hk2 k z hk
        have hz := (hq8 _ (List.mem_of_getElem? hk) z rfl).1
        have e1' : z.1 = false := beq_iff_eq.mp (show (z.1 == false) = true from hio'.1)
        have e2' : z.2.1 = m := beq_iff_eq.mp (show (z.2.1 == m) = true from hio'.2)
        rw [e1'] at c0
        simp (disch := omega) only [fj_m_isSo_124, fj_m_isSo_147, Option.isNone_some, bF0, bF1, c0, c1, hN, nlit, onl, negone, iN_add, iN_mul, iN_sub, iN_pm, iN_addneg, iN_ix, iN_inb, iN_lt, iN_eq, iN_nneg, iN_nm, nm_iN, mI_neg, mI_nnn, ne_eq, not_true_eq_false, not_false_eq_true, true_and, and_true, bnd, Option.bind_some, ↓reduceIte, ltT, ltF, eqT, eqF, leT, leF]
    rw [h124] at no ⊢
    cases hc : canS x t w g with
    | false =>
      rw [hc] at e1
      refine no (n' := n1) (v' := v1) (t1' := t1) (by rw [hnx, if_neg (fun z => by rw [hc] at z; exact absurd z.2.2.2 (by decide))]) ?_
      simp only [fj_m_isSo_172, e1, un4, nlit, bF0, Option.bind_some, ↓reduceIte]
    | true =>
      rw [hc] at e1
      obtain ⟨d', l1, l2, l3⟩ := hd.leave ht hb hg hn
      rw [hnx, if_pos ⟨hi0, hio'.1, hio'.2, hc⟩]
      refine ⟨d', n1, v1, t1, ?_, l2, l3⟩
      cases q with
      | none => simp only [fj_m_isSo_172, fj_m_isSo_208, fj_m_isSo_241, e1, un4, nlit, bT0, Option.isNone_none, l1, Option.bind_some, ↓reduceIte]; rfl
      | some z => simp only [fj_m_isSo_172, fj_m_isSo_208, fj_m_isSo_241, e1, un4, nlit, bT0, bF0, Option.isNone_some, l1, Option.bind_some, ↓reduceIte]; rfl
theorem so64 {bb w g i l5 l6 r : Int32} {bl : Bool} {d named truth : Nat → Int32} {values : Nat → Int64} (hN : f_m_nameAt bb d w = some r) (hr : (r < iN 0) = True) (hL : f_m_isLot a g = some (b01 bl)) : fj_m_isSo_64 bb a d texts named values truth w g i l5 l6 = fj_m_isSo_97 bb a d texts named values truth w g i l5 l6 (iN 1) (b01 bl) := by
  have e10 : (iN 1 = iN 0) = False := eq_false (by decide)
  have hr' : r < 0 := of_eq_true hr
  unfold fj_m_isSo_64
  rw [hN, Option.bind_some, if_pos hr']
  unfold fj_m_isSo_77
  rw [if_neg (show ¬ (1 : Int32) = 0 by decide), hL, Option.bind_some]
  cases bl with
  | true => rw [if_neg (show ¬ b01 true = 0 by decide)]; rfl
  | false => rw [if_pos (show b01 false = 0 by decide)]; rfl
theorem M_so172 {d named truth : Nat → Int32} {values : Nat → Int64} {t : Tn} (hx : CxOK x) (hm : MX a texts x) (hk1 : ∀ k, book[k]? = some none → a (125 + 3 * k + 1) = mI) (hk2 : ∀ (k : Nat) (q : Bool × Nat × Nat), book[k]? = some (some q) → a (125 + 3 * k) = b01 q.1 ∧ a (125 + 3 * k + 1) = iN q.2.1 ∧ a (125 + 3 * k + 2) = iN q.2.2) (hlen : book.length ≤ 6) (hq8 : ∀ q ∈ book, ∀ z, q = some z → z.2.1 < 8 ∧ z.2.2 < x.2.1) {k w g i : Nat} {q : Option (Bool × Nat × Nat)} (hk : book[k]? = some q) (hd : MT d b t) (hb : b ≤ 525) (ht : TW t) (hw : w < 8) (hg : g < 3) (hi : i < 8) (hcond : w < x.1 ∧ g < x.2.1 ∧ gOK q g = true) (hn : t.1 w = none) (hii : if x.2.2.2.1 g = true then i < (t.2 g).length else i = 0) (hio : iOK q true = true) : ∃ d' n' v' t1, fj_m_isSo_172 (iN b) a d texts named values truth (iN w) (iN g) (iN i) (iN (125 + 3 * k)) (b01 q.isNone) (iN 1) (b01 (x.2.2.2.1 g)) = some (b01 (nxW x q t w g i).isSome, d', n', v', t1) ∧ MT d' b (aftW t (nxW x q t w g i)) ∧ ∀ j, j < b ∨ b + 35 ≤ j → d' j = d j := by
  have hkl := (List.getElem?_eq_some_iff.mp hk).1
  have hx1 := hx.1
  have hx2 := hx.2.1
  have hL := M_isLot (g := g) hm hg
  have hH := hd.hung hb hg
  have hl8 := ht.len g
  have hN := hd.nameAt hb hw
  have e10 : ¬ iN 1 = iN 0 := by decide
  have e01 : ¬ iN 0 = iN 1 := by decide
  obtain ⟨n1, v1, t1, e1⟩ := M_can (named := named) (values := values) (truth := truth) hx hm hd hb ht hw hg
  have no : ∀ {n' v' t1'}, nxW x q t w g i = none → fj_m_isSo_172 (iN b) a d texts named values truth (iN w) (iN g) (iN i) (iN (125 + 3 * k)) (b01 q.isNone) (iN 1) (b01 (x.2.2.2.1 g)) = some (iN 0, d, n', v', t1') → ∃ d' n' v' t1, fj_m_isSo_172 (iN b) a d texts named values truth (iN w) (iN g) (iN i) (iN (125 + 3 * k)) (b01 q.isNone) (iN 1) (b01 (x.2.2.2.1 g)) = some (b01 (nxW x q t w g i).isSome, d', n', v', t1) ∧ MT d' b (aftW t (nxW x q t w g i)) ∧ ∀ j, j < b ∨ b + 35 ≤ j → d' j = d j := by
    intro n' v' t1' h1 h2
    rw [h1]
    exact ⟨d, n', v', t1', h2, hd, fun _ _ => rfl⟩
  rw [hn, enO_none] at hN
  have hnx : nxW x q t w g i = if x.2.2.2.1 g = true then (if i < (t.2 g).length ∧ iOK q true = true ∧ canS x t w g = true ∧ nOK q ((t.2 g).getD i 0) = true then some (inT t w g i ((t.2 g).getD i 0)) else none) else (if i = 0 ∧ iOK q true = true ∧ canS x t w g = true ∧ nOK q ((t.2 g).getD (pickS x t w g) 0) = true then some (inT t w g (pickS x t w g) ((t.2 g).getD (pickS x t w g) 0)) else none) := by
    unfold nxW; rw [if_pos hcond, hn]
  cases hc : canS x t w g with
  | false =>
    rw [hc] at e1
    refine no (n' := n1) (v' := v1) (t1' := t1) ?_ ?_
    · rw [hnx]
      split
      · rw [if_neg (fun z => by rw [hc] at z; exact absurd z.2.2.1 (by decide))]
      · rw [if_neg (fun z => by rw [hc] at z; exact absurd z.2.2.1 (by decide))]
    · simp only [fj_m_isSo_172, e1, un4, nlit, bF0, Option.bind_some, ↓reduceIte]
  | true =>
    rw [hc] at e1
    have hne := can_ne hc hn
    -- the place, and what was reckoned on the way
    have place : ∃ p n2 v2 t2, fj_m_isSo_172 (iN b) a d texts named values truth (iN w) (iN g) (iN i) (iN (125 + 3 * k)) (b01 q.isNone) (iN 1) (b01 (x.2.2.2.1 g)) = fj_m_isSo_208 (iN b) a d n2 v2 t2 (iN w) (iN g) (iN (125 + 3 * k)) (b01 q.isNone) (iN 1) (iN p) ∧ (t.2 g)[p]? = some ((t.2 g).getD p 0) ∧ nxW x q t w g i = if nOK q ((t.2 g).getD p 0) = true then some (inT t w g p ((t.2 g).getD p 0)) else none := by
      cases hlot : x.2.2.2.1 g with
      | true =>
        rw [hlot, if_pos rfl] at hii
        refine ⟨i, n1, v1, t1, ?_, ?_, ?_⟩
        · simp only [fj_m_isSo_172, e1, un4, nlit, bT0, e10, Option.bind_some, ↓reduceIte]
        · rw [List.getD_eq_getElem?_getD, List.getElem?_eq_getElem hii]; rfl
        · rw [hnx, if_pos hlot]
          by_cases h : nOK q ((t.2 g).getD i 0) = true
          · rw [if_pos ⟨hii, hio, hc, h⟩, if_pos h]
          · rw [if_neg (fun z => h z.2.2.2), if_neg h]
      | false =>
        rw [hlot, if_neg (by decide)] at hii
        obtain ⟨n2, v2, t2, p1⟩ := M_pick (named := n1) (values := v1) (truth := t1) hx hm hd hb ht hw hg hne
        refine ⟨pickS x t w g, n2, v2, t2, ?_, pick_at hne, ?_⟩
        · simp only [fj_m_isSo_172, e1, un4, nlit, bT0, bF0, e10, p1, Option.bind_some, ↓reduceIte]
        · rw [hnx, if_neg (by rw [hlot]; decide)]
          by_cases h : nOK q ((t.2 g).getD (pickS x t w g) 0) = true
          · rw [if_pos ⟨hii, hio, hc, h⟩, if_pos h]
          · rw [if_neg (fun z => h z.2.2.2), if_neg h]
    obtain ⟨p, n2, v2, t2, h172, hp, hnx2⟩ := place
    rw [h172] at no ⊢
    have hp8 := (ht.2.1 g _ (List.mem_of_getElem? hp)).2
    obtain ⟨d', l1, l2, l3⟩ := hd.come ht hb hg hw hn hp
    have hha := hd.heapAt ht hb hg hp
    cases hno : nOK q ((t.2 g).getD p 0) with
    | false =>
      refine no (n' := n2) (v' := v2) (t1' := t2) (by rw [hnx2, if_neg (by rw [hno]; decide)]) ?_
      cases q with
      | none => cases hno
      | some z =>
        obtain ⟨-, c1, -⟩ := hk2 k z hk
        have hz := (hq8 _ (List.mem_of_getElem? hk) z rfl).1
        have hne2 : ¬ (t.2 g).getD p 0 = z.2.1 := fun e => by
          have : (z.2.1 == (t.2 g).getD p 0) = false := hno
          rw [e, beq_self_eq_true] at this; cases this
        simp (disch := omega) only [fj_m_isSo_208, Option.isNone_some, bF0, e10, hha, c1, nlit, onl, negone, iN_add, iN_mul, iN_sub, iN_pm, iN_addneg, iN_ix, iN_inb, iN_lt, iN_eq, iN_nneg, iN_nm, nm_iN, mI_neg, mI_nnn, ne_eq, not_true_eq_false, not_false_eq_true, true_and, and_true, bnd, Option.bind_some, ↓reduceIte, ltT, ltF, eqT, eqF, leT, leF]
    | true =>
      rw [hnx2, if_pos hno]
      refine ⟨d', n2, v2, t2, ?_, l2, l3⟩
      cases q with
      | none => simp only [fj_m_isSo_208, fj_m_isSo_241, Option.isNone_none, nlit, bT0, e10, l1, Option.bind_some, ↓reduceIte]; rfl
      | some z =>
        obtain ⟨-, c1, -⟩ := hk2 k z hk
        have hz := (hq8 _ (List.mem_of_getElem? hk) z rfl).1
        have he : z.2.1 = (t.2 g).getD p 0 := beq_iff_eq.mp (show (z.2.1 == (t.2 g).getD p 0) = true from hno)
        rw [he] at c1
        simp (disch := omega) only [fj_m_isSo_208, fj_m_isSo_241, Option.isNone_some, bF0, e10, hha, c1, l1, nlit, onl, negone, iN_add, iN_mul, iN_sub, iN_pm, iN_addneg, iN_ix, iN_inb, iN_lt, iN_eq, iN_nneg, iN_nm, nm_iN, mI_neg, mI_nnn, ne_eq, not_true_eq_false, not_false_eq_true, true_and, and_true, bnd, Option.bind_some, ↓reduceIte, ltT, ltF, eqT, eqF, leT, leF]; rfl
theorem M_soIn {d named truth : Nat → Int32} {values : Nat → Int64} {t : Tn} (hx : CxOK x) (hm : MX a texts x) (hk1 : ∀ k, book[k]? = some none → a (125 + 3 * k + 1) = mI) (hk2 : ∀ (k : Nat) (q : Bool × Nat × Nat), book[k]? = some (some q) → a (125 + 3 * k) = b01 q.1 ∧ a (125 + 3 * k + 1) = iN q.2.1 ∧ a (125 + 3 * k + 2) = iN q.2.2) (hlen : book.length ≤ 6) (hq8 : ∀ q ∈ book, ∀ z, q = some z → z.2.1 < 8 ∧ z.2.2 < x.2.1) {k w g i : Nat} {q : Option (Bool × Nat × Nat)} (hk : book[k]? = some q) (hd : MT d b t) (hb : b ≤ 525) (ht : TW t) (hw : w < 8) (hg : g < 3) (hi : i < 8) (hcond : w < x.1 ∧ g < x.2.1 ∧ gOK q g = true) (hn : t.1 w = none) : ∃ d' n' v' t1, fj_m_isSo_64 (iN b) a d texts named values truth (iN w) (iN g) (iN i) (iN (125 + 3 * k)) (b01 q.isNone) = some (b01 (nxW x q t w g i).isSome, d', n', v', t1) ∧ MT d' b (aftW t (nxW x q t w g i)) ∧ ∀ j, j < b ∨ b + 35 ≤ j → d' j = d j := by
  have hkl := (List.getElem?_eq_some_iff.mp hk).1
  have hx1 := hx.1
  have hx2 := hx.2.1
  have hL := M_isLot (g := g) hm hg
  have hH := hd.hung hb hg
  have hl8 := ht.len g
  have hN := hd.nameAt hb hw
  have e10 : ¬ iN 1 = iN 0 := by decide
  have e01 : ¬ iN 0 = iN 1 := by decide
  obtain ⟨n1, v1, t1, e1⟩ := M_can (named := named) (values := values) (truth := truth) hx hm hd hb ht hw hg
  have no : ∀ {n' v' t1'}, nxW x q t w g i = none → fj_m_isSo_64 (iN b) a d texts named values truth (iN w) (iN g) (iN i) (iN (125 + 3 * k)) (b01 q.isNone) = some (iN 0, d, n', v', t1') → ∃ d' n' v' t1, fj_m_isSo_64 (iN b) a d texts named values truth (iN w) (iN g) (iN i) (iN (125 + 3 * k)) (b01 q.isNone) = some (b01 (nxW x q t w g i).isSome, d', n', v', t1) ∧ MT d' b (aftW t (nxW x q t w g i)) ∧ ∀ j, j < b ∨ b + 35 ≤ j → d' j = d j := by
    intro n' v' t1' h1 h2
    rw [h1]
    exact ⟨d, n', v', t1', h2, hd, fun _ _ => rfl⟩
  rw [hn, enO_none] at hN
  have hnx : nxW x q t w g i = if x.2.2.2.1 g = true then (if i < (t.2 g).length ∧ iOK q true = true ∧ canS x t w g = true ∧ nOK q ((t.2 g).getD i 0) = true then some (inT t w g i ((t.2 g).getD i 0)) else none) else (if i = 0 ∧ iOK q true = true ∧ canS x t w g = true ∧ nOK q ((t.2 g).getD (pickS x t w g) 0) = true then some (inT t w g (pickS x t w g) ((t.2 g).getD (pickS x t w g) 0)) else none) := by
    unfold nxW; rw [if_pos hcond, hn]
  have h64 : fj_m_isSo_64 (iN b) a d texts named values truth (iN w) (iN g) (iN i) (iN (125 + 3 * k)) (b01 q.isNone) = fj_m_isSo_97 (iN b) a d texts named values truth (iN w) (iN g) (iN i) (iN (125 + 3 * k)) (b01 q.isNone) (iN 1) (b01 (x.2.2.2.1 g)) := so64 hN mI_neg hL
  rw [h64] at no ⊢
  -- the number of the try
  by_cases hii : ¬ (if x.2.2.2.1 g = true then i < (t.2 g).length else i = 0)
  · refine no (n' := named) (v' := values) (t1' := truth) ?_ ?_
    · rw [hnx]
      cases hlot : x.2.2.2.1 g with
      | true => rw [hlot] at hii; rw [if_pos rfl] at hii ⊢; rw [if_neg (fun z => hii z.1)]
      | false => rw [hlot] at hii; rw [if_neg (by decide)] at hii ⊢; rw [if_neg (fun z => hii z.1)]
    · cases hlot : x.2.2.2.1 g with
      | true =>
        rw [hlot, if_pos rfl] at hii
        simp (disch := omega) only [fj_m_isSo_97, bT0, hH, nlit, onl, negone, iN_add, iN_mul, iN_sub, iN_pm, iN_addneg, iN_ix, iN_inb, iN_lt, iN_eq, iN_nneg, iN_nm, nm_iN, mI_neg, mI_nnn, ne_eq, not_true_eq_false, not_false_eq_true, true_and, and_true, bnd, Option.bind_some, ↓reduceIte, ltT, ltF, eqT, eqF, leT, leF]
      | false =>
        rw [hlot, if_neg (by decide)] at hii
        simp (disch := omega) only [fj_m_isSo_97, bF0, nlit, onl, negone, iN_add, iN_mul, iN_sub, iN_pm, iN_addneg, iN_ix, iN_inb, iN_lt, iN_eq, iN_nneg, iN_nm, nm_iN, mI_neg, mI_nnn, ne_eq, not_true_eq_false, not_false_eq_true, true_and, and_true, bnd, Option.bind_some, ↓reduceIte, ltT, ltF, eqT, eqF, leT, leF]
  replace hii := Classical.not_not.mp hii
  have h97 : fj_m_isSo_97 (iN b) a d texts named values truth (iN w) (iN g) (iN i) (iN (125 + 3 * k)) (b01 q.isNone) (iN 1) (b01 (x.2.2.2.1 g)) = fj_m_isSo_124 (iN b) a d texts named values truth (iN w) (iN g) (iN i) (iN (125 + 3 * k)) (b01 q.isNone) (iN 1) (b01 (x.2.2.2.1 g)) := by
    cases hlot : x.2.2.2.1 g with
    | true =>
      rw [hlot, if_pos rfl] at hii
      simp (disch := omega) only [fj_m_isSo_97, bT0, hH, nlit, onl, negone, iN_add, iN_mul, iN_sub, iN_pm, iN_addneg, iN_ix, iN_inb, iN_lt, iN_eq, iN_nneg, iN_nm, nm_iN, mI_neg, mI_nnn, ne_eq, not_true_eq_false, not_false_eq_true, true_and, and_true, bnd, Option.bind_some, ↓reduceIte, ltT, ltF, eqT, eqF, leT, leF]
    | false =>
      rw [hlot, if_neg (by decide)] at hii
      simp (disch := omega) only [fj_m_isSo_97, bF0, nlit, onl, negone, iN_add, iN_mul, iN_sub, iN_pm, iN_addneg, iN_ix, iN_inb, iN_lt, iN_eq, iN_nneg, iN_nm, nm_iN, mI_neg, mI_nnn, ne_eq, not_true_eq_false, not_false_eq_true, true_and, and_true, bnd, Option.bind_some, ↓reduceIte, ltT, ltF, eqT, eqF, leT, leF]
  rw [h97] at no ⊢
  cases hio : iOK q true with
  | false =>
    refine no (n' := named) (v' := values) (t1' := truth) ?_ ?_
    · rw [hnx]
      split
      · rw [if_neg (fun z => by rw [hio] at z; exact absurd z.2.1 (by decide))]
      · rw [if_neg (fun z => by rw [hio] at z; exact absurd z.2.1 (by decide))]
    · cases q with
      | none => cases hio
      | some z =>
        obtain ⟨c0, c1, -⟩ := hk2 k z hk
        have hz1 : z.1 = false := by
          have : (z.1 == true) = false := hio
          cases h : z.1 with
          | false => rfl
          | true => rw [h] at this; cases this
        rw [hz1] at c0
        simp (disch := omega) only [fj_m_isSo_124, fj_m_isSo_147, Option.isNone_some, bF0, bF1, c0, nlit, onl, negone, iN_add, iN_mul, iN_sub, iN_pm, iN_addneg, iN_ix, iN_inb, iN_lt, iN_eq, iN_nneg, iN_nm, nm_iN, mI_neg, mI_nnn, ne_eq, not_true_eq_false, not_false_eq_true, true_and, and_true, bnd, Option.bind_some, ↓reduceIte, ltT, ltF, eqT, eqF, leT, leF]
  | true =>
    have h124 : fj_m_isSo_124 (iN b) a d texts named values truth (iN w) (iN g) (iN i) (iN (125 + 3 * k)) (b01 q.isNone) (iN 1) (b01 (x.2.2.2.1 g)) = fj_m_isSo_172 (iN b) a d texts named values truth (iN w) (iN g) (iN i) (iN (125 + 3 * k)) (b01 q.isNone) (iN 1) (b01 (x.2.2.2.1 g)) := by
      cases q with
      | none => simp only [fj_m_isSo_124, Option.isNone_none, nlit, bT0, ↓reduceIte]
      | some z =>
        obtain ⟨c0, c1, -⟩ := hk2 k z hk
        have e1' : z.1 = true := beq_iff_eq.mp (show (z.1 == true) = true from hio)
        rw [e1'] at c0
        simp (disch := omega) only [fj_m_isSo_124, fj_m_isSo_147, Option.isNone_some, bF0, bT1, c0, nlit, onl, negone, iN_add, iN_mul, iN_sub, iN_pm, iN_addneg, iN_ix, iN_inb, iN_lt, iN_eq, iN_nneg, iN_nm, nm_iN, mI_neg, mI_nnn, ne_eq, not_true_eq_false, not_false_eq_true, true_and, and_true, bnd, Option.bind_some, ↓reduceIte, ltT, ltF, eqT, eqF, leT, leF]
    rw [h124]
    exact M_so172 hx hm hk1 hk2 hlen hq8 hk hd hb ht hw hg hi hcond hn hii hio
theorem M_isSo {d named truth : Nat → Int32} {values : Nat → Int64} {t : Tn} (hx : CxOK x) (hm : MX a texts x) (hk1 : ∀ k, book[k]? = some none → a (125 + 3 * k + 1) = mI) (hk2 : ∀ (k : Nat) (q : Bool × Nat × Nat), book[k]? = some (some q) → a (125 + 3 * k) = b01 q.1 ∧ a (125 + 3 * k + 1) = iN q.2.1 ∧ a (125 + 3 * k + 2) = iN q.2.2) (hlen : book.length ≤ 6) (hq8 : ∀ q ∈ book, ∀ z, q = some z → z.2.1 < 8 ∧ z.2.2 < x.2.1) {k w g i : Nat} {q : Option (Bool × Nat × Nat)} (hk : book[k]? = some q) (hd : MT d b t) (hb : b ≤ 525) (ht : TW t) (hw : w < 8) (hg : g < 3) (hi : i < 8) : ∃ d' n' v' t1, f_m_isSo (iN b) a d texts named values truth (iN k) (iN w) (iN g) (iN i) = some (b01 (nxW x q t w g i).isSome, d', n', v', t1) ∧ MT d' b (aftW t (nxW x q t w g i)) ∧ ∀ j, j < b ∨ b + 35 ≤ j → d' j = d j := by
  have hkl := (List.getElem?_eq_some_iff.mp hk).1
  have hx1 := hx.1
  have hx2 := hx.2.1
  have hP := M_isPerson (l := iN w) hm.1 (show x.1 < 1000 by omega)
  have hG := M_isGate (l := iN g) hm.2.1 (show x.2.1 < 1000 by omega)
  rw [inR_iN (by omega)] at hP hG
  have hl8 := ht.len g
  have e10 : ¬ iN 1 = iN 0 := by decide
  have e01 : ¬ iN 0 = iN 1 := by decide
  -- no: nothing is done
  have no : ∀ {n' v' t1'}, nxW x q t w g i = none → f_m_isSo (iN b) a d texts named values truth (iN k) (iN w) (iN g) (iN i) = some (iN 0, d, n', v', t1') → ∃ d' n' v' t1, f_m_isSo (iN b) a d texts named values truth (iN k) (iN w) (iN g) (iN i) = some (b01 (nxW x q t w g i).isSome, d', n', v', t1) ∧ MT d' b (aftW t (nxW x q t w g i)) ∧ ∀ j, j < b ∨ b + 35 ≤ j → d' j = d j := by
    intro n' v' t1' h1 h2
    rw [h1]
    exact ⟨d, n', v', t1', h2, hd, fun _ _ => rfl⟩
  -- the head
  have head : f_m_isSo (iN b) a d texts named values truth (iN k) (iN w) (iN g) (iN i) = fj_m_isSo_26 (iN b) a d texts named values truth (iN w) (iN g) (iN i) (iN (125 + 3 * k)) (b01 q.isNone) := by
    cases q with
    | none =>
      have c1 := hk1 k hk
      simp (disch := omega) only [f_m_isSo, c1, nlit, onl, negone, iN_add, iN_mul, iN_sub, iN_pm, iN_addneg, iN_ix, iN_inb, iN_lt, iN_eq, iN_nneg, iN_nm, nm_iN, mI_neg, mI_nnn, ne_eq, not_true_eq_false, not_false_eq_true, true_and, and_true, bnd, Option.bind_some, ↓reduceIte, ltT, ltF, eqT, eqF, leT, leF]; rfl
    | some z =>
      have c1 := (hk2 k z hk).2.1
      have hz := (hq8 _ (List.mem_of_getElem? hk) z rfl).1
      simp (disch := omega) only [f_m_isSo, c1, nlit, onl, negone, iN_add, iN_mul, iN_sub, iN_pm, iN_addneg, iN_ix, iN_inb, iN_lt, iN_eq, iN_nneg, iN_nm, nm_iN, mI_neg, mI_nnn, ne_eq, not_true_eq_false, not_false_eq_true, true_and, and_true, bnd, Option.bind_some, ↓reduceIte, ltT, ltF, eqT, eqF, leT, leF]; rfl
  rw [head] at no ⊢
  by_cases hwP : ¬ w < x.1
  · rw [decide_eq_false hwP] at hP
    refine no (n' := named) (v' := values) (t1' := truth) (by unfold nxW; rw [if_neg (fun z => hwP z.1)]) ?_
    simp only [fj_m_isSo_26, hP, nlit, bF0, Option.bind_some, ↓reduceIte]
  replace hwP := Classical.not_not.mp hwP
  rw [decide_eq_true hwP] at hP
  by_cases hgG : ¬ g < x.2.1
  · rw [decide_eq_false hgG] at hG
    refine no (n' := named) (v' := values) (t1' := truth) (by unfold nxW; rw [if_neg (fun z => hgG z.2.1)]) ?_
    simp only [fj_m_isSo_26, hP, hG, nlit, bT0, bF0, Option.bind_some, ↓reduceIte]
  replace hgG := Classical.not_not.mp hgG
  rw [decide_eq_true hgG] at hG
  cases hgo : gOK q g with
  | false =>
    refine no (n' := named) (v' := values) (t1' := truth) (by unfold nxW; rw [if_neg (fun z => by rw [hgo] at z; exact absurd z.2.2 (by decide))]) ?_
    cases q with
    | none => cases hgo
    | some z =>
      have c2 := (hk2 k z hk).2.2
      have hz := (hq8 _ (List.mem_of_getElem? hk) z rfl).2
      have hne : ¬ g = z.2.2 := fun e => by
        have : (z.2.2 == g) = false := hgo
        rw [← e, beq_self_eq_true] at this; cases this
      simp (disch := omega) only [fj_m_isSo_26, hP, hG, Option.isNone_some, bT0, bF0, c2, nlit, onl, negone, iN_add, iN_mul, iN_sub, iN_pm, iN_addneg, iN_ix, iN_inb, iN_lt, iN_eq, iN_nneg, iN_nm, nm_iN, mI_neg, mI_nnn, ne_eq, not_true_eq_false, not_false_eq_true, true_and, and_true, bnd, Option.bind_some, ↓reduceIte, ltT, ltF, eqT, eqF, leT, leF]
  | true =>
    have hcond : w < x.1 ∧ g < x.2.1 ∧ gOK q g = true := ⟨hwP, hgG, hgo⟩
    have h26 : fj_m_isSo_26 (iN b) a d texts named values truth (iN w) (iN g) (iN i) (iN (125 + 3 * k)) (b01 q.isNone) = fj_m_isSo_64 (iN b) a d texts named values truth (iN w) (iN g) (iN i) (iN (125 + 3 * k)) (b01 q.isNone) := by
      cases q with
      | none => simp only [fj_m_isSo_26, hP, hG, Option.isNone_none, nlit, bT0, Option.bind_some, ↓reduceIte]
      | some z =>
        have c2 := (hk2 k z hk).2.2
        have hz := (hq8 _ (List.mem_of_getElem? hk) z rfl).2
        have he : g = z.2.2 := (beq_iff_eq.mp (show (z.2.2 == g) = true from hgo)).symm
        simp (disch := omega) only [fj_m_isSo_26, hP, hG, Option.isNone_some, bT0, bF0, c2, nlit, onl, negone, iN_add, iN_mul, iN_sub, iN_pm, iN_addneg, iN_ix, iN_inb, iN_lt, iN_eq, iN_nneg, iN_nm, nm_iN, mI_neg, mI_nnn, ne_eq, not_true_eq_false, not_false_eq_true, true_and, and_true, bnd, Option.bind_some, ↓reduceIte, ltT, ltF, eqT, eqF, leT, leF]
    rw [h26] at no ⊢
    cases hn : t.1 w with
    | some m => exact M_soOut hx hm hk1 hk2 hlen hq8 hk hd hb ht hw hg hi hcond hn
    | none => exact M_soIn hx hm hk1 hk2 hlen hq8 hk hd hb ht hw hg hi hcond hn
end
