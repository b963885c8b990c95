/-! ===== PURE: text: a go clause; one clause, whole ===== -/
section
variable {by_ tp kd st nu tx0 : Nat → Int32} {n : Nat} {B : Nat → Nat} {L : List Tk} {T : Nat}
theorem R_go (hB : PB by_ tp kd st nu n B L T) {i : Nat} {cs : List (Nat × Nat)} {lw : Lw} {code kds frs tos tx : Nat → Int32} (hI : IV tx0 L T i cs lw code kds frs tos tx) (hk : kI L n i = 23) (hl : lw.length < 20) {a p t b : Int32} {wd : Int64} (hr : RS B n L i a p t b wd) {al pi wh s0 : Int32} {pile : Nat → Int32} :
    GD tx0 n B L T i ((f_rd_readGo (iN (L.length + 1)) (iN 0) mI (iN i) (iN (kI L n i)) kd nu st (iN lw.length) (enO (lw.findIdx? (fun c => c.1 == 0))) (enO (lw.findIdx? (fun c => c.1 == 1))) kds frs tos).bind (un10 fun fault_24 place_25 at_26 kind_27 draft_size_28 draft_take_29 draft_fee_30 draft_kinds_31 draft_from_32 draft_to_33 => some (.inl (iN (lw.length + 1), fault_24, place_25, at_26, kind_27, al, iN cs.length, draft_size_28, draft_take_29, draft_fee_30, code, draft_kinds_31, draft_from_32, draft_to_33)))) (fj_m_clause_66 (iN n) a p t b wd (iN (680 * T)) (iN cs.length) pi (iN 0) wh s0 (iN (onN lw)) tx tp pile (iN 3) (iN lw.length)) := by
  obtain ⟨v1, v2, v3, v4, v5, v6, v7, v8, v9, v10⟩ := hI
  have hT := hB.2.2.2
  have hX := hB.take
  have hL := hX.len
  have hil := kI_lt (show kI L n i ≠ 0 by omega)
  have e4 := C_stepT hX hil (k := iN (kI L n i))
  obtain ⟨a1, p1, t1, b1, wd1, n1, n2⟩ := M_nextT hB.1 hr hil
  have hs3 : (iN 3 = iN 3) = True := eq_true rfl
  have h00 : (iN 0 = iN 0) = True := eq_true rfl
  have hO1 : OT tx0 (upd tx (680 * T + 1 + 3 * lw.length) (iN 3)) T := fun j hj => by rw [upd_ne (by omega)]; exact v10 j hj
  have had : ∀ f g, f_law_addClause (iN lw.length) (enO (lw.findIdx? (fun c => c.1 == 0))) (enO (lw.findIdx? (fun c => c.1 == 1))) kds frs tos (iN 23) f g = some (iN (lw.length + 1), enO (lw.findIdx? (fun c => c.1 == 0)), enO (lw.findIdx? (fun c => c.1 == 1)), upd kds lw.length (iN 23), upd frs lw.length f, upd tos lw.length g) := fun f g => by
    have := C_addClause (l := lw.length) (k := 23) (tk := enO (lw.findIdx? (fun c => c.1 == 0))) (fe := enO (lw.findIdx? (fun c => c.1 == 1))) (f := f) (t := g) (kds := kds) (frs := frs) (tos := tos) hl (by decide)
    rw [if_neg (by decide), if_neg (by decide)] at this
    exact this
  -- the head of the reference's side
  have hR : fj_m_clause_66 (iN n) a p t b wd (iN (680 * T)) (iN cs.length) pi (iN 0) wh s0 (iN (onN lw)) tx tp pile (iN 3) (iN lw.length) = (f_m_goneBy (iN n) a1 p1 t1 b1 wd1 (upd tx (680 * T + 1 + 3 * lw.length) (iN 3)) tp (iN (680 * T + 1 + 3 * lw.length))).bind (un7 fun r59 at_60 place_61 token_62 number_63 word_64 texts_65 => fj_m_clause_128 (iN n) at_60 place_61 token_62 number_63 word_64 (iN (680 * T)) (iN cs.length) pi (iN 0) wh (iN 3) (iN (onN lw)) texts_65 tp pile (iN 3) (iN (680 * T + 1 + 3 * lw.length)) (iN cs.length) r59) := by
    simp (disch := omega) only [fj_m_clause_66, nlit, n1, un5, bnd, iN_add, iN_mul, iN_inb, iN_ix, ltT, Option.bind_some, ↓reduceIte]
  rw [hR]
  have hx1 : iN (680 * T + 1 + 3 * lw.length) + iN 1 = iN (680 * T + 1 + 3 * lw.length + 1) := iN_add
  have hx2 : iN (680 * T + 1 + 3 * lw.length) + iN 2 = iN (680 * T + 1 + 3 * lw.length + 2) := iN_add
  -- bad, from the k-th step on
  have badM : ∀ (f q : Nat) (a' t' b' : Int32) (wd' : Int64) (tx' : Nat → Int32), f ≠ 0 → f < 10 → OT tx0 tx' T → BM tx0 T f q (fj_m_clause_128 (iN n) a' (iN q) t' b' wd' (iN (680 * T)) (iN cs.length) pi (iN 0) wh (iN 3) (iN (onN lw)) tx' tp pile (iN 3) (iN (680 * T + 1 + 3 * lw.length)) (iN cs.length) (iN f)) := by
    intro f q a' t' b' wd' tx' hf hf2 ho
    have hf0 : (iN f = iN 0) = False := by rw [iN_eq (by omega) (by omega)]; exact eq_false hf
    exact ⟨a', t', b', wd', iN cs.length, pi, iN 0, wh, iN 3, iN (onN lw), tx', pile, by simp only [fj_m_clause_128, nlit, hf0, ↓reduceIte], ho⟩
  rcases J_figure hX n2 (tx := upd tx (680 * T + 1 + 3 * lw.length) (iN 3)) (X := 680 * T + 1 + 3 * lw.length + 1) (top := 7) (by omega) (by decide) with ⟨w, a2, p2, t2, b2, wd2, hw, hl1, c1, m1, n3⟩ | ⟨f, v, c1, hf, hf2, m1⟩
  · have hMK2 : MK (kI L n (i + 1 + 1)) (tI L n (i + 1 + 1)).2.1 t2 b2 wd2 := n3.2.2.1
    have hp2 : p2 = iN (pI L n (i + 1 + 1)) := n3.2.1
    have hby := hMK2.wdc (k := 4) (by decide) w_by
    have ex1 := C_expT hX n3.1 (show 24 ≠ 0 by decide) (show 24 < 100 by decide)
    have hO2 : OT tx0 (upd (upd tx (680 * T + 1 + 3 * lw.length) (iN 3)) (680 * T + 1 + 3 * lw.length + 1) (iN w)) T := fun j hj => by rw [upd_ne (by omega)]; exact hO1 j hj
    by_cases c24 : kI L n (i + 1 + 1) = 24
    · have hil2 := kI_lt (show kI L n (i + 1 + 1) ≠ 0 by omega)
      rw [if_pos c24] at ex1
      have hby' : (t2 = iN 2) = True ∧ (lg_cmp wd2 (Int64.ofInt 25209) = iN 0) = True := by
        rw [decide_eq_true (show kI L n (i + 1 + 1) = 20 + 4 by omega)] at hby
        by_cases q1 : t2 = iN 2
        · by_cases q2 : lg_cmp wd2 (Int64.ofInt 25209) = iN 0
          · exact ⟨eq_true q1, eq_true q2⟩
          · rw [if_pos q1, if_neg q2] at hby; cases hby
        · rw [if_neg q1] at hby; cases hby
      obtain ⟨a3, p3, t3, b3, wd3, n4, n5⟩ := M_nextT hB.1 n3 hil2
      rcases J_figure hX n5 (tx := upd (upd tx (680 * T + 1 + 3 * lw.length) (iN 3)) (680 * T + 1 + 3 * lw.length + 1) (iN w)) (X := 680 * T + 1 + 3 * lw.length + 2) (top := 2) (by omega) (by decide) with ⟨g, a4, p4, t4, b4, wd4, hg, hl2, c2, m2, n6⟩ | ⟨f, v, c2, hf, hf2, m2⟩
      · have hMK4 : MK (kI L n (i + 1 + 1 + 1 + 1)) (tI L n (i + 1 + 1 + 1 + 1)).2.1 t4 b4 wd4 := n6.2.2.1
        have hp4 : p4 = iN (pI L n (i + 1 + 1 + 1 + 1)) := n6.2.1
        have ex2 := C_expT hX n6.1 (show 14 ≠ 0 by decide) (show 14 < 100 by decide)
        have q59 := hMK4.t59
        have hgone : f_m_goneBy (iN n) a1 p1 t1 b1 wd1 (upd tx (680 * T + 1 + 3 * lw.length) (iN 3)) tp (iN (680 * T + 1 + 3 * lw.length)) = some (iN 0, a4, p4, t4, b4, wd4, upd (upd (upd tx (680 * T + 1 + 3 * lw.length) (iN 3)) (680 * T + 1 + 3 * lw.length + 1) (iN w)) (680 * T + 1 + 3 * lw.length + 2) (iN g)) := by
          simp only [f_m_goneBy, nlit, hx1, hx2, m1, un7, hby'.1, hby'.2, n4, un5, m2, Option.bind_some, ↓reduceIte]
        rw [hgone, Option.bind_some]
        have u0 : upd (upd (upd tx (680 * T + 1 + 3 * lw.length) (iN 3)) (680 * T + 1 + 3 * lw.length + 1) (iN w)) (680 * T + 1 + 3 * lw.length + 2) (iN g) (680 * T) = iN lw.length := by rw [upd_ne (by omega), upd_ne (by omega), upd_ne (by omega)]; exact v9
        have hO5 : OT tx0 (upd (upd (upd (upd tx (680 * T + 1 + 3 * lw.length) (iN 3)) (680 * T + 1 + 3 * lw.length + 1) (iN w)) (680 * T + 1 + 3 * lw.length + 2) (iN g)) (680 * T) (iN (lw.length + 1))) T := fun j hj => by rw [upd_ne (by omega), upd_ne (by omega)]; exact hO2 j hj
        by_cases c14 : kI L n (i + 1 + 1 + 1 + 1) = 14
        · have hil4 := kI_lt (show kI L n (i + 1 + 1 + 1 + 1) ≠ 0 by omega)
          rw [if_pos c14] at ex2
          have q := q59.trans (eq_true c14)
          obtain ⟨a5, p5, t5, b5, wd5, n7, n8⟩ := M_nextT hB.1 n6 hil4
          obtain ⟨f1, f2⟩ := fi_next (lw := lw) (so := 3) (w := w) (g := g) (cd := []) (fun z => absurd z (by decide))
          rw [if_neg (by decide)] at f1 f2
          have hlen2 : (lw ++ [(3, [], w, g)]).length = lw.length + 1 := by rw [List.length_append]; rfl
          have hcs : cs ++ [] = cs := List.append_nil _
          refine Or.inl ⟨i + 1 + 1 + 1 + 1 + 1, cs ++ [], lw ++ [(3, [], w, g)], al, code, upd kds lw.length (iN (20 + 3)), upd frs lw.length (iN w), upd tos lw.length (iN g), a5, p5, t5, b5, wd5, pi, wh, iN 3, upd (upd (upd (upd tx (680 * T + 1 + 3 * lw.length) (iN 3)) (680 * T + 1 + 3 * lw.length + 1) (iN w)) (680 * T + 1 + 3 * lw.length + 2) (iN g)) (680 * T) (iN (lw.length + 1)), pile, ?_, ?_, by omega, n8, n8.1, by rw [hcs]; omega, by omega, ⟨by omega, ?_⟩, by rw [hcs]; exact v5, v6.snoc (fun z => absurd rfl z) (fun _ => ⟨rfl, rfl⟩), ?_, ?_, ?_, hO5⟩
          · unfold cS
            rw [hlen2, ← f1, ← f2, hcs]
            simp only [f_rd_readGo, nlit, e4, c1, ex1, c2, ex2, had, un2, un4, un5, un6, un10, Option.bind_some]
          · have hon : onN (lw ++ [(3, [], w, g)]) = onN lw := by rw [on_snoc, if_neg (show ¬ (3 : Nat) < 2 by decide)]
            rw [hon, hcs]
            simp (disch := omega) only [un7, fj_m_clause_128, fj_m_clause_165, nlit, bnd, iN_add, iN_inb, iN_ix, ltT, u0, q, n7, un5, Option.bind_some, ↓reduceIte]
          · intro x hx
            rcases List.mem_append.mp hx with z | z
            · exact v4.2 x z
            · rw [List.mem_singleton.mp z]
              exact ⟨(show (3 : Nat) ≤ 3 by decide), fun z => (by cases z), fun z => (by cases z), fun z => (by cases z), fun _ => ⟨(show w < 8 by omega), (show g < 3 by omega)⟩⟩
          · rw [hcs]
            exact v7.lo (fun j hj => by rw [upd_ne (by omega), upd_ne (by omega), upd_ne (by omega), upd_ne (by omega)])
          · refine v8.snoc hl (fun i hi => ?_) ?_ (fun z => absurd rfl z) (fun _ => ⟨?_, ?_⟩)
            · refine ⟨?_, ?_, ?_⟩ <;> (rw [upd_ne (by omega), upd_ne (by omega), upd_ne (by omega), upd_ne (by omega)])
            · rw [upd_ne (by omega), upd_ne (by omega), upd_ne (by omega), upd_same]
            · rw [upd_ne (by omega), upd_ne (by omega), upd_same]
            · rw [upd_ne (by omega), upd_same]
          · rw [upd_same, hlen2]
        · rw [if_neg c14] at ex2
          have q := q59.trans (eq_false c14)
          refine Or.inr ⟨1, pI L n (i + 1 + 1 + 1 + 1), by decide, by decide, ?_, ?_⟩
          · simp only [f_rd_readGo, nlit, e4, c1, ex1, c2, ex2, had, un2, un4, un5, un6, un10, Option.bind_some]
            exact ⟨_, _, _, _, _, _, _, _, _, _, _, _, rfl⟩
          · refine ⟨a4, t4, b4, wd4, iN cs.length, pi, iN 0, wh, iN 3, iN (onN lw), _, pile, ?_, hO5⟩
            rw [← hp4]
            simp (disch := omega) only [un7, fj_m_clause_128, fj_m_clause_165, nlit, bnd, iN_add, iN_inb, iN_ix, ltT, u0, q, Option.bind_some, ↓reduceIte]
      · have hgone : f_m_goneBy (iN n) a1 p1 t1 b1 wd1 (upd tx (680 * T + 1 + 3 * lw.length) (iN 3)) tp (iN (680 * T + 1 + 3 * lw.length)) = some (iN f, a3, iN (pI L n (i + 1 + 1 + 1)), t3, b3, wd3, upd (upd tx (680 * T + 1 + 3 * lw.length) (iN 3)) (680 * T + 1 + 3 * lw.length + 1) (iN w)) := by
          simp only [f_m_goneBy, nlit, hx1, hx2, m1, un7, hby'.1, hby'.2, n4, un5, m2, Option.bind_some, ↓reduceIte]
        rw [hgone, Option.bind_some]
        have hex := H_expect (tokens := iN (L.length + 1)) (p := iN (pI L n (i + 1 + 1 + 1))) (k := iN (kI L n (i + 1 + 1 + 1))) (w := iN 14) (kd := kd) (st := st) (i := i + 1 + 1 + 1) hf hf2
        refine Or.inr ⟨f, pI L n (i + 1 + 1 + 1), hf, hf2, ?_, badM f _ a3 t3 b3 wd3 _ hf hf2 hO2⟩
        simp only [f_rd_readGo, nlit, e4, c1, ex1, c2, hex, had, un2, un4, un5, un6, un10, Option.bind_some]
        exact ⟨_, _, _, _, _, _, _, _, _, _, _, _, rfl⟩
    · rw [if_neg c24] at ex1
      have hgone : f_m_goneBy (iN n) a1 p1 t1 b1 wd1 (upd tx (680 * T + 1 + 3 * lw.length) (iN 3)) tp (iN (680 * T + 1 + 3 * lw.length)) = some (iN 1, a2, iN (pI L n (i + 1 + 1)), t2, b2, wd2, upd (upd tx (680 * T + 1 + 3 * lw.length) (iN 3)) (680 * T + 1 + 3 * lw.length + 1) (iN w)) := by
        rw [decide_eq_false (show ¬ kI L n (i + 1 + 1) = 20 + 4 by omega)] at hby
        rw [hp2] at m1
        by_cases q1 : t2 = iN 2
        · have q1' := eq_true q1
          by_cases q2 : lg_cmp wd2 (Int64.ofInt 25209) = iN 0
          · rw [if_pos q1, if_pos q2] at hby; cases hby
          · have q2' := eq_false q2
            simp only [f_m_goneBy, nlit, hx1, m1, un7, q1', q2', Option.bind_some, ↓reduceIte]
        · have q1' := eq_false q1
          simp only [f_m_goneBy, nlit, hx1, m1, un7, q1', Option.bind_some, ↓reduceIte]
      rw [hgone, Option.bind_some]
      have hi2 := n3.1
      obtain ⟨v, hnum⟩ := H_number (tokens := iN (L.length + 1)) (p := iN (pI L n (i + 1 + 1))) (k := iN (kI L n (i + 1 + 1))) (w := iN 2) (kd := kd) (st := st) (nu := nu) (f := 1) (i := i + 1 + 1) (by decide) (by decide) (by omega)
      have hex := H_expect (tokens := iN (L.length + 1)) (p := iN (pI L n (i + 1 + 1))) (k := iN (kI L n (i + 1 + 1))) (w := iN 14) (kd := kd) (st := st) (f := 1) (i := i + 1 + 1) (by decide) (by decide)
      refine Or.inr ⟨1, pI L n (i + 1 + 1), by decide, by decide, ?_, badM 1 _ a2 t2 b2 wd2 _ (by decide) (by decide) hO2⟩
      simp only [f_rd_readGo, nlit, e4, c1, ex1, hnum, hex, had, un2, un4, un5, un6, un10, Option.bind_some]
      exact ⟨_, _, _, _, _, _, _, _, _, _, _, _, rfl⟩
  · have hf0 : (iN f = iN 0) = False := by rw [iN_eq (by omega) (by omega)]; exact eq_false hf
    have hgone : f_m_goneBy (iN n) a1 p1 t1 b1 wd1 (upd tx (680 * T + 1 + 3 * lw.length) (iN 3)) tp (iN (680 * T + 1 + 3 * lw.length)) = some (iN f, a1, iN (pI L n (i + 1)), t1, b1, wd1, upd tx (680 * T + 1 + 3 * lw.length) (iN 3)) := by
      simp only [f_m_goneBy, nlit, hx1, m1, un7, hf0, Option.bind_some, ↓reduceIte]
    rw [hgone, Option.bind_some]
    obtain ⟨v2', hnum⟩ := H_number (tokens := iN (L.length + 1)) (p := iN (pI L n (i + 1))) (k := iN (kI L n (i + 1))) (w := iN 2) (kd := kd) (st := st) (nu := nu) (f := f) (i := i + 1) hf hf2 (by omega)
    have hexa := H_expect (tokens := iN (L.length + 1)) (p := iN (pI L n (i + 1))) (k := iN (kI L n (i + 1))) (w := iN 24) (kd := kd) (st := st) (i := i + 1) hf hf2
    have hexb := H_expect (tokens := iN (L.length + 1)) (p := iN (pI L n (i + 1))) (k := iN (kI L n (i + 1))) (w := iN 14) (kd := kd) (st := st) (i := i + 1) hf hf2
    refine Or.inr ⟨f, pI L n (i + 1), hf, hf2, ?_, badM f _ a1 t1 b1 wd1 _ hf hf2 hO1⟩
    simp only [f_rd_readGo, nlit, e4, c1, hexa, hnum, hexb, had, un2, un4, un5, un6, un10, Option.bind_some]
    exact ⟨_, _, _, _, _, _, _, _, _, _, _, _, rfl⟩
theorem J_clause (hB : PB by_ tp kd st nu n B L T) {i : Nat} {cs : List (Nat × Nat)} {lw : Lw} {code kds frs tos tx : Nat → Int32} (hI : IV tx0 L T i cs lw code kds frs tos tx) (hk0 : kI L n i ≠ 0) {a p t b : Int32} {wd : Int64} (hr : RS B n L i a p t b wd) {al pi wh s0 : Int32} {pile : Nat → Int32} : GD tx0 n B L T i (un14 (fb_rd_readTape_48 (iN (L.length + 1)) kd st nu) (cS n L i cs lw al code kds frs tos)) (f_m_clause (iN n) a p t b wd (iN (680 * T)) (iN cs.length) pi (iN 0) wh s0 (iN (onN lw)) tx tp pile) := by
  obtain ⟨v1, v2, v3, v4, v5, v6, v7, v8, v9, v10⟩ := id hI
  have hT := hB.2.2.2
  have hX := hB.take
  have hL := hX.len
  have hl20 := v4.1
  have k4 := (hX.tok v1).2.2.2.1
  have hMK : MK (kI L n i) (tI L n i).2.1 t b wd := hr.2.2.1
  have hpp : p = iN (pI L n i) := hr.2.1
  have hso := M_sortOf hMK
  have hfo := C_faultOf (lw := lw) k4 hl20
  have hlt : (iN 20 < iN lw.length) = False := by rw [iN_lt (by omega) (by omega)]; exact eq_false (by omega)
  have hk0' : (iN (kI L n i) = iN 0) = False := by rw [iN_eq (by omega) (by omega)]; exact eq_false hk0
  have bad : ∀ f, f ≠ 0 → f < 10 → f_rd_faultOfClause (iN (kI L n i)) (iN lw.length) (enO (lw.findIdx? (fun c => c.1 == 0))) (enO (lw.findIdx? (fun c => c.1 == 1))) = some (iN f) → f_m_clause (iN n) a p t b wd (iN (680 * T)) (iN cs.length) pi (iN 0) wh s0 (iN (onN lw)) tx tp pile = some (iN f, a, p, t, b, wd, iN cs.length, pi, iN 0, wh, s0, iN (onN lw), tx, pile) → GD tx0 n B L T i (un14 (fb_rd_readTape_48 (iN (L.length + 1)) kd st nu) (cS n L i cs lw al code kds frs tos)) (f_m_clause (iN n) a p t b wd (iN (680 * T)) (iN cs.length) pi (iN 0) wh s0 (iN (onN lw)) tx tp pile) := by
    intro f hf hf2 e1 e2
    have hf0 : (iN f = iN 0) = False := by rw [iN_eq (by omega) (by omega)]; exact eq_false hf
    have e3 := C_failT hX v1 (w := iN f)
    refine Or.inr ⟨f, pI L n i, hf, hf2, ?_, ⟨a, t, b, wd, iN cs.length, pi, iN 0, wh, s0, iN (onN lw), tx, pile, by rw [e2, hpp], v10⟩⟩
    simp only [cS, un14, fb_rd_readTape_48, nlit, hlt, hk0', e1, hf0, e3, un2, Option.bind_some, ↓reduceIte]
    exact ⟨_, _, _, _, _, _, _, _, _, _, _, _, rfl⟩
  by_cases c1 : kI L n i < 20 ∨ 23 < kI L n i
  · rw [if_pos c1] at hfo
    rw [if_neg (by omega)] at hso
    refine bad 1 (by decide) (by decide) hfo ?_
    simp only [f_m_clause, nlit, hso, mI_neg, Option.bind_some, ↓reduceIte]
  · rw [if_neg c1] at hfo
    rw [if_pos (by omega)] at hso
    obtain ⟨so, hso2⟩ : ∃ so, kI L n i = 20 + so := ⟨kI L n i - 20, by omega⟩
    have hso4 : so < 4 := by omega
    rw [hso2, show 20 + so - 20 = so by omega] at hso hfo
    have hneg : (iN so < iN 0) = False := iN_nneg (by omega)
    by_cases c2 : so < 2
    · have g2 : (iN so < iN 2) = True := by rw [iN_lt (by omega) (by omega)]; exact eq_true c2
      have hbit := bt_on (onN lw) (Nat.lt_trans on_lt (by decide)) so (by omega)
      rw [on_bit c2] at hbit
      cases hh : hasC lw so with
      | true =>
        rw [if_pos ⟨by omega, hh⟩, ← hso2] at hfo
        have hb' : ((iN (onN lw) >>> (iN so &&& iN 31)) &&& iN 1 = iN 1) = True := eq_true (hbit.mpr hh)
        refine bad 4 (by decide) (by decide) hfo ?_
        simp only [f_m_clause, nlit, hso, hneg, g2, hb', Option.bind_some, ↓reduceIte]
      | false =>
        rw [if_neg (by rw [hh]; intro z; cases z.2)] at hfo
        have hb' : ((iN (onN lw) >>> (iN so &&& iN 31)) &&& iN 1 = iN 1) = False := eq_false (fun z => by have := hbit.mp z; rw [hh] at this; cases this)
        by_cases c3 : lw.length < 20
        · rw [if_pos c3, ← hso2] at hfo
          have h20 : (iN lw.length = iN 20) = False := by rw [iN_eq (by omega) (by omega)]; exact eq_false (by omega)
          have hset := bt_set (onN lw) (Nat.lt_trans on_lt (by decide)) so (by omega)
          have hset' : iN (onN lw) ||| iN 1 <<< (iN so &&& iN 31) = iN (if so < 2 then onN lw ||| 2 ^ so else onN lw) := by rw [if_pos c2]; exact hset
          have hR : f_m_clause (iN n) a p t b wd (iN (680 * T)) (iN cs.length) pi (iN 0) wh s0 (iN (onN lw)) tx tp pile = fj_m_clause_66 (iN n) a p t b wd (iN (680 * T)) (iN cs.length) pi (iN 0) wh s0 (iN (if so < 2 then onN lw ||| 2 ^ so else onN lw)) tx tp pile (iN so) (iN lw.length) := by
            simp (disch := omega) only [f_m_clause, fj_m_clause_30, nlit, hso, hneg, g2, hb', iN_inb, iN_ix, ltT, v9, h20, hset', Option.bind_some, ↓reduceIte]
          have e23 : (iN (kI L n i) = iN 23) = False := by rw [iN_eq (by omega) (by omega)]; exact eq_false (by omega)
          have hC : un14 (fb_rd_readTape_48 (iN (L.length + 1)) kd st nu) (cS n L i cs lw al code kds frs tos) = (f_rd_readRule (iN (L.length + 1)) (iN 0) mI (iN i) (iN (kI L n i)) al kd (iN cs.length) (iN lw.length) (enO (lw.findIdx? (fun c => c.1 == 0))) (enO (lw.findIdx? (fun c => c.1 == 1))) st nu code kds frs tos (iN (kI L n i))).bind (un13 fun fault_10 place_11 at_12 kind_13 allowedNames_14 draft_codeLength_15 draft_size_16 draft_take_17 draft_fee_18 draft_code_19 draft_kinds_20 draft_from_21 draft_to_22 => some (.inl (iN (lw.length + 1), fault_10, place_11, at_12, kind_13, allowedNames_14, draft_codeLength_15, draft_size_16, draft_take_17, draft_fee_18, draft_code_19, draft_kinds_20, draft_from_21, draft_to_22))) := by
            simp only [cS, un14, fb_rd_readTape_48, nlit, hlt, hk0', hfo, e23, iN_add, Option.bind_some, ↓reduceIte]
          rw [hR, hC]
          exact R_code hB hI (by omega) hso2 c3 (fun _ => hh) hr
        · rw [if_neg c3, ← hso2] at hfo
          have h20 : (iN lw.length = iN 20) = True := eq_true (by rw [show lw.length = 20 by omega])
          refine bad 6 (by decide) (by decide) hfo ?_
          simp (disch := omega) only [f_m_clause, fj_m_clause_30, nlit, hso, hneg, g2, hb', iN_inb, iN_ix, ltT, v9, h20, Option.bind_some, ↓reduceIte]
    · have g2 : (iN so < iN 2) = False := by rw [iN_lt (by omega) (by omega)]; exact eq_false c2
      rw [if_neg (by omega)] at hfo
      by_cases c3 : lw.length < 20
      · rw [if_pos c3, ← hso2] at hfo
        have h20 : (iN lw.length = iN 20) = False := by rw [iN_eq (by omega) (by omega)]; exact eq_false (by omega)
        have hR : f_m_clause (iN n) a p t b wd (iN (680 * T)) (iN cs.length) pi (iN 0) wh s0 (iN (onN lw)) tx tp pile = fj_m_clause_66 (iN n) a p t b wd (iN (680 * T)) (iN cs.length) pi (iN 0) wh s0 (iN (onN lw)) tx tp pile (iN so) (iN lw.length) := by
          simp (disch := omega) only [f_m_clause, fj_m_clause_30, nlit, hso, hneg, g2, iN_inb, iN_ix, ltT, v9, h20, Option.bind_some, ↓reduceIte]
        by_cases c4 : so = 3
        · subst c4
          have e23 : (iN (kI L n i) = iN 23) = True := eq_true (by rw [hso2])
          have hC : un14 (fb_rd_readTape_48 (iN (L.length + 1)) kd st nu) (cS n L i cs lw al code kds frs tos) = (f_rd_readGo (iN (L.length + 1)) (iN 0) mI (iN i) (iN (kI L n i)) kd nu st (iN lw.length) (enO (lw.findIdx? (fun c => c.1 == 0))) (enO (lw.findIdx? (fun c => c.1 == 1))) kds frs tos).bind (un10 fun fault_24 place_25 at_26 kind_27 draft_size_28 draft_take_29 draft_fee_30 draft_kinds_31 draft_from_32 draft_to_33 => some (.inl (iN (lw.length + 1), fault_24, place_25, at_26, kind_27, al, iN cs.length, draft_size_28, draft_take_29, draft_fee_30, code, draft_kinds_31, draft_from_32, draft_to_33))) := by
            simp only [cS, un14, fb_rd_readTape_48, nlit, hlt, hk0', hfo, e23, iN_add, Option.bind_some, ↓reduceIte]
          rw [hR, hC]
          exact R_go hB hI hso2 c3 hr
        · have e23 : (iN (kI L n i) = iN 23) = False := by rw [iN_eq (by omega) (by omega)]; exact eq_false (by omega)
          have hC : un14 (fb_rd_readTape_48 (iN (L.length + 1)) kd st nu) (cS n L i cs lw al code kds frs tos) = (f_rd_readRule (iN (L.length + 1)) (iN 0) mI (iN i) (iN (kI L n i)) al kd (iN cs.length) (iN lw.length) (enO (lw.findIdx? (fun c => c.1 == 0))) (enO (lw.findIdx? (fun c => c.1 == 1))) st nu code kds frs tos (iN (kI L n i))).bind (un13 fun fault_10 place_11 at_12 kind_13 allowedNames_14 draft_codeLength_15 draft_size_16 draft_take_17 draft_fee_18 draft_code_19 draft_kinds_20 draft_from_21 draft_to_22 => some (.inl (iN (lw.length + 1), fault_10, place_11, at_12, kind_13, allowedNames_14, draft_codeLength_15, draft_size_16, draft_take_17, draft_fee_18, draft_code_19, draft_kinds_20, draft_from_21, draft_to_22))) := by
            simp only [cS, un14, fb_rd_readTape_48, nlit, hlt, hk0', hfo, e23, iN_add, Option.bind_some, ↓reduceIte]
          rw [hR, hC]
          have := R_code (al := al) (pi := pi) (wh := wh) (s0 := s0) (pile := pile) hB hI (by omega) hso2 c3 (fun z => absurd z c2) hr
          rw [if_neg c2] at this
          exact this
      · rw [if_neg c3, ← hso2] at hfo
        have h20 : (iN lw.length = iN 20) = True := eq_true (by rw [show lw.length = 20 by omega])
        refine bad 6 (by decide) (by decide) hfo ?_
        simp (disch := omega) only [f_m_clause, fj_m_clause_30, nlit, hso, hneg, g2, iN_inb, iN_ix, ltT, v9, h20, Option.bind_some, ↓reduceIte]
end
