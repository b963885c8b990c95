/-! ===== PURE: text: what is seen of a token ===== -/
section
variable {by_ tp : Nat → Int32} {n i : Nat} {B : Nat → Nat} {L : List Tk}
theorem tI_end {j : Nat} (h : L.length ≤ j) : tI L n j = (0, 0, n, n) := by
  unfold tI
  rw [List.getD_eq_getElem?_getD, List.getElem?_eq_none_iff.mpr h]; rfl
theorem tI_in {t : Tk} {j : Nat} (h : L[j]? = some t) : tI L n j = t := by
  unfold tI
  rw [List.getD_eq_getElem?_getD, h]; rfl
theorem RS.of {e : Nat} (he : L.drop i = tkL B n e) (hi : i ≤ L.length) {at' pl' tk' nb' : Int32} {wd' : Int64} (h : (tkL B n e = [] ∧ pl' = iN n ∧ tk' = iN 0) ∨ ∃ t l, tkL B n e = t :: l ∧ at' = iN t.2.2.2 ∧ pl' = iN t.2.2.1 ∧ MK t.1 t.2.1 tk' nb' wd' ∧ l = tkL B n t.2.2.2 ∧ t.2.2.2 ≤ n) : RS B n L i at' pl' tk' nb' wd' := by
  rcases h with ⟨h1, h2, h3⟩ | ⟨t, l, h1, h2, h3, h4, h5, h6⟩
  · rw [h1] at he
    have hl : L.length ≤ i := List.drop_eq_nil_iff.mp he
    rw [RS, tI_end hl]
    exact ⟨hi, h2, MK.sign (show (0 : Nat) < 17 by decide) (show (0 : Nat) ≠ 2 by decide) h3, fun q => absurd q (by omega)⟩
  · rw [h1] at he
    have hg : L[i]? = some t := by
      have := congrArg (fun l => l[0]?) he
      simp only [List.getElem?_drop, List.getElem?_cons_zero, Nat.add_zero] at this
      exact this
    rw [RS, tI_in hg]
    refine ⟨hi, h3, h4, fun _ => ⟨t.2.2.2, h6, h2, ?_⟩⟩
    have := congrArg (fun l => l.drop 1) he
    simp only [List.drop_drop, List.drop_succ_cons, List.drop_zero] at this
    rw [this, h5]
theorem M_nextT (h : TB by_ tp n B) {a p t b : Int32} {w : Int64} (hr : RS B n L i a p t b w) (hi : i < L.length) : ∃ a' p' t' b' w', f_m_nextToken (iN n) a p t b w tp = some (a', p', t', b', w') ∧ RS B n L (i + 1) a' p' t' b' w' := by
  obtain ⟨-, -, -, h4⟩ := hr
  obtain ⟨e, h5, rfl, h6⟩ := h4 hi
  obtain ⟨a', p', t', b', w', e1, e2⟩ := M_next0 (pl := p) (tk := t) (nb := b) (wd := w) h h5
  exact ⟨a', p', t', b', w', e1, RS.of h6 (by omega) e2⟩
theorem M_first (h : TB by_ tp n B) (hL : L = tkL B n 0) {p t b : Int32} {w : Int64} : ∃ a' p' t' b' w', f_m_nextToken (iN n) (iN 0) p t b w tp = some (a', p', t', b', w') ∧ RS B n L 0 a' p' t' b' w' := by
  obtain ⟨a', p', t', b', w', e1, e2⟩ := M_next0 (s := 0) (pl := p) (tk := t) (nb := b) (wd := w) h (Nat.zero_le _)
  exact ⟨a', p', t', b', w', e1, RS.of (by rw [List.drop_zero]; exact hL) (Nat.zero_le _) e2⟩
end
section
variable {kd nu : Nat} {tk nb : Int32} {wd : Int64}
theorem MK.tkc (h : MK kd nu tk nb wd) {c k : Nat} (hc : c < 100) (hc2 : c ≠ 2) (hk : k < 17) (hk1 : k ≠ 1) (hp : ∀ j, j < 17 → (tkO j = c ↔ j = k)) : (tk = iN c) = (kd = k) := by
  rcases h with ⟨h1, h2, -⟩ | ⟨h1, h2, -⟩
  · have hb : ∀ j, j < 17 → tkO j < 100 := by decide
    rw [h2, iN_eq (by have := hb kd h1; omega) (by omega)]
    exact propext (hp kd h1)
  · rw [h1, iN_eq (by omega) (by omega)]
    exact propext ⟨fun q => absurd q.symm hc2, fun q => by omega⟩
theorem MK.t0 (h : MK kd nu tk nb wd) : (tk = iN 0) = (kd = 0) := h.tkc (by decide) (by decide) (by decide) (by decide) (by decide)
theorem MK.t1 (h : MK kd nu tk nb wd) : (tk = iN 1) = (kd = 2) := h.tkc (by decide) (by decide) (by decide) (by decide) (by decide)
theorem MK.t4 (h : MK kd nu tk nb wd) : (tk = iN 4) = (kd = 15) := h.tkc (by decide) (by decide) (by decide) (by decide) (by decide)
theorem MK.t5 (h : MK kd nu tk nb wd) : (tk = iN 5) = (kd = 16) := h.tkc (by decide) (by decide) (by decide) (by decide) (by decide)
theorem MK.t60 (h : MK kd nu tk nb wd) : (tk = iN 60) = (kd = 3) := h.tkc (by decide) (by decide) (by decide) (by decide) (by decide)
theorem MK.t62 (h : MK kd nu tk nb wd) : (tk = iN 62) = (kd = 4) := h.tkc (by decide) (by decide) (by decide) (by decide) (by decide)
theorem MK.t61 (h : MK kd nu tk nb wd) : (tk = iN 61) = (kd = 5) := h.tkc (by decide) (by decide) (by decide) (by decide) (by decide)
theorem MK.t35 (h : MK kd nu tk nb wd) : (tk = iN 35) = (kd = 6) := h.tkc (by decide) (by decide) (by decide) (by decide) (by decide)
theorem MK.t43 (h : MK kd nu tk nb wd) : (tk = iN 43) = (kd = 7) := h.tkc (by decide) (by decide) (by decide) (by decide) (by decide)
theorem MK.t45 (h : MK kd nu tk nb wd) : (tk = iN 45) = (kd = 8) := h.tkc (by decide) (by decide) (by decide) (by decide) (by decide)
theorem MK.t42 (h : MK kd nu tk nb wd) : (tk = iN 42) = (kd = 9) := h.tkc (by decide) (by decide) (by decide) (by decide) (by decide)
theorem MK.t47 (h : MK kd nu tk nb wd) : (tk = iN 47) = (kd = 10) := h.tkc (by decide) (by decide) (by decide) (by decide) (by decide)
theorem MK.t37 (h : MK kd nu tk nb wd) : (tk = iN 37) = (kd = 11) := h.tkc (by decide) (by decide) (by decide) (by decide) (by decide)
theorem MK.t40 (h : MK kd nu tk nb wd) : (tk = iN 40) = (kd = 12) := h.tkc (by decide) (by decide) (by decide) (by decide) (by decide)
theorem MK.t41 (h : MK kd nu tk nb wd) : (tk = iN 41) = (kd = 13) := h.tkc (by decide) (by decide) (by decide) (by decide) (by decide)
theorem MK.t59 (h : MK kd nu tk nb wd) : (tk = iN 59) = (kd = 14) := h.tkc (by decide) (by decide) (by decide) (by decide) (by decide)
/-- a word: token 2 and the word itself -/
theorem MK.wdc (h : MK kd nu tk nb wd) {k : Nat} (hk : k < 16) {c : Int64} (hc : c = jN (pkL (WD.getD k []))) : (if tk = iN 2 then (if lg_cmp wd c = iN 0 then true else false) else false) = decide (kd = 20 + k) := by
  rcases h with ⟨h1, h2, -⟩ | ⟨h1, h2, h3⟩
  · have hb : ∀ j, j < 17 → tkO j < 100 ∧ tkO j ≠ 2 := by decide
    have hne : (tk = iN 2) = False := by rw [h2, iN_eq (by have := hb kd h1; omega) (by omega)]; exact eq_false (hb kd h1).2
    rw [decide_eq_false (show ¬ kd = 20 + k by omega)]
    simp only [hne, ↓reduceIte]
  · have hne : (tk = iN 2) = True := eq_true h1
    have h4 := h3 k hk
    by_cases c2 : kd = 20 + k
    · have h5 : (lg_cmp wd c = iN 0) = True := by rw [hc]; exact h4.trans (eq_true c2)
      rw [decide_eq_true c2]
      simp only [hne, h5, ↓reduceIte]
    · have h5 : (lg_cmp wd c = iN 0) = False := by rw [hc]; exact h4.trans (eq_false c2)
      rw [decide_eq_false c2]
      simp only [hne, h5, ↓reduceIte, Bool.false_eq_true]
theorem MK.isWord (h : MK kd nu tk nb wd) {k : Nat} (hk : k < 16) {c : Int64} (hc : c = jN (pkL (WD.getD k []))) : f_m_isWord tk wd c = some (b01 (decide (kd = 20 + k))) := by
  have := h.wdc hk hc
  rw [← this]
  by_cases c1 : tk = iN 2
  · have c1' : (tk = iN 2) = True := eq_true c1
    by_cases c2 : lg_cmp wd c = iN 0
    · have c2' : (lg_cmp wd c = iN 0) = True := eq_true c2
      simp only [f_m_isWord, nlit, c1', c2', ↓reduceIte]; rfl
    · have c2' : (lg_cmp wd c = iN 0) = False := eq_false c2
      simp only [f_m_isWord, nlit, c1', c2', ↓reduceIte]; rfl
  · have c1' : (tk = iN 2) = False := eq_false c1
    simp only [f_m_isWord, nlit, c1', ↓reduceIte]; rfl
theorem w_take : f_m_w4 116 97 107 101 = some (jN (pkL (WD.getD 0 []))) := by decide +kernel
theorem w_fee : f_m_w3 102 101 101 = some (jN (pkL (WD.getD 1 []))) := by decide +kernel
theorem w_bars : f_m_w4 98 97 114 115 = some (jN (pkL (WD.getD 2 []))) := by decide +kernel
theorem w_go : Int64.ofInt 26479 = jN (pkL (WD.getD 3 [])) := by decide +kernel
theorem w_by : Int64.ofInt 25209 = jN (pkL (WD.getD 4 [])) := by decide +kernel
theorem w_or : Int64.ofInt 28530 = jN (pkL (WD.getD 5 [])) := by decide +kernel
theorem w_and : f_m_w3 97 110 100 = some (jN (pkL (WD.getD 6 []))) := by decide +kernel
theorem w_not : f_m_w3 110 111 116 = some (jN (pkL (WD.getD 7 []))) := by decide +kernel
theorem w_place : f_m_w5 112 108 97 99 101 = some (jN (pkL (WD.getD 8 []))) := by decide +kernel
theorem w_name : f_m_w4 110 97 109 101 = some (jN (pkL (WD.getD 9 []))) := by decide +kernel
theorem w_own : f_m_w3 111 119 110 = some (jN (pkL (WD.getD 10 []))) := by decide +kernel
theorem w_who : f_m_w3 119 104 111 = some (jN (pkL (WD.getD 11 []))) := by decide +kernel
theorem w_gate : f_m_w4 103 97 116 101 = some (jN (pkL (WD.getD 12 []))) := by decide +kernel
theorem w_size : f_m_w4 115 105 122 101 = some (jN (pkL (WD.getD 13 []))) := by decide +kernel
theorem w_hour : f_m_w4 104 111 117 114 = some (jN (pkL (WD.getD 14 []))) := by decide +kernel
theorem w_in : Int64.ofInt 26990 = jN (pkL (WD.getD 15 [])) := by decide +kernel
theorem M_sortOf (h : MK kd nu tk nb wd) : f_m_sortOf tk wd = some (if 20 ≤ kd ∧ kd ≤ 23 then iN (kd - 20) else mI) := by
  have i0 := h.isWord (k := 0) (by decide) rfl
  have i1 := h.isWord (k := 1) (by decide) rfl
  have i2 := h.isWord (k := 2) (by decide) rfl
  have i3 := h.wdc (k := 3) (by decide) w_go
  unfold f_m_sortOf
  rw [w_take, Option.bind_some, i0, Option.bind_some]
  by_cases c0 : kd = 20
  · rw [decide_eq_true c0, if_neg (by decide), if_pos (by omega), c0]; rfl
  · rw [decide_eq_false c0, if_pos (by decide), w_fee, Option.bind_some, i1, Option.bind_some]
    by_cases c1 : kd = 21
    · rw [decide_eq_true c1, if_neg (by decide), if_pos (by omega), c1]; rfl
    · rw [decide_eq_false c1, if_pos (by decide), w_bars, Option.bind_some, i2, Option.bind_some]
      by_cases c2 : kd = 22
      · rw [decide_eq_true c2, if_neg (by decide), if_pos (by omega), c2]; rfl
      · rw [decide_eq_false c2, if_pos (by decide)]
        by_cases q1 : tk = iN 2
        · by_cases q2 : lg_cmp wd (Int64.ofInt 26479) = iN 0
          · rw [if_pos q1, if_pos q2] at i3
            have c3 := of_decide_eq_true i3.symm
            have q1' : (tk = iN 2) = True := eq_true q1
            have q2' : (lg_cmp wd (Int64.ofInt 26479) = iN 0) = True := eq_true q2
            rw [if_pos (show 20 ≤ kd ∧ kd ≤ 23 by omega), c3]
            simp only [nlit, q1', q2', ↓reduceIte]
          · rw [if_pos q1, if_neg q2] at i3
            have c3 := of_decide_eq_false i3.symm
            have q1' : (tk = iN 2) = True := eq_true q1
            have q2' : (lg_cmp wd (Int64.ofInt 26479) = iN 0) = False := eq_false q2
            rw [if_neg (show ¬ (20 ≤ kd ∧ kd ≤ 23) by omega)]
            simp only [nlit, negone, q1', q2', ↓reduceIte]
        · rw [if_neg q1] at i3
          have c3 := of_decide_eq_false i3.symm
          have q1' : (tk = iN 2) = False := eq_false q1
          rw [if_neg (show ¬ (20 ≤ kd ∧ kd ≤ 23) by omega)]
          simp only [nlit, negone, q1', ↓reduceIte]
theorem M_nameOf (h : MK kd nu tk nb wd) : f_m_nameOf tk wd = some (if 28 ≤ kd ∧ kd ≤ 35 then iN (kd - 28) else mI) := by
  rcases id h with ⟨h1, h2, -⟩ | ⟨h1, h2, h3⟩
  · have hb : ∀ j, j < 17 → tkO j < 100 ∧ tkO j ≠ 2 := by decide
    have hne : (tk = iN 2) = False := by rw [h2, iN_eq (by have := hb kd h1; omega) (by omega)]; exact eq_false (hb kd h1).2
    rw [if_neg (by omega)]
    simp only [f_m_nameOf, nlit, negone, hne, ↓reduceIte]
  · have hne : (tk = iN 2) = True := eq_true h1
    have g : ∀ k, k < 16 → (lg_cmp wd (jN (pkL (WD.getD k []))) = 0) = (kd = 20 + k) := h3
    have ne' : (tk = 2) = True := hne
    unfold f_m_nameOf
    simp only [ne', ↓reduceIte]
    rw [w_place, Option.bind_some]
    simp only [g 8 (by decide)]
    by_cases c8 : kd = 20 + 8
    · rw [if_pos c8, if_pos (by omega), c8]; rfl
    rw [if_neg c8, w_name, Option.bind_some]
    simp only [g 9 (by decide)]
    by_cases c9 : kd = 20 + 9
    · rw [if_pos c9, if_pos (by omega), c9]; rfl
    rw [if_neg c9, w_own, Option.bind_some]
    simp only [g 10 (by decide)]
    by_cases c10 : kd = 20 + 10
    · rw [if_pos c10, if_pos (by omega), c10]; rfl
    rw [if_neg c10, w_who, Option.bind_some]
    simp only [g 11 (by decide)]
    by_cases c11 : kd = 20 + 11
    · rw [if_pos c11, if_pos (by omega), c11]; rfl
    rw [if_neg c11, w_gate, Option.bind_some]
    simp only [g 12 (by decide)]
    by_cases c12 : kd = 20 + 12
    · rw [if_pos c12, if_pos (by omega), c12]; rfl
    rw [if_neg c12, w_size, Option.bind_some]
    simp only [g 13 (by decide)]
    by_cases c13 : kd = 20 + 13
    · rw [if_pos c13, if_pos (by omega), c13]; rfl
    rw [if_neg c13, w_hour, Option.bind_some]
    simp only [g 14 (by decide)]
    by_cases c14 : kd = 20 + 14
    · rw [if_pos c14, if_pos (by omega), c14]; rfl
    rw [if_neg c14, w_in]
    simp only [g 15 (by decide)]
    by_cases c15 : kd = 20 + 15
    · rw [if_pos c15, if_pos (by omega), c15]; rfl
    rw [if_neg c15, if_neg (by omega)]; rfl
theorem M_compareOf (h : MK kd nu tk nb wd) : f_m_compareOf tk = some (if kd = 3 then iN 10 else if kd = 15 then iN 11 else if kd = 4 then iN 12 else if kd = 16 then iN 13 else if kd = 5 then iN 14 else if kd = 6 then iN 15 else mI) := by
  simp only [f_m_compareOf, nlit, negone, h.t60, h.t4, h.t62, h.t5, h.t61, h.t35]
  split <;> (try rfl) <;> split <;> (try rfl) <;> split <;> (try rfl) <;> split <;> (try rfl) <;> split <;> (try rfl) <;> split <;> rfl
end
