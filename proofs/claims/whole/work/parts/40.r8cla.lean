/-! ===== PURE: text: clauses ===== -/
def DSc (cs : List (Nat × Nat)) (kds frs tos : Nat → Int32) (lw : Lw) : Prop := ∀ (i : Nat) (c : Cl), lw[i]? = some c → kds i = iN (20 + c.1) ∧ (c.1 ≠ 3 → ∃ s, frs i = iN s ∧ tos i = iN (s + c.2.1.length) ∧ s + c.2.1.length ≤ cs.length ∧ ∀ (j : Nat) (o : Nat × Nat), c.2.1[j]? = some o → cs[s + j]? = some o) ∧ (c.1 = 3 → frs i = iN c.2.2.1 ∧ tos i = iN c.2.2.2)
def DMc (cs : List (Nat × Nat)) (tx : Nat → Int32) (T : Nat) (lw : Lw) : Prop := ∀ (i : Nat) (c : Cl), lw[i]? = some c → tx (680 * T + 1 + 3 * i) = iN c.1 ∧ (c.1 ≠ 3 → ∃ s, tx (680 * T + 1 + 3 * i + 1) = iN s ∧ tx (680 * T + 1 + 3 * i + 2) = iN (s + c.2.1.length) ∧ s + c.2.1.length ≤ cs.length ∧ ∀ (j : Nat) (o : Nat × Nat), c.2.1[j]? = some o → cs[s + j]? = some o) ∧ (c.1 = 3 → tx (680 * T + 1 + 3 * i + 1) = iN c.2.2.1 ∧ tx (680 * T + 1 + 3 * i + 2) = iN c.2.2.2)
def hasC (lw : Lw) (k : Nat) : Bool := lw.any (fun c => c.1 == k)
def onN (lw : Lw) : Nat := (hasC lw 0).toNat + 2 * (hasC lw 1).toNat
def PB (by_ tp kd st nu : Nat → Int32) (n : Nat) (B : Nat → Nat) (L : List Tk) (T : Nat) : Prop := TB by_ tp n B ∧ L = tkL B n 0 ∧ RTE kd st nu n L ∧ T < 4
def OT (tx0 tx : Nat → Int32) (T : Nat) : Prop := ∀ j, j < 680 * T ∨ 680 * T + 680 ≤ j → tx j = tx0 j
section
variable {by_ tp kd st nu tx0 : Nat → Int32} {n : Nat} {B : Nat → Nat} {L : List Tk} {T : Nat}
theorem PB.take (h : PB by_ tp kd st nu n B L T) : PX by_ tp kd st nu n B L (iN 127) (iN 0) alT T := ⟨h.1, h.2.1, h.2.2.1, h.2.2.2, by decide +kernel, by decide +kernel⟩
theorem PB.fee (h : PB by_ tp kd st nu n B L T) : PX by_ tp kd st nu n B L (iN 250) (iN 1) alG T := ⟨h.1, h.2.1, h.2.2.1, h.2.2.2, by decide +kernel, by decide +kernel⟩
theorem PB.bars (h : PB by_ tp kd st nu n B L T) : PX by_ tp kd st nu n B L (iN 250) (iN 2) alG T := ⟨h.1, h.2.1, h.2.2.1, h.2.2.2, by decide +kernel, by decide +kernel⟩
theorem hasC_snoc {lw : Lw} {c : Cl} {k : Nat} : hasC (lw ++ [c]) k = (hasC lw k || (c.1 == k)) := by
  unfold hasC
  rw [List.any_append, List.any_cons, List.any_nil, Bool.or_false]
theorem fi_snocC {lw : Lw} {c : Cl} {k : Nat} : (lw ++ [c]).findIdx? (fun c => c.1 == k) = if hasC lw k = true then lw.findIdx? (fun c => c.1 == k) else if c.1 = k then some lw.length else none := by
  have hs : (lw.findIdx? (fun c => c.1 == k)).isSome = hasC lw k := List.findIdx?_isSome
  rw [List.findIdx?_append]
  cases q : lw.findIdx? (fun c => c.1 == k) with
  | some v =>
    rw [q] at hs
    rw [if_pos (show hasC lw k = true from hs.symm)]; rfl
  | none =>
    rw [q] at hs
    rw [if_neg (by rw [← hs]; decide)]
    by_cases e : c.1 = k
    · rw [if_pos e]
      simp [e]
    · rw [if_neg e]
      simp [e]
theorem fi_noneC {lw : Lw} {k : Nat} (hl : lw.length ≤ 20) : (enO (lw.findIdx? (fun c => c.1 == k)) = mI) = (hasC lw k = false) := by
  have hs : (lw.findIdx? (fun c => c.1 == k)).isSome = hasC lw k := List.findIdx?_isSome
  cases q : lw.findIdx? (fun c => c.1 == k) with
  | some v =>
    rw [q] at hs
    have hv : v < lw.length := (List.findIdx?_eq_some_iff_getElem.mp q).1
    rw [enO_some, iN_nm (by omega), ← hs]
    exact propext ⟨False.elim, fun z => by cases z⟩
  | none =>
    rw [q] at hs
    rw [enO_none, ← hs]
    exact propext ⟨fun _ => rfl, fun _ => rfl⟩
theorem on_lt {lw : Lw} : onN lw < 4 := by
  unfold onN
  cases hasC lw 0 <;> cases hasC lw 1 <;> decide
theorem on_bit {lw : Lw} {k : Nat} (hk : k < 2) : (onN lw).testBit k = hasC lw k := by
  unfold onN
  obtain rfl | rfl : k = 0 ∨ k = 1 := by omega
  · cases hasC lw 0 <;> cases hasC lw 1 <;> decide
  · cases hasC lw 0 <;> cases hasC lw 1 <;> decide
theorem on_snoc {lw : Lw} {c : Cl} : onN (lw ++ [c]) = if c.1 < 2 then onN lw ||| 2 ^ c.1 else onN lw := by
  unfold onN
  rw [hasC_snoc, hasC_snoc]
  by_cases c0 : c.1 = 0
  · rw [c0, if_pos (by decide)]
    cases hasC lw 0 <;> cases hasC lw 1 <;> decide
  · by_cases c1 : c.1 = 1
    · rw [c1, if_pos (by decide)]
      cases hasC lw 0 <;> cases hasC lw 1 <;> decide
    · rw [if_neg (by omega)]
      have e0 : (c.1 == 0) = false := by rw [beq_eq_false_iff_ne]; exact c0
      have e1 : (c.1 == 1) = false := by rw [beq_eq_false_iff_ne]; exact c1
      rw [e0, e1, Bool.or_false, Bool.or_false]
theorem C_faultOf {lw : Lw} {k : Nat} (hk : k < 100) (hl : lw.length ≤ 20) : f_rd_faultOfClause (iN k) (iN lw.length) (enO (lw.findIdx? (fun c => c.1 == 0))) (enO (lw.findIdx? (fun c => c.1 == 1))) = some (iN (if k < 20 ∨ 23 < k then 1 else if k < 22 ∧ hasC lw (k - 20) = true then 4 else if lw.length < 20 then 0 else 6)) := by
  by_cases c1 : k < 20
  · have g1 : (iN k < iN 20) = True := by rw [iN_lt (by omega) (by omega)]; exact eq_true c1
    rw [if_pos (Or.inl c1)]
    simp only [f_rd_faultOfClause, nlit, g1, ↓reduceIte]
  · have g1 : (iN k < iN 20) = False := by rw [iN_lt (by omega) (by omega)]; exact eq_false c1
    by_cases c2 : 23 < k
    · have g2 : (iN 23 < iN k) = True := by rw [iN_lt (by omega) (by omega)]; exact eq_true c2
      rw [if_pos (Or.inr c2)]
      simp only [f_rd_faultOfClause, nlit, g1, g2, ↓reduceIte]
    · have g2 : (iN 23 < iN k) = False := by rw [iN_lt (by omega) (by omega)]; exact eq_false c2
      rw [if_neg (by omega)]
      have hal : f_law_hasAlready (enO (lw.findIdx? (fun c => c.1 == 0))) (enO (lw.findIdx? (fun c => c.1 == 1))) (iN k) = some (b01 (decide (k < 22 ∧ hasC lw (k - 20) = true))) := by
        have f0 := fi_noneC (lw := lw) (k := 0) hl
        have f1 := fi_noneC (lw := lw) (k := 1) hl
        obtain rfl | rfl | rfl | rfl : k = 20 ∨ k = 21 ∨ k = 22 ∨ k = 23 := by omega
        · have e1 : (iN 20 = iN 21) = False := eq_false (by decide)
          cases q : hasC lw 0 with
          | true =>
            rw [q] at f0
            have f0' : _ = False := f0.trans (eq_false (by decide))
            rw [decide_eq_true (show 20 < 22 ∧ true = true by decide)]
            simp only [f_law_hasAlready, nlit, negone, f0', ↓reduceIte]; rfl
          | false =>
            rw [q] at f0
            have f0' : _ = True := f0.trans (eq_true rfl)
            rw [decide_eq_false (show ¬ (20 < 22 ∧ false = true) by decide)]
            simp only [f_law_hasAlready, fj_law_hasAlready_14, nlit, negone, f0', e1, ↓reduceIte]; rfl
        · have e1 : (iN 21 = iN 20) = False := eq_false (by decide)
          cases q : hasC lw 1 with
          | true =>
            rw [q] at f1
            have f1' : _ = False := f1.trans (eq_false (by decide))
            rw [decide_eq_true (show 21 < 22 ∧ true = true by decide)]
            simp only [f_law_hasAlready, fj_law_hasAlready_14, nlit, negone, e1, f1', ↓reduceIte]; rfl
          | false =>
            rw [q] at f1
            have f1' : _ = True := f1.trans (eq_true rfl)
            rw [decide_eq_false (show ¬ (21 < 22 ∧ false = true) by decide)]
            simp only [f_law_hasAlready, fj_law_hasAlready_14, nlit, negone, e1, f1', ↓reduceIte]; rfl
        · have e1 : (iN 22 = iN 20) = False := eq_false (by decide)
          have e2 : (iN 22 = iN 21) = False := eq_false (by decide)
          rw [decide_eq_false (by omega)]
          simp only [f_law_hasAlready, fj_law_hasAlready_14, nlit, e1, e2, ↓reduceIte]; rfl
        · have e1 : (iN 23 = iN 20) = False := eq_false (by decide)
          have e2 : (iN 23 = iN 21) = False := eq_false (by decide)
          rw [decide_eq_false (by omega)]
          simp only [f_law_hasAlready, fj_law_hasAlready_14, nlit, e1, e2, ↓reduceIte]; rfl
      by_cases c3 : k < 22 ∧ hasC lw (k - 20) = true
      · rw [decide_eq_true c3] at hal
        rw [if_pos c3]
        simp only [f_rd_faultOfClause, nlit, g1, g2, hal, bT0, Option.bind_some, ↓reduceIte]
      · rw [decide_eq_false c3] at hal
        rw [if_neg c3]
        by_cases c4 : lw.length < 20
        · have g4 : (iN lw.length < iN 20) = True := by rw [iN_lt (by omega) (by omega)]; exact eq_true c4
          rw [if_pos c4]
          simp only [f_rd_faultOfClause, nlit, g1, g2, hal, bF0, g4, Option.bind_some, ↓reduceIte]
        · have g4 : (iN lw.length < iN 20) = False := by rw [iN_lt (by omega) (by omega)]; exact eq_false c4
          rw [if_neg c4]
          simp only [f_rd_faultOfClause, nlit, g1, g2, hal, bF0, g4, Option.bind_some, ↓reduceIte]
theorem C_addClause {l k : Nat} {tk fe f t : Int32} {kds frs tos : Nat → Int32} (hl : l < 20) (hk : k < 100) : f_law_addClause (iN l) tk fe kds frs tos (iN k) f t = some (iN (l + 1), if k = 20 then iN l else tk, if k = 21 then iN l else fe, upd kds l (iN k), upd frs l f, upd tos l t) := by
  have g1 : (iN l < iN 20) = True := by rw [iN_lt (by omega) (by omega)]; exact eq_true hl
  have g2 : inb (iN l) 20 = True := by rw [iN_inb (by omega)]; exact eq_true hl
  have g3 : ix (iN l) = l := iN_ix (by omega)
  by_cases c1 : k = 20
  · have e1 : (iN k = iN 20) = True := eq_true (by rw [c1])
    rw [if_pos c1, if_neg (by omega)]
    simp only [f_law_addClause, nlit, bnd, g1, g2, g3, e1, iN_add, ↓reduceIte]
  · have e1 : (iN k = iN 20) = False := by rw [iN_eq (by omega) (by omega)]; exact eq_false c1
    rw [if_neg c1]
    by_cases c2 : k = 21
    · have e2 : (iN k = iN 21) = True := eq_true (by rw [c2])
      rw [if_pos c2]
      simp only [f_law_addClause, nlit, bnd, g1, g2, g3, e1, e2, iN_add, ↓reduceIte]
    · have e2 : (iN k = iN 21) = False := by rw [iN_eq (by omega) (by omega)]; exact eq_false c2
      rw [if_neg c2]
      simp only [f_law_addClause, nlit, bnd, g1, g2, g3, e1, e2, iN_add, ↓reduceIte]
theorem DSc.snoc {cs c : List (Nat × Nat)} {kds frs tos : Nat → Int32} {lw : Lw} (h : DSc cs kds frs tos lw) {so w g : Nat} {cd : List (Nat × Nat)} {f t : Int32} (hd : so ≠ 3 → f = iN cs.length ∧ t = iN (cs ++ c).length ∧ cd = c) (hg : so = 3 → f = iN w ∧ t = iN g) : DSc (cs ++ c) (upd kds lw.length (iN (20 + so))) (upd frs lw.length f) (upd tos lw.length t) (lw ++ [(so, cd, w, g)]) := by
  intro i x hx
  rcases get_snocG hx with q | ⟨q1, q2⟩
  · have hi : i < lw.length := (List.getElem?_eq_some_iff.mp q).1
    obtain ⟨a1, a2, a3⟩ := h i x q
    rw [upd_ne (by omega), upd_ne (by omega), upd_ne (by omega)]
    refine ⟨a1, fun hn => ?_, a3⟩
    obtain ⟨s, b1, b2, b3, b4⟩ := a2 hn
    refine ⟨s, b1, b2, by rw [List.length_append]; omega, fun j o hj => ?_⟩
    have := b4 j o hj
    rw [List.getElem?_append_left (List.getElem?_eq_some_iff.mp this).1]; exact this
  · rw [q1, q2, upd_same, upd_same, upd_same]
    refine ⟨rfl, fun hn => ?_, fun he => hg he⟩
    obtain ⟨d1, d2, d3⟩ := hd hn
    refine ⟨cs.length, d1, ?_, ?_, fun j o hj => ?_⟩
    · rw [d2, List.length_append]
      show _ = iN (cs.length + cd.length)
      rw [d3]
    · show cs.length + cd.length ≤ _
      rw [List.length_append, d3]; exact Nat.le_refl _
    · have hj : cd[j]? = some o := hj
      rw [List.getElem?_append_right (by omega), show cs.length + j - cs.length = j by omega, ← d3]; exact hj
theorem DMc.snoc {cs c : List (Nat × Nat)} {tx tx' : Nat → Int32} {lw : Lw} (h : DMc cs tx T lw) (hl : lw.length < 20) {so w g : Nat} {cd : List (Nat × Nat)} (he : ∀ i, i < lw.length → tx' (680 * T + 1 + 3 * i) = tx (680 * T + 1 + 3 * i) ∧ tx' (680 * T + 1 + 3 * i + 1) = tx (680 * T + 1 + 3 * i + 1) ∧ tx' (680 * T + 1 + 3 * i + 2) = tx (680 * T + 1 + 3 * i + 2)) (h0 : tx' (680 * T + 1 + 3 * lw.length) = iN so) (hd : so ≠ 3 → tx' (680 * T + 1 + 3 * lw.length + 1) = iN cs.length ∧ tx' (680 * T + 1 + 3 * lw.length + 2) = iN (cs ++ c).length ∧ cd = c) (hg : so = 3 → tx' (680 * T + 1 + 3 * lw.length + 1) = iN w ∧ tx' (680 * T + 1 + 3 * lw.length + 2) = iN g) : DMc (cs ++ c) tx' T (lw ++ [(so, cd, w, g)]) := by
  intro i x hx
  rcases get_snocG hx with q | ⟨q1, q2⟩
  · have hi : i < lw.length := (List.getElem?_eq_some_iff.mp q).1
    obtain ⟨a1, a2, a3⟩ := h i x q
    obtain ⟨e1, e2, e3⟩ := he i hi
    rw [e1, e2, e3]
    refine ⟨a1, fun hn => ?_, a3⟩
    obtain ⟨s, b1, b2, b3, b4⟩ := a2 hn
    refine ⟨s, b1, b2, by rw [List.length_append]; omega, fun j o hj => ?_⟩
    have := b4 j o hj
    rw [List.getElem?_append_left (List.getElem?_eq_some_iff.mp this).1]; exact this
  · rw [q1, q2]
    refine ⟨h0, fun hn => ?_, fun he => hg he⟩
    obtain ⟨d1, d2, d3⟩ := hd hn
    refine ⟨cs.length, d1, ?_, ?_, fun j o hj => ?_⟩
    · rw [d2, List.length_append]
      show _ = iN (cs.length + cd.length)
      rw [d3]
    · show cs.length + cd.length ≤ _
      rw [List.length_append, d3]; exact Nat.le_refl _
    · have hj : cd[j]? = some o := hj
      rw [List.getElem?_append_right (by omega), show cs.length + j - cs.length = j by omega, ← d3]; exact hj
theorem MC.lo {tx tx' : Nat → Int32} {cs : List (Nat × Nat)} (h : MC tx T cs) (he : ∀ j, 680 * T + 70 ≤ j → tx' j = tx j) : MC tx' T cs := fun j o hj => by rw [he _ (by omega), he _ (by omega)]; exact h j o hj
end
