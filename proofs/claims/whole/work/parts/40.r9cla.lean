/-! ===== PURE: text: one clause on both sides ===== -/
theorem TX.refl {tx : Nat → Int32} {T : Nat} : TX tx tx T := fun _ _ => rfl
theorem H_addClause {l k : Nat} {tk fe f t : Int32} {kds frs tos : Nat → Int32} (hl : l ≤ 20) (hk : k < 100) : ∃ a b c d e g, f_law_addClause (iN l) tk fe kds frs tos (iN k) f t = some (a, b, c, d, e, g) := by
  by_cases c : l < 20
  · exact ⟨_, _, _, _, _, _, C_addClause c hk⟩
  · have g1 : (iN l < iN 20) = False := by rw [iN_lt (by omega) (by omega)]; exact eq_false c
    exact ⟨iN l, tk, fe, kds, frs, tos, by simp only [f_law_addClause, nlit, g1, ↓reduceIte]⟩
theorem fi_next {lw : Lw} {so w g : Nat} {cd : List (Nat × Nat)} (hn : so < 2 → hasC lw so = false) : (if 20 + so = 20 then iN lw.length else enO (lw.findIdx? (fun c => c.1 == 0))) = enO ((lw ++ [(so, cd, w, g)]).findIdx? (fun c => c.1 == 0)) ∧ (if 20 + so = 21 then iN lw.length else enO (lw.findIdx? (fun c => c.1 == 1))) = enO ((lw ++ [(so, cd, w, g)]).findIdx? (fun c => c.1 == 1)) := by
  have hz : ∀ k, hasC lw k = false → lw.findIdx? (fun c => c.1 == k) = none := by
    intro k hk
    have hs : (lw.findIdx? (fun c => c.1 == k)).isSome = hasC lw k := List.findIdx?_isSome
    rw [hk] at hs
    exact Option.isNone_iff_eq_none.mp (by rw [← Option.not_isSome, hs]; rfl)
  rw [fi_snocC, fi_snocC]
  constructor
  · by_cases c : so = 0
    · subst c
      rw [if_pos rfl, if_neg (by rw [hn (by decide)]; decide), if_pos rfl]; rfl
    · rw [if_neg (by omega)]
      cases q : hasC lw 0 with
      | true => rw [if_pos rfl]
      | false => rw [hz 0 q, if_neg (by decide), if_neg c]
  · by_cases c : so = 1
    · subst c
      rw [if_pos rfl, if_neg (by rw [hn (by decide)]; decide), if_pos rfl]; rfl
    · rw [if_neg (by omega)]
      cases q : hasC lw 1 with
      | true => rw [if_pos rfl]
      | false => rw [hz 1 q, if_neg (by decide), if_neg c]
section
variable (by_ tp kd st nu tx0 : Nat → Int32) (n : Nat) (B : Nat → Nat) (L : List Tk) (T : Nat)
/-- the class's side of it -/
def cS (i : Nat) (cs : List (Nat × Nat)) (lw : Lw) (al : Int32) (code kds frs tos : Nat → Int32) : Int32 × Int32 × Int32 × Int32 × Int32 × Int32 × Int32 × Int32 × Int32 × Int32 × (Nat → Int32) × (Nat → Int32) × (Nat → Int32) × (Nat → Int32) := (iN lw.length, iN 0, mI, iN i, iN (kI L n i), al, iN cs.length, iN lw.length, enO (lw.findIdx? (fun c => c.1 == 0)), enO (lw.findIdx? (fun c => c.1 == 1)), code, kds, frs, tos)
/-- what holds at a clause's beginning -/
def IV (i : Nat) (cs : List (Nat × Nat)) (lw : Lw) (code kds frs tos tx : Nat → Int32) : Prop := i ≤ L.length ∧ cs.length ≤ i ∧ lw.length ≤ i ∧ LW lw ∧ CC code cs ∧ DSc cs kds frs tos lw ∧ MC tx T cs ∧ DMc cs tx T lw ∧ tx (680 * T) = iN lw.length ∧ OT tx0 tx T
def BC (f q : Nat) (rc : Option ((Int32 × Int32 × Int32 × Int32 × Int32 × Int32 × Int32 × Int32 × Int32 × Int32 × (Nat → Int32) × (Nat → Int32) × (Nat → Int32) × (Nat → Int32)) ⊕ (Int32 × Int32 × Int32 × Int32 × Int32 × Int32 × Int32 × Int32 × Int32 × (Nat → Int32) × (Nat → Int32) × (Nat → Int32) × (Nat → Int32)))) : Prop := ∃ l' i2 k2 al' cl' sz' tk' fe' code' kds' frs' tos', rc = some (.inl (l', iN f, iN q, i2, k2, al', cl', sz', tk', fe', code', kds', frs', tos'))
def BM (f q : Nat) (rm : Option (Int32 × Int32 × Int32 × Int32 × Int32 × Int64 × Int32 × Int32 × Int32 × Int32 × Int32 × Int32 × (Nat → Int32) × (Nat → Int32))) : Prop := ∃ a' t' b' wd' wr' pi' op' wh' so' on' tx' pile', rm = some (iN f, a', iN q, t', b', wd', wr', pi', op', wh', so', on', tx', pile') ∧ OT tx0 tx' T
/-- one clause more -/
def GD (i : Nat) (rc : Option ((Int32 × Int32 × Int32 × Int32 × Int32 × Int32 × Int32 × Int32 × Int32 × Int32 × (Nat → Int32) × (Nat → Int32) × (Nat → Int32) × (Nat → Int32)) ⊕ (Int32 × Int32 × Int32 × Int32 × Int32 × Int32 × Int32 × Int32 × Int32 × (Nat → Int32) × (Nat → Int32) × (Nat → Int32) × (Nat → Int32)))) (rm : Option (Int32 × Int32 × Int32 × Int32 × Int32 × Int64 × Int32 × Int32 × Int32 × Int32 × Int32 × Int32 × (Nat → Int32) × (Nat → Int32))) : Prop :=
  (∃ i' cs' lw' al' code' kds' frs' tos' a' p' t' b' wd' pi' wh' so' tx' pile', rc = some (.inl (cS n L i' cs' lw' al' code' kds' frs' tos')) ∧ rm = some (iN 0, a', p', t', b', wd', iN cs'.length, pi', iN 0, wh', so', iN (onN lw'), tx', pile') ∧ i < i' ∧ RS B n L i' a' p' t' b' wd' ∧ IV tx0 L T i' cs' lw' code' kds' frs' tos' tx') ∨
  ∃ f q, f ≠ 0 ∧ f < 10 ∧ BC f q rc ∧ BM tx0 T f q rm
end
section
variable {by_ tp kd st nu tx0 : Nat → Int32} {n : Nat} {B : Nat → Nat} {L : List Tk} {T : Nat}
/-- the end of a clause that has code -/
theorem R_end (hB : PB by_ tp kd st nu n B L T) {so : Nat} (hso : so < 3) {i1 : Nat} {cs c : List (Nat × Nat)} {lw : Lw} (hl : lw.length < 20) (hi1 : i1 ≤ L.length) (hlen : (cs ++ c).length ≤ i1) (hll : lw.length < i1) (hn : so < 2 → hasC lw so = false) (hLW : LW lw) (hty : LWc (so, c, 0, 0)) {code kds frs tos : Nat → Int32} (hcc : CC code (cs ++ c)) (hds : DSc cs kds frs tos lw) {tx tx2 : Nat → Int32} (hdm : DMc cs tx T lw) (hot : OT tx0 tx T) (htx2 : TX (upd tx (680 * T + 1 + 3 * lw.length) (iN so)) tx2 T) (hmc2 : MC tx2 T (cs ++ c)) (h0 : tx (680 * T) = iN lw.length) {a p t b : Int32} {wd : Int64} (hr : RS B n L i1 a p t b wd) {pi wh al : Int32} {pile : Nat → Int32} {i : Nat} (hii : i < i1) :
    GD tx0 n B L T i ((fj_rd_readRule_48 (iN (L.length + 1)) (iN 0) mI (iN i1) (iN (kI L n i1)) al kd (iN (cs ++ c).length) (iN lw.length) (enO (lw.findIdx? (fun c => c.1 == 0))) (enO (lw.findIdx? (fun c => c.1 == 1))) st code kds frs tos (iN (20 + so)) (iN cs.length)).bind (un13 fun fault_10 place_11 at_12 kind_13 allowedNames_14 draft_codeLength_15 draft_size_16 draft_take_17 draft_fee_18 draft_code_19 draft_kinds_20 draft_from_21 draft_to_22 => some (.inl (iN (lw.length + 1), fault_10, place_11, at_12, kind_13, allowedNames_14, draft_codeLength_15, draft_size_16, draft_take_17, draft_fee_18, draft_code_19, draft_kinds_20, draft_from_21, draft_to_22)))) (fj_m_clause_128 (iN n) a p t b wd (iN (680 * T)) (iN (cs ++ c).length) pi (iN 0) wh (iN so) (iN (onN (lw ++ [(so, c, 0, 0)]))) tx2 tp pile (iN so) (iN (680 * T + 1 + 3 * lw.length)) (iN cs.length) (iN 0)) := by
  have hT := hB.2.2.2
  have hX := hB.take
  have hL := hX.len
  have k4 := (hX.tok hi1).2.2.2.1
  have hMK : MK (kI L n i1) (tI L n i1).2.1 t b wd := hr.2.2.1
  have hpp : p = iN (pI L n i1) := hr.2.1
  have hex := C_expT hX hi1 (show 14 ≠ 0 by decide) (show 14 < 100 by decide)
  have had := C_addClause (l := lw.length) (k := 20 + so) (tk := enO (lw.findIdx? (fun c => c.1 == 0))) (fe := enO (lw.findIdx? (fun c => c.1 == 1))) (f := iN cs.length) (t := iN (cs ++ c).length) (kds := kds) (frs := frs) (tos := tos) hl (by omega)
  have hs3 : (iN so = iN 3) = False := by rw [iN_eq (by omega) (by omega)]; exact eq_false (by omega)
  have ht0 : tx2 (680 * T) = iN lw.length := by rw [htx2 _ (Or.inl (by omega)), upd_ne (by omega)]; exact h0
  have u1 : upd (upd tx2 (680 * T + 1 + 3 * lw.length + 1) (iN cs.length)) (680 * T + 1 + 3 * lw.length + 2) (iN (cs ++ c).length) (680 * T) = iN lw.length := by rw [upd_ne (by omega), upd_ne (by omega)]; exact ht0
  have hR : fj_m_clause_128 (iN n) a p t b wd (iN (680 * T)) (iN (cs ++ c).length) pi (iN 0) wh (iN so) (iN (onN (lw ++ [(so, c, 0, 0)]))) tx2 tp pile (iN so) (iN (680 * T + 1 + 3 * lw.length)) (iN cs.length) (iN 0) = if kI L n i1 = 14 then (f_m_nextToken (iN n) a p t b wd tp).bind (un5 fun at_39 place_40 token_41 number_42 word_43 => some (iN 0, at_39, place_40, token_41, number_42, word_43, iN (cs ++ c).length, pi, iN 0, wh, iN so, iN (onN (lw ++ [(so, c, 0, 0)])), upd (upd (upd tx2 (680 * T + 1 + 3 * lw.length + 1) (iN cs.length)) (680 * T + 1 + 3 * lw.length + 2) (iN (cs ++ c).length)) (680 * T) (iN (lw.length + 1)), pile)) else some (iN 1, a, p, t, b, wd, iN (cs ++ c).length, pi, iN 0, wh, iN so, iN (onN (lw ++ [(so, c, 0, 0)])), upd (upd (upd tx2 (680 * T + 1 + 3 * lw.length + 1) (iN cs.length)) (680 * T + 1 + 3 * lw.length + 2) (iN (cs ++ c).length)) (680 * T) (iN (lw.length + 1)), pile) := by
    have q59 := hMK.t59
    by_cases c14 : kI L n i1 = 14
    · have q := q59.trans (eq_true c14)
      rw [if_pos c14]
      simp (disch := omega) only [fj_m_clause_128, nlit, hs3, bnd, iN_add, iN_inb, iN_ix, ltT, u1, q, ↓reduceIte]
    · have q := q59.trans (eq_false c14)
      rw [if_neg c14]
      simp (disch := omega) only [fj_m_clause_128, nlit, hs3, bnd, iN_add, iN_inb, iN_ix, ltT, u1, q, ↓reduceIte]
  rw [hR]
  have hOT3 : OT tx0 (upd (upd (upd tx2 (680 * T + 1 + 3 * lw.length + 1) (iN cs.length)) (680 * T + 1 + 3 * lw.length + 2) (iN (cs ++ c).length)) (680 * T) (iN (lw.length + 1))) T := by
    intro j hj
    rw [upd_ne (by omega), upd_ne (by omega), upd_ne (by omega), htx2 j (by omega), upd_ne (by omega)]
    exact hot j hj
  by_cases c14 : kI L n i1 = 14
  · have hil := kI_lt (show kI L n i1 ≠ 0 by omega)
    obtain ⟨a', p', t', b', wd', n1, n2⟩ := M_nextT hX.1 hr hil
    rw [if_pos c14] at hex ⊢
    obtain ⟨f1, f2⟩ := fi_next (lw := lw) (so := so) (w := 0) (g := 0) (cd := c) hn
    have hlen2 : (lw ++ [(so, c, 0, 0)]).length = lw.length + 1 := by rw [List.length_append]; rfl
    refine Or.inl ⟨i1 + 1, cs ++ c, lw ++ [(so, c, 0, 0)], al, code, upd kds lw.length (iN (20 + so)), upd frs lw.length (iN cs.length), upd tos lw.length (iN (cs ++ c).length), a', p', t', b', wd', pi, wh, iN so, _, pile, ?_, ?_, by omega, n2, by omega, by omega, by omega, ⟨by omega, ?_⟩, hcc, hds.snoc (fun _ => ⟨rfl, rfl, rfl⟩) (fun z => absurd z (by omega)), ?_, ?_, ?_, hOT3⟩
    · rw [f1, f2] at had
      unfold cS
      rw [hlen2]
      simp only [fj_rd_readRule_48, nlit, hex, had, un4, un6, un13, Option.bind_some]
    · rw [n1, Option.bind_some]; rfl
    · intro x hx
      rcases List.mem_append.mp hx with z | z
      · exact hLW.2 x z
      · rw [List.mem_singleton.mp z]; exact hty
    · exact hmc2.lo (fun j hj => by rw [upd_ne (by omega), upd_ne (by omega), upd_ne (by omega)])
    · refine hdm.snoc hl (fun i hi => ?_) ?_ (fun _ => ⟨?_, ?_, rfl⟩) (fun z => absurd z (by omega))
      · refine ⟨?_, ?_, ?_⟩ <;> (rw [upd_ne (by omega), upd_ne (by omega), upd_ne (by omega), htx2 _ (Or.inl (by omega)), upd_ne (by omega)])
      · rw [upd_ne (by omega), upd_ne (by omega), upd_ne (by omega), htx2 _ (Or.inl (by omega)), upd_same]
      · rw [upd_ne (by omega), upd_ne (by omega), upd_same]
      · rw [upd_ne (by omega), upd_same]
    · rw [upd_same, hlen2]
  · rw [if_neg c14] at hex ⊢
    refine Or.inr ⟨1, pI L n i1, by decide, by decide, ?_, a, t, b, wd, iN (cs ++ c).length, pi, iN 0, wh, iN so, iN (onN (lw ++ [(so, c, 0, 0)])), upd (upd (upd tx2 (680 * T + 1 + 3 * lw.length + 1) (iN cs.length)) (680 * T + 1 + 3 * lw.length + 2) (iN (cs ++ c).length)) (680 * T) (iN (lw.length + 1)), pile, by rw [← hpp], hOT3⟩
    simp only [fj_rd_readRule_48, nlit, hex, had, un4, un6, un13, Option.bind_some]
    exact ⟨_, _, _, _, _, _, _, _, _, _, _, _, rfl⟩
end
