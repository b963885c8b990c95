section
variable {x : Cx} {t : Tn} {w g : Nat} {pe ga hr rl cL sz tk fe : Int32} {lot born cd kd fr to values stack names sizes : Nat → Int32} {heaps : Nat → Nat → Int32} {ru : Nat}
theorem C_tell (hx : CxOK x) (hh : hr = iN x.2.2.1) (hd : CT names sizes heaps t) (ht : TW t) (hw : w < 8) (hg : g < 3) : ∃ values', f_go_tellGoing hr values names sizes (iN w) (iN g) = some values' ∧ ∀ v, v < 8 → alG v = true → values' v = zI (envG x t w g v) := by
  have hl := ht.len g
  refine ⟨upd (upd (upd (upd (upd (upd values 1 (enO (t.1 w))) 3 (iN w)) 4 (iN g)) 5 (iN (t.2 g).length)) 6 (iN x.2.2.1)) 7 (if (t.1 w).isNone then iN 1 else iN 0), ?_, fun v h8 h => ?_⟩
  · cases q : t.1 w with
    | none => simp (disch := omega) only [f_go_tellGoing, hd.nameOf hw, hd.sizeOf hg, hh, q, enO_none, Option.isNone_none, nlit, onl, negone, iN_add, iN_mul, iN_sub, iN_pm, iN_addneg, iN_ix, iN_inb, iN_lt, iN_eq, iN_nneg, iN_nm, nm_iN, mI_neg, mI_nnn, ne_eq, not_true_eq_false, not_false_eq_true, true_and, and_true, bnd, Option.bind_some, ↓reduceIte, ltT, ltF, eqT, eqF, leT, leF]
    | some n =>
      have hn := (ht.1 w n q).2
      simp (disch := omega) only [f_go_tellGoing, hd.nameOf hw, hd.sizeOf hg, hh, q, enO_some, Option.isNone_some, Bool.false_eq_true, nlit, onl, negone, iN_add, iN_mul, iN_sub, iN_pm, iN_addneg, iN_ix, iN_inb, iN_lt, iN_eq, iN_nneg, iN_nm, nm_iN, mI_neg, mI_nnn, ne_eq, not_true_eq_false, not_false_eq_true, true_and, and_true, bnd, Option.bind_some, ↓reduceIte, ltT, ltF, eqT, eqF, leT, leF]
  · rcases al_cases h8 h with rfl | rfl | rfl | rfl | rfl | rfl
    · simp (disch := omega) only [upd_same, upd_ne, upd_eq, envG, ↓reduceIte, enO_z]
    · simp (disch := omega) only [upd_same, upd_ne, upd_eq, envG, ↓reduceIte, eqF, zI_iN]
    · simp (disch := omega) only [upd_same, upd_ne, upd_eq, envG, ↓reduceIte, eqF, zI_iN]
    · simp (disch := omega) only [upd_same, upd_ne, upd_eq, envG, ↓reduceIte, eqF, zI_iN]
    · simp (disch := omega) only [upd_same, upd_ne, upd_eq, envG, ↓reduceIte, eqF, zI_iN]
    · simp (disch := omega) only [upd_same, upd_ne, upd_eq, envG, ↓reduceIte, eqF]
      cases t.1 w <;> rfl
theorem C_barLoop {lw : Lw} (hx : CxOK x) (hm : CL cL sz tk fe cd kd fr to lw) (hlw : LW lw) (ht : TW t) (hw : w < 8) (hg : g < 3) (hn : ∀ v, v < 8 → alG v = true → values v = zI (envG x t w g v)) : ∀ (m i n : Nat) (stack : Nat → Int32), i + m = lw.length → m < n → ∃ s', itr (un2 (fb_go_isBarred_23 values cL sz kd to fr cd)) n (iN i, stack) = some (if (lw.drop i).any (barP x t w g) then .inl s' else .inr s')
  | 0, i, n, stack, hi, hnn => by
    obtain ⟨n, rfl⟩ : ∃ k, n = k + 1 := ⟨n - 1, by omega⟩
    have hl := hlw.1
    refine ⟨stack, itr_end ?_⟩
    rw [List.drop_eq_nil_of_le (by omega), List.any_nil]
    simp (disch := omega) only [un2, fb_go_isBarred_23, hm.1, nlit, onl, negone, iN_add, iN_mul, iN_sub, iN_pm, iN_addneg, iN_ix, iN_inb, iN_lt, iN_eq, iN_nneg, iN_nm, nm_iN, mI_neg, mI_nnn, ne_eq, not_true_eq_false, not_false_eq_true, true_and, and_true, bnd, Option.bind_some, ↓reduceIte, ltT, ltF, eqT, eqF, leT, leF, Bool.false_eq_true]
  | m + 1, i, n, stack, hi, hnn => by
    obtain ⟨n, rfl⟩ : ∃ k, n = k + 1 := ⟨n - 1, by omega⟩
    have hl := hlw.1
    have hlt : i < lw.length := by omega
    have hc : lw[i]? = some lw[i] := List.getElem?_eq_getElem hlt
    have hdr : lw.drop i = lw[i] :: lw.drop (i + 1) := List.drop_eq_getElem_cons hlt
    have hcw := hlw.2 _ (List.mem_of_getElem? hc)
    have hk := hm.kindOf hl hc
    have hsz := hm.1
    have hc1 := hcw.1
    rw [hdr, List.any_cons]
    by_cases h2 : lw[i].1 = 2
    · obtain ⟨s', g1⟩ := C_truth (stack := stack) hm hl hc (by omega) (hcw.2.2.2.1 h2) hn (envG_b hx ht hw hg)
      cases htr : trS (envG x t w g) lw[i].2.1 with
      | true =>
        rw [htr] at g1
        have e2 : (b01 true = iN 0) = False := propext ⟨fun q => absurd q (by decide), False.elim⟩
        have eb : barP x t w g lw[i] = true := by unfold barP; rw [htr, h2]; rfl
        refine ⟨s', itr_end ?_⟩
        rw [eb, Bool.true_or]
        rw [hsz] at hk g1 ⊢
        rw [h2] at hk
        simp (disch := omega) only [un2, fb_go_isBarred_23, hk, g1, e2, nlit, onl, negone, iN_add, iN_mul, iN_sub, iN_pm, iN_addneg, iN_ix, iN_inb, iN_lt, iN_eq, iN_nneg, iN_nm, nm_iN, mI_neg, mI_nnn, ne_eq, not_true_eq_false, not_false_eq_true, true_and, and_true, bnd, Option.bind_some, ↓reduceIte, ltT, ltF, eqT, eqF, leT, leF]
      | false =>
        rw [htr] at g1
        have e2 : (b01 false = iN 0) = True := propext ⟨fun _ => trivial, fun _ => rfl⟩
        have eb : barP x t w g lw[i] = false := by unfold barP; rw [htr, h2]; rfl
        obtain ⟨s2, g3⟩ := C_barLoop hx hm hlw ht hw hg hn m (i + 1) n s' (by omega) (by omega)
        refine ⟨s2, ?_⟩
        rw [itr_step (s' := (iN (i + 1), s')), g3, eb, Bool.false_or]
        rw [hsz] at hk g1 ⊢
        rw [h2] at hk
        simp (disch := omega) only [un2, fb_go_isBarred_23, hk, g1, e2, nlit, onl, negone, iN_add, iN_mul, iN_sub, iN_pm, iN_addneg, iN_ix, iN_inb, iN_lt, iN_eq, iN_nneg, iN_nm, nm_iN, mI_neg, mI_nnn, ne_eq, not_true_eq_false, not_false_eq_true, true_and, and_true, bnd, Option.bind_some, ↓reduceIte, ltT, ltF, eqT, eqF, leT, leF]
    · have eb : barP x t w g lw[i] = false := by
        unfold barP
        rw [show (lw[i].1 == 2) = false from by rw [beq_eq_false_iff_ne]; exact h2]; rfl
      obtain ⟨s2, g3⟩ := C_barLoop hx hm hlw ht hw hg hn m (i + 1) n stack (by omega) (by omega)
      refine ⟨s2, ?_⟩
      rw [itr_step (s' := (iN (i + 1), stack)), g3, eb, Bool.false_or]
      rw [hsz] at hk ⊢
      simp (disch := omega) only [un2, fb_go_isBarred_23, hk, nlit, onl, negone, iN_add, iN_mul, iN_sub, iN_pm, iN_addneg, iN_ix, iN_inb, iN_lt, iN_eq, iN_nneg, iN_nm, nm_iN, mI_neg, mI_nnn, ne_eq, not_true_eq_false, not_false_eq_true, true_and, and_true, bnd, Option.bind_some, ↓reduceIte, ltT, ltF, eqT, eqF, leT, leF]
theorem C_barred (hx : CxOK x) (hm : CX pe ga hr rl lot born ru cL sz tk fe cd kd fr to x) (hd : CT names sizes heaps t) (ht : TW t) (hw : w < 8) (hg : g < 3) : ∃ values' stack', f_go_isBarred hr rl ru values cL sz stack kd to fr cd names sizes (iN w) (iN g) = some (b01 (barS x t w g), values', stack') := by
  obtain ⟨h1, h2, h3, h4, h5, h6, h7⟩ := hm
  unfold f_go_isBarred barS
  cases hl : x.2.2.2.2.2 with
  | none =>
    refine ⟨values, stack, ?_⟩
    rw [h6 hl]
    simp (disch := omega) only [nlit, onl, negone, iN_add, iN_mul, iN_sub, iN_pm, iN_addneg, iN_ix, iN_inb, iN_lt, iN_eq, iN_nneg, iN_nm, nm_iN, mI_neg, mI_nnn, ne_eq, not_true_eq_false, not_false_eq_true, true_and, and_true, bnd, Option.bind_some, ↓reduceIte, ltT, ltF, eqT, eqF, leT, leF]; rfl
  | some lw =>
    obtain ⟨e1, e2, e3, e4⟩ := h7 lw hl
    obtain ⟨v', g1, g2⟩ := C_tell (values := values) hx h3 hd ht hw hg
    obtain ⟨s', g3⟩ := C_barLoop (t := t) (w := w) (g := g) hx e3 e4 ht hw hg g2 lw.length 0 KF stack (by omega) (kf_lt (by have := e4.1; omega))
    rw [List.drop_zero] at g3
    refine ⟨v', s', ?_⟩
    rw [e1]
    simp (disch := omega) only [nlit, onl, negone, iN_add, iN_mul, iN_sub, iN_pm, iN_addneg, iN_ix, iN_inb, iN_lt, iN_eq, iN_nneg, iN_nm, nm_iN, mI_neg, mI_nnn, ne_eq, not_true_eq_false, not_false_eq_true, true_and, and_true, bnd, Option.bind_some, ↓reduceIte, ltT, ltF, eqT, eqF, leT, leF, g1, g3]
    show _ = some (b01 (lw.any (barP x t w g)), v', s')
    cases lw.any (barP x t w g) <;> rfl
theorem C_canTail (hx : CxOK x) (hm : CX pe ga hr rl lot born ru cL sz tk fe cd kd fr to x) (hd : CT names sizes heaps t) (ht : TW t) (hw : w < 8) (hg : g < 3) : ∃ values' stack', fj_go_canBe_43 hr rl ru values cL sz stack kd to fr cd names sizes (iN w) (iN g) = some (b01 (!barS x t w g), values', stack') := by
  obtain ⟨v', s', g1⟩ := C_barred (values := values) (stack := stack) hx hm hd ht hw hg
  refine ⟨v', s', ?_⟩
  unfold fj_go_canBe_43
  rw [g1, Option.bind_some]
  cases barS x t w g <;> rfl
theorem C_can (hx : CxOK x) (hm : CX pe ga hr rl lot born ru cL sz tk fe cd kd fr to x) (hd : CT names sizes heaps t) (ht : TW t) (hw : w < x.1) (hg : g < x.2.1) : ∃ values' stack', f_go_canBe pe ga hr rl ru values cL sz stack kd to fr cd names sizes (iN w) (iN g) = some (b01 (canS x t w g), values', stack') := by
  have hw8 : w < 8 := by have := hx.1; omega
  have hg3 : g < 3 := by have := hx.2.1; omega
  obtain ⟨v', s', g1⟩ := C_canTail (values := values) (stack := stack) hx hm hd ht hw8 hg3
  have hl := ht.len g
  have hx1 := hx.1
  have hx2 := hx.2.1
  obtain ⟨h1, h2, -⟩ := hm
  subst h1; subst h2
  cases q : t.1 w with
  | none =>
    cases hh : t.2 g with
    | nil =>
      refine ⟨values, stack, ?_⟩
      have e : canS x t w g = false := by unfold canS; rw [q, hh]; rfl
      rw [e]
      simp (disch := omega) only [f_go_canBe, f_world_hasPerson, f_world_hasGate, hd.nameOf hw8, hd.sizeOf hg3, q, hh, enO_none, List.length_nil, nlit, onl, negone, iN_add, iN_mul, iN_sub, iN_pm, iN_addneg, iN_ix, iN_inb, iN_lt, iN_eq, iN_nneg, iN_nm, nm_iN, mI_neg, mI_nnn, ne_eq, not_true_eq_false, not_false_eq_true, true_and, and_true, bnd, Option.bind_some, ↓reduceIte, ltT, ltF, eqT, eqF, leT, leF]; rfl
    | cons y ys =>
      refine ⟨v', s', ?_⟩
      have e : canS x t w g = !barS x t w g := by unfold canS; rw [q, hh]; rfl
      rw [e]
      rw [hh, List.length_cons] at hl
      simp (disch := omega) only [f_go_canBe, f_world_hasPerson, f_world_hasGate, hd.nameOf hw8, hd.sizeOf hg3, q, hh, enO_none, List.length_cons, nlit, onl, negone, iN_add, iN_mul, iN_sub, iN_pm, iN_addneg, iN_ix, iN_inb, iN_lt, iN_eq, iN_nneg, iN_nm, nm_iN, mI_neg, mI_nnn, ne_eq, not_true_eq_false, not_false_eq_true, true_and, and_true, bnd, Option.bind_some, ↓reduceIte, ltT, ltF, eqT, eqF, leT, leF, g1]
  | some n =>
    have hn := (ht.1 w n q).2
    refine ⟨v', s', ?_⟩
    have e : canS x t w g = !barS x t w g := by unfold canS; rw [q]; rfl
    rw [e]
    simp (disch := omega) only [f_go_canBe, f_world_hasPerson, f_world_hasGate, hd.nameOf hw8, q, enO_some, nlit, onl, negone, iN_add, iN_mul, iN_sub, iN_pm, iN_addneg, iN_ix, iN_inb, iN_lt, iN_eq, iN_nneg, iN_nm, nm_iN, mI_neg, mI_nnn, ne_eq, not_true_eq_false, not_false_eq_true, true_and, and_true, bnd, Option.bind_some, ↓reduceIte, ltT, ltF, eqT, eqF, leT, leF, g1]
end
