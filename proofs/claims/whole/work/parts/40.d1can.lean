/-! ===== PURE: what can be ===== -/
/-- people, gates, hour, lot, born, the law -/
abbrev Cx : Type := Nat × Nat × Nat × (Nat → Bool) × (Nat → Bool) × Option Lw
def CxOK (x : Cx) : Prop := x.1 ≤ 8 ∧ x.2.1 ≤ 3 ∧ x.2.2.1 < 24
/-- the class's world -/
def CX (pe ga hr rl : Int32) (lot born : Nat → Int32) (ru : Nat) (cL sz tk fe : Int32) (cd kd fr to : Nat → Int32) (x : Cx) : Prop := pe = iN x.1 ∧ ga = iN x.2.1 ∧ hr = iN x.2.2.1 ∧ (∀ g, g < 3 → lot g = b01 (x.2.2.2.1 g)) ∧ (∀ i, i < 8 → born i = b01 (x.2.2.2.2.1 i)) ∧ (x.2.2.2.2.2 = none → rl = mI) ∧ ∀ lw, x.2.2.2.2.2 = some lw → rl = iN ru ∧ ru < 4 ∧ CL cL sz tk fe cd kd fr to lw ∧ LW lw
/-- the reference's -/
def MX (a texts : Nat → Int32) (x : Cx) : Prop := a 0 = iN x.1 ∧ a 1 = iN x.2.1 ∧ a 2 = iN x.2.2.1 ∧ (∀ g, g < 3 → a (36 + g) = b01 (x.2.2.2.1 g)) ∧ (∀ i, i < 8 → a (10 + 3 * i) = b01 (x.2.2.2.2.1 i)) ∧ (x.2.2.2.2.2 = none → a 4 = mI) ∧ ∀ lw, x.2.2.2.2.2 = some lw → ∃ T, T < 4 ∧ a 4 = iN T ∧ ML texts T lw ∧ LW lw
def nmI : Option Nat → Int
  | none => -1
  | some n => n
theorem enO_z {o : Option Nat} : enO o = zI (nmI o) := by
  cases o with
  | none => rfl
  | some n => exact zI_iN.symm
def envG (x : Cx) (t : Tn) (w g : Nat) : Nat → Int := fun v => if v = 1 then nmI (t.1 w) else if v = 3 then (w : Int) else if v = 4 then (g : Int) else if v = 5 then ((t.2 g).length : Int) else if v = 6 then (x.2.2.1 : Int) else if (t.1 w).isNone then 1 else 0
def barP (x : Cx) (t : Tn) (w g : Nat) (c : Cl) : Bool := c.1 == 2 && trS (envG x t w g) c.2.1
def barS (x : Cx) (t : Tn) (w g : Nat) : Bool := match x.2.2.2.2.2 with
  | none => false
  | some lw => lw.any (barP x t w g)
def canS (x : Cx) (t : Tn) (w g : Nat) : Bool := !((t.1 w).isNone && (t.2 g).isEmpty) && !barS x t w g
theorem al_cases {v : Nat} (h8 : v < 8) (h : alG v = true) : v = 1 ∨ v = 3 ∨ v = 4 ∨ v = 5 ∨ v = 6 ∨ v = 7 := by
  unfold alG at h
  rw [decide_eq_true_eq] at h
  omega
theorem envG_b {x : Cx} {t : Tn} {w g : Nat} (hx : CxOK x) (ht : TW t) (hw : w < 8) (hg : g < 3) : ∀ v, v < 8 → alG v = true → -1000000 ≤ envG x t w g v ∧ envG x t w g v ≤ 1000000 := by
  intro v h8 h
  have h1 : -1 ≤ nmI (t.1 w) ∧ nmI (t.1 w) < 8 := by
    cases q : t.1 w with
    | none => exact ⟨by decide, by decide⟩
    | some n =>
      have := (ht.1 w n q).2
      show (-1 : Int) ≤ (n : Int) ∧ (n : Int) < 8
      omega
  have h2 := ht.len g
  have h3 := hx.2.2
  unfold envG
  split
  · omega
  · split
    · omega
    · split
      · omega
      · split
        · omega
        · split
          · omega
          · split <;> omega
section
variable {x : Cx} {t : Tn} {w g b : Nat} {a texts d named truth : Nat → Int32} {values : Nat → Int64}
theorem M_nameAll (hm : MX a texts x) (hd : MT d b t) (hb : b ≤ 525) (ht : TW t) (hw : w < 8) (hg : g < 3) : ∃ named', f_m_nameAll (iN b) a d named (iN w) (iN g) = some named' ∧ ∀ v, v < 8 → alG v = true → named' v = zI (envG x t w g v) := by
  have hl := ht.len g
  refine ⟨upd (upd (upd (upd (upd (upd named 3 (iN w)) 4 (iN g)) 5 (iN (t.2 g).length)) 6 (iN x.2.2.1)) 7 (if (t.1 w).isNone then iN 1 else iN 0)) 1 (enO (t.1 w)), ?_, fun v h8 h => ?_⟩
  · cases q : t.1 w with
    | none => simp (disch := omega) only [f_m_nameAll, fj_m_nameAll_57, hd.hung hb hg, hd.nameAt hb hw, hm.2.2.1, q, enO_none, Option.isNone_none, nlit, onl, negone, iN_add, iN_mul, iN_sub, iN_pm, iN_addneg, iN_ix, iN_inb, iN_lt, iN_eq, iN_nneg, iN_nm, nm_iN, mI_neg, mI_nnn, ne_eq, not_true_eq_false, not_false_eq_true, true_and, and_true, bnd, Option.bind_some, ↓reduceIte, ltT, ltF, eqT, eqF, leT, leF]
    | some n =>
      have hn := (ht.1 w n q).2
      simp (disch := omega) only [f_m_nameAll, fj_m_nameAll_57, hd.hung hb hg, hd.nameAt hb hw, hm.2.2.1, q, enO_some, Option.isNone_some, Bool.false_eq_true, nlit, onl, negone, iN_add, iN_mul, iN_sub, iN_pm, iN_addneg, iN_ix, iN_inb, iN_lt, iN_eq, iN_nneg, iN_nm, nm_iN, mI_neg, mI_nnn, ne_eq, not_true_eq_false, not_false_eq_true, true_and, and_true, bnd, Option.bind_some, ↓reduceIte, ltT, ltF, eqT, eqF, leT, leF]
  · rcases al_cases h8 h with rfl | rfl | rfl | rfl | rfl | rfl
    · simp (disch := omega) only [upd_same, upd_ne, upd_eq, envG, ↓reduceIte, enO_z]
    · simp (disch := omega) only [upd_same, upd_ne, upd_eq, envG, ↓reduceIte, eqF, zI_iN]
    · simp (disch := omega) only [upd_same, upd_ne, upd_eq, envG, ↓reduceIte, eqF, zI_iN]
    · simp (disch := omega) only [upd_same, upd_ne, upd_eq, envG, ↓reduceIte, eqF, zI_iN]
    · simp (disch := omega) only [upd_same, upd_ne, upd_eq, envG, ↓reduceIte, eqF, zI_iN]
    · simp (disch := omega) only [upd_same, upd_ne, upd_eq, envG, ↓reduceIte, eqF]
      cases t.1 w <;> rfl
theorem M_canLoop {lw : Lw} {T : Nat} (hx : CxOK x) (hT : T < 4) (ha : a 4 = iN T) (hm : ML texts T lw) (hlw : LW lw) (ht : TW t) (hw : w < 8) (hg : g < 3) (hn : ∀ v, v < 8 → alG v = true → named v = zI (envG x t w g v)) : ∀ (m i n : Nat) (values : Nat → Int64) (truth : Nat → Int32), i + m = lw.length → m < n → ∃ v' t', itr (un3 (fb_m_can_26 a texts named)) n (iN i, values, truth) = some (if (lw.drop i).any (barP x t w g) then .inl (v', t') else .inr (v', t'))
  | 0, i, n, values, truth, hi, hnn => by
    obtain ⟨n, rfl⟩ : ∃ k, n = k + 1 := ⟨n - 1, by omega⟩
    have hl := hlw.1
    refine ⟨values, truth, itr_end ?_⟩
    rw [List.drop_eq_nil_of_le (by omega), List.any_nil]
    simp (disch := omega) only [un3, fb_m_can_26, f_m_clauses, ha, hm.1, nlit, onl, negone, iN_add, iN_mul, iN_sub, iN_pm, iN_addneg, iN_ix, iN_inb, iN_lt, iN_eq, iN_nneg, iN_nm, nm_iN, mI_neg, mI_nnn, ne_eq, not_true_eq_false, not_false_eq_true, true_and, and_true, bnd, Option.bind_some, ↓reduceIte, ltT, ltF, eqT, eqF, leT, leF, Bool.false_eq_true]
  | m + 1, i, n, values, truth, hi, hnn => by
    obtain ⟨n, rfl⟩ : ∃ k, n = k + 1 := ⟨n - 1, by omega⟩
    have hl := hlw.1
    have hlt : i < lw.length := by omega
    have hc : lw[i]? = some lw[i] := List.getElem?_eq_getElem hlt
    have hdr : lw.drop i = lw[i] :: lw.drop (i + 1) := List.drop_eq_getElem_cons hlt
    have hcw := hlw.2 _ (List.mem_of_getElem? hc)
    have hso := (hm.2 i _ hc).1
    have hc1 := hcw.1
    rw [hdr, List.any_cons]
    by_cases h2 : lw[i].1 = 2
    · obtain ⟨v', t', g1, g2⟩ := M_truth (values := values) (truth := truth) ha hT hm hl hc (by omega) (hcw.2.2.2.1 h2) hn (envG_b hx ht hw hg)
      cases htr : trS (envG x t w g) lw[i].2.1 with
      | true =>
        rw [htr] at g2
        have e2 : (b01 true = iN 0) = False := propext ⟨fun q => absurd q (by decide), False.elim⟩
        have eb : barP x t w g lw[i] = true := by unfold barP; rw [htr, h2]; rfl
        refine ⟨v', t', itr_end ?_⟩
        rw [eb, Bool.true_or]
        simp (disch := omega) only [un3, fb_m_can_26, f_m_clauses, f_m_sortAt, ha, hm.1, hso, h2, g1, un2, g2, e2, nlit, onl, negone, iN_add, iN_mul, iN_sub, iN_pm, iN_addneg, iN_ix, iN_inb, iN_lt, iN_eq, iN_nneg, iN_nm, nm_iN, mI_neg, mI_nnn, ne_eq, not_true_eq_false, not_false_eq_true, true_and, and_true, bnd, Option.bind_some, ↓reduceIte, ltT, ltF, eqT, eqF, leT, leF]
      | false =>
        rw [htr] at g2
        have e2 : (b01 false = iN 0) = True := propext ⟨fun _ => trivial, fun _ => rfl⟩
        have eb : barP x t w g lw[i] = false := by unfold barP; rw [htr, h2]; rfl
        obtain ⟨v2, t2, g3⟩ := M_canLoop hx hT ha hm hlw ht hw hg hn m (i + 1) n v' t' (by omega) (by omega)
        refine ⟨v2, t2, ?_⟩
        rw [itr_step (s' := (iN (i + 1), v', t')), g3, eb, Bool.false_or]
        simp (disch := omega) only [un3, fb_m_can_26, f_m_clauses, f_m_sortAt, ha, hm.1, hso, h2, g1, un2, g2, e2, nlit, onl, negone, iN_add, iN_mul, iN_sub, iN_pm, iN_addneg, iN_ix, iN_inb, iN_lt, iN_eq, iN_nneg, iN_nm, nm_iN, mI_neg, mI_nnn, ne_eq, not_true_eq_false, not_false_eq_true, true_and, and_true, bnd, Option.bind_some, ↓reduceIte, ltT, ltF, eqT, eqF, leT, leF]
    · have eb : barP x t w g lw[i] = false := by
        unfold barP
        rw [show (lw[i].1 == 2) = false from by rw [beq_eq_false_iff_ne]; exact h2]; rfl
      obtain ⟨v2, t2, g3⟩ := M_canLoop hx hT ha hm hlw ht hw hg hn m (i + 1) n values truth (by omega) (by omega)
      refine ⟨v2, t2, ?_⟩
      rw [itr_step (s' := (iN (i + 1), values, truth)), g3, eb, Bool.false_or]
      simp (disch := omega) only [un3, fb_m_can_26, f_m_clauses, f_m_sortAt, ha, hm.1, hso, nlit, onl, negone, iN_add, iN_mul, iN_sub, iN_pm, iN_addneg, iN_ix, iN_inb, iN_lt, iN_eq, iN_nneg, iN_nm, nm_iN, mI_neg, mI_nnn, ne_eq, not_true_eq_false, not_false_eq_true, true_and, and_true, bnd, Option.bind_some, ↓reduceIte, ltT, ltF, eqT, eqF, leT, leF]
theorem M_canTail (hx : CxOK x) (hm : MX a texts x) (hd : MT d b t) (hb : b ≤ 525) (ht : TW t) (hw : w < 8) (hg : g < 3) : ∃ named' values' truth', fj_m_can_18 (iN b) a d texts named values truth (iN w) (iN g) = some (b01 (!barS x t w g), named', values', truth') := by
  obtain ⟨n', g1, g2⟩ := M_nameAll (named := named) hm hd hb ht hw hg
  unfold fj_m_can_18 barS
  rw [g1, Option.bind_some]
  cases hl : x.2.2.2.2.2 with
  | none =>
    have ha := hm.2.2.2.2.2.1 hl
    have hit : itr (un3 (fb_m_can_26 a texts n')) KF (0, values, truth) = some (.inr (values, truth)) := by
      obtain ⟨k, hk⟩ : ∃ k, KF = k + 1 := ⟨KF - 1, by decide⟩
      rw [hk]
      refine itr_end ?_
      simp (disch := omega) only [un3, fb_m_can_26, f_m_clauses, ha, nlit, onl, negone, iN_add, iN_mul, iN_sub, iN_pm, iN_addneg, iN_ix, iN_inb, iN_lt, iN_eq, iN_nneg, iN_nm, nm_iN, mI_neg, mI_nnn, ne_eq, not_true_eq_false, not_false_eq_true, true_and, and_true, bnd, Option.bind_some, ↓reduceIte, ltT, ltF, eqT, eqF, leT, leF]
    refine ⟨n', values, truth, ?_⟩
    rw [hit]; rfl
  | some lw =>
    obtain ⟨T, hT, ha, hml, hlw⟩ := hm.2.2.2.2.2.2 lw hl
    obtain ⟨v', t', g3⟩ := M_canLoop (t := t) (w := w) (g := g) hx hT ha hml hlw ht hw hg g2 lw.length 0 KF values truth (by omega) (kf_lt (by have := hlw.1; omega))
    rw [List.drop_zero] at g3
    refine ⟨n', v', t', ?_⟩
    rw [show ((0 : Int32), values, truth) = (iN 0, values, truth) from rfl, g3]
    show _ = some (b01 (!lw.any (barP x t w g)), n', v', t')
    cases lw.any (barP x t w g) <;> rfl
theorem M_can (hx : CxOK x) (hm : MX a texts x) (hd : MT d b t) (hb : b ≤ 525) (ht : TW t) (hw : w < 8) (hg : g < 3) : ∃ named' values' truth', f_m_can (iN b) a d texts named values truth (iN w) (iN g) = some (b01 (canS x t w g), named', values', truth') := by
  obtain ⟨n', v', t', g1⟩ := M_canTail (named := named) (values := values) (truth := truth) hx hm hd hb ht hw hg
  have hl := ht.len g
  cases q : t.1 w with
  | none =>
    cases hh : t.2 g with
    | nil =>
      refine ⟨named, values, truth, ?_⟩
      have e : canS x t w g = false := by unfold canS; rw [q, hh]; rfl
      rw [e]
      simp (disch := omega) only [f_m_can, hd.nameAt hb hw, hd.hung hb hg, q, hh, enO_none, List.length_nil, nlit, onl, negone, iN_add, iN_mul, iN_sub, iN_pm, iN_addneg, iN_ix, iN_inb, iN_lt, iN_eq, iN_nneg, iN_nm, nm_iN, mI_neg, mI_nnn, ne_eq, not_true_eq_false, not_false_eq_true, true_and, and_true, bnd, Option.bind_some, ↓reduceIte, ltT, ltF, eqT, eqF, leT, leF]; rfl
    | cons y ys =>
      refine ⟨n', v', t', ?_⟩
      have e : canS x t w g = !barS x t w g := by unfold canS; rw [q, hh]; rfl
      rw [e]
      rw [hh, List.length_cons] at hl
      simp (disch := omega) only [f_m_can, hd.nameAt hb hw, hd.hung hb hg, q, hh, enO_none, List.length_cons, nlit, onl, negone, iN_add, iN_mul, iN_sub, iN_pm, iN_addneg, iN_ix, iN_inb, iN_lt, iN_eq, iN_nneg, iN_nm, nm_iN, mI_neg, mI_nnn, ne_eq, not_true_eq_false, not_false_eq_true, true_and, and_true, bnd, Option.bind_some, ↓reduceIte, ltT, ltF, eqT, eqF, leT, leF, g1]
  | some n =>
    have hn := (ht.1 w n q).2
    refine ⟨n', v', t', ?_⟩
    have e : canS x t w g = !barS x t w g := by unfold canS; rw [q]; rfl
    rw [e]
    simp (disch := omega) only [f_m_can, hd.nameAt hb hw, q, enO_some, nlit, onl, negone, iN_add, iN_mul, iN_sub, iN_pm, iN_addneg, iN_ix, iN_inb, iN_lt, iN_eq, iN_nneg, iN_nm, nm_iN, mI_neg, mI_nnn, ne_eq, not_true_eq_false, not_false_eq_true, true_and, and_true, bnd, Option.bind_some, ↓reduceIte, ltT, ltF, eqT, eqF, leT, leF, g1]
end
