/-! ===== PURE: text: one clause, whole ===== -/
section
variable {by_ tp kd st nu tx0 : Nat → Int32} {n : Nat} {B : Nat → Nat} {L : List Tk} {T : Nat}
theorem R_code (hB : PB by_ tp kd st nu n B L T) {i so : Nat} {cs : List (Nat × Nat)} {lw : Lw} {code kds frs tos tx : Nat → Int32} (hI : IV tx0 L T i cs lw code kds frs tos tx) (hso : so < 3) (hk : kI L n i = 20 + so) (hl : lw.length < 20) (hn : so < 2 → hasC lw so = false) {a p t b : Int32} {wd : Int64} (hr : RS B n L i a p t b wd) {al pi wh s0 : Int32} {pile : Nat → Int32} :
    GD tx0 n B L T i ((f_rd_readRule (iN (L.length + 1)) (iN 0) mI (iN i) (iN (kI L n i)) al kd (iN cs.length) (iN lw.length) (enO (lw.findIdx? (fun c => c.1 == 0))) (enO (lw.findIdx? (fun c => c.1 == 1))) st nu code kds frs tos (iN (kI L n i))).bind (un13 fun fault_10 place_11 at_12 kind_13 allowedNames_14 draft_codeLength_15 draft_size_16 draft_take_17 draft_fee_18 draft_code_19 draft_kinds_20 draft_from_21 draft_to_22 => some (.inl (iN (lw.length + 1), fault_10, place_11, at_12, kind_13, allowedNames_14, draft_codeLength_15, draft_size_16, draft_take_17, draft_fee_18, draft_code_19, draft_kinds_20, draft_from_21, draft_to_22)))) (fj_m_clause_66 (iN n) a p t b wd (iN (680 * T)) (iN cs.length) pi (iN 0) wh s0 (iN (if so < 2 then onN lw ||| 2 ^ so else onN lw)) tx tp pile (iN so) (iN lw.length)) := by
  obtain ⟨v1, v2, v3, v4, v5, v6, v7, v8, v9, v10⟩ := hI
  have hT := hB.2.2.2
  have hL := hB.take.len
  have hil := kI_lt (show kI L n i ≠ 0 by omega)
  have k4 := (hB.take.tok v1).2.2.2.1
  have e4 := C_stepT hB.take hil (k := iN (kI L n i))
  obtain ⟨a1, p1, t1, b1, wd1, n1, n2⟩ := M_nextT hB.1 hr hil
  have hmc1 : MC (upd tx (680 * T + 1 + 3 * lw.length) (iN so)) T cs := v7.lo (fun j hj => upd_ne (by omega))
  have hs3 : (iN so = iN 3) = False := by rw [iN_eq (by omega) (by omega)]; exact eq_false (by omega)
  have hon : ∀ c, iN (if so < 2 then onN lw ||| 2 ^ so else onN lw) = iN (onN (lw ++ [(so, c, 0, 0)])) := fun c => by rw [on_snoc]
  have bad : ∀ (f q i2 c2 : Nat) (k2 al2 : Int32) (code2 : Nat → Int32) (a' t' b' : Int32) (wd' : Int64) (wr' pi' op' wh' : Int32) (tx' pile' : Nat → Int32), f ≠ 0 → f < 10 → TX (upd tx (680 * T + 1 + 3 * lw.length) (iN so)) tx' T → GD tx0 n B L T i ((fj_rd_readRule_48 (iN (L.length + 1)) (iN f) (iN q) (iN i2) k2 al2 kd (iN c2) (iN lw.length) (enO (lw.findIdx? (fun c => c.1 == 0))) (enO (lw.findIdx? (fun c => c.1 == 1))) st code2 kds frs tos (iN (kI L n i)) (iN cs.length)).bind (un13 fun fault_10 place_11 at_12 kind_13 allowedNames_14 draft_codeLength_15 draft_size_16 draft_take_17 draft_fee_18 draft_code_19 draft_kinds_20 draft_from_21 draft_to_22 => some (.inl (iN (lw.length + 1), fault_10, place_11, at_12, kind_13, allowedNames_14, draft_codeLength_15, draft_size_16, draft_take_17, draft_fee_18, draft_code_19, draft_kinds_20, draft_from_21, draft_to_22)))) (fj_m_clause_128 (iN n) a' (iN q) t' b' wd' (iN (680 * T)) wr' pi' op' wh' (iN so) (iN (if so < 2 then onN lw ||| 2 ^ so else onN lw)) tx' tp pile' (iN so) (iN (680 * T + 1 + 3 * lw.length)) (iN cs.length) (iN f)) := by
    intro f q i2 c2 k2 al2 code2 a' t' b' wd' wr' pi' op' wh' tx' pile' hf hf2 htx
    have hf0 : (iN f = iN 0) = False := by rw [iN_eq (by omega) (by omega)]; exact eq_false hf
    have hex := H_expect (tokens := iN (L.length + 1)) (p := iN q) (k := k2) (w := iN 14) (kd := kd) (st := st) (i := i2) hf hf2
    have had := C_addClause (l := lw.length) (k := kI L n i) (tk := enO (lw.findIdx? (fun c => c.1 == 0))) (fe := enO (lw.findIdx? (fun c => c.1 == 1))) (f := iN cs.length) (t := iN c2) (kds := kds) (frs := frs) (tos := tos) hl (by omega)
    refine Or.inr ⟨f, q, hf, hf2, ?_, a', t', b', wd', wr', pi', op', wh', iN so, iN (if so < 2 then onN lw ||| 2 ^ so else onN lw), tx', pile', ?_, fun j hj => ?_⟩
    · simp only [fj_rd_readRule_48, nlit, hex, had, un4, un6, un13, Option.bind_some]
      exact ⟨_, _, _, _, _, _, _, _, _, _, _, _, rfl⟩
    · simp only [fj_m_clause_128, nlit, hf0, ↓reduceIte]
    · rw [htx j (by omega), upd_ne (by omega)]; exact v10 j hj
  obtain rfl | rfl | rfl : so = 0 ∨ so = 1 ∨ so = 2 := by omega
  · have hX := hB.take
    have e20 : (iN (kI L n i) = iN 20) = True := eq_true (by rw [hk])
    have e22 : (iN (kI L n i) = iN 22) = False := by rw [iN_eq (by omega) (by omega)]; exact eq_false (by omega)
    have hs2 : (iN 0 = iN 2) = False := eq_false (by decide)
    rcases J_sum (o := 0) (x := 0) (pi := pi) (wh := wh) (pile := pile) hX (by omega) v5 (by omega) n2 hmc1 TX.refl with ⟨i1, c, code1, a2, p2, t2, b2, wd2, tx2, pile2, r1, r2, r3, r4, r5, r6, r7, r8, r9, r10⟩ | ⟨f, q, i2, k2, c2, code2, a2, t2, b2, wd2, wr2, pi2, op2, wh2, tx2, pile2, r1, r2, r3, r4, r5, r6, r7⟩
    · have hR : fj_m_clause_66 (iN n) a p t b wd (iN (680 * T)) (iN cs.length) pi (iN 0) wh s0 (iN (if 0 < 2 then onN lw ||| 2 ^ 0 else onN lw)) tx tp pile (iN 0) (iN lw.length) = fj_m_clause_128 (iN n) a2 p2 t2 b2 wd2 (iN (680 * T)) (iN (cs ++ c).length) (iN 0) (iN 0) (b01 true) (iN 0) (iN (onN (lw ++ [(0, c, 0, 0)]))) tx2 tp pile2 (iN 0) (iN (680 * T + 1 + 3 * lw.length)) (iN cs.length) (iN 0) := by
        rw [hon c]
        simp (disch := omega) only [fj_m_clause_66, nlit, n1, un5, bnd, iN_add, iN_mul, iN_inb, iN_ix, ltT, hs3, hs2, r6, un12, Option.bind_some, ↓reduceIte]
      have hC : f_rd_readRule (iN (L.length + 1)) (iN 0) mI (iN i) (iN (kI L n i)) al kd (iN cs.length) (iN lw.length) (enO (lw.findIdx? (fun c => c.1 == 0))) (enO (lw.findIdx? (fun c => c.1 == 1))) st nu code kds frs tos (iN (kI L n i)) = fj_rd_readRule_48 (iN (L.length + 1)) (iN 0) mI (iN i1) (iN (kI L n i1)) (iN 127) kd (iN (cs ++ c).length) (iN lw.length) (enO (lw.findIdx? (fun c => c.1 == 0))) (enO (lw.findIdx? (fun c => c.1 == 1))) st code1 kds frs tos (iN (20 + 0)) (iN cs.length) := by
        rw [← hk]
        simp only [f_rd_readRule, fj_rd_readRule_27, nlit, e4, un2, e20, e22, r1, un6, Option.bind_some, ↓reduceIte]
      rw [hR, hC]
      exact R_end hB hso hl r4 (by omega) (by omega) hn v4 ⟨(show (0 : Nat) ≤ 3 by decide), fun _ => r10 0 0 (by decide), fun z => (by cases z), fun z => (by cases z), fun z => (by cases z)⟩ r2 v6 v8 v10 r9 r8 v9 r7 (by omega)
    · have hR : fj_m_clause_66 (iN n) a p t b wd (iN (680 * T)) (iN cs.length) pi (iN 0) wh s0 (iN (if 0 < 2 then onN lw ||| 2 ^ 0 else onN lw)) tx tp pile (iN 0) (iN lw.length) = fj_m_clause_128 (iN n) a2 (iN q) t2 b2 wd2 (iN (680 * T)) wr2 pi2 op2 wh2 (iN 0) (iN (if 0 < 2 then onN lw ||| 2 ^ 0 else onN lw)) tx2 tp pile2 (iN 0) (iN (680 * T + 1 + 3 * lw.length)) (iN cs.length) (iN f) := by
        simp (disch := omega) only [fj_m_clause_66, nlit, n1, un5, bnd, iN_add, iN_mul, iN_inb, iN_ix, ltT, hs3, hs2, r6, un12, Option.bind_some, ↓reduceIte]
      have hC : f_rd_readRule (iN (L.length + 1)) (iN 0) mI (iN i) (iN (kI L n i)) al kd (iN cs.length) (iN lw.length) (enO (lw.findIdx? (fun c => c.1 == 0))) (enO (lw.findIdx? (fun c => c.1 == 1))) st nu code kds frs tos (iN (kI L n i)) = fj_rd_readRule_48 (iN (L.length + 1)) (iN f) (iN q) (iN i2) k2 (iN 127) kd (iN c2) (iN lw.length) (enO (lw.findIdx? (fun c => c.1 == 0))) (enO (lw.findIdx? (fun c => c.1 == 1))) st code2 kds frs tos (iN (kI L n i)) (iN cs.length) := by
        simp only [f_rd_readRule, fj_rd_readRule_27, nlit, e4, un2, e20, e22, r1, un6, Option.bind_some, ↓reduceIte]
      rw [hR, hC]
      exact bad f q i2 c2 k2 (iN 127) code2 a2 t2 b2 wd2 wr2 pi2 op2 wh2 tx2 pile2 r2 r3 r7
  · have hX := hB.fee
    have e20 : (iN (kI L n i) = iN 20) = False := by rw [iN_eq (by omega) (by omega)]; exact eq_false (by omega)
    have e22 : (iN (kI L n i) = iN 22) = False := by rw [iN_eq (by omega) (by omega)]; exact eq_false (by omega)
    have hs2 : (iN 1 = iN 2) = False := eq_false (by decide)
    rcases J_sum (o := 0) (x := 0) (pi := pi) (wh := wh) (pile := pile) hX (by omega) v5 (by omega) n2 hmc1 TX.refl with ⟨i1, c, code1, a2, p2, t2, b2, wd2, tx2, pile2, r1, r2, r3, r4, r5, r6, r7, r8, r9, r10⟩ | ⟨f, q, i2, k2, c2, code2, a2, t2, b2, wd2, wr2, pi2, op2, wh2, tx2, pile2, r1, r2, r3, r4, r5, r6, r7⟩
    · have hR : fj_m_clause_66 (iN n) a p t b wd (iN (680 * T)) (iN cs.length) pi (iN 0) wh s0 (iN (if 1 < 2 then onN lw ||| 2 ^ 1 else onN lw)) tx tp pile (iN 1) (iN lw.length) = fj_m_clause_128 (iN n) a2 p2 t2 b2 wd2 (iN (680 * T)) (iN (cs ++ c).length) (iN 0) (iN 0) (b01 true) (iN 1) (iN (onN (lw ++ [(1, c, 0, 0)]))) tx2 tp pile2 (iN 1) (iN (680 * T + 1 + 3 * lw.length)) (iN cs.length) (iN 0) := by
        rw [hon c]
        simp (disch := omega) only [fj_m_clause_66, nlit, n1, un5, bnd, iN_add, iN_mul, iN_inb, iN_ix, ltT, hs3, hs2, r6, un12, Option.bind_some, ↓reduceIte]
      have hC : f_rd_readRule (iN (L.length + 1)) (iN 0) mI (iN i) (iN (kI L n i)) al kd (iN cs.length) (iN lw.length) (enO (lw.findIdx? (fun c => c.1 == 0))) (enO (lw.findIdx? (fun c => c.1 == 1))) st nu code kds frs tos (iN (kI L n i)) = fj_rd_readRule_48 (iN (L.length + 1)) (iN 0) mI (iN i1) (iN (kI L n i1)) (iN 250) kd (iN (cs ++ c).length) (iN lw.length) (enO (lw.findIdx? (fun c => c.1 == 0))) (enO (lw.findIdx? (fun c => c.1 == 1))) st code1 kds frs tos (iN (20 + 1)) (iN cs.length) := by
        rw [← hk]
        simp only [f_rd_readRule, fj_rd_readRule_27, nlit, e4, un2, e20, e22, r1, un6, Option.bind_some, ↓reduceIte]
      rw [hR, hC]
      exact R_end hB hso hl r4 (by omega) (by omega) hn v4 ⟨(show (1 : Nat) ≤ 3 by decide), fun z => (by cases z), fun _ => r10 0 0 (by decide), fun z => (by cases z), fun z => (by cases z)⟩ r2 v6 v8 v10 r9 r8 v9 r7 (by omega)
    · have hR : fj_m_clause_66 (iN n) a p t b wd (iN (680 * T)) (iN cs.length) pi (iN 0) wh s0 (iN (if 1 < 2 then onN lw ||| 2 ^ 1 else onN lw)) tx tp pile (iN 1) (iN lw.length) = fj_m_clause_128 (iN n) a2 (iN q) t2 b2 wd2 (iN (680 * T)) wr2 pi2 op2 wh2 (iN 1) (iN (if 1 < 2 then onN lw ||| 2 ^ 1 else onN lw)) tx2 tp pile2 (iN 1) (iN (680 * T + 1 + 3 * lw.length)) (iN cs.length) (iN f) := by
        simp (disch := omega) only [fj_m_clause_66, nlit, n1, un5, bnd, iN_add, iN_mul, iN_inb, iN_ix, ltT, hs3, hs2, r6, un12, Option.bind_some, ↓reduceIte]
      have hC : f_rd_readRule (iN (L.length + 1)) (iN 0) mI (iN i) (iN (kI L n i)) al kd (iN cs.length) (iN lw.length) (enO (lw.findIdx? (fun c => c.1 == 0))) (enO (lw.findIdx? (fun c => c.1 == 1))) st nu code kds frs tos (iN (kI L n i)) = fj_rd_readRule_48 (iN (L.length + 1)) (iN f) (iN q) (iN i2) k2 (iN 250) kd (iN c2) (iN lw.length) (enO (lw.findIdx? (fun c => c.1 == 0))) (enO (lw.findIdx? (fun c => c.1 == 1))) st code2 kds frs tos (iN (kI L n i)) (iN cs.length) := by
        simp only [f_rd_readRule, fj_rd_readRule_27, nlit, e4, un2, e20, e22, r1, un6, Option.bind_some, ↓reduceIte]
      rw [hR, hC]
      exact bad f q i2 c2 k2 (iN 250) code2 a2 t2 b2 wd2 wr2 pi2 op2 wh2 tx2 pile2 r2 r3 r7
  · have hX := hB.bars
    have e20 : (iN (kI L n i) = iN 20) = False := by rw [iN_eq (by omega) (by omega)]; exact eq_false (by omega)
    have e22 : (iN (kI L n i) = iN 22) = True := eq_true (by rw [hk])
    have hs2 : (iN 2 = iN 2) = True := eq_true rfl
    rcases J_either (pi := pi) (wh := wh) (pile := pile) hX v5 (by omega) n2 hmc1 TX.refl with ⟨i1, c, code1, a2, p2, t2, b2, wd2, tx2, pile2, r1, r2, r3, r4, r5, r6, r7, r8, r9, r10⟩ | ⟨f, q, i2, k2, c2, code2, a2, t2, b2, wd2, wr2, pi2, op2, wh2, tx2, pile2, r1, r2, r3, r4, r5, r6, r7⟩
    · have hR : fj_m_clause_66 (iN n) a p t b wd (iN (680 * T)) (iN cs.length) pi (iN 0) wh s0 (iN (if 2 < 2 then onN lw ||| 2 ^ 2 else onN lw)) tx tp pile (iN 2) (iN lw.length) = fj_m_clause_128 (iN n) a2 p2 t2 b2 wd2 (iN (680 * T)) (iN (cs ++ c).length) (iN 0) (iN 0) (b01 true) (iN 2) (iN (onN (lw ++ [(2, c, 0, 0)]))) tx2 tp pile2 (iN 2) (iN (680 * T + 1 + 3 * lw.length)) (iN cs.length) (iN 0) := by
        rw [hon c]
        simp (disch := omega) only [fj_m_clause_66, nlit, n1, un5, bnd, iN_add, iN_mul, iN_inb, iN_ix, ltT, hs3, r6, un12, Option.bind_some, ↓reduceIte]
      have hC : f_rd_readRule (iN (L.length + 1)) (iN 0) mI (iN i) (iN (kI L n i)) al kd (iN cs.length) (iN lw.length) (enO (lw.findIdx? (fun c => c.1 == 0))) (enO (lw.findIdx? (fun c => c.1 == 1))) st nu code kds frs tos (iN (kI L n i)) = fj_rd_readRule_48 (iN (L.length + 1)) (iN 0) mI (iN i1) (iN (kI L n i1)) (iN 250) kd (iN (cs ++ c).length) (iN lw.length) (enO (lw.findIdx? (fun c => c.1 == 0))) (enO (lw.findIdx? (fun c => c.1 == 1))) st code1 kds frs tos (iN (20 + 2)) (iN cs.length) := by
        rw [← hk]
        simp only [f_rd_readRule, fj_rd_readRule_27, nlit, e4, un2, e20, e22, r1, un6, Option.bind_some, ↓reduceIte]
      rw [hR, hC]
      exact R_end hB hso hl r4 (by omega) (by omega) hn v4 ⟨(show (2 : Nat) ≤ 3 by decide), fun z => (by cases z), fun z => (by cases z), fun _ => r10, fun z => (by cases z)⟩ r2 v6 v8 v10 r9 r8 v9 r7 (by omega)
    · have hR : fj_m_clause_66 (iN n) a p t b wd (iN (680 * T)) (iN cs.length) pi (iN 0) wh s0 (iN (if 2 < 2 then onN lw ||| 2 ^ 2 else onN lw)) tx tp pile (iN 2) (iN lw.length) = fj_m_clause_128 (iN n) a2 (iN q) t2 b2 wd2 (iN (680 * T)) wr2 pi2 op2 wh2 (iN 2) (iN (if 2 < 2 then onN lw ||| 2 ^ 2 else onN lw)) tx2 tp pile2 (iN 2) (iN (680 * T + 1 + 3 * lw.length)) (iN cs.length) (iN f) := by
        simp (disch := omega) only [fj_m_clause_66, nlit, n1, un5, bnd, iN_add, iN_mul, iN_inb, iN_ix, ltT, hs3, r6, un12, Option.bind_some, ↓reduceIte]
      have hC : f_rd_readRule (iN (L.length + 1)) (iN 0) mI (iN i) (iN (kI L n i)) al kd (iN cs.length) (iN lw.length) (enO (lw.findIdx? (fun c => c.1 == 0))) (enO (lw.findIdx? (fun c => c.1 == 1))) st nu code kds frs tos (iN (kI L n i)) = fj_rd_readRule_48 (iN (L.length + 1)) (iN f) (iN q) (iN i2) k2 (iN 250) kd (iN c2) (iN lw.length) (enO (lw.findIdx? (fun c => c.1 == 0))) (enO (lw.findIdx? (fun c => c.1 == 1))) st code2 kds frs tos (iN (kI L n i)) (iN cs.length) := by
        simp only [f_rd_readRule, fj_rd_readRule_27, nlit, e4, un2, e20, e22, r1, un6, Option.bind_some, ↓reduceIte]
      rw [hR, hC]
      exact bad f q i2 c2 k2 (iN 250) code2 a2 t2 b2 wd2 wr2 pi2 op2 wh2 tx2 pile2 r2 r3 r7
end
