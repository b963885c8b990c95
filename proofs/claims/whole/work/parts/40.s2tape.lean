/-! ===== PURE: text: the tape, whole ===== -/
section
variable {by_ tp kd st nu tx0 : Nat → Int32} {n : Nat} {B : Nat → Nat} {L : List Tk} {T : Nat}
theorem T_loop (hB : PB by_ tp kd st nu n B L T) : ∀ (m i z y : Nat) (cs : List (Nat × Nat)) (lw : Lw) (al : Int32) (code kds frs tos tx pile : Nat → Int32) (a p t b : Int32) (wd : Int64) (pi wh s0 : Int32), L.length - i ≤ m → m + 1 < z → m < y → IV tx0 L T i cs lw code kds frs tos tx → RS B n L i a p t b wd →
    (∃ i' cs' lw' al' code' kds' frs' tos' a' p' t' b' wd' pi' wh' so' tx' pile', itr (un14 (fb_rd_readTape_48 (iN (L.length + 1)) kd st nu)) z (cS n L i cs lw al code kds frs tos) = some (cS n L i' cs' lw' al' code' kds' frs' tos').2 ∧ itr (un13 (fb_m_readText_48 (iN n) (iN (680 * T)) tp)) y (a, p, t, b, wd, iN cs.length, pi, iN 0, wh, s0, iN (onN lw), tx, pile) = some (.inr (a', p', t', b', wd', iN cs'.length, pi', iN 0, wh', so', iN (onN lw'), tx', pile')) ∧ IV tx0 L T i' cs' lw' code' kds' frs' tos' tx') ∨
    (∃ f q i2 k2 al' cl' sz' tk' fe' code' kds' frs' tos' a' t' b' wd' wr' pi' op' wh' so' on' tx' pile', itr (un14 (fb_rd_readTape_48 (iN (L.length + 1)) kd st nu)) z (cS n L i cs lw al code kds frs tos) = some (iN f, iN q, i2, k2, al', cl', sz', tk', fe', code', kds', frs', tos') ∧ f ≠ 0 ∧ f < 10 ∧ itr (un13 (fb_m_readText_48 (iN n) (iN (680 * T)) tp)) y (a, p, t, b, wd, iN cs.length, pi, iN 0, wh, s0, iN (onN lw), tx, pile) = some (.inl (iN f, a', iN q, t', b', wd', wr', pi', op', wh', so', on', tx', pile')) ∧ OT tx0 tx' T) := by
  intro m
  induction m using Nat.strongRecOn with
  | ind m ih =>
  intro i z y cs lw al code kds frs tos tx pile a p t b wd pi wh s0 hm hz hy hI hr
  obtain ⟨z, rfl⟩ : ∃ w, z = w + 1 := ⟨z - 1, by omega⟩
  obtain ⟨y, rfl⟩ : ∃ w, y = w + 1 := ⟨y - 1, by omega⟩
  obtain ⟨v1, v2, v3, v4, v5⟩ := id hI
  have hL := hB.take.len
  have hl20 := v4.1
  have k4 := (hB.take.tok v1).2.2.2.1
  have hMK : MK (kI L n i) (tI L n i).2.1 t b wd := hr.2.2.1
  by_cases hk0 : kI L n i = 0
  · have t0 : (t = iN 0) = True := hMK.t0.trans (eq_true hk0)
    have hlt : (iN 20 < iN lw.length) = False := by rw [iN_lt (by omega) (by omega)]; exact eq_false (by omega)
    have hk0' : (iN (kI L n i) = iN 0) = True := eq_true (by rw [hk0])
    refine Or.inl ⟨i, cs, lw, al, code, kds, frs, tos, a, p, t, b, wd, pi, wh, s0, tx, pile, itr_end ?_, itr_end ?_, hI⟩
    · simp only [cS, un14, fb_rd_readTape_48, nlit, hlt, hk0', ↓reduceIte]
    · simp only [un13, fb_m_readText_48, nlit, t0, ↓reduceIte]
  · have t0 : (t = iN 0) = False := hMK.t0.trans (eq_false hk0)
    have hil := kI_lt hk0
    rcases J_clause (al := al) (pi := pi) (wh := wh) (s0 := s0) (pile := pile) hB hI hk0 hr with ⟨i', cs', lw', al', code', kds', frs', tos', a', p', t', b', wd', pi', wh', so', tx', pile', g1, g2, g3, g4, g5⟩ | ⟨f, q, hf, hf2, ⟨l', i2, k2, al', cl', sz', tk', fe', code', kds', frs', tos', g1⟩, ⟨a', t', b', wd', wr', pi', op', wh', so', on', tx', pile', g2, g3⟩⟩
    · have g5' := g5.1
      have st2 : un13 (fb_m_readText_48 (iN n) (iN (680 * T)) tp) (a, p, t, b, wd, iN cs.length, pi, iN 0, wh, s0, iN (onN lw), tx, pile) = some (.inl (a', p', t', b', wd', iN cs'.length, pi', iN 0, wh', so', iN (onN lw'), tx', pile')) := by
        simp only [un13, fb_m_readText_48, nlit, t0, g2, un14, Option.bind_some, ↓reduceIte]
      rw [itr_step g1, itr_step st2]
      exact ih (L.length - i') (by omega) i' z y cs' lw' al' code' kds' frs' tos' tx' pile' a' p' t' b' wd' pi' wh' so' (Nat.le_refl _) (by omega) (by omega) g5 g4
    · have hf0 : (iN f = iN 0) = False := by rw [iN_eq (by omega) (by omega)]; exact eq_false hf
      have st2 : un13 (fb_m_readText_48 (iN n) (iN (680 * T)) tp) (a, p, t, b, wd, iN cs.length, pi, iN 0, wh, s0, iN (onN lw), tx, pile) = some (.inr (.inl (iN f, a', iN q, t', b', wd', wr', pi', op', wh', so', on', tx', pile'))) := by
        simp only [un13, fb_m_readText_48, nlit, t0, g2, un14, hf0, Option.bind_some, ↓reduceIte]
      refine Or.inr ⟨f, q, i2, k2, al', cl', sz', tk', fe', code', kds', frs', tos', a', t', b', wd', wr', pi', op', wh', so', on', tx', pile', ?_, hf, hf2, itr_end st2, g3⟩
      rw [itr_step g1]
      obtain ⟨z, rfl⟩ : ∃ w, z = w + 1 := ⟨z - 1, by omega⟩
      refine itr_end ?_
      by_cases c : iN 20 < l'
      · have c' := eq_true c
        simp only [un14, fb_rd_readTape_48, nlit, c', ↓reduceIte]
      · have c' := eq_false c
        simp only [un14, fb_rd_readTape_48, nlit, c', hf0, ↓reduceIte]
end
/-- the tape is read: either all is a law, or the same fault -/
theorem J_tape {ln td : Int32} {by_ tp : Nat → Int32} {n T : Nat} (hTP : TP ln by_ td tp n) (hT : T < 4) {a : Nat → Int32} (ha : a 3 = iN T) {tok hr fa pl at0 k0 al0 dcl dsz dtk dfe : Int32} {kinds starts numbers dcode dkinds dfrom dto tx pile : Nat → Int32} {a0 p0 t0 b0 x0 wr0 pi0 op0 wh0 so0 on0 : Int32} {wd0 : Int64} :
    (∃ lw tok' at' k' al' cl' kinds' starts' numbers' code' kds' frs' tos' a' p' t' b' wd' wr' pi' op' wh' so' on' tx' pile', f_rd_readTape ln tok hr fa pl at0 k0 al0 kinds starts numbers by_ dcl dsz dtk dfe dcode dkinds dfrom dto = some (iN 1, iN 0, tok', iN 1, iN 0, mI, at', k', al', kinds', starts', numbers', cl', iN lw.length, enO (lw.findIdx? (fun c => c.1 == 0)), enO (lw.findIdx? (fun c => c.1 == 1)), code', kds', frs', tos') ∧ CL cl' (iN lw.length) (enO (lw.findIdx? (fun c => c.1 == 0))) (enO (lw.findIdx? (fun c => c.1 == 1))) code' kds' frs' tos' lw ∧ f_m_readText td a0 p0 t0 b0 wd0 x0 wr0 pi0 op0 wh0 so0 on0 a tx tp pile = some (iN 0, a', p', t', b', wd', iN (680 * T), wr', pi', op', wh', so', on', tx', pile') ∧ ML tx' T lw ∧ LW lw ∧ OT tx tx' T) ∨
    (∃ f q tok' at' k' al' kinds' starts' numbers' cl' sz' tk' fe' code' kds' frs' tos' a' t' b' wd' wr' pi' op' wh' so' on' tx' pile', f_rd_readTape ln tok hr fa pl at0 k0 al0 kinds starts numbers by_ dcl dsz dtk dfe dcode dkinds dfrom dto = some (iN 0, iN 0, tok', iN 1, iN f, iN q, at', k', al', kinds', starts', numbers', cl', sz', tk', fe', code', kds', frs', tos') ∧ f ≠ 0 ∧ f < 10 ∧ f_m_readText td a0 p0 t0 b0 wd0 x0 wr0 pi0 op0 wh0 so0 on0 a tx tp pile = some (iN f, a', iN q, t', b', wd', iN (680 * T), wr', pi', op', wh', so', on', tx', pile') ∧ OT tx tx' T) := by
  have hTB := hTP.bytes
  obtain ⟨rfl, rfl, hn, -⟩ := hTP
  generalize (fun k => (by_ k).toInt.toNat) = B at hTB
  obtain ⟨kd, st, nu, s1, s2⟩ := C_split (tk0 := tok) (kd := kinds) (st := starts) (nu := numbers) hTB
  have hB : PB by_ tp kd st nu n B (tkL B n 0) T := ⟨hTB, rfl, s2, hT⟩
  have hL := hB.take.len
  have hk0 := (hB.take.tok (i := 0) (Nat.zero_le _)).1
  obtain ⟨a1, p1, t1, b1, wd1, n1, n2⟩ := M_first (p := p0) (t := t0) (b := b0) (w := wd0) hTB (rfl : tkL B n 0 = tkL B n 0)
  have hI : IV tx (tkL B n 0) T 0 [] [] dcode dkinds dfrom dto (upd tx (680 * T) (iN 0)) := by
    refine ⟨Nat.zero_le _, Nat.le_refl _, Nat.le_refl _, ⟨by decide, fun c hc => by cases hc⟩, ?_, ?_, ?_, ?_, upd_same, fun j hj => upd_ne (by omega)⟩
    · intro j o hj; rw [List.getElem?_nil] at hj; cases hj
    · intro j o hj; rw [List.getElem?_nil] at hj; cases hj
    · intro j o hj; rw [List.getElem?_nil] at hj; cases hj
    · intro j o hj; rw [List.getElem?_nil] at hj; cases hj
  have hclear : f_law_clear dcl dsz dtk dfe = some (iN 0, iN 0, mI, mI) := rfl
  have hbig : 1000 < KF := kf_lt (by decide)
  have hon : onN [] = 0 := rfl
  have hcS : cS n (tkL B n 0) 0 [] [] al0 dcode dkinds dfrom dto = (0, 0, -1, 0, kd 0, al0, iN 0, iN 0, mI, mI, dcode, dkinds, dfrom, dto) := by rw [hk0]; rfl
  have n1' : f_m_nextToken (iN n) 0 p0 t0 b0 wd0 tp = some (a1, p1, t1, b1, wd1) := n1
  have h680 : (680 : Int32) * a 3 = iN (680 * T) := by rw [ha]; exact iN_mul (a := 680) (b := T)
  rcases T_loop (tx0 := tx) hB (tkL B n 0).length 0 KF KF [] [] al0 dcode dkinds dfrom dto (upd tx (680 * T) (iN 0)) pile a1 p1 t1 b1 wd1 pi0 wh0 so0 (by omega) (by omega) (by omega) hI n2 with ⟨i', cs', lw', al', code', kds', frs', tos', a', p', t', b', wd', pi', wh', so', tx', pile', g1, g2, g3⟩ | ⟨f, q, i2, k2, al', cl', sz', tk', fe', code', kds', frs', tos', a', t', b', wd', wr', pi', op', wh', so', on', tx', pile', g1, hf, hf2, g2, g3⟩
  · obtain ⟨v1, v2, v3, v4, v5, v6, v7, v8, v9, v10⟩ := g3
    rw [hcS] at g1
    have g2' : itr (un13 (fb_m_readText_48 (iN n) (iN (680 * T)) tp)) KF (a1, p1, t1, b1, wd1, 0, pi0, 0, wh0, so0, 0, upd tx (680 * T) (iN 0), pile) = some (.inr (a', p', t', b', wd', iN cs'.length, pi', iN 0, wh', so', iN (onN lw'), tx', pile')) := g2
    refine Or.inl ⟨lw', iN ((tkL B n 0).length + 1), iN i', iN (kI (tkL B n 0) n i'), al', iN cs'.length, kd, st, nu, code', kds', frs', tos', a', p', t', b', wd', iN cs'.length, pi', iN 0, wh', so', iN (onN lw'), tx', pile', ?_, ?_, ?_, ?_, v4, v10⟩
    · unfold f_rd_readTape
      rw [s1, Option.bind_some]
      simp only [un4]
      rw [hclear, Option.bind_some]
      simp only [un4]
      rw [g1, Option.bind_some]
      rfl
    · refine ⟨rfl, rfl, rfl, cs'.length, by omega, rfl, fun i c hc => ?_⟩
      obtain ⟨d1, d2, d3⟩ := v6 i c hc
      refine ⟨d1, fun hne => ?_, d3⟩
      obtain ⟨s, e1, e2, e3, e4⟩ := d2 hne
      exact ⟨s, e1, e2, e3, fun j o hj => v5 _ o (e4 j o hj)⟩
    · unfold f_m_readText
      rw [h680, if_pos (by rw [iN_inb (by omega)]; omega), iN_ix (by omega)]
      simp only [bnd]
      rw [n1', Option.bind_some]
      simp only [un5]
      have g2'' : itr (un13 (fb_m_readText_48 (iN n) (iN (680 * T)) tp)) KF (a1, p1, t1, b1, wd1, 0, pi0, 0, wh0, so0, 0, upd tx (680 * T) 0, pile) = some (.inr (a', p', t', b', wd', iN cs'.length, pi', iN 0, wh', so', iN (onN lw'), tx', pile')) := g2'
      rw [g2'', Option.bind_some]
      rfl
    · refine ⟨v9, fun i c hc => ?_⟩
      obtain ⟨d1, d2, d3⟩ := v8 i c hc
      refine ⟨d1, fun hne => ?_, d3⟩
      obtain ⟨s, e1, e2, e3, e4⟩ := d2 hne
      exact ⟨s, e1, e2, by omega, fun j o hj => v7 _ o (e4 j o hj)⟩
  · rw [hcS] at g1
    have hf0 : (iN f = 0) = False := by
      show (iN f = iN 0) = False
      rw [iN_eq (by omega) (by omega)]; exact eq_false hf
    refine Or.inr ⟨f, q, iN ((tkL B n 0).length + 1), i2, k2, al', kd, st, nu, cl', sz', tk', fe', code', kds', frs', tos', a', t', b', wd', wr', pi', op', wh', so', on', tx', pile', ?_, hf, hf2, ?_, g3⟩
    · unfold f_rd_readTape
      rw [s1, Option.bind_some]
      simp only [un4]
      rw [hclear, Option.bind_some]
      simp only [un4]
      rw [g1, Option.bind_some]
      simp only [un13, fj_rd_readTape_115, hf0, ↓reduceIte]; rfl
    · unfold f_m_readText
      rw [h680, if_pos (by rw [iN_inb (by omega)]; omega), iN_ix (by omega)]
      simp only [bnd]
      rw [n1', Option.bind_some]
      simp only [un5]
      have g2'' : itr (un13 (fb_m_readText_48 (iN n) (iN (680 * T)) tp)) KF (a1, p1, t1, b1, wd1, 0, pi0, 0, wh0, so0, 0, upd tx (680 * T) 0, pile) = some (.inl (iN f, a', iN q, t', b', wd', wr', pi', op', wh', so', on', tx', pile')) := g2
      rw [g2'', Option.bind_some]
      rfl
