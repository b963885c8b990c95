/-! ===== PURE: text: EITHER ===== -/
def itrB {σ ε : Type} (f : σ → Option (σ ⊕ ε)) (n : Nat) (r : Option (σ ⊕ ε)) : Option ε := r.bind (fun x => match x with
  | .inl s => itr f n s
  | .inr e => some e)
theorem itr_B {σ ε : Type} {f : σ → Option (σ ⊕ ε)} {n : Nat} {s : σ} : itr f (n + 1) s = itrB f n (f s) := by
  rw [itr]; unfold itrB
  cases f s with
  | none => rfl
  | some x => cases x <;> rfl
section
variable {by_ tp kd st nu tx0 : Nat → Int32} {n : Nat} {B : Nat → Nat} {L : List Tk} {al so : Int32} {aF : Nat → Bool} {T : Nat}
theorem J_askT (hX : PX by_ tp kd st nu n B L al so aF T) {i x : Nat} {cs : List (Nat × Nat)} {code : Nat → Int32} (hcc : CC code cs) (hlen : cs.length + x ≤ i) {a p t b : Int32} {wd : Int64} (hr : RS B n L i a p t b wd) {tx pile : Nat → Int32} (hmc : MC tx T cs) (htx : TX tx0 tx T) {pi wh : Int32} :
    (∃ i' c code' a' p' t' b' wd' tx' pile', f_rd_readAsk (iN (L.length + 1)) (iN 0) mI (iN i) (iN (kI L n i)) al st (iN cs.length) kd nu code (iN 0) = some (iN 0, mI, iN i', iN (kI L n i'), iN (cs ++ c).length, code') ∧ CC code' (cs ++ c) ∧ i < i' ∧ i' ≤ L.length ∧ (cs ++ c).length + x ≤ i' ∧ f_m_asks (iN n) a p t b wd (iN (680 * T)) (iN cs.length) pi (iN 0) wh so tx tp pile = some (iN 0, a', p', t', b', wd', iN (cs ++ c).length, iN 0, iN 0, b01 true, tx', pile') ∧ RS B n L i' a' p' t' b' wd' ∧ MC tx' T (cs ++ c) ∧ TX tx0 tx' T ∧ ∀ t, t + 20 ≤ 60 → tyR aF c t 0 = some (t + 1, 0)) ∨
    (∃ f q i2 k2 c2 code2 a' t' b' wd' wr' pi' op' wh' tx' pile', f_rd_readAsk (iN (L.length + 1)) (iN 0) mI (iN i) (iN (kI L n i)) al st (iN cs.length) kd nu code (iN 0) = some (iN f, iN q, iN i2, k2, iN c2, code2) ∧ f ≠ 0 ∧ f < 10 ∧ i2 ≤ 300 ∧ c2 ≤ 300 ∧ f_m_asks (iN n) a p t b wd (iN (680 * T)) (iN cs.length) pi (iN 0) wh so tx tp pile = some (iN f, a', iN q, t', b', wd', wr', pi', op', wh', tx', pile') ∧ TX tx0 tx' T) := by
  have hf : ∀ A B C D E F G H I J K M, f_rd_readAsk A B C D E F G H I J K M = FG_rd_readAsk 11 A B C D E F G H I J K M := fun _ _ _ _ _ _ _ _ _ _ _ _ => rfl
  rw [hf, asks_is]
  rcases A_all (tx0 := tx0) hX 8 0 10 rfl (by decide) KF i x cs code a p t b wd tx pile pi wh (Nat.le_of_lt (kf_lt (by decide))) hcc (by omega) hr hmc htx with ⟨i1, c, code1, a2, p2, t2, b2, wd2, tx2, pile2, r1, r2, r3, r4, r5, r6, r7, r8, r9, r10⟩ | h
  · rw [List.replicate_zero, List.append_nil] at r8
    exact Or.inl ⟨i1, c, code1, a2, p2, t2, b2, wd2, tx2, pile2, r1, r2, r3, r4, by omega, r6, r7, r8, r9, r10⟩
  · exact Or.inr h
/-- behind a fault -/
theorem H_end105 {p k : Int32} {code : Nat → Int32} {f i c I z : Nat} (hf : f ≠ 0) (hf2 : f < 10) (hI : I < 1000) : itrB (un8 (fb_rd_readEither_4 (iN (L.length + 1)) al st kd nu)) (z + 1) (fj_rd_readEither_84_4 (iN (L.length + 1)) (iN f) p (iN i) k al st (iN c) kd nu code (iN I)) = some (iN f, p, iN i, k, iN c, code) := by
  have h0 : (iN f = iN 0) = False := by rw [iN_eq (by omega) (by omega)]; exact eq_false hf
  have e1 : fj_rd_readEither_84_4 (iN (L.length + 1)) (iN f) p (iN i) k al st (iN c) kd nu code (iN I) = some (.inl (iN 0, iN (I + 1), iN f, p, iN i, k, iN c, code)) := by
    simp only [fj_rd_readEither_84_4, fj_rd_readEither_105_4, nlit, h0, iN_add, ↓reduceIte]
  rw [e1]
  unfold itrB
  rw [Option.bind_some]
  refine itr_end ?_
  by_cases cI : I + 1 < 300
  · have j3 : (iN (I + 1) < iN 300) = True := by rw [iN_lt (by omega) (by omega)]; exact eq_true cI
    simp only [un8, fb_rd_readEither_4, nlit, j3, ↓reduceIte]
  · have j3 : (iN (I + 1) < iN 300) = False := by rw [iN_lt (by omega) (by omega)]; exact eq_false cI
    simp only [un8, fb_rd_readEither_4, nlit, j3, ↓reduceIte]
theorem H_end70 {p k : Int32} {code : Nat → Int32} {f i c I z : Nat} (hf : f ≠ 0) (hf2 : f < 10) (hI : I < 1000) (hc : c ≤ 300) : ∃ c' code', itrB (un8 (fb_rd_readEither_4 (iN (L.length + 1)) al st kd nu)) (z + 1) (fj_rd_readEither_70_4 (iN (L.length + 1)) (iN f) p (iN i) k al st (iN c) kd nu code (iN I)) = some (iN f, p, iN i, k, iN c', code') ∧ c' ≤ 300 := by
  by_cases c0 : 0 < I
  · have h0 : (iN 0 < iN I) = True := by rw [iN_lt (by omega) (by omega)]; exact eq_true c0
    obtain ⟨c', code', e1, e2⟩ := C_emitA (code := code) (v := iN 20025) hc
    refine ⟨c', code', ?_, e2⟩
    rw [← H_end105 (L := L) (al := al) (st := st) (kd := kd) (nu := nu) (p := p) (k := k) (code := code') (i := i) (c := c') (z := z) hf hf2 hI]
    congr 1
    simp only [fj_rd_readEither_70_4, nlit, h0, e1, un2, Option.bind_some, ↓reduceIte]
  · have h0 : (iN 0 < iN I) = False := by rw [iN_lt (by omega) (by omega)]; exact eq_false c0
    refine ⟨c, code, ?_, hc⟩
    rw [← H_end105 (L := L) (al := al) (st := st) (kd := kd) (nu := nu) (p := p) (k := k) (code := code) (i := i) (c := c) (z := z) hf hf2 hI]
    congr 1
    simp only [fj_rd_readEither_70_4, nlit, h0, ↓reduceIte]
theorem H_inner {p k : Int32} {code : Nat → Int32} {f i c J z : Nat} (hf : f ≠ 0) (hf2 : f < 10) (hJ : J < 1000) : itr (un7 (fb_rd_readEither_22 (iN (L.length + 1)) al st kd nu)) (z + 1) (iN J, iN f, p, iN i, k, iN c, code) = some (iN f, p, iN i, k, iN c, code) := by
  have h0 : (iN f = iN 0) = False := by rw [iN_eq (by omega) (by omega)]; exact eq_false hf
  refine itr_end ?_
  by_cases cI : J < 300
  · have j3 : (iN J < iN 300) = True := by rw [iN_lt (by omega) (by omega)]; exact eq_true cI
    simp only [un7, fb_rd_readEither_22, nlit, j3, h0, ↓reduceIte]
  · have j3 : (iN J < iN 300) = False := by rw [iN_lt (by omega) (by omega)]; exact eq_false cI
    simp only [un7, fb_rd_readEither_22, nlit, j3, ↓reduceIte]
end
section
variable (tp kd st nu tx0 : Nat → Int32) (n : Nat) (B : Nat → Nat) (L : List Tk) (al so : Int32) (aF : Nat → Bool) (T : Nat)
def cI6 (I : Nat) : (Int32 × Int32 × Int32 × Int32 × Int32 × (Nat → Int32)) → Option ((Int32 × Int32 × Int32 × Int32 × Int32 × Int32 × Int32 × (Nat → Int32)) ⊕ (Int32 × Int32 × Int32 × Int32 × Int32 × (Nat → Int32))) := un6 fun fault_20 place_21 at_22 kind_23 draft_codeLength_24 draft_code_25 => fj_rd_readEither_70_4 (iN (L.length + 1)) fault_20 place_21 at_22 kind_23 al st draft_codeLength_24 kd nu draft_code_25 (iN I)
end
section
variable {by_ tp kd st nu tx0 : Nat → Int32} {n : Nat} {B : Nat → Nat} {L : List Tk} {al so : Int32} {aF : Nat → Bool} {T : Nat}
theorem E_in (hX : PX by_ tp kd st nu n B L al so aF T) {cs0 : List (Nat × Nat)} : ∀ (m i I J x zI zO zR : Nat) (c0 : List (Nat × Nat)) (code : Nat → Int32) (a p t b : Int32) (wd : Int64) (tx pile : Nat → Int32), L.length - i ≤ m → m < zI → m + 1 < zO → m + 1 < zR → I + 1 ≤ i → J ≤ i → CC code (cs0 ++ c0) → (cs0 ++ c0).length + (if 0 < I then 1 else 0) + x ≤ i → RS B n L i a p t b wd → MC tx T (cs0 ++ c0) → TX tx0 tx T → tyR aF c0 0 0 = some (if 0 < I then 2 else 1, 0) →
    (∃ i' c code' a' p' t' b' wd' tx' pile', itrB (un8 (fb_rd_readEither_4 (iN (L.length + 1)) al st kd nu)) zO ((itr (un7 (fb_rd_readEither_22 (iN (L.length + 1)) al st kd nu)) zI (iN J, iN 0, mI, iN i, iN (kI L n i), iN (cs0 ++ c0).length, code)).bind (cI6 kd st nu L al I)) = some (iN 0, mI, iN i', iN (kI L n i'), iN (cs0 ++ c).length, code') ∧ CC code' (cs0 ++ c) ∧ i ≤ i' ∧ i' ≤ L.length ∧ (cs0 ++ c).length + x ≤ i' ∧ itrB (un14 (fb_m_either_6 (iN n) (iN (680 * T)) so tp)) zR (fj_m_either_35_6 (iN n) a p t b wd (iN (680 * T)) (iN (cs0 ++ c0).length) (iN 0) (iN 0) (b01 true) so tx tp pile (b01 (decide (0 < I)))) = some (.inr (a', p', t', b', wd', iN (cs0 ++ c).length, iN 0, iN 0, b01 true, tx', pile')) ∧ RS B n L i' a' p' t' b' wd' ∧ MC tx' T (cs0 ++ c) ∧ TX tx0 tx' T ∧ tyR aF c 0 0 = some (1, 0)) ∨
    (∃ f q i2 k2 c2 code2 a' t' b' wd' wr' pi' op' wh' tx' pile', itrB (un8 (fb_rd_readEither_4 (iN (L.length + 1)) al st kd nu)) zO ((itr (un7 (fb_rd_readEither_22 (iN (L.length + 1)) al st kd nu)) zI (iN J, iN 0, mI, iN i, iN (kI L n i), iN (cs0 ++ c0).length, code)).bind (cI6 kd st nu L al I)) = some (iN f, iN q, iN i2, k2, iN c2, code2) ∧ f ≠ 0 ∧ f < 10 ∧ i2 ≤ 300 ∧ c2 ≤ 300 ∧ itrB (un14 (fb_m_either_6 (iN n) (iN (680 * T)) so tp)) zR (fj_m_either_35_6 (iN n) a p t b wd (iN (680 * T)) (iN (cs0 ++ c0).length) (iN 0) (iN 0) (b01 true) so tx tp pile (b01 (decide (0 < I)))) = some (.inl (iN f, a', iN q, t', b', wd', wr', pi', op', wh', tx', pile')) ∧ TX tx0 tx' T) := by
  intro m
  induction m using Nat.strongRecOn with
  | ind m ih =>
  intro i I J x zI zO zR c0 code a p t b wd tx pile hm hzI hzO hzR hI hJ hcc hlen hr hmc htx hty
  obtain ⟨zI, rfl⟩ : ∃ y, zI = y + 1 := ⟨zI - 1, by omega⟩
  obtain ⟨zO, rfl⟩ : ∃ y, zO = y + 1 := ⟨zO - 1, by omega⟩
  obtain ⟨zR, rfl⟩ : ∃ y, zR = y + 1 := ⟨zR - 1, by omega⟩
  have hL := hX.len
  have hT := hX.2.2.2.1
  have hi := hr.1
  have k4 := (hX.tok hi).2.2.2.1
  have hMK : MK (kI L n i) (tI L n i).2.1 t b wd := hr.2.2.1
  have hand := hMK.isWord (k := 6) (by decide) rfl
  have hor := hMK.wdc (k := 5) (by decide) w_or
  have bT1 : (b01 true = iN 0) = False := bT0
  have bF1 : (b01 false = iN 0) = True := bF0
  have h10 : (iN 1 = iN 0) = False := eq_false (by decide)
  have R35 : ∀ l2, fj_m_either_35_6 (iN n) a p t b wd (iN (680 * T)) (iN (cs0 ++ c0).length) (iN 0) (iN 0) (b01 true) so tx tp pile l2 = fj_m_either_73_6 (iN n) a p t b wd (iN (680 * T)) (iN (cs0 ++ c0).length) (iN 0) (iN 0) (b01 true) so tx tp pile (b01 (decide (kI L n i = 26))) l2 (b01 (decide (kI L n i = 25))) := by
    intro l2
    have w_and' : f_m_w3 (iN 97) (iN 110) (iN 100) = some (jN (pkL (WD.getD 6 []))) := w_and
    have hand' : f_m_isWord t wd (jN (pkL (WD.getD 6 []))) = some (b01 (decide (kI L n i = 26))) := hand
    have hor' : _ = decide (kI L n i = 25) := hor
    rw [← hor']
    by_cases q1 : t = iN 2
    · have q1' : (t = iN 2) = True := eq_true q1
      by_cases q2 : lg_cmp wd (Int64.ofInt 28530) = iN 0
      · have q2' : (lg_cmp wd (Int64.ofInt 28530) = iN 0) = True := eq_true q2
        simp only [fj_m_either_35_6, nlit, w_and', hand', q1', q2', Option.bind_some, ↓reduceIte]; rfl
      · have q2' : (lg_cmp wd (Int64.ofInt 28530) = iN 0) = False := eq_false q2
        simp only [fj_m_either_35_6, nlit, w_and', hand', q1', q2', Option.bind_some, ↓reduceIte]; rfl
    · have q1' : (t = iN 2) = False := eq_false q1
      simp only [fj_m_either_35_6, nlit, w_and', hand', q1', Option.bind_some, ↓reduceIte]; rfl
  rw [R35]
  by_cases c26 : kI L n i = 26
  · have hil := kI_lt (show kI L n i ≠ 0 by omega)
    have j3 : (iN J < iN 300) = True := by rw [iN_lt (by omega) (by omega)]; exact eq_true (by omega)
    have e26 : (iN (kI L n i) = iN 26) = True := eq_true (by rw [c26])
    have e4 := C_stepT hX hil (k := iN (kI L n i))
    obtain ⟨a', p', t', b', wd', n1, n2⟩ := M_nextT hX.1 hr hil
    have R73 : fj_m_either_73_6 (iN n) a p t b wd (iN (680 * T)) (iN (cs0 ++ c0).length) (iN 0) (iN 0) (b01 true) so tx tp pile (b01 (decide (kI L n i = 26))) (b01 (decide (0 < I))) (b01 (decide (kI L n i = 25))) = some (.inl (iN 1, b01 (decide (0 < I)), iN 1, a', p', t', b', wd', iN (cs0 ++ c0).length, iN 0, iN 0, b01 true, tx, pile)) := by
      rw [decide_eq_true c26]
      simp only [fj_m_either_73_6, fj_m_either_93_6, fj_m_either_107_6, nlit, bT1, h10, n1, un5, Option.bind_some, ↓reduceIte]; rfl
    have R0 : itrB (un14 (fb_m_either_6 (iN n) (iN (680 * T)) so tp)) (zR + 1) (some (.inl (iN 1, b01 (decide (0 < I)), iN 1, a', p', t', b', wd', iN (cs0 ++ c0).length, iN 0, iN 0, b01 true, tx, pile))) = itrB (un14 (fb_m_either_6 (iN n) (iN (680 * T)) so tp)) zR (un14 (fb_m_either_6 (iN n) (iN (680 * T)) so tp) (iN 1, b01 (decide (0 < I)), iN 1, a', p', t', b', wd', iN (cs0 ++ c0).length, iN 0, iN 0, b01 true, tx, pile)) := itr_B
    rw [R73, R0]
    rcases J_askT (tx0 := tx0) (pi := iN 0) (wh := b01 true) (pile := pile) (x := (if 0 < I then 1 else 0) + x + 1) hX hcc (by omega) n2 hmc htx with ⟨i1, c, code1, a2, p2, t2, b2, wd2, tx2, pile2, r1, r2, r3, r4, r5, r6, r7, r8, r9, r10⟩ | ⟨f, q, i2, k2, c2, code2, a2, t2, b2, wd2, wr2, pi2, op2, wh2, tx2, pile2, r1, r2, r3, r4, r5, r6, r7⟩
    · obtain ⟨code3, e5, e6⟩ := C_put r2 (show (cs0 ++ c0 ++ c).length < 300 by omega) (21, 0) (v := iN 20026) rfl
      obtain ⟨tx3, m1, m2, m3⟩ := M_emit hT r8 r9 (show (cs0 ++ c0 ++ c).length < 300 by omega) 21 0
      have hl1 : (cs0 ++ c0 ++ c ++ [(21, 0)]).length = (cs0 ++ c0 ++ c).length + 1 := by rw [List.length_append (as := cs0 ++ c0 ++ c)]; rfl
      have hass : cs0 ++ c0 ++ c ++ [(21, 0)] = cs0 ++ (c0 ++ (c ++ [(21, 0)])) := by rw [List.append_assoc, List.append_assoc]
      rw [← hl1] at m1
      rw [hass] at e5 e6 m1 m2 hl1
      have stI : un7 (fb_rd_readEither_22 (iN (L.length + 1)) al st kd nu) (iN J, iN 0, mI, iN i, iN (kI L n i), iN (cs0 ++ c0).length, code) = some (.inl (iN (J + 1), iN 0, mI, iN i1, iN (kI L n i1), iN (cs0 ++ (c0 ++ (c ++ [(21, 0)]))).length, code3)) := by
        simp only [un7, fb_rd_readEither_22, nlit, j3, e26, e4, r1, e5, un2, un6, iN_add, Option.bind_some, ↓reduceIte]
      have stR : un14 (fb_m_either_6 (iN n) (iN (680 * T)) so tp) (iN 1, b01 (decide (0 < I)), iN 1, a', p', t', b', wd', iN (cs0 ++ c0).length, iN 0, iN 0, b01 true, tx, pile) = fj_m_either_35_6 (iN n) a2 p2 t2 b2 wd2 (iN (680 * T)) (iN (cs0 ++ (c0 ++ (c ++ [(21, 0)]))).length) (iN 0) (iN 0) (b01 true) so tx3 tp pile2 (b01 (decide (0 < I))) := by
        simp only [un14, fb_m_either_6, nlit, h10, r6, un12, m1, un2, Option.bind_some, ↓reduceIte]
      rw [itr_step stI, stR]
      have hty2 : tyR aF (c0 ++ (c ++ [(21, 0)])) 0 0 = some (if 0 < I then 2 else 1, 0) := by
        rw [tyR_app, hty, Option.bind_some, tyR_app]
        show (tyR aF c (if 0 < I then 2 else 1) 0).bind _ = _
        rw [r10 _ (by split <;> omega), Option.bind_some, tyR_one]
        show tyS aF (21, 0) ((if 0 < I then 2 else 1) + 1) 0 = _
        rw [tyS_two (Or.inl rfl) (by split <;> omega)]; rfl
      rcases ih (L.length - i1) (by omega) i1 I (J + 1) x zI (zO + 1) zR (c0 ++ (c ++ [(21, 0)])) code3 a2 p2 t2 b2 wd2 tx3 pile2 (Nat.le_refl _) (by omega) (by omega) (by omega) (by omega) (by omega) e6 (by omega) r7 m2 m3 hty2 with ⟨i', c', code', a3, p3, t3, b3, wd3, tx4, pile3, y1, y2, y3, y4, y5⟩ | y
      · exact Or.inl ⟨i', c', code', a3, p3, t3, b3, wd3, tx4, pile3, y1, y2, by omega, y4, y5⟩
      · exact Or.inr y
    · have hf0 : (iN f = iN 0) = False := by rw [iN_eq (by omega) (by omega)]; exact eq_false r2
      obtain ⟨c', code', e5, e6⟩ := C_emitA (code := code2) (v := iN 20026) r5
      have stI : un7 (fb_rd_readEither_22 (iN (L.length + 1)) al st kd nu) (iN J, iN 0, mI, iN i, iN (kI L n i), iN (cs0 ++ c0).length, code) = some (.inl (iN (J + 1), iN f, iN q, iN i2, k2, iN c', code')) := by
        simp only [un7, fb_rd_readEither_22, nlit, j3, e26, e4, r1, e5, un2, un6, iN_add, Option.bind_some, ↓reduceIte]
      have stR : un14 (fb_m_either_6 (iN n) (iN (680 * T)) so tp) (iN 1, b01 (decide (0 < I)), iN 1, a', p', t', b', wd', iN (cs0 ++ c0).length, iN 0, iN 0, b01 true, tx, pile) = some (.inr (.inl (iN f, a2, iN q, t2, b2, wd2, wr2, pi2, op2, wh2, tx2, pile2))) := by
        simp only [un14, fb_m_either_6, nlit, h10, r6, un12, hf0, Option.bind_some, ↓reduceIte]
      obtain ⟨zI, rfl⟩ : ∃ y, zI = y + 1 := ⟨zI - 1, by omega⟩
      obtain ⟨c3, code3, e7, e8⟩ := H_end70 (L := L) (al := al) (st := st) (kd := kd) (nu := nu) (p := iN q) (k := k2) (code := code') (i := i2) (c := c') (I := I) (z := zO) r2 r3 (by omega) e6
      refine Or.inr ⟨f, q, i2, k2, c3, code3, a2, t2, b2, wd2, wr2, pi2, op2, wh2, tx2, pile2, ?_, r2, r3, r4, e8, ?_, r7⟩
      · rw [itr_step stI, H_inner r2 r3 (by omega), Option.bind_some]
        exact e7
      · rw [stR]; rfl
  · have e26 : (iN (kI L n i) = iN 26) = False := by rw [iN_eq (by omega) (by omega)]; exact eq_false c26
    have stI : un7 (fb_rd_readEither_22 (iN (L.length + 1)) al st kd nu) (iN J, iN 0, mI, iN i, iN (kI L n i), iN (cs0 ++ c0).length, code) = some (.inr (iN 0, mI, iN i, iN (kI L n i), iN (cs0 ++ c0).length, code)) := by
      by_cases cJ : J < 300
      · have j3 : (iN J < iN 300) = True := by rw [iN_lt (by omega) (by omega)]; exact eq_true cJ
        simp only [un7, fb_rd_readEither_22, nlit, j3, e26, ↓reduceIte]
      · have j3 : (iN J < iN 300) = False := by rw [iN_lt (by omega) (by omega)]; exact eq_false cJ
        simp only [un7, fb_rd_readEither_22, nlit, j3, ↓reduceIte]
    rw [itr_end stI, Option.bind_some]
    rw [decide_eq_false c26]
    -- the sign of or, if any
    obtain ⟨c1, code1, tx1, hcc1, hlen1, hmc1, htx1, hty1, hC70, hR73⟩ : ∃ c1 code1 tx1, CC code1 (cs0 ++ c1) ∧ (cs0 ++ c1).length + x ≤ i ∧ MC tx1 T (cs0 ++ c1) ∧ TX tx0 tx1 T ∧ tyR aF c1 0 0 = some (1, 0) ∧ cI6 kd st nu L al I (iN 0, mI, iN i, iN (kI L n i), iN (cs0 ++ c0).length, code) = fj_rd_readEither_84_4 (iN (L.length + 1)) (iN 0) mI (iN i) (iN (kI L n i)) al st (iN (cs0 ++ c1).length) kd nu code1 (iN I) ∧ fj_m_either_73_6 (iN n) a p t b wd (iN (680 * T)) (iN (cs0 ++ c0).length) (iN 0) (iN 0) (b01 true) so tx tp pile (b01 false) (b01 (decide (0 < I))) (b01 (decide (kI L n i = 25))) = fj_m_either_93_6 (iN n) a p t b wd (iN (680 * T)) (iN (cs0 ++ c1).length) (iN 0) (iN 0) (b01 true) so tx1 tp pile (b01 false) (b01 (decide (kI L n i = 25))) (b01 (decide (kI L n i = 25))) := by
      by_cases c0I : 0 < I
      · rw [if_pos c0I] at hlen hty
        have h0I : (iN 0 < iN I) = True := by rw [iN_lt (by omega) (by omega)]; exact eq_true c0I
        obtain ⟨code1, e5, e6⟩ := C_put hcc (show (cs0 ++ c0).length < 300 by omega) (22, 0) (v := iN 20025) rfl
        obtain ⟨tx1, m1, m2, m3⟩ := M_emit hT hmc htx (show (cs0 ++ c0).length < 300 by omega) 22 0
        have hl1 : (cs0 ++ c0 ++ [(22, 0)]).length = (cs0 ++ c0).length + 1 := by rw [List.length_append (as := cs0 ++ c0)]; rfl
        rw [← hl1] at m1
        rw [List.append_assoc] at e5 e6 m1 m2 hl1
        refine ⟨c0 ++ [(22, 0)], code1, tx1, e6, by omega, m2, m3, ?_, ?_, ?_⟩
        · rw [tyR_app, hty, Option.bind_some, tyR_one]; exact tyS_two (Or.inr rfl) (Nat.le_refl _)
        · simp only [cI6, un6, fj_rd_readEither_70_4, nlit, h0I, e5, un2, Option.bind_some, ↓reduceIte]
        · rw [decide_eq_true c0I]
          simp only [fj_m_either_73_6, nlit, bF1, bT1, m1, un2, Option.bind_some, ↓reduceIte]
      · rw [if_neg c0I] at hlen hty
        have h0I : (iN 0 < iN I) = False := by rw [iN_lt (by omega) (by omega)]; exact eq_false c0I
        refine ⟨c0, code, tx, hcc, by omega, hmc, htx, hty, ?_, ?_⟩
        · simp only [cI6, un6, fj_rd_readEither_70_4, nlit, h0I, ↓reduceIte]
        · rw [decide_eq_false c0I]
          simp only [fj_m_either_73_6, nlit, bF1, ↓reduceIte]
    rw [hC70, hR73]
    by_cases c25 : kI L n i = 25
    · have hil := kI_lt (show kI L n i ≠ 0 by omega)
      have e25 : (iN (kI L n i) = iN 25) = True := eq_true (by rw [c25])
      have e4 := C_stepT hX hil (k := iN (kI L n i))
      obtain ⟨a', p', t', b', wd', n1, n2⟩ := M_nextT hX.1 hr hil
      have R93 : fj_m_either_93_6 (iN n) a p t b wd (iN (680 * T)) (iN (cs0 ++ c1).length) (iN 0) (iN 0) (b01 true) so tx1 tp pile (b01 false) (b01 (decide (kI L n i = 25))) (b01 (decide (kI L n i = 25))) = some (.inl (iN 0, iN 1, iN 1, a', p', t', b', wd', iN (cs0 ++ c1).length, iN 0, iN 0, b01 true, tx1, pile)) := by
        rw [decide_eq_true c25]
        simp only [fj_m_either_93_6, fj_m_either_107_6, nlit, bF1, bT1, h10, n1, un5, Option.bind_some, ↓reduceIte]; rfl
      have R0 : itrB (un14 (fb_m_either_6 (iN n) (iN (680 * T)) so tp)) (zR + 1) (some (.inl (iN 0, iN 1, iN 1, a', p', t', b', wd', iN (cs0 ++ c1).length, iN 0, iN 0, b01 true, tx1, pile))) = itrB (un14 (fb_m_either_6 (iN n) (iN (680 * T)) so tp)) zR (un14 (fb_m_either_6 (iN n) (iN (680 * T)) so tp) (iN 0, iN 1, iN 1, a', p', t', b', wd', iN (cs0 ++ c1).length, iN 0, iN 0, b01 true, tx1, pile)) := itr_B
      have C84 : fj_rd_readEither_84_4 (iN (L.length + 1)) (iN 0) mI (iN i) (iN (kI L n i)) al st (iN (cs0 ++ c1).length) kd nu code1 (iN I) = some (.inl (iN 1, iN (I + 1), iN 0, mI, iN (i + 1), iN (kI L n (i + 1)), iN (cs0 ++ c1).length, code1)) := by
        simp only [fj_rd_readEither_84_4, fj_rd_readEither_105_4, nlit, e25, h10, e4, un2, iN_add, Option.bind_some, ↓reduceIte]
      have C0 : itrB (un8 (fb_rd_readEither_4 (iN (L.length + 1)) al st kd nu)) (zO + 1) (some (.inl (iN 1, iN (I + 1), iN 0, mI, iN (i + 1), iN (kI L n (i + 1)), iN (cs0 ++ c1).length, code1))) = itrB (un8 (fb_rd_readEither_4 (iN (L.length + 1)) al st kd nu)) zO (un8 (fb_rd_readEither_4 (iN (L.length + 1)) al st kd nu) (iN 1, iN (I + 1), iN 0, mI, iN (i + 1), iN (kI L n (i + 1)), iN (cs0 ++ c1).length, code1)) := itr_B
      rw [R93, R0, C84, C0]
      have I3 : (iN (I + 1) < iN 300) = True := by rw [iN_lt (by omega) (by omega)]; exact eq_true (by omega)
      rcases J_askT (tx0 := tx0) (pi := iN 0) (wh := b01 true) (pile := pile) (x := 1 + x) hX hcc1 (by omega) n2 hmc1 htx1 with ⟨i1, c, code2, a2, p2, t2, b2, wd2, tx2, pile2, r1, r2, r3, r4, r5, r6, r7, r8, r9, r10⟩ | ⟨f, q, i2, k2, c2, code2, a2, t2, b2, wd2, wr2, pi2, op2, wh2, tx2, pile2, r1, r2, r3, r4, r5, r6, r7⟩
      · have hass : cs0 ++ c1 ++ c = cs0 ++ (c1 ++ c) := List.append_assoc _ _ _
        rw [hass] at r1 r2 r5 r6 r8
        have stC : un8 (fb_rd_readEither_4 (iN (L.length + 1)) al st kd nu) (iN 1, iN (I + 1), iN 0, mI, iN (i + 1), iN (kI L n (i + 1)), iN (cs0 ++ c1).length, code1) = (itr (un7 (fb_rd_readEither_22 (iN (L.length + 1)) al st kd nu)) KF (iN 0, iN 0, mI, iN i1, iN (kI L n i1), iN (cs0 ++ (c1 ++ c)).length, code2)).bind (cI6 kd st nu L al (I + 1)) := by
          simp only [un8, fb_rd_readEither_4, nlit, I3, h10, r1, un6, Option.bind_some, ↓reduceIte]; rfl
        have stR : un14 (fb_m_either_6 (iN n) (iN (680 * T)) so tp) (iN 0, iN 1, iN 1, a', p', t', b', wd', iN (cs0 ++ c1).length, iN 0, iN 0, b01 true, tx1, pile) = fj_m_either_35_6 (iN n) a2 p2 t2 b2 wd2 (iN (680 * T)) (iN (cs0 ++ (c1 ++ c)).length) (iN 0) (iN 0) (b01 true) so tx2 tp pile2 (b01 (decide (0 < I + 1))) := by
          rw [decide_eq_true (show 0 < I + 1 by omega)]
          simp only [un14, fb_m_either_6, nlit, h10, r6, un12, Option.bind_some, ↓reduceIte]; rfl
        rw [stC, stR]
        have hty2 : tyR aF (c1 ++ c) 0 0 = some (if 0 < I + 1 then 2 else 1, 0) := by
          rw [if_pos (by omega), tyR_app, hty1, Option.bind_some]
          exact r10 1 (by decide)
        rcases ih (L.length - i1) (by omega) i1 (I + 1) 0 x KF zO zR (c1 ++ c) code2 a2 p2 t2 b2 wd2 tx2 pile2 (Nat.le_refl _) (kf_lt (by omega)) (by omega) (by omega) (by omega) (by omega) r2 (by rw [if_pos (by omega)]; omega) r7 r8 r9 hty2 with ⟨i', c', code', a3, p3, t3, b3, wd3, tx4, pile3, y1, y2, y3, y4, y5⟩ | y
        · exact Or.inl ⟨i', c', code', a3, p3, t3, b3, wd3, tx4, pile3, y1, y2, by omega, y4, y5⟩
        · exact Or.inr y
      · have hf0 : (iN f = iN 0) = False := by rw [iN_eq (by omega) (by omega)]; exact eq_false r2
        obtain ⟨zK, hzK⟩ : ∃ y, KF = y + 1 := ⟨KF - 1, by have : 1000 < KF := kf_lt (by decide); omega⟩
        obtain ⟨zO, rfl⟩ : ∃ y, zO = y + 1 := ⟨zO - 1, by omega⟩
        obtain ⟨c3, code3, e7, e8⟩ := H_end70 (L := L) (al := al) (st := st) (kd := kd) (nu := nu) (p := iN q) (k := k2) (code := code2) (i := i2) (c := c2) (I := I + 1) (z := zO) r2 r3 (by omega) r5
        have hin := H_inner (L := L) (al := al) (st := st) (kd := kd) (nu := nu) (p := iN q) (k := k2) (code := code2) (i := i2) (c := c2) (J := 0) (z := zK) r2 r3 (by decide)
        rw [← hzK] at hin
        have stC : un8 (fb_rd_readEither_4 (iN (L.length + 1)) al st kd nu) (iN 1, iN (I + 1), iN 0, mI, iN (i + 1), iN (kI L n (i + 1)), iN (cs0 ++ c1).length, code1) = fj_rd_readEither_70_4 (iN (L.length + 1)) (iN f) (iN q) (iN i2) k2 al st (iN c2) kd nu code2 (iN (I + 1)) := by
          simp only [un8, fb_rd_readEither_4, nlit, I3, h10, r1, un6, hin, Option.bind_some, ↓reduceIte]
        have stR : un14 (fb_m_either_6 (iN n) (iN (680 * T)) so tp) (iN 0, iN 1, iN 1, a', p', t', b', wd', iN (cs0 ++ c1).length, iN 0, iN 0, b01 true, tx1, pile) = some (.inr (.inl (iN f, a2, iN q, t2, b2, wd2, wr2, pi2, op2, wh2, tx2, pile2))) := by
          simp only [un14, fb_m_either_6, nlit, h10, r6, un12, hf0, Option.bind_some, ↓reduceIte]
        refine Or.inr ⟨f, q, i2, k2, c3, code3, a2, t2, b2, wd2, wr2, pi2, op2, wh2, tx2, pile2, ?_, r2, r3, r4, e8, ?_, r7⟩
        · rw [stC]; exact e7
        · rw [stR]; rfl
    · have e25 : (iN (kI L n i) = iN 25) = False := by rw [iN_eq (by omega) (by omega)]; exact eq_false c25
      refine Or.inl ⟨i, c1, code1, a, p, t, b, wd, tx1, pile, ?_, hcc1, Nat.le_refl _, hi, hlen1, ?_, hr, hmc1, htx1, hty1⟩
      · have C84 : fj_rd_readEither_84_4 (iN (L.length + 1)) (iN 0) mI (iN i) (iN (kI L n i)) al st (iN (cs0 ++ c1).length) kd nu code1 (iN I) = some (.inl (iN 0, iN (I + 1), iN 0, mI, iN i, iN (kI L n i), iN (cs0 ++ c1).length, code1)) := by
          simp only [fj_rd_readEither_84_4, fj_rd_readEither_105_4, nlit, e25, iN_add, ↓reduceIte]
        rw [C84]
        have C0 : itrB (un8 (fb_rd_readEither_4 (iN (L.length + 1)) al st kd nu)) (zO + 1) (some (.inl (iN 0, iN (I + 1), iN 0, mI, iN i, iN (kI L n i), iN (cs0 ++ c1).length, code1))) = itr (un8 (fb_rd_readEither_4 (iN (L.length + 1)) al st kd nu)) (zO + 1) (iN 0, iN (I + 1), iN 0, mI, iN i, iN (kI L n i), iN (cs0 ++ c1).length, code1) := rfl
        rw [C0]
        refine itr_end ?_
        by_cases cI : I + 1 < 300
        · have j3 : (iN (I + 1) < iN 300) = True := by rw [iN_lt (by omega) (by omega)]; exact eq_true cI
          simp only [un8, fb_rd_readEither_4, nlit, j3, ↓reduceIte]
        · have j3 : (iN (I + 1) < iN 300) = False := by rw [iN_lt (by omega) (by omega)]; exact eq_false cI
          simp only [un8, fb_rd_readEither_4, nlit, j3, ↓reduceIte]
      · have R93 : fj_m_either_93_6 (iN n) a p t b wd (iN (680 * T)) (iN (cs0 ++ c1).length) (iN 0) (iN 0) (b01 true) so tx1 tp pile (b01 false) (b01 (decide (kI L n i = 25))) (b01 (decide (kI L n i = 25))) = some (.inl (iN 0, iN 0, iN 0, a, p, t, b, wd, iN (cs0 ++ c1).length, iN 0, iN 0, b01 true, tx1, pile)) := by
          rw [decide_eq_false c25]
          simp only [fj_m_either_93_6, fj_m_either_107_6, nlit, bF1, ↓reduceIte]; rfl
        rw [R93]
        have C0 : itrB (un14 (fb_m_either_6 (iN n) (iN (680 * T)) so tp)) (zR + 1) (some (.inl (iN 0, iN 0, iN 0, a, p, t, b, wd, iN (cs0 ++ c1).length, iN 0, iN 0, b01 true, tx1, pile))) = itr (un14 (fb_m_either_6 (iN n) (iN (680 * T)) so tp)) (zR + 1) (iN 0, iN 0, iN 0, a, p, t, b, wd, iN (cs0 ++ c1).length, iN 0, iN 0, b01 true, tx1, pile) := rfl
        rw [C0]
        refine itr_end ?_
        simp only [un14, fb_m_either_6, nlit, ↓reduceIte]
end
