/-! ===== PURE: text: sums and asks, whole ===== -/
section
variable {by_ tp kd st nu tx0 : Nat → Int32} {n : Nat} {B : Nat → Nat} {L : List Tk} {al so : Int32} {aF : Nat → Bool} {T : Nat}
theorem J_sum (hX : PX by_ tp kd st nu n B L al so aF T) {o : Nat} (ho : o ≤ 8) {i x : Nat} {cs : List (Nat × Nat)} {code : Nat → Int32} (hcc : CC code cs) (hlen : cs.length + x ≤ i) {a p t b : Int32} {wd : Int64} (hr : RS B n L i a p t b wd) {tx pile : Nat → Int32} (hmc : MC tx T cs) (htx : TX tx0 tx T) {pi wh : Int32} :
    (∃ i' c code' a' p' t' b' wd' tx' pile', f_rd_readSum (iN (L.length + 1)) (iN 0) mI (iN i) (iN (kI L n i)) al st (iN cs.length) kd nu code (iN o) = some (iN 0, mI, iN i', iN (kI L n i'), iN (cs ++ c).length, code') ∧ CC code' (cs ++ c) ∧ i < i' ∧ i' ≤ L.length ∧ (cs ++ c).length + x ≤ i' ∧ f_m_summed (iN n) a p t b wd (iN (680 * T)) (iN cs.length) pi (iN o) wh so tx tp pile = some (iN 0, a', p', t', b', wd', iN (cs ++ c).length, iN 0, iN o, b01 true, tx', pile') ∧ RS B n L i' a' p' t' b' wd' ∧ MC tx' T (cs ++ c) ∧ TX tx0 tx' T ∧ ∀ t v, t + v + (2 * (8 - o) + 3) ≤ 60 → tyR aF c t v = some (t, v + 1)) ∨
    (∃ f q i2 k2 c2 code2 a' t' b' wd' wr' pi' op' wh' tx' pile', f_rd_readSum (iN (L.length + 1)) (iN 0) mI (iN i) (iN (kI L n i)) al st (iN cs.length) kd nu code (iN o) = some (iN f, iN q, iN i2, k2, iN c2, code2) ∧ f ≠ 0 ∧ f < 10 ∧ i2 ≤ 300 ∧ c2 ≤ 300 ∧ f_m_summed (iN n) a p t b wd (iN (680 * T)) (iN cs.length) pi (iN o) wh so tx tp pile = some (iN f, a', iN q, t', b', wd', wr', pi', op', wh', tx', pile') ∧ TX tx0 tx' T) := by
  have hL := hX.len
  have hT := hX.2.2.2.1
  have hfm : f_m_summed (iN n) a p t b wd (iN (680 * T)) (iN cs.length) pi (iN o) wh so tx tp pile = (itr (un11 (fb_m_summed_10 (iN n) (iN (680 * T)) so tp)) KF (a, p, t, b, wd, iN cs.length, iN 0, iN o, b01 false, tx, pile)).bind (gS T) := rfl
  have hm : MR tx0 n B L T i [] o false cs (a, p, t, b, wd, iN cs.length, iN 0, iN o, b01 false, tx, pile) := ⟨a, p, t, b, wd, tx, pile, rfl, hr, hmc, htx, trivial⟩
  have hf : ∀ A B C D E F G H I J K M, f_rd_readSum A B C D E F G H I J K M = (FG_rd_readSum 44).1 A B C D E F G H I J K M := fun _ _ _ _ _ _ _ _ _ _ _ _ => rfl
  rw [hfm, hf]
  rcases S_all (tx0 := tx0) hX ho i x cs code [] _ hcc hlen (fun v hv => by cases hv) (fun v hv => by cases hv) (Nat.zero_le _) hm with ⟨i', c, code', s', k, A, cr, r1, r2, r3, r4, r5, r6, r7, r8, r9, r10, r11, r12, r13⟩ | ⟨f, q, i2, k2, c2, code2, r1, r2, r3, r4, r5, r6⟩
  · refine Or.inl ?_
    obtain ⟨a', p', t', b', wd', tx1, pile', rfl, g1, g2, g3, g4⟩ := r8
    rw [List.append_nil] at g4 r7
    have hMK : MK (kI L n i') (tI L n i').2.1 t' b' wd' := g1.2.2.1
    have hvA : ∀ v ∈ A, v < 100 := fun v hv => by have := r10 v hv; omega
    have hgo := M_goesOn hMK g4 (by omega) hvA
    rw [decide_eq_false (fun z => z.elim r12 (fun w => by have := r10 40 w.2; omega))] at hgo
    have hlc : (cs ++ c).length = cr.length + A.length := by rw [r9, List.length_append, List.length_map]
    have g4' : PL pile' (A ++ []) := by rw [List.append_nil]; exact g4
    obtain ⟨tx2, s1, s2, s3⟩ := M_settle (least := 3) hT (by decide) (K0 := []) (fun v z => by cases z) (fun v z => by cases z) (cr := cr) (A := A) (by omega) (by rw [List.append_nil]; omega) r10 g2 g3 g4'
    rw [List.append_nil, ← hlc] at s1
    rw [← r9] at s2
    have bT1 : (b01 true = iN 0) = False := bT0
    have st3 : un11 (fb_m_summed_10 (iN n) (iN (680 * T)) so tp) (a', p', t', b', wd', iN cr.length, iN A.length, iN o, b01 true, tx1, pile') = some (.inr (.inr (a', p', t', b', wd', iN cr.length, iN A.length, iN o, b01 true, tx1, pile'))) := by
      simp only [un11, fb_m_summed_10, nlit, bT1, hgo, bF0, Option.bind_some, ↓reduceIte]
    refine ⟨i', c, code', a', p', t', b', wd', tx2, pile', r1, r2, r3, r4, r5, ?_, g1, s2, s3, r13⟩
    have hkf : 1000 < KF := kf_lt (by decide)
    have hst := stps_itr k (KF - k - 1 + 1) _ _ r7
    rw [show KF - k - 1 + 1 + k = KF by omega] at hst
    rw [hst, itr_end st3, Option.bind_some]
    have h00 : (0 < iN ([] : List Nat).length) = False := eq_false (by decide)
    have s1' : f_m_settle (iN (680 * T)) (iN cr.length) (iN A.length) tx1 pile' 3 = _ := s1
    simp only [gS, Sum.elim_inr, un11]
    rw [s1', Option.bind_some]
    simp only [un3, h00, ↓reduceIte]; rfl
  · refine Or.inr ?_
    obtain ⟨a', t', b', wd', wr', pi', op', wh', tx', pile', e1, e2⟩ := r6 KF (Nat.le_of_lt (kf_lt (by omega)))
    exact ⟨f, q, i2, k2, c2, code2, a', t', b', wd', wr', pi', op', wh', tx', pile', r1, r2, r3, r4, r5, e1, e2⟩
def askE (tp : Nat → Int32) (n T : Nat) (so wr pi wh : Int32) (tx pile : Nat → Int32) : (Int32 × Int32 × Int32 × Int32 × Int64 × Int32) ⊕ (Int32 × Int32 × Int32 × Int32 × Int32 × Int64 × Int32) → Option T12 := Sum.elim
      (un6 fun at_11 place_12 token_13 number_14 word_15 opens_16 =>
        some (3, at_11, place_12, token_13, number_14, word_15, wr, pi, opens_16, wh, tx, pile)
      )
      (un7 fun l1_17 at_18 place_19 token_20 number_21 word_22 opens_23 =>
        (f_m_summed (iN n) at_18 place_19 token_20 number_21 word_22 (iN (680 * T)) wr pi opens_23 wh so tx tp pile).bind (un12 fun r24 at_25 place_26 token_27 number_28 word_29 written_30 piled_31 opens_32 isWhole_33 texts_34 pile_35 =>
        if r24 = 0 then
          (f_m_compareOf token_27).bind (fun r36 =>
          if r36 < 0 then
            some (1, at_25, place_26, token_27, number_28, word_29, written_30, piled_31, opens_32, isWhole_33, texts_34, pile_35)
          else
            (f_m_nextToken (iN n) at_25 place_26 token_27 number_28 word_29 tp).bind (un5 fun at_37 place_38 token_39 number_40 word_41 =>
            (f_m_summed (iN n) at_37 place_38 token_39 number_40 word_41 (iN (680 * T)) written_30 piled_31 opens_32 isWhole_33 so texts_34 tp pile_35).bind (un12 fun r42 at_43 place_44 token_45 number_46 word_47 written_48 piled_49 opens_50 isWhole_51 texts_52 pile_53 =>
            if r42 = 0 then
              (f_m_emit (iN (680 * T)) written_48 texts_52 r36 0).bind (un2 fun written_54 texts_55 =>
              (itr (un3 (fb_m_asks_105 (iN (680 * T)) l1_17)) KF (0, written_54, texts_55)).bind
                (un2 fun written_59 texts_60 =>
                  some (0, at_43, place_44, token_45, number_46, word_47, written_59, piled_49, opens_50 - l1_17, isWhole_51, texts_60, pile_53)
                ))
            else
              some (r42, at_43, place_44, token_45, number_46, word_47, written_48, piled_49, opens_50, isWhole_51, texts_52, pile_53))))
        else
          some (r24, at_25, place_26, token_27, number_28, word_29, written_30, piled_31, opens_32, isWhole_33, texts_34, pile_35)))
theorem asks_is {a p t b wr pi op wh : Int32} {wd : Int64} {tx pile : Nat → Int32} : f_m_asks (iN n) a p t b wd (iN (680 * T)) wr pi op wh so tx tp pile = (itr (un7 (fb_m_asks_2 (iN n) tp)) KF (iN 0, a, p, t, b, wd, op)).bind (askE tp n T so wr pi wh tx pile) := rfl
def cmO (k : Nat) : Nat := if k = 3 then 10 else if k = 15 then 11 else if k = 4 then 12 else if k = 16 then 13 else if k = 5 then 14 else 15
theorem cm_ok : ∀ k, k < 100 → (f_rd_compares (iN k) = some (b01 (decide ((3 ≤ k ∧ k ≤ 6) ∨ k = 15 ∨ k = 16)))) ∧ ((3 ≤ k ∧ k ≤ 6) ∨ k = 15 ∨ k = 16 → cE (cmO k, 0) = 20000 + k ∧ 10 ≤ cmO k ∧ cmO k < 16 ∧ (if k = 3 then iN 10 else if k = 15 then iN 11 else if k = 4 then iN 12 else if k = 16 then iN 13 else if k = 5 then iN 14 else if k = 6 then iN 15 else mI) = iN (cmO k)) ∧ (¬ ((3 ≤ k ∧ k ≤ 6) ∨ k = 15 ∨ k = 16) → (if k = 3 then iN 10 else if k = 15 then iN 11 else if k = 4 then iN 12 else if k = 16 then iN 13 else if k = 5 then iN 14 else if k = 6 then iN 15 else mI) = mI) := by decide +kernel
theorem M_nots (hT : T < 4) {o : Nat} (ho : o < 100) : ∀ (m j z : Nat) (cr : List (Nat × Nat)) (tx : Nat → Int32), j + m = o → m < z → cr.length + m ≤ 300 → MC tx T cr → TX tx0 tx T → ∃ tx', itr (un3 (fb_m_asks_105 (iN (680 * T)) (iN o))) z (iN j, iN cr.length, tx) = some (iN (cr.length + m), tx') ∧ MC tx' T (cr ++ List.replicate m (20, 0)) ∧ TX tx0 tx' T
  | 0, j, z, cr, tx, hj, hz, hl, h, ht => by
    obtain ⟨z, rfl⟩ : ∃ y, z = y + 1 := ⟨z - 1, by omega⟩
    refine ⟨tx, itr_end ?_, by rw [List.replicate_zero, List.append_nil]; exact h, ht⟩
    simp (disch := omega) only [un3, fb_m_asks_105, iN_lt, ltF, ↓reduceIte]; rfl
  | m + 1, j, z, cr, tx, hj, hz, hl, h, ht => by
    obtain ⟨z, rfl⟩ : ∃ y, z = y + 1 := ⟨z - 1, by omega⟩
    obtain ⟨tx1, e1, e2, e3⟩ := M_emit hT h ht (show cr.length < 300 by omega) 20 0
    have hlen : (cr ++ [(20, 0)]).length = cr.length + 1 := by rw [List.length_append]; rfl
    obtain ⟨tx2, w1, w2, w3⟩ := M_nots hT ho m (j + 1) z (cr ++ [(20, 0)]) tx1 (by omega) (by omega) (by omega) e2 e3
    rw [hlen] at w1
    have hlt : (iN j < iN o) = True := by rw [iN_lt (by omega) (by omega)]; exact eq_true (by omega)
    refine ⟨tx2, ?_, by rw [← rep_snoc]; exact w2, w3⟩
    rw [show cr.length + (m + 1) = cr.length + 1 + m by omega, ← w1]
    refine itr_step ?_
    simp only [un3, fb_m_asks_105, nlit, hlt, e1, un2, iN_add, Option.bind_some, ↓reduceIte]
end
