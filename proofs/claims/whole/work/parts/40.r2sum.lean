/-! ===== PURE: text: PRODUCT, SUM ===== -/
section
variable (tp kd st nu tx0 : Nat → Int32) (n : Nat) (B : Nat → Nat) (L : List Tk) (al so : Int32) (aF : Nat → Bool) (T : Nat)
def HP (o d : Nat) : Prop := ∀ (i x : Nat) (cs : List (Nat × Nat)) (code : Nat → Int32) (K : List Nat) (s : T11), CC code cs → cs.length + x ≤ i → (∀ v, K.head? = some v → v = 40 ∨ v = 3 ∨ v = 4) → (∀ v ∈ K, v < 100) → K.length ≤ 3 * o + 1 → MR tx0 n B L T i K o false cs s →
  (∃ i' c code' s' k A cr, (FG_rd_readSum d).2.1 (iN (L.length + 1)) (iN 0) mI (iN i) (iN (kI L n i)) al st (iN cs.length) kd nu code (iN o) = some (iN 0, mI, iN i', iN (kI L n i'), iN (cs ++ c).length, code') ∧ CC code' (cs ++ c) ∧ i < i' ∧ i' ≤ L.length ∧ (cs ++ c).length + x ≤ i' ∧ i + k = i' ∧ stps (un11 (fb_m_summed_10 (iN n) (iN (680 * T)) so tp)) k s s' ∧ MR tx0 n B L T i' (A ++ K) o true cr s' ∧ cs ++ c = cr ++ A.map (fun v => (v, 0)) ∧ (∀ v ∈ A, 5 ≤ v ∧ v < 40) ∧ A.length ≤ 1 ∧ ¬ (9 ≤ kI L n i' ∧ kI L n i' ≤ 11) ∧ ∀ t v, t + v + (2 * (8 - o) + 2) ≤ 60 → tyR aF c t v = some (t, v + 1)) ∨
  BD tp tx0 n so T ((FG_rd_readSum d).2.1 (iN (L.length + 1)) (iN 0) mI (iN i) (iN (kI L n i)) al st (iN cs.length) kd nu code (iN o)) i s
end
theorem tyR_op {aF : Nat → Bool} {c0 c : List (Nat × Nat)} {w D D' : Nat} (hw : 3 ≤ w) (hw2 : w ≤ 7) (h0 : ∀ t v, t + v + D ≤ 60 → tyR aF c0 t v = some (t, v + 1)) (h1 : ∀ t v, t + v + D' ≤ 60 → tyR aF c t v = some (t, v + 1)) (hD : D' + 1 ≤ D) : ∀ t v, t + v + D ≤ 60 → tyR aF (c0 ++ (c ++ [(w, 0)])) t v = some (t, v + 1) := by
  intro t v h
  rw [tyR_app, h0 t v h, Option.bind_some, tyR_app]
  show (tyR aF c t (v + 1)).bind _ = _
  rw [h1 t (v + 1) (by omega), Option.bind_some, tyR_one]
  show (if w = 0 then _ else if w = 1 then _ else if w = 2 then _ else if w < 8 then (if 2 ≤ v + 1 + 1 then some (t, v + 1 + 1 - 1) else none) else _) = _
  rw [if_neg (by omega), if_neg (by omega), if_neg (by omega), if_pos (by omega), if_pos (by omega)]; rfl
theorem cE_op {w : Nat} (h1 : 3 ≤ w) (h2 : w ≤ 7) : cE (w, 0) = 20000 + (w + 4) := by
  have : ∀ w, w < 8 → 3 ≤ w → cE (w, 0) = 20000 + (w + 4) := by decide
  exact this w (by omega) h1
section
variable {by_ tp kd st nu tx0 : Nat → Int32} {n : Nat} {B : Nat → Nat} {L : List Tk} {al so : Int32} {aF : Nat → Bool} {T : Nat}
/-- one more sign of a row: the reference settles what has lain, lays the sign, comes to the next -/
theorem M_sgn (hX : PX by_ tp kd st nu n B L al so aF T) {i o : Nat} {K A : List Nat} {cr : List (Nat × Nat)} {s : T11} (hm : MR tx0 n B L T i (A ++ K) o true cr s) {least w : Nat} (hw : (7 ≤ kI L n i ∧ kI L n i ≤ 8 ∧ least = 3) ∨ (9 ≤ kI L n i ∧ kI L n i ≤ 11 ∧ least = 5)) (hw2 : w + 4 = kI L n i) (hh : ∀ v, K.head? = some v → ¬ (least ≤ v ∧ v < 40)) (hv : ∀ v ∈ K, v < 100) (hA : ∀ v ∈ A, least ≤ v ∧ v < 40) (hl : cr.length + A.length ≤ 300) (hk : (A ++ K).length ≤ 100) : ∃ s1, un11 (fb_m_summed_10 (iN n) (iN (680 * T)) so tp) s = some (.inl s1) ∧ MR tx0 n B L T (i + 1) (w :: K) o false (cr ++ A.map (fun v => (v, 0))) s1 := by
  have hT := hX.2.2.2.1
  obtain ⟨a, p, t, b, wd, tx, pile, rfl, hr, hmc, htx, hpl⟩ := hm
  have hMK : MK (kI L n i) (tI L n i).2.1 t b wd := hr.2.2.1
  have hil := kI_lt (show kI L n i ≠ 0 by omega)
  have hvA : ∀ v ∈ A ++ K, v < 100 := by
    intro v z
    rcases List.mem_append.mp z with z | z
    · have := hA v z; omega
    · exact hv v z
  have hgo := M_goesOn hMK hpl (by omega) hvA
  rw [decide_eq_true (Or.inl (show 7 ≤ kI L n i ∧ kI L n i ≤ 11 by omega))] at hgo
  have bT1 : (b01 true = iN 0) = False := bT0
  have hlk : (A ++ K).length = A.length + K.length := List.length_append
  obtain ⟨tx3, s1, s2, s3⟩ := M_settle (least := least) hT (by omega) hh hv (by omega) (by omega) hA hmc htx hpl
  have hpK := PL.app hpl
  obtain ⟨q1, q2⟩ := M_push hpK (show K.length < 160 by omega) w
  obtain ⟨a', p', t', b', wd', n1, n2⟩ := M_nextT hX.1 hr hil
  have h00 : (iN 0 = iN 0) = True := eq_true rfl
  have hlr : (cr ++ A.map (fun v => (v, 0))).length = cr.length + A.length := by rw [List.length_append, List.length_map]
  refine ⟨(a', p', t', b', wd', iN (cr.length + A.length), iN (K.length + 1), iN o, iN 0, tx3, upd pile K.length (iN w)), ?_, a', p', t', b', wd', tx3, upd pile K.length (iN w), ?_, n2, s2, s3, q2⟩
  · have T7 := hMK.t43
    have T8 := hMK.t45
    have T9' := hMK.t42
    have T10' := hMK.t47
    have T11' := hMK.t37
    rcases hw with ⟨w1, w2, rfl⟩ | ⟨w1, w2, rfl⟩
    · by_cases e7 : kI L n i = 7
      · have u1 := T7.trans (eq_true e7)
        have hw3 : w = 3 := by omega
        subst hw3
        simp only [un11, fb_m_summed_10, fj_m_summed_24_10, fj_m_summed_42_10, f_m_behindOne, fj_m_behindOne_17, fj_m_behindOne_34, fj_m_behindOne_132, nlit, bT1, hgo, u1, s1, q1, n1, un2, un3, un5, un12, Option.bind_some, ↓reduceIte]
      · have u1 := T7.trans (eq_false e7)
        have u2 := T8.trans (eq_true (show kI L n i = 8 by omega))
        have hw3 : w = 4 := by omega
        subst hw3
        simp only [un11, fb_m_summed_10, fj_m_summed_24_10, fj_m_summed_42_10, f_m_behindOne, fj_m_behindOne_17, fj_m_behindOne_34, fj_m_behindOne_132, nlit, bT1, hgo, u1, u2, s1, q1, n1, un2, un3, un5, un12, Option.bind_some, ↓reduceIte]
    · have u1 := T7.trans (eq_false (show ¬ kI L n i = 7 by omega))
      have u2 := T8.trans (eq_false (show ¬ kI L n i = 8 by omega))
      by_cases e9 : kI L n i = 9
      · have u3 := T9'.trans (eq_true e9)
        have hw3 : w = 5 := by omega
        subst hw3
        simp only [un11, fb_m_summed_10, fj_m_summed_24_10, fj_m_summed_42_10, f_m_behindOne, fj_m_behindOne_63, fj_m_behindOne_92, fj_m_behindOne_132, nlit, bT1, hgo, u1, u2, u3, s1, q1, n1, un2, un3, un5, un12, Option.bind_some, ↓reduceIte]
      · have u3 := T9'.trans (eq_false e9)
        by_cases e10 : kI L n i = 10
        · have u4 := T10'.trans (eq_true e10)
          have hw3 : w = 6 := by omega
          subst hw3
          simp only [un11, fb_m_summed_10, fj_m_summed_24_10, fj_m_summed_42_10, f_m_behindOne, fj_m_behindOne_63, fj_m_behindOne_92, fj_m_behindOne_132, nlit, bT1, hgo, u1, u2, u3, u4, s1, q1, n1, un2, un3, un5, un12, Option.bind_some, ↓reduceIte]
        · have u4 := T10'.trans (eq_false e10)
          have u5 := T11'.trans (eq_true (show kI L n i = 11 by omega))
          have hw3 : w = 7 := by omega
          subst hw3
          simp only [un11, fb_m_summed_10, fj_m_summed_24_10, fj_m_summed_42_10, f_m_behindOne, fj_m_behindOne_63, fj_m_behindOne_92, fj_m_behindOne_132, nlit, bT1, hgo, u1, u2, u3, u4, u5, s1, q1, n1, un2, un3, un5, un12, Option.bind_some, ↓reduceIte]
  · rw [hlr]; rfl
/-- the loop of a product -/
theorem P_loop (hX : PX by_ tp kd st nu n B L al so aF T) {o d : Nat} (ho : o ≤ 8) (hO : HO tp kd st nu tx0 n B L al so aF T o (d + 1)) {K : List Nat} (hh : ∀ v, K.head? = some v → v = 40 ∨ v = 3 ∨ v = 4) (hv : ∀ v ∈ K, v < 100) (hK : K.length ≤ 3 * o + 1) {cs0 : List (Nat × Nat)} {x : Nat} : ∀ (m i j z : Nat) (c0 : List (Nat × Nat)) (code : Nat → Int32) (s : T11) (A : List Nat) (cr : List (Nat × Nat)), L.length - i ≤ m → m < z → i ≤ L.length → j ≤ i → CC code (cs0 ++ c0) → (cs0 ++ c0).length + x ≤ i → MR tx0 n B L T i (A ++ K) o true cr s → cs0 ++ c0 = cr ++ A.map (fun v => (v, 0)) → (∀ v ∈ A, 5 ≤ v ∧ v < 40) → A.length ≤ 1 → (∀ t v, t + v + (2 * (8 - o) + 2) ≤ 60 → tyR aF c0 t v = some (t, v + 1)) →
    (∃ i' c code' s' k A cr, itr (un7 (fb_rd_readProduct_7 (FG_rd_readSum (d + 1)).1 (FG_rd_readSum (d + 1)).2.1 (FG_rd_readSum (d + 1)).2.2 (iN (L.length + 1)) al st kd nu (iN o))) z (iN j, iN 0, mI, iN i, iN (kI L n i), iN (cs0 ++ c0).length, code) = some (iN 0, mI, iN i', iN (kI L n i'), iN (cs0 ++ c).length, code') ∧ CC code' (cs0 ++ c) ∧ i ≤ i' ∧ i' ≤ L.length ∧ (cs0 ++ c).length + x ≤ i' ∧ i + k = i' ∧ stps (un11 (fb_m_summed_10 (iN n) (iN (680 * T)) so tp)) k s s' ∧ MR tx0 n B L T i' (A ++ K) o true cr s' ∧ cs0 ++ c = cr ++ A.map (fun v => (v, 0)) ∧ (∀ v ∈ A, 5 ≤ v ∧ v < 40) ∧ A.length ≤ 1 ∧ ¬ (9 ≤ kI L n i' ∧ kI L n i' ≤ 11) ∧ ∀ t v, t + v + (2 * (8 - o) + 2) ≤ 60 → tyR aF c t v = some (t, v + 1)) ∨
    BD tp tx0 n so T (itr (un7 (fb_rd_readProduct_7 (FG_rd_readSum (d + 1)).1 (FG_rd_readSum (d + 1)).2.1 (FG_rd_readSum (d + 1)).2.2 (iN (L.length + 1)) al st kd nu (iN o))) z (iN j, iN 0, mI, iN i, iN (kI L n i), iN (cs0 ++ c0).length, code)) i s
  | m, i, j, 0, c0, code, s, A, cr, hm, hz, hi, hj, hcc, hlen, hmr, hcs, hA, hA1, hty => absurd hz (Nat.not_lt_zero _)
  | m, i, j, z + 1, c0, code, s, A, cr, hm, hz, hi, hj, hcc, hlen, hmr, hcs, hA, hA1, hty => by
    have hL := hX.len
    have k4 := (hX.tok hi).2.2.2.1
    have h00 : (iN 0 = iN 0) = True := eq_true rfl
    have hlc : (cs0 ++ c0).length = cr.length + A.length := by rw [hcs, List.length_append, List.length_map]
    by_cases ck : 9 ≤ kI L n i ∧ kI L n i ≤ 11
    · have hil := kI_lt (show kI L n i ≠ 0 by omega)
      obtain ⟨m, rfl⟩ : ∃ y, m = y + 1 := ⟨m - 1, by omega⟩
      have j3 : (iN j < iN 300) = True := by rw [iN_lt (by omega) (by omega)]; exact eq_true (by omega)
      have g9 : (iN (kI L n i) < iN 9) = False := by rw [iN_lt (by omega) (by omega)]; exact eq_false (by omega)
      have g11 : (iN 11 < iN (kI L n i)) = False := by rw [iN_lt (by omega) (by omega)]; exact eq_false (by omega)
      have e4 := C_stepT hX hil (k := iN (kI L n i))
      obtain ⟨s1, st1, m1⟩ := M_sgn (w := kI L n i - 4) hX hmr (Or.inr ⟨ck.1, ck.2, rfl⟩) (by omega) (fun v hv' => by have := hh v hv'; omega) hv hA (by omega) (by rw [List.length_append]; omega)
      rw [← hcs] at m1
      rcases hO (i + 1) 0 (x + 1) (cs0 ++ c0) code ((kI L n i - 4) :: K) s1 hcc (by omega) (by omega) (fun v hv' => by cases hv'; omega) (fun v hv' => by
          rcases List.mem_cons.mp hv' with rfl | q
          · omega
          · exact hv v q) (by rw [List.replicate_zero, List.nil_append, List.length_cons]; omega) m1 with ⟨i1, c, code1, s2, k, r1, r2, r3, r4, r5, r6, r7, r8, r9⟩ | ⟨f, pp, i2, kk, cc, code2, r1, r2, r3, r4, r5, r6⟩
      · have hcE : iN (20000 + kI L n i) = iN (cE (kI L n i - 4, 0)) := by
          rw [cE_op (by omega) (by omega)]; congr 1; omega
        obtain ⟨code3, e5, e6⟩ := C_put r2 (show (cs0 ++ c0 ++ c).length < 300 by omega) (kI L n i - 4, 0) hcE
        have hass : cs0 ++ c0 ++ c ++ [(kI L n i - 4, 0)] = cs0 ++ (c0 ++ (c ++ [(kI L n i - 4, 0)])) := by
          rw [List.append_assoc, List.append_assoc]
        have hl1 : (cs0 ++ (c0 ++ (c ++ [(kI L n i - 4, 0)]))).length = (cs0 ++ c0 ++ c).length + 1 := by rw [← hass, List.length_append]; rfl
        rw [hass] at e5 e6
        rw [Nat.sub_zero, List.replicate_zero, List.append_nil] at r8
        have stp : un7 (fb_rd_readProduct_7 (FG_rd_readSum (d + 1)).1 (FG_rd_readSum (d + 1)).2.1 (FG_rd_readSum (d + 1)).2.2 (iN (L.length + 1)) al st kd nu (iN o)) (iN j, iN 0, mI, iN i, iN (kI L n i), iN (cs0 ++ c0).length, code) = some (.inl (iN (j + 1), iN 0, mI, iN i1, iN (kI L n i1), iN (cs0 ++ (c0 ++ (c ++ [(kI L n i - 4, 0)]))).length, code3)) := by
          simp only [un7, fb_rd_readProduct_7, nlit, j3, g9, g11, e4, r1, e5, un2, un6, iN_add, Option.bind_some, ↓reduceIte]
        have ih := P_loop hX ho hO hh hv hK (cs0 := cs0) (x := x) m i1 (j + 1) z (c0 ++ (c ++ [(kI L n i - 4, 0)])) code3 s2 [kI L n i - 4] (cs0 ++ c0 ++ c) (by omega) (by omega) r4 (by omega) e6 (by omega) r8 (by rw [← hass]; rfl) (fun v hv' => by rw [List.mem_singleton.mp hv']; omega) (Nat.le_refl _) (tyR_op (by omega) (by omega) hty r9 (by omega))
        rw [itr_step stp]
        rcases ih with ⟨i', c', code', s', k', A', cr', y1, y2, y3, y4, y5, y6, y7, y8, y9⟩ | ⟨f, pp, i2, kk, cc, code2, y1, y2, y3, y4, y5, y6⟩
        · exact Or.inl ⟨i', c', code', s', 1 + k + k', A', cr', y1, y2, by omega, y4, y5, by omega, stps_trans (1 + k) k' _ _ _ (stps_trans 1 k _ _ _ (stps_one st1) r7) y7, y8, y9⟩
        · exact Or.inr ⟨f, pp, i2, kk, cc, code2, y1, y2, y3, y4, y5, FL.mono (FL.step (stps_trans 1 k _ _ _ (stps_one st1) r7) y6) (by omega)⟩
      · obtain ⟨c', code', e5, e6⟩ := C_emitA (code := code2) (v := iN (20000 + kI L n i)) r5
        have hf0 : (iN f = iN 0) = False := by rw [iN_eq (by omega) (by omega)]; exact eq_false r2
        have stp : un7 (fb_rd_readProduct_7 (FG_rd_readSum (d + 1)).1 (FG_rd_readSum (d + 1)).2.1 (FG_rd_readSum (d + 1)).2.2 (iN (L.length + 1)) al st kd nu (iN o)) (iN j, iN 0, mI, iN i, iN (kI L n i), iN (cs0 ++ c0).length, code) = some (.inl (iN (j + 1), iN f, iN pp, iN i2, kk, iN c', code')) := by
          simp only [un7, fb_rd_readProduct_7, nlit, j3, g9, g11, e4, r1, e5, un2, un6, iN_add, Option.bind_some, ↓reduceIte]
        refine Or.inr ⟨f, pp, i2, kk, c', code', ?_, r2, r3, r4, e6, FL.mono (FL.step (stps_one st1) r6) (by omega)⟩
        obtain ⟨z, rfl⟩ : ∃ y, z = y + 1 := ⟨z - 1, by omega⟩
        rw [itr_step stp]
        refine itr_end ?_
        by_cases cj : j + 1 < 300
        · have j3' : (iN (j + 1) < iN 300) = True := by rw [iN_lt (by omega) (by omega)]; exact eq_true cj
          simp only [un7, fb_rd_readProduct_7, nlit, j3', hf0, ↓reduceIte]
        · have j3' : (iN (j + 1) < iN 300) = False := by rw [iN_lt (by omega) (by omega)]; exact eq_false cj
          simp only [un7, fb_rd_readProduct_7, nlit, j3', ↓reduceIte]
    · refine Or.inl ⟨i, c0, code, s, 0, A, cr, itr_end ?_, hcc, Nat.le_refl _, hi, hlen, rfl, rfl, hmr, hcs, hA, hA1, ck, hty⟩
      by_cases cj : j < 300
      · have j3 : (iN j < iN 300) = True := by rw [iN_lt (by omega) (by omega)]; exact eq_true cj
        by_cases c9 : kI L n i < 9
        · have g9 : (iN (kI L n i) < iN 9) = True := by rw [iN_lt (by omega) (by omega)]; exact eq_true c9
          simp only [un7, fb_rd_readProduct_7, nlit, j3, g9, ↓reduceIte]
        · have g9 : (iN (kI L n i) < iN 9) = False := by rw [iN_lt (by omega) (by omega)]; exact eq_false c9
          have g11 : (iN 11 < iN (kI L n i)) = True := by rw [iN_lt (by omega) (by omega)]; exact eq_true (by omega)
          simp only [un7, fb_rd_readProduct_7, nlit, j3, g9, g11, ↓reduceIte]
      · have j3 : (iN j < iN 300) = False := by rw [iN_lt (by omega) (by omega)]; exact eq_false cj
        simp only [un7, fb_rd_readProduct_7, nlit, j3, ↓reduceIte]
theorem P_of (hX : PX by_ tp kd st nu n B L al so aF T) {o d : Nat} (ho : o ≤ 8) (hO : HO tp kd st nu tx0 n B L al so aF T o (d + 1)) : HP tp kd st nu tx0 n B L al so aF T o (d + 2) := by
  intro i x cs code K s hcc hlen hh hv hK hm
  show (∃ i' c code' s' k A cr, fR_rd_readProduct (FG_rd_readSum (d + 1)).1 (FG_rd_readSum (d + 1)).2.1 (FG_rd_readSum (d + 1)).2.2 (iN (L.length + 1)) (iN 0) mI (iN i) (iN (kI L n i)) al st (iN cs.length) kd nu code (iN o) = some (iN 0, mI, iN i', iN (kI L n i'), iN (cs ++ c).length, code') ∧ _) ∨ BD tp tx0 n so T (fR_rd_readProduct (FG_rd_readSum (d + 1)).1 (FG_rd_readSum (d + 1)).2.1 (FG_rd_readSum (d + 1)).2.2 (iN (L.length + 1)) (iN 0) mI (iN i) (iN (kI L n i)) al st (iN cs.length) kd nu code (iN o)) i s
  have hL := hX.len
  rcases hO i 0 x cs code K s hcc (by omega) (by omega) (fun v hv' => by have := hh v hv'; omega) hv (by rw [List.replicate_zero, List.nil_append]; omega) hm with ⟨i1, c, code1, s2, k, r1, r2, r3, r4, r5, r6, r7, r8, r9⟩ | ⟨f, pp, i2, kk, cc, code2, r1, r2, r3, r4, r5, r6⟩
  · rw [Nat.sub_zero, List.replicate_zero, List.append_nil] at r8
    rcases P_loop hX ho hO hh hv hK (cs0 := cs) (x := x) (L.length - i1) i1 0 KF c code1 s2 [] (cs ++ c) (Nat.le_refl _) (kf_lt (by omega)) r4 (by omega) r2 (by omega) r8 (by rw [List.map_nil, List.append_nil]) (fun v hv' => by cases hv') (Nat.zero_le _) (fun t v htv => r9 t v (by omega)) with ⟨i', c', code', s', k', A', cr', y1, y2, y3, y4, y5, y6, y7, y8, y9⟩ | ⟨f, pp, i2, kk, cc, code2, y1, y2, y3, y4, y5, y6⟩
    · refine Or.inl ⟨i', c', code', s', k + k', A', cr', ?_, y2, by omega, y4, y5, by omega, stps_trans k k' _ _ _ r7 y7, y8, y9⟩
      simp only [fR_rd_readProduct, nlit, r1, un6, y1, Option.bind_some]
    · refine Or.inr ⟨f, pp, i2, kk, cc, code2, ?_, y2, y3, y4, y5, FL.mono (FL.step r7 y6) (by omega)⟩
      simp only [fR_rd_readProduct, nlit, r1, un6, y1, Option.bind_some]
  · refine Or.inr ⟨f, pp, i2, kk, cc, code2, ?_, r2, r3, r4, r5, r6⟩
    have hf0 : (iN f = iN 0) = False := by rw [iN_eq (by omega) (by omega)]; exact eq_false r2
    have h3 : (iN 0 < iN 300) = True := eq_true (by decide)
    have e3 : itr (un7 (fb_rd_readProduct_7 (FG_rd_readSum (d + 1)).1 (FG_rd_readSum (d + 1)).2.1 (FG_rd_readSum (d + 1)).2.2 (iN (L.length + 1)) al st kd nu (iN o))) KF (iN 0, iN f, iN pp, iN i2, kk, iN cc, code2) = some (iN f, iN pp, iN i2, kk, iN cc, code2) := by
      obtain ⟨z, hz⟩ : ∃ z, KF = z + 1 := ⟨KF - 1, by have : 100 < KF := kf_lt (by decide); omega⟩
      rw [hz]
      refine itr_end ?_
      simp only [un7, fb_rd_readProduct_7, nlit, h3, hf0, ↓reduceIte]
    simp only [fR_rd_readProduct, nlit, r1, un6, e3, Option.bind_some]
end
