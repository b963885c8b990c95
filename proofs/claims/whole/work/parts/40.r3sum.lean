/-! ===== PURE: text: SUM ===== -/
section
variable {by_ tp kd st nu tx0 : Nat → Int32} {n : Nat} {B : Nat → Nat} {L : List Tk} {al so : Int32} {aF : Nat → Bool} {T : Nat}
theorem S_loop (hX : PX by_ tp kd st nu n B L al so aF T) {o d : Nat} (ho : o ≤ 8) (hP : HP tp kd st nu tx0 n B L al so aF T o (d + 2)) {K : List Nat} (hh : ∀ v, K.head? = some v → v = 40) (hv : ∀ v ∈ K, v < 100) (hK : K.length ≤ 3 * o) {cs0 : List (Nat × Nat)} {x : Nat} : ∀ (m i j z : Nat) (c0 : List (Nat × Nat)) (code : Nat → Int32) (s : T11) (A : List Nat) (cr : List (Nat × Nat)), L.length - i ≤ m → m < z → i ≤ L.length → j ≤ i → CC code (cs0 ++ c0) → (cs0 ++ c0).length + x ≤ i → MR tx0 n B L T i (A ++ K) o true cr s → cs0 ++ c0 = cr ++ A.map (fun v => (v, 0)) → (∀ v ∈ A, 3 ≤ v ∧ v < 40) → A.length ≤ 2 → ¬ (9 ≤ kI L n i ∧ kI L n i ≤ 11) → (∀ t v, t + v + (2 * (8 - o) + 3) ≤ 60 → tyR aF c0 t v = some (t, v + 1)) →
    (∃ i' c code' s' k A cr, itr (un7 (fb_rd_readSum_7 (FG_rd_readSum (d + 2)).1 (FG_rd_readSum (d + 2)).2.1 (FG_rd_readSum (d + 2)).2.2 (iN (L.length + 1)) al st kd nu (iN o))) z (iN j, iN 0, mI, iN i, iN (kI L n i), iN (cs0 ++ c0).length, code) = some (iN 0, mI, iN i', iN (kI L n i'), iN (cs0 ++ c).length, code') ∧ CC code' (cs0 ++ c) ∧ i ≤ i' ∧ i' ≤ L.length ∧ (cs0 ++ c).length + x ≤ i' ∧ i + k = i' ∧ stps (un11 (fb_m_summed_10 (iN n) (iN (680 * T)) so tp)) k s s' ∧ MR tx0 n B L T i' (A ++ K) o true cr s' ∧ cs0 ++ c = cr ++ A.map (fun v => (v, 0)) ∧ (∀ v ∈ A, 3 ≤ v ∧ v < 40) ∧ A.length ≤ 2 ∧ ¬ (7 ≤ kI L n i' ∧ kI L n i' ≤ 11) ∧ ∀ t v, t + v + (2 * (8 - o) + 3) ≤ 60 → tyR aF c t v = some (t, v + 1)) ∨
    BD tp tx0 n so T (itr (un7 (fb_rd_readSum_7 (FG_rd_readSum (d + 2)).1 (FG_rd_readSum (d + 2)).2.1 (FG_rd_readSum (d + 2)).2.2 (iN (L.length + 1)) al st kd nu (iN o))) z (iN j, iN 0, mI, iN i, iN (kI L n i), iN (cs0 ++ c0).length, code)) i s
  | m, i, j, 0, c0, code, s, A, cr, hm, hz, hi, hj, hcc, hlen, hmr, hcs, hA, hA1, hno, hty => absurd hz (Nat.not_lt_zero _)
  | m, i, j, z + 1, c0, code, s, A, cr, hm, hz, hi, hj, hcc, hlen, hmr, hcs, hA, hA1, hno, hty => by
    have hL := hX.len
    have k4 := (hX.tok hi).2.2.2.1
    have h00 : (iN 0 = iN 0) = True := eq_true rfl
    have hlc : (cs0 ++ c0).length = cr.length + A.length := by rw [hcs, List.length_append, List.length_map]
    have hkeq : ∀ c, c < 100 → (iN (kI L n i) = iN c) = (kI L n i = c) := fun c hc => iN_eq (by omega) (by omega)
    by_cases ck : 7 ≤ kI L n i ∧ kI L n i ≤ 8
    · have hil := kI_lt (show kI L n i ≠ 0 by omega)
      obtain ⟨m, rfl⟩ : ∃ y, m = y + 1 := ⟨m - 1, by omega⟩
      have j3 : (iN j < iN 300) = True := by rw [iN_lt (by omega) (by omega)]; exact eq_true (by omega)
      have e4 := C_stepT hX hil (k := iN (kI L n i))
      have hfj : un7 (fb_rd_readSum_7 (FG_rd_readSum (d + 2)).1 (FG_rd_readSum (d + 2)).2.1 (FG_rd_readSum (d + 2)).2.2 (iN (L.length + 1)) al st kd nu (iN o)) (iN j, iN 0, mI, iN i, iN (kI L n i), iN (cs0 ++ c0).length, code) = fj_rd_readSum_39_7 (FG_rd_readSum (d + 2)).1 (FG_rd_readSum (d + 2)).2.1 (FG_rd_readSum (d + 2)).2.2 (iN (L.length + 1)) (iN 0) mI (iN i) (iN (kI L n i)) al st (iN (cs0 ++ c0).length) kd nu code (iN o) (iN j) := by
        by_cases c7 : kI L n i = 7
        · have g7 := (hkeq 7 (by decide)).trans (eq_true c7)
          simp only [un7, fb_rd_readSum_7, nlit, j3, g7, ↓reduceIte]
        · have g7 := (hkeq 7 (by decide)).trans (eq_false c7)
          have g8 := (hkeq 8 (by decide)).trans (eq_true (show kI L n i = 8 by omega))
          simp only [un7, fb_rd_readSum_7, nlit, j3, g7, g8, ↓reduceIte]
      obtain ⟨s1, st1, m1⟩ := M_sgn (w := kI L n i - 4) hX hmr (Or.inl ⟨ck.1, ck.2, rfl⟩) (by omega) (fun v hv' => by have := hh v hv'; omega) hv hA (by omega) (by rw [List.length_append]; omega)
      rw [← hcs] at m1
      rcases hP (i + 1) (x + 1) (cs0 ++ c0) code ((kI L n i - 4) :: K) s1 hcc (by omega) (fun v hv' => by cases hv'; omega) (fun v hv' => by
          rcases List.mem_cons.mp hv' with rfl | q
          · omega
          · exact hv v q) (by rw [List.length_cons]; omega) m1 with ⟨i1, c, code1, s2, k, A1, cr1, r1, r2, r3, r4, r5, r6, r7, r8, r9, r10, r11, r12, r13⟩ | ⟨f, pp, i2, kk, cc, code2, r1, r2, r3, r4, r5, r6⟩
      · have hcE : iN (20000 + kI L n i) = iN (cE (kI L n i - 4, 0)) := by
          rw [cE_op (by omega) (by omega)]; congr 1; omega
        obtain ⟨code3, e5, e6⟩ := C_put r2 (show (cs0 ++ c0 ++ c).length < 300 by omega) (kI L n i - 4, 0) hcE
        have hass : cs0 ++ c0 ++ c ++ [(kI L n i - 4, 0)] = cs0 ++ (c0 ++ (c ++ [(kI L n i - 4, 0)])) := by
          rw [List.append_assoc, List.append_assoc]
        have hl1 : (cs0 ++ (c0 ++ (c ++ [(kI L n i - 4, 0)]))).length = (cs0 ++ c0 ++ c).length + 1 := by rw [← hass, List.length_append]; rfl
        rw [hass] at e5 e6
        have r8' : MR tx0 n B L T i1 ((A1 ++ [kI L n i - 4]) ++ K) o true cr1 s2 := by rw [List.append_assoc]; exact r8
        have stp : un7 (fb_rd_readSum_7 (FG_rd_readSum (d + 2)).1 (FG_rd_readSum (d + 2)).2.1 (FG_rd_readSum (d + 2)).2.2 (iN (L.length + 1)) al st kd nu (iN o)) (iN j, iN 0, mI, iN i, iN (kI L n i), iN (cs0 ++ c0).length, code) = some (.inl (iN (j + 1), iN 0, mI, iN i1, iN (kI L n i1), iN (cs0 ++ (c0 ++ (c ++ [(kI L n i - 4, 0)]))).length, code3)) := by
          rw [hfj]
          simp only [fj_rd_readSum_39_7, nlit, e4, r1, e5, un2, un6, iN_add, Option.bind_some]
        have ih := S_loop hX ho hP hh hv hK (cs0 := cs0) (x := x) m i1 (j + 1) z (c0 ++ (c ++ [(kI L n i - 4, 0)])) code3 s2 (A1 ++ [kI L n i - 4]) cr1 (by omega) (by omega) r4 (by omega) e6 (by omega) r8' (by rw [← hass, r9, List.map_append, List.append_assoc]; rfl) (fun v hv' => by
          rcases List.mem_append.mp hv' with z | z
          · have := r10 v z; omega
          · rw [List.mem_singleton.mp z]; omega) (by rw [List.length_append, List.length_singleton]; omega) r12 (tyR_op (by omega) (by omega) hty r13 (by omega))
        rw [itr_step stp]
        rcases ih with ⟨i', c', code', s', k', A', cr', y1, y2, y3, y4, y5, y6, y7, y8, y9⟩ | ⟨f, pp, i2, kk, cc, code2, y1, y2, y3, y4, y5, y6⟩
        · exact Or.inl ⟨i', c', code', s', 1 + k + k', A', cr', y1, y2, by omega, y4, y5, by omega, stps_trans (1 + k) k' _ _ _ (stps_trans 1 k _ _ _ (stps_one st1) r7) y7, y8, y9⟩
        · exact Or.inr ⟨f, pp, i2, kk, cc, code2, y1, y2, y3, y4, y5, FL.mono (FL.step (stps_trans 1 k _ _ _ (stps_one st1) r7) y6) (by omega)⟩
      · obtain ⟨c', code', e5, e6⟩ := C_emitA (code := code2) (v := iN (20000 + kI L n i)) r5
        have hf0 : (iN f = iN 0) = False := by rw [iN_eq (by omega) (by omega)]; exact eq_false r2
        have stp : un7 (fb_rd_readSum_7 (FG_rd_readSum (d + 2)).1 (FG_rd_readSum (d + 2)).2.1 (FG_rd_readSum (d + 2)).2.2 (iN (L.length + 1)) al st kd nu (iN o)) (iN j, iN 0, mI, iN i, iN (kI L n i), iN (cs0 ++ c0).length, code) = some (.inl (iN (j + 1), iN f, iN pp, iN i2, kk, iN c', code')) := by
          rw [hfj]
          simp only [fj_rd_readSum_39_7, nlit, e4, r1, e5, un2, un6, iN_add, Option.bind_some]
        refine Or.inr ⟨f, pp, i2, kk, c', code', ?_, r2, r3, r4, e6, FL.mono (FL.step (stps_one st1) r6) (by omega)⟩
        obtain ⟨z, rfl⟩ : ∃ y, z = y + 1 := ⟨z - 1, by omega⟩
        rw [itr_step stp]
        refine itr_end ?_
        by_cases cj : j + 1 < 300
        · have j3' : (iN (j + 1) < iN 300) = True := by rw [iN_lt (by omega) (by omega)]; exact eq_true cj
          simp only [un7, fb_rd_readSum_7, nlit, j3', hf0, ↓reduceIte]
        · have j3' : (iN (j + 1) < iN 300) = False := by rw [iN_lt (by omega) (by omega)]; exact eq_false cj
          simp only [un7, fb_rd_readSum_7, nlit, j3', ↓reduceIte]
    · refine Or.inl ⟨i, c0, code, s, 0, A, cr, itr_end ?_, hcc, Nat.le_refl _, hi, hlen, rfl, rfl, hmr, hcs, hA, hA1, by omega, hty⟩
      by_cases cj : j < 300
      · have j3 : (iN j < iN 300) = True := by rw [iN_lt (by omega) (by omega)]; exact eq_true cj
        have g7 := (hkeq 7 (by decide)).trans (eq_false (show ¬ kI L n i = 7 by omega))
        have g8 := (hkeq 8 (by decide)).trans (eq_false (show ¬ kI L n i = 8 by omega))
        simp only [un7, fb_rd_readSum_7, nlit, j3, g7, g8, ↓reduceIte]
      · have j3 : (iN j < iN 300) = False := by rw [iN_lt (by omega) (by omega)]; exact eq_false cj
        simp only [un7, fb_rd_readSum_7, nlit, j3, ↓reduceIte]
theorem S_of (hX : PX by_ tp kd st nu n B L al so aF T) {o d : Nat} (ho : o ≤ 8) (hP : HP tp kd st nu tx0 n B L al so aF T o (d + 2)) : HS tp kd st nu tx0 n B L al so aF T o (d + 3) := by
  intro i x cs code K s hcc hlen hh hv hK hm
  show (∃ i' c code' s' k A cr, fR_rd_readSum (FG_rd_readSum (d + 2)).1 (FG_rd_readSum (d + 2)).2.1 (FG_rd_readSum (d + 2)).2.2 (iN (L.length + 1)) (iN 0) mI (iN i) (iN (kI L n i)) al st (iN cs.length) kd nu code (iN o) = some (iN 0, mI, iN i', iN (kI L n i'), iN (cs ++ c).length, code') ∧ _) ∨ BD tp tx0 n so T (fR_rd_readSum (FG_rd_readSum (d + 2)).1 (FG_rd_readSum (d + 2)).2.1 (FG_rd_readSum (d + 2)).2.2 (iN (L.length + 1)) (iN 0) mI (iN i) (iN (kI L n i)) al st (iN cs.length) kd nu code (iN o)) i s
  have hL := hX.len
  rcases hP i x cs code K s hcc hlen (fun v hv' => Or.inl (hh v hv')) hv (by omega) hm with ⟨i1, c, code1, s2, k, A1, cr1, r1, r2, r3, r4, r5, r6, r7, r8, r9, r10, r11, r12, r13⟩ | ⟨f, pp, i2, kk, cc, code2, r1, r2, r3, r4, r5, r6⟩
  · rcases S_loop hX ho hP hh hv hK (cs0 := cs) (x := x) (L.length - i1) i1 0 KF c code1 s2 A1 cr1 (Nat.le_refl _) (kf_lt (by omega)) r4 (by omega) r2 (by omega) r8 r9 (fun v hv' => by have := r10 v hv'; omega) (by omega) r12 (fun t v htv => r13 t v (by omega)) with ⟨i', c', code', s', k', A', cr', y1, y2, y3, y4, y5, y6, y7, y8, y9⟩ | ⟨f, pp, i2, kk, cc, code2, y1, y2, y3, y4, y5, y6⟩
    · refine Or.inl ⟨i', c', code', s', k + k', A', cr', ?_, y2, by omega, y4, y5, by omega, stps_trans k k' _ _ _ r7 y7, y8, y9⟩
      simp only [fR_rd_readSum, nlit, r1, un6, y1, Option.bind_some]
    · refine Or.inr ⟨f, pp, i2, kk, cc, code2, ?_, y2, y3, y4, y5, FL.mono (FL.step r7 y6) (by omega)⟩
      simp only [fR_rd_readSum, nlit, r1, un6, y1, Option.bind_some]
  · refine Or.inr ⟨f, pp, i2, kk, cc, code2, ?_, r2, r3, r4, r5, r6⟩
    have hf0 : (iN f = iN 0) = False := by rw [iN_eq (by omega) (by omega)]; exact eq_false r2
    have h3 : (iN 0 < iN 300) = True := eq_true (by decide)
    have e3 : itr (un7 (fb_rd_readSum_7 (FG_rd_readSum (d + 2)).1 (FG_rd_readSum (d + 2)).2.1 (FG_rd_readSum (d + 2)).2.2 (iN (L.length + 1)) al st kd nu (iN o))) KF (iN 0, iN f, iN pp, iN i2, kk, iN cc, code2) = some (iN f, iN pp, iN i2, kk, iN cc, code2) := by
      obtain ⟨z, hz⟩ : ∃ z, KF = z + 1 := ⟨KF - 1, by have : 100 < KF := kf_lt (by decide); omega⟩
      rw [hz]
      refine itr_end ?_
      simp only [un7, fb_rd_readSum_7, nlit, h3, hf0, ↓reduceIte]
    simp only [fR_rd_readSum, nlit, r1, un6, e3, Option.bind_some]
/-- all depths -/
theorem O_all (hX : PX by_ tp kd st nu n B L al so aF T) : ∀ (r o d : Nat), o + r = 8 → 3 * r ≤ d → HO tp kd st nu tx0 n B L al so aF T o (d + 1) := by
  intro r
  induction r with
  | zero =>
    intro o d ho hd
    exact O_of hX (by omega) (fun h => absurd h (by omega)) (fun h => absurd h (by omega))
  | succ r ih =>
    intro o d ho hd
    obtain ⟨e, rfl⟩ : ∃ e, d = e + 3 := ⟨d - 3, by omega⟩
    have h1 := ih (o + 1) e (by omega) (by omega)
    exact O_of hX (by omega) (fun _ => S_of hX (by omega) (P_of hX (by omega) h1)) (fun _ => ih (o + 1) (e + 2) (by omega) (by omega))
theorem S_all (hX : PX by_ tp kd st nu n B L al so aF T) {o : Nat} (ho : o ≤ 8) : HS tp kd st nu tx0 n B L al so aF T o 44 := S_of hX ho (P_of hX ho (O_all hX (8 - o) o 41 (by omega) (by omega)))
end
