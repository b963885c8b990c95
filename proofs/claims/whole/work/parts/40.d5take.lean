def dnI (m : Nat) : Int32 := if m = 0 then mI else iN (m - 1)
theorem dnI_s {m : Nat} (h : m < 100) : iN m + mI = dnI m := by
  unfold dnI
  by_cases h0 : m = 0
  · subst h0; rfl
  · rw [if_neg h0, iN_pm (by omega)]
theorem dnI_S {m : Nat} : dnI (m + 1) = iN m := by unfold dnI; rw [if_neg (by omega)]; rfl
section
variable {x : Cx} {t : Tn} {w g b : Nat} {c : Cl}
theorem M_pickLoop {a texts d : Nat → Int32} {lw : Lw} {T i : Nat} (hx : CxOK x) (hm : MX a texts x) (hT : T < 4) (ha : a 4 = iN T) (hml : ML texts T lw) (hlw : LW lw) (hi : lw[i]? = some c) (hc : c.1 = 0) (hd : MT d b t) (hb : b ≤ 525) (ht : TW t) (hw : w < 8) (hg : g < 3) (hlp : 0 < (t.2 g).length) : ∀ (m n : Nat) (best : Int32) (most : Int64) (named truth : Nat → Int32) (values : Nat → Int64), m ≤ (t.2 g).length → m < n → (∀ v, 3 ≤ v → v < 7 → named v = zI (envG x t w g v)) → (m = (t.2 g).length ∨ ∃ B, isPk (wthS x t w g c) m (t.2 g).length B ∧ best = iN B ∧ most = wI (wthS x t w g c B)) → (m = (t.2 g).length → m ≠ 0) → ∃ B n' v' t', itr (un6 (fb_m_chosen_40 (iN b) a d texts (iN w) (iN g) (iN i))) n (best, most, dnI m, named, values, truth) = some (iN B, n', v', t') ∧ isPk (wthS x t w g c) 0 (t.2 g).length B
  | 0, n, best, most, named, truth, values, hml2, hnn, hG, hJ, hne => by
    obtain ⟨n, rfl⟩ : ∃ z, n = z + 1 := ⟨n - 1, by omega⟩
    rcases hJ with h | ⟨B, h1, h2, h3⟩
    · exact absurd rfl (hne h)
    · refine ⟨B, named, values, truth, itr_end ?_, h1⟩
      have e : dnI 0 = mI := rfl
      rw [e, h2]
      simp (disch := omega) only [un6, fb_m_chosen_40, nlit, onl, negone, iN_add, iN_mul, iN_sub, iN_pm, iN_addneg, iN_ix, iN_inb, iN_lt, iN_eq, iN_nneg, iN_nm, nm_iN, mI_neg, mI_nnn, ne_eq, not_true_eq_false, not_false_eq_true, true_and, and_true, bnd, Option.bind_some, ↓reduceIte, ltT, ltF, eqT, eqF, leT, leF]
  | m + 1, n, best, most, named, truth, values, hml2, hnn, hG, hJ, hne => by
    obtain ⟨n, rfl⟩ : ∃ z, n = z + 1 := ⟨n - 1, by omega⟩
    have hl := ht.len g
    have hlen := hlw.1
    have hlt : m < (t.2 g).length := by omega
    have hnk : (t.2 g)[m]? = some (t.2 g)[m] := List.getElem?_eq_getElem hlt
    have hn8 := (ht.2.1 g _ (List.mem_of_getElem? hnk)).2
    have hi' : i < lw.length := (List.getElem?_eq_some_iff.mp hi).1
    have hcw := hlw.2 _ (List.mem_of_getElem? hi)
    have hbw := hm.2.2.2.2.1 w hw
    have hhp := hd.heapAt ht hb hg hnk
    have hhg := hd.hung hb hg
    have hbd : ∀ j, j < (t.2 g).length → -1000000 ≤ wthS x t w g c j ∧ wthS x t w g c j ≤ 1000000 := by
      intro j hj
      have hnj : (t.2 g)[j]? = some (t.2 g)[j] := List.getElem?_eq_getElem hj
      unfold wthS
      rw [getD_at hnj]
      exact sumS_b (hcw.2.1 hc) (envT_b hx ht hw hg (by omega) (ht.2.1 g _ (List.mem_of_getElem? hnj)).2)
    have hbk := hbd m hlt
    have hE : ∀ z, (z = if (t.2 g)[m] = w ∧ x.2.2.2.2.1 w = true then iN 1 else iN 0) → ∃ v' t', f_m_work a texts (upd (upd (upd named 0 (iN m)) 1 (iN (t.2 g)[m])) 2 z) values truth (iN i) = some (v', t') ∧ v' 0 = wI (wthS x t w g c m) := by
      intro z hz
      obtain ⟨v', t', q1, q2, -⟩ := M_sum (values := values) (truth := truth) ha hT hml hlen hi (by omega) (hcw.2.1 hc) (envT_n (k := m) hG hz) (envT_b hx ht hw hg (by omega) hn8)
      refine ⟨v', t', q1, ?_⟩
      unfold wthS
      rw [getD_at hnk]
      exact q2
    obtain ⟨v', t', g1, g2⟩ := hE (if (t.2 g)[m] = w ∧ x.2.2.2.2.1 w = true then iN 1 else iN 0) rfl
    have hstep : ∃ best' most', un6 (fb_m_chosen_40 (iN b) a d texts (iN w) (iN g) (iN i)) (best, most, dnI (m + 1), named, values, truth) = some (.inl (best', most', dnI m, upd (upd (upd named 0 (iN m)) 1 (iN (t.2 g)[m])) 2 (if (t.2 g)[m] = w ∧ x.2.2.2.2.1 w = true then iN 1 else iN 0), v', t')) ∧ ∃ B, isPk (wthS x t w g c) m (t.2 g).length B ∧ best' = iN B ∧ most' = wI (wthS x t w g c B) := by
      have tail : ∃ best' most', (∀ zz, (zz = if (t.2 g)[m] = w ∧ x.2.2.2.2.1 w = true then iN 1 else iN 0) → fj_m_chosen_95_40 (iN b) a d texts (upd (upd named 0 (iN m)) 1 (iN (t.2 g)[m])) values truth (iN w) (iN g) (iN i) best most (iN m) (iN 2) zz = some (.inl (best', most', dnI m, upd (upd (upd named 0 (iN m)) 1 (iN (t.2 g)[m])) 2 (if (t.2 g)[m] = w ∧ x.2.2.2.2.1 w = true then iN 1 else iN 0), v', t'))) ∧ ∃ B, isPk (wthS x t w g c) m (t.2 g).length B ∧ best' = iN B ∧ most' = wI (wthS x t w g c B) := by
        by_cases hlast : m + 1 = (t.2 g).length
        · refine ⟨iN m, wI (wthS x t w g c m), fun zz hzz => ?_, m, ⟨Nat.le_refl _, hlt, fun j h1 h2 => by rw [show j = m by omega]; exact Int.le_refl _, fun j h1 h2 => by omega⟩, rfl, rfl⟩
          subst hzz
          rw [← dnI_s (by omega)]
          simp (disch := omega) only [fj_m_chosen_95_40, nlit, onl, negone, iN_sub, iN_ix, iN_inb, iN_lt, bnd, Option.bind_some, ↓reduceIte, ltT, ltF, eqT, eqF, leT, leF, g1, un2, hhg, g2]
        · rcases hJ with h | ⟨B, h1, h2, h3⟩
          · exact absurd h hlast
          · have hB := h1.2.1
            have hbB := hbd B hB
            by_cases hf : wthS x t w g c B < wthS x t w g c m
            · refine ⟨iN m, wI (wthS x t w g c m), fun zz hzz => ?_, m, ⟨Nat.le_refl _, hlt, fun j q1 q2 => ?_, fun j q1 q2 => ?_⟩, rfl, rfl⟩
              · subst hzz
                rw [← dnI_s (by omega), h3]
                simp (disch := omega) only [fj_m_chosen_95_40, nlit, onl, negone, iN_sub, iN_ix, iN_inb, iN_lt, bnd, Option.bind_some, ↓reduceIte, ltT, ltF, eqT, eqF, leT, leF, g1, un2, hhg, g2, lg_gt, ltTi]
              · by_cases hj : j = m
                · rw [hj]; exact Int.le_refl _
                · have := h1.2.2.1 j (by omega) q2; omega
              · have := h1.2.2.1 j (by omega) q2; omega
            · refine ⟨iN B, wI (wthS x t w g c B), fun zz hzz => ?_, B, ⟨by have := h1.1; omega, hB, fun j q1 q2 => ?_, h1.2.2.2⟩, rfl, rfl⟩
              · subst hzz
                rw [← dnI_s (by omega), h3, h2]
                simp (disch := omega) only [fj_m_chosen_95_40, nlit, onl, negone, iN_sub, iN_ix, iN_inb, iN_lt, bnd, Option.bind_some, ↓reduceIte, ltT, ltF, eqT, eqF, leT, leF, g1, un2, hhg, g2, lg_gt, ltFi]
              · by_cases hj : j = m
                · rw [hj]; omega
                · exact h1.2.2.1 j (by omega) q2
      obtain ⟨best', most', tl, hB⟩ := tail
      refine ⟨best', most', ?_, hB⟩
      rw [dnI_S]
      by_cases hwn : (t.2 g)[m] = w
      · cases hb1 : x.2.2.2.2.1 w with
        | true =>
          have eb : (b01 true = iN 1) = True := propext ⟨fun _ => trivial, fun _ => rfl⟩
          have := tl (iN 1) (by rw [if_pos ⟨hwn, hb1⟩])
          rw [hb1] at hbw this
          simp (disch := omega) only [un6, fb_m_chosen_40, f_m_isBorn, hhp, nlit, onl, negone, iN_add, iN_mul, iN_sub, iN_pm, iN_addneg, iN_ix, iN_inb, iN_lt, iN_eq, iN_nneg, iN_nm, nm_iN, mI_neg, mI_nnn, ne_eq, not_true_eq_false, not_false_eq_true, true_and, and_true, bnd, Option.bind_some, ↓reduceIte, ltT, eqF, eqT, hwn, hbw, eb] at this ⊢
          exact this
        | false =>
          have eb : (b01 false = iN 1) = False := propext ⟨fun q => absurd q (by decide), False.elim⟩
          have := tl (iN 0) (by rw [if_neg (fun q => by rw [hb1] at q; exact absurd q.2 (by decide))])
          rw [hb1] at hbw this
          simp (disch := omega) only [un6, fb_m_chosen_40, f_m_isBorn, hhp, nlit, onl, negone, iN_add, iN_mul, iN_sub, iN_pm, iN_addneg, iN_ix, iN_inb, iN_lt, iN_eq, iN_nneg, iN_nm, nm_iN, mI_neg, mI_nnn, ne_eq, not_true_eq_false, not_false_eq_true, true_and, and_true, bnd, Option.bind_some, ↓reduceIte, ltT, eqT, hwn, hbw, eb] at this ⊢
          exact this
      · have := tl (iN 0) (by rw [if_neg (fun q => hwn q.1)])
        cases hb1 : x.2.2.2.2.1 w with
        | true =>
          have eb : (b01 true = iN 1) = True := propext ⟨fun _ => trivial, fun _ => rfl⟩
          rw [hb1] at hbw this
          simp (disch := omega) only [un6, fb_m_chosen_40, f_m_isBorn, hhp, nlit, onl, negone, iN_add, iN_mul, iN_sub, iN_pm, iN_addneg, iN_ix, iN_inb, iN_lt, iN_eq, iN_nneg, iN_nm, nm_iN, mI_neg, mI_nnn, ne_eq, not_true_eq_false, not_false_eq_true, true_and, and_true, bnd, Option.bind_some, ↓reduceIte, ltT, eqF, eqT, hbw, eb] at this ⊢
          exact this
        | false =>
          have eb : (b01 false = iN 1) = False := propext ⟨fun q => absurd q (by decide), False.elim⟩
          rw [hb1] at hbw this
          simp (disch := omega) only [un6, fb_m_chosen_40, f_m_isBorn, hhp, nlit, onl, negone, iN_add, iN_mul, iN_sub, iN_pm, iN_addneg, iN_ix, iN_inb, iN_lt, iN_eq, iN_nneg, iN_nm, nm_iN, mI_neg, mI_nnn, ne_eq, not_true_eq_false, not_false_eq_true, true_and, and_true, bnd, Option.bind_some, ↓reduceIte, ltT, eqF, eqT, hbw, eb] at this ⊢
          exact this
    obtain ⟨best', most', s1, hB⟩ := hstep
    rw [itr_step s1]
    exact M_pickLoop hx hm hT ha hml hlw hi hc hd hb ht hw hg hlp m n best' most' _ t' v' (by omega) (by omega) (fun v q3 q7 => by
      simp (disch := omega) only [upd_same, upd_ne, upd_eq]
      exact hG v q3 q7) (Or.inr hB) (by omega)
theorem M_pick {a texts d named truth : Nat → Int32} {values : Nat → Int64} (hx : CxOK x) (hm : MX a texts x) (hd : MT d b t) (hb : b ≤ 525) (ht : TW t) (hw : w < 8) (hg : g < 3) (hne : t.2 g ≠ []) : ∃ named' values' truth', f_m_chosen (iN b) a d texts named values truth (iN w) (iN g) = some (iN (pickS x t w g), named', values', truth') := by
  have hc := M_clauseOf (s := 0) (by decide) hm
  have hlp : 0 < (t.2 g).length := List.length_pos_iff.mpr hne
  have hl8 := ht.len g
  have hhg := hd.hung hb hg
  unfold pickS
  cases hi : idxS x 0 with
  | none =>
    rw [hi] at hc
    rw [idx_none hi]
    refine ⟨named, values, truth, ?_⟩
    simp (disch := omega) only [f_m_chosen, nlit, hc, hhg, enO_none, nlit, onl, negone, iN_add, iN_mul, iN_sub, iN_pm, iN_addneg, iN_ix, iN_inb, iN_lt, iN_eq, iN_nneg, iN_nm, nm_iN, mI_neg, mI_nnn, ne_eq, not_true_eq_false, not_false_eq_true, true_and, and_true, bnd, Option.bind_some, ↓reduceIte, ltT, ltF, eqT, eqF, leT, leF]
  | some i =>
    rw [hi] at hc
    obtain ⟨lw, c, h1, h2, h3, h4⟩ := idx_lt hi
    rw [h4]
    obtain ⟨T, hT, ha, hml, hlw⟩ := hm.2.2.2.2.2.2 lw h1
    have hl := hlw.1
    have hi' : i < lw.length := (List.getElem?_eq_some_iff.mp h2).1
    obtain ⟨n', g1, g2⟩ := M_nameAll (named := named) hm hd hb ht hw hg
    obtain ⟨B, n2, v2, t2, g3, g4⟩ := M_pickLoop hx hm hT ha hml hlw h2 h3 hd hb ht hw hg hlp (t.2 g).length KF (iN ((t.2 g).length - 1)) (wI 0) n' truth values (Nat.le_refl _) (kf_lt (by omega)) (fun v q3 q7 => g2 v (by omega) (by unfold alG; rw [decide_eq_true_eq]; omega)) (Or.inl rfl) (by omega)
    have hB : B = pkR (wthS x t w g c) (t.2 g).length := isPk_uniq g4 (pkR_is _ _ hlp)
    subst hB
    refine ⟨n2, v2, t2, ?_⟩
    have e : dnI (t.2 g).length = iN ((t.2 g).length - 1) := by unfold dnI; rw [if_neg (by omega)]
    rw [e] at g3
    simp (disch := omega) only [f_m_chosen, nlit, hc, hhg, enO_some, nlit, onl, negone, iN_add, iN_mul, iN_sub, iN_pm, iN_addneg, iN_ix, iN_inb, iN_lt, iN_eq, iN_nneg, iN_nm, nm_iN, mI_neg, mI_nnn, ne_eq, not_true_eq_false, not_false_eq_true, true_and, and_true, bnd, Option.bind_some, ↓reduceIte, ltT, ltF, eqT, eqF, leT, leF, wl0, g1, g3, un4]
end
