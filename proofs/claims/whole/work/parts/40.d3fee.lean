/-! ===== PURE: fee and take ===== -/
def idxS (x : Cx) (s : Nat) : Option Nat := match x.2.2.2.2.2 with
  | none => none
  | some lw => lw.findIdx? (fun c => c.1 == s)
def clS (x : Cx) (s : Nat) : Option Cl := match x.2.2.2.2.2 with
  | none => none
  | some lw => lw.find? (fun c => c.1 == s)
theorem fi_some {lw : Lw} {s i : Nat} (h : lw.findIdx? (fun c => c.1 == s) = some i) : ∃ c, lw[i]? = some c ∧ c.1 = s ∧ lw.find? (fun c => c.1 == s) = some c := by
  induction lw generalizing i with
  | nil => cases h
  | cons y ys ih =>
    rw [List.findIdx?_cons] at h
    rw [List.find?_cons]
    by_cases hp : (y.1 == s) = true
    · rw [if_pos hp] at h
      cases h
      rw [hp]
      exact ⟨y, rfl, beq_iff_eq.mp hp, rfl⟩
    · rw [if_neg hp] at h
      rw [Bool.not_eq_true] at hp
      rw [hp]
      cases hq : ys.findIdx? (fun c => c.1 == s) with
      | none => rw [hq] at h; cases h
      | some k =>
        rw [hq] at h
        cases h
        obtain ⟨c, h1, h2, h3⟩ := ih hq
        exact ⟨c, by simpa using h1, h2, h3⟩
theorem fi_none {lw : Lw} {s : Nat} (h : lw.findIdx? (fun c => c.1 == s) = none) : lw.find? (fun c => c.1 == s) = none := by
  rw [List.findIdx?_eq_none_iff] at h
  rw [List.find?_eq_none]
  intro c hc
  rw [h c hc]; decide
def feeS (x : Cx) (t : Tn) (w g : Nat) : Int := match clS x 1 with
  | none => 1
  | some c => if sumS (envG x t w g) c.2.1 < 0 then 0 else if 999 < sumS (envG x t w g) c.2.1 then 999 else sumS (envG x t w g) c.2.1
theorem M_idxLoop {a texts : Nat → Int32} {lw : Lw} {T s : Nat} (hs : s < 4) (hT : T < 4) (ha : a 4 = iN T) (hm : ML texts T lw) (hlw : LW lw) : ∀ (m i n : Nat), i + m = lw.length → m < n → itr (fb_m_clauseOf_2 a texts (iN s)) n (iN i) = some (match (lw.drop i).findIdx? (fun c => c.1 == s) with
    | none => .inr ()
    | some k => .inl (iN (i + k)))
  | 0, i, n, hi, hnn => by
    obtain ⟨n, rfl⟩ : ∃ k, n = k + 1 := ⟨n - 1, by omega⟩
    have hl := hlw.1
    refine itr_end ?_
    rw [List.drop_eq_nil_of_le (by omega)]
    simp (disch := omega) only [fb_m_clauseOf_2, f_m_clauses, ha, hm.1, nlit, onl, negone, iN_add, iN_mul, iN_sub, iN_pm, iN_addneg, iN_ix, iN_inb, iN_lt, iN_eq, iN_nneg, iN_nm, nm_iN, mI_neg, mI_nnn, ne_eq, not_true_eq_false, not_false_eq_true, true_and, and_true, bnd, Option.bind_some, ↓reduceIte, ltT, ltF, eqT, eqF, leT, leF, List.findIdx?_nil]
  | m + 1, i, n, hi, hnn => by
    obtain ⟨n, rfl⟩ : ∃ k, n = k + 1 := ⟨n - 1, by omega⟩
    have hl := hlw.1
    have hlt : i < lw.length := by omega
    have hc : lw[i]? = some lw[i] := List.getElem?_eq_getElem hlt
    have hdr : lw.drop i = lw[i] :: lw.drop (i + 1) := List.drop_eq_getElem_cons hlt
    have hso := (hm.2 i _ hc).1
    have hc1 := (hlw.2 _ (List.mem_of_getElem? hc)).1
    rw [hdr, List.findIdx?_cons]
    by_cases h2 : lw[i].1 = s
    · rw [if_pos (by rw [h2]; exact beq_self_eq_true s)]
      refine itr_end ?_
      simp (disch := omega) only [fb_m_clauseOf_2, f_m_clauses, f_m_sortAt, ha, hm.1, hso, nlit, onl, negone, iN_add, iN_mul, iN_sub, iN_pm, iN_addneg, iN_ix, iN_inb, iN_lt, iN_eq, iN_nneg, iN_nm, nm_iN, mI_neg, mI_nnn, ne_eq, not_true_eq_false, not_false_eq_true, true_and, and_true, bnd, Option.bind_some, ↓reduceIte, ltT, ltF, eqT, eqF, leT, leF, Nat.add_zero]
    · rw [if_neg (by rw [beq_iff_eq]; exact h2)]
      rw [itr_step (s' := iN (i + 1)), M_idxLoop hs hT ha hm hlw m (i + 1) n (by omega) (by omega)]
      · cases (lw.drop (i + 1)).findIdx? (fun c => c.1 == s) with
        | none => rfl
        | some k =>
          show some (Sum.inl (iN (i + 1 + k))) = some (Sum.inl (iN (i + (k + 1))))
          rw [show i + 1 + k = i + (k + 1) by omega]
      · simp (disch := omega) only [fb_m_clauseOf_2, f_m_clauses, f_m_sortAt, ha, hm.1, hso, nlit, onl, negone, iN_add, iN_mul, iN_sub, iN_pm, iN_addneg, iN_ix, iN_inb, iN_lt, iN_eq, iN_nneg, iN_nm, nm_iN, mI_neg, mI_nnn, ne_eq, not_true_eq_false, not_false_eq_true, true_and, and_true, bnd, Option.bind_some, ↓reduceIte, ltT, ltF, eqT, eqF, leT, leF]
theorem M_clauseOf {a texts : Nat → Int32} {x : Cx} {s : Nat} (hs : s < 4) (hm : MX a texts x) : f_m_clauseOf a texts (iN s) = some (enO (idxS x s)) := by
  unfold f_m_clauseOf idxS
  cases hl : x.2.2.2.2.2 with
  | none =>
    have ha := hm.2.2.2.2.2.1 hl
    obtain ⟨k, hk⟩ : ∃ k, KF = k + 1 := ⟨KF - 1, by decide⟩
    have hit : itr (fb_m_clauseOf_2 a texts (iN s)) KF 0 = some (.inr ()) := by
      rw [hk]
      refine itr_end ?_
      simp (disch := omega) only [fb_m_clauseOf_2, f_m_clauses, ha, nlit, onl, negone, iN_add, iN_mul, iN_sub, iN_pm, iN_addneg, iN_ix, iN_inb, iN_lt, iN_eq, iN_nneg, iN_nm, nm_iN, mI_neg, mI_nnn, ne_eq, not_true_eq_false, not_false_eq_true, true_and, and_true, bnd, Option.bind_some, ↓reduceIte, ltT, ltF, eqT, eqF, leT, leF]
    rw [hit]; rfl
  | some lw =>
    obtain ⟨T, hT, ha, hml, hlw⟩ := hm.2.2.2.2.2.2 lw hl
    have h := M_idxLoop hs hT ha hml hlw lw.length 0 KF (by omega) (kf_lt (by have := hlw.1; omega))
    rw [show (0 : Int32) = iN 0 from rfl, h, List.drop_zero]
    show _ = some (enO (lw.findIdx? (fun c => c.1 == s)))
    cases lw.findIdx? (fun c => c.1 == s) with
    | none => rfl
    | some k =>
      show some (iN (0 + k)) = _
      rw [Nat.zero_add]; rfl
theorem idx_lt {x : Cx} {s i : Nat} (h : idxS x s = some i) : ∃ lw c, x.2.2.2.2.2 = some lw ∧ lw[i]? = some c ∧ c.1 = s ∧ clS x s = some c := by
  unfold idxS at h
  unfold clS
  cases hl : x.2.2.2.2.2 with
  | none => rw [hl] at h; cases h
  | some lw =>
    rw [hl] at h
    obtain ⟨c, h1, h2, h3⟩ := fi_some h
    exact ⟨lw, c, rfl, h1, h2, h3⟩
theorem idx_none {x : Cx} {s : Nat} (h : idxS x s = none) : clS x s = none := by
  unfold idxS at h
  unfold clS
  cases hl : x.2.2.2.2.2 with
  | none => rfl
  | some lw =>
    rw [hl] at h
    exact fi_none h
theorem M_held {z : Int} (h1 : -1000000 ≤ z) (h2 : z ≤ 1000000) : f_m_held (wI z) (iN 0) (iN 999) = some (zI (if z < 0 then 0 else if 999 < z then 999 else z)) := by
  unfold f_m_held
  have e0 : (iN 0).toInt64 = wI 0 := rfl
  have e9 : (iN 999).toInt64 = wI 999 := rfl
  simp (disch := omega) only [e0, e9, nlit, lg_lt, lg_gt, wI_z]
  split
  · rfl
  · split <;> rfl
section
variable {x : Cx} {t : Tn} {w g b : Nat}
theorem M_fee {a texts d named truth : Nat → Int32} {values : Nat → Int64} (hx : CxOK x) (hm : MX a texts x) (hd : MT d b t) (hb : b ≤ 525) (ht : TW t) (hw : w < 8) (hg : g < 3) : ∃ named' values' truth', f_m_feeOf (iN b) a d texts named values truth (iN w) (iN g) = some (zI (feeS x t w g), named', values', truth') := by
  have hc := M_clauseOf (s := 1) (by decide) hm
  unfold feeS
  cases hi : idxS x 1 with
  | none =>
    rw [hi] at hc
    rw [idx_none hi]
    refine ⟨named, values, truth, ?_⟩
    simp (disch := omega) only [f_m_feeOf, nlit, hc, enO_none, nlit, onl, negone, iN_add, iN_mul, iN_sub, iN_pm, iN_addneg, iN_ix, iN_inb, iN_lt, iN_eq, iN_nneg, iN_nm, nm_iN, mI_neg, mI_nnn, ne_eq, not_true_eq_false, not_false_eq_true, true_and, and_true, bnd, Option.bind_some, ↓reduceIte, ltT, ltF, eqT, eqF, leT, leF]; rfl
  | some i =>
    rw [hi] at hc
    obtain ⟨lw, c, h1, h2, h3, h4⟩ := idx_lt hi
    rw [h4]
    obtain ⟨T, hT, ha, hml, hlw⟩ := hm.2.2.2.2.2.2 lw h1
    have hl := hlw.1
    have hi' : i < lw.length := (List.getElem?_eq_some_iff.mp h2).1
    have hcw := hlw.2 _ (List.mem_of_getElem? h2)
    obtain ⟨n', g1, g2⟩ := M_nameAll (named := named) hm hd hb ht hw hg
    obtain ⟨v', t', g3, g4, g5, g6⟩ := M_sum (values := values) (truth := truth) ha hT hml hl h2 (by omega) (hcw.2.2.1 h3) g2 (envG_b hx ht hw hg)
    refine ⟨n', v', t', ?_⟩
    simp (disch := omega) only [f_m_feeOf, nlit, hc, enO_some, nlit, onl, negone, iN_add, iN_mul, iN_sub, iN_pm, iN_addneg, iN_ix, iN_inb, iN_lt, iN_eq, iN_nneg, iN_nm, nm_iN, mI_neg, mI_nnn, ne_eq, not_true_eq_false, not_false_eq_true, true_and, and_true, bnd, Option.bind_some, ↓reduceIte, ltT, ltF, eqT, eqF, leT, leF, g1, g3, un2, g4, M_held g5 g6]
theorem C_fee {pe ga hr rl cL sz tk fe : Int32} {lot born cd kd fr to values stack names sizes : Nat → Int32} {heaps : Nat → Nat → Int32} {ru : Nat} (hx : CxOK x) (hm : CX pe ga hr rl lot born ru cL sz tk fe cd kd fr to x) (hd : CT names sizes heaps t) (ht : TW t) (hw : w < 8) (hg : g < 3) : ∃ values' stack', f_go_feeOf hr rl ru cL sz fe values stack to fr cd names sizes (iN w) (iN g) = some (zI (feeS x t w g), values', stack') := by
  obtain ⟨h1, h2, h3, h4, h5, h6, h7⟩ := hm
  unfold feeS
  cases hl : x.2.2.2.2.2 with
  | none =>
    refine ⟨values, stack, ?_⟩
    rw [show clS x 1 = none by unfold clS; rw [hl]]
    rw [h6 hl]
    simp (disch := omega) only [f_go_feeOf, nlit, onl, negone, iN_add, iN_mul, iN_sub, iN_pm, iN_addneg, iN_ix, iN_inb, iN_lt, iN_eq, iN_nneg, iN_nm, nm_iN, mI_neg, mI_nnn, ne_eq, not_true_eq_false, not_false_eq_true, true_and, and_true, bnd, Option.bind_some, ↓reduceIte, ltT, ltF, eqT, eqF, leT, leF]; rfl
  | some lw =>
    obtain ⟨e1, e2, e3, e4⟩ := h7 lw hl
    have hfe := e3.2.2.1
    cases hi : lw.findIdx? (fun c => c.1 == 1) with
    | none =>
      rw [hi] at hfe
      rw [show clS x 1 = none by unfold clS; rw [hl]; exact fi_none hi]
      refine ⟨values, stack, ?_⟩
      rw [e1, hfe]
      simp (disch := omega) only [f_go_feeOf, enO_none, nlit, onl, negone, iN_add, iN_mul, iN_sub, iN_pm, iN_addneg, iN_ix, iN_inb, iN_lt, iN_eq, iN_nneg, iN_nm, nm_iN, mI_neg, mI_nnn, ne_eq, not_true_eq_false, not_false_eq_true, true_and, and_true, bnd, Option.bind_some, ↓reduceIte, ltT, ltF, eqT, eqF, leT, leF]; rfl
    | some i =>
      rw [hi] at hfe
      obtain ⟨c, k1, k2, k3⟩ := fi_some hi
      rw [show clS x 1 = some c by unfold clS; rw [hl]; exact k3]
      have hlen := e4.1
      have hi' : i < lw.length := (List.getElem?_eq_some_iff.mp k1).1
      have hcw := e4.2 _ (List.mem_of_getElem? k1)
      obtain ⟨v', g1, g2⟩ := C_tell (values := values) hx h3 hd ht hw hg
      obtain ⟨s', g3⟩ := C_sum (stack := stack) e3 hlen k1 (by omega) (hcw.2.2.1 k2) g2 (envG_b hx ht hw hg)
      obtain ⟨g5, g6⟩ := sumS_b (hcw.2.2.1 k2) (envG_b hx ht hw hg)
      refine ⟨v', s', ?_⟩
      have em : ((f_math_min_II (iN 999) (zI (sumS (envG x t w g) c.2.1))).bind fun r4 => (f_math_max_II (iN 0) r4).bind fun r5 => some (r5, v', s')) = some (zI (if sumS (envG x t w g) c.2.1 < 0 then 0 else if 999 < sumS (envG x t w g) c.2.1 then 999 else sumS (envG x t w g) c.2.1), v', s') := by
        unfold f_math_min_II f_math_max_II
        rw [show iN 999 = zI 999 from rfl, show iN 0 = zI 0 from rfl]
        by_cases q1 : sumS (envG x t w g) c.2.1 < 999
        · by_cases q2 : 0 < sumS (envG x t w g) c.2.1
          · simp (disch := omega) only [zI_lt, Option.bind_some, ↓reduceIte, ltTi, ltFi, eqTi, eqFi, leTi, leFi]
          · by_cases q3 : sumS (envG x t w g) c.2.1 = 0
            · rw [q3]; rfl
            · simp (disch := omega) only [zI_lt, Option.bind_some, ↓reduceIte, ltTi, ltFi, eqTi, eqFi, leTi, leFi]
        · by_cases q3 : sumS (envG x t w g) c.2.1 = 999
          · rw [q3]; rfl
          · simp (disch := omega) only [zI_lt, Option.bind_some, ↓reduceIte, ltTi, ltFi, eqTi, eqFi, leTi, leFi]
      rw [e1, hfe]
      simp (disch := omega) only [f_go_feeOf, enO_some, nlit, onl, negone, iN_add, iN_mul, iN_sub, iN_pm, iN_addneg, iN_ix, iN_inb, iN_lt, iN_eq, iN_nneg, iN_nm, nm_iN, mI_neg, mI_nnn, ne_eq, not_true_eq_false, not_false_eq_true, true_and, and_true, bnd, Option.bind_some, ↓reduceIte, ltT, ltF, eqT, eqF, leT, leF, g1, g3, un2, em]
end
