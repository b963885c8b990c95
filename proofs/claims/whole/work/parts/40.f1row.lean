/-! ===== PURE: judge, then ===== -/
def rowS (x : Cx) : List (Nat × Nat) → Nat → Tn → Option Nat × Tn
  | [], _, t => (none, t)
  | q :: r, i, t => match goS x t q.1 q.2 with
    | none => (some i, t)
    | some z => rowS x r (i + 1) z.2
theorem rowS_TW {x : Cx} (hx : CxOK x) : ∀ (r : List (Nat × Nat)) (i : Nat) (t : Tn), (∀ q ∈ r, q.1 < x.1 ∧ q.2 < x.2.1) → TW t → TW (rowS x r i t).2
  | [], _, t, _, h => h
  | q :: r, i, t, hr, h => by
    have hq := hr q List.mem_cons_self
    have hg := goS_TW (x := x) h (show q.1 < 8 by have := hx.1; omega) (show q.2 < 3 by have := hx.2.1; omega)
    rw [rowS]
    cases hgo : goS x t q.1 q.2 with
    | none => exact h
    | some z =>
      rw [hgo] at hg
      exact rowS_TW hx r (i + 1) z.2 (fun q hq => hr q (List.mem_cons_of_mem _ hq)) hg
section
variable {x : Cx} {row : List (Nat × Nat)}
theorem C_judgeLoop {pe ga hr rl cL sz tk fe rz : Int32} {lot born cd kd fr to rc : Nat → Int32} {ru : Nat} (hx : CxOK x) (hm : CX pe ga hr rl lot born ru cL sz tk fe cd kd fr to x) (hrow : CR rz rc row) (hlen : row.length ≤ 12) (hr8 : ∀ q ∈ row, q.1 < x.1 ∧ q.2 < x.2.1) : ∀ (m i n : Nat) (names sizes values stack : Nat → Int32) (heaps : Nat → Nat → Int32) (t : Tn), i + m = row.length → m < n → CT names sizes heaps t → TW t →
    ∃ n' s' h' v' k', itr (un6 (fb_go_judgeRow_16 pe ga hr rl ru rz cL sz tk lot born rc kd to fr cd)) n (iN i, names, sizes, heaps, values, stack) = some (match (rowS x (row.drop i) i t).1 with
      | none => .inr (n', s', h', v', k')
      | some j => .inl (iN j, n', s', h', v', k')) ∧ CT n' s' h' (rowS x (row.drop i) i t).2
  | 0, i, n, names, sizes, values, stack, heaps, t, hi, hn, hd, ht => by
    obtain ⟨n, rfl⟩ : ∃ z, n = z + 1 := ⟨n - 1, by omega⟩
    rw [List.drop_eq_nil_of_le (by omega)]
    refine ⟨names, sizes, heaps, values, stack, itr_end ?_, hd⟩
    rw [hrow.1]
    simp (disch := omega) only [un6, fb_go_judgeRow_16, rowS, nlit, onl, negone, iN_add, iN_mul, iN_sub, iN_pm, iN_addneg, iN_ix, iN_inb, iN_lt, iN_eq, iN_nneg, iN_nm, nm_iN, mI_neg, mI_nnn, ne_eq, not_true_eq_false, not_false_eq_true, true_and, and_true, bnd, Option.bind_some, ↓reduceIte, ltT, ltF, eqT, eqF, leT, leF]
  | m + 1, i, n, names, sizes, values, stack, heaps, t, hi, hn, hd, ht => by
    obtain ⟨n, rfl⟩ : ∃ z, n = z + 1 := ⟨n - 1, by omega⟩
    have hlt : i < row.length := by omega
    have hc0 : row[i]? = some row[i] := List.getElem?_eq_getElem hlt
    have hdr : row.drop i = row[i] :: row.drop (i + 1) := List.drop_eq_getElem_cons hlt
    obtain ⟨e1, e2⟩ := hrow.2 i _ hc0
    have hq := hr8 _ (List.mem_of_getElem? hc0)
    have hz := hrow.1
    have a1 : f_tri_at rz 36 rc (iN i) (iN 0) = some (iN row[i].1) := by rw [hz, tri_at0 hlt (by omega) (by omega), e1]
    have a2 : f_tri_at rz 36 rc (iN i) (iN 1) = some (iN row[i].2) := by rw [hz, tri_at hlt (by omega) (by omega) (by omega), e2]
    obtain ⟨v1, s1, n1, z1, h1, g1, g2⟩ := C_doTried (values := values) (stack := stack) hx hm hd ht hq.1 hq.2
    have hTW := goS_TW (x := x) ht (show row[i].1 < 8 by have := hx.1; omega) (show row[i].2 < 3 by have := hx.2.1; omega)
    rw [hdr, rowS]
    cases hgo : goS x t row[i].1 row[i].2 with
    | none =>
      rw [hgo] at g1 g2
      refine ⟨n1, z1, h1, v1, s1, itr_end ?_, g2⟩
      rw [hz] at a1 a2 ⊢
      rw [Option.map_none, enO_none] at g1
      simp (disch := omega) only [un6, fb_go_judgeRow_16, nlit, a1, a2, g1, nlit, onl, negone, iN_add, iN_mul, iN_sub, iN_pm, iN_addneg, iN_ix, iN_inb, iN_lt, iN_eq, iN_nneg, iN_nm, nm_iN, mI_neg, mI_nnn, ne_eq, not_true_eq_false, not_false_eq_true, true_and, and_true, bnd, Option.bind_some, ↓reduceIte, ltT, ltF, eqT, eqF, leT, leF]
    | some z =>
      rw [hgo] at g1 g2 hTW
      have hn8 := goS_name ht hgo
      obtain ⟨n2, z2, h2, v2, s2, g3, g4⟩ := C_judgeLoop hx hm hrow hlen hr8 m (i + 1) n n1 z1 v1 s1 h1 z.2 (by omega) (by omega) g2 hTW
      refine ⟨n2, z2, h2, v2, s2, ?_, g4⟩
      rw [itr_step (s' := (iN (i + 1), n1, z1, h1, v1, s1)), g3]
      rw [hz] at a1 a2 ⊢
      rw [Option.map_some, enO_some] at g1
      simp (disch := omega) only [un6, fb_go_judgeRow_16, nlit, a1, a2, g1, nlit, onl, negone, iN_add, iN_mul, iN_sub, iN_pm, iN_addneg, iN_ix, iN_inb, iN_lt, iN_eq, iN_nneg, iN_nm, nm_iN, mI_neg, mI_nnn, ne_eq, not_true_eq_false, not_false_eq_true, true_and, and_true, bnd, Option.bind_some, ↓reduceIte, ltT, ltF, eqT, eqF, leT, leF]
theorem C_judgeRow {pe ga hr rl cL sz tk fe rz : Int32} {lot born cd kd fr to rc values stack tn tz nm ns : Nat → Int32} {th nh : Nat → Nat → Int32} {ru : Nat} {t : Tn} (hx : CxOK x) (hm : CX pe ga hr rl lot born ru cL sz tk fe cd kd fr to x) (hrow : CR rz rc row) (hlen : row.length ≤ 12) (hr8 : ∀ q ∈ row, q.1 < x.1 ∧ q.2 < x.2.1) (hd : CT nm ns nh t) (ht : TW t) : ∃ n' s' h' v' k', f_go_judgeRow pe ga hr rl ru tn tz th rz values cL sz tk stack lot born nm ns nh rc kd to fr cd = some (enO (rowS x row 0 t).1, n', s', h', v', k') ∧ CT n' s' h' (rowS x row 0 t).2 := by
  obtain ⟨n1, s1, h1, e1, e2⟩ := C_copyTown (nm := tn) (sz := tz) (hp := th) hd ht
  obtain ⟨n', s', h', v', k', g1, g2⟩ := C_judgeLoop hx hm hrow hlen hr8 row.length 0 KF n1 s1 values stack h1 t (by omega) (kf_lt (by omega)) e2 ht
  rw [List.drop_zero] at g1 g2
  refine ⟨n', s', h', v', k', ?_, g2⟩
  unfold f_go_judgeRow
  rw [e1, Option.bind_some]
  simp only [un3, nlit, g1]
  cases (rowS x row 0 t).1 <;> rfl
theorem M_rowLoop {a texts : Nat → Int32} {b : Nat} (hx : CxOK x) (hm : MX a texts x) (h6 : a 6 = iN row.length) (hrow : ∀ (k : Nat) (q : Nat × Nat), row[k]? = some q → a (100 + 2 * k) = iN q.1 ∧ a (100 + 2 * k + 1) = iN q.2) (hlen : row.length ≤ 12) (hr8 : ∀ q ∈ row, q.1 < x.1 ∧ q.2 < x.2.1) (hb : b ≤ 525) : ∀ (m i n : Nat) (d named truth : Nat → Int32) (values : Nat → Int64) (t : Tn), i + m = row.length → m < n → MT d b t → TW t →
    ∃ d' n' v' k', itr (un5 (fb_m_doRow_13 (iN b) a texts)) n (iN i, d, named, values, truth) = some (match (rowS x (row.drop i) i t).1 with
      | none => .inr (d', n', v', k')
      | some j => .inl (iN j, d', n', v', k')) ∧ MT d' b (rowS x (row.drop i) i t).2 ∧ ∀ j, j < b ∨ b + 35 ≤ j → d' j = d j
  | 0, i, n, d, named, truth, values, t, hi, hn, hd, ht => by
    obtain ⟨n, rfl⟩ : ∃ z, n = z + 1 := ⟨n - 1, by omega⟩
    rw [List.drop_eq_nil_of_le (by omega)]
    refine ⟨d, named, values, truth, itr_end ?_, hd, fun _ _ => rfl⟩
    simp (disch := omega) only [un5, fb_m_doRow_13, h6, rowS, nlit, onl, negone, iN_add, iN_mul, iN_sub, iN_pm, iN_addneg, iN_ix, iN_inb, iN_lt, iN_eq, iN_nneg, iN_nm, nm_iN, mI_neg, mI_nnn, ne_eq, not_true_eq_false, not_false_eq_true, true_and, and_true, bnd, Option.bind_some, ↓reduceIte, ltT, ltF, eqT, eqF, leT, leF]
  | m + 1, i, n, d, named, truth, values, t, hi, hn, hd, ht => by
    obtain ⟨n, rfl⟩ : ∃ z, n = z + 1 := ⟨n - 1, by omega⟩
    have hlt : i < row.length := by omega
    have hc0 : row[i]? = some row[i] := List.getElem?_eq_getElem hlt
    have hdr : row.drop i = row[i] :: row.drop (i + 1) := List.drop_eq_getElem_cons hlt
    obtain ⟨e1, e2⟩ := hrow i _ hc0
    have hq := hr8 _ (List.mem_of_getElem? hc0)
    have hw8 : row[i].1 < 8 := by have := hx.1; omega
    have hg3 : row[i].2 < 3 := by have := hx.2.1; omega
    obtain ⟨d1, n1, v1, t1, g1, g2, g2'⟩ := M_goes (named := named) (values := values) (truth := truth) hx hm hd hb ht hw8 hg3
    have hTW := goS_TW (x := x) ht hw8 hg3
    rw [hdr, rowS]
    cases hgo : goS x t row[i].1 row[i].2 with
    | none =>
      rw [hgo] at g1 g2
      refine ⟨d1, n1, v1, t1, itr_end ?_, g2, g2'⟩
      rw [Option.isSome_none] at g1
      simp (disch := omega) only [un5, fb_m_doRow_13, h6, e1, e2, g1, bF0, nlit, onl, negone, iN_add, iN_mul, iN_sub, iN_pm, iN_addneg, iN_ix, iN_inb, iN_lt, iN_eq, iN_nneg, iN_nm, nm_iN, mI_neg, mI_nnn, ne_eq, not_true_eq_false, not_false_eq_true, true_and, and_true, bnd, Option.bind_some, ↓reduceIte, ltT, ltF, eqT, eqF, leT, leF]
    | some z =>
      rw [hgo] at g1 g2 hTW
      obtain ⟨d2, n2, v2, t2, g3, g4, g5⟩ := M_rowLoop hx hm h6 hrow hlen hr8 hb m (i + 1) n d1 n1 t1 v1 z.2 (by omega) (by omega) g2 hTW
      refine ⟨d2, n2, v2, t2, ?_, g4, fun j hj => (g5 j hj).trans (g2' j hj)⟩
      rw [itr_step (s' := (iN (i + 1), d1, n1, v1, t1)), g3]
      rw [Option.isSome_some] at g1
      simp (disch := omega) only [un5, fb_m_doRow_13, h6, e1, e2, g1, bT0, nlit, onl, negone, iN_add, iN_mul, iN_sub, iN_pm, iN_addneg, iN_ix, iN_inb, iN_lt, iN_eq, iN_nneg, iN_nm, nm_iN, mI_neg, mI_nnn, ne_eq, not_true_eq_false, not_false_eq_true, true_and, and_true, bnd, Option.bind_some, ↓reduceIte, ltT, ltF, eqT, eqF, leT, leF]
theorem M_doRow {a texts d named truth : Nat → Int32} {values : Nat → Int64} {b0 : Int32} {t : Tn} (hx : CxOK x) (hm : MX a texts x) (h6 : a 6 = iN row.length) (hrow : ∀ (k : Nat) (q : Nat × Nat), row[k]? = some q → a (100 + 2 * k) = iN q.1 ∧ a (100 + 2 * k + 1) = iN q.2) (hlen : row.length ≤ 12) (hr8 : ∀ q ∈ row, q.1 < x.1 ∧ q.2 < x.2.1) (hd : MT d 0 t) (ht : TW t) : ∃ d' n' v' k', f_m_doRow b0 a d texts named values truth = some (enO (rowS x row 0 t).1, iN 70, d', n', v', k') ∧ MT d' 70 (rowS x row 0 t).2 ∧ ∀ j, j < 70 → d' j = d j := by
  obtain ⟨d1, e1, e2, e3⟩ := M_copyT (i := 0) (j := 2) hd ht (by decide) (by decide) (by decide)
  obtain ⟨d', n', v', k', g1, g2, g3⟩ := M_rowLoop (b := 70) hx hm h6 hrow hlen hr8 (by decide) row.length 0 KF d1 named truth values t (by omega) (kf_lt (by omega)) e2 ht
  rw [List.drop_zero] at g1 g2
  refine ⟨d', n', v', k', ?_, g2, fun j hj => (g3 j (Or.inl hj)).trans (e3 j (Or.inl (by omega)))⟩
  unfold f_m_doRow f_m_tries
  simp only [nlit, e1, Option.bind_some, iN_mul, Nat.reduceMul, g1]
  cases (rowS x row 0 t).1 <;> rfl
end
section
variable {pe ga hr tx rl xx dz rz kz : Int32} {bo lo pa dn nm sz dc rc kc a d : Nat → Int32} {hp : Nat → Nat → Int32} {s : Wd} {laws : Nat → Lw} {texts cL lz tk fe : Nat → Int32} {cd kd fr to : Nat → Nat → Int32} {values stack tn tz named truth : Nat → Int32} {th : Nat → Nat → Int32} {mv : Nat → Int64}
theorem J_judge (hC : CW pe ga hr tx rl xx bo lo pa dn nm sz hp dz dc rz rc kz kc s) (hM : MA a s) (hok : WOK s) (hT : MT d 0 s.2.2.1) (hcl : CLs cL lz tk fe cd kd fr to s.1.2.2.2.1 laws) (hml : MLs texts s.1.2.2.2.1 laws) : ∃ r n' s' h' v' k' d' mn mv' mt, f_x_judge pe ga hr rl (ruO s) rz (cL (ruO s)) (lz (ruO s)) (tk (ruO s)) lo bo nm tn sz tz hp th rc values (kd (ruO s)) (to (ruO s)) (fr (ruO s)) stack (cd (ruO s)) = some (r, n', s', h', v', k') ∧ f_m_judge (iN 0) a d texts named mv truth = some (r, iN 0, d', mn, mv', mt) ∧ ∀ j, j < 70 → d' j = d j := by
  have hX := cxO_ok (laws := laws) hok
  have hcx := CX.of (texts := texts) hC.1 hC.2.1 hok hcl hml
  have hmx := MX.of hM hok hml
  obtain ⟨n', s', h', v', k', e1, -⟩ := C_judgeRow (values := values) (stack := stack) (tn := tn) (tz := tz) (th := th) hX hcx hC.2.2.2.2.1 hok.2.2.2.1.1 hok.2.2.2.1.2 hC.2.2.1 hok.2.1.1
  obtain ⟨d', mn, mv', mt, e2, -, e3⟩ := M_doRow (b0 := iN 0) (named := named) (values := mv) (truth := truth) hX hmx hM.2.2.2.1.1 hM.2.2.2.1.2 hok.2.2.2.1.1 hok.2.2.2.1.2 hT hok.2.1.1
  refine ⟨enO (rowS (cxO s laws) s.2.2.2.2.1 0 s.2.2.1).1, n', s', h', v', k', d', mn, mv', mt, ?_, ?_, e3⟩
  · simp only [f_x_judge, e1, un6, Option.bind_some]
  · simp only [f_m_judge, f_m_tries, e2, un6, Option.bind_some, nlit, iN_mul, Nat.reduceMul]
theorem J_then (hC : CW pe ga hr tx rl xx bo lo pa dn nm sz hp dz dc rz rc kz kc s) (hM : MA a s) (hok : WOK s) (hT : MT d 0 s.2.2.1) (hcl : CLs cL lz tk fe cd kd fr to s.1.2.2.2.1 laws) (hml : MLs texts s.1.2.2.2.1 laws) (l : Int32) : ∃ r n' s' h' v' k' d' mn mv' mt, f_x_then pe ga hr rl (ruO s) rz (cL (ruO s)) (lz (ruO s)) (tk (ruO s)) lo bo nm tn sz tz hp th rc values (kd (ruO s)) (to (ruO s)) (fr (ruO s)) stack (cd (ruO s)) l = some (r, n', s', h', v', k') ∧ f_m_then (iN 0) a d texts named mv truth l = some (r, iN 0, d', mn, mv', mt) ∧ ∀ j, j < 70 → d' j = d j := by
  have hX := cxO_ok (laws := laws) hok
  have hcx := CX.of (texts := texts) hC.1 hC.2.1 hok hcl hml
  have hmx := MX.of hM hok hml
  have hP := hok.1.1
  have hpe := hC.1.1
  have g1 := C_hasPerson (l := l) (show s.1.1 < 100 by omega)
  rw [← hpe] at g1
  have g2 := M_isPerson (l := l) hM.1.1 (show s.1.1 < 1000 by omega)
  cases h : inR l s.1.1 with
  | false =>
    rw [h] at g1 g2
    refine ⟨-iN 2, tn, tz, th, values, stack, d, named, mv, truth, ?_, ?_, fun _ _ => rfl⟩
    · simp only [f_x_then, g1, Option.bind_some, nlit, bF0, ↓reduceIte]
    · simp only [f_m_then, g2, Option.bind_some, nlit, bF0, ↓reduceIte]
  | true =>
    rw [h] at g1 g2
    obtain ⟨w, hw, rfl⟩ := inR_some h
    have hw8 : w < 8 := by omega
    obtain ⟨n', s', h', v', k', e1, e1'⟩ := C_judgeRow (values := values) (stack := stack) (tn := tn) (tz := tz) (th := th) hX hcx hC.2.2.2.2.1 hok.2.2.2.1.1 hok.2.2.2.1.2 hC.2.2.1 hok.2.1.1
    obtain ⟨d', mn, mv', mt, e2, e2', e3⟩ := M_doRow (b0 := iN 0) (named := named) (values := mv) (truth := truth) hX hmx hM.2.2.2.1.1 hM.2.2.2.1.2 hok.2.2.2.1.1 hok.2.2.2.1.2 hT hok.2.1.1
    cases hr' : (rowS (cxO s laws) s.2.2.2.2.1 0 s.2.2.1).1 with
    | none =>
      rw [hr', enO_none] at e1 e2
      have q1 := e1'.nameOf hw8
      have q2 := e2'.nameAt (by decide) hw8
      refine ⟨enO ((rowS (cxO s laws) s.2.2.2.2.1 0 s.2.2.1).2.1 w), n', s', h', v', k', d', mn, mv', mt, ?_, ?_, e3⟩
      · simp only [f_x_then, g1, Option.bind_some, nlit, negone, bT0, e1, un6, q1, ↓reduceIte]
      · simp only [f_m_then, fj_m_then_28, f_m_tries, g2, Option.bind_some, nlit, bT0, e2, un6, mI_neg, q2, iN_mul, Nat.reduceMul, ↓reduceIte]
    | some j =>
      rw [hr', enO_some] at e1 e2
      have hj : j < 12 := by
        have hh : ∀ (r : List (Nat × Nat)) (i : Nat) (t : Tn) (j : Nat), (rowS (cxO s laws) r i t).1 = some j → j < i + r.length := by
          intro r
          induction r with
          | nil => intro i t j hj; cases hj
          | cons q r ih =>
            intro i t j hj
            rw [rowS] at hj
            rw [List.length_cons]
            cases hgo : goS (cxO s laws) t q.1 q.2 with
            | none =>
              rw [hgo] at hj
              have : i = j := Option.some.inj hj
              omega
            | some z =>
              rw [hgo] at hj
              have := ih (i + 1) z.2 j hj
              omega
        have := hh _ _ _ _ hr'
        have := hok.2.2.2.1.1
        omega
      have e4 : (iN j = mI) = False := iN_nm (by omega)
      have e5 : (iN j < iN 0) = False := iN_nneg (by omega)
      refine ⟨-iN 2, n', s', h', v', k', d', mn, mv', mt, ?_, ?_, e3⟩
      · simp only [f_x_then, g1, Option.bind_some, nlit, negone, bT0, e1, un6, e4, ↓reduceIte]
      · simp only [f_m_then, fj_m_then_28, f_m_tries, g2, Option.bind_some, nlit, bT0, e2, un6, e5, iN_mul, Nat.reduceMul, ↓reduceIte]
end
