/-- the class's sign for it -/
def cE (o : Nat × Nat) : Nat := if o.1 = 0 then o.2 else if o.1 = 1 then 20028 + o.2 else if o.1 = 2 then 20017 else if o.1 = 3 then 20007 else if o.1 = 4 then 20008 else if o.1 = 5 then 20009 else if o.1 = 6 then 20010 else if o.1 = 7 then 20011 else if o.1 = 10 then 20003 else if o.1 = 11 then 20015 else if o.1 = 12 then 20004 else if o.1 = 13 then 20016 else if o.1 = 14 then 20005 else if o.1 = 15 then 20006 else if o.1 = 20 then 20027 else if o.1 = 21 then 20026 else 20025
theorem nu_toInt {n : Nat} (h : n ≤ 9999) : (iN n - iN 20000).toInt = (n : Int) - 20000 := by
  rw [Int32.toInt_sub, iN_toInt (by omega), iN_toInt (by omega)]
  exact Int.bmod_eq_of_le (by omega) (by omega)
theorem nu_28 {n : Nat} (h : n ≤ 9999) : (iN n - iN 20000 < iN 28) = True := by
  rw [Int32.lt_iff_toInt_lt, nu_toInt h, iN_toInt (by omega)]
  exact propext ⟨fun _ => trivial, fun _ => by omega⟩
theorem nu_0 {n : Nat} (h : n ≤ 9999) : (iN n - iN 20000 < iN 0) = True := by
  rw [Int32.lt_iff_toInt_lt, nu_toInt h, iN_toInt (by omega)]
  exact propext ⟨fun _ => trivial, fun _ => by omega⟩
theorem nu_ne {n k : Nat} (h : n ≤ 9999) (hk : k < 100) : (iN n - iN 20000 = iN k) = False := by
  refine propext ⟨fun q => ?_, False.elim⟩
  have := congrArg Int32.toInt q
  rw [nu_toInt h, iN_toInt (by omega)] at this
  omega
theorem C_min {a b : Int} (h1 : -9223372036854775808 ≤ a) (h2 : a < 9223372036854775808) (h3 : -9223372036854775808 ≤ b) (h4 : b < 9223372036854775808) : f_math_min_JJ (wI a) (wI b) = some (wI (if b < a then b else a)) := by
  unfold f_math_min_JJ
  simp (disch := omega) only [nlit, lg_gt]
  split <;> rfl
theorem C_max {a b : Int} (h1 : -9223372036854775808 ≤ a) (h2 : a < 9223372036854775808) (h3 : -9223372036854775808 ≤ b) (h4 : b < 9223372036854775808) : f_math_max_JJ (wI a) (wI b) = some (wI (if a < b then b else a)) := by
  unfold f_math_max_JJ
  simp (disch := omega) only [nlit, lg_lt]
  split <;> rfl
theorem C_clamp {z : Int} {β : Type} {g : Int64 → Option β} (h1 : -9000000000000000000 ≤ z) (h2 : z ≤ 9000000000000000000) : ((f_math_min_JJ (wI 1000000) (wI z)).bind fun r14 => (f_math_max_JJ (wI (-1000000)) r14).bind fun r15 => g r15) = g (wI (clp z)) := by
  rw [C_min (by omega) (by omega) (by omega) (by omega), Option.bind_some]
  rw [C_max (by omega) (by omega) (by split <;> omega) (by split <;> omega), Option.bind_some]
  congr 2
  unfold clp
  split <;> split <;> split <;> (try split) <;> omega
theorem C_max0 {n : Nat} (h : n < 2147483648) : f_math_max_II (iN 0) (iN n) = some (iN n) := by
  unfold f_math_max_II
  simp (disch := omega) only [iN_lt]
  split
  · rfl
  · rw [show n = 0 by omega]
def rawI (o : Nat) (x y : Int) : Int := if o = 3 then x + y else if o = 4 then x - y else if o = 5 then x * y else if o = 6 then (if y = 0 then 0 else x.tdiv y) else (if y = 0 then 0 else x - x.tdiv y * y)
theorem rawI_clp {o : Nat} {x y : Int} (h1 : -1000000 ≤ x) (h2 : x ≤ 1000000) : clp (rawI o x y) = binI o x y := by
  have hd := tdiv_b (y := y) h1 h2
  have hr := tmod_b (y := y) h1 h2
  unfold rawI binI
  split
  · rfl
  · split
    · rfl
    · split
      · rfl
      · split
        · split
          · rfl
          · exact clp_id hd.1 hd.2
        · split
          · rfl
          · exact clp_id hr.1 hr.2
theorem rawI_b {o : Nat} {x y : Int} (h1 : -1000000 ≤ x) (h2 : x ≤ 1000000) (h3 : -1000000 ≤ y) (h4 : y ≤ 1000000) : -9000000000000000000 ≤ rawI o x y ∧ rawI o x y ≤ 9000000000000000000 := by
  have hm := mul_b h1 h2 h3 h4
  have hd := tdiv_b (y := y) h1 h2
  have hr := tmod_b (y := y) h1 h2
  unfold rawI
  split
  · omega
  · split
    · omega
    · split
      · omega
      · split <;> split <;> omega
theorem C_two {o : Nat} {x y : Int} (h : 3 ≤ o ∧ o ≤ 7) (h1 : -1000000 ≤ x) (h2 : x ≤ 1000000) (h3 : -1000000 ≤ y) (h4 : y ≤ 1000000) : f_sums_worthOfBoth (iN (o + 4)) (wI x) (wI y) = some (wI (rawI o x y)) := by
  have hm := mul_b h1 h2 h3 h4
  have hr : rem64 (wI x) (wI y) = wI (x - x.tdiv y * y) := by
    unfold rem64
    rw [wI_div (by omega) (by omega) (by omega) (by omega), wI_mul, wI_sub]
  have : o = 3 ∨ o = 4 ∨ o = 5 ∨ o = 6 ∨ o = 7 := by omega
  unfold f_sums_worthOfBoth rawI
  rcases this with rfl | rfl | rfl | rfl | rfl
  · simp (disch := omega) only [nlit, onl, negone, iN_add, iN_mul, iN_sub, iN_pm, iN_addneg, iN_ix, iN_inb, iN_lt, iN_eq, iN_nneg, iN_nm, nm_iN, mI_neg, mI_nnn, ne_eq, not_true_eq_false, not_false_eq_true, true_and, and_true, bnd, Option.bind_some, ↓reduceIte, ltT, ltF, eqT, eqF, leT, leF, ltTi, ltFi, eqTi, eqFi, leTi, leFi, wlit, wl0, wl1, wI_add, wI_sub, wI_mul, wI_neg, wI_inj, lg_lt, lg_gt, lg_eq, wI_z]
  · simp (disch := omega) only [nlit, onl, negone, iN_add, iN_mul, iN_sub, iN_pm, iN_addneg, iN_ix, iN_inb, iN_lt, iN_eq, iN_nneg, iN_nm, nm_iN, mI_neg, mI_nnn, ne_eq, not_true_eq_false, not_false_eq_true, true_and, and_true, bnd, Option.bind_some, ↓reduceIte, ltT, ltF, eqT, eqF, leT, leF, ltTi, ltFi, eqTi, eqFi, leTi, leFi, wlit, wl0, wl1, wI_add, wI_sub, wI_mul, wI_neg, wI_inj, lg_lt, lg_gt, lg_eq, wI_z]
  · simp (disch := omega) only [nlit, onl, negone, iN_add, iN_mul, iN_sub, iN_pm, iN_addneg, iN_ix, iN_inb, iN_lt, iN_eq, iN_nneg, iN_nm, nm_iN, mI_neg, mI_nnn, ne_eq, not_true_eq_false, not_false_eq_true, true_and, and_true, bnd, Option.bind_some, ↓reduceIte, ltT, ltF, eqT, eqF, leT, leF, ltTi, ltFi, eqTi, eqFi, leTi, leFi, wlit, wl0, wl1, wI_add, wI_sub, wI_mul, wI_neg, wI_inj, lg_lt, lg_gt, lg_eq, wI_z]
  · by_cases hy : y = 0
    · simp (disch := omega) only [nlit, onl, negone, iN_add, iN_mul, iN_sub, iN_pm, iN_addneg, iN_ix, iN_inb, iN_lt, iN_eq, iN_nneg, iN_nm, nm_iN, mI_neg, mI_nnn, ne_eq, not_true_eq_false, not_false_eq_true, true_and, and_true, bnd, Option.bind_some, ↓reduceIte, ltT, ltF, eqT, eqF, leT, leF, ltTi, ltFi, eqTi, eqFi, leTi, leFi, wlit, wl0, wl1, wI_add, wI_sub, wI_mul, wI_neg, wI_inj, lg_lt, lg_gt, lg_eq, wI_z]
    · simp (disch := omega) only [nlit, onl, negone, iN_add, iN_mul, iN_sub, iN_pm, iN_addneg, iN_ix, iN_inb, iN_lt, iN_eq, iN_nneg, iN_nm, nm_iN, mI_neg, mI_nnn, ne_eq, not_true_eq_false, not_false_eq_true, true_and, and_true, bnd, Option.bind_some, ↓reduceIte, ltT, ltF, eqT, eqF, leT, leF, ltTi, ltFi, eqTi, eqFi, leTi, leFi, wlit, wl0, wl1, wI_add, wI_sub, wI_mul, wI_neg, wI_inj, lg_lt, lg_gt, lg_eq, wI_z, wI_div]
  · by_cases hy : y = 0
    · simp (disch := omega) only [nlit, onl, negone, iN_add, iN_mul, iN_sub, iN_pm, iN_addneg, iN_ix, iN_inb, iN_lt, iN_eq, iN_nneg, iN_nm, nm_iN, mI_neg, mI_nnn, ne_eq, not_true_eq_false, not_false_eq_true, true_and, and_true, bnd, Option.bind_some, ↓reduceIte, ltT, ltF, eqT, eqF, leT, leF, ltTi, ltFi, eqTi, eqFi, leTi, leFi, wlit, wl0, wl1, wI_add, wI_sub, wI_mul, wI_neg, wI_inj, lg_lt, lg_gt, lg_eq, wI_z]
    · simp (disch := omega) only [nlit, onl, negone, iN_add, iN_mul, iN_sub, iN_pm, iN_addneg, iN_ix, iN_inb, iN_lt, iN_eq, iN_nneg, iN_nm, nm_iN, mI_neg, mI_nnn, ne_eq, not_true_eq_false, not_false_eq_true, true_and, and_true, bnd, Option.bind_some, ↓reduceIte, ltT, ltF, eqT, eqF, leT, leF, ltTi, ltFi, eqTi, eqFi, leTi, leFi, wlit, wl0, wl1, wI_add, wI_sub, wI_mul, wI_neg, wI_inj, lg_lt, lg_gt, lg_eq, wI_z, hr]
def t01 (b : Bool) : Int := if b then 1 else 0
theorem t01_b (b : Bool) : 0 ≤ t01 b ∧ t01 b ≤ 1 := by cases b <;> decide
theorem zI_t01 {b : Bool} : zI (t01 b) = b01 b := by cases b <;> rfl
theorem C_asked {o : Nat} {x y : Int} (h : 10 ≤ o ∧ o ≤ 15) (h1 : -1000000 ≤ x) (h2 : x ≤ 1000000) (h3 : -1000000 ≤ y) (h4 : y ≤ 1000000) : f_sums_worthOfBoth (iN (cE (o, 0) - 20000)) (wI x) (wI y) = some (wI (t01 (cmpI o x y))) := by
  have : o = 10 ∨ o = 11 ∨ o = 12 ∨ o = 13 ∨ o = 14 ∨ o = 15 := by omega
  unfold f_sums_worthOfBoth cmpI t01 cE
  rcases this with rfl | rfl | rfl | rfl | rfl | rfl
  · by_cases hy : x < y <;> simp (disch := omega) only [nlit, onl, negone, iN_add, iN_mul, iN_sub, iN_pm, iN_addneg, iN_ix, iN_inb, iN_lt, iN_eq, iN_nneg, iN_nm, nm_iN, mI_neg, mI_nnn, ne_eq, not_true_eq_false, not_false_eq_true, true_and, and_true, bnd, Option.bind_some, ↓reduceIte, ltT, ltF, eqT, eqF, leT, leF, ltTi, ltFi, eqTi, eqFi, leTi, leFi, wlit, wl0, wl1, wI_add, wI_sub, wI_mul, wI_neg, wI_inj, lg_lt, lg_gt, lg_eq, wI_z, decide_eq_true_eq]
  · by_cases hy : x ≤ y <;> simp (disch := omega) only [nlit, onl, negone, iN_add, iN_mul, iN_sub, iN_pm, iN_addneg, iN_ix, iN_inb, iN_lt, iN_eq, iN_nneg, iN_nm, nm_iN, mI_neg, mI_nnn, ne_eq, not_true_eq_false, not_false_eq_true, true_and, and_true, bnd, Option.bind_some, ↓reduceIte, ltT, ltF, eqT, eqF, leT, leF, ltTi, ltFi, eqTi, eqFi, leTi, leFi, wlit, wl0, wl1, wI_add, wI_sub, wI_mul, wI_neg, wI_inj, lg_lt, lg_gt, lg_eq, wI_z, decide_eq_true_eq]
  · by_cases hy : y < x <;> simp (disch := omega) only [nlit, onl, negone, iN_add, iN_mul, iN_sub, iN_pm, iN_addneg, iN_ix, iN_inb, iN_lt, iN_eq, iN_nneg, iN_nm, nm_iN, mI_neg, mI_nnn, ne_eq, not_true_eq_false, not_false_eq_true, true_and, and_true, bnd, Option.bind_some, ↓reduceIte, ltT, ltF, eqT, eqF, leT, leF, ltTi, ltFi, eqTi, eqFi, leTi, leFi, wlit, wl0, wl1, wI_add, wI_sub, wI_mul, wI_neg, wI_inj, lg_lt, lg_gt, lg_eq, wI_z, decide_eq_true_eq]
  · by_cases hy : y ≤ x <;> simp (disch := omega) only [nlit, onl, negone, iN_add, iN_mul, iN_sub, iN_pm, iN_addneg, iN_ix, iN_inb, iN_lt, iN_eq, iN_nneg, iN_nm, nm_iN, mI_neg, mI_nnn, ne_eq, not_true_eq_false, not_false_eq_true, true_and, and_true, bnd, Option.bind_some, ↓reduceIte, ltT, ltF, eqT, eqF, leT, leF, ltTi, ltFi, eqTi, eqFi, leTi, leFi, wlit, wl0, wl1, wI_add, wI_sub, wI_mul, wI_neg, wI_inj, lg_lt, lg_gt, lg_eq, wI_z, decide_eq_true_eq]
  · by_cases hy : x = y <;> simp (disch := omega) only [nlit, onl, negone, iN_add, iN_mul, iN_sub, iN_pm, iN_addneg, iN_ix, iN_inb, iN_lt, iN_eq, iN_nneg, iN_nm, nm_iN, mI_neg, mI_nnn, ne_eq, not_true_eq_false, not_false_eq_true, true_and, and_true, bnd, Option.bind_some, ↓reduceIte, ltT, ltF, eqT, eqF, leT, leF, ltTi, ltFi, eqTi, eqFi, leTi, leFi, wlit, wl0, wl1, wI_add, wI_sub, wI_mul, wI_neg, wI_inj, lg_lt, lg_gt, lg_eq, wI_z, decide_eq_true_eq]
  · by_cases hy : x = y <;> simp (disch := omega) only [nlit, onl, negone, iN_add, iN_mul, iN_sub, iN_pm, iN_addneg, iN_ix, iN_inb, iN_lt, iN_eq, iN_nneg, iN_nm, nm_iN, mI_neg, mI_nnn, ne_eq, not_true_eq_false, not_false_eq_true, true_and, and_true, bnd, Option.bind_some, ↓reduceIte, ltT, ltF, eqT, eqF, leT, leF, ltTi, ltFi, eqTi, eqFi, leTi, leFi, wlit, wl0, wl1, wI_add, wI_sub, wI_mul, wI_neg, wI_inj, lg_lt, lg_gt, lg_eq, wI_z, decide_eq_true_eq]
theorem C_and {a b : Bool} : f_sums_worthOfBoth (iN 26) (b01 a).toInt64 (b01 b).toInt64 = some (wI (t01 (a && b))) := by cases a <;> cases b <;> rfl
theorem C_or {a b : Bool} : f_sums_worthOfBoth (iN 25) (b01 a).toInt64 (b01 b).toInt64 = some (wI (t01 (a || b))) := by cases a <;> cases b <;> rfl
theorem not_b01 {b : Bool} : iN 1 - b01 b = b01 (!b) := by cases b <;> rfl
theorem agB.ofI {f : Nat → Int32} {b : Nat} {x : Int} {r : List Int} (h : agI f b (x :: r)) : f (b + r.length) = zI x ∧ agI f b r := h
theorem C_step {values code stack : Nat → Int32} {al : Nat → Bool} {env : Nat → Int} {o q : Nat × Nat} {ts : List Bool} {vs : List Int} {L e i : Nat} (hc : code i = iN (cE o)) (hi : i < L) (hL : L ≤ 300) (hie : i < e) (heb : e ≤ 300) (hn : ∀ v, v < 8 → al v = true → values v = zI (env v)) (hb : ∀ v, v < 8 → al v = true → -1000000 ≤ env v ∧ env v ≤ 1000000) (ht : tyS al o ts.length vs.length = some q) (hl : ts.length + vs.length ≤ 60) (hs : agB stack ts) (hv : agI stack ts.length vs) (hbd : bdd vs) :
    ∃ stack', fb_sums_worthOf_16 values (iN L) code (iN e) (iN (ts.length + vs.length)) (iN i) stack = some (.inl (iN ((evS env o ts vs).1.length + (evS env o ts vs).2.length), iN (i + 1), stack')) ∧ agB stack' (evS env o ts vs).1 ∧ agI stack' (evS env o ts vs).1.length (evS env o ts vs).2 := by
  rcases tyS_cases ht with ⟨h, h2, h3, rfl⟩ | ⟨h, h2, h3, rfl⟩ | ⟨h, h2, rfl⟩ | ⟨h, h2, rfl⟩ | ⟨h, h2, rfl⟩ | ⟨h, h2, h3, rfl⟩ | ⟨h, h2, h3, rfl⟩
  · have e1 : evS env o ts vs = (ts, (o.2 : Int) :: vs) := by unfold evS; rw [if_pos h]
    have e2 : cE o = o.2 := by unfold cE; rw [if_pos h]
    rw [e1]; rw [e2] at hc
    refine ⟨upd stack (ts.length + vs.length) (iN o.2), ?_, hs.upd (Nat.le_add_right _ _), ⟨by rw [upd_same, zI_iN], hv.upd (Nat.le_refl _)⟩⟩
    simp (disch := omega) only [fb_sums_worthOf_16, fj_sums_worthOf_68_16, fj_sums_worthOf_173_16, f_law_codeAt, nu_28, nu_0, nu_ne, nlit, onl, negone, iN_add, iN_mul, iN_sub, iN_pm, iN_addneg, iN_ix, iN_inb, iN_lt, iN_eq, iN_nneg, iN_nm, nm_iN, mI_neg, mI_nnn, ne_eq, not_true_eq_false, not_false_eq_true, true_and, and_true, bnd, Option.bind_some, ↓reduceIte, ltT, ltF, eqT, eqF, leT, leF, hc, List.length_cons, Nat.add_assoc]
  · have e1 : evS env o ts vs = (ts, env o.2 :: vs) := by unfold evS; rw [if_neg (by omega), if_pos h]
    have e2 : cE o = 20028 + o.2 := by unfold cE; rw [if_neg (by omega), if_pos h]
    have e3 : 20028 + o.2 - 20000 - 28 = o.2 := by omega
    rw [e1]; rw [e2] at hc
    refine ⟨upd stack (ts.length + vs.length) (zI (env o.2)), ?_, hs.upd (Nat.le_add_right _ _), ⟨upd_same, hv.upd (Nat.le_refl _)⟩⟩
    simp (disch := omega) only [fb_sums_worthOf_16, fj_sums_worthOf_68_16, fj_sums_worthOf_173_16, f_law_codeAt, nlit, onl, negone, iN_add, iN_mul, iN_sub, iN_pm, iN_addneg, iN_ix, iN_inb, iN_lt, iN_eq, iN_nneg, iN_nm, nm_iN, mI_neg, mI_nnn, ne_eq, not_true_eq_false, not_false_eq_true, true_and, and_true, bnd, Option.bind_some, ↓reduceIte, ltT, ltF, eqT, eqF, leT, leF, hc, e3, hn o.2 h2.1 h2.2, List.length_cons, Nat.add_assoc]
  · have e2 : cE o = 20017 := by unfold cE; rw [if_neg (by omega), if_neg (by omega), if_pos h]
    rw [e2] at hc
    match vs, h2, hv, hbd, hl with
    | x :: r, _, hv, hbd, hl =>
      have e1 : evS env o ts (x :: r) = (ts, -x :: r) := by unfold evS; simp (disch := omega) only [if_pos, if_neg]
      rw [e1]
      rw [List.length_cons] at hl
      have e3 : ts.length + (r.length + 1) - 1 = ts.length + r.length := by omega
      have e4 : ts.length + r.length + 1 = ts.length + (r.length + 1) := by omega
      refine ⟨upd stack (ts.length + r.length) (zI (-x)), ?_, hs.upd (Nat.le_add_right _ _), ⟨upd_same, hv.2.upd (Nat.le_refl _)⟩⟩
      simp (disch := omega) only [fb_sums_worthOf_16, fj_sums_worthOf_68_16, fj_sums_worthOf_82_16, fj_sums_worthOf_173_16, f_law_codeAt, C_max0, nlit, onl, negone, iN_add, iN_mul, iN_sub, iN_pm, iN_addneg, iN_ix, iN_inb, iN_lt, iN_eq, iN_nneg, iN_nm, nm_iN, mI_neg, mI_nnn, ne_eq, not_true_eq_false, not_false_eq_true, true_and, and_true, bnd, Option.bind_some, ↓reduceIte, ltT, ltF, eqT, eqF, leT, leF, hc, Nat.reduceSub, List.length_cons, e3, hv.1, zI_neg, e4]
  · match vs, h2, hv, hbd, hl with
    | y :: x :: r, _, hv, hbd, hl =>
      have e1 : evS env o ts (y :: x :: r) = (ts, binI o.1 x y :: r) := by unfold evS; simp (disch := omega) only [if_pos, if_neg]
      rw [e1]
      rw [List.length_cons, List.length_cons] at hl
      have by_ := hbd y List.mem_cons_self
      have bx := hbd x (List.mem_cons_of_mem _ List.mem_cons_self)
      have e2 : cE o = 20000 + (o.1 + 4) := by
        have : o.1 = 3 ∨ o.1 = 4 ∨ o.1 = 5 ∨ o.1 = 6 ∨ o.1 = 7 := by omega
        unfold cE
        rcases this with q | q | q | q | q <;> rw [q] <;> rfl
      rw [e2] at hc
      have e3 : ts.length + (r.length + 1 + 1) - 2 = ts.length + r.length := by omega
      have e4 : ts.length + r.length + 1 = ts.length + (r.length + 1) := by omega
      have e5 : 20000 + (o.1 + 4) - 20000 = o.1 + 4 := by omega
      have hv1 : stack (ts.length + (r.length + 1)) = zI y := hv.1
      have hrb := rawI_b (o := o.1) bx.1 bx.2 by_.1 by_.2
      refine ⟨upd stack (ts.length + r.length) (zI (binI o.1 x y)), ?_, hs.upd (Nat.le_add_right _ _), ⟨upd_same, hv.2.2.upd (Nat.le_refl _)⟩⟩
      simp (disch := omega) only [fb_sums_worthOf_16, fj_sums_worthOf_68_16, fj_sums_worthOf_173_16, f_law_codeAt, C_max0, nlit, onl, negone, iN_add, iN_mul, iN_sub, iN_pm, iN_addneg, iN_ix, iN_inb, iN_lt, iN_eq, iN_nneg, iN_nm, nm_iN, mI_neg, mI_nnn, ne_eq, not_true_eq_false, not_false_eq_true, true_and, and_true, bnd, Option.bind_some, ↓reduceIte, ltT, ltF, eqT, eqF, leT, leF, hc, e5, List.length_cons, e3, e4, hv1, hv.2.1, zI_w, C_two h bx.1 bx.2 by_.1 by_.2, wlit, C_clamp, rawI_clp, wI_z]
  · match vs, h2, hv, hbd, hl with
    | [y, x], _, hv, hbd, hl =>
      have e1 : evS env o ts [y, x] = (cmpI o.1 x y :: ts, []) := by unfold evS; simp (disch := omega) only [if_pos, if_neg]
      rw [e1]
      have by_ := hbd y List.mem_cons_self
      have bx := hbd x (List.mem_cons_of_mem _ List.mem_cons_self)
      have hv1 : stack (ts.length + 1) = zI y := hv.1
      have hv0 : stack ts.length = zI x := hv.2.1
      have hl : ts.length + 2 ≤ 60 := hl
      have hcE : cE (o.1, 0) = cE o := by
        unfold cE
        simp (disch := omega) only [if_neg]
      have hca := C_asked h bx.1 bx.2 by_.1 by_.2
      rw [hcE] at hca
      have e5 : 20003 ≤ cE o ∧ cE o ≤ 20016 ∧ (cE o ≤ 20006 ∨ 20015 ≤ cE o) := by
        have : o.1 = 10 ∨ o.1 = 11 ∨ o.1 = 12 ∨ o.1 = 13 ∨ o.1 = 14 ∨ o.1 = 15 := by omega
        unfold cE
        rcases this with q | q | q | q | q | q <;> (simp (disch := omega) only [q, ↓reduceIte, eqF]; decide)
      have hrb := t01_b (cmpI o.1 x y)
      refine ⟨upd stack ts.length (b01 (cmpI o.1 x y)), ?_, ⟨upd_same, hs.upd (Nat.le_refl _)⟩, trivial⟩
      simp (disch := omega) only [fb_sums_worthOf_16, fj_sums_worthOf_68_16, fj_sums_worthOf_173_16, f_law_codeAt, C_max0, nlit, onl, negone, iN_add, iN_mul, iN_sub, iN_pm, iN_addneg, iN_ix, iN_inb, iN_lt, iN_eq, iN_nneg, iN_nm, nm_iN, mI_neg, mI_nnn, ne_eq, not_true_eq_false, not_false_eq_true, true_and, and_true, bnd, Option.bind_some, ↓reduceIte, ltT, ltF, eqT, eqF, leT, leF, hc, List.length_cons, List.length_nil, Nat.zero_add, Nat.reduceAdd, Nat.add_sub_cancel, Nat.add_zero, hv1, hv0, zI_w, hca, wlit, C_clamp, clp_id, wI_z, zI_t01]
  · have e2 : cE o = 20027 := by unfold cE; simp (disch := omega) only [if_pos, if_neg]
    rw [e2] at hc
    have h3 : vs = [] := List.length_eq_zero_iff.mp h3
    subst h3
    match ts, h2, hs, hl with
    | b :: r, _, hs, hl =>
      have e1 : evS env o (b :: r) [] = ((!b) :: r, []) := by unfold evS; simp (disch := omega) only [if_pos, if_neg]
      rw [e1]
      rw [List.length_cons, List.length_nil] at hl
      refine ⟨upd stack r.length (b01 (!b)), ?_, ⟨upd_same, hs.2.upd (Nat.le_refl _)⟩, trivial⟩
      simp (disch := omega) only [fb_sums_worthOf_16, fj_sums_worthOf_68_16, fj_sums_worthOf_82_16, fj_sums_worthOf_173_16, f_law_codeAt, C_max0, nlit, onl, negone, iN_add, iN_mul, iN_sub, iN_pm, iN_addneg, iN_ix, iN_inb, iN_lt, iN_eq, iN_nneg, iN_nm, nm_iN, mI_neg, mI_nnn, ne_eq, not_true_eq_false, not_false_eq_true, true_and, and_true, bnd, Option.bind_some, ↓reduceIte, ltT, ltF, eqT, eqF, leT, leF, hc, Nat.reduceSub, List.length_cons, List.length_nil, Nat.add_zero, Nat.add_sub_cancel, hs.1, not_b01]
  · have h3 : vs = [] := List.length_eq_zero_iff.mp h3
    subst h3
    match ts, h2, hs, hl with
    | b :: a :: r, _, hs, hl =>
      rw [List.length_cons, List.length_cons, List.length_nil] at hl
      have hs1 : stack (r.length + 1) = b01 b := hs.1
      have e3 : r.length + 1 + 1 - 2 = r.length := by omega
      rcases h with h | h
      · have e1 : evS env o (b :: a :: r) [] = ((a && b) :: r, []) := by unfold evS; simp (disch := omega) only [if_pos, if_neg]
        have e2 : cE o = 20026 := by unfold cE; simp (disch := omega) only [if_pos, if_neg]
        rw [e1]; rw [e2] at hc
        have hrb := t01_b (a && b)
        refine ⟨upd stack r.length (b01 (a && b)), ?_, ⟨upd_same, hs.2.2.upd (Nat.le_refl _)⟩, trivial⟩
        simp (disch := omega) only [fb_sums_worthOf_16, fj_sums_worthOf_68_16, fj_sums_worthOf_173_16, f_law_codeAt, C_max0, nlit, onl, negone, iN_add, iN_mul, iN_sub, iN_pm, iN_addneg, iN_ix, iN_inb, iN_lt, iN_eq, iN_nneg, iN_nm, nm_iN, mI_neg, mI_nnn, ne_eq, not_true_eq_false, not_false_eq_true, true_and, and_true, bnd, Option.bind_some, ↓reduceIte, ltT, ltF, eqT, eqF, leT, leF, hc, Nat.reduceSub, List.length_cons, List.length_nil, Nat.add_zero, e3, hs1, hs.2.1, C_and, wlit, C_clamp, clp_id, wI_z, zI_t01]
      · have e1 : evS env o (b :: a :: r) [] = ((a || b) :: r, []) := by unfold evS; simp (disch := omega) only [if_pos, if_neg]
        have e2 : cE o = 20025 := by unfold cE; simp (disch := omega) only [if_pos, if_neg]
        rw [e1]; rw [e2] at hc
        have hrb := t01_b (a || b)
        refine ⟨upd stack r.length (b01 (a || b)), ?_, ⟨upd_same, hs.2.2.upd (Nat.le_refl _)⟩, trivial⟩
        simp (disch := omega) only [fb_sums_worthOf_16, fj_sums_worthOf_68_16, fj_sums_worthOf_173_16, f_law_codeAt, C_max0, nlit, onl, negone, iN_add, iN_mul, iN_sub, iN_pm, iN_addneg, iN_ix, iN_inb, iN_lt, iN_eq, iN_nneg, iN_nm, nm_iN, mI_neg, mI_nnn, ne_eq, not_true_eq_false, not_false_eq_true, true_and, and_true, bnd, Option.bind_some, ↓reduceIte, ltT, ltF, eqT, eqF, leT, leF, hc, Nat.reduceSub, List.length_cons, List.length_nil, Nat.add_zero, e3, hs1, hs.2.1, C_or, wlit, C_clamp, clp_id, wI_z, zI_t01]
theorem C_loop {values code : Nat → Int32} {al : Nat → Bool} {env : Nat → Int} {L e : Nat} (hL : L ≤ 300) (heL : e ≤ L) (hn : ∀ v, v < 8 → al v = true → values v = zI (env v)) (hb : ∀ v, v < 8 → al v = true → -1000000 ≤ env v ∧ env v ≤ 1000000) : ∀ (ops : List (Nat × Nat)) (i n : Nat) (ts : List Bool) (vs : List Int) (stack : Nat → Int32) (q : Nat × Nat), i + ops.length = e → (∀ j o, ops[j]? = some o → code (i + j) = iN (cE o)) → tyR al ops ts.length vs.length = some q → ts.length + vs.length ≤ 60 → agB stack ts → agI stack ts.length vs → bdd vs → ops.length < n →
    ∃ stack', itr (un3 (fb_sums_worthOf_16 values (iN L) code (iN e))) n (iN (ts.length + vs.length), iN i, stack) = some stack' ∧ agB stack' (evR env ops ts vs).1 ∧ agI stack' (evR env ops ts vs).1.length (evR env ops ts vs).2
  | [], i, n, ts, vs, stack, q, hi, _, hq, hl, hs, hv, hbd, hnn => by
    obtain ⟨n, rfl⟩ : ∃ m, n = m + 1 := ⟨n - 1, by omega⟩
    have hi : i = e := hi
    subst hi
    refine ⟨stack, itr_end ?_, hs, hv⟩
    simp (disch := omega) only [un3, fb_sums_worthOf_16, nlit, onl, negone, iN_add, iN_mul, iN_sub, iN_pm, iN_addneg, iN_ix, iN_inb, iN_lt, iN_eq, iN_nneg, iN_nm, nm_iN, mI_neg, mI_nnn, ne_eq, not_true_eq_false, not_false_eq_true, true_and, and_true, bnd, Option.bind_some, ↓reduceIte, ltT, ltF, eqT, eqF, leT, leF]
  | o :: ops, i, n, ts, vs, stack, q, hi, hc, hq, hl, hs, hv, hbd, hnn => by
    rw [List.length_cons] at hi hnn
    obtain ⟨n, rfl⟩ : ∃ m, n = m + 1 := ⟨n - 1, by omega⟩
    have h0 := hc 0 o rfl
    rw [Nat.add_zero] at h0
    unfold tyR at hq
    cases hty : tyS al o ts.length vs.length with
    | none => rw [hty] at hq; cases hq
    | some q1 =>
      rw [hty, Option.bind_some] at hq
      obtain ⟨hb1, hb2, hb3⟩ := evS_ok (env := env) hty hb hbd
      obtain ⟨s', g1, g2, g3⟩ := C_step (env := env) h0 (show i < L by omega) hL (show i < e by omega) (by omega) hn hb hty hl hs hv hbd
      have hl' : q1.1 + q1.2 ≤ 60 := by
        rcases tyS_cases hty with ⟨_, _, h3, rfl⟩ | ⟨_, _, h3, rfl⟩ | ⟨_, _, rfl⟩ | ⟨_, h2, rfl⟩ | ⟨_, h2, rfl⟩ | ⟨_, _, _, rfl⟩ | ⟨_, h2, _, rfl⟩ <;> dsimp only <;> omega
      have hst : un3 (fb_sums_worthOf_16 values (iN L) code (iN e)) (iN (ts.length + vs.length), iN i, stack) = _ := g1
      rw [itr_step hst]
      rw [← hb2, ← hb3] at hq
      exact C_loop hL heL hn hb ops (i + 1) n _ _ s' q (by omega) (fun j o' hj => by
        have := hc (j + 1) o' hj
        rw [show i + 1 + j = i + (j + 1) by omega]
        exact this) hq (by rw [hb2, hb3]; exact hl') g2 g3 hb1 (by omega)
