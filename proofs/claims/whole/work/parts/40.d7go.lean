/-! ===== PURE: a going for good; numbers of people and gates as they come ===== -/
def inR (l : Int32) (n : Nat) : Bool := decide (0 ≤ l.toInt ∧ l.toInt < (n : Int))
theorem inR_some {l : Int32} {n : Nat} (h : inR l n = true) : ∃ w, w < n ∧ l = iN w := by
  unfold inR at h
  rw [decide_eq_true_eq] at h
  refine ⟨l.toInt.toNat, by omega, ?_⟩
  rw [← zI_iN, Int.toNat_of_nonneg h.1]
  exact (Int32.ofInt_toInt l).symm
theorem inR_iN {w n : Nat} (hw : w < 2147483648) : inR (iN w) n = decide (w < n) := by
  unfold inR
  rw [iN_toInt hw]
  congr 1
  apply propext
  omega
theorem i0_toInt : (iN 0).toInt = 0 := rfl
theorem C_hasPerson {n : Nat} {l : Int32} (hn : n < 100) : f_world_hasPerson (iN n) l = some (b01 (inR l n)) := by
  unfold f_world_hasPerson inR b01
  rw [nlit, nlit]
  simp only [Int32.lt_iff_toInt_lt, iN_toInt (show n < 2147483648 by omega), i0_toInt]
  by_cases h1 : l.toInt < 0
  · rw [if_pos h1, if_neg (by rw [decide_eq_true_eq]; omega)]
  · rw [if_neg h1]
    by_cases h2 : l.toInt < (n : Int)
    · rw [if_pos h2, if_pos (by rw [decide_eq_true_eq]; omega)]
    · rw [if_neg h2, if_neg (by rw [decide_eq_true_eq]; omega)]
theorem C_hasGate {n : Nat} {l : Int32} (hn : n < 100) : f_world_hasGate (iN n) l = some (b01 (inR l n)) := C_hasPerson hn
theorem sub1_toInt {n : Nat} (hn : n < 1000) : (iN n - iN 1).toInt = (n : Int) - 1 := by
  rw [Int32.toInt_sub, iN_toInt (by omega), iN_toInt (by omega)]
  exact Int.bmod_eq_of_le (by omega) (by omega)
theorem M_isIn0 {n : Nat} {l : Int32} (hn : n < 1000) : f_m_isIn l (iN 0) (iN n - iN 1) = some (b01 (inR l n)) := by
  unfold f_m_isIn inR b01
  simp only [Int32.lt_iff_toInt_lt, sub1_toInt hn, i0_toInt]
  by_cases h1 : l.toInt < 0
  · rw [if_pos h1, if_neg (by rw [decide_eq_true_eq]; omega)]; rfl
  · rw [if_neg h1]
    by_cases h2 : l.toInt < (n : Int)
    · rw [if_neg (by omega), if_pos (by rw [decide_eq_true_eq]; omega)]; rfl
    · rw [if_pos (by omega), if_neg (by rw [decide_eq_true_eq]; omega)]; rfl
theorem bz_b01 {b : Bool} : bz (b01 b) = True := by cases b <;> exact propext ⟨fun _ => trivial, fun _ => by decide⟩
theorem M_isPerson {a : Nat → Int32} {n : Nat} {l : Int32} (ha : a 0 = iN n) (hn : n < 1000) : f_m_isPerson a l = some (b01 (inR l n)) := by
  simp only [f_m_isPerson, nlit, ha, M_isIn0 hn, Option.bind_some, bz_b01, ↓reduceIte]
theorem M_isGate {a : Nat → Int32} {n : Nat} {l : Int32} (ha : a 1 = iN n) (hn : n < 1000) : f_m_isGate a l = some (b01 (inR l n)) := by
  simp only [f_m_isGate, nlit, ha, M_isIn0 hn, Option.bind_some, bz_b01, ↓reduceIte]
def drX (X : Nat) : Nat := (X * 191 + 43) % 30109
theorem iN_div {a b : Nat} (ha : a < 2147483648) (hb : b < 2147483648) : iN a / iN b = iN (a / b) := (Int32.ofNat_div ha hb).symm
theorem iN_rem {a b : Nat} (ha : a < 2147483648) (hb : b < 2147483648) : rem32 (iN a) (iN b) = iN (a % b) := by
  unfold rem32
  rw [iN_div ha hb, iN_mul, iN_sub (Nat.div_mul_le_self a b)]
  congr 1
  have := Nat.div_add_mod a b
  rw [Nat.mul_comm] at this
  omega
theorem C_draw {X m : Nat} (hX : X < 200000) (hm : 0 < m) (hm2 : m < 100) : f_world_draw (iN X) (iN m) = some (iN (X % m), iN (drX X)) := by
  unfold drX
  simp (disch := omega) only [f_world_draw, fj_world_draw_14, iN_rem, nlit, onl, negone, iN_add, iN_mul, iN_sub, iN_pm, iN_addneg, iN_ix, iN_inb, iN_lt, iN_eq, iN_nneg, iN_nm, nm_iN, mI_neg, mI_nnn, ne_eq, not_true_eq_false, not_false_eq_true, true_and, and_true, bnd, Option.bind_some, ↓reduceIte, ltT, ltF, eqT, eqF, leT, leF]
theorem wI_rem {a b : Int} (h1 : -9000000000000000000 ≤ a) (h2 : a < 9000000000000000000) (h3 : -9000000000000000000 ≤ b) (h4 : b < 9000000000000000000) : rem64 (wI a) (wI b) = wI (a - a.tdiv b * b) := by
  unfold rem64
  rw [wI_div (by omega) (by omega) (by omega) (by omega), wI_mul, wI_sub]
theorem M_draw {a : Nat → Int32} {X m : Nat} (ha : a 8 = iN X) (hX : X < 200000) (hm : 0 < m) (hm2 : m < 100) : f_m_draw a (iN m) = some (iN (X % m), upd a 8 (iN (drX X))) := by
  have e1 : (wI 30109 = wI 0) = False := propext ⟨fun q => absurd q (by decide), False.elim⟩
  have e2 : (wI (((X : Int) * 191 + 43) - ((X : Int) * 191 + 43).tdiv 30109 * 30109)).toInt32 = iN (drX X) := by
    rw [wI_z, ← zI_iN]
    congr 1
    have h1 : ((X : Int) * 191 + 43) = ((X * 191 + 43 : Nat) : Int) := by omega
    rw [h1, show (30109 : Int) = ((30109 : Nat) : Int) from rfl, ← Int.ofNat_tdiv]
    unfold drX
    omega
  simp (disch := omega) only [f_m_draw, ha, iN_rem, iN_w, wlit, wl0, wI_mul, wI_add, wI_rem, e1, e2, nlit, onl, negone, iN_add, iN_mul, iN_sub, iN_pm, iN_addneg, iN_ix, iN_inb, iN_lt, iN_eq, iN_nneg, iN_nm, nm_iN, mI_neg, mI_nnn, ne_eq, not_true_eq_false, not_false_eq_true, true_and, and_true, bnd, Option.bind_some, ↓reduceIte, ltT, ltF, eqT, eqF, leT, leF]
/-- a going for good: the name, the town, X, the fee -/
def goN (x : Cx) (X : Nat) (t : Tn) (w g : Nat) : Option (Nat × Tn × Nat) := if canS x t w g then
    match t.1 w with
    | some n => some (n, outT t w g n, X)
    | none => if x.2.2.2.1 g then some ((t.2 g).getD (X % (t.2 g).length) 0, inT t w g (X % (t.2 g).length) ((t.2 g).getD (X % (t.2 g).length) 0), drX X) else some ((t.2 g).getD (pickS x t w g) 0, inT t w g (pickS x t w g) ((t.2 g).getD (pickS x t w g) 0), X)
  else none
def aftT (t : Tn) (o : Option (Nat × Tn × Nat)) : Tn := match o with
  | none => t
  | some q => q.2.1
def aftX (X : Nat) (o : Option (Nat × Tn × Nat)) : Nat := match o with
  | none => X
  | some q => q.2.2
theorem lot_at {l : List Nat} {X : Nat} (h : l ≠ []) : l[X % l.length]? = some (l.getD (X % l.length) 0) := by
  have hl : 0 < l.length := List.length_pos_iff.mpr h
  rw [List.getD_eq_getElem?_getD, List.getElem?_eq_getElem (Nat.mod_lt X hl)]; rfl
theorem goN_TW {x : Cx} {X : Nat} {t : Tn} {w g : Nat} (ht : TW t) (hw : w < 8) (hg : g < 3) : TW (aftT t (goN x X t w g)) := by
  unfold goN
  by_cases hc : canS x t w g = true
  · rw [if_pos hc]
    cases q : t.1 w with
    | some n => exact ht.out q hg
    | none =>
      show TW (aftT t (if x.2.2.2.1 g then _ else _))
      cases x.2.2.2.1 g with
      | true => exact ht.in hw q (lot_at (can_ne hc q))
      | false => exact ht.in hw q (pick_at (can_ne hc q))
  · rw [if_neg hc]; exact ht
theorem goN_X {x : Cx} {X : Nat} {t : Tn} {w g : Nat} (hX : X < 200000) : aftX X (goN x X t w g) < 200000 := by
  unfold goN
  by_cases hc : canS x t w g = true
  · rw [if_pos hc]
    cases q : t.1 w with
    | some n => exact hX
    | none =>
      show aftX X (if x.2.2.2.1 g then _ else _) < _
      cases x.2.2.2.1 g with
      | true =>
        show drX X < 200000
        unfold drX
        omega
      | false => exact hX
  · rw [if_neg hc]; exact hX
section
variable {x : Cx} {t : Tn} {w g X : Nat}
theorem C_doNow {pe ga hr rl cL sz tk fe : Int32} {lot born paid done cd kd fr to values stack names sizes : Nat → Int32} {heaps : Nat → Nat → Int32} {ru : Nat} (hx : CxOK x) (hm : CX pe ga hr rl lot born ru cL sz tk fe cd kd fr to x) (hX : X < 200000) (hd : CT names sizes heaps t) (ht : TW t) (hw : w < x.1) (hg : g < x.2.1) : ∃ values' stack' names' sizes' heaps', f_go_doNow pe ga hr rl (iN X) ru values cL sz tk fe stack paid done lot born names sizes kd to fr cd heaps (iN w) (iN g) = some (enO ((goN x X t w g).map Prod.fst), iN (aftX X (goN x X t w g)), values', stack', (if (goN x X t w g).isSome then upd paid w (paid w + zI (feeS x t w g)) else paid), (if (goN x X t w g).isSome then upd done w (done w + iN 1) else done), names', sizes', heaps') ∧ CT names' sizes' heaps' (aftT t (goN x X t w g)) := by
  have hw8 : w < 8 := by have := hx.1; omega
  have hg3 : g < 3 := by have := hx.2.1; omega
  obtain ⟨v1, s1, e1⟩ := C_can (values := values) (stack := stack) hx hm hd ht hw hg
  obtain ⟨v0, s0, e0⟩ := C_fee (values := v1) (stack := s1) hx hm hd ht hw8 hg3
  unfold goN
  cases hc : canS x t w g with
  | false =>
    refine ⟨v1, s1, names, sizes, heaps, ?_, hd⟩
    rw [hc] at e1
    simp (disch := omega) only [f_go_doNow, e1, un3, bF0, nlit, onl, negone, iN_add, iN_mul, iN_sub, iN_pm, iN_addneg, iN_ix, iN_inb, iN_lt, iN_eq, iN_nneg, iN_nm, nm_iN, mI_neg, mI_nnn, ne_eq, not_true_eq_false, not_false_eq_true, true_and, and_true, bnd, Option.bind_some, ↓reduceIte, ltT, ltF, eqT, eqF, leT, leF, Bool.false_eq_true]; rfl
  | true =>
    rw [hc] at e1
    cases q : t.1 w with
    | some n =>
      have hn := (ht.1 w n q).2
      obtain ⟨n', z', h', e2, e3⟩ := hd.leave ht hg3 q
      refine ⟨v0, s0, n', z', h', ?_, e3⟩
      simp (disch := omega) only [f_go_doNow, e1, e0, un3, bT0, hd.nameOf hw8, q, enO_some, e2, un4, nlit, onl, negone, iN_add, iN_mul, iN_sub, iN_pm, iN_addneg, iN_ix, iN_inb, iN_lt, iN_eq, iN_nneg, iN_nm, nm_iN, mI_neg, mI_nnn, ne_eq, not_true_eq_false, not_false_eq_true, true_and, and_true, bnd, Option.bind_some, ↓reduceIte, ltT, ltF, eqT, eqF, leT, leF]; rfl
    | none =>
      have hl := hm.2.2.2.1 g hg3
      have hne := can_ne hc q
      have hlp : 0 < (t.2 g).length := List.length_pos_iff.mpr hne
      have hl8 := ht.len g
      cases hlot : x.2.2.2.1 g with
      | true =>
        rw [hlot] at hl
        obtain ⟨z', h', n', e3, e4⟩ := hd.enter ht hg3 hw8 q (lot_at (X := X) hne)
        refine ⟨v0, s0, n', z', h', ?_, e4⟩
        simp (disch := omega) only [f_go_doNow, fj_go_doNow_102, e1, e0, un3, bT0, bF0, hd.nameOf hw8, hd.sizeOf hg3, q, enO_none, hl, C_draw, un2, e3, un4, nlit, onl, negone, iN_add, iN_mul, iN_sub, iN_pm, iN_addneg, iN_ix, iN_inb, iN_lt, iN_eq, iN_nneg, iN_nm, nm_iN, mI_neg, mI_nnn, ne_eq, not_true_eq_false, not_false_eq_true, true_and, and_true, bnd, Option.bind_some, ↓reduceIte, ltT, ltF, eqT, eqF, leT, leF]; rfl
      | false =>
        rw [hlot] at hl
        obtain ⟨v2, s2, e2⟩ := C_pick (values := v0) (stack := s0) hx hm hd ht hw8 hg3 hne
        obtain ⟨z', h', n', e3, e4⟩ := hd.enter ht hg3 hw8 q (pick_at (x := x) (w := w) hne)
        refine ⟨v2, s2, n', z', h', ?_, e4⟩
        simp (disch := omega) only [f_go_doNow, fj_go_doNow_102, e1, e0, un3, bT0, bF0, hd.nameOf hw8, q, enO_none, hl, e2, e3, un4, nlit, onl, negone, iN_add, iN_mul, iN_sub, iN_pm, iN_addneg, iN_ix, iN_inb, iN_lt, iN_eq, iN_nneg, iN_nm, nm_iN, mI_neg, mI_nnn, ne_eq, not_true_eq_false, not_false_eq_true, true_and, and_true, bnd, Option.bind_some, ↓reduceIte, ltT, ltF, eqT, eqF, leT, leF, Bool.false_eq_true]; rfl
theorem M_go {a texts d named truth : Nat → Int32} {values : Nat → Int64} (hx : CxOK x) (hm : MX a texts x) (ha : a 8 = iN X) (hX : X < 200000) (hd : MT d 0 t) (ht : TW t) (hw : w < x.1) (hg : g < x.2.1) : ∃ a' d' named' values' truth', f_m_go (iN 0) a d texts named values truth (iN w) (iN g) = some (enO ((goN x X t w g).map Prod.fst), a', d', named', values', truth') ∧ MT d' 0 (aftT t (goN x X t w g)) ∧ (∀ j, 35 ≤ j → d' j = d j) ∧ ∀ j, a' j = if j = 8 then iN (aftX X (goN x X t w g)) else if (goN x X t w g).isSome = true ∧ j = 10 + 3 * w + 1 then a j + zI (feeS x t w g) else if (goN x X t w g).isSome = true ∧ j = 10 + 3 * w + 2 then a j + iN 1 else a j := by
  have hw8 : w < 8 := by have := hx.1; omega
  have hg3 : g < 3 := by have := hx.2.1; omega
  have hb : (0 : Nat) ≤ 525 := by decide
  have hP : f_m_isPerson a (iN w) = some (b01 true) := by
    rw [M_isPerson hm.1 (by have := hx.1; omega), inR_iN (by omega), decide_eq_true hw]
  have hG : f_m_isGate a (iN g) = some (b01 true) := by
    rw [M_isGate hm.2.1 (by have := hx.2.1; omega), inR_iN (by omega), decide_eq_true hg]
  obtain ⟨n1, v1, t1, e1⟩ := M_can (named := named) (values := values) (truth := truth) hx hm hd hb ht hw8 hg3
  obtain ⟨n0, v0, t0, e0⟩ := M_fee (named := n1) (values := v1) (truth := t1) hx hm hd hb ht hw8 hg3
  have hup : ∀ j, j ≠ 10 + 3 * w + 1 → j ≠ 10 + 3 * w + 2 → upd (upd a (10 + 3 * w + 1) (a (10 + 3 * w + 1) + zI (feeS x t w g))) (10 + 3 * w + 2) (a (10 + 3 * w + 2) + iN 1) j = a j := by
    intro j h1 h2
    rw [upd_ne h2, upd_ne h1]
  have hmA : MX (upd (upd a (10 + 3 * w + 1) (a (10 + 3 * w + 1) + zI (feeS x t w g))) (10 + 3 * w + 2) (a (10 + 3 * w + 2) + iN 1)) texts x := by
    obtain ⟨q1, q2, q3, q4, q5, q6, q7⟩ := hm
    refine ⟨by rw [hup _ (by omega) (by omega)]; exact q1, by rw [hup _ (by omega) (by omega)]; exact q2, by rw [hup _ (by omega) (by omega)]; exact q3, fun j hj => by rw [hup _ (by omega) (by omega)]; exact q4 j hj, fun j hj => by rw [hup _ (by omega) (by omega)]; exact q5 j hj, fun h => by rw [hup _ (by omega) (by omega)]; exact q6 h, fun lw h => ?_⟩
    obtain ⟨T, r1, r2, r3⟩ := q7 lw h
    exact ⟨T, r1, by rw [hup _ (by omega) (by omega)]; exact r2, r3⟩
  have hA8 : upd (upd a (10 + 3 * w + 1) (a (10 + 3 * w + 1) + zI (feeS x t w g))) (10 + 3 * w + 2) (a (10 + 3 * w + 2) + iN 1) 8 = iN X := by rw [hup _ (by omega) (by omega)]; exact ha
  have hpt : ∀ j, upd (upd a (10 + 3 * w + 1) (a (10 + 3 * w + 1) + zI (feeS x t w g))) (10 + 3 * w + 2) (a (10 + 3 * w + 2) + iN 1) j = if true = true ∧ j = 10 + 3 * w + 1 then a j + zI (feeS x t w g) else if true = true ∧ j = 10 + 3 * w + 2 then a j + iN 1 else a j := by
    intro j
    by_cases h1 : j = 10 + 3 * w + 1
    · rw [if_pos ⟨rfl, h1⟩]
      subst h1
      rw [upd_ne (by omega), upd_same]
    · rw [if_neg (fun q => h1 q.2)]
      by_cases h2 : j = 10 + 3 * w + 2
      · rw [if_pos ⟨rfl, h2⟩]
        subst h2
        rw [upd_same]
      · rw [if_neg (fun q => h2 q.2)]
        exact hup j h1 h2
  have hu2 : upd a (10 + 3 * w + 1) (a (10 + 3 * w + 1) + zI (feeS x t w g)) (10 + 3 * w + 2) = a (10 + 3 * w + 2) := upd_ne (by omega)
  unfold goN
  cases hc : canS x t w g with
  | false =>
    refine ⟨a, d, n1, v1, t1, ?_, hd, fun _ _ => rfl, fun j => ?_⟩
    · rw [hc] at e1
      simp (disch := omega) only [f_m_go, hP, hG, e1, un4, bF0, bT0, nlit, onl, negone, iN_add, iN_mul, iN_sub, iN_pm, iN_addneg, iN_ix, iN_inb, iN_lt, iN_eq, iN_nneg, iN_nm, nm_iN, mI_neg, mI_nnn, ne_eq, not_true_eq_false, not_false_eq_true, true_and, and_true, bnd, Option.bind_some, ↓reduceIte, ltT, ltF, eqT, eqF, leT, leF, Bool.false_eq_true]; rfl
    · show a j = if j = 8 then iN X else if false = true ∧ _ then _ else if false = true ∧ _ then _ else _
      by_cases h8 : j = 8
      · rw [if_pos h8, h8]; exact ha
      · rw [if_neg h8, if_neg (fun q => absurd q.1 (by decide)), if_neg (fun q => absurd q.1 (by decide))]
  | true =>
    rw [hc] at e1
    cases q : t.1 w with
    | some n =>
      have hn := (ht.1 w n q).2
      obtain ⟨d', e2, e3, e4⟩ := hd.leave ht hb hg3 q
      refine ⟨upd (upd a (10 + 3 * w + 1) (a (10 + 3 * w + 1) + zI (feeS x t w g))) (10 + 3 * w + 2) (a (10 + 3 * w + 2) + iN 1), d', n0, v0, t0, ?_, e3, fun j hj => e4 j (Or.inr (by omega)), fun j => ?_⟩
      · simp (disch := omega) only [f_m_go, fj_m_go_117, hP, hG, e1, e0, un4, bT0, hd.nameAt hb hw8, q, enO_some, e2, hu2, nlit, onl, negone, iN_add, iN_mul, iN_sub, iN_pm, iN_addneg, iN_ix, iN_inb, iN_lt, iN_eq, iN_nneg, iN_nm, nm_iN, mI_neg, mI_nnn, ne_eq, not_true_eq_false, not_false_eq_true, true_and, and_true, bnd, Option.bind_some, ↓reduceIte, ltT, ltF, eqT, eqF, leT, leF]; rfl
      · rw [hpt j]
        show _ = if j = 8 then iN X else _
        by_cases h8 : j = 8
        · rw [if_pos h8, if_neg (by omega), if_neg (by omega), h8]; exact ha
        · rw [if_neg h8]; rfl
    | none =>
      have hl := M_isLot (g := g) hmA hg3
      have hne := can_ne hc q
      have hlp : 0 < (t.2 g).length := List.length_pos_iff.mpr hne
      have hl8 := ht.len g
      cases hlot : x.2.2.2.1 g with
      | true =>
        rw [hlot] at hl
        obtain ⟨d', e3, e4, e5⟩ := hd.come ht hb hg3 hw8 q (lot_at (X := X) hne)
        have hnm : f_m_nameAt (iN 0) d' (iN w) = some (enO (some ((t.2 g).getD (X % (t.2 g).length) 0))) := by
          rw [e4.nameAt hb hw8]
          rw [show (inT t w g (X % (t.2 g).length) ((t.2 g).getD (X % (t.2 g).length) 0)).1 w = some ((t.2 g).getD (X % (t.2 g).length) 0) from setF_same]
        refine ⟨upd (upd (upd a (10 + 3 * w + 1) (a (10 + 3 * w + 1) + zI (feeS x t w g))) (10 + 3 * w + 2) (a (10 + 3 * w + 2) + iN 1)) 8 (iN (drX X)), d', n0, v0, t0, ?_, e4, fun j hj => e5 j (Or.inr (by omega)), fun j => ?_⟩
        · have hdr := M_draw (m := (t.2 g).length) hA8 hX hlp (by omega)
          simp (disch := omega) only [f_m_go, fj_m_go_114, fj_m_go_117, hP, hG, e1, e0, un4, bT0, hd.nameAt hb hw8, hd.hung hb hg3, q, enO_none, hl, hdr, un2, e3, hnm, hu2, nlit, onl, negone, iN_add, iN_mul, iN_sub, iN_pm, iN_addneg, iN_ix, iN_inb, iN_lt, iN_eq, iN_nneg, iN_nm, nm_iN, mI_neg, mI_nnn, ne_eq, not_true_eq_false, not_false_eq_true, true_and, and_true, bnd, Option.bind_some, ↓reduceIte, ltT, ltF, eqT, eqF, leT, leF]; rfl
        · show _ = if j = 8 then iN (drX X) else _
          by_cases h8 : j = 8
          · rw [if_pos h8, h8, upd_same]
          · rw [if_neg h8, upd_ne h8, hpt j]; rfl
      | false =>
        rw [hlot] at hl
        obtain ⟨n2, v2, t2, e2⟩ := M_pick (named := n0) (values := v0) (truth := t0) hx hmA hd hb ht hw8 hg3 hne
        obtain ⟨d', e3, e4, e5⟩ := hd.come ht hb hg3 hw8 q (pick_at (x := x) (w := w) hne)
        have hnm : f_m_nameAt (iN 0) d' (iN w) = some (enO (some ((t.2 g).getD (pickS x t w g) 0))) := by
          rw [e4.nameAt hb hw8]
          rw [show (inT t w g (pickS x t w g) ((t.2 g).getD (pickS x t w g) 0)).1 w = some ((t.2 g).getD (pickS x t w g) 0) from setF_same]
        refine ⟨upd (upd a (10 + 3 * w + 1) (a (10 + 3 * w + 1) + zI (feeS x t w g))) (10 + 3 * w + 2) (a (10 + 3 * w + 2) + iN 1), d', n2, v2, t2, ?_, e4, fun j hj => e5 j (Or.inr (by omega)), fun j => ?_⟩
        · simp (disch := omega) only [f_m_go, fj_m_go_114, fj_m_go_117, hP, hG, e1, e0, un4, bT0, bF0, hd.nameAt hb hw8, q, enO_none, hl, e2, e3, hnm, hu2, nlit, onl, negone, iN_add, iN_mul, iN_sub, iN_pm, iN_addneg, iN_ix, iN_inb, iN_lt, iN_eq, iN_nneg, iN_nm, nm_iN, mI_neg, mI_nnn, ne_eq, not_true_eq_false, not_false_eq_true, true_and, and_true, bnd, Option.bind_some, ↓reduceIte, ltT, ltF, eqT, eqF, leT, leF, Bool.false_eq_true]; rfl
        · rw [hpt j]
          show _ = if j = 8 then iN X else _
          by_cases h8 : j = 8
          · rw [if_pos h8, if_neg (by omega), if_neg (by omega), h8]; exact ha
          · rw [if_neg h8]; rfl
end
