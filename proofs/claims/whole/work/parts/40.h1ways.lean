section
variable {x : Cx} {pe ga hr rl cL sz tk fe kz : Int32} {lot born cd kd fr to kc : Nat → Int32} {ru : Nat} {book : List (Option (Bool × Nat × Nat))}
/-- what a line adds for one who goes by one gate -/
def goF (x : Cx) (q : Option (Bool × Nat × Nat)) (r : List (Option (Bool × Nat × Nat))) (t : Tn) (w g : Nat) : Nat → Ac → Ac := fun i ac => match nxW x q t w g i with
  | none => ac
  | some t' => wyF x r t' ac
theorem wyF_cons {q : Option (Bool × Nat × Nat)} {r : List (Option (Bool × Nat × Nat))} {t : Tn} {ac : Ac} (hx : CxOK x) : wyF x (q :: r) t ac = itF (fun w => itF (fun g => itF (goF x q r t w g) 8) x.2.1) x.1 ac := by
  have hx1 := hx.1
  have hx2 := hx.2.1
  have e1 : wyF x (q :: r) t ac = itF (fun k => goF x q r t (k / 24) (k / 8 % 3) (k % 8)) (8 * 24) ac := rfl
  rw [e1, itF_mul]
  have e2 : ∀ w, w < 8 → ∀ ac, itF (fun j => goF x q r t ((w * 24 + j) / 24) ((w * 24 + j) / 8 % 3) ((w * 24 + j) % 8)) 24 ac = itF (fun g => itF (goF x q r t w g) 8) 3 ac := by
    intro w hw ac
    rw [show 24 = 3 * 8 from rfl, itF_mul]
    refine itF_cg 3 ac (fun g hg b => itF_cg 8 b (fun i hi c => ?_))
    show goF x q r t ((w * (3 * 8) + (g * 8 + i)) / (3 * 8)) ((w * (3 * 8) + (g * 8 + i)) / 8 % 3) ((w * (3 * 8) + (g * 8 + i)) % 8) c = goF x q r t w g i c
    rw [show (w * (3 * 8) + (g * 8 + i)) / (3 * 8) = w by omega, show (w * (3 * 8) + (g * 8 + i)) / 8 % 3 = g by omega, show (w * (3 * 8) + (g * 8 + i)) % 8 = i by omega]
  rw [itF_cg 8 ac (fun w hw b => e2 w hw b)]
  have hno : ∀ w g i b, ¬ (w < x.1 ∧ g < x.2.1) → goF x q r t w g i b = b := by
    intro w g i b h
    unfold goF nxW
    rw [if_neg (fun z => h ⟨z.1, z.2.1⟩)]
  rw [itF_less hx1 ac (fun w hw _ b => itF_id 3 b (fun g _ c => itF_id 8 c (fun i _ e => hno w g i e (fun z => by omega))))]
  refine itF_cg x.1 ac (fun w _ b => ?_)
  exact itF_less hx2 b (fun g hg _ c => itF_id 8 c (fun i _ e => hno w g i e (fun z => by omega)))
theorem C_isLost (hb : CK kz kc book) (hlen : book.length ≤ 6) (hq8 : ∀ q ∈ book, ∀ z, q = some z → z.2.1 < 8 ∧ z.2.2 < x.2.1) {k : Nat} {q : Option (Bool × Nat × Nat)} (hk : book[k]? = some q) : f_ways_isLost kz kc (iN k) = some (b01 q.isNone) := by
  have hkl := (List.getElem?_eq_some_iff.mp hk).1
  have h1 := hb.1
  cases q with
  | none =>
    have e := hb.2.1 k hk
    rw [h1]
    simp (disch := omega) only [f_ways_isLost, nlit, tri_at, e, nlit, onl, negone, iN_add, iN_mul, iN_sub, iN_pm, iN_addneg, iN_ix, iN_inb, iN_lt, iN_eq, iN_nneg, iN_nm, nm_iN, mI_neg, mI_nnn, ne_eq, not_true_eq_false, not_false_eq_true, true_and, and_true, bnd, Option.bind_some, ↓reduceIte, ltT, ltF, eqT, eqF, leT, leF]; rfl
  | some z =>
    have e := (hb.2.2 k z hk).2.1
    have hz := (hq8 _ (List.mem_of_getElem? hk) z rfl).1
    rw [h1]
    simp (disch := omega) only [f_ways_isLost, nlit, tri_at, e, nlit, onl, negone, iN_add, iN_mul, iN_sub, iN_pm, iN_addneg, iN_ix, iN_inb, iN_lt, iN_eq, iN_nneg, iN_nm, nm_iN, mI_neg, mI_nnn, ne_eq, not_true_eq_false, not_false_eq_true, true_and, and_true, bnd, Option.bind_some, ↓reduceIte, ltT, ltF, eqT, eqF, leT, leF]; rfl
theorem C_mayBeOf (hb : CK kz kc book) (hlen : book.length ≤ 6) (hq8 : ∀ q ∈ book, ∀ z, q = some z → z.2.1 < 8 ∧ z.2.2 < x.2.1) {k w : Nat} {q : Option (Bool × Nat × Nat)} (hk : book[k]? = some q) {nm sz' : Nat → Int32} {hp : Nat → Nat → Int32} {t : Tn} (hd : CT nm sz' hp t) (ht : TW t) (hw : w < 8) : f_ways_mayBeOf nm kz kc (iN k) (iN w) = some (b01 (match t.1 w with
    | none => iOK q true
    | some n => iOK q false && nOK q n)) := by
  have hkl := (List.getElem?_eq_some_iff.mp hk).1
  have h1 := hb.1
  have hl := C_isLost hb hlen hq8 hk
  have hn := hd.nameOf hw
  cases q with
  | none =>
    have e0 : ∀ v, f_tri_at kz 18 kc (iN k) (iN 0) = some v → f_ways_mayBeOf nm kz kc (iN k) (iN w) = some (iN 1) := by
      intro v hv
      unfold f_ways_mayBeOf
      rw [hn, Option.bind_some]
      simp only [nlit, hv, Option.bind_some]
      have e2 : ∀ z, fj_ways_mayBeOf_30 kz kc (iN k) (enO (t.1 w)) z = some (iN 1) := by
        intro z
        simp only [fj_ways_mayBeOf_30, hl, Option.isNone_none, nlit, bT0, Option.bind_some, ↓reduceIte]
      rw [e2, e2]
      by_cases hz : v = iN 1 <;> simp only [hz, ↓reduceIte]
    rw [e0 (kc (k * 3)) (by rw [h1]; exact tri_at0 hkl (by omega) (by omega))]
    cases t.1 w <;> rfl
  | some z =>
    obtain ⟨c1, c2, -⟩ := hb.2.2 k z hk
    have hz := (hq8 _ (List.mem_of_getElem? hk) z rfl).1
    have a0 : f_tri_at kz 18 kc (iN k) (iN 0) = some (b01 z.1) := by rw [h1, tri_at0 hkl (by omega) (by omega), c1]
    have a1 : f_tri_at kz 18 kc (iN k) (iN 1) = some (iN z.2.1) := by rw [h1, tri_at hkl (by omega) (by omega) (by omega), c2]
    unfold f_ways_mayBeOf
    rw [hn, Option.bind_some]
    simp only [nlit, a0, Option.bind_some]
    have e10 : ¬ iN 1 = iN 0 := by decide
    cases hz1 : z.1 with
    | true =>
      simp only [bT1, ↓reduceIte, fj_ways_mayBeOf_30, hl, Option.isNone_some, nlit, negone, bF0, e10, Option.bind_some]
      cases hn' : t.1 w with
      | none =>
        rw [enO_none]
        simp only [↓reduceIte, iOK, hz1]; rfl
      | some n =>
        have hn8 := (ht.1 w n hn').2
        rw [enO_some]
        simp (disch := omega) only [iN_nm, ↓reduceIte, iOK, hz1]; rfl
    | false =>
      simp only [bF1, ↓reduceIte, fj_ways_mayBeOf_30, hl, Option.isNone_some, nlit, bF0, a1, Option.bind_some]
      cases hn' : t.1 w with
      | none =>
        rw [enO_none]
        simp (disch := omega) only [nm_iN, ↓reduceIte, iOK, hz1]; rfl
      | some n =>
        have hn8 := (ht.1 w n hn').2
        rw [enO_some]
        by_cases e : n = z.2.1
        · subst e
          simp only [↓reduceIte, iOK, nOK, hz1, beq_self_eq_true, Bool.and_true]; rfl
        · have e' : (z.2.1 == n) = false := by rw [beq_eq_false_iff_ne]; exact fun q => e q.symm
          simp (disch := omega) only [iN_eq, eqF, ↓reduceIte, iOK, nOK, hz1, e', beq_self_eq_true, Bool.true_and]; rfl
/-- the group's functions, told by the fuel -/
def FWf (n : Nat) := (FG_ways_follow n).1
theorem FW_s (n : Nat) : FG_ways_follow (n + 1) = (fR_ways_follow (FG_ways_follow n).1 (FG_ways_follow n).2.1 (FG_ways_follow n).2.2, fR_ways_followGoing (FG_ways_follow n).1 (FG_ways_follow n).2.1 (FG_ways_follow n).2.2, fR_ways_followIn (FG_ways_follow n).1 (FG_ways_follow n).2.1 (FG_ways_follow n).2.2) := rfl
end
