/-! ===== PURE: fewest ===== -/
theorem ge_m1 {l : Int32} (h : ¬ l < mI) : l = mI ∨ ∃ k, k < 2147483648 ∧ l = iN k := by
  have h1 : ¬ l.toInt < -1 := by rw [Int32.lt_iff_toInt_lt, mI_toInt] at h; exact h
  by_cases c : l.toInt = -1
  · exact Or.inl (Int32.toInt_inj.mp (c.trans mI_toInt.symm))
  · have hb := Int32.toInt_lt l
    refine Or.inr ⟨l.toInt.toNat, by omega, Int32.toInt_inj.mp ?_⟩
    rw [iN_toInt (by omega)]; omega
theorem sh_two : ∀ p, p ≤ 8 → (1 : Int32) <<< (iN p &&& iN 31) = iN (2 ^ p) := by decide +kernel
theorem sh_twoI {p : Nat} (h : p ≤ 8) : iN 1 <<< (iN p &&& iN 31) = iN (2 ^ p) := sh_two p h
theorem two_lt {p : Nat} (h : p ≤ 8) : 2 ^ p ≤ 256 := Nat.pow_le_pow_right (n := 2) (i := p) (j := 8) (by decide) h
theorem M_isSet {a : Nat → Int32} {P : Nat} {l : Int32} (ha : a 0 = iN P) (hP : P ≤ 8) : f_m_isSet a l = some (b01 (inR l (2 ^ P))) := by
  have h1 := two_lt hP
  simp only [f_m_isSet, nlit, ha, sh_twoI hP, M_isIn0 (show 2 ^ P < 1000 by omega), Option.bind_some, bz_b01, ↓reduceIte]
theorem bits_lt {set P : Nat} (h : set < 2 ^ P) : ∀ w, set.testBit w = true → w < P := by
  intro w hw
  apply Classical.byContradiction
  intro c
  rw [Nat.testBit_lt_two_pow (Nat.lt_of_lt_of_le h (Nat.pow_le_pow_right (by decide) (by omega)))] at hw
  cases hw
section
variable {P : Nat} {pe : Int32} {wn nm sz bo a d : Nat → Int32} {hp : Nat → Nat → Int32} {t : Tn}
theorem C_insideNo (hP : P ≤ 8) (hpe : pe = iN P) {l : Int32} (h : inR l P = false) : f_world_isInside pe nm l = some (iN 0) := by
  have h1 : f_world_hasPerson pe l = some (b01 false) := by rw [hpe, C_hasPerson (by omega), h]
  simp only [f_world_isInside, nlit, h1, bF0, Option.bind_some, ↓reduceIte]
theorem J_two (hP : P ≤ 8) (hpe : pe = iN P) (ha : a 0 = iN P) (hd : CT nm sz hp t) (hT : MT d 0 t) (ht : TW t) (l2 l3 : Int32) : ((∃ w', f_x_setGoal pe wn bo nm (iN 1) l2 l3 = some (iN 0, w')) ∧ f_m_areTwo a d l2 l3 = some (iN 0)) ∨ ∃ p q n m, l2 = iN p ∧ l3 = iN q ∧ p < P ∧ q < P ∧ p ≠ q ∧ t.1 p = some n ∧ t.1 q = some m ∧ f_m_areTwo a d l2 l3 = some (iN 1) := by
  obtain ⟨w0, e0, -⟩ := C_wantNo (wn := wn)
  have e12 : (iN 1 = iN 2) = False := eq_false (by decide)
  have e10 : (iN 1 = iN 0) = False := eq_false (by decide)
  have q2 := M_isPerson (l := l2) ha (by omega)
  have q3 := M_isPerson (l := l3) ha (by omega)
  cases h2 : inR l2 P with
  | false =>
    rw [h2] at q2
    have i2 := C_insideNo (nm := nm) hP hpe h2
    refine Or.inl ⟨⟨w0, ?_⟩, by simp only [f_m_areTwo, nlit, q2, bF0, Option.bind_some, ↓reduceIte]⟩
    by_cases c : l2 = l3
    · simp only [f_x_setGoal, fj_x_setGoal_96, e0, nlit, e12, e10, c, Option.bind_some, ↓reduceIte]
    · have c' : (l2 = l3) = False := eq_false c
      simp only [f_x_setGoal, fj_x_setGoal_96, e0, nlit, e12, e10, c', i2, Option.bind_some, ↓reduceIte]
  | true =>
    rw [h2] at q2
    obtain ⟨p, hp', rfl⟩ := inR_some h2
    have i2 := C_inside hP hpe hd ht hp'
    cases h3 : inR l3 P with
    | false =>
      rw [h3] at q3
      have i3 := C_insideNo (nm := nm) hP hpe h3
      refine Or.inl ⟨⟨w0, ?_⟩, by simp only [f_m_areTwo, nlit, q2, q3, bT0, bF0, Option.bind_some, ↓reduceIte]⟩
      by_cases c : iN p = l3
      · simp only [f_x_setGoal, fj_x_setGoal_96, e0, nlit, e12, e10, c, Option.bind_some, ↓reduceIte]
      · have c' : (iN p = l3) = False := eq_false c
        cases z : t.1 p with
        | none =>
          rw [z] at i2
          simp only [f_x_setGoal, fj_x_setGoal_96, e0, nlit, e12, e10, c', i2, Option.isSome_none, bF0, Option.bind_some, ↓reduceIte]
        | some n =>
          rw [z] at i2
          simp only [f_x_setGoal, fj_x_setGoal_96, e0, nlit, e12, e10, c', i2, i3, Option.isSome_some, bT0, Option.bind_some, ↓reduceIte]
    | true =>
      rw [h3] at q3
      obtain ⟨q, hq, rfl⟩ := inR_some h3
      have i3 := C_inside hP hpe hd ht hq
      have dp := hT.1 p (by omega)
      have dq := hT.1 q (by omega)
      rw [Nat.zero_add] at dp dq
      by_cases c : p = q
      · subst c
        refine Or.inl ⟨⟨w0, ?_⟩, ?_⟩
        · simp only [f_x_setGoal, fj_x_setGoal_96, e0, nlit, e12, e10, Option.bind_some, ↓reduceIte]
        · simp only [f_m_areTwo, nlit, q2, bT0, Option.bind_some, ↓reduceIte]
      · have c' : (iN p = iN q) = False := by rw [iN_eq (by omega) (by omega)]; exact eq_false c
        cases z : t.1 p with
        | none =>
          rw [z] at i2 dp
          refine Or.inl ⟨⟨w0, ?_⟩, ?_⟩
          · simp only [f_x_setGoal, fj_x_setGoal_96, e0, nlit, e12, e10, c', i2, Option.isSome_none, bF0, Option.bind_some, ↓reduceIte]
          · simp (disch := omega) only [f_m_areTwo, nlit, q2, q3, bT0, c', dp, enO_none, mI_neg, iN_inb, iN_ix, ltT, Option.bind_some, ↓reduceIte]
        | some n =>
          have hn := (ht.1 p n z).2
          rw [z] at i2 dp
          cases y : t.1 q with
          | none =>
            rw [y] at i3 dq
            refine Or.inl ⟨⟨w0, ?_⟩, ?_⟩
            · simp only [f_x_setGoal, fj_x_setGoal_96, e0, nlit, e12, e10, c', i2, i3, Option.isSome_some, Option.isSome_none, bT0, bF0, Option.bind_some, ↓reduceIte]
            · simp (disch := omega) only [f_m_areTwo, nlit, q2, q3, bT0, c', dp, dq, enO_some, enO_none, iN_nneg, mI_neg, iN_inb, iN_ix, ltT, Option.bind_some, ↓reduceIte]
          | some m =>
            have hm := (ht.1 q m y).2
            rw [y] at dq
            refine Or.inr ⟨p, q, n, m, rfl, rfl, hp', hq, c, z, y, ?_⟩
            simp (disch := omega) only [f_m_areTwo, nlit, q2, q3, bT0, c', dp, dq, enO_some, iN_nneg, iN_inb, iN_ix, ltT, Option.bind_some, ↓reduceIte]
end
/-- what the class does with what was found -/
def fewR (o : Option (Int32 × T9b)) (wn : Nat → Int32) (l5 : Int32) : Option (Int32 × Int32 × (Nat → Int32) × (Nat → Int32) × (Nat → Int64) × (Nat → Int32) × (Nat → Int32) × (Nat → Int32) × (Nat → Nat → Int32) × (Nat → Int32) × (Nat → Int32)) := o.bind (un10 fun r3 s4 t5 s6 o7 n8 z9 h10 v11 k12 =>
    if r3 < 0 then
      some (r3, s4, wn, t5, s6, o7, n8, z9, h10, v11, k12)
    else
      if l5 = (-1) then
        (f_srch_lengthOf o7 r3).bind (fun r15 =>
        some (r15, s4, wn, t5, s6, o7, n8, z9, h10, v11, k12))
      else
        (f_srch_goingOf o7 r3 l5).bind (fun r13 =>
        some (r13, s4, wn, t5, s6, o7, n8, z9, h10, v11, k12)))
section
variable {x : Cx} {W : Nat → Option Nat} {set : Nat} {a texts d : Nat → Int32} {l1 l2 l3 : Int32} {pe ga hr rl cL lz tk fe : Int32} {lo bo cd kd fr to wn : Nat → Int32} {ru : Nat}
theorem J_few (hx : CxOK x) (hcx : CX pe ga hr rl lo bo ru cL lz tk fe cd kd fr to x) (hmx : MX a texts x) (hset : set < 2 ^ x.1) (hW : WN wn W) (hgl : ∀ (d' : Nat → Int32) (t : Tn), MT d' 70 t → TW t → (∀ j, j < 70 → d' j = d j) → f_m_isGoal (iN 70) a d' l1 l2 l3 = some (b01 (asW W t))) {t0 : Tn} (ht : TW t0) {nm sz : Nat → Int32} {hp : Nat → Nat → Int32} (hC : CT nm sz hp t0) (hM : MT d 0 t0) {l5 : Int32} (h5 : ¬ l5 < mI) {size0 many : Int32} {st : Nat → Int64} {tb og tn tz v sk named truth states cf cb chain chains path : Nat → Int32} {th : Nat → Nat → Int32} {mv : Nat → Int64} : ∃ r s' w' tb' st' og' tn' tz' th' v' sk' many' d' named' mv' truth' states' cf' cb' chain' chains' path', fewR (f_srch_find size0 tb pe ga hr rl st og wn tn tz th lo ru bo nm sz hp v cL lz tk sk kd to fr cd (iN set)) wn l5 = some (r, s', w', tb', st', og', tn', tz', th', v', sk') ∧ fj_m_fewest_62 (iN 0) many a d texts named mv truth states cf cb chain chains path l1 l2 l3 (iN set) l5 = some (r, iN 0, many', d', named', mv', truth', states', cf', cb', chain', chains', path') ∧ ∀ j, j < 70 → d' j = d j := by
  have hP := hx.1
  have h256 := two_lt hP
  obtain ⟨t, c1, c2⟩ := C_find (size0 := size0) (st := st) (tb := tb) (og := og) (tn := tn) (tz := tz) (v := v) (sk := sk) (th := th) hx hcx hW (show set < 256 by omega) ht hC
  obtain ⟨u, m1, m2, m3⟩ := M_find (W := W) (set := set) (b := iN 0) (many := many) (named := named) (truth := truth) (states := states) (cf := cf) (cb := cb) (chain := chain) (chains := chains) (values := mv) hx hmx (show set < 256 by omega) (bits_lt hset) hgl ht hM (fun _ _ => rfl)
  have hok := fn_ok (W := W) (set := set) hx ht
  obtain ⟨s1, tb1, st1, og1, n1, z1, th1, v1, k1⟩ := t
  obtain ⟨many1, d1, named1, mv1, truth1, states1, cf1, cb1, chain1, chains1⟩ := u
  unfold fewR fj_m_fewest_62
  rw [c1, m1, Option.bind_some, Option.bind_some]
  have htr : f_m_tries (iN 70) 0 = some (iN 0) := rfl
  simp only [un10, un12]
  rw [htr, Option.bind_some]
  have neg : ∀ r, (r < iN 0) = True → rOc (fnS x W set t0) = r → ∃ r s' w' tb' st' og' tn' tz' th' v' sk' many' d' named' mv' truth' states' cf' cb' chain' chains' path', (if rOc (fnS x W set t0) < 0 then
      some (rOc (fnS x W set t0), s1, wn, tb1, st1, og1, n1, z1, th1, v1, k1)
    else
      if l5 = (-1) then
        (f_srch_lengthOf og1 (rOc (fnS x W set t0))).bind (fun r15 =>
        some (r15, s1, wn, tb1, st1, og1, n1, z1, th1, v1, k1))
      else
        (f_srch_goingOf og1 (rOc (fnS x W set t0)) l5).bind (fun r13 =>
        some (r13, s1, wn, tb1, st1, og1, n1, z1, th1, v1, k1))) = some (r, s', w', tb', st', og', tn', tz', th', v', sk') ∧ (if rOc (fnS x W set t0) < 0 then
    some (rOc (fnS x W set t0), iN 0, many1, d1, named1, mv1, truth1, states1, cf1, cb1, chain1, chains1, path)
  else
    (itr (un3 (fb_m_fewest_93 cf1 cb1)) KF (0, rOc (fnS x W set t0), path)).bind
      (un2 fun l7_20 path_21 =>
        if l5 = (-1) then
          some (l7_20, iN 0, many1, d1, named1, mv1, truth1, states1, cf1, cb1, chain1, chains1, path_21)
        else
          if l5 < l7_20 then
            if inb ((l7_20 - 1) - l5) 3001 then
              some (path_21 (ix ((l7_20 - 1) - l5)), iN 0, many1, d1, named1, mv1, truth1, states1, cf1, cb1, chain1, chains1, path_21)
            else none
          else
            some ((-1), iN 0, many1, d1, named1, mv1, truth1, states1, cf1, cb1, chain1, chains1, path_21))) = some (r, iN 0, many', d', named', mv', truth', states', cf', cb', chain', chains', path') ∧ ∀ j, j < 70 → d' j = d j := by
    intro r hr e
    have hr' : (rOc (fnS x W set t0) < 0) = True := by rw [e]; exact hr
    refine ⟨rOc (fnS x W set t0), s1, wn, tb1, st1, og1, n1, z1, th1, v1, k1, many1, d1, named1, mv1, truth1, states1, cf1, cb1, chain1, chains1, path, ?_, ?_, m3⟩
    · simp only [hr', ↓reduceIte]
    · simp only [hr', ↓reduceIte]
  cases q : fnS x W set t0 with
  | inl s' => rw [q] at neg; exact neg mI mI_neg rfl
  | inr z =>
    obtain ⟨b, s'⟩ := z
    cases b with
    | false => rw [q] at neg; exact neg mII mII_neg rfl
    | true =>
      rw [q] at c2 m2 hok
      have h0 := hok.2 rfl
      have hsk := hok.1
      have hl := hsk.1
      have c2 : CS s1 st1 tb1 og1 s' := c2
      have m2 : MS many1 states1 cf1 cb1 chain1 chains1 s' := m2
      have hOG : OG og1 cf1 cb1 s'.2.1 s'.2.2 s'.1.length := fun i hi hi2 => ⟨(hsk.2.2 i hi hi2).1, (hsk.2.2 i hi hi2).2, c2.2.2.2 i hi hi2, (m2.2.2.2 i hi hi2).1, (m2.2.2.2 i hi hi2).2⟩
      have hr : rOc (.inr (true, s')) = iN (s'.1.length - 1) := rfl
      rw [hr]
      generalize hi : s'.1.length - 1 = i
      have hin : i < s'.1.length := by omega
      have hneg : (iN i < iN 0) = False := iN_nneg (by omega)
      have hneg' : (iN i < 0) = False := hneg
      obtain ⟨pt, p1, -, p3⟩ := M_pathLoop hOG (by omega) i i 0 KF path (Nat.le_refl _) hin (by omega) (kf_lt (by omega))
      rw [Nat.zero_add] at p1
      have p1' : itr (un3 (fb_m_fewest_93 cf1 cb1)) KF (0, iN i, path) = some (iN (pathL s'.2.1 s'.2.2 i i).length, pt) := p1
      simp only [hneg', ↓reduceIte]
      rw [p1', Option.bind_some]
      simp only [un2]
      rcases ge_m1 h5 with rfl | ⟨k, hk, rfl⟩
      · have e := C_length hOG hl hin
        have e5 : (mI = -1) = True := eq_true rfl
        refine ⟨iN (pathL s'.2.1 s'.2.2 i i).length, s1, wn, tb1, st1, og1, n1, z1, th1, v1, k1, many1, d1, named1, mv1, truth1, states1, cf1, cb1, chain1, chains1, pt, ?_, ?_, m3⟩
        · simp only [e5, e, Option.bind_some, ↓reduceIte]
        · simp only [e5, ↓reduceIte]
      · have e5 : (iN k = -1) = False := iN_nm hk
        obtain ⟨r, r1, r2⟩ := J_kth hOG hl hin hk (pt := pt) (fun j v hv => by have := p3 j v hv; rwa [Nat.zero_add] at this)
        refine ⟨r, s1, wn, tb1, st1, og1, n1, z1, th1, v1, k1, many1, d1, named1, mv1, truth1, states1, cf1, cb1, chain1, chains1, pt, ?_, ?_, m3⟩
        · simp only [e5, r1, Option.bind_some, ↓reduceIte]
        · simp only [e5, ↓reduceIte]
          by_cases c : iN k < iN (pathL s'.2.1 s'.2.2 i i).length
          · rw [if_pos c] at r2 ⊢
            by_cases c' : inb ((iN (pathL s'.2.1 s'.2.2 i i).length - 1) - iN k) 3001
            · rw [if_pos c'] at r2 ⊢
              rw [Option.some.inj r2]
            · rw [if_neg c'] at r2; cases r2
          · rw [if_neg c] at r2 ⊢
            rw [← Option.some.inj r2]; rfl
end
