/-! ===== PURE: third ===== -/
theorem sh_three : ∀ a, a < 8 → ∀ b, b < 8 → ∀ c, c < 8 → (iN 1 <<< (iN a &&& iN 31) ||| iN 1 <<< (iN b &&& iN 31)) ||| iN 1 <<< (iN c &&& iN 31) = iN ((2 ^ a ||| 2 ^ b) ||| 2 ^ c) := by decide +kernel
theorem bits3 {a b c P : Nat} (ha : a < P) (hb : b < P) (hc : c < P) : ∀ w, ((2 ^ a ||| 2 ^ b) ||| 2 ^ c).testBit w = true → w < P := by
  intro w hw
  rw [Nat.testBit_or, Nat.testBit_or, Nat.testBit_two_pow, Nat.testBit_two_pow, Nat.testBit_two_pow] at hw
  simp only [Bool.or_eq_true, decide_eq_true_eq] at hw
  omega
theorem lt3 {a b c : Nat} (ha : a < 8) (hb : b < 8) (hc : c < 8) : (2 ^ a ||| 2 ^ b) ||| 2 ^ c < 256 := Nat.or_lt_two_pow (n := 8) (Nat.or_lt_two_pow (n := 8) (Nat.pow_lt_pow_right (by decide) ha) (Nat.pow_lt_pow_right (by decide) hb)) (Nat.pow_lt_pow_right (by decide) hc)
def isF (o : Oc) : Bool := match o with
  | .inr (true, _) => true
  | _ => false
theorem rOc_neg {s : Sr} {o : Oc} (h : OcOK s o) : (rOc o < iN 0) = (isF o = false) := by
  cases o with
  | inl s' => exact propext ⟨fun _ => rfl, fun _ => of_eq_true mI_neg⟩
  | inr z =>
    obtain ⟨b, s'⟩ := z
    cases b with
    | false => exact propext ⟨fun _ => rfl, fun _ => of_eq_true mII_neg⟩
    | true =>
      have h1 := h.1.1
      have h2 : (iN (s'.1.length - 1) < iN 0) = False := iN_nneg (by omega)
      exact propext ⟨fun q => (of_eq_false h2 q).elim, fun q => by cases q⟩
noncomputable def thF (x : Cx) (t : Tn) (a b c : Nat) : Bool := !(decide (c = a)) && !(decide (c = b)) && isF (fnS x (W1 t a b) ((2 ^ a ||| 2 ^ b) ||| 2 ^ c) t)
def enP : Nat → Int32
  | 0 => mI
  | n + 1 => iN n
theorem enP_dn {n : Nat} (h : n < 100) : iN n + -(iN 1) = enP n := by
  cases n with
  | zero => decide
  | succ k => rw [negone, iN_pm (by omega)]; rfl
section
variable {x : Cx} {a texts d : Nat → Int32} {pe ga hr rl cL lz tk fe : Int32} {lo bo cd kd fr to wn nm sz : Nat → Int32} {hp : Nat → Nat → Int32} {ru : Nat} {p q : Nat} {t0 : Tn}
theorem C_thLoop (hx : CxOK x) (hcx : CX pe ga hr rl lo bo ru cL lz tk fe cd kd fr to x) (hW : WN wn (W1 t0 p q)) (ht : TW t0) (hC : CT nm sz hp t0) (hp' : p < x.1) (hq : q < x.1) : ∀ (m c n : Nat) (t : T9b), c + m = x.1 → m < n → ∃ e, itr (un10 (fb_x_third_14 pe ga hr rl ru wn bo lo cL lz tk nm sz hp kd to fr cd (iN p) (iN q))) n (iN c, t) = some e ∧ (match (List.range' c m).find? (thF x t0 p q) with
    | some k => ∃ t', e = .inl (iN k, t')
    | none => ∃ t', e = .inr t')
  | 0, c, n, t, hc, hn => by
    obtain ⟨n, rfl⟩ : ∃ z, n = z + 1 := ⟨n - 1, by omega⟩
    have hP := hx.1
    have hpe : pe = iN x.1 := hcx.1
    have hlt : (iN c < pe) = False := by rw [hpe, iN_lt (by omega) (by omega)]; exact eq_false (by omega)
    refine ⟨.inr t, itr_end ?_, t, rfl⟩
    simp only [un10, fb_x_third_14, hlt, ↓reduceIte]
  | m + 1, c, n, t, hc, hn => by
    obtain ⟨n, rfl⟩ : ∃ z, n = z + 1 := ⟨n - 1, by omega⟩
    have hP := hx.1
    have hpe : pe = iN x.1 := hcx.1
    have hlt : (iN c < pe) = True := by rw [hpe, iN_lt (by omega) (by omega)]; exact eq_true (by omega)
    have ecp : (iN c = iN p) = (c = p) := iN_eq (by omega) (by omega)
    have ecq : (iN c = iN q) = (c = q) := iN_eq (by omega) (by omega)
    obtain ⟨s0, tb, st, og, tn, tz, th, v, sk⟩ := t
    have skip : thF x t0 p q c = false → ∀ t', un10 (fb_x_third_14 pe ga hr rl ru wn bo lo cL lz tk nm sz hp kd to fr cd (iN p) (iN q)) (iN c, s0, tb, st, og, tn, tz, th, v, sk) = some (.inl (iN (c + 1), t')) → ∃ e, itr (un10 (fb_x_third_14 pe ga hr rl ru wn bo lo cL lz tk nm sz hp kd to fr cd (iN p) (iN q))) (n + 1) (iN c, s0, tb, st, og, tn, tz, th, v, sk) = some e ∧ (match (List.range' c (m + 1)).find? (thF x t0 p q) with
        | some k => ∃ t', e = .inl (iN k, t')
        | none => ∃ t', e = .inr t') := by
      intro h t' stp
      rw [itr_step stp, List.range'_succ, List.find?_cons_of_neg (by rw [h]; decide)]
      exact C_thLoop hx hcx hW ht hC hp' hq m (c + 1) n t' (by omega) (by omega)
    by_cases c1 : c = p
    · have c1' : (iN c = iN p) = True := ecp.trans (eq_true c1)
      refine skip (by unfold thF; rw [decide_eq_true c1]; rfl) (s0, tb, st, og, tn, tz, th, v, sk) ?_
      simp only [un10, fb_x_third_14, hlt, c1', nlit, iN_add, ↓reduceIte]
    · have c1' : (iN c = iN p) = False := ecp.trans (eq_false c1)
      by_cases c2 : c = q
      · have c2' : (iN c = iN q) = True := ecq.trans (eq_true c2)
        refine skip (by unfold thF; rw [decide_eq_true c2, Bool.not_true, Bool.and_false]; rfl) (s0, tb, st, og, tn, tz, th, v, sk) ?_
        simp only [un10, fb_x_third_14, hlt, c1', c2', nlit, iN_add, ↓reduceIte]
      · have c2' : (iN c = iN q) = False := ecq.trans (eq_false c2)
        have hset := lt3 (show p < 8 by omega) (show q < 8 by omega) (show c < 8 by omega)
        have hsh := sh_three p (by omega) q (by omega) c (by omega)
        obtain ⟨t', f1, -⟩ := C_find (size0 := s0) (st := st) (tb := tb) (og := og) (tn := tn) (tz := tz) (v := v) (sk := sk) (th := th) hx hcx hW hset ht hC
        have hneg := rOc_neg (fn_ok (W := W1 t0 p q) (set := (2 ^ p ||| 2 ^ q) ||| 2 ^ c) hx ht)
        have hth : thF x t0 p q c = isF (fnS x (W1 t0 p q) ((2 ^ p ||| 2 ^ q) ||| 2 ^ c) t0) := by unfold thF; rw [decide_eq_false c1, decide_eq_false c2]; rfl
        obtain ⟨s1, tb1, st1, og1, tn1, tz1, th1, v1, sk1⟩ := t'
        generalize fnS x (W1 t0 p q) ((2 ^ p ||| 2 ^ q) ||| 2 ^ c) t0 = o at f1 hneg hth
        generalize rOc o = r at f1 hneg
        cases z : isF o with
        | false =>
          rw [z] at hth hneg
          have hneg' : (r < iN 0) = True := hneg.trans (eq_true rfl)
          refine skip hth (s1, tb1, st1, og1, tn1, tz1, th1, v1, sk1) ?_
          simp only [un10, fb_x_third_14, hlt, c1', c2', nlit, hsh, f1, hneg', iN_add, Option.bind_some, ↓reduceIte]
        | true =>
          rw [z] at hth hneg
          have hneg' : (r < iN 0) = False := hneg.trans (eq_false (by decide))
          rw [List.range'_succ, List.find?_cons_of_pos hth]
          refine ⟨.inl (iN c, s1, tb1, st1, og1, tn1, tz1, th1, v1, sk1), itr_end ?_, (s1, tb1, st1, og1, tn1, tz1, th1, v1, sk1), rfl⟩
          simp only [un10, fb_x_third_14, hlt, c1', c2', nlit, hsh, f1, hneg', Option.bind_some, ↓reduceIte]
theorem M_thLoop (hx : CxOK x) (hmx : MX a texts x) (hgl : ∀ (d' : Nat → Int32) (t : Tn), MT d' 70 t → TW t → (∀ j, j < 70 → d' j = d j) → f_m_isGoal (iN 70) a d' (iN 1) (iN p) (iN q) = some (b01 (asW (W1 t0 p q) t))) (ht : TW t0) (hM : MT d 0 t0) (hp' : p < x.1) (hq : q < x.1) : ∀ (c n : Nat) (o : Option Nat) (t : T10), c ≤ x.1 → c < n → D10 d t → (List.range' c (x.1 - c)).find? (thF x t0 p q) = o → ∃ t', itr (un13 (fb_m_third_23 a texts (iN p) (iN q))) n (enO o, enP c, iN 0, t) = some (enO ((List.range x.1).find? (thF x t0 p q)), iN 0, t') ∧ D10 d t'
  | 0, n, o, t, hc, hn, hD, ho => by
    obtain ⟨n, rfl⟩ : ∃ z, n = z + 1 := ⟨n - 1, by omega⟩
    have ho' : (List.range x.1).find? (thF x t0 p q) = o := by rw [List.range_eq_range']; exact ho
    refine ⟨t, itr_end ?_, hD⟩
    rw [ho']
    show un13 (fb_m_third_23 a texts (iN p) (iN q)) (enO o, mI, iN 0, t) = _
    simp only [un13, fb_m_third_23, nlit, mI_neg, ↓reduceIte]
  | c + 1, n, o, t, hc, hn, hD, ho => by
    obtain ⟨n, rfl⟩ : ∃ z, n = z + 1 := ⟨n - 1, by omega⟩
    have hP := hx.1
    have hlt : (iN c < iN 0) = False := iN_nneg (by omega)
    have ecp : (iN c = iN p) = (c = p) := iN_eq (by omega) (by omega)
    have ecq : (iN c = iN q) = (c = q) := iN_eq (by omega) (by omega)
    have hdn := enP_dn (n := c) (by omega)
    have hrg : List.range' c (x.1 - c) = c :: List.range' (c + 1) (x.1 - (c + 1)) := by
      rw [show x.1 - c = (x.1 - (c + 1)) + 1 by omega, List.range'_succ]
    obtain ⟨many, d1, named, mv, truth, states, cf, cb, chain, chains⟩ := t
    have hD : ∀ j, j < 70 → d1 j = d j := hD
    have htr : ∀ b, f_m_tries b (iN 0) = some (iN 0) := fun b => rfl
    have skip : thF x t0 p q c = false → ∀ t', D10 d t' → un13 (fb_m_third_23 a texts (iN p) (iN q)) (enO o, enP (c + 1), iN 0, many, d1, named, mv, truth, states, cf, cb, chain, chains) = some (.inl (enO o, enP c, iN 0, t')) → ∃ t', itr (un13 (fb_m_third_23 a texts (iN p) (iN q))) (n + 1) (enO o, enP (c + 1), iN 0, many, d1, named, mv, truth, states, cf, cb, chain, chains) = some (enO ((List.range x.1).find? (thF x t0 p q)), iN 0, t') ∧ D10 d t' := by
      intro h t' hD' stp
      rw [itr_step stp]
      refine M_thLoop hx hmx hgl ht hM hp' hq c n o t' (by omega) (by omega) hD' ?_
      rw [hrg, List.find?_cons_of_neg (by rw [h]; decide)]; exact ho
    by_cases c1 : c = p
    · have c1' : (iN c = iN p) = True := ecp.trans (eq_true c1)
      refine skip (by unfold thF; rw [decide_eq_true c1]; rfl) (many, d1, named, mv, truth, states, cf, cb, chain, chains) hD ?_
      simp only [un13, enP, fb_m_third_23, fj_m_third_65_23, nlit, hlt, c1', hdn, htr, Option.bind_some, ↓reduceIte]
    · have c1' : (iN c = iN p) = False := ecp.trans (eq_false c1)
      by_cases c2 : c = q
      · have c2' : (iN c = iN q) = True := ecq.trans (eq_true c2)
        refine skip (by unfold thF; rw [decide_eq_true c2, Bool.not_true, Bool.and_false]; rfl) (many, d1, named, mv, truth, states, cf, cb, chain, chains) hD ?_
        simp only [un13, enP, fb_m_third_23, fj_m_third_65_23, nlit, hlt, c1', c2', hdn, htr, Option.bind_some, ↓reduceIte]
      · have c2' : (iN c = iN q) = False := ecq.trans (eq_false c2)
        have hset := lt3 (show p < 8 by omega) (show q < 8 by omega) (show c < 8 by omega)
        have hsh := sh_three p (by omega) q (by omega) c (by omega)
        obtain ⟨t', f1, -, f2⟩ := M_find (W := W1 t0 p q) (b := iN 0) (many := many) (d := d1) (named := named) (truth := truth) (states := states) (cf := cf) (cb := cb) (chain := chain) (chains := chains) (values := mv) hx hmx hset (bits3 hp' hq (show c < x.1 by omega)) hgl ht hM hD
        have hneg := rOc_neg (fn_ok (W := W1 t0 p q) (set := (2 ^ p ||| 2 ^ q) ||| 2 ^ c) hx ht)
        have hth : thF x t0 p q c = isF (fnS x (W1 t0 p q) ((2 ^ p ||| 2 ^ q) ||| 2 ^ c) t0) := by unfold thF; rw [decide_eq_false c1, decide_eq_false c2]; rfl
        obtain ⟨many2, d2, named2, mv2, truth2, states2, cf2, cb2, chain2, chains2⟩ := t'
        generalize fnS x (W1 t0 p q) ((2 ^ p ||| 2 ^ q) ||| 2 ^ c) t0 = oc at f1 hneg hth
        generalize rOc oc = r at f1 hneg
        cases z : isF oc with
        | false =>
          rw [z] at hth hneg
          have hneg' : (r < iN 0) = True := hneg.trans (eq_true rfl)
          refine skip hth (many2, d2, named2, mv2, truth2, states2, cf2, cb2, chain2, chains2) f2 ?_
          simp only [un13, enP, fb_m_third_23, fj_m_third_65_23, nlit, hlt, c1', c2', hsh, f1, un12, hneg', hdn, htr, Option.bind_some, ↓reduceIte]
        | true =>
          rw [z] at hth hneg
          have hneg' : (r < iN 0) = False := hneg.trans (eq_false (by decide))
          have stp : un13 (fb_m_third_23 a texts (iN p) (iN q)) (enO o, enP (c + 1), iN 0, many, d1, named, mv, truth, states, cf, cb, chain, chains) = some (.inl (enO (some c), enP c, iN 0, many2, d2, named2, mv2, truth2, states2, cf2, cb2, chain2, chains2)) := by
            simp only [un13, enP, fb_m_third_23, fj_m_third_65_23, nlit, hlt, c1', c2', hsh, f1, un12, hneg', hdn, htr, enO_some, Option.bind_some, ↓reduceIte]
          rw [itr_step stp]
          refine M_thLoop hx hmx hgl ht hM hp' hq c n (some c) (many2, d2, named2, mv2, truth2, states2, cf2, cb2, chain2, chains2) (by omega) (by omega) f2 ?_
          rw [hrg, List.find?_cons_of_pos hth]
end
section
variable {pe ga hr tx rl xx dz rz kz : Int32} {bo lo pa dn nm sz dc rc kc a d : Nat → Int32} {hp : Nat → Nat → Int32} {s : Wd} {laws : Nat → Lw} {texts cL lz tk fe : Nat → Int32} {cd kd fr to : Nat → Nat → Int32} {wn tb og tn tz v sk named truth states cf cb chain chains : Nat → Int32} {th : Nat → Nat → Int32} {mv st : Nat → Int64} {size0 many : Int32}
theorem J_third (hC : CW pe ga hr tx rl xx bo lo pa dn nm sz hp dz dc rz rc kz kc s) (hM : MA a s) (hok : WOK s) (hT : MT d 0 s.2.2.1) (hcl : CLs cL lz tk fe cd kd fr to s.1.2.2.2.1 laws) (hml : MLs texts s.1.2.2.2.1 laws) (l1 l2 : Int32) : ∃ r s' w' tb' st' og' tn' tz' th' v' sk' many' d' named' mv' truth' states' cf' cb' chain' chains', f_x_third size0 pe ga hr rl (ruO s) wn bo tb st og lo (cL (ruO s)) (lz (ruO s)) (tk (ruO s)) nm tn sz tz hp th v (kd (ruO s)) (to (ruO s)) (fr (ruO s)) sk (cd (ruO s)) l1 l2 = some (r, s', w', tb', st', og', tn', tz', th', v', sk') ∧ f_m_third (iN 0) many a d texts named mv truth states cf cb chain chains l1 l2 = some (r, iN 0, many', d', named', mv', truth', states', cf', cb', chain', chains') ∧ ∀ j, j < 70 → d' j = d j := by
  have hP := hok.1.1
  have hX := cxO_ok (laws := laws) hok
  have hcx := CX.of (texts := texts) hC.1 hC.2.1 hok hcl hml
  have hmx := MX.of hM hok hml
  have hpe : pe = iN s.1.1 := hC.1.1
  have ha0 : a 0 = iN s.1.1 := hM.1.1
  have e10 : (iN 1 = iN 0) = False := eq_false (by decide)
  rcases J_two (wn := wn) (bo := bo) hP hpe ha0 hC.2.2.1 hT hok.2.1.1 l1 l2 with ⟨⟨w0, g1⟩, g2⟩ | ⟨p, q, n, m, rfl, rfl, b1, b2, b3, b4, b5, b6⟩
  · refine ⟨mI, size0, w0, tb, st, og, tn, tz, th, v, sk, many, d, named, mv, truth, states, cf, cb, chain, chains, ?_, ?_, fun _ _ => rfl⟩
    · simp only [f_x_third, nlit, negone, g1, un2, Option.bind_some, ↓reduceIte]
    · simp only [f_m_third, nlit, negone, g2, Option.bind_some, ↓reduceIte]
  · obtain ⟨w', g1, g2⟩ := C_goal1 (x := cxO s laws) (wn := wn) (born := bo) hP hpe hC.2.2.1 hok.2.1.1 b1 b2 b3 b4 b5
    obtain ⟨e, e1, e2⟩ := C_thLoop hX hcx g2 hok.2.1.1 hC.2.2.1 b1 b2 s.1.1 0 KF (size0, tb, st, og, tn, tz, th, v, sk) (Nat.zero_add _) (kf_lt (by omega))
    rw [← List.range_eq_range'] at e2
    obtain ⟨u, f1, f2⟩ := M_thLoop (d := d) (t0 := s.2.2.1) hX hmx (fun d' t h1 h2 h3 => M_goal1 h1 (by omega) h2 (hT.moved hok.2.1.1 (fun j hj => h3 _ (by omega))) hok.2.1.1 (by omega) (by omega) b3 b4 b5) hok.2.1.1 hT b1 b2 s.1.1 KF none (many, d, named, mv, truth, states, cf, cb, chain, chains) (Nat.le_refl _) (kf_lt (by omega)) (fun _ _ => rfl) (by rw [show (cxO s laws).1 = s.1.1 from rfl, Nat.sub_self]; rfl)
    have f1 : itr (un13 (fb_m_third_23 a texts (iN p) (iN q))) KF (mI, enP s.1.1, iN 0, many, d, named, mv, truth, states, cf, cb, chain, chains) = some (enO ((List.range s.1.1).find? (thF (cxO s laws) s.2.2.1 p q)), iN 0, u) := f1
    have hst : a 0 - iN 1 = enP s.1.1 := by
      rw [ha0]
      have : s.1.1 = (s.1.1 - 1) + 1 := by omega
      rw [this, iN_sub (by omega)]; rfl
    have e2 : (match (List.range s.1.1).find? (thF (cxO s laws) s.2.2.1 p q) with
      | some k => ∃ t', e = .inl (iN k, t')
      | none => ∃ t', e = .inr t') := e2
    obtain ⟨many2, d2, named2, mv2, truth2, states2, cf2, cb2, chain2, chains2⟩ := u
    have mref : f_m_third (iN 0) many a d texts named mv truth states cf cb chain chains (iN p) (iN q) = some (enO ((List.range s.1.1).find? (thF (cxO s laws) s.2.2.1 p q)), iN 0, many2, d2, named2, mv2, truth2, states2, cf2, cb2, chain2, chains2) := by
      simp only [f_m_third, nlit, negone, b6, e10, hst, f1, un12, Option.bind_some, ↓reduceIte]
    cases z : (List.range s.1.1).find? (thF (cxO s laws) s.2.2.1 p q) with
    | some k =>
      rw [z] at e2 mref
      obtain ⟨⟨s1, tb1, st1, og1, tn1, tz1, th1, v1, sk1⟩, rfl⟩ := e2
      refine ⟨iN k, s1, w', tb1, st1, og1, tn1, tz1, th1, v1, sk1, many2, d2, named2, mv2, truth2, states2, cf2, cb2, chain2, chains2, ?_, mref, f2⟩
      simp only [f_x_third, nlit, negone, g1, e10, un2, e1, Sum.elim_inl, un10, Option.bind_some, ↓reduceIte]
    | none =>
      rw [z] at e2 mref
      obtain ⟨⟨s1, tb1, st1, og1, tn1, tz1, th1, v1, sk1⟩, rfl⟩ := e2
      refine ⟨mI, s1, w', tb1, st1, og1, tn1, tz1, th1, v1, sk1, many2, d2, named2, mv2, truth2, states2, cf2, cb2, chain2, chains2, ?_, mref, f2⟩
      simp only [f_x_third, nlit, negone, g1, e10, un2, e1, Sum.elim_inr, un9, Option.bind_some, ↓reduceIte]
end
