/-! ===== PURE: fewest: the reference goes through states ===== -/
abbrev T10 : Type := Int32 × (Nat → Int32) × (Nat → Int32) × (Nat → Int64) × (Nat → Int32) × (Nat → Int32) × (Nat → Int32) × (Nat → Int32) × (Nat → Int32) × (Nat → Int32)
def MS (many : Int32) (states cf cb chain chains : Nat → Int32) (s : Sr) : Prop := many = iN s.1.length ∧ SR states s.1 ∧ CH chain chains s.1 ∧ ∀ i, 0 < i → i < s.1.length → cf i = iN (s.2.1 i) ∧ cb i = iN (s.2.2 i)
def MS10 (t : T10) (s : Sr) : Prop := MS t.1 t.2.2.2.2.2.1 t.2.2.2.2.2.2.1 t.2.2.2.2.2.2.2.1 t.2.2.2.2.2.2.2.2.1 t.2.2.2.2.2.2.2.2.2 s
def D10 (d0 : Nat → Int32) (t : T10) : Prop := ∀ j, j < 70 → t.2.1 j = d0 j
def EXm (d0 : Nat → Int32) (o : Oc) (e : T10 ⊕ T10 ⊕ T10) : Prop := match o with
  | .inl s => ∃ t, e = .inr (.inr t) ∧ MS10 t s ∧ D10 d0 t
  | .inr (false, _) => ∃ t, e = .inl t ∧ D10 d0 t
  | .inr (true, s) => ∃ t, e = .inr (.inl t) ∧ MS10 t s ∧ D10 d0 t
theorem M_getState {d states : Nat → Int32} {k : Nat} (hk : k ≤ 3000) : ∃ d', itr (un2 (fb_m_findGoal_125 (iN 70) states (iN k))) KF (iN 0, d) = some d' ∧ (∀ j, j < 35 → d' (70 + j) = states (35 * k + j)) ∧ ∀ j, j < 70 ∨ 105 ≤ j → d' j = d j := by
  obtain ⟨e, e1, e2⟩ := itr_itF (f := un2 (fb_m_findGoal_125 (iN 70) states (iN k))) (α := Unit) (fun j s _ => ∃ f, s = (iN j, f) ∧ (∀ i, i < j → f (70 + i) = states (35 * k + i)) ∧ ∀ i, i < 70 ∨ 105 ≤ i → f i = d i) (fun e _ => (∀ i, i < 35 → e (70 + i) = states (35 * k + i)) ∧ ∀ i, i < 70 ∨ 105 ≤ i → e i = d i) (fun _ u => u) (N := 35) (fun j s _ hj hR => by
    obtain ⟨f, rfl, r1, r2⟩ := hR
    refine ⟨(iN (j + 1), upd f (70 + j) (states (35 * k + j))), ?_, _, rfl, fun i hi => ?_, fun i hi => ?_⟩
    · simp (disch := omega) only [un2, fb_m_findGoal_125, nlit, bnd, iN_add, iN_mul, iN_lt, iN_inb, iN_ix, ltT, ↓reduceIte]
    · by_cases c : i = j
      · rw [c, upd_same]
      · rw [upd_ne (by omega)]; exact r1 i (by omega)
    · rw [upd_ne (by omega)]; exact r2 i hi) (fun s _ hR => by
    obtain ⟨f, rfl, r1, r2⟩ := hR
    exact ⟨f, by simp (disch := omega) only [un2, fb_m_findGoal_125, nlit, iN_lt, ltF, ↓reduceIte], r1, r2⟩) (s := (iN 0, d)) (a := ()) (n := KF) ⟨d, rfl, fun k hk => absurd hk (Nat.not_lt_zero _), fun _ _ => rfl⟩ (kf_lt (by omega))
  exact ⟨e, e1, e2.1, e2.2⟩
section
variable {x : Cx} {W : Nat → Option Nat} {set k : Nat} {u : Tn} {a texts d0 : Nat → Int32} {l1 l2 l3 : Int32}
theorem M_go1 (hx : CxOK x) (hmx : MX a texts x) (hset : set < 256) (hgl : ∀ (d : Nat → Int32) (t : Tn), MT d 70 t → TW t → (∀ j, j < 70 → d j = d0 j) → f_m_isGoal (iN 70) a d l1 l2 l3 = some (b01 (asW W t))) (hu : TW u) {j : Nat} (hj : j < 24) {s : Sr} (hs : SOK s) (hk : s.1[k]? = some u) {t : T10} (h1 : MS10 t s) (h2 : D10 d0 t) :
    (∃ s' t', go1 x W set k u s (j / 3) (j % 3) = .inl s' ∧ un11 (fb_m_findGoal_78 (iN 70) a texts l1 l2 l3 (iN set) (iN k)) (iN j, t) = some (.inl (iN (j + 1), t')) ∧ MS10 t' s' ∧ D10 d0 t') ∨ ∃ z e, go1 x W set k u s (j / 3) (j % 3) = .inr z ∧ un11 (fb_m_findGoal_78 (iN 70) a texts l1 l2 l3 (iN set) (iN k)) (iN j, t) = some (.inr e) ∧ EXm d0 (.inr z) e := by
  have hG := hx.2.1
  obtain ⟨many, d, named, values, truth, states, cf, cb, chain, chains⟩ := t
  obtain ⟨h11, h12, h13, h14⟩ := h1
  have h11 : many = iN s.1.length := h11
  have h12 : SR states s.1 := h12
  have h13 : CH chain chains s.1 := h13
  have hMS : MS many states cf cb chain chains s := ⟨h11, h12, h13, h14⟩
  have h2 : ∀ j, j < 70 → d j = d0 j := h2
  have hl := hs.1
  have hkl : k < s.1.length := (List.getElem?_eq_some_iff.mp hk).1
  have hw : j / 3 < 8 := by omega
  have hg : j % 3 < 3 := by omega
  have hlt : (iN j < iN 24) = True := by rw [iN_lt (by omega) (by omega)]; exact eq_true hj
  have hdv : iN j / iN 3 = iN (j / 3) := iN_div (by omega) (by omega)
  have hrm : rem32 (iN j) (iN 3) = iN (j % 3) := iN_rem (by omega) (by omega)
  have hbz := bt_zero set hset (j / 3) hw
  have hgt : f_m_isGate a (iN (j % 3)) = some (b01 (decide (j % 3 < x.2.1))) := by rw [M_isGate hmx.2.1 (by omega), inR_iN (by omega)]
  have hlt2 := M_isLot (g := j % 3) hmx hg
  generalize j / 3 = w at *
  generalize j % 3 = g at *
  cases q1 : set.testBit w with
  | false =>
    have hb0 : (((iN set >>> (iN w &&& iN 31)) &&& iN 1) = iN 0) = True := eq_true (hbz.mpr q1)
    have e : go1 x W set k u s w g = .inl s := by unfold go1 okW; rw [q1, Bool.false_and, Bool.false_and, if_neg (by decide)]
    refine Or.inl ⟨s, (many, d, named, values, truth, states, cf, cb, chain, chains), e, ?_, hMS, h2⟩
    simp only [un11, fb_m_findGoal_78, nlit, hlt, hdv, hb0, iN_add, ↓reduceIte]
  | true =>
    have hb0 : (((iN set >>> (iN w &&& iN 31)) &&& iN 1) = iN 0) = False := eq_false (fun z => by have := hbz.mp z; rw [q1] at this; cases this)
    by_cases q0 : g < x.2.1
    · rw [decide_eq_true q0] at hgt
      cases q2 : x.2.2.2.1 g with
      | true =>
        rw [q2] at hlt2
        have e : go1 x W set k u s w g = .inl s := by unfold go1 okW; rw [q1, q2, Bool.not_true, Bool.and_false, if_neg (by decide)]
        refine Or.inl ⟨s, (many, d, named, values, truth, states, cf, cb, chain, chains), e, ?_, hMS, h2⟩
        simp only [un11, fb_m_findGoal_78, nlit, hlt, hdv, hrm, hb0, hgt, hlt2, bT0, iN_add, Option.bind_some, ↓reduceIte]
      | false =>
        rw [q2] at hlt2
        have hok : okW x set w g = true := by unfold okW; rw [q1, q2, decide_eq_true q0]; rfl
        obtain ⟨d1, g1, g2, g3⟩ := M_getState (d := d) (states := states) (k := k) (by omega)
        have hm1 : MT d1 70 u := (h12 k u hk).1.moved hu g2
        obtain ⟨d2, nm2, v2, tr2, f1, f2, f3⟩ := M_goes (named := named) (values := values) (truth := truth) hx hmx hm1 (by omega) hu hw hg
        have hd2 : ∀ j, j < 70 → d2 j = d0 j := fun j hj => (f3 j (Or.inl hj)).trans ((g3 j (Or.inl hj)).trans (h2 j hj))
        have ph : un11 (fb_m_findGoal_78 (iN 70) a texts l1 l2 l3 (iN set) (iN k)) (iN j, many, d, named, values, truth, states, cf, cb, chain, chains) = (f_m_goes (iN 70) a d1 texts named values truth (iN w) (iN g)).bind (un5 fun r20 d_21 named_22 values_23 truth_24 =>
              if r20 = 0 then
                some (.inl (iN j + 1, many, d_21, named_22, values_23, truth_24, states, cf, cb, chain, chains))
              else
                (f_m_sumOf (iN 70) d_21).bind (fun r25 =>
                (f_m_isKnown (iN 70) d_21 states chain chains r25).bind (fun r26 =>
                if r26 = 0 then
                  if many = 3000 then
                    some (.inr (.inl (many, d_21, named_22, values_23, truth_24, states, cf, cb, chain, chains)))
                  else
                    (f_m_addState (iN 70) many d_21 states cf cb chain chains r25 (iN k) ((10 * iN w) + iN g)).bind (un6 fun stateMany_27 states_28 camesFrom_29 cameBy_30 chain_31 chains_32 =>
                    (f_m_isGoal (iN 70) a d_21 l1 l2 l3).bind (fun r33 =>
                    if r33 = 0 then
                      some (.inl (iN j + 1, stateMany_27, d_21, named_22, values_23, truth_24, states_28, camesFrom_29, cameBy_30, chain_31, chains_32))
                    else
                      some (.inr (.inr (.inl (stateMany_27, d_21, named_22, values_23, truth_24, states_28, camesFrom_29, cameBy_30, chain_31, chains_32))))))
                else
                  some (.inl (iN j + 1, many, d_21, named_22, values_23, truth_24, states, cf, cb, chain, chains))))) := by
          simp only [un11, fb_m_findGoal_78, nlit, hlt, hdv, hrm, hb0, hgt, hlt2, bT0, bF0, g1, Option.bind_some, ↓reduceIte]
          rfl
        rw [ph]
        cases q3 : goS x u w g with
        | none =>
          rw [q3] at f1 f2
          have f1 : f_m_goes (iN 70) a d1 texts named values truth (iN w) (iN g) = some (b01 false, d2, nm2, v2, tr2) := f1
          have e : go1 x W set k u s w g = .inl s := by unfold go1; rw [if_pos hok, q3]
          refine Or.inl ⟨s, (many, d2, nm2, v2, tr2, states, cf, cb, chain, chains), e, ?_, hMS, hd2⟩
          rw [f1, Option.bind_some]
          simp only [un5, nlit, bF0, iN_add, ↓reduceIte]
        | some p =>
          obtain ⟨n, t'⟩ := p
          rw [q3] at f1 f2
          have f1 : f_m_goes (iN 70) a d1 texts named values truth (iN w) (iN g) = some (b01 true, d2, nm2, v2, tr2) := f1
          have f2 : MT d2 70 t' := f2
          have ht' : TW t' := by have := goS_TW (x := x) hu hw hg; rw [q3] at this; exact this
          have hsm := M_sumOf f2 (by omega) ht'
          have hgo := hgl d2 t' f2 ht' hd2
          rw [f1, Option.bind_some]
          have b0 : (b01 true = 0) = False := bT0
          simp only [un5, b0, ↓reduceIte]
          rw [hsm, Option.bind_some]
          rcases M_isKnown f2 (by omega) ht' h12 h13 hl with ⟨k1, k2⟩ | ⟨k1, k2⟩
          · have e : go1 x W set k u s w g = .inl s := by unfold go1; rw [if_pos hok, q3]; dsimp only; rw [if_pos (inB_t k2)]
            refine Or.inl ⟨s, (many, d2, nm2, v2, tr2, states, cf, cb, chain, chains), e, ?_, hMS, hd2⟩
            have h10 : (iN 1 = iN 0) = False := eq_false (by decide)
            rw [k1, Option.bind_some]
            simp only [nlit, h10, iN_add, ↓reduceIte]
          · rw [k1, Option.bind_some]
            have h00 : (iN 0 = 0) = True := eq_true rfl
            simp only [h00, ↓reduceIte]
            by_cases c2 : s.1.length = 3000
            · have e : go1 x W set k u s w g = .inr (false, s) := by unfold go1; rw [if_pos hok, q3]; dsimp only; rw [if_neg (by rw [inB_f k2]; decide), if_pos c2]
              have hmn : (many = 3000) = True := eq_true (by rw [h11, c2]; rfl)
              refine Or.inr ⟨(false, s), .inl (many, d2, nm2, v2, tr2, states, cf, cb, chain, chains), e, ?_, (many, d2, nm2, v2, tr2, states, cf, cb, chain, chains), rfl, hd2⟩
              simp only [hmn, ↓reduceIte]
            · have hmn : (many = 3000) = False := by
                rw [h11]
                show (iN s.1.length = iN 3000) = False
                rw [iN_eq (by omega) (by omega)]; exact eq_false c2
              have hby : (10 * iN w) + iN g = iN (10 * w + g) := by
                show (iN 10 * iN w) + iN g = _
                rw [iN_mul, iN_add]
              obtain ⟨s', ch', cs', m1, m2, m3⟩ := M_addState (cf := cf) (cb := cb) f2 (by omega) ht' h12 h13 hl (iN k) (iN (10 * w + g))
              rw [← h11] at m1
              have hnew : MS (iN (s.1.length + 1)) s' (upd cf s.1.length (iN k)) (upd cb s.1.length (iN (10 * w + g))) ch' cs' (adS s t' k (10 * w + g)) := by
                refine ⟨by rw [ad_len], m2, m3, fun i hi hi2 => ?_⟩
                rw [ad_len] at hi2
                show upd cf s.1.length (iN k) i = iN (setF s.2.1 s.1.length k i) ∧ upd cb s.1.length (iN (10 * w + g)) i = iN (setF s.2.2 s.1.length (10 * w + g) i)
                by_cases c : i = s.1.length
                · rw [c, upd_same, upd_same, setF_same, setF_same]; exact ⟨rfl, rfl⟩
                · rw [upd_ne c, upd_ne c, setF_ne c, setF_ne c]; exact h14 i hi (by omega)
              simp only [hmn, ↓reduceIte]
              rw [hby, m1, Option.bind_some]
              simp only [un6]
              rw [hgo, Option.bind_some]
              cases c3 : asW W t' with
              | true =>
                have e : go1 x W set k u s w g = .inr (true, adS s t' k (10 * w + g)) := by unfold go1; rw [if_pos hok, q3]; dsimp only; rw [if_neg (by rw [inB_f k2]; decide), if_neg c2, if_pos c3]
                refine Or.inr ⟨(true, adS s t' k (10 * w + g)), .inr (.inl (iN (s.1.length + 1), d2, nm2, v2, tr2, s', upd cf s.1.length (iN k), upd cb s.1.length (iN (10 * w + g)), ch', cs')), e, ?_, (iN (s.1.length + 1), d2, nm2, v2, tr2, s', upd cf s.1.length (iN k), upd cb s.1.length (iN (10 * w + g)), ch', cs'), rfl, hnew, hd2⟩
                simp only [b0, ↓reduceIte]
              | false =>
                have e : go1 x W set k u s w g = .inl (adS s t' k (10 * w + g)) := by unfold go1; rw [if_pos hok, q3]; dsimp only; rw [if_neg (by rw [inB_f k2]; decide), if_neg c2, if_neg (by rw [c3]; decide)]
                have b00 : (b01 false = 0) = True := bF0
                refine Or.inl ⟨adS s t' k (10 * w + g), (iN (s.1.length + 1), d2, nm2, v2, tr2, s', upd cf s.1.length (iN k), upd cb s.1.length (iN (10 * w + g)), ch', cs'), e, ?_, hnew, hd2⟩
                simp only [bF0, nlit, iN_add, ↓reduceIte]
    · rw [decide_eq_false q0] at hgt
      have e : go1 x W set k u s w g = .inl s := by unfold go1 okW; rw [decide_eq_false q0, Bool.and_false, Bool.false_and, if_neg (by decide)]
      refine Or.inl ⟨s, (many, d, named, values, truth, states, cf, cb, chain, chains), e, ?_, hMS, h2⟩
      simp only [un11, fb_m_findGoal_78, nlit, hlt, hdv, hrm, hb0, hgt, bF0, iN_add, Option.bind_some, ↓reduceIte]
theorem M_waysF (hx : CxOK x) (hmx : MX a texts x) (hset : set < 256) (hgl : ∀ (d : Nat → Int32) (t : Tn), MT d 70 t → TW t → (∀ j, j < 70 → d j = d0 j) → f_m_isGoal (iN 70) a d l1 l2 l3 = some (b01 (asW W t))) (hu : TW u) : ∀ (m j n : Nat) (s : Sr) (t : T10), j + m = 24 → m < n → SOK s → s.1[k]? = some u → MS10 t s → D10 d0 t → ∃ e, itr (un11 (fb_m_findGoal_78 (iN 70) a texts l1 l2 l3 (iN set) (iN k))) n (iN j, t) = some e ∧ EXm d0 (wyS x W set k u ((List.range' j m).map (fun j => (j / 3, j % 3))) s) e
  | 0, j, n, s, t, hg, hn, hs, hk, h1, h2 => by
    obtain ⟨n, rfl⟩ : ∃ z, n = z + 1 := ⟨n - 1, by omega⟩
    have hlt : (iN j < iN 24) = False := by rw [iN_lt (by omega) (by omega)]; exact eq_false (by omega)
    refine ⟨.inr (.inr t), itr_end ?_, t, rfl, h1, h2⟩
    simp only [un11, fb_m_findGoal_78, nlit, hlt, ↓reduceIte]
  | m + 1, j, n, s, t, hg, hn, hs, hk, h1, h2 => by
    obtain ⟨n, rfl⟩ : ∃ z, n = z + 1 := ⟨n - 1, by omega⟩
    have hkl : k < s.1.length := (List.getElem?_eq_some_iff.mp hk).1
    rw [List.range'_succ, List.map_cons, wy_cons]
    have hok := go1_ok (W := W) (set := set) hx hs hkl hu (show j / 3 < 8 by omega) (show j % 3 < 3 by omega)
    rcases M_go1 hx hmx hset hgl hu (show j < 24 by omega) hs hk h1 h2 with ⟨s', t', e1, e2, e3, e4⟩ | ⟨z, e, e1, e2, e3⟩
    · rw [e1] at hok
      obtain ⟨o1, o2, o3⟩ := hok
      rw [itr_step e2]
      show ∃ e, _ ∧ EXm d0 (match go1 x W set k u s (j / 3) (j % 3) with
        | .inl s' => wyS x W set k u ((List.range' (j + 1) m).map (fun j => (j / 3, j % 3))) s'
        | .inr z => .inr z) e
      rw [e1]
      exact M_waysF hx hmx hset hgl hu m (j + 1) n s' t' (by omega) (by omega) o1 ((o3 k hkl).trans hk) e3 e4
    · refine ⟨e, itr_end e2, ?_⟩
      show EXm d0 (match go1 x W set k u s (j / 3) (j % 3) with
        | .inl s' => wyS x W set k u ((List.range' (j + 1) m).map (fun j => (j / 3, j % 3))) s'
        | .inr z => .inr z) e
      rw [e1]; exact e3
end
