/-! ===== PURE: left ===== -/
def osT (t : Tn) (P : Nat) : List Nat := (List.range P).filter (fun o => (t.1 o).isNone)
theorem osT_S {t : Tn} {k : Nat} : osT t (k + 1) = osT t k ++ if (t.1 k).isNone = true then [k] else [] := by
  unfold osT
  rw [List.range_succ, List.filter_append]
  congr 1
  rw [List.filter_cons, List.filter_nil]
theorem osT_no {t : Tn} {k v : Nat} (h : t.1 k = some v) : osT t (k + 1) = osT t k := by
  rw [osT_S, h, Option.isNone_some, if_neg Bool.false_ne_true, List.append_nil]
theorem osT_yes {t : Tn} {k : Nat} (h : t.1 k = none) : osT t (k + 1) = osT t k ++ [k] := by
  rw [osT_S, h, Option.isNone_none, if_pos rfl]
theorem osT_lt {t : Tn} {P o : Nat} (h : o ∈ osT t P) : o < P := List.mem_range.mp (List.mem_filter.mp h).1
theorem osT_len {t : Tn} {P : Nat} : (osT t P).length ≤ P := by
  have := List.length_filter_le (fun o => (t.1 o).isNone) (List.range P)
  rw [List.length_range] at this; exact this
theorem osT_asc {t : Tn} : ∀ (P i j : Nat), i < j → j < (osT t P).length → (osT t P).getD i 0 < (osT t P).getD j 0
  | 0, i, j, _, h => absurd h (Nat.not_lt_zero _)
  | P + 1, i, j, hij, h => by
    rw [osT_S] at h ⊢
    by_cases q : (t.1 P).isNone = true
    · rw [if_pos q] at h ⊢
      rw [List.length_append] at h
      have h1 : [P].length = 1 := rfl
      rw [h1] at h
      have gi : (osT t P ++ [P]).getD i 0 = (osT t P).getD i 0 := by
        rw [List.getD_eq_getElem?_getD, List.getD_eq_getElem?_getD, List.getElem?_append_left (by omega)]
      by_cases c : j < (osT t P).length
      · have gj : (osT t P ++ [P]).getD j 0 = (osT t P).getD j 0 := by
          rw [List.getD_eq_getElem?_getD, List.getD_eq_getElem?_getD, List.getElem?_append_left c]
        rw [gi, gj]; exact osT_asc P i j hij c
      · have gj : (osT t P ++ [P]).getD j 0 = P := by
          rw [List.getD_eq_getElem?_getD, List.getElem?_append_right (by omega), show j - (osT t P).length = 0 by omega]; rfl
        rw [gi, gj]
        exact osT_lt (getD_in (show i < (osT t P).length by omega))
    · rw [if_neg q, List.append_nil] at h ⊢
      exact osT_asc P i j hij h
theorem M_outs {a d : Nat → Int32} {t : Tn} {P : Nat} (hP : P ≤ 8) (h0 : a 0 = iN P) (hd : MT d 0 t) (ht : TW t) : ∀ (m k n : Nat) (o : Nat → Int32), k + m = P → m < n → (osT t k).length ≤ 6 → OR o (osT t k) → ∃ o', ((osT t P).length ≤ 6 ∧ itr (un3 (fb_m_left_42 a d)) n (iN (osT t k).length, iN k, o) = some (.inr (iN (osT t P).length, o')) ∧ OR o' (osT t P)) ∨ (6 < (osT t P).length ∧ itr (un3 (fb_m_left_42 a d)) n (iN (osT t k).length, iN k, o) = some (.inl o'))
  | 0, k, n, o, hk, hn, h6, ho => by
    obtain ⟨n, rfl⟩ : ∃ z, n = z + 1 := ⟨n - 1, by omega⟩
    have e : k = P := hk
    subst e
    refine ⟨o, Or.inl ⟨h6, itr_end ?_, ho⟩⟩
    simp (disch := omega) only [un3, fb_m_left_42, h0, iN_lt, ltF, ↓reduceIte]
  | m + 1, k, n, o, hk, hn, h6, ho => by
    obtain ⟨n, rfl⟩ : ∃ z, n = z + 1 := ⟨n - 1, by omega⟩
    have hdk : d k = enO (t.1 k) := by have := hd.1 k (by omega); rwa [Nat.zero_add] at this
    cases q : t.1 k with
    | some v =>
      have hv := (ht.1 k v q).2
      rw [q, enO_some] at hdk
      have hS := osT_no q
      have st : un3 (fb_m_left_42 a d) (iN (osT t k).length, iN k, o) = some (.inl (iN (osT t k).length, iN (k + 1), o)) := by
        simp (disch := omega) only [un3, fb_m_left_42, h0, hdk, nlit, iN_add, iN_lt, iN_nneg, iN_inb, iN_ix, ltT, ltF, ↓reduceIte]
      rw [itr_step st, ← hS]
      exact M_outs hP h0 hd ht m (k + 1) n o (by omega) (by omega) (by rw [hS]; exact h6) (by rw [hS]; exact ho)
    | none =>
      rw [q, enO_none] at hdk
      have hS := osT_yes q
      have hmono : ∀ j, (osT t (k + 1)).length ≤ (osT t (k + 1 + j)).length := by
        intro j
        induction j with
        | zero => exact Nat.le_refl _
        | succ j ih =>
          refine Nat.le_trans ih ?_
          show _ ≤ (osT t (k + 1 + j + 1)).length
          rw [osT_S (k := k + 1 + j), List.length_append]
          exact Nat.le_add_right _ _
      have hl : (osT t (k + 1)).length = (osT t k).length + 1 := by rw [hS, List.length_append]; rfl
      by_cases c : (osT t k).length = 6
      · refine ⟨o, Or.inr ⟨?_, itr_end ?_⟩⟩
        · have := hmono m
          rw [show k + 1 + m = P by omega] at this
          omega
        · rw [c]
          simp (disch := omega) only [un3, fb_m_left_42, h0, hdk, nlit, mI_neg, iN_lt, iN_inb, iN_ix, ltT, ↓reduceIte]
      · have st : un3 (fb_m_left_42 a d) (iN (osT t k).length, iN k, o) = some (.inl (iN ((osT t k).length + 1), iN (k + 1), upd o (osT t k).length (iN k))) := by
          simp (disch := omega) only [un3, fb_m_left_42, h0, hdk, nlit, mI_neg, bnd, iN_add, iN_lt, iN_eq, iN_inb, iN_ix, ltT, eqF, ↓reduceIte]
        rw [itr_step st, ← hl]
        refine M_outs hP h0 hd ht m (k + 1) n _ (by omega) (by omega) (by omega) (fun j hj => ?_)
        rw [hl] at hj
        rw [hS]
        by_cases e : j = (osT t k).length
        · rw [e, upd_same, List.getD_eq_getElem?_getD, List.getElem?_append_right (by omega), Nat.sub_self]; rfl
        · rw [upd_ne e, List.getD_eq_getElem?_getD, List.getElem?_append_left (by omega), ← List.getD_eq_getElem?_getD]
          exact ho j (by omega)
section
variable {pe : Int32} {P : Nat} {nm sz : Nat → Int32} {hp : Nat → Nat → Int32} {t : Tn}
theorem C_inside (hP : P ≤ 8) (hpe : pe = iN P) (hd : CT nm sz hp t) (ht : TW t) {k : Nat} (hk : k < P) : f_world_isInside pe nm (iN k) = some (b01 (t.1 k).isSome) := by
  have h1 : f_world_hasPerson pe (iN k) = some (b01 true) := by rw [hpe, C_hasPerson (by omega), inR_iN (by omega), decide_eq_true hk]
  have hn := hd.nameOf (show k < 8 by omega)
  cases q : t.1 k with
  | none =>
    rw [q, enO_none] at hn
    simp only [f_world_isInside, h1, nlit, negone, bT0, hn, Option.bind_some, ↓reduceIte]; rfl
  | some v =>
    have hv := (ht.1 k v q).2
    rw [q, enO_some] at hn
    simp (disch := omega) only [f_world_isInside, h1, nlit, negone, bT0, hn, iN_nm, Option.bind_some, ↓reduceIte]; rfl
theorem C_countIn (hP : P ≤ 8) (hpe : pe = iN P) (hd : CT nm sz hp t) (ht : TW t) : f_world_countInside pe nm = some (iN (P - (osT t P).length)) := by
  have key : ∀ m k n, k + m = P → m < n → itr (un2 (fb_world_countInside_4 pe nm)) n (iN (k - (osT t k).length), iN k) = some (iN (P - (osT t P).length)) := by
    intro m
    induction m with
    | zero =>
      intro k n hk hn
      obtain ⟨n, rfl⟩ : ∃ z, n = z + 1 := ⟨n - 1, by omega⟩
      have e : k = P := hk
      subst e
      refine itr_end ?_
      simp (disch := omega) only [un2, fb_world_countInside_4, hpe, iN_lt, ltF, ↓reduceIte]
    | succ m ih =>
      intro k n hk hn
      obtain ⟨n, rfl⟩ : ∃ z, n = z + 1 := ⟨n - 1, by omega⟩
      have hi := C_inside hP hpe hd ht (show k < P by omega)
      have hlt : (iN k < pe) = True := by rw [hpe, iN_lt (by omega) (by omega)]; exact eq_true (by omega)
      have hle := osT_len (t := t) (P := k)
      rw [← ih (k + 1) n (by omega) (by omega)]
      refine itr_step ?_
      cases q : t.1 k with
      | none =>
        rw [q] at hi
        have hS := osT_yes q
        have hl : (osT t (k + 1)).length = (osT t k).length + 1 := by rw [hS, List.length_append]; rfl
        rw [hl, show k + 1 - ((osT t k).length + 1) = k - (osT t k).length by omega]
        simp only [un2, fb_world_countInside_4, hlt, hi, Option.isSome_none, nlit, bF0, iN_add, Option.bind_some, ↓reduceIte]
      | some v =>
        rw [q] at hi
        have hS := osT_no q
        rw [hS, show k + 1 - (osT t k).length = k - (osT t k).length + 1 by omega]
        simp only [un2, fb_world_countInside_4, hlt, hi, Option.isSome_some, nlit, bT0, iN_add, Option.bind_some, ↓reduceIte]
  have e := key P 0 KF (by omega) (kf_lt (by omega))
  have e' : itr (un2 (fb_world_countInside_4 pe nm)) KF (iN 0, iN 0) = some (iN (P - (osT t P).length)) := e
  simp only [f_world_countInside, nlit, e', Option.bind_some]
theorem C_outs (hP : P ≤ 8) (hpe : pe = iN P) (hd : CT nm sz hp t) (ht : TW t) : ∃ m, itr (un2 (fb_crw_countOrders_35 pe nm)) KF (iN 0, iN 0) = some (iN m) ∧ m < 256 ∧ (∀ o, m.testBit o = true → o < P) ∧ osM P m = osT t P := by
  obtain ⟨e, e1, e2⟩ := itr_itF (f := un2 (fb_crw_countOrders_35 pe nm)) (α := Unit) (fun k s _ => ∃ m, s = (iN m, iN k) ∧ m < 256 ∧ ∀ o, m.testBit o = true ↔ o < k ∧ t.1 o = none) (fun e _ => ∃ m, e = iN m ∧ m < 256 ∧ ∀ o, m.testBit o = true ↔ o < P ∧ t.1 o = none) (fun _ u => u) (N := P) (fun k s _ hk hR => by
    obtain ⟨m, rfl, hm, hb⟩ := hR
    have hi := C_inside hP hpe hd ht hk
    have hlt : (iN k < pe) = True := by rw [hpe, iN_lt (by omega) (by omega)]; exact eq_true (by omega)
    cases q : t.1 k with
    | none =>
      rw [q] at hi
      have hset := bt_set m hm k (by omega)
      have hk1 : iN k + 1 = iN (k + 1) := iN_add (a := k) (b := 1)
      have b0 : (b01 false = 0) = True := bF0
      refine ⟨(iN (m ||| 2 ^ k), iN (k + 1)), ?_, m ||| 2 ^ k, rfl, ?_, fun o => ?_⟩
      · simp only [un2, fb_crw_countOrders_35, hlt, hi, Option.isSome_none, b0, hset, hk1, Option.bind_some, ↓reduceIte]
      · exact Nat.or_lt_two_pow (n := 8) hm (Nat.pow_lt_pow_right (by decide) (by omega))
      · rw [Nat.testBit_or, Bool.or_eq_true, hb, Nat.testBit_two_pow, decide_eq_true_eq]
        constructor
        · rintro (⟨z1, z2⟩ | z)
          · exact ⟨by omega, z2⟩
          · subst z; exact ⟨by omega, q⟩
        · rintro ⟨z1, z2⟩
          by_cases c : k = o
          · exact Or.inr c
          · exact Or.inl ⟨by omega, z2⟩
    | some v =>
      rw [q] at hi
      refine ⟨(iN m, iN (k + 1)), ?_, m, rfl, hm, fun o => ?_⟩
      · simp only [un2, fb_crw_countOrders_35, hlt, hi, Option.isSome_some, nlit, bT0, iN_add, Option.bind_some, ↓reduceIte]
      · rw [hb]
        constructor
        · rintro ⟨z1, z2⟩; exact ⟨by omega, z2⟩
        · rintro ⟨z1, z2⟩
          by_cases c : o = k
          · rw [c, q] at z2; cases z2
          · exact ⟨by omega, z2⟩) (fun s _ hR => by
    obtain ⟨m, rfl, hm, hb⟩ := hR
    exact ⟨iN m, by simp (disch := omega) only [un2, fb_crw_countOrders_35, hpe, iN_lt, ltF, ↓reduceIte], m, rfl, hm, hb⟩) (s := (iN 0, iN 0)) (a := ()) (n := KF) ⟨0, rfl, by decide, fun o => by rw [Nat.zero_testBit]; exact ⟨fun z => (by cases z), fun z => absurd z.1 (Nat.not_lt_zero _)⟩⟩ (kf_lt (by omega))
  obtain ⟨m, rfl, hm, hb⟩ := e2
  refine ⟨m, e1, hm, fun o ho => ((hb o).mp ho).1, ?_⟩
  unfold osM osT
  refine List.filter_congr (fun o ho => ?_)
  rw [Bool.eq_iff_iff, hb, Option.isNone_iff_eq_none]
  exact ⟨fun z => z.2, fun z => ⟨List.mem_range.mp ho, z⟩⟩
end
section
variable {pe ga hr tx rl xx dz rz kz : Int32} {bo lo pa dn nm sz dc rc kc a d : Nat → Int32} {hp : Nat → Nat → Int32} {s : Wd} {laws : Nat → Lw} {texts cL lz tk fe : Nat → Int32} {cd kd fr to : Nat → Nat → Int32} {values stack tn tz named truth o : Nat → Int32} {th : Nat → Nat → Int32} {mv : Nat → Int64} {c0 c1 c2 : Int32}
theorem J_left (hC : CW pe ga hr tx rl xx bo lo pa dn nm sz hp dz dc rz rc kz kc s) (hM : MA a s) (hok : WOK s) (hT : MT d 0 s.2.2.1) (hcl : CLs cL lz tk fe cd kd fr to s.1.2.2.2.1 laws) (hml : MLs texts s.1.2.2.2.1 laws) (l1 l2 l3 : Int32) : ∃ r c0' c1' c2' n' s' h' v' st' d' mn mv' mt o', f_x_left pe ga hr rl c0 c1 c2 (ruO s) lo (cL (ruO s)) (lz (ruO s)) (tk (ruO s)) bo nm tn sz tz hp th values (kd (ruO s)) (to (ruO s)) (fr (ruO s)) stack (cd (ruO s)) l1 l2 l3 = some (r, c0', c1', c2', n', s', h', v', st') ∧ f_m_left (iN 0) a d texts named mv truth o l1 l2 l3 = some (r, iN 0, d', mn, mv', mt, o') ∧ ∀ j, j < 70 → d' j = d j := by
  have hP := hok.1.1
  have hG := hok.1.2.1
  have hX := cxO_ok (laws := laws) hok
  have hcx := CX.of (texts := texts) hC.1 hC.2.1 hok hcl hml
  have hmx := MX.of hM hok hml
  have same : ∀ o', f_x_left pe ga hr rl c0 c1 c2 (ruO s) lo (cL (ruO s)) (lz (ruO s)) (tk (ruO s)) bo nm tn sz tz hp th values (kd (ruO s)) (to (ruO s)) (fr (ruO s)) stack (cd (ruO s)) l1 l2 l3 = some (mI, c0, c1, c2, tn, tz, th, values, stack) → f_m_left (iN 0) a d texts named mv truth o l1 l2 l3 = some (mI, iN 0, d, named, mv, truth, o') → ∃ r c0' c1' c2' n' s' h' v' st' d' mn mv' mt o', f_x_left pe ga hr rl c0 c1 c2 (ruO s) lo (cL (ruO s)) (lz (ruO s)) (tk (ruO s)) bo nm tn sz tz hp th values (kd (ruO s)) (to (ruO s)) (fr (ruO s)) stack (cd (ruO s)) l1 l2 l3 = some (r, c0', c1', c2', n', s', h', v', st') ∧ f_m_left (iN 0) a d texts named mv truth o l1 l2 l3 = some (r, iN 0, d', mn, mv', mt, o') ∧ ∀ j, j < 70 → d' j = d j := fun o' q1 q2 => ⟨mI, c0, c1, c2, tn, tz, th, values, stack, d, named, mv, truth, o', q1, q2, fun _ _ => rfl⟩
  have hg1 : f_world_hasGate ga l1 = some (b01 (inR l1 s.1.2.1)) := by rw [hC.1.2.1]; exact C_hasGate (by omega)
  have hg2 := M_isGate (l := l1) hM.1.2.1 (by omega)
  cases h1 : inR l1 s.1.2.1 with
  | false =>
    rw [h1] at hg1 hg2
    refine same o ?_ ?_
    · simp only [f_x_left, hg1, nlit, negone, bF0, Option.bind_some, ↓reduceIte]
    · simp only [f_m_left, hg2, nlit, negone, bF0, Option.bind_some, ↓reduceIte]
  | true =>
    rw [h1] at hg1 hg2
    obtain ⟨g, hg, rfl⟩ := inR_some h1
    have hlo : lo g = b01 (s.2.1.2.1 g) := hC.2.1.2.1 g (by omega)
    have hL : f_m_isLot a (iN g) = some (b01 (s.2.1.2.1 g)) := M_isLot (g := g) hmx (by omega)
    cases hlot : s.2.1.2.1 g with
    | true =>
      rw [hlot] at hlo hL
      refine same o ?_ ?_
      · simp (disch := omega) only [f_x_left, hg1, nlit, negone, bT0, hlo, iN_inb, iN_ix, ltT, Option.bind_some, ↓reduceIte]
      · simp only [f_m_left, hg2, hL, nlit, negone, bT0, Option.bind_some, ↓reduceIte]
    | false =>
      rw [hlot] at hlo hL
      have hp1 : f_world_hasPerson pe l2 = some (b01 (inR l2 s.1.1)) := by rw [hC.1.1]; exact C_hasPerson (by omega)
      have hp2 := M_isPerson (l := l2) hM.1.1 (by omega)
      cases h2 : inR l2 s.1.1 with
      | false =>
        rw [h2] at hp1 hp2
        refine same o ?_ ?_
        · simp (disch := omega) only [f_x_left, hg1, nlit, negone, bT0, bF0, hlo, hp1, iN_inb, iN_ix, ltT, Option.bind_some, ↓reduceIte]
        · simp only [f_m_left, hg2, hL, hp2, nlit, negone, bT0, bF0, Option.bind_some, ↓reduceIte]
      | true =>
        rw [h2] at hp1 hp2
        obtain ⟨who, hwho, rfl⟩ := inR_some h2
        have g3 := M_isNN (l := l3)
        cases h3 : inN l3 with
        | false =>
          rw [h3] at g3
          refine same o ?_ ?_
          · simp (disch := omega) only [f_x_left, hg1, nlit, negone, bT0, bF0, hlo, hp1, C_isNN, h3, iN_inb, iN_ix, ltT, Option.bind_some, ↓reduceIte]
          · simp only [f_m_left, hg2, hL, hp2, nlit, negone, g3, bT0, bF0, Option.bind_some, ↓reduceIte]
        | true =>
          rw [h3] at g3
          obtain ⟨want, rfl, hwant⟩ := inN_some h3
          have hci := C_countIn hP hC.1.1 hC.2.2.1 hok.2.1.1
          have hle := osT_len (t := s.2.2.1) (P := s.1.1)
          have hsb : pe - iN (s.1.1 - (osT s.2.2.1 s.1.1).length) = iN (osT s.2.2.1 s.1.1).length := by rw [hC.1.1, iN_sub (by omega)]; congr 1; omega
          obtain ⟨o', hout⟩ := M_outs hP hM.1.1 hT hok.2.1.1 s.1.1 0 KF o (by omega) (kf_lt (by omega)) (Nat.zero_le 6) (fun k hk => absurd hk (Nat.not_lt_zero _))
          have eo : ∀ z, itr (un3 (fb_m_left_42 a d)) KF (iN (osT s.2.2.1 0).length, iN 0, o) = z → itr (un3 (fb_m_left_42 a d)) KF (iN 0, iN 0, o) = z := fun z h => h
          rcases hout with ⟨h6, e1, e2⟩ | ⟨h6, e1⟩
          · obtain ⟨m, k1, k2, k3, k4⟩ := C_outs hP hC.1.1 hC.2.2.1 hok.2.1.1
            obtain ⟨n1, z1, th1, y1, y2⟩ := C_copyTown (nm := tn) (sz := tz) (hp := th) hC.2.2.1 hok.2.1.1
            obtain ⟨n', s', h', v', st', f1⟩ := C_countFrom (g := g) (who := who) (want := want) hX hcx hg (show who < 8 by omega) hwant 6 9 m n1 z1 values stack th1 s.2.2.1 (by decide) k2 (by decide) k3 (by show (osM s.1.1 m).length ≤ 6; rw [k4]; exact h6) y2 hok.2.1.1
            have ch := chainL h6 (osT_asc (t := s.2.2.1) s.1.1)
            have cl := chainLen h6 (osT_asc (t := s.2.2.1) s.1.1)
            obtain ⟨d', mn, mv', mt, o2, w1, w2⟩ := M_orders (g := g) (who := who) (want := want) hX hmx (by omega) (show who < 8 by omega) hwant hok.2.1.1 h6 721 0 KF (iN 0) (osT s.2.2.1 s.1.1) d named truth o' mv rfl (fun y hy => by have := osT_lt hy; omega) cl (kf_lt (by decide)) (by decide) e2 hT
            rw [ch, Nat.zero_add] at w1
            have hL6 : lexL 6 (osM s.1.1 m) = lexL (osT s.2.2.1 s.1.1).length (osT s.2.2.1 s.1.1) := by rw [k4]; exact lexL_fuel _ _ _ h6 (Nat.le_refl _)
            have f1' : f_crw_countFrom (iN g) (iN who) (enO want) pe ga hr rl n1 z1 th1 (ruO s) lo bo values (cL (ruO s)) (lz (ruO s)) (tk (ruO s)) stack (kd (ruO s)) (to (ruO s)) (fr (ruO s)) (cd (ruO s)) (iN m) (iN 6) = some (iN (hitN (cxO s laws) g who want s.2.2.1 (lexL (osT s.2.2.1 s.1.1).length (osT s.2.2.1 s.1.1))), n', s', h', v', st') := by
              rw [← hL6]; exact f1
            refine ⟨iN (hitN (cxO s laws) g who want s.2.2.1 (lexL (osT s.2.2.1 s.1.1).length (osT s.2.2.1 s.1.1))), iN g, iN who, enO want, n', s', h', v', st', d', mn, mv', mt, o2, ?_, ?_, w2⟩
            · simp (disch := omega) only [f_x_left, f_crw_countOrders, hg1, nlit, negone, bT0, bF0, hlo, hp1, C_isNN, h3, hci, hsb, y1, un3, k1, f1', un6, un9, iN_inb, iN_ix, iN_lt, ltT, ltF, Option.bind_some, ↓reduceIte]
            · simp only [f_m_left, hg2, hL, hp2, nlit, negone, g3, bT0, bF0, eo _ e1, Sum.elim_inr, un2, w1, un7, f_m_tries, iN_mul, Nat.mul_zero, Option.bind_some, ↓reduceIte]
          · refine same o' ?_ ?_
            · simp (disch := omega) only [f_x_left, hg1, nlit, negone, bT0, bF0, hlo, hp1, C_isNN, h3, hci, hsb, iN_inb, iN_ix, iN_lt, ltT, Option.bind_some, ↓reduceIte]
            · simp only [f_m_left, hg2, hL, hp2, nlit, negone, g3, bT0, bF0, eo _ e1, Sum.elim_inl, Option.bind_some, ↓reduceIte]
end
