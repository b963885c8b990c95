/-! ===== PURE: fewest: the reference finds ===== -/
section
variable {x : Cx} {W : Nat → Option Nat} {set : Nat} {a texts d0 : Nat → Int32} {l1 l2 l3 : Int32}
theorem M_bf (hx : CxOK x) (hmx : MX a texts x) (hset : set < 256) (hbit : ∀ w, set.testBit w = true → w < x.1) (hgl : ∀ (d : Nat → Int32) (t : Tn), MT d 70 t → TW t → (∀ j, j < 70 → d j = d0 j) → f_m_isGoal (iN 70) a d l1 l2 l3 = some (b01 (asW W t))) : ∀ (f k n : Nat) (s : Sr) (t : T10), f + k = 3001 → f < n → SOK s → MS10 t s → D10 d0 t → ∃ e, itr (un11 (fb_m_findGoal_66 (iN 70) a texts l1 l2 l3 (iN set))) n (iN k, t) = some e ∧ EXm d0 (bfS x W set f k s) e := by
  have stop : ∀ (k n : Nat) (s : Sr) (t : T10), k ≤ 3001 → SOK s → MS10 t s → ¬ k < s.1.length → itr (un11 (fb_m_findGoal_66 (iN 70) a texts l1 l2 l3 (iN set))) (n + 1) (iN k, t) = some (.inr (.inr t)) := by
    intro k n s t hk hs h1 c
    obtain ⟨many, d, named, values, truth, states, cf, cb, chain, chains⟩ := t
    have hl := hs.1
    have h11 : many = iN s.1.length := h1.1
    have hlt : (iN k < many) = False := by rw [h11, iN_lt (by omega) (by omega)]; exact eq_false c
    refine itr_end ?_
    simp only [un11, fb_m_findGoal_66, hlt, ↓reduceIte]
  intro f
  induction f with
  | zero =>
    intro k n s t hf hn hs h1 h2
    obtain ⟨n, rfl⟩ : ∃ z, n = z + 1 := ⟨n - 1, by omega⟩
    have hl := hs.1
    exact ⟨.inr (.inr t), stop k n s t (by omega) hs h1 (by omega), t, rfl, h1, h2⟩
  | succ f ih =>
    intro k n s t hf hn hs h1 h2
    obtain ⟨n, rfl⟩ : ∃ z, n = z + 1 := ⟨n - 1, by omega⟩
    have hl := hs.1
    unfold bfS
    by_cases c : k < s.1.length
    · rw [if_pos c]
      have hk : s.1[k]? = some (s.1.getD k t00) := by rw [List.getD_eq_getElem?_getD, List.getElem?_eq_getElem c]; rfl
      have hu : TW (s.1.getD k t00) := hs.2.1 _ (List.mem_of_getElem? hk)
      generalize s.1.getD k t00 = u at hk hu
      have h11 : t.1 = iN s.1.length := h1.1
      obtain ⟨e, e1, e2⟩ := M_waysF (k := k) hx hmx hset hgl hu 24 0 KF s t (by omega) (kf_lt (by omega)) hs hk h1 h2
      rw [← List.range_eq_range', ← ws_24, wy_all hx hbit] at e2
      have hok := wy_gG (W := W) (set := set) hx hu hs c
      obtain ⟨many, d, named, values, truth, states, cf, cb, chain, chains⟩ := t
      have h11 : many = iN s.1.length := h11
      have hlt : (iN k < many) = True := by rw [h11, iN_lt (by omega) (by omega)]; exact eq_true c
      cases q : wyS x W set k u (wsG x.1 x.2.1) s with
      | inl s' =>
        rw [q] at e2 hok
        obtain ⟨t', rfl, f1, f2⟩ := e2
        have stp : un11 (fb_m_findGoal_66 (iN 70) a texts l1 l2 l3 (iN set)) (iN k, many, d, named, values, truth, states, cf, cb, chain, chains) = some (.inl (iN (k + 1), t')) := by
          simp only [un11, fb_m_findGoal_66, nlit, hlt, e1, Sum.elim_inr, un10, iN_add, Option.bind_some, ↓reduceIte]
        rw [itr_step stp]
        exact ih (k + 1) n s' t' (by omega) (by omega) hok.1 f1 f2
      | inr z =>
        obtain ⟨b, s'⟩ := z
        rw [q] at e2 hok
        cases b with
        | false =>
          obtain ⟨t', rfl, f2⟩ := e2
          refine ⟨.inl t', itr_end ?_, t', rfl, f2⟩
          simp only [un11, fb_m_findGoal_66, nlit, hlt, e1, Sum.elim_inl, un10, Option.bind_some, ↓reduceIte]
        | true =>
          obtain ⟨t', rfl, f1, f2⟩ := e2
          refine ⟨.inr (.inl t'), itr_end ?_, t', rfl, f1, f2⟩
          simp only [un11, fb_m_findGoal_66, nlit, hlt, e1, Sum.elim_inr, Sum.elim_inl, un10, Option.bind_some, ↓reduceIte]
    · rw [if_neg c]
      exact ⟨.inr (.inr t), stop k n s t (by omega) hs h1 c, t, rfl, h1, h2⟩
theorem M_fillCh {f : Nat → Int32} : ∃ g, itr (un2 fb_m_findGoal_3) KF (iN 0, f) = some g ∧ ∀ k, k < 4096 → g k = mI := by
  obtain ⟨e, e1, e2⟩ := itr_itF (f := un2 fb_m_findGoal_3) (α := Unit) (fun j s _ => ∃ g, s = (iN j, g) ∧ ∀ i, i < j → g i = mI) (fun e _ => ∀ i, i < 4096 → e i = mI) (fun _ u => u) (N := 4096) (fun j s _ hj hR => by
    obtain ⟨g, rfl, r1⟩ := hR
    refine ⟨(iN (j + 1), upd g j mI), ?_, _, rfl, fun i hi => ?_⟩
    · simp (disch := omega) only [un2, fb_m_findGoal_3, nlit, negone, bnd, iN_add, iN_lt, iN_inb, iN_ix, ltT, ↓reduceIte]
    · by_cases c : i = j
      · rw [c, upd_same]
      · rw [upd_ne (by omega)]; exact r1 i (by omega)) (fun s _ hR => by
    obtain ⟨g, rfl, r1⟩ := hR
    exact ⟨g, by simp (disch := omega) only [un2, fb_m_findGoal_3, nlit, iN_lt, ltF, ↓reduceIte], r1⟩) (s := (iN 0, f)) (a := ()) (n := KF) ⟨f, rfl, fun k hk => absurd hk (Nat.not_lt_zero _)⟩ (kf_lt (by omega))
  exact ⟨e, e1, e2⟩
theorem M_find (hx : CxOK x) (hmx : MX a texts x) (hset : set < 256) (hbit : ∀ w, set.testBit w = true → w < x.1) (hgl : ∀ (d : Nat → Int32) (t : Tn), MT d 70 t → TW t → (∀ j, j < 70 → d j = d0 j) → f_m_isGoal (iN 70) a d l1 l2 l3 = some (b01 (asW W t))) {t0 : Tn} (ht : TW t0) (hd : MT d0 0 t0) {d named truth states cf cb chain chains : Nat → Int32} {values : Nat → Int64} {b many : Int32} (hdd : ∀ j, j < 70 → d j = d0 j) : ∃ (t : T10), f_m_findGoal b many a d texts named values truth states cf cb chain chains l1 l2 l3 (iN set) = some (rOc (fnS x W set t0), iN 70, t) ∧ kOc (MS10 t) (fnS x W set t0) ∧ D10 d0 t := by
  obtain ⟨ch1, a1, a2⟩ := M_fillCh (f := chains)
  have hd' : MT d (35 * 0) t0 := MT.moved hd ht (fun k hk => by rw [Nat.mul_zero, Nat.zero_add]; exact hdd k (by omega))
  obtain ⟨d1, c1, c2, c3⟩ := M_copyT hd' ht (show 0 < 16 by decide) (show 2 < 16 by decide) (by decide)
  have c2 : MT d1 70 t0 := c2
  have hsm := M_sumOf c2 (by decide) ht
  have hD : ∀ j, j < 70 → d1 j = d0 j := fun j hj => (c3 j (Or.inl hj)).trans (hdd j hj)
  have hCH : CH chain ch1 [] := ⟨fun h hh => a2 h hh, fun i hi => absurd hi (Nat.not_lt_zero _)⟩
  have hSR : SR states [] := fun i t hi => by rw [List.getElem?_nil] at hi; cases hi
  obtain ⟨s', ch', cs', m1, m2, m3⟩ := M_addState (cf := cf) (cb := cb) c2 (by decide) ht hSR hCH (by decide) mI mI
  have m1' : f_m_addState (iN 70) 0 d1 states cf cb chain ch1 (iN (smS t0)) (-1) (-1) = some (iN 1, s', upd cf 0 mI, upd cb 0 mI, ch', cs') := m1
  have hgo := hgl d1 t0 c2 ht hD
  have hms : MS (iN 1) s' (upd cf 0 mI) (upd cb 0 mI) ch' cs' (s00 t0) := ⟨rfl, m2, m3, fun i h1 h2 => by have h2 : i < 1 := h2; omega⟩
  have htr : f_m_tries b 2 = some (iN 70) := rfl
  have a1' : itr (un2 fb_m_findGoal_3) KF (0, chains) = some ch1 := a1
  have c1' : f_m_copy d 0 2 = some d1 := c1
  unfold f_m_findGoal
  rw [a1', Option.bind_some, c1', Option.bind_some, htr, Option.bind_some, hsm, Option.bind_some, m1', Option.bind_some]
  simp only [un6]
  rw [hgo, Option.bind_some]
  cases c : asW W t0 with
  | true =>
    have hf : fnS x W set t0 = .inr (true, s00 t0) := by unfold fnS; rw [if_pos c]
    rw [hf]
    refine ⟨(iN 1, d1, named, values, truth, s', upd cf 0 mI, upd cb 0 mI, ch', cs'), ?_, hms, hD⟩
    simp only [nlit, bT0, ↓reduceIte]; rfl
  | false =>
    have hf : fnS x W set t0 = bfS x W set 3001 0 (s00 t0) := by unfold fnS; rw [if_neg (by rw [c]; decide)]
    rw [hf]
    obtain ⟨e, e1, e2⟩ := M_bf (set := set) hx hmx hset hbit hgl 3001 0 KF (s00 t0) (iN 1, d1, named, values, truth, s', upd cf 0 mI, upd cb 0 mI, ch', cs') rfl (kf_lt (by decide)) (s00_ok ht) hms hD
    have hok := bf_ok (W := W) (set := set) hx 3001 0 (s00 t0) (s00_ok ht)
    cases q : bfS x W set 3001 0 (s00 t0) with
    | inl s2 =>
      rw [q] at e2
      obtain ⟨t, rfl, f1, f2⟩ := e2
      refine ⟨t, ?_, f1, f2⟩
      simp only [nlit, bF0, e1, Sum.elim_inr, Option.bind_some, ↓reduceIte]; rfl
    | inr z =>
      obtain ⟨b, s2⟩ := z
      rw [q] at e2 hok
      cases b with
      | false =>
        obtain ⟨t, rfl, f2⟩ := e2
        refine ⟨t, ?_, trivial, f2⟩
        simp only [nlit, bF0, e1, Sum.elim_inl, Option.bind_some, ↓reduceIte]; rfl
      | true =>
        obtain ⟨t, rfl, f1, f2⟩ := e2
        refine ⟨t, ?_, f1, f2⟩
        have h0 := hok.2 rfl
        have f10 : t.1 = iN s2.1.length := f1.1
        have hsub : iN s2.1.length - iN 1 = iN (s2.1.length - 1) := iN_sub (by omega)
        simp only [nlit, bF0, e1, Sum.elim_inr, Sum.elim_inl, un10, f10, hsub, Option.bind_some, ↓reduceIte]
        show some (iN (s2.1.length - 1), iN 70, iN s2.1.length, t.2) = some (iN (s2.1.length - 1), iN 70, t)
        rw [← f10]
end
