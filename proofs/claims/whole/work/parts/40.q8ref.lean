/-! ===== PURE: text: the reference's pile and code ===== -/
def MC (tx : Nat → Int32) (T : Nat) (cr : List (Nat × Nat)) : Prop := ∀ (j : Nat) (o : Nat × Nat), cr[j]? = some o → tx (680 * T + 70 + 2 * j) = iN o.1 ∧ tx (680 * T + 70 + 2 * j + 1) = iN o.2
def TX (tx0 tx : Nat → Int32) (T : Nat) : Prop := ∀ j, j < 680 * T + 70 ∨ 680 * T + 680 ≤ j → tx j = tx0 j
def PL (pile : Nat → Int32) : List Nat → Prop
  | [] => True
  | v :: K => pile K.length = iN v ∧ PL pile K
theorem get_snocG {α : Type} {L : List α} {S T : α} {i : Nat} (h : (L ++ [S])[i]? = some T) : L[i]? = some T ∨ (i = L.length ∧ T = S) := by
  by_cases c : i < L.length
  · rw [List.getElem?_append_left c] at h; exact Or.inl h
  · rw [List.getElem?_append_right (by omega)] at h
    by_cases e : i = L.length
    · subst e
      rw [Nat.sub_self] at h
      exact Or.inr ⟨rfl, (Option.some.inj h).symm⟩
    · have : ([S] : List α)[i - L.length]? = none := List.getElem?_eq_none_iff.mpr (by show 1 ≤ _; omega)
      rw [this] at h; cases h
section
variable {tx0 tx pile : Nat → Int32} {T : Nat} {cr : List (Nat × Nat)} {K K0 : List Nat}
theorem M_emit (hT : T < 4) (h : MC tx T cr) (ht : TX tx0 tx T) (hl : cr.length < 300) (o v : Nat) : ∃ tx', f_m_emit (iN (680 * T)) (iN cr.length) tx (iN o) (iN v) = some (iN (cr.length + 1), tx') ∧ MC tx' T (cr ++ [(o, v)]) ∧ TX tx0 tx' T := by
  refine ⟨upd (upd tx (680 * T + 70 + 2 * cr.length) (iN o)) (680 * T + 70 + 2 * cr.length + 1) (iN v), ?_, fun j q hq => ?_, fun j hj => ?_⟩
  · simp (disch := omega) only [f_m_emit, nlit, bnd, iN_add, iN_mul, iN_inb, iN_ix, ltT, ↓reduceIte]
  · rcases get_snocG hq with w | ⟨w1, w2⟩
    · have hj : j < cr.length := (List.getElem?_eq_some_iff.mp w).1
      rw [upd_ne (by omega), upd_ne (by omega), upd_ne (by omega), upd_ne (by omega)]
      exact h j q w
    · rw [w1, w2, upd_ne (by omega), upd_same, upd_same]; exact ⟨rfl, rfl⟩
  · rw [upd_ne (by omega), upd_ne (by omega)]; exact ht j hj
theorem PL.upd : ∀ {K : List Nat} {j : Nat} {x : Int32}, PL pile K → K.length ≤ j → PL (upd pile j x) K
  | [], _, _, _, _ => trivial
  | v :: K, j, x, h, hj => by
    rw [List.length_cons] at hj
    exact ⟨by rw [upd_ne (by omega)]; exact h.1, PL.upd h.2 (by omega)⟩
theorem M_push (h : PL pile K) (hl : K.length < 160) (v : Nat) : f_m_push (iN K.length) pile (iN v) = some (iN (K.length + 1), upd pile K.length (iN v)) ∧ PL (upd pile K.length (iN v)) (v :: K) := by
  refine ⟨?_, upd_same, h.upd (Nat.le_refl _)⟩
  simp (disch := omega) only [f_m_push, nlit, bnd, iN_add, iN_inb, iN_ix, ltT, ↓reduceIte]
theorem PL.app : ∀ {A : List Nat}, PL pile (A ++ K) → PL pile K
  | [], h => h
  | _ :: _, h => PL.app h.2
theorem rep_snoc {α : Type} (q : Nat) (x : α) (l : List α) : l ++ [x] ++ List.replicate q x = l ++ List.replicate (q + 1) x := by
  rw [List.replicate_succ, List.append_assoc]; rfl
theorem M_wholeLoop (hT : T < 4) (hh : ∀ v, K0.head? = some v → v ≠ 2) (hv : ∀ v ∈ K0, v < 100) : ∀ (q z o : Nat) (cr : List (Nat × Nat)) (tx : Nat → Int32), q < z → q ≤ o → o < 100 → cr.length + q ≤ 300 → (List.replicate q 2 ++ K0).length ≤ 160 → MC tx T cr → TX tx0 tx T → PL pile (List.replicate q 2 ++ K0) → ∃ tx', itr (un4 (fb_m_whole_5 (iN (680 * T)) pile)) z (iN cr.length, iN (List.replicate q 2 ++ K0).length, iN o, tx) = some (iN (cr.length + q), iN K0.length, iN (o - q), tx') ∧ MC tx' T (cr ++ List.replicate q (2, 0)) ∧ TX tx0 tx' T
  | 0, z, o, cr, tx, hz, ho, ho2, hl, hk, h, ht, hp => by
    obtain ⟨z, rfl⟩ : ∃ y, z = y + 1 := ⟨z - 1, by omega⟩
    refine ⟨tx, itr_end ?_, by rw [List.replicate_zero, List.append_nil]; exact h, ht⟩
    rw [List.replicate_zero, List.nil_append] at hk hp ⊢
    cases K0 with
    | nil =>
      have h0 : (iN 0 < iN 0) = False := eq_false (by decide)
      simp only [un4, fb_m_whole_5, nlit, List.length_nil, h0, ↓reduceIte]; rfl
    | cons v K =>
      rw [List.length_cons] at hk ⊢
      have hv2 := hv v List.mem_cons_self
      have hne := hh v rfl
      have h0 : (iN 0 < iN (K.length + 1)) = True := by rw [iN_lt (by omega) (by omega)]; exact eq_true (by omega)
      have h1 : iN (K.length + 1) - iN 1 = iN K.length := by rw [iN_sub (by omega)]; congr 1
      have h2 : inb (iN K.length) 160 = True := by rw [iN_inb (by omega)]; exact eq_true (by omega)
      have h3 : ix (iN K.length) = K.length := iN_ix (by omega)
      have h4 : (iN v = iN 2) = False := by rw [iN_eq (by omega) (by omega)]; exact eq_false hne
      simp only [un4, fb_m_whole_5, nlit, h0, h1, h2, h3, hp.1, h4, ↓reduceIte]; rfl
  | q + 1, z, o, cr, tx, hz, ho, ho2, hl, hk, h, ht, hp => by
    obtain ⟨z, rfl⟩ : ∃ y, z = y + 1 := ⟨z - 1, by omega⟩
    rw [List.replicate_succ, List.cons_append] at hk hp ⊢
    rw [List.length_cons] at hk ⊢
    have h0 : (iN 0 < iN ((List.replicate q 2 ++ K0).length + 1)) = True := by rw [iN_lt (by omega) (by omega)]; exact eq_true (by omega)
    have h1 : iN ((List.replicate q 2 ++ K0).length + 1) - iN 1 = iN (List.replicate q 2 ++ K0).length := by rw [iN_sub (by omega)]; congr 1
    have h2 : inb (iN (List.replicate q 2 ++ K0).length) 160 = True := by rw [iN_inb (by omega)]; exact eq_true (by omega)
    have h3 : ix (iN (List.replicate q 2 ++ K0).length) = (List.replicate q 2 ++ K0).length := iN_ix (by omega)
    obtain ⟨tx1, e1, e2, e3⟩ := M_emit hT h ht (show cr.length < 300 by omega) 2 0
    have ho1 : iN o - iN 1 = iN (o - 1) := iN_sub (by omega)
    have hlen : (cr ++ [(2, 0)]).length = cr.length + 1 := by rw [List.length_append]; rfl
    obtain ⟨tx2, w1, w2, w3⟩ := M_wholeLoop hT hh hv q z (o - 1) (cr ++ [(2, 0)]) tx1 (by omega) (by omega) (by omega) (by omega) (by omega) e2 e3 hp.2
    rw [hlen] at w1
    refine ⟨tx2, ?_, by rw [← rep_snoc]; exact w2, w3⟩
    rw [show cr.length + (q + 1) = cr.length + 1 + q by omega, show o - (q + 1) = o - 1 - q by omega, ← w1]
    refine itr_step ?_
    simp only [un4, fb_m_whole_5, nlit, h0, h1, h2, h3, hp.1, e1, un2, ho1, Option.bind_some, ↓reduceIte]
theorem M_whole (hT : T < 4) (hh : ∀ v, K0.head? = some v → v ≠ 2) (hv : ∀ v ∈ K0, v < 100) {q o : Nat} {wh : Int32} (ho : q ≤ o) (ho2 : o < 100) (hl : cr.length + q ≤ 300) (hk : (List.replicate q 2 ++ K0).length ≤ 160) (h : MC tx T cr) (ht : TX tx0 tx T) (hp : PL pile (List.replicate q 2 ++ K0)) : ∃ tx', f_m_whole (iN (680 * T)) (iN cr.length) (iN (List.replicate q 2 ++ K0).length) (iN o) wh tx pile = some (iN (cr.length + q), iN K0.length, iN (o - q), iN 1, tx') ∧ MC tx' T (cr ++ List.replicate q (2, 0)) ∧ TX tx0 tx' T := by
  obtain ⟨tx', w1, w2, w3⟩ := M_wholeLoop hT hh hv q KF o cr tx (kf_lt (by omega)) ho ho2 hl hk h ht hp
  refine ⟨tx', ?_, w2, w3⟩
  simp only [f_m_whole, nlit, w1, un4, Option.bind_some]
theorem M_settleLoop (hT : T < 4) {least : Nat} (hle : least < 100) (hh : ∀ v, K0.head? = some v → ¬ (least ≤ v ∧ v < 40)) (hv : ∀ v ∈ K0, v < 100) : ∀ (A : List Nat) (z : Nat) (cr : List (Nat × Nat)) (tx : Nat → Int32), A.length < z → cr.length + A.length ≤ 300 → (A ++ K0).length ≤ 160 → (∀ v ∈ A, least ≤ v ∧ v < 40) → MC tx T cr → TX tx0 tx T → PL pile (A ++ K0) → ∃ tx', itr (un3 (fb_m_settle_0 (iN (680 * T)) pile (iN least))) z (iN cr.length, iN (A ++ K0).length, tx) = some (iN (cr.length + A.length), iN K0.length, tx') ∧ MC tx' T (cr ++ A.map (fun v => (v, 0))) ∧ TX tx0 tx' T
  | [], z, cr, tx, hz, hl, hk, hA, h, ht, hp => by
    obtain ⟨z, rfl⟩ : ∃ y, z = y + 1 := ⟨z - 1, by omega⟩
    refine ⟨tx, itr_end ?_, by rw [List.map_nil, List.append_nil]; exact h, ht⟩
    rw [List.nil_append] at hk hp ⊢
    cases K0 with
    | nil =>
      have h0 : (iN 0 < iN 0) = False := eq_false (by decide)
      simp only [un3, fb_m_settle_0, nlit, List.length_nil, h0, ↓reduceIte]; rfl
    | cons v K =>
      rw [List.length_cons] at hk ⊢
      have hv2 := hv v List.mem_cons_self
      have hne := hh v rfl
      have h0 : (iN 0 < iN (K.length + 1)) = True := by rw [iN_lt (by omega) (by omega)]; exact eq_true (by omega)
      have h1 : iN (K.length + 1) - iN 1 = iN K.length := by rw [iN_sub (by omega)]; congr 1
      have h2 : inb (iN K.length) 160 = True := by rw [iN_inb (by omega)]; exact eq_true (by omega)
      have h3 : ix (iN K.length) = K.length := iN_ix (by omega)
      by_cases c : v < 40
      · have h4 : (iN v < iN 40) = True := by rw [iN_lt (by omega) (by omega)]; exact eq_true c
        have h5 : (iN v < iN least) = True := by rw [iN_lt (by omega) (by omega)]; exact eq_true (by omega)
        simp only [un3, fb_m_settle_0, nlit, h0, h1, h2, h3, hp.1, h4, h5, ↓reduceIte]; rfl
      · have h4 : (iN v < iN 40) = False := by rw [iN_lt (by omega) (by omega)]; exact eq_false c
        simp only [un3, fb_m_settle_0, nlit, h0, h1, h2, h3, hp.1, h4, ↓reduceIte]; rfl
  | v :: A, z, cr, tx, hz, hl, hk, hA, h, ht, hp => by
    rw [List.length_cons] at hz hl
    obtain ⟨z, rfl⟩ : ∃ y, z = y + 1 := ⟨z - 1, by omega⟩
    rw [List.cons_append] at hk hp ⊢
    rw [List.length_cons] at hk ⊢
    obtain ⟨a1, a2⟩ := hA v List.mem_cons_self
    have h0 : (iN 0 < iN ((A ++ K0).length + 1)) = True := by rw [iN_lt (by omega) (by omega)]; exact eq_true (by omega)
    have h1 : iN ((A ++ K0).length + 1) - iN 1 = iN (A ++ K0).length := by rw [iN_sub (by omega)]; congr 1
    have h2 : inb (iN (A ++ K0).length) 160 = True := by rw [iN_inb (by omega)]; exact eq_true (by omega)
    have h3 : ix (iN (A ++ K0).length) = (A ++ K0).length := iN_ix (by omega)
    have h4 : (iN v < iN 40) = True := by rw [iN_lt (by omega) (by omega)]; exact eq_true a2
    have h5 : (iN v < iN least) = False := by rw [iN_lt (by omega) (by omega)]; exact eq_false (by omega)
    obtain ⟨tx1, e1, e2, e3⟩ := M_emit hT h ht (show cr.length < 300 by omega) v 0
    have hlen : (cr ++ [(v, 0)]).length = cr.length + 1 := by rw [List.length_append]; rfl
    obtain ⟨tx2, w1, w2, w3⟩ := M_settleLoop hT hle hh hv A z (cr ++ [(v, 0)]) tx1 (by omega) (by omega) (by omega) (fun u hu => hA u (List.mem_cons_of_mem _ hu)) e2 e3 hp.2
    rw [hlen] at w1
    refine ⟨tx2, ?_, by rw [List.map_cons]; rw [List.append_assoc] at w2; exact w2, w3⟩
    rw [List.length_cons, show cr.length + (A.length + 1) = cr.length + 1 + A.length by omega, ← w1]
    refine itr_step ?_
    simp only [un3, fb_m_settle_0, nlit, h0, h1, h2, h3, hp.1, h4, h5, e1, un2, Option.bind_some, ↓reduceIte]
theorem M_settle (hT : T < 4) {least : Nat} (hle : least < 100) (hh : ∀ v, K0.head? = some v → ¬ (least ≤ v ∧ v < 40)) (hv : ∀ v ∈ K0, v < 100) {A : List Nat} (hl : cr.length + A.length ≤ 300) (hk : (A ++ K0).length ≤ 160) (hA : ∀ v ∈ A, least ≤ v ∧ v < 40) (h : MC tx T cr) (ht : TX tx0 tx T) (hp : PL pile (A ++ K0)) : ∃ tx', f_m_settle (iN (680 * T)) (iN cr.length) (iN (A ++ K0).length) tx pile (iN least) = some (iN (cr.length + A.length), iN K0.length, tx') ∧ MC tx' T (cr ++ A.map (fun v => (v, 0))) ∧ TX tx0 tx' T := by
  obtain ⟨tx', w1, w2, w3⟩ := M_settleLoop hT hle hh hv A KF cr tx (kf_lt (by omega)) hl hk hA h ht hp
  refine ⟨tx', ?_, w2, w3⟩
  simp only [f_m_settle, w1, un3, Option.bind_some]
theorem PL.get : ∀ {K : List Nat}, PL pile K → ∀ j, j < K.length → ∃ v, v ∈ K ∧ pile j = iN v
  | [], _, j, hj => absurd hj (Nat.not_lt_zero _)
  | v :: K, h, j, hj => by
    rw [List.length_cons] at hj
    by_cases c : j = K.length
    · exact ⟨v, List.mem_cons_self, by rw [c]; exact h.1⟩
    · obtain ⟨u, h1, h2⟩ := PL.get h.2 j (by omega)
      exact ⟨u, List.mem_cons_of_mem _ h1, h2⟩
theorem PL.has : ∀ {K : List Nat}, PL pile K → ∀ v, v ∈ K → ∃ j, j < K.length ∧ pile j = iN v
  | [], _, v, hv => absurd hv List.not_mem_nil
  | u :: K, h, v, hv => by
    rcases List.mem_cons.mp hv with rfl | q
    · exact ⟨K.length, by rw [List.length_cons]; omega, h.1⟩
    · obtain ⟨j, h1, h2⟩ := PL.has h.2 v q
      exact ⟨j, by rw [List.length_cons]; omega, h2⟩
theorem M_hasParen (h : PL pile K) (hk : K.length ≤ 160) (hv : ∀ v ∈ K, v < 100) : f_m_hasParen (iN K.length) pile = some (b01 (decide (40 ∈ K))) := by
  have key : ∀ m j z, j + m = K.length → m < z → (∀ i, i < j → pile i ≠ iN 40) → (itr (fb_m_hasParen_2 (iN K.length) pile) z (iN j) = some (.inl ()) ∧ 40 ∈ K) ∨ (itr (fb_m_hasParen_2 (iN K.length) pile) z (iN j) = some (.inr ()) ∧ 40 ∉ K) := by
    intro m
    induction m with
    | zero =>
      intro j z hj hz hno
      obtain ⟨z, rfl⟩ : ∃ y, z = y + 1 := ⟨z - 1, by omega⟩
      refine Or.inr ⟨itr_end ?_, fun q => ?_⟩
      · simp (disch := omega) only [fb_m_hasParen_2, iN_lt, ltF, ↓reduceIte]
      · obtain ⟨i, h1, h2⟩ := h.has 40 q
        exact hno i (by omega) h2
    | succ m ih =>
      intro j z hj hz hno
      obtain ⟨z, rfl⟩ : ∃ y, z = y + 1 := ⟨z - 1, by omega⟩
      obtain ⟨v, h1, h2⟩ := h.get j (by omega)
      have hv' := hv v h1
      by_cases c : v = 40
      · refine Or.inl ⟨itr_end ?_, c ▸ h1⟩
        have h3 : (iN v = iN 40) = True := eq_true (by rw [c])
        simp (disch := omega) only [fb_m_hasParen_2, nlit, h2, h3, iN_lt, iN_inb, iN_ix, ltT, ↓reduceIte]
      · have h3 : (iN v = iN 40) = False := by rw [iN_eq (by omega) (by omega)]; exact eq_false c
        have st : fb_m_hasParen_2 (iN K.length) pile (iN j) = some (.inl (iN (j + 1))) := by
          simp (disch := omega) only [fb_m_hasParen_2, nlit, h2, h3, iN_add, iN_lt, iN_inb, iN_ix, ltT, ↓reduceIte]
        rw [itr_step st]
        refine ih (j + 1) z (by omega) (by omega) (fun i hi => ?_)
        by_cases e : i = j
        · rw [e, h2]; exact of_eq_false h3
        · exact hno i (by omega)
  rcases key K.length 0 KF (by omega) (kf_lt (by omega)) (fun i hi => absurd hi (Nat.not_lt_zero _)) with ⟨a, b⟩ | ⟨a, b⟩
  · rw [decide_eq_true b]
    simp only [f_m_hasParen, nlit, a, Sum.elim_inl, Option.bind_some]; rfl
  · rw [decide_eq_false b]
    simp only [f_m_hasParen, nlit, a, Sum.elim_inr, Option.bind_some]; rfl
theorem M_goesOn {kd nu : Nat} {tk nb : Int32} {wd : Int64} (hm : MK kd nu tk nb wd) (h : PL pile K) (hk : K.length ≤ 160) (hv : ∀ v ∈ K, v < 100) : f_m_goesOn tk (iN K.length) pile = some (b01 (decide ((7 ≤ kd ∧ kd ≤ 11) ∨ (kd = 13 ∧ 40 ∈ K)))) := by
  have hp := M_hasParen h hk hv
  by_cases c : 7 ≤ kd ∧ kd ≤ 11
  · rw [decide_eq_true (Or.inl c)]
    have : kd = 7 ∨ kd = 8 ∨ kd = 9 ∨ kd = 10 ∨ kd = 11 := by omega
    simp only [f_m_goesOn, nlit, hm.t43, hm.t45, hm.t42, hm.t47, hm.t37]
    rcases this with e | e | e | e | e <;> simp only [e, ↓reduceIte] <;> rfl
  · have e1 : (tk = iN 43) = False := hm.t43.trans (eq_false (by omega))
    have e2 : (tk = iN 45) = False := hm.t45.trans (eq_false (by omega))
    have e3 : (tk = iN 42) = False := hm.t42.trans (eq_false (by omega))
    have e4 : (tk = iN 47) = False := hm.t47.trans (eq_false (by omega))
    have e5 : (tk = iN 37) = False := hm.t37.trans (eq_false (by omega))
    by_cases c2 : kd = 13
    · have e6 : (tk = iN 41) = True := hm.t41.trans (eq_true c2)
      by_cases c3 : 40 ∈ K
      · rw [decide_eq_true c3] at hp
        rw [decide_eq_true (Or.inr ⟨c2, c3⟩)]
        simp only [f_m_goesOn, nlit, e1, e2, e3, e4, e5, e6, hp, bT0, Option.bind_some, ↓reduceIte]; rfl
      · rw [decide_eq_false c3] at hp
        rw [decide_eq_false (fun q => q.elim c (fun w => c3 w.2))]
        simp only [f_m_goesOn, nlit, e1, e2, e3, e4, e5, e6, hp, bF0, Option.bind_some, ↓reduceIte]; rfl
    · have e6 : (tk = iN 41) = False := hm.t41.trans (eq_false c2)
      rw [decide_eq_false (fun q => q.elim c (fun w => c2 w.1))]
      simp only [f_m_goesOn, nlit, e1, e2, e3, e4, e5, e6, ↓reduceIte]; rfl
end
