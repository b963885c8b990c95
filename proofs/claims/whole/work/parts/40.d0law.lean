/-! ===== PURE: a law: (sort, code, who, gate) a clause; sort 0 take, 1 fee, 2 bars, 3 go ===== -/
abbrev Cl : Type := Nat × List (Nat × Nat) × Nat × Nat
abbrev Lw : Type := List Cl
def alT (v : Nat) : Bool := decide (v < 7)
def alG (v : Nat) : Bool := decide (v ≠ 0 ∧ v ≠ 2)
def LWc (c : Cl) : Prop := c.1 ≤ 3 ∧ (c.1 = 0 → tyR alT c.2.1 0 0 = some (0, 1)) ∧ (c.1 = 1 → tyR alG c.2.1 0 0 = some (0, 1)) ∧ (c.1 = 2 → tyR alG c.2.1 0 0 = some (1, 0)) ∧ (c.1 = 3 → c.2.2.1 < 8 ∧ c.2.2.2 < 3)
def LW (lw : Lw) : Prop := lw.length ≤ 20 ∧ ∀ c ∈ lw, LWc c
/-- the class's law -/
def CL (cL sz tk fe : Int32) (cd kd fr to : Nat → Int32) (lw : Lw) : Prop := sz = iN lw.length ∧ tk = enO (lw.findIdx? (fun c => c.1 == 0)) ∧ fe = enO (lw.findIdx? (fun c => c.1 == 1)) ∧ ∃ L, L ≤ 300 ∧ cL = iN L ∧ ∀ (i : Nat) (c : Cl), lw[i]? = some c → kd i = iN (20 + c.1) ∧ (c.1 ≠ 3 → ∃ s, fr i = iN s ∧ to i = iN (s + c.2.1.length) ∧ s + c.2.1.length ≤ L ∧ ∀ (j : Nat) (o : Nat × Nat), c.2.1[j]? = some o → cd (s + j) = iN (cE o)) ∧ (c.1 = 3 → fr i = iN c.2.2.1 ∧ to i = iN c.2.2.2)
/-- the reference's law, the T-th text -/
def ML (texts : Nat → Int32) (T : Nat) (lw : Lw) : Prop := texts (680 * T) = iN lw.length ∧ ∀ (i : Nat) (c : Cl), lw[i]? = some c → texts (680 * T + 1 + 3 * i) = iN c.1 ∧ (c.1 ≠ 3 → ∃ s, texts (680 * T + 1 + 3 * i + 1) = iN s ∧ texts (680 * T + 1 + 3 * i + 2) = iN (s + c.2.1.length) ∧ s + c.2.1.length ≤ 300 ∧ ∀ (j : Nat) (o : Nat × Nat), c.2.1[j]? = some o → texts (680 * T + 70 + 2 * (s + j)) = iN o.1 ∧ texts (680 * T + 70 + 2 * (s + j) + 1) = iN o.2) ∧ (c.1 = 3 → texts (680 * T + 1 + 3 * i + 1) = iN c.2.2.1 ∧ texts (680 * T + 1 + 3 * i + 2) = iN c.2.2.2)
def sumS (env : Nat → Int) (ops : List (Nat × Nat)) : Int := (evR env ops [] []).2.headD 0
def trS (env : Nat → Int) (ops : List (Nat × Nat)) : Bool := (evR env ops [] []).1.headD false
theorem evR_ok {al : Nat → Bool} {env : Nat → Int} (hb : ∀ v, v < 8 → al v = true → -1000000 ≤ env v ∧ env v ≤ 1000000) : ∀ (ops : List (Nat × Nat)) (ts : List Bool) (vs : List Int) (q : Nat × Nat), tyR al ops ts.length vs.length = some q → bdd vs → bdd (evR env ops ts vs).2 ∧ (evR env ops ts vs).1.length = q.1 ∧ (evR env ops ts vs).2.length = q.2
  | [], ts, vs, q, h, hbd => by
    have hq : (ts.length, vs.length) = q := Option.some.inj h
    subst hq
    exact ⟨hbd, rfl, rfl⟩
  | o :: ops, ts, vs, q, h, hbd => by
    unfold tyR at h
    cases hty : tyS al o ts.length vs.length with
    | none => rw [hty] at h; cases h
    | some q1 =>
      rw [hty, Option.bind_some] at h
      obtain ⟨hb1, hb2, hb3⟩ := evS_ok (env := env) hty hb hbd
      rw [← hb2, ← hb3] at h
      exact evR_ok hb ops _ _ q h hb1
theorem evR_len {al : Nat → Bool} {env : Nat → Int} {ops : List (Nat × Nat)} {q : Nat × Nat} (h : tyR al ops 0 0 = some q) (hb : ∀ v, v < 8 → al v = true → -1000000 ≤ env v ∧ env v ≤ 1000000) : (evR env ops [] []).1.length = q.1 ∧ (evR env ops [] []).2.length = q.2 := (evR_ok hb ops [] [] q h (fun x hx => absurd hx List.not_mem_nil)).2
theorem sumS_b {al : Nat → Bool} {env : Nat → Int} {ops : List (Nat × Nat)} (h : tyR al ops 0 0 = some (0, 1)) (hb : ∀ v, v < 8 → al v = true → -1000000 ≤ env v ∧ env v ≤ 1000000) : -1000000 ≤ sumS env ops ∧ sumS env ops ≤ 1000000 := by
  obtain ⟨h1, -, h3⟩ := evR_ok hb ops [] [] (0, 1) h (fun x hx => absurd hx List.not_mem_nil)
  unfold sumS
  obtain ⟨x, hx⟩ := List.length_eq_one_iff.mp h3
  rw [hx] at h1 ⊢
  exact h1 x List.mem_cons_self
theorem M_work {al : Nat → Bool} {a texts named truth : Nat → Int32} {values : Nat → Int64} {env : Nat → Int} {T i : Nat} {lw : Lw} {c : Cl} {q : Nat × Nat} (ha : a 4 = iN T) (hT : T < 4) (hm : ML texts T lw) (hw : lw.length ≤ 20) (hi : lw[i]? = some c) (hc : c.1 ≠ 3) (hty : tyR al c.2.1 0 0 = some q) (hn : ∀ v, v < 8 → al v = true → named v = zI (env v)) (hb : ∀ v, v < 8 → al v = true → -1000000 ≤ env v ∧ env v ≤ 1000000) :
    ∃ values' truth', f_m_work a texts named values truth (iN i) = some (values', truth') ∧ agV values' (evR env c.2.1 [] []).2 ∧ agB truth' (evR env c.2.1 [] []).1 ∧ bdd (evR env c.2.1 [] []).2 ∧ (evR env c.2.1 [] []).1.length = q.1 ∧ (evR env c.2.1 [] []).2.length = q.2 := by
  have hi' : i < lw.length := (List.getElem?_eq_some_iff.mp hi).1
  obtain ⟨h1, h2, -⟩ := hm.2 i c hi
  obtain ⟨s, h3, h4, h5, h6⟩ := h2 hc
  obtain ⟨v', t', g1, g2⟩ := M_loop (al := al) (texts := texts) (named := named) (env := env) (X := 680 * T + 1 + 3 * i) (K := 680 * T + 70) (e := s + c.2.1.length) (by omega) (by omega) h4 (by omega) hn hb c.2.1 s KF [] [] values truth q rfl h6 hty (by decide) trivial trivial (fun x hx => absurd hx List.not_mem_nil) (kf_lt (by omega))
  refine ⟨v', t', ?_, g2⟩
  have g1' : itr (un5 (fb_m_work_47 texts named (iN (680 * T + 1 + 3 * i)) (iN (680 * T + 70)))) KF (iN 0, iN 0, iN s, values, truth) = some (v', t') := g1
  simp (disch := omega) only [f_m_work, ha, nlit, onl, negone, iN_add, iN_mul, iN_sub, iN_pm, iN_addneg, iN_ix, iN_inb, iN_lt, iN_eq, iN_nneg, iN_nm, nm_iN, mI_neg, mI_nnn, ne_eq, not_true_eq_false, not_false_eq_true, true_and, and_true, bnd, Option.bind_some, ↓reduceIte, ltT, ltF, eqT, eqF, leT, leF, h3, g1', un2]
theorem M_sum {al : Nat → Bool} {a texts named truth : Nat → Int32} {values : Nat → Int64} {env : Nat → Int} {T i : Nat} {lw : Lw} {c : Cl} (ha : a 4 = iN T) (hT : T < 4) (hm : ML texts T lw) (hw : lw.length ≤ 20) (hi : lw[i]? = some c) (hc : c.1 ≠ 3) (hty : tyR al c.2.1 0 0 = some (0, 1)) (hn : ∀ v, v < 8 → al v = true → named v = zI (env v)) (hb : ∀ v, v < 8 → al v = true → -1000000 ≤ env v ∧ env v ≤ 1000000) :
    ∃ values' truth', f_m_work a texts named values truth (iN i) = some (values', truth') ∧ values' 0 = wI (sumS env c.2.1) ∧ -1000000 ≤ sumS env c.2.1 ∧ sumS env c.2.1 ≤ 1000000 := by
  obtain ⟨v', t', g1, g2, -, g4, -, g6⟩ := M_work (values := values) (truth := truth) ha hT hm hw hi hc hty hn hb
  refine ⟨v', t', g1, ?_⟩
  unfold sumS
  obtain ⟨x, hx⟩ := List.length_eq_one_iff.mp g6
  rw [hx] at g2 g4 ⊢
  exact ⟨g2.1, g4 x List.mem_cons_self⟩
theorem M_truth {al : Nat → Bool} {a texts named truth : Nat → Int32} {values : Nat → Int64} {env : Nat → Int} {T i : Nat} {lw : Lw} {c : Cl} (ha : a 4 = iN T) (hT : T < 4) (hm : ML texts T lw) (hw : lw.length ≤ 20) (hi : lw[i]? = some c) (hc : c.1 ≠ 3) (hty : tyR al c.2.1 0 0 = some (1, 0)) (hn : ∀ v, v < 8 → al v = true → named v = zI (env v)) (hb : ∀ v, v < 8 → al v = true → -1000000 ≤ env v ∧ env v ≤ 1000000) :
    ∃ values' truth', f_m_work a texts named values truth (iN i) = some (values', truth') ∧ truth' 0 = b01 (trS env c.2.1) := by
  obtain ⟨v', t', g1, -, g3, -, g5, -⟩ := M_work (values := values) (truth := truth) ha hT hm hw hi hc hty hn hb
  refine ⟨v', t', g1, ?_⟩
  unfold trS
  match hq : (evR env c.2.1 [] []).1, g3, g5 with
  | [x], g3, _ => exact g3.1
section
variable {cL sz tk fe : Int32} {cd kd fr to : Nat → Int32} {lw : Lw}
theorem CL.size (h : CL cL sz tk fe cd kd fr to lw) : sz = iN lw.length := h.1
theorem CL.kindOf (h : CL cL sz tk fe cd kd fr to lw) (hw : lw.length ≤ 20) {i : Nat} {c : Cl} (hi : lw[i]? = some c) : f_law_kindOf sz kd (iN i) = some (iN (20 + c.1)) := by
  have hi' : i < lw.length := (List.getElem?_eq_some_iff.mp hi).1
  obtain ⟨rfl, -, -, L, hL, rfl, h5⟩ := h
  simp (disch := omega) only [f_law_kindOf, nlit, onl, negone, iN_add, iN_mul, iN_sub, iN_pm, iN_addneg, iN_ix, iN_inb, iN_lt, iN_eq, iN_nneg, iN_nm, nm_iN, mI_neg, mI_nnn, ne_eq, not_true_eq_false, not_false_eq_true, true_and, and_true, bnd, Option.bind_some, ↓reduceIte, ltT, ltF, eqT, eqF, leT, leF, (h5 i c hi).1]
theorem C_work (h : CL cL sz tk fe cd kd fr to lw) {al : Nat → Bool} {values stack : Nat → Int32} {env : Nat → Int} {i : Nat} {c : Cl} {q : Nat × Nat} (hw : lw.length ≤ 20) (hi : lw[i]? = some c) (hc : c.1 ≠ 3) (hty : tyR al c.2.1 0 0 = some q) (hn : ∀ v, v < 8 → al v = true → values v = zI (env v)) (hb : ∀ v, v < 8 → al v = true → -1000000 ≤ env v ∧ env v ≤ 1000000) :
    ∃ stack', f_sums_worthOf stack values cL sz to fr cd (iN i) = some (stack' 0, stack') ∧ agB stack' (evR env c.2.1 [] []).1 ∧ agI stack' (evR env c.2.1 [] []).1.length (evR env c.2.1 [] []).2 := by
  have hi' : i < lw.length := (List.getElem?_eq_some_iff.mp hi).1
  obtain ⟨rfl, -, -, L, hL, rfl, h5⟩ := h
  obtain ⟨-, h2, -⟩ := h5 i c hi
  obtain ⟨s, h3, h4, h5, h6⟩ := h2 hc
  obtain ⟨s', g1, g2⟩ := C_loop (al := al) (values := values) (code := cd) (env := env) (L := L) (e := s + c.2.1.length) hL h5 hn hb c.2.1 s KF [] [] stack q rfl h6 hty (by decide) trivial trivial (fun x hx => absurd hx List.not_mem_nil) (kf_lt (by omega))
  refine ⟨s', ?_, g2⟩
  have g1' : itr (un3 (fb_sums_worthOf_16 values (iN L) cd (iN (s + c.2.1.length)))) KF (iN 0, iN s, stack) = some s' := g1
  simp (disch := omega) only [f_sums_worthOf, f_law_toOf, f_law_fromOf, nlit, onl, negone, iN_add, iN_mul, iN_sub, iN_pm, iN_addneg, iN_ix, iN_inb, iN_lt, iN_eq, iN_nneg, iN_nm, nm_iN, mI_neg, mI_nnn, ne_eq, not_true_eq_false, not_false_eq_true, true_and, and_true, bnd, Option.bind_some, ↓reduceIte, ltT, ltF, eqT, eqF, leT, leF, h3, h4, g1']
theorem C_sum (h : CL cL sz tk fe cd kd fr to lw) {al : Nat → Bool} {values stack : Nat → Int32} {env : Nat → Int} {i : Nat} {c : Cl} (hw : lw.length ≤ 20) (hi : lw[i]? = some c) (hc : c.1 ≠ 3) (hty : tyR al c.2.1 0 0 = some (0, 1)) (hn : ∀ v, v < 8 → al v = true → values v = zI (env v)) (hb : ∀ v, v < 8 → al v = true → -1000000 ≤ env v ∧ env v ≤ 1000000) :
    ∃ stack', f_sums_worthOf stack values cL sz to fr cd (iN i) = some (zI (sumS env c.2.1), stack') := by
  obtain ⟨s', g1, g2, g3⟩ := C_work (stack := stack) h hw hi hc hty hn hb
  have hlen : (evR env c.2.1 [] []).1.length = 0 ∧ (evR env c.2.1 [] []).2.length = 1 := evR_len hty hb
  refine ⟨s', ?_⟩
  rw [g1]
  congr 2
  unfold sumS
  rw [hlen.1] at g3
  obtain ⟨x, hx⟩ := List.length_eq_one_iff.mp hlen.2
  rw [hx] at g3 ⊢
  exact g3.1
theorem C_truth (h : CL cL sz tk fe cd kd fr to lw) {al : Nat → Bool} {values stack : Nat → Int32} {env : Nat → Int} {i : Nat} {c : Cl} (hw : lw.length ≤ 20) (hi : lw[i]? = some c) (hc : c.1 ≠ 3) (hty : tyR al c.2.1 0 0 = some (1, 0)) (hn : ∀ v, v < 8 → al v = true → values v = zI (env v)) (hb : ∀ v, v < 8 → al v = true → -1000000 ≤ env v ∧ env v ≤ 1000000) :
    ∃ stack', f_sums_worthOf stack values cL sz to fr cd (iN i) = some (b01 (trS env c.2.1), stack') := by
  obtain ⟨s', g1, g2, -⟩ := C_work (stack := stack) h hw hi hc hty hn hb
  have hlen : (evR env c.2.1 [] []).1.length = 1 ∧ (evR env c.2.1 [] []).2.length = 0 := evR_len hty hb
  refine ⟨s', ?_⟩
  rw [g1]
  congr 2
  unfold trS
  match hq : (evR env c.2.1 [] []).1, g2, hlen.1 with
  | [x], g2, _ => exact g2.1
end
