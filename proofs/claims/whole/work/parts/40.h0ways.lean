/-! ===== PURE: ways: what they are; the class's walk ===== -/
def itF {α : Type} (F : Nat → α → α) : Nat → α → α
  | 0, a => a
  | n + 1, a => F n (itF F n a)
theorem itr_itF {σ ε α : Type} {f : σ → Option (σ ⊕ ε)} (R : Nat → σ → α → Prop) (Q : ε → α → Prop) (F : Nat → α → α) {N : Nat} (hs : ∀ k s a, k < N → R k s a → ∃ s', f s = some (.inl s') ∧ R (k + 1) s' (F k a)) (he : ∀ s a, R N s a → ∃ e, f s = some (.inr e) ∧ Q e a) {s : σ} {a : α} {n : Nat} (h0 : R 0 s a) (hn : N < n) : ∃ e, itr f n s = some e ∧ Q e (itF F N a) := by
  suffices h : ∀ (m k n : Nat) (s : σ), k + m = N → m < n → R k s (itF F k a) → ∃ e, itr f n s = some e ∧ Q e (itF F N a) from h N 0 n s (by omega) hn h0
  intro m
  induction m with
  | zero =>
    intro k n s hk hn hR
    obtain ⟨n, rfl⟩ : ∃ z, n = z + 1 := ⟨n - 1, by omega⟩
    have hk : k = N := hk
    subst hk
    obtain ⟨e, h1, h2⟩ := he s _ hR
    exact ⟨e, itr_end h1, h2⟩
  | succ m ih =>
    intro k n s hk hn hR
    obtain ⟨n, rfl⟩ : ∃ z, n = z + 1 := ⟨n - 1, by omega⟩
    obtain ⟨s', h1, h2⟩ := hs k s _ (by omega) hR
    rw [itr_step h1]
    exact ih (k + 1) n s' (by omega) (by omega) h2
theorem itF_add {α : Type} (F : Nat → α → α) (m : Nat) : ∀ (n : Nat) (a : α), itF F (m + n) a = itF (fun k => F (m + k)) n (itF F m a)
  | 0, _ => rfl
  | n + 1, a => by
    show F (m + n) (itF F (m + n) a) = _
    rw [itF_add F m n a]; rfl
theorem itF_id {α : Type} {F : Nat → α → α} : ∀ (n : Nat) (a : α), (∀ k, k < n → ∀ b, F k b = b) → itF F n a = a
  | 0, _, _ => rfl
  | n + 1, a, h => by
    show F n (itF F n a) = a
    rw [h n (by omega), itF_id n a (fun k hk => h k (by omega))]
theorem itF_cg {α : Type} {F G : Nat → α → α} : ∀ (n : Nat) (a : α), (∀ k, k < n → ∀ b, F k b = G k b) → itF F n a = itF G n a
  | 0, _, _ => rfl
  | n + 1, a, h => by
    show F n (itF F n a) = G n (itF G n a)
    rw [itF_cg n a (fun k hk => h k (by omega)), h n (by omega)]
theorem itF_mul {α : Type} (F : Nat → α → α) (b : Nat) : ∀ (n : Nat) (a : α), itF F (n * b) a = itF (fun i => itF (fun j => F (i * b + j)) b) n a
  | 0, a => by rw [Nat.zero_mul]; rfl
  | n + 1, a => by
    rw [Nat.succ_mul, itF_add, itF_mul F b n a]; rfl
/-- only the first n matter -/
theorem itF_less {α : Type} {F : Nat → α → α} {n N : Nat} (hn : n ≤ N) (a : α) (h : ∀ k, n ≤ k → k < N → ∀ b, F k b = b) : itF F N a = itF F n a := by
  have : N = n + (N - n) := by omega
  rw [this, itF_add, itF_id _ _ (fun k hk b => h (n + k) (by omega) (by omega) b)]
def gOK (q : Option (Bool × Nat × Nat)) (g : Nat) : Bool := match q with
  | none => true
  | some z => z.2.2 == g
def iOK (q : Option (Bool × Nat × Nat)) (b : Bool) : Bool := match q with
  | none => true
  | some z => z.1 == b
def nOK (q : Option (Bool × Nat × Nat)) (n : Nat) : Bool := match q with
  | none => true
  | some z => z.2.1 == n
def nxW (x : Cx) (q : Option (Bool × Nat × Nat)) (t : Tn) (w g i : Nat) : Option Tn :=
  if w < x.1 ∧ g < x.2.1 ∧ gOK q g = true then
    match t.1 w with
    | some n => if i = 0 ∧ iOK q false = true ∧ nOK q n = true ∧ canS x t w g = true then some (outT t w g n) else none
    | none => if x.2.2.2.1 g = true then (if i < (t.2 g).length ∧ iOK q true = true ∧ canS x t w g = true ∧ nOK q ((t.2 g).getD i 0) = true then some (inT t w g i ((t.2 g).getD i 0)) else none) else (if i = 0 ∧ iOK q true = true ∧ canS x t w g = true ∧ nOK q ((t.2 g).getD (pickS x t w g) 0) = true then some (inT t w g (pickS x t w g) ((t.2 g).getD (pickS x t w g) 0)) else none)
  else none
theorem nxW_TW {x : Cx} {q : Option (Bool × Nat × Nat)} {t t' : Tn} {w g i : Nat} (hx : CxOK x) (ht : TW t) (h : nxW x q t w g i = some t') : TW t' := by
  unfold nxW at h
  split at h
  · rename_i hc
    have hw8 : w < 8 := by have := hx.1; omega
    have hg3 : g < 3 := by have := hx.2.1; omega
    cases hn : t.1 w with
    | some n =>
      rw [hn] at h
      dsimp only at h
      split at h
      · cases h; exact ht.out hn hg3
      · cases h
    | none =>
      rw [hn] at h
      dsimp only at h
      split at h
      · split at h
        · rename_i h2
          cases h
          exact ht.in hw8 hn (by rw [List.getD_eq_getElem?_getD, List.getElem?_eq_getElem h2.1]; rfl)
        · cases h
      · split at h
        · rename_i h2
          cases h
          exact ht.in hw8 hn (pick_at (can_ne h2.2.2.1 hn))
        · cases h
  · cases h
abbrev Ac : Type := Int32 × (Nat → Int32) × (Nat → Nat → Int32)
def bitI (w : Nat) : Int32 := iN 1 <<< (iN w &&& iN 31)
def nmX : Option Nat → Nat
  | none => 0
  | some n => n + 1
def tP (t : Tn) (w : Nat) (ac : Ac) : Ac := (ac.1, (match t.1 w with
  | none => ac.2.1
  | some n => upd ac.2.1 n (ac.2.1 n ||| bitI w)), fun p j => if p = w ∧ j = nmX (t.1 w) then ac.2.2 p j + iN 1 else ac.2.2 p j)
def tH (l : List Nat) (k : Nat) (pl : Nat → Int32) : Nat → Int32 := upd pl (l.getD k 0) (pl (l.getD k 0) ||| iN 256)
def tellS (x : Cx) (t : Tn) (ac : Ac) : Ac := ((itF (tP t) x.1 ac).1 + iN 1, itF (fun g => itF (tH (t.2 g)) (t.2 g).length) x.2.1 (itF (tP t) x.1 ac).2.1, (itF (tP t) x.1 ac).2.2)
def wyF (x : Cx) : List (Option (Bool × Nat × Nat)) → Tn → Ac → Ac
  | [], t, ac => tellS x t ac
  | q :: r, t, ac => itF (fun k ac => match nxW x q t (k / 24) (k / 8 % 3) (k % 8) with
    | none => ac
    | some t' => wyF x r t' ac) 192 ac
def CAc (c : Int32) (pl : Nat → Int32) (pa : Nat → Nat → Int32) (ac : Ac) : Prop := c = ac.1 ∧ (∀ n, n < 8 → pl n = ac.2.1 n) ∧ ∀ p, p < 8 → ∀ j, j < 9 → pa p j = ac.2.2 p j
section
variable {x : Cx} {pe ga hr rl cL sz tk fe : Int32} {lot born cd kd fr to : Nat → Int32} {ru : Nat}
theorem C_tellPlace {pl : Nat → Int32} {n : Nat} {b : Int32} (hn : n < 8) : f_ways_tellPlace pl (iN n) b = some (upd pl n (pl n ||| b)) := by
  have h1 : inR (iN n) 8 = true := by rw [inR_iN (by omega)]; exact decide_eq_true hn
  simp (disch := omega) only [f_ways_tellPlace, C_isName, h1, bT0, nlit, onl, negone, iN_add, iN_mul, iN_sub, iN_pm, iN_addneg, iN_ix, iN_inb, iN_lt, iN_eq, iN_nneg, iN_nm, nm_iN, mI_neg, mI_nnn, ne_eq, not_true_eq_false, not_false_eq_true, true_and, and_true, bnd, Option.bind_some, ↓reduceIte, ltT, ltF, eqT, eqF, leT, leF]
theorem C_tellPlace0 {pl : Nat → Int32} {b : Int32} : f_ways_tellPlace pl mI b = some pl := by
  have h1 : inR mI 8 = false := rfl
  simp (disch := omega) only [f_ways_tellPlace, C_isName, h1, bF0, nlit, onl, negone, iN_add, iN_mul, iN_sub, iN_pm, iN_addneg, iN_ix, iN_inb, iN_lt, iN_eq, iN_nneg, iN_nm, nm_iN, mI_neg, mI_nnn, ne_eq, not_true_eq_false, not_false_eq_true, true_and, and_true, bnd, Option.bind_some, ↓reduceIte, ltT, ltF, eqT, eqF, leT, leF]
theorem C_tellEnd {c : Int32} {pl nm sz' : Nat → Int32} {pa hp : Nat → Nat → Int32} {t : Tn} {ac : Ac} (hx : CxOK x) (hpe : pe = iN x.1) (hga : ga = iN x.2.1) (hac : CAc c pl pa ac) (hd : CT nm sz' hp t) (ht : TW t) : ∃ c' pl' pa', f_ways_tellEnd c pe ga pl pa sz' hp nm = some (c', pl', pa') ∧ CAc c' pl' pa' (tellS x t ac) := by
  have hx1 := hx.1
  have hx2 := hx.2.1
  obtain ⟨e, e1, e2⟩ := itr_itF (f := un3 (fb_ways_tellEnd_12 pe nm)) (fun k s ac' => ∃ pl pa, s = (iN k, pl, pa) ∧ CAc ac'.1 pl pa ac') (fun e ac' => CAc ac'.1 e.1 e.2 ac') (tP t) (N := x.1) (fun k s ac' hk hR => by
    obtain ⟨pl, pa, rfl, h1, h2, h3⟩ := hR
    have hk8 : k < 8 := by omega
    have hn := hd.nameOf hk8
    have hlt : (iN k < pe) = True := by rw [hpe, iN_lt (by omega) (by omega)]; exact eq_true hk
    cases q : t.1 k with
    | none =>
      rw [q, enO_none] at hn
      refine ⟨(iN (k + 1), pl, setR pa k (upd (pa k) 0 (pa k 0 + iN 1))), ?_, pl, _, rfl, rfl, fun n hn => ?_, fun p hp j hj => ?_⟩
      · have e0 : mI + iN 1 = iN 0 := rfl
        simp (disch := omega) only [un3, fb_ways_tellEnd_12, hlt, hn, nlit, e0, C_tellPlace0, iN_inb, iN_ix, iN_add, ltT, bnd, ↓reduceIte, Option.bind_some]
      · show _ = (match t.1 k with
          | none => ac'.2.1
          | some n => upd ac'.2.1 n (ac'.2.1 n ||| bitI k)) n
        rw [q]; exact h2 n hn
      · show _ = if p = k ∧ j = nmX (t.1 k) then _ else _
        rw [q]
        by_cases hp2 : p = k
        · subst hp2
          rw [setR_same]
          by_cases hj2 : j = 0
          · subst hj2; rw [upd_same, if_pos ⟨rfl, rfl⟩, h3 p hp 0 (by omega)]
          · rw [upd_ne hj2, if_neg (fun z => hj2 z.2)]; exact h3 p hp j hj
        · rw [setR_ne hp2, if_neg (fun z => hp2 z.1)]; exact h3 p hp j hj
    | some m =>
      have hm8 := (ht.1 k m q).2
      rw [q, enO_some] at hn
      refine ⟨(iN (k + 1), upd pl m (pl m ||| bitI k), setR pa k (upd (pa k) (m + 1) (pa k (m + 1) + iN 1))), ?_, _, _, rfl, rfl, fun n hn9 => ?_, fun p hp j hj => ?_⟩
      · simp (disch := omega) only [un3, fb_ways_tellEnd_12, hlt, hn, nlit, C_tellPlace, iN_inb, iN_ix, iN_add, ltT, bnd, ↓reduceIte, Option.bind_some]; rfl
      · show _ = (match t.1 k with
          | none => ac'.2.1
          | some n => upd ac'.2.1 n (ac'.2.1 n ||| bitI k)) n
        rw [q]
        show _ = upd ac'.2.1 m (ac'.2.1 m ||| bitI k) n
        by_cases z : n = m
        · subst z; rw [upd_same, upd_same, h2 n hn9]
        · rw [upd_ne z, upd_ne z]; exact h2 n hn9
      · show _ = if p = k ∧ j = nmX (t.1 k) then _ else _
        rw [q]
        by_cases hp2 : p = k
        · subst hp2
          rw [setR_same]
          by_cases hj2 : j = m + 1
          · subst hj2; rw [upd_same, if_pos ⟨rfl, rfl⟩, h3 p hp _ hj]
          · rw [upd_ne hj2, if_neg (fun z => hj2 z.2)]; exact h3 p hp j hj
        · rw [setR_ne hp2, if_neg (fun z => hp2 z.1)]; exact h3 p hp j hj) (fun s ac' hR => by
    obtain ⟨pl, pa, rfl, h⟩ := hR
    refine ⟨(pl, pa), ?_, h⟩
    rw [hpe]
    simp (disch := omega) only [un3, fb_ways_tellEnd_12, nlit, onl, negone, iN_add, iN_mul, iN_sub, iN_pm, iN_addneg, iN_ix, iN_inb, iN_lt, iN_eq, iN_nneg, iN_nm, nm_iN, mI_neg, mI_nnn, ne_eq, not_true_eq_false, not_false_eq_true, true_and, and_true, bnd, Option.bind_some, ↓reduceIte, ltT, ltF, eqT, eqF, leT, leF]) (s := (iN 0, pl, pa)) (a := ac) (n := KF) ⟨pl, pa, rfl, rfl, hac.2.1, hac.2.2⟩ (kf_lt (by omega))
  obtain ⟨pl1, pa1⟩ := e
  obtain ⟨e', e3, e4⟩ := itr_itF (f := un2 (fb_ways_tellEnd_62 ga sz' hp)) (fun k s (P : Nat → Int32) => ∃ pl, s = (iN k, pl) ∧ ∀ n, n < 8 → pl n = P n) (fun e P => ∀ n, n < 8 → e n = P n) (fun g => itF (tH (t.2 g)) (t.2 g).length) (N := x.2.1) (fun g s P hg hR => by
    obtain ⟨pl, rfl, h2⟩ := hR
    have hg3 : g < 3 := by omega
    have hl := ht.len g
    obtain ⟨e, f1, f2⟩ := itr_itF (f := un2 (fb_ways_tellEnd_75 sz' hp (iN g))) (fun k s (P : Nat → Int32) => ∃ pl, s = (iN k, pl) ∧ ∀ n, n < 8 → pl n = P n) (fun e P => ∀ n, n < 8 → e n = P n) (tH (t.2 g)) (N := (t.2 g).length) (fun k s P hk hR => by
      obtain ⟨pl, rfl, h2⟩ := hR
      have hkk : (t.2 g)[k]? = some ((t.2 g).getD k 0) := by rw [List.getD_eq_getElem?_getD, List.getElem?_eq_getElem hk]; rfl
      have hm8 := (ht.2.1 g _ (List.mem_of_getElem? hkk)).2
      refine ⟨(iN (k + 1), upd pl ((t.2 g).getD k 0) (pl ((t.2 g).getD k 0) ||| iN 256)), ?_, _, rfl, fun n hn => ?_⟩
      · simp (disch := omega) only [un2, fb_ways_tellEnd_75, hd.sizeOf hg3, hd.nameAt ht hg3 hkk, C_tellPlace, nlit, onl, negone, iN_add, iN_mul, iN_sub, iN_pm, iN_addneg, iN_ix, iN_inb, iN_lt, iN_eq, iN_nneg, iN_nm, nm_iN, mI_neg, mI_nnn, ne_eq, not_true_eq_false, not_false_eq_true, true_and, and_true, bnd, Option.bind_some, ↓reduceIte, ltT, ltF, eqT, eqF, leT, leF]
      · show _ = upd P ((t.2 g).getD k 0) (P ((t.2 g).getD k 0) ||| iN 256) n
        by_cases z : n = (t.2 g).getD k 0
        · rw [upd_eq z, upd_eq z, h2 _ hm8]
        · rw [upd_ne z, upd_ne z]; exact h2 n hn) (fun s P hR => by
      obtain ⟨pl, rfl, h2⟩ := hR
      refine ⟨pl, ?_, h2⟩
      simp (disch := omega) only [un2, fb_ways_tellEnd_75, hd.sizeOf hg3, nlit, onl, negone, iN_add, iN_mul, iN_sub, iN_pm, iN_addneg, iN_ix, iN_inb, iN_lt, iN_eq, iN_nneg, iN_nm, nm_iN, mI_neg, mI_nnn, ne_eq, not_true_eq_false, not_false_eq_true, true_and, and_true, bnd, Option.bind_some, ↓reduceIte, ltT, ltF, eqT, eqF, leT, leF]) (s := (iN 0, pl)) (a := P) (n := KF) ⟨pl, rfl, h2⟩ (kf_lt (by omega))
    refine ⟨(iN (g + 1), e), ?_, e, rfl, f2⟩
    have hlt : (iN g < ga) = True := by rw [hga, iN_lt (by omega) (by omega)]; exact eq_true hg
    simp only [un2, fb_ways_tellEnd_62, hlt, nlit, f1, iN_add, Option.bind_some, ↓reduceIte]) (fun s P hR => by
    obtain ⟨pl, rfl, h2⟩ := hR
    refine ⟨pl, ?_, h2⟩
    rw [hga]
    simp (disch := omega) only [un2, fb_ways_tellEnd_62, nlit, onl, negone, iN_add, iN_mul, iN_sub, iN_pm, iN_addneg, iN_ix, iN_inb, iN_lt, iN_eq, iN_nneg, iN_nm, nm_iN, mI_neg, mI_nnn, ne_eq, not_true_eq_false, not_false_eq_true, true_and, and_true, bnd, Option.bind_some, ↓reduceIte, ltT, ltF, eqT, eqF, leT, leF]) (s := (iN 0, pl1)) (a := (itF (tP t) x.1 ac).2.1) (n := KF) ⟨pl1, rfl, e2.2.1⟩ (kf_lt (by omega))
  have hc1 : ∀ k (a : Ac), (itF (tP t) k a).1 = a.1 := by
    intro k a
    induction k with
    | zero => rfl
    | succ k ih => exact ih
  refine ⟨c + iN 1, e', pa1, ?_, ?_, e4, e2.2.2⟩
  · simp only [f_ways_tellEnd, nlit, e1, un2, e3, Option.bind_some]
  · show c + iN 1 = (itF (tP t) x.1 ac).1 + iN 1
    rw [hc1, hac.1]
end
