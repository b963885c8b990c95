/-! ===== PURE: ways, may, ask ===== -/
def mxS (f : Nat → Int32) : Int32 := itF (fun j v => if v < f j then f j else v) 9 (iN 0)
def isMx (v : Int32) (f : Nat → Int32) : Prop := 0 ≤ v.toInt ∧ (∀ j, j < 9 → (f j).toInt ≤ v.toInt) ∧ (v = iN 0 ∨ ∃ j, j < 9 ∧ v = f j)
theorem isMx_uniq {v v' : Int32} {f f' : Nat → Int32} (h : isMx v f) (h' : isMx v' f') (e1 : ∀ j, j < 9 → ∃ i, i < 9 ∧ f j = f' i) (e2 : ∀ j, j < 9 → ∃ i, i < 9 ∧ f' j = f i) : v = v' := by
  apply Int32.toInt_inj.mp
  have a : v.toInt ≤ v'.toInt := by
    rcases h.2.2 with q | ⟨j, hj, q⟩
    · rw [q]; exact h'.1
    · obtain ⟨i, hi, z⟩ := e1 j hj
      rw [q, z]; exact h'.2.1 i hi
  have b : v'.toInt ≤ v.toInt := by
    rcases h'.2.2 with q | ⟨j, hj, q⟩
    · rw [q]; exact h.1
    · obtain ⟨i, hi, z⟩ := e2 j hj
      rw [q, z]; exact h.2.1 i hi
  omega
theorem mx_is (f : Nat → Int32) : ∀ n, 0 ≤ (itF (fun j v => if v < f j then f j else v) n (iN 0)).toInt ∧ (∀ j, j < n → (f j).toInt ≤ (itF (fun j v => if v < f j then f j else v) n (iN 0)).toInt) ∧ (itF (fun j v => if v < f j then f j else v) n (iN 0) = iN 0 ∨ ∃ j, j < n ∧ itF (fun j v => if v < f j then f j else v) n (iN 0) = f j)
  | 0 => ⟨(show 0 ≤ (iN 0).toInt by decide), fun j hj => absurd hj (Nat.not_lt_zero j), Or.inl rfl⟩
  | n + 1 => by
    obtain ⟨a, b, c⟩ := mx_is f n
    have e : itF (fun j v => if v < f j then f j else v) (n + 1) (iN 0) = if itF (fun j v => if v < f j then f j else v) n (iN 0) < f n then f n else itF (fun j v => if v < f j then f j else v) n (iN 0) := rfl
    rw [e]
    by_cases hlt : itF (fun j v => if v < f j then f j else v) n (iN 0) < f n
    · rw [if_pos hlt]
      rw [Int32.lt_iff_toInt_lt] at hlt
      refine ⟨by omega, fun j hj => ?_, Or.inr ⟨n, by omega, rfl⟩⟩
      by_cases q : j = n
      · rw [q]; exact Int.le_refl _
      · have := b j (by omega); omega
    · rw [if_neg hlt]
      rw [Int32.lt_iff_toInt_lt] at hlt
      refine ⟨a, fun j hj => ?_, ?_⟩
      · by_cases q : j = n
        · rw [q]; omega
        · exact b j (by omega)
      · rcases c with c | ⟨j, hj, c⟩
        · exact Or.inl c
        · exact Or.inr ⟨j, by omega, c⟩
theorem mxS_is (f : Nat → Int32) : isMx (mxS f) f := mx_is f 9
def mxM (f : Nat → Int32) : Int32 := mxS (fun n => if n = 8 then f 0 else f (n + 1))
theorem mxM_eq {f : Nat → Int32} : mxM f = mxS f := isMx_uniq (mxS_is _) (mxS_is f) (fun j hj => by
  by_cases q : j = 8
  · exact ⟨0, by decide, by rw [if_pos q]⟩
  · exact ⟨j + 1, by omega, by rw [if_neg q]⟩) (fun j hj => by
  cases j with
  | zero => exact ⟨8, by decide, by rw [if_pos rfl]⟩
  | succ j => exact ⟨j, by omega, by rw [if_neg (by omega)]⟩)
def whS (pa : Nat → Nat → Int32) (k : Nat) : Nat := itF (fun j b => if mxS (pa (j + 1)) < mxS (pa b) then j + 1 else b) k 0
theorem whS_le (pa : Nat → Nat → Int32) : ∀ k, whS pa k ≤ k
  | 0 => Nat.le_refl _
  | k + 1 => by
    have h := whS_le pa k
    show (if mxS (pa (k + 1)) < mxS (pa (whS pa k)) then k + 1 else whS pa k) ≤ k + 1
    by_cases q : mxS (pa (k + 1)) < mxS (pa (whS pa k))
    · rw [if_pos q]; exact Nat.le_refl _
    · rw [if_neg q]; omega
theorem mxS_cg {f g : Nat → Int32} (h : ∀ j, j < 9 → f j = g j) : mxS f = mxS g := itF_cg 9 _ (fun j hj b => by rw [h j hj])
section
variable {x : Cx} {pe ga hr rl cL sz tk fe kz : Int32} {lot born cd kd fr to kc : Nat → Int32} {ru : Nat} {book : List (Option (Bool × Nat × Nat))}
theorem C_great {c : Int32} {pl : Nat → Int32} {pa : Nat → Nat → Int32} {ac : Ac} (h : CAc c pl pa ac) {p : Nat} (hp : p < 8) : f_ways_greatestPart pa (iN p) = some (mxS (ac.2.2 p)) := by
  obtain ⟨e, e1, e2⟩ := itr_itF (f := un2 (fb_ways_greatestPart_14 pa (iN p))) (fun k s v => s = (v, iN k)) (fun e v => e = v) (fun j v => if v < ac.2.2 p j then ac.2.2 p j else v) (N := 9) (fun k s v hk hR => by
    subst hR
    refine ⟨(if v < ac.2.2 p k then ac.2.2 p k else v, iN (k + 1)), ?_, rfl⟩
    have hpk := h.2.2 p hp k hk
    by_cases hlt : v < ac.2.2 p k
    · simp (disch := omega) only [un2, fb_ways_greatestPart_14, f_math_max_II, hpk, hlt, nlit, onl, negone, iN_add, iN_mul, iN_sub, iN_pm, iN_addneg, iN_ix, iN_inb, iN_lt, iN_eq, iN_nneg, iN_nm, nm_iN, mI_neg, mI_nnn, ne_eq, not_true_eq_false, not_false_eq_true, true_and, and_true, bnd, Option.bind_some, ↓reduceIte, ltT, ltF, eqT, eqF, leT, leF]
    · simp (disch := omega) only [un2, fb_ways_greatestPart_14, f_math_max_II, hpk, hlt, nlit, onl, negone, iN_add, iN_mul, iN_sub, iN_pm, iN_addneg, iN_ix, iN_inb, iN_lt, iN_eq, iN_nneg, iN_nm, nm_iN, mI_neg, mI_nnn, ne_eq, not_true_eq_false, not_false_eq_true, true_and, and_true, bnd, Option.bind_some, ↓reduceIte, ltT, ltF, eqT, eqF, leT, leF]) (fun s v hR => by
    subst hR
    exact ⟨v, by simp (disch := omega) only [un2, fb_ways_greatestPart_14, nlit, onl, negone, iN_add, iN_mul, iN_sub, iN_pm, iN_addneg, iN_ix, iN_inb, iN_lt, iN_eq, iN_nneg, iN_nm, nm_iN, mI_neg, mI_nnn, ne_eq, not_true_eq_false, not_false_eq_true, true_and, and_true, bnd, Option.bind_some, ↓reduceIte, ltT, ltF, eqT, eqF, leT, leF], rfl⟩) (s := (iN 0, iN 0)) (a := iN 0) (n := KF) rfl (kf_lt (by omega))
  rw [e2] at e1
  have e1' : itr (un2 (fb_ways_greatestPart_14 pa (iN p))) KF (iN 0, iN 0) = some (mxS (ac.2.2 p)) := e1
  simp (disch := omega) only [f_ways_greatestPart, e1', nlit, onl, negone, iN_add, iN_mul, iN_sub, iN_pm, iN_addneg, iN_ix, iN_inb, iN_lt, iN_eq, iN_nneg, iN_nm, nm_iN, mI_neg, mI_nnn, ne_eq, not_true_eq_false, not_false_eq_true, true_and, and_true, bnd, Option.bind_some, ↓reduceIte, ltT, ltF, eqT, eqF, leT, leF]
theorem C_whom {c : Int32} {pl : Nat → Int32} {pa : Nat → Nat → Int32} {ac : Ac} (h : CAc c pl pa ac) {P : Nat} (hP : P ≤ 8) (hP0 : 0 < P) : f_ways_whomToLookAt (iN P) pa = some (iN (whS ac.2.2 (P - 1))) := by
  obtain ⟨e, e1, e2⟩ := itr_itF (f := un2 (fb_ways_whomToLookAt_4 (iN P) pa)) (fun k s (v : Nat) => v ≤ k ∧ s = (iN v, iN (k + 1))) (fun e v => e = iN v) (fun j b => if mxS (ac.2.2 (j + 1)) < mxS (ac.2.2 b) then j + 1 else b) (N := P - 1) (fun k s v hk hR => by
    obtain ⟨hv, rfl⟩ := hR
    have g1 := C_great h (show k + 1 < 8 by omega)
    have g2 := C_great h (show v < 8 by omega)
    refine ⟨(iN (if mxS (ac.2.2 (k + 1)) < mxS (ac.2.2 v) then k + 1 else v), iN (k + 1 + 1)), ?_, ⟨by split <;> omega, rfl⟩⟩
    by_cases hlt : mxS (ac.2.2 (k + 1)) < mxS (ac.2.2 v)
    · simp (disch := omega) only [un2, fb_ways_whomToLookAt_4, g1, g2, hlt, nlit, onl, negone, iN_add, iN_mul, iN_sub, iN_pm, iN_addneg, iN_ix, iN_inb, iN_lt, iN_eq, iN_nneg, iN_nm, nm_iN, mI_neg, mI_nnn, ne_eq, not_true_eq_false, not_false_eq_true, true_and, and_true, bnd, Option.bind_some, ↓reduceIte, ltT, ltF, eqT, eqF, leT, leF]
    · simp (disch := omega) only [un2, fb_ways_whomToLookAt_4, g1, g2, hlt, nlit, onl, negone, iN_add, iN_mul, iN_sub, iN_pm, iN_addneg, iN_ix, iN_inb, iN_lt, iN_eq, iN_nneg, iN_nm, nm_iN, mI_neg, mI_nnn, ne_eq, not_true_eq_false, not_false_eq_true, true_and, and_true, bnd, Option.bind_some, ↓reduceIte, ltT, ltF, eqT, eqF, leT, leF]) (fun s v hR => by
    obtain ⟨hv, rfl⟩ := hR
    exact ⟨iN v, by simp (disch := omega) only [un2, fb_ways_whomToLookAt_4, nlit, onl, negone, iN_add, iN_mul, iN_sub, iN_pm, iN_addneg, iN_ix, iN_inb, iN_lt, iN_eq, iN_nneg, iN_nm, nm_iN, mI_neg, mI_nnn, ne_eq, not_true_eq_false, not_false_eq_true, true_and, and_true, bnd, Option.bind_some, ↓reduceIte, ltT, ltF, eqT, eqF, leT, leF], rfl⟩) (s := (iN 0, iN 1)) (a := 0) (n := KF) ⟨Nat.le_refl _, rfl⟩ (kf_lt (by omega))
  rw [e2] at e1
  have e1' : itr (un2 (fb_ways_whomToLookAt_4 (iN P) pa)) KF (iN 0, iN 1) = some (iN (whS ac.2.2 (P - 1))) := e1
  simp only [f_ways_whomToLookAt, nlit, e1', Option.bind_some]
theorem M_most {a : Nat → Int32} {c : Int32} {my pa : Nat → Int32} {ac : Ac} (h : MAc c my pa ac) {p : Nat} (hp : p < 8) : itr (un2 (fb_m_ask_57 pa (iN p))) KF (iN 0, iN 0) = some (mxS (ac.2.2 p)) := by
  have hv : ∀ k, k < 9 → pa (9 * p + k) = if k = 8 then ac.2.2 p 0 else ac.2.2 p (k + 1) := by
    intro k hk
    by_cases q : k = 8
    · rw [if_pos q, q]; exact (h.2.2 p hp).1
    · rw [if_neg q]; exact (h.2.2 p hp).2 k (by omega)
  obtain ⟨e, e1, e2⟩ := itr_itF (f := un2 (fb_m_ask_57 pa (iN p))) (fun k s v => s = (v, iN k)) (fun e v => e = v) (fun j v => if v < (if j = 8 then ac.2.2 p 0 else ac.2.2 p (j + 1)) then (if j = 8 then ac.2.2 p 0 else ac.2.2 p (j + 1)) else v) (N := 9) (fun k s v hk hR => by
    subst hR
    refine ⟨_, ?_, rfl⟩
    have hpk := hv k hk
    by_cases hlt : v < (if k = 8 then ac.2.2 p 0 else ac.2.2 p (k + 1))
    · rw [if_pos hlt]
      rw [← hpk] at hlt ⊢
      simp (disch := omega) only [un2, fb_m_ask_57, hlt, nlit, onl, negone, iN_add, iN_mul, iN_sub, iN_pm, iN_addneg, iN_ix, iN_inb, iN_lt, iN_eq, iN_nneg, iN_nm, nm_iN, mI_neg, mI_nnn, ne_eq, not_true_eq_false, not_false_eq_true, true_and, and_true, bnd, Option.bind_some, ↓reduceIte, ltT, ltF, eqT, eqF, leT, leF]
    · rw [if_neg hlt]
      rw [← hpk] at hlt
      simp (disch := omega) only [un2, fb_m_ask_57, hlt, nlit, onl, negone, iN_add, iN_mul, iN_sub, iN_pm, iN_addneg, iN_ix, iN_inb, iN_lt, iN_eq, iN_nneg, iN_nm, nm_iN, mI_neg, mI_nnn, ne_eq, not_true_eq_false, not_false_eq_true, true_and, and_true, bnd, Option.bind_some, ↓reduceIte, ltT, ltF, eqT, eqF, leT, leF]) (fun s v hR => by
    subst hR
    exact ⟨v, by simp (disch := omega) only [un2, fb_m_ask_57, nlit, onl, negone, iN_add, iN_mul, iN_sub, iN_pm, iN_addneg, iN_ix, iN_inb, iN_lt, iN_eq, iN_nneg, iN_nm, nm_iN, mI_neg, mI_nnn, ne_eq, not_true_eq_false, not_false_eq_true, true_and, and_true, bnd, Option.bind_some, ↓reduceIte, ltT, ltF, eqT, eqF, leT, leF], rfl⟩) (s := (iN 0, iN 0)) (a := iN 0) (n := KF) rfl (kf_lt (by omega))
  rw [e1, e2]
  exact congrArg some mxM_eq
theorem M_whom {a : Nat → Int32} {c : Int32} {my pa : Nat → Int32} {ac : Ac} (h : MAc c my pa ac) {P : Nat} (h0 : a 0 = iN P) (hP : P ≤ 8) (hP0 : 0 < P) : itr (un3 (fb_m_ask_40 a pa)) KF (mI, iN 0, iN 0) = some (iN (whS ac.2.2 (P - 1)), mxS (ac.2.2 (whS ac.2.2 (P - 1)))) := by
  have first : un3 (fb_m_ask_40 a pa) (mI, iN 0, iN 0) = some (.inl (iN 0, mxS (ac.2.2 0), iN (0 + 1))) := by
    have g1 := M_most (a := a) h (show 0 < 8 by decide)
    simp (disch := omega) only [un3, fb_m_ask_40, h0, g1, nlit, onl, negone, iN_add, iN_mul, iN_sub, iN_pm, iN_addneg, iN_ix, iN_inb, iN_lt, iN_eq, iN_nneg, iN_nm, nm_iN, mI_neg, mI_nnn, ne_eq, not_true_eq_false, not_false_eq_true, true_and, and_true, bnd, Option.bind_some, ↓reduceIte, ltT, ltF, eqT, eqF, leT, leF]
  obtain ⟨e, e1, e2⟩ := itr_itF (f := un3 (fb_m_ask_40 a pa)) (fun k s (v : Nat) => v ≤ k ∧ s = (iN v, mxS (ac.2.2 v), iN (k + 1))) (fun e v => e = (iN v, mxS (ac.2.2 v))) (fun j b => if mxS (ac.2.2 (j + 1)) < mxS (ac.2.2 b) then j + 1 else b) (N := P - 1) (fun k s v hk hR => by
    obtain ⟨hv, rfl⟩ := hR
    have g1 := M_most (a := a) h (show k + 1 < 8 by omega)
    by_cases hlt : mxS (ac.2.2 (k + 1)) < mxS (ac.2.2 v)
    · refine ⟨(iN (k + 1), mxS (ac.2.2 (k + 1)), iN (k + 1 + 1)), ?_, ⟨by rw [if_pos hlt]; omega, by rw [if_pos hlt]⟩⟩
      simp (disch := omega) only [un3, fb_m_ask_40, h0, g1, hlt, nlit, onl, negone, iN_add, iN_mul, iN_sub, iN_pm, iN_addneg, iN_ix, iN_inb, iN_lt, iN_eq, iN_nneg, iN_nm, nm_iN, mI_neg, mI_nnn, ne_eq, not_true_eq_false, not_false_eq_true, true_and, and_true, bnd, Option.bind_some, ↓reduceIte, ltT, ltF, eqT, eqF, leT, leF]
    · refine ⟨(iN v, mxS (ac.2.2 v), iN (k + 1 + 1)), ?_, ⟨by rw [if_neg hlt]; omega, by rw [if_neg hlt]⟩⟩
      simp (disch := omega) only [un3, fb_m_ask_40, h0, g1, hlt, nlit, onl, negone, iN_add, iN_mul, iN_sub, iN_pm, iN_addneg, iN_ix, iN_inb, iN_lt, iN_eq, iN_nneg, iN_nm, nm_iN, mI_neg, mI_nnn, ne_eq, not_true_eq_false, not_false_eq_true, true_and, and_true, bnd, Option.bind_some, ↓reduceIte, ltT, ltF, eqT, eqF, leT, leF]) (fun s v hR => by
    obtain ⟨hv, rfl⟩ := hR
    exact ⟨(iN v, mxS (ac.2.2 v)), by simp (disch := omega) only [un3, fb_m_ask_40, h0, nlit, onl, negone, iN_add, iN_mul, iN_sub, iN_pm, iN_addneg, iN_ix, iN_inb, iN_lt, iN_eq, iN_nneg, iN_nm, nm_iN, mI_neg, mI_nnn, ne_eq, not_true_eq_false, not_false_eq_true, true_and, and_true, bnd, Option.bind_some, ↓reduceIte, ltT, ltF, eqT, eqF, leT, leF], rfl⟩) (s := (iN 0, mxS (ac.2.2 0), iN (0 + 1))) (a := 0) (n := KF - 1) ⟨Nat.le_refl _, rfl⟩ (by have : 100 < KF := kf_lt (by decide); omega)
  have hk : KF = (KF - 1) + 1 := by have : 100 < KF := kf_lt (by decide); omega
  rw [hk, itr_step first, e1, e2]; rfl
theorem C_fillParts {pa : Nat → Nat → Int32} : ∃ pa', itr (un2 fb_ways_reckon_15) KF (iN 0, pa) = some pa' ∧ ∀ p, p < 8 → ∀ j, j < 9 → pa' p j = iN 0 := by
  obtain ⟨e, e1, e2⟩ := itr_itF (f := un2 fb_ways_reckon_15) (α := Unit) (fun k s _ => ∃ pa, s = (iN k, pa) ∧ ∀ p, p < k → ∀ j, j < 9 → pa p j = iN 0) (fun e _ => ∀ p, p < 8 → ∀ j, j < 9 → e p j = iN 0) (fun _ u => u) (N := 8) (fun k s _ hk hR => by
    obtain ⟨pa, rfl, h⟩ := hR
    obtain ⟨f, f1, f2, -⟩ := C_fill (n := 9) (f := pa k) (v := iN 0) (by decide)
    refine ⟨(iN (k + 1), setR pa k f), ?_, _, rfl, fun p hp j hj => ?_⟩
    · simp (disch := omega) only [un2, fb_ways_reckon_15, f1, nlit, onl, negone, iN_add, iN_mul, iN_sub, iN_pm, iN_addneg, iN_ix, iN_inb, iN_lt, iN_eq, iN_nneg, iN_nm, nm_iN, mI_neg, mI_nnn, ne_eq, not_true_eq_false, not_false_eq_true, true_and, and_true, bnd, Option.bind_some, ↓reduceIte, ltT, ltF, eqT, eqF, leT, leF]
    · by_cases q : p = k
      · subst q; rw [setR_same]; exact f2 j hj
      · rw [setR_ne q]; exact h p (by omega) j hj) (fun s _ hR => by
    obtain ⟨pa, rfl, h⟩ := hR
    exact ⟨pa, by simp (disch := omega) only [un2, fb_ways_reckon_15, nlit, onl, negone, iN_add, iN_mul, iN_sub, iN_pm, iN_addneg, iN_ix, iN_inb, iN_lt, iN_eq, iN_nneg, iN_nm, nm_iN, mI_neg, mI_nnn, ne_eq, not_true_eq_false, not_false_eq_true, true_and, and_true, bnd, Option.bind_some, ↓reduceIte, ltT, ltF, eqT, eqF, leT, leF], h⟩) (s := (iN 0, pa)) (a := ()) (n := KF) ⟨pa, rfl, fun p hp => absurd hp (Nat.not_lt_zero p)⟩ (kf_lt (by omega))
  exact ⟨e, e1, e2⟩
theorem C_reckon (hx : CxOK x) (hcx : CX pe ga hr rl lot born ru cL sz tk fe cd kd fr to x) (hb : CK kz kc book) (hlen : book.length ≤ 6) (hq8 : ∀ q ∈ book, ∀ z, q = some z → z.2.1 < 8 ∧ z.2.2 < x.2.1) {c : Int32} {pl nm ns tn tz values stack : Nat → Int32} {pa th nh : Nat → Nat → Int32} {t : Tn} (hd : CT nm ns nh t) (ht : TW t) : ∃ c' pl' pa' n' s' h' v' st', f_ways_reckon c pl pe ga hr rl pa tn tz th kz ru lot born nm ns nh kc values cL sz tk stack kd to fr cd = some (c', pl', pa', n', s', h', v', st') ∧ CAc c' pl' pa' (wyF x book t ac0) := by
  obtain ⟨pl1, e1, e2, -⟩ := C_fill (n := 8) (f := pl) (v := iN 0) (by decide)
  obtain ⟨pa1, e3, e4⟩ := C_fillParts (pa := pa)
  obtain ⟨n1, s1, h1, e5, e6⟩ := C_copyTown (nm := tn) (sz := tz) (hp := th) hd ht
  obtain ⟨c', pl', pa', s', h', n', v', st', g1, g2, g3⟩ := C_follow hx hcx hb hlen hq8 book.length 0 (by omega) 26 (by omega) (iN 0) pl1 pa1 n1 s1 values stack h1 t ac0 ⟨rfl, e2, e4⟩ e6 ht
  refine ⟨c', pl', pa', n', s', h', v', st', ?_, by rw [← List.drop_zero (l := book)]; exact g2⟩
  have g1' : f_ways_follow (iN 0) pe ga hr rl pl1 pa1 kz s1 h1 n1 ru lot born kc values cL sz tk stack kd to fr cd (iN 0) = some (c', pl', pa', s', h', n', v', st') := g1
  simp only [f_ways_reckon, nlit, e1, e3, e5, un3, g1', un8, Option.bind_some]
end
section
variable {pe ga hr tx rl xx dz rz kz : Int32} {bo lo pa dn nm sz dc rc kc a d : Nat → Int32} {hp : Nat → Nat → Int32} {s : Wd} {laws : Nat → Lw} {texts cL lz tk fe : Nat → Int32} {cd kd fr to : Nat → Nat → Int32} {values stack tn tz named truth tried my mp pl : Nat → Int32} {th pt : Nat → Nat → Int32} {mv : Nat → Int64} {c0 m0 : Int32}
theorem J_reckon (hC : CW pe ga hr tx rl xx bo lo pa dn nm sz hp dz dc rz rc kz kc s) (hM : MA a s) (hok : WOK s) (hT : MT d 0 s.2.2.1) (hcl : CLs cL lz tk fe cd kd fr to s.1.2.2.2.1 laws) (hml : MLs texts s.1.2.2.2.1 laws) : ∃ c' pl' pt' n' s' h' v' st' d' mn mv' mt tr my' mp' ac, f_ways_reckon c0 pl pe ga hr rl pt tn tz th kz (ruO s) lo bo nm sz hp kc values (cL (ruO s)) (lz (ruO s)) (tk (ruO s)) stack (kd (ruO s)) (to (ruO s)) (fr (ruO s)) (cd (ruO s)) = some (c', pl', pt', n', s', h', v', st') ∧ CAc c' pl' pt' ac ∧ f_m_findWays (iN 0) m0 a d texts named mv truth tried my mp = some (iN 0, c', d', mn, mv', mt, tr, my', mp') ∧ MAc c' my' mp' ac ∧ ∀ j, j < 70 → d' j = d j := by
  have hX := cxO_ok (laws := laws) hok
  have hcx := CX.of (texts := texts) hC.1 hC.2.1 hok hcl hml
  have hmx := MX.of hM hok hml
  obtain ⟨c', pl', pt', n', s', h', v', st', e1, e2⟩ := C_reckon (c := c0) (pl := pl) (pa := pt) (tn := tn) (tz := tz) (th := th) (values := values) (stack := stack) hX hcx hC.2.2.2.2.2 hok.2.2.2.2.1 hok.2.2.2.2.2 hC.2.2.1 hok.2.1.1
  obtain ⟨c2, d', mn, mv', mt, tr, my', mp', f1, f2, f3⟩ := M_findWays (c0 := m0) (named := named) (truth := truth) (tried := tried) (my := my) (pa := mp) (values := mv) hX hmx hM.2.2.2.2.1 hM.2.2.2.2.2.1 hM.2.2.2.2.2.2 hok.2.2.2.2.1 hok.2.2.2.2.2 hok.2.1.1 hT
  have ec : c2 = c' := f2.1.trans e2.1.symm
  subst ec
  exact ⟨c2, pl', pt', n', s', h', v', st', d', mn, mv', mt, tr, my', mp', _, e1, e2, f1, f2, f3⟩
theorem J_ways (hC : CW pe ga hr tx rl xx bo lo pa dn nm sz hp dz dc rz rc kz kc s) (hM : MA a s) (hok : WOK s) (hT : MT d 0 s.2.2.1) (hcl : CLs cL lz tk fe cd kd fr to s.1.2.2.2.1 laws) (hml : MLs texts s.1.2.2.2.1 laws) : ∃ r c' pl' pt' n' s' h' v' st' m' d' mn mv' mt tr my' mp', f_x_ways c0 pe ga hr rl (ruO s) pl kz pt (cL (ruO s)) (lz (ruO s)) (tk (ruO s)) lo bo nm tn sz tz hp th kc values (kd (ruO s)) (to (ruO s)) (fr (ruO s)) stack (cd (ruO s)) = some (r, c', pl', pt', n', s', h', v', st') ∧ f_m_ways (iN 0) m0 a d texts named mv truth tried my mp = some (r, iN 0, m', d', mn, mv', mt, tr, my', mp') ∧ ∀ j, j < 70 → d' j = d j := by
  obtain ⟨c', pl', pt', n', s', h', v', st', d', mn, mv', mt, tr, my', mp', ac, e1, -, e3, -, e5⟩ := J_reckon (c0 := c0) (m0 := m0) (pl := pl) (pt := pt) (tn := tn) (tz := tz) (th := th) (values := values) (stack := stack) (named := named) (truth := truth) (tried := tried) (my := my) (mp := mp) (mv := mv) hC hM hok hT hcl hml
  exact ⟨c', c', pl', pt', n', s', h', v', st', c', d', mn, mv', mt, tr, my', mp', by simp only [f_x_ways, e1, un8, Option.bind_some], by simp only [f_m_ways, e3, un9, Option.bind_some], e5⟩
theorem J_may (hC : CW pe ga hr tx rl xx bo lo pa dn nm sz hp dz dc rz rc kz kc s) (hM : MA a s) (hok : WOK s) (hT : MT d 0 s.2.2.1) (hcl : CLs cL lz tk fe cd kd fr to s.1.2.2.2.1 laws) (hml : MLs texts s.1.2.2.2.1 laws) (l : Int32) : ∃ r c' pl' pt' n' s' h' v' st' m' d' mn mv' mt tr my' mp', f_x_may c0 pe ga hr rl (ruO s) pl kz pt (cL (ruO s)) (lz (ruO s)) (tk (ruO s)) lo bo nm tn sz tz hp th kc values (kd (ruO s)) (to (ruO s)) (fr (ruO s)) stack (cd (ruO s)) l = some (r, c', pl', pt', n', s', h', v', st') ∧ f_m_may (iN 0) m0 a d texts named mv truth tried my mp l = some (r, iN 0, m', d', mn, mv', mt, tr, my', mp') ∧ ∀ j, j < 70 → d' j = d j := by
  cases h : inR l 8 with
  | false =>
    refine ⟨mI, c0, pl, pt, tn, tz, th, values, stack, m0, d, named, mv, truth, tried, my, mp, ?_, ?_, fun _ _ => rfl⟩
    · simp only [f_x_may, C_isName, h, nlit, negone, bF0, Option.bind_some, ↓reduceIte]
    · simp only [f_m_may, nlit, negone, M_isName, h, bF0, Option.bind_some, ↓reduceIte]
  | true =>
    obtain ⟨n, hn, rfl⟩ := inR_some h
    obtain ⟨c', pl', pt', n', s', h', v', st', d', mn, mv', mt, tr, my', mp', ac, e1, e2, e3, e4, e5⟩ := J_reckon (c0 := c0) (m0 := m0) (pl := pl) (pt := pt) (tn := tn) (tz := tz) (th := th) (values := values) (stack := stack) (named := named) (truth := truth) (tried := tried) (my := my) (mp := mp) (mv := mv) hC hM hok hT hcl hml
    refine ⟨pl' n, c', pl', pt', n', s', h', v', st', c', d', mn, mv', mt, tr, my', mp', ?_, ?_, e5⟩
    · simp (disch := omega) only [f_x_may, C_isName, h, e1, un8, bT0, nlit, onl, negone, iN_add, iN_mul, iN_sub, iN_pm, iN_addneg, iN_ix, iN_inb, iN_lt, iN_eq, iN_nneg, iN_nm, nm_iN, mI_neg, mI_nnn, ne_eq, not_true_eq_false, not_false_eq_true, true_and, and_true, bnd, Option.bind_some, ↓reduceIte, ltT, ltF, eqT, eqF, leT, leF]
    · have : my' n = pl' n := (e4.2.1 n hn).trans (e2.2.1 n hn).symm
      simp (disch := omega) only [f_m_may, nlit, M_isName, h, e3, un9, bT0, this, nlit, onl, negone, iN_add, iN_mul, iN_sub, iN_pm, iN_addneg, iN_ix, iN_inb, iN_lt, iN_eq, iN_nneg, iN_nm, nm_iN, mI_neg, mI_nnn, ne_eq, not_true_eq_false, not_false_eq_true, true_and, and_true, bnd, Option.bind_some, ↓reduceIte, ltT, ltF, eqT, eqF, leT, leF]
theorem J_ask (hC : CW pe ga hr tx rl xx bo lo pa dn nm sz hp dz dc rz rc kz kc s) (hM : MA a s) (hok : WOK s) (hT : MT d 0 s.2.2.1) (hcl : CLs cL lz tk fe cd kd fr to s.1.2.2.2.1 laws) (hml : MLs texts s.1.2.2.2.1 laws) (l : Int32) : ∃ r c' pl' pt' n' s' h' v' st' m' d' mn mv' mt tr my' mp', f_x_ask pe ga hr rl c0 (ruO s) pl kz pt (cL (ruO s)) (lz (ruO s)) (tk (ruO s)) lo bo nm tn sz tz hp th kc values (kd (ruO s)) (to (ruO s)) (fr (ruO s)) stack (cd (ruO s)) l = some (r, c', pl', pt', n', s', h', v', st') ∧ f_m_ask (iN 0) m0 a d texts named mv truth tried my mp l = some (r, iN 0, m', d', mn, mv', mt, tr, my', mp') ∧ ∀ j, j < 70 → d' j = d j := by
  have hP := hok.1.1
  have hpe := hC.1.1
  have g4 := M_isInK (l := l) (n := 1) (by decide)
  have same : f_x_ask pe ga hr rl c0 (ruO s) pl kz pt (cL (ruO s)) (lz (ruO s)) (tk (ruO s)) lo bo nm tn sz tz hp th kc values (kd (ruO s)) (to (ruO s)) (fr (ruO s)) stack (cd (ruO s)) l = some (mI, c0, pl, pt, tn, tz, th, values, stack) → f_m_ask (iN 0) m0 a d texts named mv truth tried my mp l = some (mI, iN 0, m0, d, named, mv, truth, tried, my, mp) → ∃ r c' pl' pt' n' s' h' v' st' m' d' mn mv' mt tr my' mp', f_x_ask pe ga hr rl c0 (ruO s) pl kz pt (cL (ruO s)) (lz (ruO s)) (tk (ruO s)) lo bo nm tn sz tz hp th kc values (kd (ruO s)) (to (ruO s)) (fr (ruO s)) stack (cd (ruO s)) l = some (r, c', pl', pt', n', s', h', v', st') ∧ f_m_ask (iN 0) m0 a d texts named mv truth tried my mp l = some (r, iN 0, m', d', mn, mv', mt, tr, my', mp') ∧ ∀ j, j < 70 → d' j = d j := fun q1 q2 => ⟨mI, c0, pl, pt, tn, tz, th, values, stack, m0, d, named, mv, truth, tried, my, mp, q1, q2, fun _ _ => rfl⟩
  have i1 : (iN 1).toInt = 1 := rfl
  cases h : inR l 2 with
  | false =>
    rw [h] at g4
    have hl : l.toInt < 0 ∨ 1 < l.toInt := by
      unfold inR at h
      rw [decide_eq_false_iff_not] at h
      omega
    refine same ?_ ?_
    · unfold f_x_ask
      simp only [nlit, negone, Int32.lt_iff_toInt_lt, i1, i0_toInt]
      by_cases q : l.toInt < 0
      · rw [if_pos q]
      · rw [if_neg q, if_pos (by omega)]
    · simp only [f_m_ask, nlit, negone, g4, bF0, Option.bind_some, ↓reduceIte]
  | true =>
    rw [h] at g4
    obtain ⟨w, hw, rfl⟩ := inR_some h
    by_cases hp0 : s.1.1 = 0
    · refine same ?_ ?_
      · rw [hpe]; simp (disch := omega) only [f_x_ask, nlit, onl, negone, iN_add, iN_mul, iN_sub, iN_pm, iN_addneg, iN_ix, iN_inb, iN_lt, iN_eq, iN_nneg, iN_nm, nm_iN, mI_neg, mI_nnn, ne_eq, not_true_eq_false, not_false_eq_true, true_and, and_true, bnd, Option.bind_some, ↓reduceIte, ltT, ltF, eqT, eqF, leT, leF]
      · simp (disch := omega) only [f_m_ask, nlit, g4, bT0, hM.1.1, nlit, onl, negone, iN_add, iN_mul, iN_sub, iN_pm, iN_addneg, iN_ix, iN_inb, iN_lt, iN_eq, iN_nneg, iN_nm, nm_iN, mI_neg, mI_nnn, ne_eq, not_true_eq_false, not_false_eq_true, true_and, and_true, bnd, Option.bind_some, ↓reduceIte, ltT, ltF, eqT, eqF, leT, leF]
    · obtain ⟨c', pl', pt', n', s', h', v', st', d', mn, mv', mt, tr, my', mp', ac, e1, e2, e3, e4, e5⟩ := J_reckon (c0 := c0) (m0 := m0) (pl := pl) (pt := pt) (tn := tn) (tz := tz) (th := th) (values := values) (stack := stack) (named := named) (truth := truth) (tried := tried) (my := my) (mp := mp) (mv := mv) hC hM hok hT hcl hml
      have hpe0 : (pe = iN 0) = False := by rw [hpe, iN_eq (by omega) (by omega)]; exact eq_false hp0
      by_cases hc : c' = iN 0
      · have hc' : (c' = iN 0) = True := eq_true hc
        refine ⟨mI, c', pl', pt', n', s', h', v', st', c', d', mn, mv', mt, tr, my', mp', ?_, ?_, e5⟩
        · simp (disch := omega) only [f_x_ask, hpe0, e1, un8, hc', nlit, onl, negone, iN_add, iN_mul, iN_sub, iN_pm, iN_addneg, iN_ix, iN_inb, iN_lt, iN_eq, iN_nneg, iN_nm, nm_iN, mI_neg, mI_nnn, ne_eq, not_true_eq_false, not_false_eq_true, true_and, and_true, bnd, Option.bind_some, ↓reduceIte, ltT, ltF, eqT, eqF, leT, leF]
        · simp (disch := omega) only [f_m_ask, nlit, g4, bT0, hM.1.1, e3, un9, hc', nlit, onl, negone, iN_add, iN_mul, iN_sub, iN_pm, iN_addneg, iN_ix, iN_inb, iN_lt, iN_eq, iN_nneg, iN_nm, nm_iN, mI_neg, mI_nnn, ne_eq, not_true_eq_false, not_false_eq_true, true_and, and_true, bnd, Option.bind_some, ↓reduceIte, ltT, ltF, eqT, eqF, leT, leF]
      · have hc' : (c' = iN 0) = False := eq_false hc
        have k1 := C_whom e2 hP (by omega)
        have k2 := M_whom e4 hM.1.1 hP (by omega)
        have hwl := whS_le ac.2.2 (s.1.1 - 1)
        have k3 := C_great e2 (show whS ac.2.2 (s.1.1 - 1) < 8 by omega)
        rw [← hpe] at k1
        by_cases hw0 : w = 0
        · refine ⟨iN (whS ac.2.2 (s.1.1 - 1)), c', pl', pt', n', s', h', v', st', c', d', mn, mv', mt, tr, my', mp', ?_, ?_, e5⟩
          · simp (disch := omega) only [f_x_ask, hpe0, e1, un8, hc', k1, nlit, onl, negone, iN_add, iN_mul, iN_sub, iN_pm, iN_addneg, iN_ix, iN_inb, iN_lt, iN_eq, iN_nneg, iN_nm, nm_iN, mI_neg, mI_nnn, ne_eq, not_true_eq_false, not_false_eq_true, true_and, and_true, bnd, Option.bind_some, ↓reduceIte, ltT, ltF, eqT, eqF, leT, leF]
          · simp (disch := omega) only [f_m_ask, nlit, g4, bT0, hM.1.1, e3, un9, hc', k2, un2, nlit, onl, negone, iN_add, iN_mul, iN_sub, iN_pm, iN_addneg, iN_ix, iN_inb, iN_lt, iN_eq, iN_nneg, iN_nm, nm_iN, mI_neg, mI_nnn, ne_eq, not_true_eq_false, not_false_eq_true, true_and, and_true, bnd, Option.bind_some, ↓reduceIte, ltT, ltF, eqT, eqF, leT, leF]
        · refine ⟨mxS (ac.2.2 (whS ac.2.2 (s.1.1 - 1))), c', pl', pt', n', s', h', v', st', c', d', mn, mv', mt, tr, my', mp', ?_, ?_, e5⟩
          · simp (disch := omega) only [f_x_ask, hpe0, e1, un8, hc', k1, k3, nlit, onl, negone, iN_add, iN_mul, iN_sub, iN_pm, iN_addneg, iN_ix, iN_inb, iN_lt, iN_eq, iN_nneg, iN_nm, nm_iN, mI_neg, mI_nnn, ne_eq, not_true_eq_false, not_false_eq_true, true_and, and_true, bnd, Option.bind_some, ↓reduceIte, ltT, ltF, eqT, eqF, leT, leF]
          · simp (disch := omega) only [f_m_ask, nlit, g4, bT0, hM.1.1, e3, un9, hc', k2, un2, nlit, onl, negone, iN_add, iN_mul, iN_sub, iN_pm, iN_addneg, iN_ix, iN_inb, iN_lt, iN_eq, iN_nneg, iN_nm, nm_iN, mI_neg, mI_nnn, ne_eq, not_true_eq_false, not_false_eq_true, true_and, and_true, bnd, Option.bind_some, ↓reduceIte, ltT, ltF, eqT, eqF, leT, leF]
end
