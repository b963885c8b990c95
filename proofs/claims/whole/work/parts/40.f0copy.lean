/-! ===== PURE: copies: a town, a world; image, back ===== -/
theorem cpy_in {α : Type} {f g : Nat → α} {n k : Nat} (h : k < n) : va_cpy f g 0 0 n k = f k := by
  unfold va_cpy
  rw [if_pos (by omega)]
  congr 1
  omega
theorem cpy_out {α : Type} {f g : Nat → α} {n k : Nat} (h : n ≤ k) : va_cpy f g 0 0 n k = g k := by
  unfold va_cpy
  rw [if_neg (by omega)]
theorem C_copyTown {nm sz nm' sz' : Nat → Int32} {hp hp' : Nat → Nat → Int32} {t : Tn} (h : CT nm' sz' hp' t) (ht : TW t) : ∃ n1 s1 h1, f_town_copyFrom nm sz hp nm' sz' hp' = some (n1, s1, h1) ∧ CT n1 s1 h1 t := by
  let H : Nat → Nat → Nat → Int32 := fun z i => if i < z then va_cpy (hp' i) (hp i) 0 0 8 else hp i
  have hS : ∀ z, setR (H z) z (va_cpy (hp' z) (hp z) 0 0 8) = H (z + 1) := by
    intro z; funext i
    show setR (H z) z _ i = if i < z + 1 then _ else _
    by_cases q : i = z
    · subst q; rw [setR_same, if_pos (by omega)]
    · rw [setR_ne q]
      show (if i < z then _ else _) = _
      by_cases r : i < z
      · rw [if_pos r, if_pos (by omega)]
      · rw [if_neg r, if_neg (by omega)]
  have hz : ∀ z, H z z = hp z := fun z => if_neg (by omega)
  have hit : itr (un2 (fb_town_copyFrom_31 hp')) KF (iN 0, hp) = some (H 3) := by
    have := itr_seq (f := un2 (fb_town_copyFrom_31 hp')) (fun z => (iN z, H z)) (e := H 3) 3 KF (fun z hz3 => ?_) ?_ (kf_lt (by omega))
    · have e : H 0 = hp := funext fun i => if_neg (by omega)
      rw [e] at this
      exact this
    · simp (disch := omega) only [un2, fb_town_copyFrom_31, nlit, onl, negone, iN_add, iN_mul, iN_sub, iN_pm, iN_addneg, iN_ix, iN_inb, iN_lt, iN_eq, iN_nneg, iN_nm, nm_iN, mI_neg, mI_nnn, ne_eq, not_true_eq_false, not_false_eq_true, true_and, and_true, bnd, Option.bind_some, ↓reduceIte, ltT, ltF, eqT, eqF, leT, leF, hz, hS]
    · simp (disch := omega) only [un2, fb_town_copyFrom_31, nlit, onl, negone, iN_add, iN_mul, iN_sub, iN_pm, iN_addneg, iN_ix, iN_inb, iN_lt, iN_eq, iN_nneg, iN_nm, nm_iN, mI_neg, mI_nnn, ne_eq, not_true_eq_false, not_false_eq_true, true_and, and_true, bnd, Option.bind_some, ↓reduceIte, ltT, ltF, eqT, eqF, leT, leF]
  refine ⟨va_cpy nm' nm 0 0 8, va_cpy sz' sz 0 0 3, H 3, ?_, fun i hi => ?_, fun g hg => ?_, fun g k n hg hk => ?_⟩
  · simp only [f_town_copyFrom, bnd, nlit, hit, Option.bind_some]
  · rw [cpy_in hi]; exact h.1 i hi
  · rw [cpy_in hg]; exact h.2.1 g hg
  · have hl := ht.len g
    have hkl := (List.getElem?_eq_some_iff.mp hk).1
    show (if g < 3 then va_cpy (hp' g) (hp g) 0 0 8 else hp g) k = _
    rw [if_pos hg, cpy_in (by omega)]
    exact h.2.2 g k n hg hk
/-- the reference's copy of row from to row to -/
theorem M_copy {d : Nat → Int32} {i j : Nat} (hi : i < 16) (hj : j < 16) (hij : i ≠ j) : ∃ d', f_m_copy d (iN i) (iN j) = some d' ∧ (∀ k, k < 35 → d' (35 * j + k) = d (35 * i + k)) ∧ ∀ k, k < 35 * j ∨ 35 * j + 35 ≤ k → d' k = d k := by
  let D : Nat → Nat → Int32 := fun z k => if 35 * j ≤ k ∧ k < 35 * j + z then d (35 * i + (k - 35 * j)) else d k
  have hS : ∀ z, upd (D z) (35 * j + z) (d (35 * i + z)) = D (z + 1) := by
    intro z; funext k
    show upd (D z) _ _ k = if _ then _ else _
    by_cases q : k = 35 * j + z
    · subst q
      rw [upd_same, if_pos (by omega)]
      congr 1; omega
    · rw [upd_ne q]
      show (if _ then _ else _) = _
      by_cases r : 35 * j ≤ k ∧ k < 35 * j + z
      · rw [if_pos r, if_pos (by omega)]
      · rw [if_neg r, if_neg (by omega)]
  have hr : ∀ z, z < 35 → D z (35 * i + z) = d (35 * i + z) := by
    intro z hz
    exact if_neg (by omega)
  have hit : itr (un2 (fb_m_copy_2 (iN i) (iN j))) KF (iN 0, d) = some (D 35) := by
    have := itr_seq (f := un2 (fb_m_copy_2 (iN i) (iN j))) (fun z => (iN z, D z)) (e := D 35) 35 KF (fun z hz => ?_) ?_ (kf_lt (by omega))
    · have e : D 0 = d := funext fun k => if_neg (by omega)
      rw [e] at this
      exact this
    · have hrz := hr z hz
      simp (disch := omega) only [un2, fb_m_copy_2, nlit, onl, negone, iN_add, iN_mul, iN_sub, iN_pm, iN_addneg, iN_ix, iN_inb, iN_lt, iN_eq, iN_nneg, iN_nm, nm_iN, mI_neg, mI_nnn, ne_eq, not_true_eq_false, not_false_eq_true, true_and, and_true, bnd, Option.bind_some, ↓reduceIte, ltT, ltF, eqT, eqF, leT, leF, hrz, hS]
    · simp (disch := omega) only [un2, fb_m_copy_2, nlit, onl, negone, iN_add, iN_mul, iN_sub, iN_pm, iN_addneg, iN_ix, iN_inb, iN_lt, iN_eq, iN_nneg, iN_nm, nm_iN, mI_neg, mI_nnn, ne_eq, not_true_eq_false, not_false_eq_true, true_and, and_true, bnd, Option.bind_some, ↓reduceIte, ltT, ltF, eqT, eqF, leT, leF]
  refine ⟨D 35, by simp only [f_m_copy, nlit, hit, Option.bind_some], fun k hk => ?_, fun k hk => if_neg (by omega)⟩
  show (if _ then _ else _) = _
  rw [if_pos (by omega)]
  congr 1; omega
theorem MT.moved {d d' : Nat → Int32} {b b' : Nat} {t : Tn} (h : MT d b t) (ht : TW t) (he : ∀ k, k < 35 → d' (b' + k) = d (b + k)) : MT d' b' t := by
  refine ⟨fun i hi => ?_, fun g hg => ?_, fun g k n hg hk => ?_⟩
  · rw [he i (by omega)]; exact h.1 i hi
  · have := he (8 + g) (by omega)
    rw [show b' + 8 + g = b' + (8 + g) by omega, this, show b + (8 + g) = b + 8 + g by omega]
    exact h.2.1 g hg
  · have hl := ht.len g
    have hkl := (List.getElem?_eq_some_iff.mp hk).1
    have := he (11 + 8 * g + k) (by omega)
    rw [show b' + 11 + 8 * g + k = b' + (11 + 8 * g + k) by omega, this, show b + (11 + 8 * g + k) = b + 11 + 8 * g + k by omega]
    exact h.2.2 g k n hg hk
theorem M_copyT {d : Nat → Int32} {i j : Nat} {t : Tn} (h : MT d (35 * i) t) (ht : TW t) (hi : i < 16) (hj : j < 16) (hij : i ≠ j) : ∃ d', f_m_copy d (iN i) (iN j) = some d' ∧ MT d' (35 * j) t ∧ ∀ k, k < 35 * j ∨ 35 * j + 35 ≤ k → d' k = d k := by
  obtain ⟨d', h1, h2, h3⟩ := M_copy (d := d) hi hj hij
  exact ⟨d', h1, h.moved ht h2, h3⟩
theorem C_bornLoop {f g : Nat → Int32} {p : Nat → Bool} (h : ∀ i, i < 8 → f i = b01 (p i)) : itr (un2 (fb_world_copyFrom_50 f)) KF (iN 0, g) = some (fun k => if k < 8 then f k else g k) := by
  let D : Nat → Nat → Int32 := fun z k => if k < z then f k else g k
  have hS : ∀ z, z < 8 → upd (D z) z (vp_nar .boolean (f z)) = D (z + 1) := by
    intro z hz
    rw [h z hz, nar_b01, ← h z hz]
    funext k
    show upd (D z) _ _ k = if _ then _ else _
    by_cases q : k = z
    · subst q; rw [upd_same, if_pos (by omega)]
    · rw [upd_ne q]
      show (if _ then _ else _) = _
      by_cases r : k < z
      · rw [if_pos r, if_pos (by omega)]
      · rw [if_neg r, if_neg (by omega)]
  have := itr_seq (f := un2 (fb_world_copyFrom_50 f)) (fun z => (iN z, D z)) (e := D 8) 8 KF (fun z hz => by have hSz := hS z hz; simp (disch := omega) only [un2, fb_world_copyFrom_50, nlit, onl, negone, iN_add, iN_mul, iN_sub, iN_pm, iN_addneg, iN_ix, iN_inb, iN_lt, iN_eq, iN_nneg, iN_nm, nm_iN, mI_neg, mI_nnn, ne_eq, not_true_eq_false, not_false_eq_true, true_and, and_true, bnd, Option.bind_some, ↓reduceIte, ltT, ltF, eqT, eqF, leT, leF, hSz]) (by simp (disch := omega) only [un2, fb_world_copyFrom_50, nlit, onl, negone, iN_add, iN_mul, iN_sub, iN_pm, iN_addneg, iN_ix, iN_inb, iN_lt, iN_eq, iN_nneg, iN_nm, nm_iN, mI_neg, mI_nnn, ne_eq, not_true_eq_false, not_false_eq_true, true_and, and_true, bnd, Option.bind_some, ↓reduceIte, ltT, ltF, eqT, eqF, leT, leF]) (kf_lt (by omega))
  have e : D 0 = g := funext fun k => if_neg (by omega)
  rw [e] at this
  exact this
theorem C_lotLoop {f g : Nat → Int32} {p : Nat → Bool} (h : ∀ i, i < 3 → f i = b01 (p i)) : itr (un2 (fb_world_copyFrom_76 f)) KF (iN 0, g) = some (fun k => if k < 3 then f k else g k) := by
  let D : Nat → Nat → Int32 := fun z k => if k < z then f k else g k
  have hS : ∀ z, z < 3 → upd (D z) z (vp_nar .boolean (f z)) = D (z + 1) := by
    intro z hz
    rw [h z hz, nar_b01, ← h z hz]
    funext k
    show upd (D z) _ _ k = if _ then _ else _
    by_cases q : k = z
    · subst q; rw [upd_same, if_pos (by omega)]
    · rw [upd_ne q]
      show (if _ then _ else _) = _
      by_cases r : k < z
      · rw [if_pos r, if_pos (by omega)]
      · rw [if_neg r, if_neg (by omega)]
  have := itr_seq (f := un2 (fb_world_copyFrom_76 f)) (fun z => (iN z, D z)) (e := D 3) 3 KF (fun z hz => by have hSz := hS z hz; simp (disch := omega) only [un2, fb_world_copyFrom_76, nlit, onl, negone, iN_add, iN_mul, iN_sub, iN_pm, iN_addneg, iN_ix, iN_inb, iN_lt, iN_eq, iN_nneg, iN_nm, nm_iN, mI_neg, mI_nnn, ne_eq, not_true_eq_false, not_false_eq_true, true_and, and_true, bnd, Option.bind_some, ↓reduceIte, ltT, ltF, eqT, eqF, leT, leF, hSz]) (by simp (disch := omega) only [un2, fb_world_copyFrom_76, nlit, onl, negone, iN_add, iN_mul, iN_sub, iN_pm, iN_addneg, iN_ix, iN_inb, iN_lt, iN_eq, iN_nneg, iN_nm, nm_iN, mI_neg, mI_nnn, ne_eq, not_true_eq_false, not_false_eq_true, true_and, and_true, bnd, Option.bind_some, ↓reduceIte, ltT, ltF, eqT, eqF, leT, leF]) (kf_lt (by omega))
  have e : D 0 = g := funext fun k => if_neg (by omega)
  rw [e] at this
  exact this
theorem tri_copy {n n' : Int32} {N : Nat} {f f' : Nat → Int32} (hN : N < 1000) : f_tri_copyFrom n N f n' N f' = some (n', va_cpy f' f 0 0 N) := by
  simp (disch := omega) only [f_tri_copyFrom, f_math_min_II, nlit, onl, negone, iN_add, iN_mul, iN_sub, iN_pm, iN_addneg, iN_ix, iN_inb, iN_lt, iN_eq, iN_nneg, iN_nm, nm_iN, mI_neg, mI_nnn, ne_eq, not_true_eq_false, not_false_eq_true, true_and, and_true, bnd, Option.bind_some, ↓reduceIte, ltT, ltF, eqT, eqF, leT, leF, Nat.zero_add]
section
variable {pe ga hr tx rl xx dz rz kz pe' ga' hr' tx' rl' xx' dz' rz' kz' : Int32} {bo lo pa dn nm sz dc rc kc bo' lo' pa' dn' nm' sz' dc' rc' kc' a d image : Nat → Int32} {hp hp' : Nat → Nat → Int32} {s s0 : Wd}
theorem C_copyWorld (h : CW pe' ga' hr' tx' rl' xx' bo' lo' pa' dn' nm' sz' hp' dz' dc' rz' rc' kz' kc' s) (hok : WOK s) : ∃ bo1 lo1 pa1 dn1 nm1 sz1 hp1 dc1 rc1 kc1, f_world_copyFrom pe ga hr tx rl xx pa dn dz rz kz lo bo nm sz hp dc rc kc pe' ga' hr' tx' rl' xx' pa' dn' dz' rz' kz' lo' bo' nm' sz' hp' dc' rc' kc' = some (pe', ga', hr', tx', rl', xx', pa1, dn1, dz', rz', kz', lo1, bo1, nm1, sz1, hp1, dc1, rc1, kc1) ∧ CW pe' ga' hr' tx' rl' xx' bo1 lo1 pa1 dn1 nm1 sz1 hp1 dz' dc1 rz' rc1 kz' kc1 s := by
  obtain ⟨hB, ⟨c7, c8, c9, c10⟩, cT, cD, cR, cK⟩ := h
  obtain ⟨-, ⟨k7, -, -⟩, ⟨kD, -⟩, ⟨kR, -⟩, ⟨kK, -⟩⟩ := hok
  obtain ⟨n1, s1, h1, e1, e2⟩ := C_copyTown (nm := nm) (sz := sz) (hp := hp) cT k7
  refine ⟨fun k => if k < 8 then bo' k else bo k, fun k => if k < 3 then lo' k else lo k, va_cpy pa' pa 0 0 8, va_cpy dn' dn 0 0 8, n1, s1, h1, va_cpy dc' dc 0 0 60, va_cpy rc' rc 0 0 36, va_cpy kc' kc 0 0 18, ?_, hB, ⟨fun i hi => ?_, fun g hg => ?_, fun i hi => ?_, fun i hi => ?_⟩, e2, ⟨cD.1, fun k q hk => ?_⟩, ⟨cR.1, fun k q hk => ?_⟩, ⟨cK.1, fun k hk => ?_, fun k q hk => ?_⟩⟩
  · simp only [f_world_copyFrom, nlit, C_bornLoop c7, C_lotLoop c8, bnd, e1, un3, un2, tri_copy (show 60 < 1000 by decide), tri_copy (show 36 < 1000 by decide), tri_copy (show 18 < 1000 by decide), Option.bind_some, ↓reduceIte]
  · exact (if_pos hi).trans (c7 i hi)
  · exact (if_pos hg).trans (c8 g hg)
  · rw [cpy_in hi]; exact c9 i hi
  · rw [cpy_in hi]; exact c10 i hi
  · have hkl := (List.getElem?_eq_some_iff.mp hk).1
    rw [cpy_in (by omega), cpy_in (by omega), cpy_in (by omega)]; exact cD.2 k q hk
  · have hkl := (List.getElem?_eq_some_iff.mp hk).1
    rw [cpy_in (by omega), cpy_in (by omega)]; exact cR.2 k q hk
  · have hkl := (List.getElem?_eq_some_iff.mp hk).1
    rw [cpy_in (by omega)]; exact cK.2.1 k hk
  · have hkl := (List.getElem?_eq_some_iff.mp hk).1
    rw [cpy_in (by omega), cpy_in (by omega), cpy_in (by omega)]; exact cK.2.2 k q hk
theorem MA.moved {a' : Nat → Int32} (h : MA a s) (hok : WOK s) (he : ∀ j, j < 145 → a' j = a j) : MA a' s := by
  obtain ⟨⟨m1, m2, m3, m4, m5, m6⟩, ⟨m7, m8, m9, m10⟩, ⟨m11, m12⟩, ⟨m13, m14⟩, ⟨m15, m16, m17⟩⟩ := h
  obtain ⟨-, -, ⟨kD, -⟩, ⟨kR, -⟩, ⟨kK, -⟩⟩ := hok
  refine ⟨⟨?_, ?_, ?_, ?_, ?_, ?_⟩, ⟨fun i hi => ?_, fun g hg => ?_, fun i hi => ?_, fun i hi => ?_⟩, ⟨?_, fun k q hk => ?_⟩, ⟨?_, fun k q hk => ?_⟩, ⟨?_, fun k hk => ?_, fun k q hk => ?_⟩⟩
  · rw [he _ (by omega)]; exact m1
  · rw [he _ (by omega)]; exact m2
  · rw [he _ (by omega)]; exact m3
  · rw [he _ (by omega)]; exact m4
  · rw [he _ (by omega)]; exact m5
  · rw [he _ (by omega)]; exact m6
  · rw [he _ (by omega)]; exact m7 i hi
  · rw [he _ (by omega)]; exact m8 g hg
  · rw [he _ (by omega)]; exact m9 i hi
  · rw [he _ (by omega)]; exact m10 i hi
  · rw [he _ (by omega)]; exact m11
  · have hkl := (List.getElem?_eq_some_iff.mp hk).1
    rw [he _ (by omega), he _ (by omega), he _ (by omega)]; exact m12 k q hk
  · rw [he _ (by omega)]; exact m13
  · have hkl := (List.getElem?_eq_some_iff.mp hk).1
    rw [he _ (by omega), he _ (by omega)]; exact m14 k q hk
  · rw [he _ (by omega)]; exact m15
  · have hkl := (List.getElem?_eq_some_iff.mp hk).1
    rw [he _ (by omega)]; exact m16 k hk
  · have hkl := (List.getElem?_eq_some_iff.mp hk).1
    rw [he _ (by omega), he _ (by omega), he _ (by omega)]; exact m17 k q hk
theorem M_keepLoop {f g : Nat → Int32} : itr (un2 (fb_m_keep_2 f)) KF (iN 0, g) = some (fun k => if k < 145 then f k else g k) := by
  let D : Nat → Nat → Int32 := fun z k => if k < z then f k else g k
  have hS : ∀ z, upd (D z) z (f z) = D (z + 1) := by
    intro z; funext k
    show upd (D z) _ _ k = if _ then _ else _
    by_cases q : k = z
    · subst q; rw [upd_same, if_pos (by omega)]
    · rw [upd_ne q]
      show (if _ then _ else _) = _
      by_cases r : k < z
      · rw [if_pos r, if_pos (by omega)]
      · rw [if_neg r, if_neg (by omega)]
  have := itr_seq (f := un2 (fb_m_keep_2 f)) (fun z => (iN z, D z)) (e := D 145) 145 KF (fun z hz => by simp (disch := omega) only [un2, fb_m_keep_2, nlit, onl, negone, iN_add, iN_mul, iN_sub, iN_pm, iN_addneg, iN_ix, iN_inb, iN_lt, iN_eq, iN_nneg, iN_nm, nm_iN, mI_neg, mI_nnn, ne_eq, not_true_eq_false, not_false_eq_true, true_and, and_true, bnd, Option.bind_some, ↓reduceIte, ltT, ltF, eqT, eqF, leT, leF, hS]) (by simp (disch := omega) only [un2, fb_m_keep_2, nlit, onl, negone, iN_add, iN_mul, iN_sub, iN_pm, iN_addneg, iN_ix, iN_inb, iN_lt, iN_eq, iN_nneg, iN_nm, nm_iN, mI_neg, mI_nnn, ne_eq, not_true_eq_false, not_false_eq_true, true_and, and_true, bnd, Option.bind_some, ↓reduceIte, ltT, ltF, eqT, eqF, leT, leF]) (kf_lt (by omega))
  have e : D 0 = g := funext fun k => if_neg (by omega)
  rw [e] at this
  exact this
theorem M_backLoop {f g : Nat → Int32} : itr (un2 (fb_m_back_2 f)) KF (iN 0, g) = some (fun k => if k < 145 then f k else g k) := by
  let D : Nat → Nat → Int32 := fun z k => if k < z then f k else g k
  have hS : ∀ z, upd (D z) z (f z) = D (z + 1) := by
    intro z; funext k
    show upd (D z) _ _ k = if _ then _ else _
    by_cases q : k = z
    · subst q; rw [upd_same, if_pos (by omega)]
    · rw [upd_ne q]
      show (if _ then _ else _) = _
      by_cases r : k < z
      · rw [if_pos r, if_pos (by omega)]
      · rw [if_neg r, if_neg (by omega)]
  have := itr_seq (f := un2 (fb_m_back_2 f)) (fun z => (iN z, D z)) (e := D 145) 145 KF (fun z hz => by simp (disch := omega) only [un2, fb_m_back_2, nlit, onl, negone, iN_add, iN_mul, iN_sub, iN_pm, iN_addneg, iN_ix, iN_inb, iN_lt, iN_eq, iN_nneg, iN_nm, nm_iN, mI_neg, mI_nnn, ne_eq, not_true_eq_false, not_false_eq_true, true_and, and_true, bnd, Option.bind_some, ↓reduceIte, ltT, ltF, eqT, eqF, leT, leF, hS]) (by simp (disch := omega) only [un2, fb_m_back_2, nlit, onl, negone, iN_add, iN_mul, iN_sub, iN_pm, iN_addneg, iN_ix, iN_inb, iN_lt, iN_eq, iN_nneg, iN_nm, nm_iN, mI_neg, mI_nnn, ne_eq, not_true_eq_false, not_false_eq_true, true_and, and_true, bnd, Option.bind_some, ↓reduceIte, ltT, ltF, eqT, eqF, leT, leF]) (kf_lt (by omega))
  have e : D 0 = g := funext fun k => if_neg (by omega)
  rw [e] at this
  exact this
theorem M_image (hM : MA a s) (hok : WOK s) (hT : MT d 0 s.2.2.1) : ∃ image' d', f_m_image a image d = some (iN s.1.1, image', d') ∧ MA image' s ∧ MT d' 35 s.2.2.1 ∧ MT d' 0 s.2.2.1 := by
  obtain ⟨d', e1, e2, e3⟩ := M_copyT (i := 0) (j := 1) hT hok.2.1.1 (by decide) (by decide) (by decide)
  refine ⟨fun k => if k < 145 then a k else image k, d', ?_, hM.moved hok (fun j hj => if_pos hj), e2, hT.moved hok.2.1.1 (fun k hk => by rw [e3 _ (by omega)])⟩
  simp only [f_m_image, f_m_keep, nlit, M_keepLoop, e1, un2, Option.bind_some, hM.1.1]
theorem M_back (hM : MA image s) (hok : WOK s) (hT : MT d 35 s.2.2.1) : ∃ a' d', f_m_back a image d = some (iN s.1.1, a', d') ∧ MA a' s ∧ MT d' 0 s.2.2.1 ∧ MT d' 35 s.2.2.1 := by
  obtain ⟨d', e1, e2, e3⟩ := M_copyT (i := 1) (j := 0) hT hok.2.1.1 (by decide) (by decide) (by decide)
  have hA : MA (fun k => if k < 145 then image k else a k) s := hM.moved hok (fun j hj => if_pos hj)
  refine ⟨fun k => if k < 145 then image k else a k, d', ?_, hA, e2, hT.moved hok.2.1.1 (fun k hk => by rw [e3 _ (by omega)])⟩
  have e0 : (fun k => if k < 145 then image k else a k) 0 = iN s.1.1 := hA.1.1
  dsimp only at e0
  simp only [f_m_back, nlit, M_backLoop, e1, Option.bind_some, e0]
theorem C_image (h : CW pe' ga' hr' tx' rl' xx' bo' lo' pa' dn' nm' sz' hp' dz' dc' rz' rc' kz' kc' s) (hok : WOK s) : ∃ bo1 lo1 pa1 dn1 nm1 sz1 hp1 dc1 rc1 kc1, f_x_image pe' ga' hr' tx' rl' xx' pe ga hr tx rl xx pa' pa dn' dn dz' dz rz' rz kz' kz lo' lo bo' bo nm' nm sz' sz hp' hp dc' dc rc' rc kc' kc = some (iN s.1.1, pe', ga', hr', tx', rl', xx', pa1, dn1, dz', rz', kz', lo1, bo1, nm1, sz1, hp1, dc1, rc1, kc1) ∧ CW pe' ga' hr' tx' rl' xx' bo1 lo1 pa1 dn1 nm1 sz1 hp1 dz' dc1 rz' rc1 kz' kc1 s := by
  obtain ⟨bo1, lo1, pa1, dn1, nm1, sz1, hp1, dc1, rc1, kc1, e1, e2⟩ := C_copyWorld (pe := pe) (ga := ga) (hr := hr) (tx := tx) (rl := rl) (xx := xx) (bo := bo) (lo := lo) (pa := pa) (dn := dn) (dz := dz) (rz := rz) (kz := kz) (nm := nm) (sz := sz) (hp := hp) (dc := dc) (rc := rc) (kc := kc) h hok
  refine ⟨bo1, lo1, pa1, dn1, nm1, sz1, hp1, dc1, rc1, kc1, ?_, e2⟩
  have hpe := h.1.1
  subst hpe
  simp only [f_x_image, e1, un19, Option.bind_some]
theorem C_back (h : CW pe' ga' hr' tx' rl' xx' bo' lo' pa' dn' nm' sz' hp' dz' dc' rz' rc' kz' kc' s) (hok : WOK s) : ∃ bo1 lo1 pa1 dn1 nm1 sz1 hp1 dc1 rc1 kc1, f_x_back pe' ga' hr' tx' rl' xx' pe ga hr tx rl xx pa' pa dn' dn dz' dz rz' rz kz' kz lo' lo bo' bo nm' nm sz' sz hp' hp dc' dc rc' rc kc' kc = some (iN s.1.1, pe', ga', hr', tx', rl', xx', pa1, dn1, dz', rz', kz', lo1, bo1, nm1, sz1, hp1, dc1, rc1, kc1) ∧ CW pe' ga' hr' tx' rl' xx' bo1 lo1 pa1 dn1 nm1 sz1 hp1 dz' dc1 rz' rc1 kz' kc1 s := by
  obtain ⟨bo1, lo1, pa1, dn1, nm1, sz1, hp1, dc1, rc1, kc1, e1, e2⟩ := C_copyWorld (pe := pe) (ga := ga) (hr := hr) (tx := tx) (rl := rl) (xx := xx) (bo := bo) (lo := lo) (pa := pa) (dn := dn) (dz := dz) (rz := rz) (kz := kz) (nm := nm) (sz := sz) (hp := hp) (dc := dc) (rc := rc) (kc := kc) h hok
  refine ⟨bo1, lo1, pa1, dn1, nm1, sz1, hp1, dc1, rc1, kc1, ?_, e2⟩
  have hpe := h.1.1
  subst hpe
  simp only [f_x_back, e1, un19, Option.bind_some]
end
