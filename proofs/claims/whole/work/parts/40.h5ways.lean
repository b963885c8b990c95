section
variable {x : Cx} {a texts : Nat → Int32} {book : List (Option (Bool × Nat × Nat))}
theorem stps_pos {σ ε : Type} {f : σ → Option (σ ⊕ ε)} {N : Nat} {s s' : σ} (h : stps f N s s') (hN : 0 < N) : ∃ u, f s = some (.inl u) ∧ stps f (N - 1) u s' := by
  obtain ⟨N, rfl⟩ : ∃ z, N = z + 1 := ⟨N - 1, by omega⟩
  exact h
theorem M_fill8 {f : Nat → Int32} : ∃ f', itr (un2 fb_m_findWays_7) KF (iN 0, f) = some f' ∧ ∀ k, k < 8 → f' k = iN 0 := by
  let D : Nat → Nat → Int32 := fun z k => if k < z then iN 0 else f k
  have hS : ∀ z, upd (D z) z (iN 0) = D (z + 1) := by
    intro z; funext k
    show upd (D z) _ _ k = if _ then _ else _
    by_cases q : k = z
    · subst q; rw [upd_same, if_pos (by omega)]
    · rw [upd_ne q]
      show (if _ then _ else _) = _
      by_cases r : k < z
      · rw [if_pos r, if_pos (by omega)]
      · rw [if_neg r, if_neg (by omega)]
  have := itr_seq (f := un2 fb_m_findWays_7) (fun z => (iN z, D z)) (e := D 8) 8 KF (fun z hz => by simp (disch := omega) only [un2, fb_m_findWays_7, nlit, onl, negone, iN_add, iN_mul, iN_sub, iN_pm, iN_addneg, iN_ix, iN_inb, iN_lt, iN_eq, iN_nneg, iN_nm, nm_iN, mI_neg, mI_nnn, ne_eq, not_true_eq_false, not_false_eq_true, true_and, and_true, bnd, Option.bind_some, ↓reduceIte, ltT, ltF, eqT, eqF, leT, leF, hS]) (by simp (disch := omega) only [un2, fb_m_findWays_7, nlit, onl, negone, iN_add, iN_mul, iN_sub, iN_pm, iN_addneg, iN_ix, iN_inb, iN_lt, iN_eq, iN_nneg, iN_nm, nm_iN, mI_neg, mI_nnn, ne_eq, not_true_eq_false, not_false_eq_true, true_and, and_true, bnd, Option.bind_some, ↓reduceIte, ltT, ltF, eqT, eqF, leT, leF]) (kf_lt (by omega))
  have e : D 0 = f := funext fun k => if_neg (by omega)
  rw [e] at this
  exact ⟨D 8, this, fun k hk => if_pos hk⟩
theorem M_fill72 {f : Nat → Int32} : ∃ f', itr (un2 fb_m_findWays_28) KF (iN 0, f) = some f' ∧ ∀ k, k < 72 → f' k = iN 0 := by
  let D : Nat → Nat → Int32 := fun z k => if k < z then iN 0 else f k
  have hS : ∀ z, upd (D z) z (iN 0) = D (z + 1) := by
    intro z; funext k
    show upd (D z) _ _ k = if _ then _ else _
    by_cases q : k = z
    · subst q; rw [upd_same, if_pos (by omega)]
    · rw [upd_ne q]
      show (if _ then _ else _) = _
      by_cases r : k < z
      · rw [if_pos r, if_pos (by omega)]
      · rw [if_neg r, if_neg (by omega)]
  have := itr_seq (f := un2 fb_m_findWays_28) (fun z => (iN z, D z)) (e := D 72) 72 KF (fun z hz => by simp (disch := omega) only [un2, fb_m_findWays_28, nlit, onl, negone, iN_add, iN_mul, iN_sub, iN_pm, iN_addneg, iN_ix, iN_inb, iN_lt, iN_eq, iN_nneg, iN_nm, nm_iN, mI_neg, mI_nnn, ne_eq, not_true_eq_false, not_false_eq_true, true_and, and_true, bnd, Option.bind_some, ↓reduceIte, ltT, ltF, eqT, eqF, leT, leF, hS]) (by simp (disch := omega) only [un2, fb_m_findWays_28, nlit, onl, negone, iN_add, iN_mul, iN_sub, iN_pm, iN_addneg, iN_ix, iN_inb, iN_lt, iN_eq, iN_nneg, iN_nm, nm_iN, mI_neg, mI_nnn, ne_eq, not_true_eq_false, not_false_eq_true, true_and, and_true, bnd, Option.bind_some, ↓reduceIte, ltT, ltF, eqT, eqF, leT, leF]) (kf_lt (by omega))
  have e : D 0 = f := funext fun k => if_neg (by omega)
  rw [e] at this
  exact ⟨D 72, this, fun k hk => if_pos hk⟩
def ac0 : Ac := (iN 0, fun _ => iN 0, fun _ _ => iN 0)
theorem M_findWays (hx : CxOK x) (hm : MX a texts x) (h7 : a 7 = iN book.length) (hk1 : ∀ k, book[k]? = some none → a (125 + 3 * k + 1) = mI) (hk2 : ∀ (k : Nat) (q : Bool × Nat × Nat), book[k]? = some (some q) → a (125 + 3 * k) = b01 q.1 ∧ a (125 + 3 * k + 1) = iN q.2.1 ∧ a (125 + 3 * k + 2) = iN q.2.2) (hlen : book.length ≤ 6) (hq8 : ∀ q ∈ book, ∀ z, q = some z → z.2.1 < 8 ∧ z.2.2 < x.2.1) {t : Tn} (ht : TW t) {c0 : Int32} {d named truth tried my pa : Nat → Int32} {values : Nat → Int64} (hd : MT d 0 t) : ∃ c' d' n' v' t1 tr my' pa', f_m_findWays (iN 0) c0 a d texts named values truth tried my pa = some (iN 0, c', d', n', v', t1, tr, my', pa') ∧ MAc c' my' pa' (wyF x book t ac0) ∧ ∀ j, j < 70 → d' j = d j := by
  obtain ⟨my0, e1, e2⟩ := M_fill8 (f := my)
  obtain ⟨pa0, e3, e4⟩ := M_fill72 (f := pa)
  obtain ⟨d1, c1, c2, c3⟩ := M_copyT (i := 0) (j := 2) hd ht (by decide) (by decide) (by decide)
  have hac : MAc (iN 0) my0 pa0 ac0 := ⟨rfl, e2, fun p hp => ⟨e4 _ (by omega), fun n hn => e4 _ (by omega)⟩⟩
  obtain ⟨N, b', c', d', n', v', t1, tr, my', pa', w0, w1, w2, w3, w4, -⟩ := M_walk hx hm h7 hk1 hk2 hlen hq8 book.length 0 (by omega) (iN 0) (iN 0) d1 named truth (upd tried 0 mI) my0 pa0 values t ac0 upd_same c2 ht hac
  have hN : NBs book.length ≤ NBs 6 := by
    have mono : ∀ r, NBs r ≤ NBs (r + 1) := fun r => by show NBs r ≤ 193 * (NBs r + 2); omega
    have : ∀ k, book.length + k ≤ 6 → NBs book.length ≤ NBs (book.length + k) := by
      intro k
      induction k with
      | zero => intro _; exact Nat.le_refl _
      | succ k ih => intro h; exact Nat.le_trans (ih (by omega)) (mono _)
    have := this (6 - book.length) (by omega)
    rwa [show book.length + (6 - book.length) = 6 by omega] at this
  have h6 : NBs 6 < KF := by decide
  rw [show iN 0 + mI = mI from rfl] at w2
  obtain ⟨u, hu, hst⟩ := stps_pos w2 w0
  have hend : ∀ n, 0 < n → itr (un10 (fb_m_findWays_62 a texts)) n (mI, b', c', d', n', v', t1, tr, my', pa') = some (b', c', d', n', v', t1, tr, my', pa') := by
    intro n hn
    obtain ⟨n, rfl⟩ : ∃ z, n = z + 1 := ⟨n - 1, by omega⟩
    refine itr_end ?_
    simp only [un10, fb_m_findWays_62, nlit, mI_neg, ↓reduceIte]
  have hrun : itr (un10 (fb_m_findWays_62 a texts)) KF u = some (b', c', d', n', v', t1, tr, my', pa') := by
    have hk : KF = (KF - (N - 1)) + (N - 1) := by omega
    rw [hk, stps_itr (N - 1) (KF - (N - 1)) _ _ hst]
    exact hend _ (by omega)
  refine ⟨c', d', n', v', t1, tr, my', pa', ?_, by rw [← List.drop_zero (l := book)]; exact w3, fun j hj => (w4 j (by omega)).trans (c3 j (Or.inl (by omega)))⟩
  have h00 : (iN 0 < iN 0) = False := iN_nneg (by omega)
  have eb : f_m_tries b' (iN 0) = some (iN 0) := rfl
  have hu' : un10 (fb_m_findWays_62 a texts) (iN 0, iN 0, iN 0, d1, named, values, truth, upd tried 0 mI, my0, pa0) = some (.inl u) := hu
  by_cases hz : (iN 0 = a 7)
  · have hz' : (iN 0 = a 7) = True := eq_true hz
    simp only [un10, fb_m_findWays_62, nlit, negone, h00, hz', ↓reduceIte] at hu'
    cases ht2 : f_m_tries (iN 0) (iN 2 + iN 0) with
    | none => rw [ht2] at hu'; cases hu'
    | some bb =>
      rw [ht2, Option.bind_some] at hu'
      cases hc : f_m_count bb (iN 0) a d1 my0 pa0 with
      | none => rw [hc] at hu'; cases hu'
      | some z =>
        obtain ⟨z1, z2, z3⟩ := z
        rw [hc, Option.bind_some] at hu'
        have hu2 : u = (iN 0 + mI, bb, z1, d1, named, values, truth, upd tried 0 mI, z2, z3) := (Sum.inl.inj (Option.some.inj hu')).symm
        rw [hu2] at hrun
        simp only [f_m_findWays, nlit, negone, e1, e3, c1, bnd, h00, hz', ht2, hc, un3, hrun, un9, eb, ↓reduceIte, Option.bind_some]
  · have hz' : (iN 0 = a 7) = False := eq_false hz
    simp only [un10, fb_m_findWays_62, nlit, negone, h00, hz', ↓reduceIte] at hu'
    cases hsb : f_m_stepBook (iN 0) a d1 texts named values truth (upd tried 0 mI) (iN 0) with
    | none => rw [hsb] at hu'; cases hu'
    | some z =>
      obtain ⟨z1, z2, z3, z4, z5, z6, z7⟩ := z
      rw [hsb, Option.bind_some] at hu'
      by_cases hz1 : z1 = iN 0
      · have hz1' : (z1 = iN 0) = True := eq_true hz1
        simp only [un7, hz1', ↓reduceIte] at hu'
        have hu2 : u = (iN 0 + mI, z2, iN 0, z3, z4, z5, z6, z7, my0, pa0) := (Sum.inl.inj (Option.some.inj hu')).symm
        rw [hu2] at hrun
        simp only [f_m_findWays, nlit, negone, e1, e3, c1, bnd, h00, hz', hsb, un7, hz1', hrun, un9, eb, ↓reduceIte, Option.bind_some]
      · have hz1' : (z1 = iN 0) = False := eq_false hz1
        have hin : (inb (iN 0 + iN 1) 7) = True := eq_true (by decide)
        simp only [un7, hz1', hin, bnd, ↓reduceIte] at hu'
        have hu2 : u = (iN 0 + iN 1, z2, iN 0, z3, z4, z5, z6, upd z7 (ix (iN 0 + iN 1)) mI, my0, pa0) := (Sum.inl.inj (Option.some.inj hu')).symm
        rw [hu2] at hrun
        simp only [f_m_findWays, nlit, negone, e1, e3, c1, bnd, h00, hz', hsb, un7, hz1', hin, hrun, un9, eb, ↓reduceIte, Option.bind_some]
end
