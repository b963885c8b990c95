/-! ===== PURE: chance: the reference's walk ===== -/
theorem itF_mono {F : Nat → Nat → Nat} (h : ∀ k a, a ≤ F k a) : ∀ (n a : Nat), a ≤ itF F n a
  | 0, a => Nat.le_refl a
  | n + 1, a => Nat.le_trans (itF_mono h n a) (h n _)
theorem odW_mono {x : Cx} {who : Nat} {want : Option Nat} : ∀ (row : List (Nat × Nat)) (t : Tn) (s S : Nat), S ≤ odW adN x who want row t s S
  | [], t, s, S => by
    rw [odW]
    by_cases q : t.1 who = want
    · rw [if_pos q]; exact Nat.le_add_right _ _
    · rw [if_neg q]; exact Nat.le_refl _
  | q :: r, t, s, S => by
    rw [odW]
    by_cases c : lotQ x t q.1 q.2 = true
    · rw [if_pos c]; exact itF_mono (fun k a => odW_mono r _ _ a) _ _
    · rw [if_neg c]; exact odW_mono r _ _ _
def ltN (x : Cx) (row : List (Nat × Nat)) : Nat := (row.filter (fun q => x.2.2.2.1 q.2)).length
theorem ltN_cons {x : Cx} {q : Nat × Nat} {r : List (Nat × Nat)} : ltN x (q :: r) = ltN x r + if x.2.2.2.1 q.2 = true then 1 else 0 := by
  unfold ltN
  rw [List.filter_cons]
  by_cases c : x.2.2.2.1 q.2 = true
  · rw [if_pos c, if_pos c, List.length_cons]
  · rw [if_neg c, if_neg c]; rfl
theorem d840 {c j s : Nat} (hc : 0 < c) (hc8 : c ≤ 8) (h : s ∣ 840 ^ j) : s * c ∣ 840 ^ (j + 1) := by
  rw [Nat.pow_succ]
  refine Nat.mul_dvd_mul h ?_
  have : c = 1 ∨ c = 2 ∨ c = 3 ∨ c = 4 ∨ c = 5 ∨ c = 6 ∨ c = 7 ∨ c = 8 := by omega
  rcases this with rfl | rfl | rfl | rfl | rfl | rfl | rfl | rfl <;> decide
theorem dvdW {j s : Nat} (hj : j ≤ 6) (h : s ∣ 840 ^ j) : s ∣ oW := Nat.dvd_trans h (show 840 ^ j ∣ 840 ^ 6 from Nat.pow_dvd_pow 840 hj)
/-- how many there are to try, and each -/
def mnO (x : Cx) (t : Tn) (q : Nat × Nat) : Nat := if lotQ x t q.1 q.2 = true then (t.2 q.2).length else 1
def toO (x : Cx) (t : Tn) (q : Nat × Nat) (p : Nat) : Tn := if lotQ x t q.1 q.2 = true then inT t q.1 q.2 p ((t.2 q.2).getD p 0) else aft t (goS x t q.1 q.2)
theorem odW_cons {x : Cx} {who : Nat} {want : Option Nat} {q : Nat × Nat} {r : List (Nat × Nat)} {t : Tn} {s S : Nat} : odW adN x who want (q :: r) t s S = itF (fun p => odW adN x who want r (toO x t q p) (s * mnO x t q)) (mnO x t q) S := by
  rw [odW]
  unfold mnO toO
  by_cases c : lotQ x t q.1 q.2 = true
  · simp only [c, ↓reduceIte]
  · have c' := eq_false_of_ne_true c
    simp only [c', Bool.false_eq_true, ↓reduceIte, Nat.mul_one]; rfl
theorem lotQ_un {x : Cx} {t : Tn} {w g : Nat} (h : lotQ x t w g = true) : x.2.2.2.1 g = true ∧ t.1 w = none ∧ canS x t w g = true := by
  unfold lotQ at h
  rw [Bool.and_eq_true, Bool.and_eq_true] at h
  exact ⟨h.1.1, Option.isNone_iff_eq_none.mp h.1.2, h.2⟩
theorem mnO_pos {x : Cx} {t : Tn} {q : Nat × Nat} : 0 < mnO x t q := by
  unfold mnO
  by_cases c : lotQ x t q.1 q.2 = true
  · rw [if_pos c]
    obtain ⟨-, h2, h3⟩ := lotQ_un c
    exact List.length_pos_iff.mpr (can_ne h3 h2)
  · rw [if_neg c]; decide
theorem mnO_le {x : Cx} {t : Tn} {q : Nat × Nat} (ht : TW t) : mnO x t q ≤ 8 := by
  unfold mnO
  by_cases c : lotQ x t q.1 q.2 = true
  · rw [if_pos c]; exact ht.len _
  · rw [if_neg c]; decide
theorem getD_lt {l : List Nat} {p : Nat} (h : p < l.length) : l[p]? = some (l.getD p 0) := by rw [List.getD_eq_getElem?_getD, List.getElem?_eq_getElem h]; rfl
theorem toO_TW {x : Cx} {t : Tn} {q : Nat × Nat} {p : Nat} (ht : TW t) (hw : q.1 < 8) (hg : q.2 < 3) (hp : p < mnO x t q) : TW (toO x t q p) := by
  unfold mnO at hp
  unfold toO
  by_cases c : lotQ x t q.1 q.2 = true
  · rw [if_pos c] at hp ⊢
    exact ht.in hw (lotQ_un c).2.1 (getD_lt hp)
  · rw [if_neg c]; exact goS_TW ht hw hg
section
variable {x : Cx} {a texts : Nat → Int32} {row : List (Nat × Nat)} {who : Nat} {want : Option Nat}
theorem M_stepOn (hx : CxOK x) (hm : MX a texts x) (hrow : ∀ (k : Nat) (q : Nat × Nat), row[k]? = some q → a (100 + 2 * k) = iN q.1 ∧ a (100 + 2 * k + 1) = iN q.2) (hlen : row.length ≤ 12) (hr8 : ∀ q ∈ row, q.1 < x.1 ∧ q.2 < x.2.1) {k p s : Nat} {q : Nat × Nat} (hk : row[k]? = some q) {t : Tn} (ht : TW t) {b0 : Int32} {d named truth lots : Nat → Int32} {values shares : Nat → Int64} (hp : p < 100) (hlo : lots k = dnI p) (hsh : shares k = jN s) (hd : MT d (35 * (2 + k)) t) : ∃ d' n' v' t1 sh', f_m_stepOn b0 a d texts named values truth lots shares (iN k) = some (b01 (decide (p < mnO x t q)), iN (35 * (3 + k)), d', n', v', t1, upd lots k (iN p), sh') ∧ (∀ j, j < 35 * (3 + k) → d' j = d j) ∧ (∀ j, j ≠ k + 1 → sh' j = shares j) ∧ (p < mnO x t q → MT d' (35 * (3 + k)) (toO x t q p) ∧ sh' (k + 1) = jN (s * mnO x t q)) := by
  have hkl := (List.getElem?_eq_some_iff.mp hk).1
  obtain ⟨e1, e2⟩ := hrow k q hk
  have hq := hr8 _ (List.mem_of_getElem? hk)
  have hx1 := hx.1
  have hx2 := hx.2.1
  have hw8 : q.1 < 8 := by omega
  have hg3 : q.2 < 3 := by omega
  obtain ⟨d1, c1, c2, c3⟩ := M_copyT (i := 2 + k) (j := 3 + k) hd ht (by omega) (by omega) (by omega)
  have hb : 35 * (3 + k) ≤ 525 := by omega
  have hN := c2.nameAt hb hw8
  have hL := M_isLot (g := q.2) hm hg3
  have hH := c2.hung hb hg3
  have hl8 := ht.len q.2
  have hfr : ∀ j, j < 35 * (3 + k) → d1 j = d j := fun j hj => c3 j (Or.inl hj)
  -- all ways but a lot's
  have plain : ∀ (n1 t1 : Nat → Int32) (v1 : Nat → Int64), lotQ x t q.1 q.2 = false → ∃ d' n' v' t2 sh', fj_m_stepOn_139 (iN (35 * (3 + k))) a d1 texts n1 v1 t1 (upd lots k (iN p)) (vp_updL shares (k + 1) (jN s)) (iN k) (iN q.1) (iN q.2) = some (b01 (decide (p < mnO x t q)), iN (35 * (3 + k)), d', n', v', t2, upd lots k (iN p), sh') ∧ (∀ j, j < 35 * (3 + k) → d' j = d j) ∧ (∀ j, j ≠ k + 1 → sh' j = shares j) ∧ (p < mnO x t q → MT d' (35 * (3 + k)) (toO x t q p) ∧ sh' (k + 1) = jN (s * mnO x t q)) := by
    intro n1 t1 v1 hno
    have hmn : mnO x t q = 1 := by unfold mnO; rw [hno]; rfl
    have hto : toO x t q p = aft t (goS x t q.1 q.2) := by unfold toO; rw [hno]; rfl
    rw [hmn, hto]
    by_cases hp0 : 0 < p
    · refine ⟨d1, n1, v1, t1, vp_updL shares (k + 1) (jN s), ?_, hfr, fun j hj => updL_ne hj, fun h => absurd h (by omega)⟩
      rw [decide_eq_false (by omega)]
      simp (disch := omega) only [fj_m_stepOn_139, upd_same, nlit, onl, negone, iN_add, iN_mul, iN_sub, iN_pm, iN_addneg, iN_ix, iN_inb, iN_lt, iN_eq, iN_nneg, iN_nm, nm_iN, mI_neg, mI_nnn, ne_eq, not_true_eq_false, not_false_eq_true, true_and, and_true, bnd, Option.bind_some, ↓reduceIte, ltT, ltF, eqT, eqF, leT, leF]; rfl
    · obtain ⟨d2, n2, v2, t2, g1, g2, g3⟩ := M_goes (named := n1) (values := v1) (truth := t1) hx hm c2 hb ht hw8 hg3
      refine ⟨d2, n2, v2, t2, vp_updL shares (k + 1) (jN s), ?_, fun j hj => (g3 j (Or.inl hj)).trans (hfr j hj), fun j hj => updL_ne hj, fun _ => ⟨g2, by rw [updL_same, Nat.mul_one]⟩⟩
      rw [decide_eq_true (by omega)]
      simp (disch := omega) only [fj_m_stepOn_139, upd_same, g1, un5, nlit, onl, negone, iN_add, iN_mul, iN_sub, iN_pm, iN_addneg, iN_ix, iN_inb, iN_lt, iN_eq, iN_nneg, iN_nm, nm_iN, mI_neg, mI_nnn, ne_eq, not_true_eq_false, not_false_eq_true, true_and, and_true, bnd, Option.bind_some, ↓reduceIte, ltT, ltF, eqT, eqF, leT, leF]; rfl
  cases hn : t.1 q.1 with
  | some m =>
    have hm8 := (ht.1 _ m hn).2
    rw [hn, enO_some] at hN
    obtain ⟨d', n', v', t2, sh', f1, f2⟩ := plain named truth values (by unfold lotQ; rw [hn]; cases x.2.2.2.1 q.2 <;> rfl)
    refine ⟨d', n', v', t2, sh', ?_, f2⟩
    simp (disch := omega) only [f_m_stepOn, f_m_tries, e1, e2, c1, hlo, hsh, dnI_up, hN, f1, nlit, onl, negone, iN_add, iN_mul, iN_sub, iN_pm, iN_addneg, iN_ix, iN_inb, iN_lt, iN_eq, iN_nneg, iN_nm, nm_iN, mI_neg, mI_nnn, ne_eq, not_true_eq_false, not_false_eq_true, true_and, and_true, bnd, Option.bind_some, ↓reduceIte, ltT, ltF, eqT, eqF, leT, leF]
  | none =>
    rw [hn, enO_none] at hN
    cases hlot : x.2.2.2.1 q.2 with
    | false =>
      rw [hlot] at hL
      obtain ⟨d', n', v', t2, sh', f1, f2⟩ := plain named truth values (by unfold lotQ; rw [hlot]; rfl)
      refine ⟨d', n', v', t2, sh', ?_, f2⟩
      simp (disch := omega) only [f_m_stepOn, f_m_tries, e1, e2, c1, hlo, hsh, dnI_up, hN, hL, bF0, f1, nlit, onl, negone, iN_add, iN_mul, iN_sub, iN_pm, iN_addneg, iN_ix, iN_inb, iN_lt, iN_eq, iN_nneg, iN_nm, nm_iN, mI_neg, mI_nnn, ne_eq, not_true_eq_false, not_false_eq_true, true_and, and_true, bnd, Option.bind_some, ↓reduceIte, ltT, ltF, eqT, eqF, leT, leF]
    | true =>
      rw [hlot] at hL
      obtain ⟨n1, v1, t1, g1⟩ := M_can (named := named) (values := values) (truth := truth) hx hm c2 hb ht hw8 hg3
      cases hc : canS x t q.1 q.2 with
      | false =>
        rw [hc] at g1
        obtain ⟨d', n', v', t2, sh', f1, f2⟩ := plain n1 t1 v1 (by unfold lotQ; rw [hc, Bool.and_false])
        refine ⟨d', n', v', t2, sh', ?_, f2⟩
        simp (disch := omega) only [f_m_stepOn, f_m_tries, e1, e2, c1, hlo, hsh, dnI_up, hN, hL, bT0, bF0, g1, un4, f1, nlit, onl, negone, iN_add, iN_mul, iN_sub, iN_pm, iN_addneg, iN_ix, iN_inb, iN_lt, iN_eq, iN_nneg, iN_nm, nm_iN, mI_neg, mI_nnn, ne_eq, not_true_eq_false, not_false_eq_true, true_and, and_true, bnd, Option.bind_some, ↓reduceIte, ltT, ltF, eqT, eqF, leT, leF]
      | true =>
        rw [hc] at g1
        have hlq : lotQ x t q.1 q.2 = true := by unfold lotQ; rw [hc, hlot, hn]; rfl
        have hmn : mnO x t q = (t.2 q.2).length := by unfold mnO; rw [hlq]; rfl
        have hto : toO x t q p = inT t q.1 q.2 p ((t.2 q.2).getD p 0) := by unfold toO; rw [hlq]; rfl
        rw [hmn, hto]
        by_cases hpl : p < (t.2 q.2).length
        · obtain ⟨d2, l1, l2, l3⟩ := c2.come ht hb hg3 hw8 hn (getD_lt hpl)
          refine ⟨d2, n1, v1, t1, vp_updL (vp_updL shares (k + 1) (jN s)) (k + 1) (jN s * jN (t.2 q.2).length), ?_, fun j hj => (l3 j (Or.inl hj)).trans (hfr j hj), fun j hj => by rw [updL_ne hj, updL_ne hj], fun _ => ⟨l2, by rw [updL_same, jN_mul]⟩⟩
          rw [decide_eq_true hpl]
          simp (disch := omega) only [f_m_stepOn, f_m_tries, e1, e2, c1, hlo, hsh, dnI_up, hN, hL, bT0, g1, un4, hH, upd_same, updL_same, iN_j, l1, nlit, onl, negone, iN_add, iN_mul, iN_sub, iN_pm, iN_addneg, iN_ix, iN_inb, iN_lt, iN_eq, iN_nneg, iN_nm, nm_iN, mI_neg, mI_nnn, ne_eq, not_true_eq_false, not_false_eq_true, true_and, and_true, bnd, Option.bind_some, ↓reduceIte, ltT, ltF, eqT, eqF, leT, leF]; rfl
        · refine ⟨d1, n1, v1, t1, vp_updL shares (k + 1) (jN s), ?_, hfr, fun j hj => updL_ne hj, fun h => absurd h hpl⟩
          rw [decide_eq_false hpl]
          simp (disch := omega) only [f_m_stepOn, f_m_tries, e1, e2, c1, hlo, hsh, dnI_up, hN, hL, bT0, g1, un4, hH, upd_same, nlit, onl, negone, iN_add, iN_mul, iN_sub, iN_pm, iN_addneg, iN_ix, iN_inb, iN_lt, iN_eq, iN_nneg, iN_nm, nm_iN, mI_neg, mI_nnn, ne_eq, not_true_eq_false, not_false_eq_true, true_and, and_true, bnd, Option.bind_some, ↓reduceIte, ltT, ltF, eqT, eqF, leT, leF]; rfl
def NBo : Nat → Nat
  | 0 => 1
  | r + 1 => 10 * (NBo r + 2)
theorem M_odds (hx : CxOK x) (hm : MX a texts x) (h6 : a 6 = iN row.length) (hrow : ∀ (k : Nat) (q : Nat × Nat), row[k]? = some q → a (100 + 2 * k) = iN q.1 ∧ a (100 + 2 * k + 1) = iN q.2) (hlen : row.length ≤ 12) (hr8 : ∀ q ∈ row, q.1 < x.1 ∧ q.2 < x.2.1) (hwho : who < 8) (hwant : ∀ m, want = some m → m < 8) : ∀ (r k : Nat), k + r = row.length → ∀ (b0 : Int32) (f : Nat × Nat) (d named truth lots : Nat → Int32) (values shares : Nat → Int64) (t : Tn) (s S j : Nat), lots k = dnI 0 → MT d (35 * (2 + k)) t → TW t → shares k = jN s → s ∣ 840 ^ j → j + ltN x (row.drop k) ≤ 6 → FI S f → odW adN x who want (row.drop k) t s S ≤ oW →
    ∃ N b' f' d' n' v' t1 lo' sh', 0 < N ∧ N ≤ NBo r ∧ stps (un10 (fb_m_chance_73 a texts (iN who) (enO want))) N (iN k, b0, jN f.1, jN f.2, d, named, values, truth, lots, shares) (iN k + mI, b', jN f'.1, jN f'.2, d', n', v', t1, lo', sh') ∧ FI (odW adN x who want (row.drop k) t s S) f' ∧ (∀ j, j < 35 * (3 + k) → d' j = d j) ∧ (∀ j, j < k → lo' j = lots j) ∧ ∀ j, j ≤ k → sh' j = shares j
  | 0, k, hkr, b0, f, d, named, truth, lots, values, shares, t, s, S, j, hlo, hd, ht, hsh, hsd, hj, hf, hle => by
    have hk : k = row.length := hkr
    have hN := hd.nameAt (by omega) hwho
    have hw := enO_inj (o := t.1 who) (fun m hm => (ht.1 who m hm).2) hwant
    have h6' : (iN k = a 6) = True := by rw [h6, hk]; exact eq_true rfl
    have h0 : (iN k < iN 0) = False := iN_nneg (by omega)
    rw [hk, List.drop_length] at hle hj ⊢
    rw [← hk]
    rw [odW] at hle ⊢
    have hN' : f_m_nameAt (iN 35 * (iN 2 + iN k)) d (iN who) = some (enO (t.1 who)) := by rw [iN_add, iN_mul]; exact hN
    by_cases q : t.1 who = want
    · rw [if_pos q] at hle ⊢
      have hw' : (enO (t.1 who) = enO want) = True := hw.trans (eq_true q)
      have hdv := dvdW (j := j) (by omega) hsd
      have ha := M_add hf hdv hle
      refine ⟨1, iN (35 * (2 + k)), adM s f, d, named, values, truth, lots, shares, by decide, by decide, stps_one ?_, hf.add hdv hle, fun _ _ => rfl, fun _ _ => rfl, fun _ _ => rfl⟩
      simp (disch := omega) only [un10, fb_m_chance_73, h0, h6', f_m_tries, nlit, negone, hN, hw', hsh, iN_inb, ltT, iN_ix, ha, un2, Option.bind_some, ↓reduceIte, iN_add, iN_mul]
    · rw [if_neg q] at hle ⊢
      have hw' : (enO (t.1 who) = enO want) = False := hw.trans (eq_false q)
      refine ⟨1, iN (35 * (2 + k)), f, d, named, values, truth, lots, shares, by decide, by decide, stps_one ?_, hf, fun _ _ => rfl, fun _ _ => rfl, fun _ _ => rfl⟩
      simp (disch := omega) only [un10, fb_m_chance_73, h0, h6', f_m_tries, nlit, negone, hN, hw', Option.bind_some, ↓reduceIte, iN_add, iN_mul]
  | r + 1, k, hkr, b0, f, d, named, truth, lots, values, shares, t, s, S, j, hlo, hd, ht, hsh, hsd, hj, hf, hle => by
    have hlt : k < row.length := by omega
    have hk : row[k]? = some row[k] := List.getElem?_eq_getElem hlt
    have hdr : row.drop k = row[k] :: row.drop (k + 1) := List.drop_eq_getElem_cons hlt
    have h0 : (iN k < iN 0) = False := iN_nneg (by omega)
    have h6' : (iN k = a 6) = False := by rw [h6, iN_eq (by omega) (by omega)]; exact eq_false (by omega)
    have hq := hr8 _ (List.mem_of_getElem? hk)
    have hx1 := hx.1
    have hx2 := hx.2.1
    rw [hdr, ltN_cons] at hj
    rw [hdr, odW_cons] at hle ⊢
    have hm8 := mnO_le (x := x) (q := row[k]) ht
    have hm0 := mnO_pos (x := x) (t := t) (q := row[k])
    obtain ⟨j', hj', hsd'⟩ : ∃ j', j' + ltN x (row.drop (k + 1)) ≤ 6 ∧ s * mnO x t row[k] ∣ 840 ^ j' := by
      by_cases c : lotQ x t row[k].1 row[k].2 = true
      · rw [if_pos (lotQ_un c).1] at hj
        exact ⟨j + 1, by omega, d840 hm0 hm8 hsd⟩
      · have e : mnO x t row[k] = 1 := by unfold mnO; rw [if_neg c]
        exact ⟨j, by omega, by rw [e, Nat.mul_one]; exact hsd⟩
    generalize hM : mnO x t row[k] = M at *
    have inner : ∀ (m p : Nat), p + m = M → ∀ (b0 : Int32) (f : Nat × Nat) (d named truth lots : Nat → Int32) (values shares : Nat → Int64) (S : Nat), lots k = dnI p → MT d (35 * (2 + k)) t → shares k = jN s → FI S f → itF (fun i => odW adN x who want (row.drop (k + 1)) (toO x t row[k] (p + i)) (s * M)) m S ≤ oW → ∃ N b' f' d' n' v' t1 lo' sh', 0 < N ∧ N ≤ (m + 1) * (NBo r + 2) ∧ stps (un10 (fb_m_chance_73 a texts (iN who) (enO want))) N (iN k, b0, jN f.1, jN f.2, d, named, values, truth, lots, shares) (iN k + mI, b', jN f'.1, jN f'.2, d', n', v', t1, lo', sh') ∧ FI (itF (fun i => odW adN x who want (row.drop (k + 1)) (toO x t row[k] (p + i)) (s * M)) m S) f' ∧ (∀ j, j < 35 * (3 + k) → d' j = d j) ∧ (∀ j, j < k → lo' j = lots j) ∧ ∀ j, j ≤ k → sh' j = shares j := by
      intro m
      induction m with
      | zero =>
        intro p hp b0 f d named truth lots values shares S hlo hd hsh hf hle
        obtain ⟨d1, n1, v1, t1, sh1, s1, s2, s3, s4⟩ := M_stepOn (b0 := b0) (named := named) (values := values) (truth := truth) hx hm hrow hlen hr8 hk ht (p := p) (by omega) hlo hsh hd
        rw [hM, decide_eq_false (by omega)] at s1
        refine ⟨1, iN (35 * (3 + k)), f, d1, n1, v1, t1, upd lots k (iN p), sh1, by decide, by omega, stps_one ?_, hf, s2, fun j hj => upd_ne (by omega), fun j hj => s3 j (by omega)⟩
        simp only [un10, fb_m_chance_73, h0, h6', s1, un8, nlit, negone, bF0, Option.bind_some, ↓reduceIte]
      | succ m ih =>
        intro p hp b0 f d named truth lots values shares S hlo hd hsh hf hle
        obtain ⟨d1, n1, v1, t1, sh1, s1, s2, s3, s4⟩ := M_stepOn (b0 := b0) (named := named) (values := values) (truth := truth) hx hm hrow hlen hr8 hk ht (p := p) (by omega) hlo hsh hd
        rw [hM] at s1 s4
        obtain ⟨s4, s5⟩ := s4 (by omega)
        rw [decide_eq_true (show p < M by omega)] at s1
        have step : un10 (fb_m_chance_73 a texts (iN who) (enO want)) (iN k, b0, jN f.1, jN f.2, d, named, values, truth, lots, shares) = some (.inl (iN (k + 1), iN (35 * (3 + k)), jN f.1, jN f.2, d1, n1, v1, t1, upd (upd lots k (iN p)) (k + 1) mI, sh1)) := by
          simp (disch := omega) only [un10, fb_m_chance_73, h0, h6', s1, un8, nlit, negone, bT0, iN_add, iN_inb, iN_ix, ltT, bnd, Option.bind_some, ↓reduceIte]
        have e1 : itF (fun i => odW adN x who want (row.drop (k + 1)) (toO x t row[k] (p + i)) (s * M)) (m + 1) S = itF (fun i => odW adN x who want (row.drop (k + 1)) (toO x t row[k] (p + 1 + i)) (s * M)) m (odW adN x who want (row.drop (k + 1)) (toO x t row[k] p) (s * M) S) := by
          rw [Nat.add_comm m 1, itF_add]
          have e2 : itF (fun i => odW adN x who want (row.drop (k + 1)) (toO x t row[k] (p + i)) (s * M)) 1 S = odW adN x who want (row.drop (k + 1)) (toO x t row[k] p) (s * M) S := rfl
          rw [e2]
          exact itF_cg _ _ (fun i _ b => by rw [Nat.add_assoc])
        rw [e1] at hle ⊢
        have hle1 : odW adN x who want (row.drop (k + 1)) (toO x t row[k] p) (s * M) S ≤ oW := Nat.le_trans (itF_mono (fun i a => odW_mono _ _ _ a) _ _) hle
        have hT' : TW (toO x t row[k] p) := toO_TW ht (by omega) (by omega) (by rw [hM]; omega)
        obtain ⟨N1, b2, f2, d2, n2, v2, t2, lo2, sh2, w0, w1, w2, w3, w4, w5, w6⟩ := M_odds hx hm h6 hrow hlen hr8 hwho hwant r (k + 1) (by omega) (iN (35 * (3 + k))) f d1 n1 t1 (upd (upd lots k (iN p)) (k + 1) mI) v1 sh1 (toO x t row[k] p) (s * M) S j' upd_same (by rw [show 2 + (k + 1) = 3 + k by omega]; exact s4) hT' s5 hsd' hj' hf hle1
        have hlo2 : lo2 k = dnI (p + 1) := by rw [w5 k (by omega), upd_ne (by omega), upd_same]; exact dnI_S.symm
        have hd2 : MT d2 (35 * (2 + k)) t := hd.moved ht (fun j hj => by rw [w4 _ (by omega), s2 _ (by omega)])
        have hsh2 : sh2 k = jN s := by rw [w6 k (by omega), s3 k (by omega)]; exact hsh
        obtain ⟨N2, b3, f3, d3, n3, v3, t3, lo3, sh3, y0, y1, y2, y3, y4, y5, y6⟩ := ih (p + 1) (by omega) b2 f2 d2 n2 t2 lo2 v2 sh2 _ hlo2 hd2 hsh2 w3 hle
        have e3 : iN (k + 1) + mI = iN k := by rw [iN_pm (by omega), Nat.add_sub_cancel]
        rw [e3] at w2
        refine ⟨1 + (N1 + N2), b3, f3, d3, n3, v3, t3, lo3, sh3, by omega, ?_, stps_trans 1 (N1 + N2) _ _ _ (stps_one step) (stps_trans N1 N2 _ _ _ w2 y2), y3, fun j hj => by rw [y4 j hj, w4 j (by omega), s2 j hj], fun j hj => by rw [y5 j hj, w5 j (by omega), upd_ne (by omega), upd_ne (by omega)], fun j hj => by rw [y6 j hj, w6 j (by omega), s3 j (by omega)]⟩
        rw [Nat.succ_mul]
        omega
    have e : ∀ S, itF (fun i => odW adN x who want (row.drop (k + 1)) (toO x t row[k] (0 + i)) (s * M)) M S = itF (fun i => odW adN x who want (row.drop (k + 1)) (toO x t row[k] i) (s * M)) M S := fun S => itF_cg _ _ (fun i _ b => by rw [Nat.zero_add])
    obtain ⟨N, b', f', d', n', v', t1, lo', sh', w0, w1, w2, w3, w4⟩ := inner M 0 (by omega) b0 f d named truth lots values shares S hlo hd hsh hf (by rw [e]; exact hle)
    refine ⟨N, b', f', d', n', v', t1, lo', sh', w0, Nat.le_trans w1 (Nat.mul_le_mul_right _ (by omega)), w2, by rw [← e]; exact w3, w4⟩
end
