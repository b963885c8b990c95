/-! ===== PURE: which name is taken ===== -/
def envT (x : Cx) (t : Tn) (w g k n : Nat) : Nat → Int := fun v => if v = 0 then (k : Int) else if v = 1 then (n : Int) else if v = 2 then (if n = w ∧ x.2.2.2.2.1 w = true then 1 else 0) else envG x t w g v
def wthS (x : Cx) (t : Tn) (w g : Nat) (c : Cl) (k : Nat) : Int := sumS (envT x t w g k ((t.2 g).getD k 0)) c.2.1
def pkR (f : Nat → Int) : Nat → Nat
  | 0 => 0
  | n + 1 => if n = 0 ∨ f (pkR f n) ≤ f n then n else pkR f n
def pickS (x : Cx) (t : Tn) (w g : Nat) : Nat := match clS x 0 with
  | none => (t.2 g).length - 1
  | some c => pkR (wthS x t w g c) (t.2 g).length
/-- k is the greatest of those from m on below n, of like ones the latest -/
def isPk (f : Nat → Int) (m n k : Nat) : Prop := m ≤ k ∧ k < n ∧ (∀ j, m ≤ j → j < n → f j ≤ f k) ∧ ∀ j, k < j → j < n → f j < f k
theorem isPk_uniq {f : Nat → Int} {m n k k' : Nat} (h : isPk f m n k) (h' : isPk f m n k') : k = k' := by
  obtain ⟨a1, a2, a3, a4⟩ := h
  obtain ⟨b1, b2, b3, b4⟩ := h'
  rcases Nat.lt_trichotomy k k' with q | q | q
  · have := a4 k' q b2
    have := b3 k a1 a2
    omega
  · exact q
  · have := b4 k q a2
    have := a3 k' b1 b2
    omega
theorem pkR_is (f : Nat → Int) : ∀ n, 0 < n → isPk f 0 n (pkR f n)
  | 0, h => absurd h (Nat.lt_irrefl 0)
  | n + 1, _ => by
    unfold pkR
    by_cases hn : n = 0
    · rw [if_pos (Or.inl hn)]
      subst hn
      exact ⟨Nat.le_refl _, by decide, fun j _ hj => by rw [show j = 0 by omega]; exact Int.le_refl _, fun j h1 h2 => by omega⟩
    · obtain ⟨a1, a2, a3, a4⟩ := pkR_is f n (by omega)
      by_cases hf : f (pkR f n) ≤ f n
      · rw [if_pos (Or.inr hf)]
        refine ⟨Nat.zero_le _, Nat.lt_succ_self n, fun j _ hj => ?_, fun j h1 h2 => by omega⟩
        by_cases hj : j = n
        · rw [hj]; exact Int.le_refl _
        · have := a3 j (Nat.zero_le _) (by omega)
          omega
      · rw [if_neg (by omega)]
        refine ⟨Nat.zero_le _, by omega, fun j _ hj => ?_, fun j h1 h2 => ?_⟩
        · by_cases hj : j = n
          · rw [hj]; omega
          · exact a3 j (Nat.zero_le _) (by omega)
        · by_cases hj : j = n
          · rw [hj]; omega
          · exact a4 j h1 (by omega)
theorem pickS_lt {x : Cx} {t : Tn} {w g : Nat} (h : t.2 g ≠ []) : pickS x t w g < (t.2 g).length := by
  have hl : 0 < (t.2 g).length := List.length_pos_iff.mpr h
  unfold pickS
  cases clS x 0 with
  | none => show (t.2 g).length - 1 < _; omega
  | some c => exact (pkR_is _ _ hl).2.1
theorem envT_b {x : Cx} {t : Tn} {w g k n : Nat} (hx : CxOK x) (ht : TW t) (hw : w < 8) (hg : g < 3) (hk : k < 8) (hn : n < 8) : ∀ v, v < 8 → alT v = true → -1000000 ≤ envT x t w g k n v ∧ envT x t w g k n v ≤ 1000000 := by
  intro v h8 h
  unfold envT
  split
  · omega
  · split
    · omega
    · split
      · split <;> omega
      · refine envG_b hx ht hw hg v h8 ?_
        unfold alG
        rw [decide_eq_true_eq]
        omega
theorem envT_n {x : Cx} {t : Tn} {w g k n : Nat} {V : Nat → Int32} (hG : ∀ v, 3 ≤ v → v < 7 → V v = zI (envG x t w g v)) {z : Int32} (hz : z = if n = w ∧ x.2.2.2.2.1 w = true then iN 1 else iN 0) : ∀ v, v < 8 → alT v = true → upd (upd (upd V 0 (iN k)) 1 (iN n)) 2 z v = zI (envT x t w g k n v) := by
  intro v h8 h
  unfold alT at h
  rw [decide_eq_true_eq] at h
  unfold envT
  by_cases h0 : v = 0
  · subst h0; simp (disch := omega) only [upd_same, upd_ne, upd_eq, ↓reduceIte, zI_iN]
  · by_cases h1 : v = 1
    · subst h1; simp (disch := omega) only [upd_same, upd_ne, upd_eq, ↓reduceIte, eqF, zI_iN]
    · by_cases h2 : v = 2
      · subst h2
        simp (disch := omega) only [upd_same, upd_ne, upd_eq, ↓reduceIte, eqF]
        rw [hz]; split <;> rfl
      · simp (disch := omega) only [upd_same, upd_ne, upd_eq, ↓reduceIte, eqF]
        exact hG v (by omega) h
theorem getD_at {l : List Nat} {k n : Nat} (h : l[k]? = some n) : l.getD k 0 = n := by
  rw [List.getD_eq_getElem?_getD, h]; rfl
section
variable {x : Cx} {t : Tn} {w g b : Nat} {c : Cl}
theorem C_pickLoop {lw : Lw} {cL sz tk fe : Int32} {born cd kd fr to names sizes : Nat → Int32} {heaps : Nat → Nat → Int32} {i : Nat} (hx : CxOK x) (hm : CL cL sz tk fe cd kd fr to lw) (hlw : LW lw) (hi : lw[i]? = some c) (hc : c.1 = 0) (htk : tk = iN i) (hbo : ∀ j, j < 8 → born j = b01 (x.2.2.2.2.1 j)) (hd : CT names sizes heaps t) (ht : TW t) (hw : w < 8) (hg : g < 3) : ∀ (m k n : Nat) (values stack : Nat → Int32), k + m = (t.2 g).length → m < n → (∀ v, 3 ≤ v → v < 7 → values v = zI (envG x t w g v)) → ∃ v' s', itr (un5 (fb_go_placeFor_48 cL sz tk born to fr cd sizes heaps (iN w) (iN g) (iN (t.2 g).length))) n (if k = 0 then mI else iN (pkR (wthS x t w g c) k), if k = 0 then iN 0 else zI (wthS x t w g c (pkR (wthS x t w g c) k)), iN k, values, stack) = some (if (t.2 g).length = 0 then mI else iN (pkR (wthS x t w g c) (t.2 g).length), v', s')
  | 0, k, n, values, stack, hk, hnn, hG => by
    obtain ⟨n, rfl⟩ : ∃ z, n = z + 1 := ⟨n - 1, by omega⟩
    have hl := ht.len g
    have hk : k = (t.2 g).length := hk
    subst hk
    refine ⟨values, stack, itr_end ?_⟩
    simp (disch := omega) only [un5, fb_go_placeFor_48, nlit, onl, negone, iN_add, iN_mul, iN_sub, iN_pm, iN_addneg, iN_ix, iN_inb, iN_lt, iN_eq, iN_nneg, iN_nm, nm_iN, mI_neg, mI_nnn, ne_eq, not_true_eq_false, not_false_eq_true, true_and, and_true, bnd, Option.bind_some, ↓reduceIte, ltT, ltF, eqT, eqF, leT, leF]
  | m + 1, k, n, values, stack, hk, hnn, hG => by
    obtain ⟨n, rfl⟩ : ∃ z, n = z + 1 := ⟨n - 1, by omega⟩
    have hl := ht.len g
    have hlen := hlw.1
    have hlt : k < (t.2 g).length := by omega
    have hnk : (t.2 g)[k]? = some (t.2 g)[k] := List.getElem?_eq_getElem hlt
    have hn8 := (ht.2.1 g _ (List.mem_of_getElem? hnk)).2
    have hi' : i < lw.length := (List.getElem?_eq_some_iff.mp hi).1
    have hcw := hlw.2 _ (List.mem_of_getElem? hi)
    have hbw := hbo w hw
    have hE : ∀ z, (z = if (t.2 g)[k] = w ∧ x.2.2.2.2.1 w = true then iN 1 else iN 0) → ∃ s', f_sums_worthOf stack (upd (upd (upd values 0 (iN k)) 1 (iN (t.2 g)[k])) 2 z) cL sz to fr cd (iN i) = some (zI (wthS x t w g c k), s') := by
      intro z hz
      have := C_sum (stack := stack) hm hlen hi (by omega) (hcw.2.1 hc) (envT_n (k := k) hG hz) (envT_b hx ht hw hg (by omega) hn8)
      unfold wthS
      rw [getD_at hnk]
      exact this
    have hbd : ∀ j, j < (t.2 g).length → -1000000 ≤ wthS x t w g c j ∧ wthS x t w g c j ≤ 1000000 := by
      intro j hj
      have hnj : (t.2 g)[j]? = some (t.2 g)[j] := List.getElem?_eq_getElem hj
      unfold wthS
      rw [getD_at hnj]
      exact sumS_b (hcw.2.1 hc) (envT_b hx ht hw hg (by omega) (ht.2.1 g _ (List.mem_of_getElem? hnj)).2)
    have hbk := hbd k hlt
    have hstep : ∃ v' s', un5 (fb_go_placeFor_48 cL sz tk born to fr cd sizes heaps (iN w) (iN g) (iN (t.2 g).length)) (if k = 0 then mI else iN (pkR (wthS x t w g c) k), if k = 0 then iN 0 else zI (wthS x t w g c (pkR (wthS x t w g c) k)), iN k, values, stack) = some (.inl (if k + 1 = 0 then mI else iN (pkR (wthS x t w g c) (k + 1)), if k + 1 = 0 then iN 0 else zI (wthS x t w g c (pkR (wthS x t w g c) (k + 1))), iN (k + 1), v', s')) ∧ ∀ v, 3 ≤ v → v < 7 → v' v = zI (envG x t w g v) := by
      obtain ⟨s', g1⟩ := hE (if (t.2 g)[k] = w ∧ x.2.2.2.2.1 w = true then iN 1 else iN 0) rfl
      refine ⟨upd (upd (upd values 0 (iN k)) 1 (iN (t.2 g)[k])) 2 (if (t.2 g)[k] = w ∧ x.2.2.2.2.1 w = true then iN 1 else iN 0), s', ?_, fun v h3 h7 => by
        simp (disch := omega) only [upd_same, upd_ne, upd_eq]
        exact hG v h3 h7⟩
      have tail : ∀ zz, (zz = if (t.2 g)[k] = w ∧ x.2.2.2.2.1 w = true then iN 1 else iN 0) → fj_go_placeFor_117_48 cL sz tk (upd (upd values 0 (iN k)) 1 (iN (t.2 g)[k])) stack born to fr cd sizes heaps (iN w) (iN g) (iN (t.2 g).length) (if k = 0 then mI else iN (pkR (wthS x t w g c) k)) (if k = 0 then iN 0 else zI (wthS x t w g c (pkR (wthS x t w g c) k))) (iN k) (iN 2) zz = some (.inl (if k + 1 = 0 then mI else iN (pkR (wthS x t w g c) (k + 1)), if k + 1 = 0 then iN 0 else zI (wthS x t w g c (pkR (wthS x t w g c) (k + 1))), iN (k + 1), upd (upd (upd values 0 (iN k)) 1 (iN (t.2 g)[k])) 2 (if (t.2 g)[k] = w ∧ x.2.2.2.2.1 w = true then iN 1 else iN 0), s')) := by
        intro zz hzz
        subst hzz
        rw [htk]
        by_cases k0 : k = 0
        · subst k0
          have e1 : pkR (wthS x t w g c) (0 + 1) = 0 := rfl
          rw [e1]
          simp (disch := omega) only [fj_go_placeFor_117_48, nlit, onl, negone, iN_add, iN_mul, iN_sub, iN_pm, iN_addneg, iN_ix, iN_inb, iN_lt, iN_eq, iN_nneg, iN_nm, nm_iN, mI_neg, mI_nnn, ne_eq, not_true_eq_false, not_false_eq_true, true_and, and_true, bnd, Option.bind_some, ↓reduceIte, ltT, ltF, eqT, eqF, leT, leF, g1, un2]
        · obtain ⟨-, p2, -⟩ := pkR_is (wthS x t w g c) k (by omega)
          have hbp := hbd _ (show pkR (wthS x t w g c) k < (t.2 g).length by omega)
          by_cases hf : wthS x t w g c (pkR (wthS x t w g c) k) ≤ wthS x t w g c k
          · have e1 : pkR (wthS x t w g c) (k + 1) = k := by rw [pkR, if_pos (Or.inr hf)]
            rw [e1]
            simp (disch := omega) only [fj_go_placeFor_117_48, nlit, onl, negone, iN_add, iN_mul, iN_sub, iN_pm, iN_addneg, iN_ix, iN_inb, iN_lt, iN_eq, iN_nneg, iN_nm, nm_iN, mI_neg, mI_nnn, ne_eq, not_true_eq_false, not_false_eq_true, true_and, and_true, bnd, Option.bind_some, ↓reduceIte, ltT, ltF, eqT, eqF, leT, leF, g1, un2, zI_lt, ltFi]
          · have e1 : pkR (wthS x t w g c) (k + 1) = pkR (wthS x t w g c) k := by rw [pkR, if_neg (by omega)]
            rw [e1]
            simp (disch := omega) only [fj_go_placeFor_117_48, nlit, onl, negone, iN_add, iN_mul, iN_sub, iN_pm, iN_addneg, iN_ix, iN_inb, iN_lt, iN_eq, iN_nneg, iN_nm, nm_iN, mI_neg, mI_nnn, ne_eq, not_true_eq_false, not_false_eq_true, true_and, and_true, bnd, Option.bind_some, ↓reduceIte, ltT, ltF, eqT, eqF, leT, leF, g1, un2, zI_lt, ltTi]
      by_cases hwn : (t.2 g)[k] = w
      · cases hb1 : x.2.2.2.2.1 w with
        | true =>
          have eb : (b01 true = iN 0) = False := propext ⟨fun q => absurd q (by decide), False.elim⟩
          have := tail (iN 1) (by rw [if_pos ⟨hwn, hb1⟩])
          rw [hb1] at hbw this
          simp (disch := omega) only [un5, fb_go_placeFor_48, hd.nameAt ht hg hnk, nlit, onl, negone, iN_add, iN_mul, iN_sub, iN_pm, iN_addneg, iN_ix, iN_inb, iN_lt, iN_eq, iN_nneg, iN_nm, nm_iN, mI_neg, mI_nnn, ne_eq, not_true_eq_false, not_false_eq_true, true_and, and_true, bnd, Option.bind_some, ↓reduceIte, ltT, hwn, hbw, eb] at this ⊢
          exact this
        | false =>
          have eb : (b01 false = iN 0) = True := propext ⟨fun _ => trivial, fun _ => rfl⟩
          have := tail (iN 0) (by rw [if_neg (fun q => by rw [hb1] at q; exact absurd q.2 (by decide))])
          rw [hb1] at hbw this
          simp (disch := omega) only [un5, fb_go_placeFor_48, hd.nameAt ht hg hnk, nlit, onl, negone, iN_add, iN_mul, iN_sub, iN_pm, iN_addneg, iN_ix, iN_inb, iN_lt, iN_eq, iN_nneg, iN_nm, nm_iN, mI_neg, mI_nnn, ne_eq, not_true_eq_false, not_false_eq_true, true_and, and_true, bnd, Option.bind_some, ↓reduceIte, ltT, hwn, hbw, eb] at this ⊢
          exact this
      · have := tail (iN 0) (by rw [if_neg (fun q => hwn q.1)])
        simp (disch := omega) only [un5, fb_go_placeFor_48, hd.nameAt ht hg hnk, nlit, onl, negone, iN_add, iN_mul, iN_sub, iN_pm, iN_addneg, iN_ix, iN_inb, iN_lt, iN_eq, iN_nneg, iN_nm, nm_iN, mI_neg, mI_nnn, ne_eq, not_true_eq_false, not_false_eq_true, true_and, and_true, bnd, Option.bind_some, ↓reduceIte, ltT, eqF] at this ⊢
        exact this
    obtain ⟨v1, s1, g1, g2⟩ := hstep
    rw [itr_step g1]
    exact C_pickLoop hx hm hlw hi hc htk hbo hd ht hw hg m (k + 1) n v1 s1 (by omega) (by omega) g2
theorem C_pick {pe ga hr rl cL sz tk fe : Int32} {lot born cd kd fr to values stack names sizes : Nat → Int32} {heaps : Nat → Nat → Int32} {ru : Nat} (hx : CxOK x) (hm : CX pe ga hr rl lot born ru cL sz tk fe cd kd fr to x) (hd : CT names sizes heaps t) (ht : TW t) (hw : w < 8) (hg : g < 3) (hne : t.2 g ≠ []) : ∃ values' stack', f_go_placeFor hr rl ru cL sz tk values stack born to fr cd sizes names heaps (iN w) (iN g) = some (iN (pickS x t w g), values', stack') := by
  obtain ⟨h1, h2, h3, h4, h5, h6, h7⟩ := hm
  have hlp : 0 < (t.2 g).length := List.length_pos_iff.mpr hne
  have hl8 := ht.len g
  unfold pickS
  cases hl : x.2.2.2.2.2 with
  | none =>
    refine ⟨values, stack, ?_⟩
    rw [show clS x 0 = none by unfold clS; rw [hl]]
    rw [h6 hl]
    simp (disch := omega) only [f_go_placeFor, hd.sizeOf hg, nlit, onl, negone, iN_add, iN_mul, iN_sub, iN_pm, iN_addneg, iN_ix, iN_inb, iN_lt, iN_eq, iN_nneg, iN_nm, nm_iN, mI_neg, mI_nnn, ne_eq, not_true_eq_false, not_false_eq_true, true_and, and_true, bnd, Option.bind_some, ↓reduceIte, ltT, ltF, eqT, eqF, leT, leF]
  | some lw =>
    obtain ⟨e1, e2, e3, e4⟩ := h7 lw hl
    have htk := e3.2.1
    cases hi : lw.findIdx? (fun c => c.1 == 0) with
    | none =>
      rw [hi] at htk
      rw [show clS x 0 = none by unfold clS; rw [hl]; exact fi_none hi]
      refine ⟨values, stack, ?_⟩
      rw [e1, htk]
      simp (disch := omega) only [f_go_placeFor, hd.sizeOf hg, enO_none, nlit, onl, negone, iN_add, iN_mul, iN_sub, iN_pm, iN_addneg, iN_ix, iN_inb, iN_lt, iN_eq, iN_nneg, iN_nm, nm_iN, mI_neg, mI_nnn, ne_eq, not_true_eq_false, not_false_eq_true, true_and, and_true, bnd, Option.bind_some, ↓reduceIte, ltT, ltF, eqT, eqF, leT, leF]
    | some i =>
      rw [hi] at htk
      obtain ⟨c, k1, k2, k3⟩ := fi_some hi
      rw [show clS x 0 = some c by unfold clS; rw [hl]; exact k3]
      have hlen := e4.1
      have hi' : i < lw.length := (List.getElem?_eq_some_iff.mp k1).1
      obtain ⟨v', g1, g2⟩ := C_tell (values := values) hx h3 hd ht hw hg
      obtain ⟨v2, s2, g3⟩ := C_pickLoop hx e3 e4 k1 k2 htk h5 hd ht hw hg (t.2 g).length 0 KF v' stack (by omega) (kf_lt (by omega)) (fun v q3 q7 => g2 v (by omega) (by unfold alG; rw [decide_eq_true_eq]; omega))
      refine ⟨v2, s2, ?_⟩
      rw [if_pos rfl, if_pos rfl, if_neg (by omega)] at g3
      rw [htk] at g3
      rw [e1, htk]
      rw [enO_some] at g3
      simp (disch := omega) only [f_go_placeFor, hd.sizeOf hg, enO_some, nlit, onl, negone, iN_add, iN_mul, iN_sub, iN_pm, iN_addneg, iN_ix, iN_inb, iN_lt, iN_eq, iN_nneg, iN_nm, nm_iN, mI_neg, mI_nnn, ne_eq, not_true_eq_false, not_false_eq_true, true_and, and_true, bnd, Option.bind_some, ↓reduceIte, ltT, ltF, eqT, eqF, leT, leF, g1, g3, un3]
end
