/-! ===== PURE: chance ===== -/
def inN (l : Int32) : Bool := decide (l = mI) || inR l 8
theorem inN_some {l : Int32} (h : inN l = true) : ∃ o : Option Nat, l = enO o ∧ ∀ m, o = some m → m < 8 := by
  unfold inN at h
  rw [Bool.or_eq_true, decide_eq_true_eq] at h
  rcases h with h | h
  · exact ⟨none, h, fun m q => by cases q⟩
  · obtain ⟨w, hw, e⟩ := inR_some h
    exact ⟨some w, e, fun m q => by cases q; exact hw⟩
theorem C_isNN {l : Int32} : f_x_isNameOrNone l = some (b01 (inN l)) := by
  unfold f_x_isNameOrNone inN
  rw [C_isName, Option.bind_some]
  simp only [nlit, negone]
  by_cases h : l = mI
  · simp only [h, ↓reduceIte, decide_true, Bool.true_or]; rfl
  · cases q : inR l 8 with
    | true => simp only [h, bT0, ↓reduceIte, Bool.or_true]; rfl
    | false => simp only [h, bF0, ↓reduceIte, decide_false, Bool.or_false]; rfl
theorem M_isNN {l : Int32} : f_m_isIn l mI (iN 7) = some (b01 (inN l)) := by
  by_cases h : l = mI
  · subst h; decide
  · have hne : l.toInt ≠ -1 := fun q => h (Int32.toInt_inj.mp (q.trans mI_toInt.symm))
    have e : f_m_isIn l mI (iN 7) = f_m_isIn l (iN 0) (iN 7) := by
      unfold f_m_isIn
      simp only [Int32.lt_iff_toInt_lt, mI_toInt, i0_toInt]
      by_cases q : l.toInt < 0
      · rw [if_pos q, if_pos (by omega)]
      · rw [if_neg q, if_neg (show ¬ l.toInt < -1 by omega)]
    rw [e, M_isName]
    unfold inN
    rw [decide_eq_false h, Bool.false_or]
section
variable {x : Cx} {row : List (Nat × Nat)}
theorem C_lots {pe ga hr rl cL sz tk fe rz : Int32} {lot born cd kd fr to rc : Nat → Int32} {ru : Nat} (hx : CxOK x) (hcx : CX pe ga hr rl lot born ru cL sz tk fe cd kd fr to x) (hr0 : CR rz rc row) (hlen : row.length ≤ 12) (hr8 : ∀ q ∈ row, q.1 < x.1 ∧ q.2 < x.2.1) : f_odds_lotsOfRow ga rz lot rc = some (iN (ltN x row)) := by
  have key : ∀ m k n c, k + m = row.length → m < n → c + m ≤ 12 → itr (un2 (fb_odds_lotsOfRow_4 ga rz lot rc)) n (iN c, iN k) = some (iN (c + ltN x (row.drop k))) := by
    intro m
    induction m with
    | zero =>
      intro k n c hk hn hc
      obtain ⟨n, rfl⟩ : ∃ z, n = z + 1 := ⟨n - 1, by omega⟩
      rw [List.drop_eq_nil_of_le (by omega)]
      refine itr_end ?_
      rw [hr0.1]
      simp (disch := omega) only [un2, fb_odds_lotsOfRow_4, iN_lt, ltF, ↓reduceIte]; rfl
    | succ m ih =>
      intro k n c hk hn hc
      obtain ⟨n, rfl⟩ : ∃ z, n = z + 1 := ⟨n - 1, by omega⟩
      have hlt : k < row.length := by omega
      have hk0 : row[k]? = some row[k] := List.getElem?_eq_getElem hlt
      have hdr : row.drop k = row[k] :: row.drop (k + 1) := List.drop_eq_getElem_cons hlt
      have hq := hr8 _ (List.mem_of_getElem? hk0)
      have a1 : f_tri_at rz 36 rc (iN k) (iN 1) = some (iN row[k].2) := by rw [hr0.1, tri_at hlt (by omega) (by omega) (by omega), (hr0.2 k _ hk0).2]
      have hL := C_isOfLot hcx hx hq.2
      have hgo : (iN k < rz) = True := by rw [hr0.1, iN_lt (by omega) (by omega)]; exact eq_true hlt
      rw [hdr, ltN_cons]
      cases hlot : x.2.2.2.1 row[k].2 with
      | true =>
        rw [hlot] at hL
        have st : un2 (fb_odds_lotsOfRow_4 ga rz lot rc) (iN c, iN k) = some (.inl (iN (c + 1), iN (k + 1))) := by
          simp only [un2, fb_odds_lotsOfRow_4, nlit, hgo, a1, hL, bT0, iN_add, Option.bind_some, ↓reduceIte]
        rw [itr_step st, ih (k + 1) n (c + 1) (by omega) (by omega) (by omega), if_pos rfl]
        congr 2; omega
      | false =>
        rw [hlot] at hL
        have st : un2 (fb_odds_lotsOfRow_4 ga rz lot rc) (iN c, iN k) = some (.inl (iN c, iN (k + 1))) := by
          simp only [un2, fb_odds_lotsOfRow_4, nlit, hgo, a1, hL, bF0, iN_add, Option.bind_some, ↓reduceIte]
        rw [itr_step st, ih (k + 1) n c (by omega) (by omega) (by omega), if_neg (by decide)]
        rfl
  have e := key row.length 0 KF 0 (by omega) (kf_lt (by omega)) (by omega)
  rw [List.drop_zero, Nat.zero_add] at e
  simp only [f_odds_lotsOfRow, nlit, e, Option.bind_some]
theorem M_lots {a texts : Nat → Int32} (hx : CxOK x) (hm : MX a texts x) (h6 : a 6 = iN row.length) (hrow : ∀ (k : Nat) (q : Nat × Nat), row[k]? = some q → a (100 + 2 * k) = iN q.1 ∧ a (100 + 2 * k + 1) = iN q.2) (hlen : row.length ≤ 12) (hr8 : ∀ q ∈ row, q.1 < x.1 ∧ q.2 < x.2.1) : f_m_lotMany a = some (iN (ltN x row)) := by
  have hx2 := hx.2.1
  have key : ∀ m k n c, k + m = row.length → m < n → c + m ≤ 12 → itr (un2 (fb_m_lotMany_4 a)) n (iN c, iN k) = some (iN (c + ltN x (row.drop k))) := by
    intro m
    induction m with
    | zero =>
      intro k n c hk hn hc
      obtain ⟨n, rfl⟩ : ∃ z, n = z + 1 := ⟨n - 1, by omega⟩
      rw [List.drop_eq_nil_of_le (by omega)]
      refine itr_end ?_
      simp (disch := omega) only [un2, fb_m_lotMany_4, h6, iN_lt, ltF, ↓reduceIte]; rfl
    | succ m ih =>
      intro k n c hk hn hc
      obtain ⟨n, rfl⟩ : ∃ z, n = z + 1 := ⟨n - 1, by omega⟩
      have hlt : k < row.length := by omega
      have hk0 : row[k]? = some row[k] := List.getElem?_eq_getElem hlt
      have hdr : row.drop k = row[k] :: row.drop (k + 1) := List.drop_eq_getElem_cons hlt
      have hq := hr8 _ (List.mem_of_getElem? hk0)
      have hg3 : row[k].2 < 3 := by omega
      have e2 := (hrow k _ hk0).2
      have hL : a (36 + row[k].2) = b01 (x.2.2.2.1 row[k].2) := hm.2.2.2.1 _ hg3
      have st : un2 (fb_m_lotMany_4 a) (iN c, iN k) = some (.inl (iN c + b01 (x.2.2.2.1 row[k].2), iN (k + 1))) := by
        simp (disch := omega) only [un2, fb_m_lotMany_4, h6, e2, hL, nlit, onl, negone, iN_add, iN_mul, iN_sub, iN_pm, iN_addneg, iN_ix, iN_inb, iN_lt, iN_eq, iN_nneg, iN_nm, nm_iN, mI_neg, mI_nnn, ne_eq, not_true_eq_false, not_false_eq_true, true_and, and_true, bnd, Option.bind_some, ↓reduceIte, ltT, ltF, eqT, eqF, leT, leF]
      rw [hdr, ltN_cons, itr_step st]
      cases hlot : x.2.2.2.1 row[k].2 with
      | true =>
        rw [show b01 true = iN 1 from rfl, iN_add, ih (k + 1) n (c + 1) (by omega) (by omega) (by omega), if_pos rfl]
        congr 2; omega
      | false =>
        rw [show b01 false = iN 0 from rfl, iN_add, Nat.add_zero, ih (k + 1) n c (by omega) (by omega) (by omega), if_neg (by decide)]
        rfl
  have e := key row.length 0 KF 0 (by omega) (kf_lt (by omega)) (by omega)
  rw [List.drop_zero, Nat.zero_add] at e
  simp only [f_m_lotMany, nlit, e, Option.bind_some]
theorem FI0 : FI 0 (0, 1) := ⟨by decide, Nat.one_dvd _, by rw [Nat.zero_mul, Nat.zero_mul], rfl, Nat.zero_le _⟩
theorem C_oddsReckon {pe ga hr rl cL sz tk fe rz : Int32} {lot born cd kd fr to rc : Nat → Int32} {ru : Nat} {who : Nat} {want : Option Nat} (hx : CxOK x) (hcx : CX pe ga hr rl lot born ru cL sz tk fe cd kd fr to x) (hr0 : CR rz rc row) (hlen : row.length ≤ 12) (hr8 : ∀ q ∈ row, q.1 < x.1 ∧ q.2 < x.2.1) (hwho : who < 8) (hwant : ∀ m, want = some m → m < 8) {nm ns tn tz values stack : Nat → Int32} {th nh : Nat → Nat → Int32} {t : Tn} (hd : CT nm ns nh t) (ht : TW t) {w0 m0 : Int32} {u0 l0 : Int64} : ∃ n' s' h' v' st', odW adN x who want row t 1 0 ≤ oW ∧ f_odds_reckon w0 m0 u0 l0 pe ga hr rl tn tz th rz lot ru born nm ns nh rc values cL sz tk stack kd to fr cd (iN who) (enO want) = some (iN who, enO want, jN (odW adN x who want row t 1 0 / Nat.gcd (odW adN x who want row t 1 0) oW), jN (oW / Nat.gcd (odW adN x who want row t 1 0) oW), n', s', h', v', st') := by
  obtain ⟨n1, s1, h1, e5, e6⟩ := C_copyTown (nm := tn) (sz := tz) (hp := th) hd ht
  obtain ⟨S, n', s', h', v', st', g1, g2, g3⟩ := C_sumFrom hx hcx hr0 hlen hr8 hwho hwant row.length 0 (by omega) 30 (by omega) n1 s1 values stack h1 t 1 e6 ht (by decide)
  have hS : odW adN x who want row t 1 0 = S := by have := g2 0; rw [List.drop_zero, Nat.zero_add] at this; exact this
  rw [hS]
  have hle : S ≤ oW := g3
  refine ⟨n', s', h', v', st', hle, ?_⟩
  have hW : oW = 351298031616000000 := rfl
  have g1' : f_odds_sumFrom (iN who) (enO want) pe ga hr rl rz n1 lot ru s1 h1 born rc values cL sz tk stack kd to fr cd (iN 0) (Int64.ofInt 351298031616000000) = some (jN S, n', s', h', v', st') := g1
  have hc : f_odds_commonDivisor (jN S) (Int64.ofInt 351298031616000000) = some (jN (Nat.gcd S oW)) := C_common (a := S) (b := oW) (by omega) (by decide)
  have hG0 : 0 < Nat.gcd S oW := Nat.gcd_pos_of_pos_right _ oW_pos
  have hGl : Nat.gcd S oW ≤ oW := Nat.gcd_le_right _ oW_pos
  have hmx : f_math_max_JJ 1 (jN (Nat.gcd S oW)) = some (jN (Nat.gcd S oW)) := by
    have e : jN (Nat.gcd S oW) = wI ((Nat.gcd S oW : Nat) : Int) := Int64.ofInt_eq_ofNat.symm
    have hl := lg_lt (a := 1) (b := ((Nat.gcd S oW : Nat) : Int)) (by omega) (by omega) (by omega) (by omega)
    rw [e, wl1]
    by_cases q : (1 : Int) < ((Nat.gcd S oW : Nat) : Int)
    · have hl' : (lg_cmp (wI 1) (wI ((Nat.gcd S oW : Nat) : Int)) < iN 0) = True := hl.trans (eq_true q)
      simp only [f_math_max_JJ, nlit, hl', ↓reduceIte]
    · have hl' : (lg_cmp (wI 1) (wI ((Nat.gcd S oW : Nat) : Int)) < iN 0) = False := hl.trans (eq_false q)
      have h1 : ((Nat.gcd S oW : Nat) : Int) = 1 := by omega
      simp only [f_math_max_JJ, nlit, hl', ↓reduceIte]
      rw [h1]
  have z1 : (jN (Nat.gcd S oW) = 0) = False := (j_nz (by omega)).trans (eq_false (by omega))
  have d1 : jN S / jN (Nat.gcd S oW) = jN (S / Nat.gcd S oW) := jN_div (by omega) (by omega)
  have d2 : (Int64.ofInt 351298031616000000) / jN (Nat.gcd S oW) = jN (oW / Nat.gcd S oW) := jN_div (a := oW) (by decide) (by omega)
  simp only [f_odds_reckon, e5, un3, nlit, g1', un6, hc, hmx, z1, not_false_eq_true, d1, d2, Option.bind_some, ↓reduceIte]
theorem M_chanceGo {a texts : Nat → Int32} {who : Nat} {want : Option Nat} (hx : CxOK x) (hm : MX a texts x) (h6 : a 6 = iN row.length) (hrow : ∀ (k : Nat) (q : Nat × Nat), row[k]? = some q → a (100 + 2 * k) = iN q.1 ∧ a (100 + 2 * k + 1) = iN q.2) (hlen : row.length ≤ 12) (hr8 : ∀ q ∈ row, q.1 < x.1 ∧ q.2 < x.2.1) (hwho : who < 8) (hwant : ∀ m, want = some m → m < 8) (hl6 : ltN x row ≤ 6) {t : Tn} (ht : TW t) (hle : odW adN x who want row t 1 0 ≤ oW) {u0 l0 : Int64} {d named truth lots : Nat → Int32} {values shares : Nat → Int64} (hd : MT d 0 t) (w : Nat) (hw : w < 2) (hP : f_m_isPerson a (iN who) = some (b01 true)) : ∃ d' n' v' t1 lo' sh', f_m_chance (iN 0) u0 l0 a d texts named values truth lots shares (iN who) (enO want) (iN w) = some (if w = 0 then jN (odW adN x who want row t 1 0 / Nat.gcd (odW adN x who want row t 1 0) oW) else jN (oW / Nat.gcd (odW adN x who want row t 1 0) oW), iN 0, jN (odW adN x who want row t 1 0 / Nat.gcd (odW adN x who want row t 1 0) oW), jN (oW / Nat.gcd (odW adN x who want row t 1 0) oW), d', n', v', t1, lo', sh') ∧ ∀ j, j < 70 → d' j = d j := by
  obtain ⟨d1, c1, c2, c3⟩ := M_copyT (i := 0) (j := 2) hd ht (by decide) (by decide) (by decide)
  obtain ⟨N, b', f', d', n', v', t1, lo', sh', w0, w1, w2, w3, w4, -, -⟩ := M_odds hx hm h6 hrow hlen hr8 hwho hwant row.length 0 (by omega) (iN 0) (0, 1) d1 named truth (upd lots 0 mI) values (vp_updL shares 0 (jN 1)) t 1 0 0 upd_same c2 ht updL_same (by decide) (by rw [List.drop_zero]; omega) FI0 (by rw [List.drop_zero]; exact hle)
  rw [List.drop_zero] at w3
  obtain ⟨q1, q2⟩ := w3.fin
  rw [q1, q2] at w2
  generalize odW adN x who want row t 1 0 / Nat.gcd (odW adN x who want row t 1 0) oW = U at *
  generalize oW / Nat.gcd (odW adN x who want row t 1 0) oW = V at *
  have hN : NBo row.length ≤ NBo 12 := by
    have mono : ∀ r, NBo r ≤ NBo (r + 1) := fun r => by show NBo r ≤ 10 * (NBo r + 2); omega
    have : ∀ k, row.length + k ≤ 12 → NBo row.length ≤ NBo (row.length + k) := by
      intro k
      induction k with
      | zero => intro _; exact Nat.le_refl _
      | succ k ih => intro h; exact Nat.le_trans (ih (by omega)) (mono _)
    have := this (12 - row.length) (by omega)
    rwa [show row.length + (12 - row.length) = 12 by omega] at this
  have h12 : NBo 12 < KF := by decide
  rw [show iN 0 + mI = mI from rfl] at w2
  obtain ⟨u, hu, hst⟩ := stps_pos w2 w0
  have hend : ∀ n, 0 < n → itr (un10 (fb_m_chance_73 a texts (iN who) (enO want))) n (mI, b', jN U, jN V, d', n', v', t1, lo', sh') = some (b', jN U, jN V, d', n', v', t1, lo', sh') := by
    intro n hn
    obtain ⟨n, rfl⟩ : ∃ z, n = z + 1 := ⟨n - 1, by omega⟩
    refine itr_end ?_
    simp only [un10, fb_m_chance_73, nlit, mI_neg, ↓reduceIte]
  have hrun : itr (un10 (fb_m_chance_73 a texts (iN who) (enO want))) KF u = some (b', jN U, jN V, d', n', v', t1, lo', sh') := by
    have hk : KF = (KF - (N - 1)) + (N - 1) := by omega
    rw [hk, stps_itr (N - 1) (KF - (N - 1)) _ _ hst]
    exact hend _ (by omega)
  refine ⟨d', n', v', t1, lo', sh', ?_, fun j hj => (w4 j (by omega)).trans (c3 j (Or.inl (by omega)))⟩
  have h00 : (iN 0 < iN 0) = False := iN_nneg (by omega)
  have eb : f_m_tries b' (iN 0) = some (iN 0) := rfl
  have hnn : f_m_isIn (enO want) mI (iN 7) = some (b01 true) := by
    have e : inN (enO want) = true := by
      unfold inN
      cases want with
      | none => rfl
      | some m =>
        have := hwant m rfl
        rw [enO_some, inR_iN (by omega), decide_eq_true this, Bool.or_true]
    rw [M_isNN, e]
  have hwi : f_m_isIn (iN w) (iN 0) (iN 1) = some (b01 true) := by rw [M_isInK (by decide), inR_iN (by omega), decide_eq_true hw]
  have hlm := M_lots hx hm h6 hrow hlen hr8
  have hl6' : (iN 6 < iN (ltN x row)) = False := by rw [iN_lt (by omega) (by omega)]; exact eq_false (by omega)
  have hww : (iN w = iN 0) = (w = 0) := iN_eq (by omega) (by omega)
  have j0 : jN 0 = 0 := rfl
  have j1 : jN 1 = 1 := rfl
  have i6 : (6 : Int32) = iN 6 := rfl
  have hin : (inb (iN 0) 13) = True := eq_true (by decide)
  have hix : ix (iN 0) = 0 := rfl
  have hu' : un10 (fb_m_chance_73 a texts (iN who) (enO want)) (iN 0, iN 0, 0, 1, d1, named, values, truth, upd lots 0 mI, vp_updL shares 0 1) = some (.inl u) := hu
  have fin : ∀ (z : Option (Int64 × Int32 × Int64 × Int64 × (Nat → Int32) × (Nat → Int32) × (Nat → Int64) × (Nat → Int32) × (Nat → Int32) × (Nat → Int64))), z = (if w = 0 then some (jN U, iN 0, jN U, jN V, d', n', v', t1, lo', sh') else some (jN V, iN 0, jN U, jN V, d', n', v', t1, lo', sh')) → z = some (if w = 0 then jN U else jN V, iN 0, jN U, jN V, d', n', v', t1, lo', sh') := by
    intro z hz
    rw [hz]
    by_cases q : w = 0
    · rw [if_pos q, if_pos q]
    · rw [if_neg q, if_neg q]
  apply fin
  by_cases hz : (iN 0 = a 6)
  · have hz' : (iN 0 = a 6) = True := eq_true hz
    simp only [un10, fb_m_chance_73, nlit, negone, h00, hz', hin, hix, ↓reduceIte] at hu'
    cases ht2 : f_m_tries (iN 0) (iN 2 + iN 0) with
    | none => rw [ht2] at hu'; cases hu'
    | some bb =>
      rw [ht2, Option.bind_some] at hu'
      cases hc : f_m_nameAt bb d1 (iN who) with
      | none => rw [hc] at hu'; cases hu'
      | some z =>
        rw [hc, Option.bind_some] at hu'
        by_cases hzw : z = enO want
        · have hzw' : (z = enO want) = True := eq_true hzw
          simp only [hzw', ↓reduceIte] at hu'
          cases had : f_m_add 0 1 (vp_updL shares 0 1 0) with
          | none => rw [had] at hu'; cases hu'
          | some ad =>
            obtain ⟨ad1, ad2⟩ := ad
            rw [had, Option.bind_some] at hu'
            have hu2 : u = (iN 0 + mI, bb, ad1, ad2, d1, named, values, truth, upd lots 0 mI, vp_updL shares 0 1) := (Sum.inl.inj (Option.some.inj hu')).symm
            rw [hu2] at hrun
            simp only [f_m_chance, nlit, negone, hP, hnn, hwi, hlm, hl6', bT0, c1, bnd, h00, hz', ht2, hc, hzw', had, un2, hrun, un9, eb, hww, ↓reduceIte, Option.bind_some]
        · have hzw' : (z = enO want) = False := eq_false hzw
          simp only [hzw', ↓reduceIte] at hu'
          have hu2 : u = (iN 0 + mI, bb, 0, 1, d1, named, values, truth, upd lots 0 mI, vp_updL shares 0 1) := (Sum.inl.inj (Option.some.inj hu')).symm
          rw [hu2] at hrun
          simp only [f_m_chance, nlit, negone, hP, hnn, hwi, hlm, hl6', bT0, c1, bnd, h00, hz', ht2, hc, hzw', hrun, un9, eb, hww, ↓reduceIte, Option.bind_some]
  · have hz' : (iN 0 = a 6) = False := eq_false hz
    simp only [un10, fb_m_chance_73, nlit, negone, h00, hz', ↓reduceIte] at hu'
    cases hsb : f_m_stepOn (iN 0) a d1 texts named values truth (upd lots 0 mI) (vp_updL shares 0 1) (iN 0) with
    | none => rw [hsb] at hu'; cases hu'
    | some z =>
      obtain ⟨z1, z2, z3, z4, z5, z6, z7, z8⟩ := z
      rw [hsb, Option.bind_some] at hu'
      by_cases hz1 : z1 = iN 0
      · have hz1' : (z1 = iN 0) = True := eq_true hz1
        simp only [un8, hz1', ↓reduceIte] at hu'
        have hu2 : u = (iN 0 + mI, z2, 0, 1, z3, z4, z5, z6, z7, z8) := (Sum.inl.inj (Option.some.inj hu')).symm
        rw [hu2] at hrun
        simp only [f_m_chance, nlit, negone, hP, hnn, hwi, hlm, hl6', bT0, c1, bnd, h00, hz', hsb, un8, hz1', hrun, un9, eb, hww, ↓reduceIte, Option.bind_some]
      · have hz1' : (z1 = iN 0) = False := eq_false hz1
        have hin1 : (inb (iN 0 + iN 1) 13) = True := eq_true (by decide)
        simp only [un8, hz1', hin1, bnd, ↓reduceIte] at hu'
        have hu2 : u = (iN 0 + iN 1, z2, 0, 1, z3, z4, z5, z6, upd z7 (ix (iN 0 + iN 1)) mI, z8) := (Sum.inl.inj (Option.some.inj hu')).symm
        rw [hu2] at hrun
        simp only [f_m_chance, nlit, negone, hP, hnn, hwi, hlm, hl6', bT0, c1, bnd, h00, hz', hsb, un8, hz1', hin1, hrun, un9, eb, hww, ↓reduceIte, Option.bind_some]
end
section
variable {pe ga hr tx rl xx dz rz kz : Int32} {bo lo pa dn nm sz dc rc kc a d : Nat → Int32} {hp : Nat → Nat → Int32} {s : Wd} {laws : Nat → Lw} {texts cL lz tk fe : Nat → Int32} {cd kd fr to : Nat → Nat → Int32} {values stack tn tz named truth lots : Nat → Int32} {th : Nat → Nat → Int32} {mv shares : Nat → Int64} {ow on : Int32} {up lw u0 l0 : Int64}
theorem J_chance (hC : CW pe ga hr tx rl xx bo lo pa dn nm sz hp dz dc rz rc kz kc s) (hM : MA a s) (hok : WOK s) (hT : MT d 0 s.2.2.1) (hcl : CLs cL lz tk fe cd kd fr to s.1.2.2.2.1 laws) (hml : MLs texts s.1.2.2.2.1 laws) (l1 l2 l3 : Int32) : ∃ r ow' on' up' lw' n' s' h' v' st' u0' l0' d' mn mv' mt lo' sh', f_x_chance pe ga hr rl ow on up lw (ruO s) rz lo (cL (ruO s)) (lz (ruO s)) (tk (ruO s)) bo rc nm tn sz tz hp th values (kd (ruO s)) (to (ruO s)) (fr (ruO s)) stack (cd (ruO s)) l1 l2 l3 = some (r, ow', on', up', lw', n', s', h', v', st') ∧ f_m_chance (iN 0) u0 l0 a d texts named mv truth lots shares l1 l2 l3 = some (r, iN 0, u0', l0', d', mn, mv', mt, lo', sh') ∧ ∀ j, j < 70 → d' j = d j := by
  have hP := hok.1.1
  have hX := cxO_ok (laws := laws) hok
  have hcx := CX.of (texts := texts) hC.1 hC.2.1 hok hcl hml
  have hmx := MX.of hM hok hml
  have same : f_x_chance pe ga hr rl ow on up lw (ruO s) rz lo (cL (ruO s)) (lz (ruO s)) (tk (ruO s)) bo rc nm tn sz tz hp th values (kd (ruO s)) (to (ruO s)) (fr (ruO s)) stack (cd (ruO s)) l1 l2 l3 = some (Int64.ofInt (-1), ow, on, up, lw, tn, tz, th, values, stack) → f_m_chance (iN 0) u0 l0 a d texts named mv truth lots shares l1 l2 l3 = some (Int64.ofInt (-1), iN 0, u0, l0, d, named, mv, truth, lots, shares) → ∃ r ow' on' up' lw' n' s' h' v' st' u0' l0' d' mn mv' mt lo' sh', f_x_chance pe ga hr rl ow on up lw (ruO s) rz lo (cL (ruO s)) (lz (ruO s)) (tk (ruO s)) bo rc nm tn sz tz hp th values (kd (ruO s)) (to (ruO s)) (fr (ruO s)) stack (cd (ruO s)) l1 l2 l3 = some (r, ow', on', up', lw', n', s', h', v', st') ∧ f_m_chance (iN 0) u0 l0 a d texts named mv truth lots shares l1 l2 l3 = some (r, iN 0, u0', l0', d', mn, mv', mt, lo', sh') ∧ ∀ j, j < 70 → d' j = d j := fun q1 q2 => ⟨_, ow, on, up, lw, tn, tz, th, values, stack, u0, l0, d, named, mv, truth, lots, shares, q1, q2, fun _ _ => rfl⟩
  have hp1 : f_world_hasPerson pe l1 = some (b01 (inR l1 s.1.1)) := by rw [hC.1.1]; exact C_hasPerson (by omega)
  have hp2 := M_isPerson (l := l1) hM.1.1 (by omega)
  have g2 := M_isNN (l := l2)
  have g3 := M_isInK (l := l3) (n := 1) (by decide)
  have i1 : (iN 1).toInt = 1 := rfl
  cases h1 : inR l1 s.1.1 with
  | false =>
    rw [h1] at hp1 hp2
    refine same ?_ ?_
    · simp only [f_x_chance, hp1, nlit, bF0, Option.bind_some, ↓reduceIte]
    · simp only [f_m_chance, hp2, nlit, bF0, Option.bind_some, ↓reduceIte]
  | true =>
    rw [h1] at hp1 hp2
    cases h2 : inN l2 with
    | false =>
      rw [h2] at g2
      refine same ?_ ?_
      · simp only [f_x_chance, hp1, C_isNN, h2, nlit, bT0, bF0, Option.bind_some, ↓reduceIte]
      · simp only [f_m_chance, hp2, nlit, negone, g2, bT0, bF0, Option.bind_some, ↓reduceIte]
    | true =>
      rw [h2] at g2
      cases h3 : inR l3 2 with
      | false =>
        rw [h3] at g3
        have hl : l3.toInt < 0 ∨ 1 < l3.toInt := by
          unfold inR at h3
          rw [decide_eq_false_iff_not] at h3
          omega
        refine same ?_ ?_
        · have e : ∀ {α : Type} (A B : α), (if l3 < 0 then A else if 1 < l3 then A else B) = A := by
            intro α A B
            by_cases q : l3 < 0
            · rw [if_pos q]
            · have q2 : 1 < l3 := by
                rw [Int32.lt_iff_toInt_lt] at q ⊢
                have z0 : (0 : Int32).toInt = 0 := rfl
                have z1 : (1 : Int32).toInt = 1 := rfl
                rw [z0] at q; rw [z1]; omega
              rw [if_neg q, if_pos q2]
          have b0 : ¬ b01 true = 0 := by decide
          simp only [f_x_chance, hp1, C_isNN, h2, Option.bind_some, b0, e, ↓reduceIte]
        · simp only [f_m_chance, hp2, nlit, negone, g2, g3, bT0, bF0, Option.bind_some, ↓reduceIte]
      | true =>
        rw [h3] at g3
        obtain ⟨w, hw, rfl⟩ := inR_some h3
        obtain ⟨who, hwho, rfl⟩ := inR_some h1
        obtain ⟨want, rfl, hwant⟩ := inN_some h2
        have hlm := M_lots hX hmx hM.2.2.2.1.1 hM.2.2.2.1.2 hok.2.2.2.1.1 hok.2.2.2.1.2
        have hlc := C_lots hX hcx hC.2.2.2.2.1 hok.2.2.2.1.1 hok.2.2.2.1.2
        have hlN : ltN (cxO s laws) s.2.2.2.2.1 ≤ 12 := Nat.le_trans (List.length_filter_le _ _) hok.2.2.2.1.1
        by_cases h6 : 6 < ltN (cxO s laws) s.2.2.2.2.1
        · refine same ?_ ?_
          · simp (disch := omega) only [f_x_chance, hp1, C_isNN, h2, bT0, hlc, nlit, onl, negone, iN_add, iN_mul, iN_sub, iN_pm, iN_addneg, iN_ix, iN_inb, iN_lt, iN_eq, iN_nneg, iN_nm, nm_iN, mI_neg, mI_nnn, ne_eq, not_true_eq_false, not_false_eq_true, true_and, and_true, bnd, Option.bind_some, ↓reduceIte, ltT, ltF, eqT, eqF, leT, leF]
          · simp (disch := omega) only [f_m_chance, hp2, nlit, negone, g2, g3, bT0, hlm, iN_lt, ltT, Option.bind_some, ↓reduceIte]
        · obtain ⟨n', s', h', v', st', e0, e1⟩ := C_oddsReckon (w0 := ow) (m0 := on) (u0 := up) (l0 := lw) (tn := tn) (tz := tz) (th := th) (values := values) (stack := stack) hX hcx hC.2.2.2.2.1 hok.2.2.2.1.1 hok.2.2.2.1.2 (show who < 8 by omega) hwant hC.2.2.1 hok.2.1.1
          obtain ⟨d', mn, mv', mt, lo', sh', f1, f2⟩ := M_chanceGo (u0 := u0) (l0 := l0) (named := named) (truth := truth) (lots := lots) (values := mv) (shares := shares) hX hmx hM.2.2.2.1.1 hM.2.2.2.1.2 hok.2.2.2.1.1 hok.2.2.2.1.2 (show who < 8 by omega) hwant (by omega) hok.2.1.1 e0 hT w hw hp2
          generalize odW adN (cxO s laws) who want s.2.2.2.2.1 s.2.2.1 1 0 / Nat.gcd (odW adN (cxO s laws) who want s.2.2.2.2.1 s.2.2.1 1 0) oW = U at e1 f1
          generalize oW / Nat.gcd (odW adN (cxO s laws) who want s.2.2.2.2.1 s.2.2.1 1 0) oW = V at e1 f1
          refine ⟨if w = 0 then jN U else jN V, iN who, enO want, jN U, jN V, n', s', h', v', st', jN U, jN V, d', mn, mv', mt, lo', sh', ?_, f1, f2⟩
          by_cases hw0 : w = 0
          · rw [if_pos hw0]
            simp (disch := omega) only [f_x_chance, hp1, C_isNN, h2, bT0, hlc, e1, un9, nlit, onl, negone, iN_add, iN_mul, iN_sub, iN_pm, iN_addneg, iN_ix, iN_inb, iN_lt, iN_eq, iN_nneg, iN_nm, nm_iN, mI_neg, mI_nnn, ne_eq, not_true_eq_false, not_false_eq_true, true_and, and_true, bnd, Option.bind_some, ↓reduceIte, ltT, ltF, eqT, eqF, leT, leF]
          · rw [if_neg hw0]
            simp (disch := omega) only [f_x_chance, hp1, C_isNN, h2, bT0, hlc, e1, un9, nlit, onl, negone, iN_add, iN_mul, iN_sub, iN_pm, iN_addneg, iN_ix, iN_inb, iN_lt, iN_eq, iN_nneg, iN_nm, nm_iN, mI_neg, mI_nnn, ne_eq, not_true_eq_false, not_false_eq_true, true_and, and_true, bnd, Option.bind_some, ↓reduceIte, ltT, ltF, eqT, eqF, leT, leF]
end
