/-! ===== PURE: chance: the class's sum ===== -/
def oW : Nat := 351298031616000000
theorem jN_div {a b : Nat} (ha : a < 9223372036854775808) (hb : b < 9223372036854775808) : jN a / jN b = jN (a / b) := (Int64.ofNat_div ha hb).symm
theorem jN_add {a b : Nat} : jN a + jN b = jN (a + b) := (Int64.ofNat_add a b).symm
theorem jN_mul {a b : Nat} : jN a * jN b = jN (a * b) := (Int64.ofNat_mul a b).symm
theorem jN_inj {a b : Nat} (ha : a < 9223372036854775808) (hb : b < 9223372036854775808) : (jN a = jN b) = (a = b) := by
  refine propext ⟨fun h => ?_, fun h => by rw [h]⟩
  have h' := congrArg Int64.toInt h
  unfold jN at h'
  rw [Int64.toInt_ofNat_of_lt ha, Int64.toInt_ofNat_of_lt hb] at h'
  omega
theorem enO_inj {o q : Option Nat} (ho : ∀ m, o = some m → m < 8) (hq : ∀ m, q = some m → m < 8) : (enO o = enO q) = (o = q) := by
  cases o with
  | none => cases q with
    | none => exact propext ⟨fun _ => rfl, fun _ => rfl⟩
    | some m =>
      have := hq m rfl
      exact propext ⟨fun h => absurd h (by
        show ¬ mI = iN m
        simp (disch := omega) only [nm_iN, not_false_eq_true]), fun h => by cases h⟩
  | some n =>
    have h1 := ho n rfl
    cases q with
    | none => exact propext ⟨fun h => absurd h (by
        show ¬ iN n = mI
        simp (disch := omega) only [iN_nm, not_false_eq_true]), fun h => by cases h⟩
    | some m =>
      have h2 := hq m rfl
      show (iN n = iN m) = _
      rw [iN_eq (by omega) (by omega)]
      exact propext ⟨fun h => by rw [h], fun h => Option.some.inj h⟩
/-- the going is a drawing of a lot -/
def lotQ (x : Cx) (t : Tn) (w g : Nat) : Bool := x.2.2.2.1 g && (t.1 w).isNone && canS x t w g
/-- all ends of the row, each with its share, in their order -/
def odW {α : Type} (f : Nat → α → α) (x : Cx) (who : Nat) (want : Option Nat) : List (Nat × Nat) → Tn → Nat → α → α
  | [], t, s, ac => if t.1 who = want then f s ac else ac
  | q :: r, t, s, ac => if lotQ x t q.1 q.2 = true then itF (fun p => odW f x who want r (inT t q.1 q.2 p ((t.2 q.2).getD p 0)) (s * (t.2 q.2).length)) (t.2 q.2).length ac else odW f x who want r (aft t (goS x t q.1 q.2)) s ac
def adN (s : Nat) (ac : Nat) : Nat := ac + oW / s
theorem aft_no {x : Cx} {t : Tn} {w g : Nat} (h : canS x t w g = false) : aft t (goS x t w g) = t := by
  unfold goS; rw [h]; rfl
section
variable {x : Cx} {pe ga hr rl cL sz tk fe rz : Int32} {lot born cd kd fr to rc : Nat → Int32} {ru : Nat} {row : List (Nat × Nat)} {who : Nat} {want : Option Nat}
def PO (x : Cx) (pe ga hr rl cL sz tk rz : Int32) (lot born cd kd fr to rc : Nat → Int32) (ru : Nat) (row : List (Nat × Nat)) (who : Nat) (want : Option Nat) (n line : Nat) : Prop := ∀ (names sizes values stack : Nat → Int32) (heaps : Nat → Nat → Int32) (t : Tn) (s : Nat), CT names sizes heaps t → TW t → 0 < s → ∃ S n' s' h' v' st', (FG_odds_sumFrom n).1 (iN who) (enO want) pe ga hr rl rz names lot ru sizes heaps born rc values cL sz tk stack kd to fr cd (iN line) (jN (oW / s)) = some (jN S, n', s', h', v', st') ∧ (∀ ac, odW adN x who want (row.drop line) t s ac = ac + S) ∧ S ≤ oW / s
theorem C_isOfLot (hcx : CX pe ga hr rl lot born ru cL sz tk fe cd kd fr to x) (hx : CxOK x) {g : Nat} (hg : g < x.2.1) : f_odds_isOfLot ga lot (iN g) = some (b01 (x.2.2.2.1 g)) := by
  have hx2 := hx.2.1
  have hga : ga = iN x.2.1 := hcx.2.1
  have hl : lot g = b01 (x.2.2.2.1 g) := hcx.2.2.2.1 g (by omega)
  have hG : f_world_hasGate ga (iN g) = some (b01 true) := by rw [hga, C_hasGate (by omega), inR_iN (by omega), decide_eq_true hg]
  unfold f_odds_isOfLot
  rw [hG, Option.bind_some]
  cases hb : x.2.2.2.1 g with
  | true =>
    rw [hb] at hl
    simp (disch := omega) only [nlit, hl, bT0, nlit, onl, negone, iN_add, iN_mul, iN_sub, iN_pm, iN_addneg, iN_ix, iN_inb, iN_lt, iN_eq, iN_nneg, iN_nm, nm_iN, mI_neg, mI_nnn, ne_eq, not_true_eq_false, not_false_eq_true, true_and, and_true, bnd, Option.bind_some, ↓reduceIte, ltT, ltF, eqT, eqF, leT, leF]; rfl
  | false =>
    rw [hb] at hl
    simp (disch := omega) only [nlit, hl, bT0, bF0, nlit, onl, negone, iN_add, iN_mul, iN_sub, iN_pm, iN_addneg, iN_ix, iN_inb, iN_lt, iN_eq, iN_nneg, iN_nm, nm_iN, mI_neg, mI_nnn, ne_eq, not_true_eq_false, not_false_eq_true, true_and, and_true, bnd, Option.bind_some, ↓reduceIte, ltT, ltF, eqT, eqF, leT, leF]; rfl
theorem C_sumOfLot (hx : CxOK x) (hcx : CX pe ga hr rl lot born ru cL sz tk fe cd kd fr to x) (hr0 : CR rz rc row) (hlen : row.length ≤ 12) (hr8 : ∀ q ∈ row, q.1 < x.1 ∧ q.2 < x.2.1) {n line : Nat} {q : Nat × Nat} (hk : row[line]? = some q) (H : PO x pe ga hr rl cL sz tk rz lot born cd kd fr to rc ru row who want n (line + 1)) {names sizes values stack : Nat → Int32} {heaps : Nat → Nat → Int32} {t : Tn} {s : Nat} (hd : CT names sizes heaps t) (ht : TW t) (hs : 0 < s) (hlot : x.2.2.2.1 q.2 = true) (hn : t.1 q.1 = none) : ∃ S n' s' h' v' st', (FG_odds_sumFrom (n + 1)).2 (iN who) (enO want) pe ga hr rl rz sizes names lot ru heaps born rc values cL sz tk stack kd to fr cd (iN line) (jN (oW / s)) = some (jN S, s', n', h', v', st') ∧ (∀ ac, odW adN x who want (q :: row.drop (line + 1)) t s ac = ac + S) ∧ S ≤ oW / s := by
  have hkl := (List.getElem?_eq_some_iff.mp hk).1
  have hq := hr8 _ (List.mem_of_getElem? hk)
  have hx1 := hx.1
  have hx2 := hx.2.1
  have a0 : f_tri_at rz 36 rc (iN line) (iN 0) = some (iN q.1) := by rw [hr0.1, tri_at0 hkl (by omega) (by omega), (hr0.2 line q hk).1]
  have a1 : f_tri_at rz 36 rc (iN line) (iN 1) = some (iN q.2) := by rw [hr0.1, tri_at hkl (by omega) (by omega) (by omega), (hr0.2 line q hk).2]
  have hz := hd.sizeOf (show q.2 < 3 by omega)
  have hl8 := ht.len q.2
  obtain ⟨v1, s1, e1⟩ := C_can (values := values) (stack := stack) hx hcx hd ht hq.1 hq.2
  show ∃ S n' s' h' v' st', fR_odds_sumOfLot (FG_odds_sumFrom n).1 (FG_odds_sumFrom n).2 (iN who) (enO want) pe ga hr rl rz sizes names lot ru heaps born rc values cL sz tk stack kd to fr cd (iN line) (jN (oW / s)) = some (jN S, s', n', h', v', st') ∧ _
  cases hc : canS x t q.1 q.2 with
  | false =>
    have hodd : ∀ ac, odW adN x who want (q :: row.drop (line + 1)) t s ac = odW adN x who want (row.drop (line + 1)) t s ac := by
      intro ac
      rw [odW, if_neg (by unfold lotQ; rw [hc, Bool.and_false]; decide), aft_no hc]
    rw [hc] at e1
    by_cases h0 : 0 < (t.2 q.2).length
    · obtain ⟨S, n2, z2, h2, v2, st2, f1, f2, f3⟩ := H names sizes v1 s1 heaps t s hd ht hs
      refine ⟨S, n2, z2, h2, v2, st2, ?_, fun ac => (hodd ac).trans (f2 ac), f3⟩
      simp (disch := omega) only [fR_odds_sumOfLot, fj_odds_sumOfLot_62, nlit, a0, a1, hz, e1, un3, bF0, iN_lt, ltT, iN_add, f1, un6, Option.bind_some, ↓reduceIte]
    · obtain ⟨S, n2, z2, h2, v2, st2, f1, f2, f3⟩ := H names sizes values stack heaps t s hd ht hs
      refine ⟨S, n2, z2, h2, v2, st2, ?_, fun ac => (hodd ac).trans (f2 ac), f3⟩
      simp (disch := omega) only [fR_odds_sumOfLot, fj_odds_sumOfLot_62, nlit, a0, a1, hz, iN_lt, ltF, iN_add, f1, un6, Option.bind_some, ↓reduceIte]
  | true =>
    rw [hc] at e1
    have hne := can_ne hc hn
    have h0 : 0 < (t.2 q.2).length := List.length_pos_iff.mpr hne
    have hodd : ∀ ac, odW adN x who want (q :: row.drop (line + 1)) t s ac = itF (fun p => odW adN x who want (row.drop (line + 1)) (inT t q.1 q.2 p ((t.2 q.2).getD p 0)) (s * (t.2 q.2).length)) (t.2 q.2).length ac := by
      intro ac
      rw [odW, if_pos (by unfold lotQ; rw [hc, hlot, hn]; rfl)]
    have hpk := C_packed hd ht
    have hdv : jN (oW / s) / (iN (t.2 q.2).length).toInt64 = jN (oW / (s * (t.2 q.2).length)) := by
      rw [iN_j (by omega), jN_div (Nat.lt_of_le_of_lt (Nat.div_le_self _ _) (by decide)) (by omega), Nat.div_div_eq_div_mul]
    have hnz : ¬ (iN (t.2 q.2).length).toInt64 = 0 := by
      rw [iN_j (by omega)]
      show ¬ jN (t.2 q.2).length = jN 0
      rw [jN_inj (by omega) (by omega)]; omega
    obtain ⟨e, g1, g2⟩ := itr_itF (f := un7 (fb_odds_sumOfLot_86 (FG_odds_sumFrom n).1 (FG_odds_sumFrom n).2 (iN who) (enO want) pe ga hr rl rz lot ru born rc cL sz tk kd to fr cd (iN line) (jN (oW / s)) (iN q.1) (iN q.2) (iN (t.2 q.2).length) (jN (pkS t)))) (α := Nat) (fun k st S => ∃ z nm h v k', st = (jN S, iN k, z, nm, h, v, k') ∧ CT nm z h t ∧ S ≤ k * (oW / (s * (t.2 q.2).length)) ∧ ∀ ac, itF (fun p => odW adN x who want (row.drop (line + 1)) (inT t q.1 q.2 p ((t.2 q.2).getD p 0)) (s * (t.2 q.2).length)) k ac = ac + S) (fun e S => ∃ z nm h v k', e = (jN S, z, nm, h, v, k') ∧ S ≤ (t.2 q.2).length * (oW / (s * (t.2 q.2).length)) ∧ ∀ ac, itF (fun p => odW adN x who want (row.drop (line + 1)) (inT t q.1 q.2 p ((t.2 q.2).getD p 0)) (s * (t.2 q.2).length)) (t.2 q.2).length ac = ac + S) (fun k S => odW adN x who want (row.drop (line + 1)) (inT t q.1 q.2 k ((t.2 q.2).getD k 0)) (s * (t.2 q.2).length) S) (N := (t.2 q.2).length) (fun k st S hkk hR => by
      obtain ⟨z, nm, h, v, k', rfl, r1, r2, r3⟩ := hR
      have hm : (t.2 q.2)[k]? = some ((t.2 q.2).getD k 0) := by rw [List.getD_eq_getElem?_getD, List.getElem?_eq_getElem hkk]; rfl
      obtain ⟨z1, h1', n1, u1, u2⟩ := r1.enter ht (show q.2 < 3 by omega) (show q.1 < 8 by omega) hn hm
      obtain ⟨S2, n2, z2, h2, v2, st2, f1, f2, f3⟩ := H n1 z1 v k' h1' (inT t q.1 q.2 k ((t.2 q.2).getD k 0)) (s * (t.2 q.2).length) u2 (ht.in (by omega) hn hm) (Nat.mul_pos hs h0)
      obtain ⟨n3, z3, h3, w1, w2⟩ := C_unpack (nm := n2) (sz := z2) (hp := h2) ht
      refine ⟨(jN (S + S2), iN (k + 1), z3, n3, h3, v2, st2), ?_, z3, n3, h3, v2, st2, by rw [f2], w2, ?_, fun ac => ?_⟩
      · simp (disch := omega) only [un7, fb_odds_sumOfLot_86, nlit, iN_lt, ltT, u1, un4, hnz, not_false_eq_true, hdv, iN_add, f1, un6, w1, un3, jN_add, Option.bind_some, ↓reduceIte]
      · rw [f2, Nat.succ_mul]; omega
      · rw [f2]
        show odW adN x who want (row.drop (line + 1)) (inT t q.1 q.2 k ((t.2 q.2).getD k 0)) (s * (t.2 q.2).length) (itF _ k ac) = _
        rw [r3, f2]; omega) (fun st S hR => by
      obtain ⟨z, nm, h, v, k', rfl, r1, r2, r3⟩ := hR
      refine ⟨(jN S, z, nm, h, v, k'), ?_, z, nm, h, v, k', rfl, r2, r3⟩
      simp (disch := omega) only [un7, fb_odds_sumOfLot_86, nlit, iN_lt, ltF, ↓reduceIte]) (s := (jN 0, iN 0, sizes, names, heaps, v1, s1)) (a := 0) (n := KF) ⟨sizes, names, heaps, v1, s1, rfl, hd, by omega, fun ac => rfl⟩ (kf_lt (by omega))
    obtain ⟨z, nm, h, v, k', rfl, r2, r3⟩ := g2
    refine ⟨_, nm, z, h, v, k', ?_, fun ac => (hodd ac).trans (r3 ac), Nat.le_trans r2 ?_⟩
    · have g1' : itr (un7 (fb_odds_sumOfLot_86 (FG_odds_sumFrom n).1 (FG_odds_sumFrom n).2 (iN who) (enO want) pe ga hr rl rz lot ru born rc cL sz tk kd to fr cd (iN line) (jN (oW / s)) (iN q.1) (iN q.2) (iN (t.2 q.2).length) (jN (pkS t)))) KF (0, iN 0, sizes, names, heaps, v1, s1) = _ := g1
      simp (disch := omega) only [fR_odds_sumOfLot, nlit, a0, a1, hz, e1, un3, bT0, iN_lt, ltT, hpk, g1', un6, Option.bind_some, ↓reduceIte]
    · rw [← Nat.div_div_eq_div_mul]; exact Nat.mul_div_le _ _
theorem C_sumFrom (hx : CxOK x) (hcx : CX pe ga hr rl lot born ru cL sz tk fe cd kd fr to x) (hr0 : CR rz rc row) (hlen : row.length ≤ 12) (hr8 : ∀ q ∈ row, q.1 < x.1 ∧ q.2 < x.2.1) (hwho : who < 8) (hwant : ∀ m, want = some m → m < 8) : ∀ (r line : Nat), line + r = row.length → ∀ n, 2 * r + 1 ≤ n → PO x pe ga hr rl cL sz tk rz lot born cd kd fr to rc ru row who want n line
  | 0, line, hl, n, hn => by
    obtain ⟨n, rfl⟩ : ∃ z, n = z + 1 := ⟨n - 1, by omega⟩
    intro names sizes values stack heaps t s hd ht hs
    have hna := hd.nameOf hwho
    have hw := enO_inj (o := t.1 who) (fun m hm => (ht.1 who m hm).2) hwant
    show ∃ S n' s' h' v' st', fR_odds_sumFrom (FG_odds_sumFrom n).1 (FG_odds_sumFrom n).2 (iN who) (enO want) pe ga hr rl rz names lot ru sizes heaps born rc values cL sz tk stack kd to fr cd (iN line) (jN (oW / s)) = some (jN S, n', s', h', v', st') ∧ _
    rw [List.drop_eq_nil_of_le (by omega)]
    by_cases q : t.1 who = want
    · refine ⟨oW / s, names, sizes, heaps, values, stack, ?_, fun ac => by rw [odW, if_pos q]; rfl, Nat.le_refl _⟩
      have hw' : (enO (t.1 who) = enO want) = True := hw.trans (eq_true q)
      simp (disch := omega) only [fR_odds_sumFrom, fj_odds_sumFrom_20, hr0.1, iN_lt, ltF, hna, hw', Option.bind_some, ↓reduceIte]
    · refine ⟨0, names, sizes, heaps, values, stack, ?_, fun ac => by rw [odW, if_neg q]; rfl, Nat.zero_le _⟩
      have hw' : (enO (t.1 who) = enO want) = False := hw.trans (eq_false q)
      simp (disch := omega) only [fR_odds_sumFrom, fj_odds_sumFrom_20, hr0.1, iN_lt, ltF, hna, hw', Option.bind_some, ↓reduceIte]; rfl
  | r + 1, line, hl, n, hn => by
    obtain ⟨n, rfl⟩ : ∃ z, n = z + 2 := ⟨n - 2, by omega⟩
    intro names sizes values stack heaps t s hd ht hs
    have hlt : line < row.length := by omega
    have hk : row[line]? = some row[line] := List.getElem?_eq_getElem hlt
    have hdr : row.drop line = row[line] :: row.drop (line + 1) := List.drop_eq_getElem_cons hlt
    have hq := hr8 _ (List.mem_of_getElem? hk)
    have hx1 := hx.1
    have hx2 := hx.2.1
    have a0 : f_tri_at rz 36 rc (iN line) (iN 0) = some (iN row[line].1) := by rw [hr0.1, tri_at0 hlt (by omega) (by omega), (hr0.2 line _ hk).1]
    have a1 : f_tri_at rz 36 rc (iN line) (iN 1) = some (iN row[line].2) := by rw [hr0.1, tri_at hlt (by omega) (by omega) (by omega), (hr0.2 line _ hk).2]
    have hL := C_isOfLot hcx hx hq.2
    have hna := hd.nameOf (show row[line].1 < 8 by omega)
    have hrz := hr0.1
    show ∃ S n' s' h' v' st', fR_odds_sumFrom (FG_odds_sumFrom (n + 1)).1 (FG_odds_sumFrom (n + 1)).2 (iN who) (enO want) pe ga hr rl rz names lot ru sizes heaps born rc values cL sz tk stack kd to fr cd (iN line) (jN (oW / s)) = some (jN S, n', s', h', v', st') ∧ _
    rw [hdr]
    have plain : lotQ x t row[line].1 row[line].2 = false → ∃ S n' s' h' v' st', fj_odds_sumFrom_101 (FG_odds_sumFrom (n + 1)).1 (FG_odds_sumFrom (n + 1)).2 (iN who) (enO want) pe ga hr rl rz names lot ru sizes heaps born rc values cL sz tk stack kd to fr cd (iN line) (jN (oW / s)) (iN row[line].1) (iN row[line].2) = some (jN S, n', s', h', v', st') ∧ (∀ ac, odW adN x who want (row[line] :: row.drop (line + 1)) t s ac = ac + S) ∧ S ≤ oW / s := by
      intro hno
      obtain ⟨v1, k1, n1, z1, h1, e1, e2⟩ := C_doTried (values := values) (stack := stack) hx hcx hd ht hq.1 hq.2
      obtain ⟨S, n2, z2, h2, v2, st2, f1, f2, f3⟩ := C_sumFrom hx hcx hr0 hlen hr8 hwho hwant r (line + 1) (by omega) (n + 1) (by omega) n1 z1 v1 k1 h1 _ s e2 (goS_TW (x := x) ht (by omega) (by omega)) hs
      refine ⟨S, n2, z2, h2, v2, st2, ?_, fun ac => ?_, f3⟩
      · simp only [fj_odds_sumFrom_101, e1, un6, nlit, iN_add, f1, Option.bind_some]
      · rw [odW, if_neg (by rw [hno]; decide)]; exact f2 ac
    have hgo : (iN line < rz) = True := by rw [hrz, iN_lt (by omega) (by omega)]; exact eq_true hlt
    cases hlot : x.2.2.2.1 row[line].2 with
    | false =>
      rw [hlot] at hL
      obtain ⟨S, n2, z2, h2, v2, st2, f1, f2, f3⟩ := plain (by unfold lotQ; rw [hlot]; rfl)
      refine ⟨S, n2, z2, h2, v2, st2, ?_, f2, f3⟩
      simp (disch := omega) only [fR_odds_sumFrom, nlit, hgo, iN_lt, ltT, a0, a1, hL, bF0, f1, Option.bind_some, ↓reduceIte]
    | true =>
      rw [hlot] at hL
      cases hn' : t.1 row[line].1 with
      | some m =>
        have hm8 := (ht.1 _ m hn').2
        rw [hn', enO_some] at hna
        obtain ⟨S, n2, z2, h2, v2, st2, f1, f2, f3⟩ := plain (by unfold lotQ; rw [hn', hlot]; rfl)
        refine ⟨S, n2, z2, h2, v2, st2, ?_, f2, f3⟩
        simp (disch := omega) only [fR_odds_sumFrom, nlit, negone, hgo, iN_lt, ltT, a0, a1, hL, bT0, hna, iN_nm, f1, Option.bind_some, ↓reduceIte]
      | none =>
        rw [hn', enO_none] at hna
        obtain ⟨S, n2, z2, h2, v2, st2, f1, f2, f3⟩ := C_sumOfLot hx hcx hr0 hlen hr8 hk (C_sumFrom hx hcx hr0 hlen hr8 hwho hwant r (line + 1) (by omega) n (by omega)) (values := values) (stack := stack) hd ht hs hlot hn'
        refine ⟨S, n2, z2, h2, v2, st2, ?_, f2, f3⟩
        simp (disch := omega) only [fR_odds_sumFrom, nlit, negone, hgo, iN_lt, ltT, a0, a1, hL, bT0, hna, f1, un6, Option.bind_some, ↓reduceIte]
end
