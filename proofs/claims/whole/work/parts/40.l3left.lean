/-! ===== PURE: left: the class's count ===== -/
theorem bt_on : ∀ m, m < 256 → ∀ k, k < 8 → (((iN m >>> (iN k &&& 31)) &&& 1 = 1) ↔ m.testBit k = true) := by decide +kernel
theorem bt_off : ∀ m, m < 256 → ∀ k, k < 8 → iN m &&& ((1 <<< (iN k &&& 31)) ^^^ (-1)) = iN (m &&& (255 ^^^ 2 ^ k)) := by decide +kernel
theorem bt_set : ∀ m, m < 256 → ∀ k, k < 8 → iN m ||| (1 <<< (iN k &&& 31)) = iN (m ||| 2 ^ k) := by decide +kernel
theorem bt_clr {m k y : Nat} (hy : y < 8) : (m &&& (255 ^^^ 2 ^ k)).testBit y = (m.testBit y && !(y == k)) := by
  rw [Nat.testBit_and, Nat.testBit_xor, Nat.testBit_two_pow]
  have e : (255 : Nat).testBit y = true := by
    have : ∀ y, y < 8 → (255 : Nat).testBit y = true := by decide
    exact this y hy
  rw [e]
  congr 1
  by_cases q : y = k
  · rw [q, decide_eq_true rfl, beq_self_eq_true]; rfl
  · rw [decide_eq_false (fun z => q z.symm), beq_eq_false_iff_ne.mpr q]; rfl
def osM (P m : Nat) : List Nat := (List.range P).filter (fun o => m.testBit o)
theorem osM_clr {P m k : Nat} (hP : P ≤ 8) : osM P (m &&& (255 ^^^ 2 ^ k)) = (osM P m).filter (fun z => !(z == k)) := by
  unfold osM
  rw [List.filter_filter]
  refine List.filter_congr (fun y hy => ?_)
  rw [bt_clr (by have := List.mem_range.mp hy; omega), Bool.and_comm]
theorem len_filter_ne {os : List Nat} {k : Nat} (h : k ∈ os) : (os.filter (fun z => !(z == k))).length < os.length := by
  induction os with
  | nil => cases h
  | cons o r ih =>
    by_cases q : o = k
    · rw [List.filter_cons, if_neg (by rw [q, beq_self_eq_true]; decide), List.length_cons]
      have := List.length_filter_le (fun z => !(z == k)) r
      omega
    · have h' : k ∈ r := by
        rcases List.mem_cons.mp h with z | z
        · exact absurd z.symm q
        · exact z
      have := ih h'
      rw [List.filter_cons, if_pos (by rw [beq_eq_false_iff_ne.mpr q]; rfl), List.length_cons, List.length_cons]
      omega
theorem lexL_fuel : ∀ (f f' : Nat) (os : List Nat), os.length ≤ f → os.length ≤ f' → lexL f os = lexL f' os
  | 0, 0, os, _, _ => rfl
  | 0, f' + 1, os, h, _ => by
    have : os = [] := List.length_eq_zero_iff.mp (by omega)
    subst this; rfl
  | f + 1, 0, os, _, h => by
    have : os = [] := List.length_eq_zero_iff.mp (by omega)
    subst this; rfl
  | f + 1, f' + 1, os, h, h' => by
    unfold lexL
    by_cases q : os.isEmpty = true
    · rw [if_pos q, if_pos q]
    · rw [if_neg q, if_neg q]
      refine fm_cg (fun o ho => ?_)
      have := len_filter_ne ho
      rw [lexL_fuel f f' _ (by omega) (by omega)]
section
variable {x : Cx} {pe ga hr rl cL sz tk fe : Int32} {lot born cd kd fr to : Nat → Int32} {ru : Nat} {g who : Nat} {want : Option Nat}
theorem C_countFrom (hx : CxOK x) (hcx : CX pe ga hr rl lot born ru cL sz tk fe cd kd fr to x) (hg : g < x.2.1) (hwho : who < 8) (hwant : ∀ m, want = some m → m < 8) : ∀ (D n m : Nat) (names sizes values stack : Nat → Int32) (heaps : Nat → Nat → Int32) (t : Tn), D < n → m < 256 → D ≤ 6 → (∀ o, m.testBit o = true → o < x.1) → (osM x.1 m).length ≤ D → CT names sizes heaps t → TW t →
    ∃ n' s' h' v' st', (FG_crw_countFrom n) (iN g) (iN who) (enO want) pe ga hr rl names sizes heaps ru lot born values cL sz tk stack kd to fr cd (iN m) (iN D) = some (iN (hitN x g who want t (lexL D (osM x.1 m))), n', s', h', v', st') := by
  intro D
  induction D with
  | zero =>
    intro n m names sizes values stack heaps t hn hm hD hb hlen hd ht
    obtain ⟨n, rfl⟩ : ∃ z, n = z + 1 := ⟨n - 1, by omega⟩
    have hna := hd.nameOf hwho
    have hw := enO_inj (o := t.1 who) (fun m hm => (ht.1 who m hm).2) hwant
    have hos : osM x.1 m = [] := List.length_eq_zero_iff.mp (by omega)
    have hm0 : m = 0 := by
      refine Nat.eq_of_testBit_eq (fun i => ?_)
      rw [Nat.zero_testBit]
      cases q : m.testBit i with
      | false => rfl
      | true =>
        have : i ∈ osM x.1 m := List.mem_filter.mpr ⟨List.mem_range.mpr (hb i q), q⟩
        rw [hos] at this; cases this
    subst hm0
    refine ⟨names, sizes, heaps, values, stack, ?_⟩
    show fR_crw_countFrom (FG_crw_countFrom n) (iN g) (iN who) (enO want) pe ga hr rl names sizes heaps ru lot born values cL sz tk stack kd to fr cd (iN 0) (iN 0) = some (iN (hitN x g who want t [[]]), _)
    by_cases q : t.1 who = want
    · have hw' : (enO (t.1 who) = enO want) = True := hw.trans (eq_true q)
      have e : hitN x g who want t [[]] = 1 := by unfold hitN; rw [if_pos (show (finL x g t []).1 who = want from q)]; rfl
      rw [e]
      simp only [fR_crw_countFrom, fj_crw_countFrom_8, nlit, hna, hw', Option.bind_some, ↓reduceIte]
    · have hw' : (enO (t.1 who) = enO want) = False := hw.trans (eq_false q)
      have e : hitN x g who want t [[]] = 0 := by unfold hitN; rw [if_neg (show ¬ (finL x g t []).1 who = want from q)]; rfl
      rw [e]
      simp only [fR_crw_countFrom, fj_crw_countFrom_8, nlit, hna, hw', Option.bind_some, ↓reduceIte]
  | succ D ih =>
    intro n m names sizes values stack heaps t hn hm hD hb hlen hd ht
    obtain ⟨n, rfl⟩ : ∃ z, n = z + 1 := ⟨n - 1, by omega⟩
    have hx1 := hx.1
    have hx2 := hx.2.1
    by_cases hos : osM x.1 m = []
    · have e : lexL (D + 1) (osM x.1 m) = [[]] := by rw [hos]; rfl
      have hna := hd.nameOf hwho
      have hw := enO_inj (o := t.1 who) (fun m hm => (ht.1 who m hm).2) hwant
      have hm0 : m = 0 := by
        refine Nat.eq_of_testBit_eq (fun i => ?_)
        rw [Nat.zero_testBit]
        cases q : m.testBit i with
        | false => rfl
        | true =>
          have : i ∈ osM x.1 m := List.mem_filter.mpr ⟨List.mem_range.mpr (hb i q), q⟩
          rw [hos] at this; cases this
      rw [e]
      subst hm0
      refine ⟨names, sizes, heaps, values, stack, ?_⟩
      show fR_crw_countFrom (FG_crw_countFrom n) (iN g) (iN who) (enO want) pe ga hr rl names sizes heaps ru lot born values cL sz tk stack kd to fr cd (iN 0) (iN (D + 1)) = some (iN (hitN x g who want t [[]]), _)
      by_cases q : t.1 who = want
      · have hw' : (enO (t.1 who) = enO want) = True := hw.trans (eq_true q)
        have e : hitN x g who want t [[]] = 1 := by unfold hitN; rw [if_pos (show (finL x g t []).1 who = want from q)]; rfl
        rw [e]
        simp only [fR_crw_countFrom, fj_crw_countFrom_8, nlit, hna, hw', Option.bind_some, ↓reduceIte]
      · have hw' : (enO (t.1 who) = enO want) = False := hw.trans (eq_false q)
        have e : hitN x g who want t [[]] = 0 := by unfold hitN; rw [if_neg (show ¬ (finL x g t []).1 who = want from q)]; rfl
        rw [e]
        simp only [fR_crw_countFrom, fj_crw_countFrom_8, nlit, hna, hw', Option.bind_some, ↓reduceIte]
    · have hm0 : ¬ m = 0 := fun q => hos (by
        subst q
        unfold osM
        rw [List.filter_eq_nil_iff]
        intro y _; rw [Nat.zero_testBit]; decide)
      have hpk := C_packed hd ht
      obtain ⟨e, g1, g2⟩ := itr_itF (f := un7 (fb_crw_countFrom_46 (FG_crw_countFrom n) (iN g) (iN who) (enO want) pe ga hr rl ru lot born cL sz tk kd to fr cd (iN m) (iN (D + 1)) (jN (pkS t)))) (α := Nat) (fun k st S => ∃ nm z h v k', st = (iN S, iN k, nm, z, h, v, k') ∧ CT nm z h t) (fun e S => ∃ nm z h v k', e = (iN S, nm, z, h, v, k')) (fun k S => S + if m.testBit k = true then hitN x g who want (aft t (goS x t k g)) (lexL D (osM x.1 (m &&& (255 ^^^ 2 ^ k)))) else 0) (N := x.1) (fun k st S hk hR => by
        obtain ⟨nm, z, h, v, k', rfl, r1⟩ := hR
        have hpe : (iN k < pe) = True := by rw [hcx.1, iN_lt (by omega) (by omega)]; exact eq_true hk
        have hbit := bt_on m hm k (by omega)
        have hk1 : iN k + 1 = iN (k + 1) := iN_add (a := k) (b := 1)
        by_cases q : m.testBit k = true
        · have hq : ((iN m >>> (iN k &&& 31)) &&& 1 = 1) = True := eq_true (hbit.mpr q)
          obtain ⟨v1, k1, n1, z1, h1, e1, e2⟩ := C_doTried (values := v) (stack := k') hx hcx r1 ht hk hg
          have hin : k ∈ osM x.1 m := List.mem_filter.mpr ⟨List.mem_range.mpr hk, q⟩
          have hcl := osM_clr (m := m) (k := k) hx1
          have hlt := len_filter_ne hin
          rw [← hcl] at hlt
          obtain ⟨n2, z2, h2, v2, st2, f1⟩ := ih n (m &&& (255 ^^^ 2 ^ k)) n1 z1 v1 k1 h1 _ (by omega) (Nat.lt_of_le_of_lt Nat.and_le_left hm) (by omega) (fun o ho => hb o (by
            rw [Nat.testBit_and, Bool.and_eq_true] at ho; exact ho.1)) (by omega) e2 (goS_TW ht (by omega) (by omega))
          obtain ⟨n3, z3, h3, w1, w2⟩ := C_unpack (nm := n2) (sz := z2) (hp := h2) ht
          have hoff := bt_off m hm k (by omega)
          have hsub : iN (D + 1) - 1 = iN D := iN_sub (a := D + 1) (b := 1) (by omega)
          refine ⟨(iN (S + hitN x g who want (aft t (goS x t k g)) (lexL D (osM x.1 (m &&& (255 ^^^ 2 ^ k))))), iN (k + 1), n3, z3, h3, v2, st2), ?_, n3, z3, h3, v2, st2, by rw [if_pos q], w2⟩
          simp only [un7, fb_crw_countFrom_46, hpe, hq, e1, un6, hoff, hsub, f1, w1, un3, Option.bind_some, ↓reduceIte]
          rw [iN_add, hk1]
        · have hq : ((iN m >>> (iN k &&& 31)) &&& 1 = 1) = False := eq_false (fun z => q (hbit.mp z))
          refine ⟨(iN S, iN (k + 1), nm, z, h, v, k'), ?_, nm, z, h, v, k', by rw [if_neg q]; rfl, r1⟩
          simp only [un7, fb_crw_countFrom_46, hpe, hq, hk1, ↓reduceIte]) (fun st S hR => by
        obtain ⟨nm, z, h, v, k', rfl, r1⟩ := hR
        have hpe : (iN x.1 < pe) = False := by rw [hcx.1, iN_lt (by omega) (by omega)]; exact eq_false (Nat.lt_irrefl _)
        refine ⟨(iN S, nm, z, h, v, k'), ?_, nm, z, h, v, k', rfl⟩
        simp only [un7, fb_crw_countFrom_46, hpe, ↓reduceIte]) (s := (iN 0, iN 0, names, sizes, heaps, values, stack)) (a := 0) (n := KF) ⟨names, sizes, heaps, values, stack, rfl, hd⟩ (kf_lt (by omega))
      obtain ⟨nm, z, h, v, k', rfl⟩ := g2
      have hsum : ∀ k, k ≤ x.1 → itF (fun k S => S + if m.testBit k = true then hitN x g who want (aft t (goS x t k g)) (lexL D (osM x.1 (m &&& (255 ^^^ 2 ^ k)))) else 0) k 0 = hitN x g who want t (((List.range k).filter (fun o => m.testBit o)).flatMap (fun o => (lexL D ((osM x.1 m).filter (fun z => !(z == o)))).map (fun p => o :: p))) := by
        intro k
        induction k with
        | zero => intro _; rfl
        | succ k ihk =>
          intro hk
          rw [List.range_succ, List.filter_append, List.flatMap_append, hitN_app, ← ihk (by omega)]
          show itF _ k 0 + _ = _
          congr 1
          by_cases q : m.testBit k = true
          · rw [if_pos q, List.filter_cons, if_pos q, List.filter_nil, List.flatMap_cons, List.flatMap_nil, List.append_nil, hitN_cons, osM_clr hx1]
          · rw [if_neg q, List.filter_cons, if_neg q]; rfl
      have hL : lexL (D + 1) (osM x.1 m) = (osM x.1 m).flatMap (fun o => (lexL D ((osM x.1 m).filter (fun z => !(z == o)))).map (fun p => o :: p)) := by
        rw [lexL, if_neg (by rw [List.isEmpty_iff]; exact hos)]
      rw [hsum x.1 (Nat.le_refl _)] at g1
      refine ⟨nm, z, h, v, k', ?_⟩
      rw [hL]
      have hm0' : (iN m = iN 0) = False := by rw [iN_eq (by omega) (by omega)]; exact eq_false hm0
      have hD0 : (iN 0 < iN (D + 1)) = True := by rw [iN_lt (by omega) (by omega)]; exact eq_true (by omega)
      show fR_crw_countFrom (FG_crw_countFrom n) (iN g) (iN who) (enO want) pe ga hr rl names sizes heaps ru lot born values cL sz tk stack kd to fr cd (iN m) (iN (D + 1)) = _
      simp only [fR_crw_countFrom, nlit, hm0', hD0, hpk, g1, un6, Option.bind_some, ↓reduceIte]
      rfl
end
