/-! ===== PURE: fewest: the class's goals ===== -/
theorem WN.cg {wn : Nat → Int32} {W W' : Nat → Option Nat} (h : WN wn W) (e : ∀ k, k < 8 → W k = W' k) : WN wn W' := fun k hk => by rw [← e k hk]; exact h k hk
section
variable {x : Cx} {pe : Int32} {wn nm sz born : Nat → Int32} {hp : Nat → Nat → Int32} {t : Tn}
theorem C_goal2 (hx : CxOK x) (hpe : pe = iN x.1) (hbn : ∀ i, i < 8 → born i = b01 (x.2.2.2.2.1 i)) (l2 l3 : Int32) : ∃ w', f_x_setGoal pe wn born nm (iN 2) l2 l3 = some (iN 1, w') ∧ WN w' (W2 x) := by
  have hx1 := hx.1
  obtain ⟨w0, e0, h0⟩ := C_wantNo (wn := wn)
  obtain ⟨e, e1, e2⟩ := itr_itF (f := un2 (fb_x_setGoal_15 pe born)) (α := Unit) (fun k s _ => ∃ w, s = (iN k, w) ∧ WN w (fun j => if j < k ∧ x.2.2.2.2.1 j = true then some j else none)) (fun e _ => WN e (W2 x)) (fun _ u => u) (N := x.1) (fun k s _ hk hR => by
    obtain ⟨w, rfl, hw⟩ := hR
    have hlt : (iN k < pe) = True := by rw [hpe, iN_lt (by omega) (by omega)]; exact eq_true hk
    have hb := hbn k (by omega)
    cases q : x.2.2.2.2.1 k with
    | false =>
      rw [q] at hb
      obtain ⟨w', f1, f2⟩ := C_want hw (show k < 8 by omega) (o := none) (fun m hm => by cases hm)
      rw [enO_none] at f1
      refine ⟨(iN (k + 1), w'), ?_, w', rfl, f2.cg (fun j hj => ?_)⟩
      · simp (disch := omega) only [un2, fb_x_setGoal_15, fj_x_setGoal_52_15, nlit, negone, hlt, hb, bF0, f1, iN_add, iN_inb, iN_ix, ltT, Option.bind_some, ↓reduceIte]
      · by_cases c : j = k
        · rw [if_pos c, if_neg (fun z => by rw [c, q] at z; exact absurd z.2 (by decide))]
        · rw [if_neg c]
          by_cases c2 : j < k ∧ x.2.2.2.2.1 j = true
          · rw [if_pos c2, if_pos ⟨by omega, c2.2⟩]
          · rw [if_neg c2, if_neg (fun z => c2 ⟨by omega, z.2⟩)]
    | true =>
      rw [q] at hb
      obtain ⟨w', f1, f2⟩ := C_want hw (show k < 8 by omega) (o := some k) (fun m hm => by cases hm; omega)
      rw [enO_some] at f1
      refine ⟨(iN (k + 1), w'), ?_, w', rfl, f2.cg (fun j hj => ?_)⟩
      · simp (disch := omega) only [un2, fb_x_setGoal_15, fj_x_setGoal_52_15, nlit, negone, hlt, hb, bT0, f1, iN_add, iN_inb, iN_ix, ltT, Option.bind_some, ↓reduceIte]
      · by_cases c : j = k
        · rw [if_pos c, if_pos ⟨by omega, by rw [c]; exact q⟩, c]
        · rw [if_neg c]
          by_cases c2 : j < k ∧ x.2.2.2.2.1 j = true
          · rw [if_pos c2, if_pos ⟨by omega, c2.2⟩]
          · rw [if_neg c2, if_neg (fun z => c2 ⟨by omega, z.2⟩)]) (fun s _ hR => by
    obtain ⟨w, rfl, hw⟩ := hR
    exact ⟨w, by simp (disch := omega) only [un2, fb_x_setGoal_15, hpe, iN_lt, ltF, ↓reduceIte], hw⟩) (s := (iN 0, w0)) (a := ()) (n := KF) ⟨w0, rfl, h0.cg (fun j hj => by rw [if_neg (fun z => absurd z.1 (Nat.not_lt_zero _))])⟩ (kf_lt (by omega))
  refine ⟨e, ?_, e2⟩
  simp only [f_x_setGoal, e0, nlit, e1, Option.bind_some, ↓reduceIte]
theorem C_goal0 (hP : x.1 ≤ 8) (hpe : pe = iN x.1) {p v : Nat} (hp : p < x.1) (hv : v < 8) : ∃ w', f_x_setGoal pe wn born nm (iN 0) (iN p) (iN v) = some (iN 1, w') ∧ WN w' (W0 p v) := by
  obtain ⟨w0, e0, h0⟩ := C_wantNo (wn := wn)
  obtain ⟨w', f1, f2⟩ := C_want h0 (show p < 8 by omega) (o := some v) (fun m hm => by cases hm; exact hv)
  rw [enO_some] at f1
  have h1 : f_world_hasPerson pe (iN p) = some (b01 true) := by rw [hpe, C_hasPerson (by omega), inR_iN (by omega), decide_eq_true hp]
  have h2 : f_x_isName (iN v) = some (b01 true) := by rw [C_isName, inR_iN (by omega), decide_eq_true hv]
  have e02 : (iN 0 = iN 2) = False := eq_false (by decide)
  refine ⟨w', ?_, f2⟩
  simp only [f_x_setGoal, e0, nlit, e02, h1, h2, bT0, f1, Option.bind_some, ↓reduceIte]
theorem C_goal1 (hP : x.1 ≤ 8) (hpe : pe = iN x.1) (hd : CT nm sz hp t) (ht : TW t) {p q n m : Nat} (hp' : p < x.1) (hq : q < x.1) (hpq : p ≠ q) (hn : t.1 p = some n) (hm : t.1 q = some m) : ∃ w', f_x_setGoal pe wn born nm (iN 1) (iN p) (iN q) = some (iN 1, w') ∧ WN w' (W1 t p q) := by
  obtain ⟨w0, e0, h0⟩ := C_wantNo (wn := wn)
  have hn8 := (ht.1 p n hn).2
  have hm8 := (ht.1 q m hm).2
  obtain ⟨w1, f1, f2⟩ := C_want h0 (show p < 8 by omega) (o := t.1 q) (fun z hz => (ht.1 q z hz).2)
  obtain ⟨w2, g1, g2⟩ := C_want f2 (show q < 8 by omega) (o := t.1 p) (fun z hz => (ht.1 p z hz).2)
  have i1 := C_inside hP hpe hd ht hp'
  have i2 := C_inside hP hpe hd ht hq
  rw [hn] at i1
  rw [hm] at i2
  have n1 := hd.nameOf (show p < 8 by omega)
  have n2 := hd.nameOf (show q < 8 by omega)
  have e12 : (iN 1 = iN 2) = False := eq_false (by decide)
  have e10 : (iN 1 = iN 0) = False := eq_false (by decide)
  have epq : (iN p = iN q) = False := by rw [iN_eq (by omega) (by omega)]; exact eq_false hpq
  refine ⟨w2, ?_, g2⟩
  simp only [f_x_setGoal, fj_x_setGoal_96, e0, nlit, e12, e10, epq, i1, i2, Option.isSome_some, bT0, n1, n2, f1, g1, Option.bind_some, ↓reduceIte]
end
