/-! ===== PURE: fewest, whole ===== -/
section
variable {pe ga hr tx rl xx dz rz kz : Int32} {bo lo pa dn nm sz dc rc kc a d : Nat → Int32} {hp : Nat → Nat → Int32} {s : Wd} {laws : Nat → Lw} {texts cL lz tk fe : Nat → Int32} {cd kd fr to : Nat → Nat → Int32} {wn tb og tn tz v sk named truth states cf cb chain chains path : Nat → Int32} {th : Nat → Nat → Int32} {mv st : Nat → Int64} {size0 many : Int32}
theorem J_fewest (hC : CW pe ga hr tx rl xx bo lo pa dn nm sz hp dz dc rz rc kz kc s) (hM : MA a s) (hok : WOK s) (hT : MT d 0 s.2.2.1) (hcl : CLs cL lz tk fe cd kd fr to s.1.2.2.2.1 laws) (hml : MLs texts s.1.2.2.2.1 laws) (l1 l2 l3 l4 l5 : Int32) : ∃ r s' w' tb' st' og' tn' tz' th' v' sk' many' d' named' mv' truth' states' cf' cb' chain' chains' path', f_x_fewest pe ga hr rl size0 (ruO s) wn bo tb st og lo (cL (ruO s)) (lz (ruO s)) (tk (ruO s)) nm tn sz tz hp th v (kd (ruO s)) (to (ruO s)) (fr (ruO s)) sk (cd (ruO s)) l1 l2 l3 l4 l5 = some (r, s', w', tb', st', og', tn', tz', th', v', sk') ∧ f_m_fewest (iN 0) many a d texts named mv truth states cf cb chain chains path l1 l2 l3 l4 l5 = some (r, iN 0, many', d', named', mv', truth', states', cf', cb', chain', chains', path') ∧ ∀ j, j < 70 → d' j = d j := by
  have hP := hok.1.1
  have hG := hok.1.2.1
  have hX := cxO_ok (laws := laws) hok
  have hcx := CX.of (texts := texts) hC.1 hC.2.1 hok hcl hml
  have hmx := MX.of hM hok hml
  have h256 := two_lt hP
  have hpe : pe = iN s.1.1 := hC.1.1
  have ha0 : a 0 = iN s.1.1 := hM.1.1
  have same : ∀ w', f_x_fewest pe ga hr rl size0 (ruO s) wn bo tb st og lo (cL (ruO s)) (lz (ruO s)) (tk (ruO s)) nm tn sz tz hp th v (kd (ruO s)) (to (ruO s)) (fr (ruO s)) sk (cd (ruO s)) l1 l2 l3 l4 l5 = some (mI, size0, w', tb, st, og, tn, tz, th, v, sk) → f_m_fewest (iN 0) many a d texts named mv truth states cf cb chain chains path l1 l2 l3 l4 l5 = some (mI, iN 0, many, d, named, mv, truth, states, cf, cb, chain, chains, path) → ∃ r s' w' tb' st' og' tn' tz' th' v' sk' many' d' named' mv' truth' states' cf' cb' chain' chains' path', f_x_fewest pe ga hr rl size0 (ruO s) wn bo tb st og lo (cL (ruO s)) (lz (ruO s)) (tk (ruO s)) nm tn sz tz hp th v (kd (ruO s)) (to (ruO s)) (fr (ruO s)) sk (cd (ruO s)) l1 l2 l3 l4 l5 = some (r, s', w', tb', st', og', tn', tz', th', v', sk') ∧ f_m_fewest (iN 0) many a d texts named mv truth states cf cb chain chains path l1 l2 l3 l4 l5 = some (r, iN 0, many', d', named', mv', truth', states', cf', cb', chain', chains', path') ∧ ∀ j, j < 70 → d' j = d j := fun w' q1 q2 => ⟨mI, size0, w', tb, st, og, tn, tz, th, v, sk, many, d, named, mv, truth, states, cf, cb, chain, chains, path, q1, q2, fun _ _ => rfl⟩
  have hI := M_isInK (l := l1) (n := 2) (by decide)
  have hS := M_isSet (l := l4) ha0 hP
  have hsh : iN 1 <<< (pe &&& iN 31) = iN (2 ^ s.1.1) := by rw [hpe]; exact sh_twoI hP
  by_cases h5 : l5 < mI
  · have h5' : (l5 < mI) = True := eq_true h5
    refine same wn ?_ ?_
    · simp only [f_x_fewest, nlit, negone, h5', ↓reduceIte]
    · cases z1 : inR l1 3 with
      | false =>
        rw [z1] at hI
        simp only [f_m_fewest, nlit, negone, hI, bF0, Option.bind_some, ↓reduceIte]
      | true =>
        rw [z1] at hI
        cases z2 : inR l4 (2 ^ s.1.1) with
        | false =>
          rw [z2] at hS
          simp only [f_m_fewest, nlit, negone, hI, hS, bT0, bF0, Option.bind_some, ↓reduceIte]
        | true =>
          rw [z2] at hS
          simp only [f_m_fewest, nlit, negone, hI, hS, bT0, h5', Option.bind_some, ↓reduceIte]
  · have h5' : (l5 < mI) = False := eq_false h5
    cases z2 : inR l4 (2 ^ s.1.1) with
    | false =>
      rw [z2] at hS
      refine same wn ?_ ?_
      · by_cases c1 : l4 < iN 0
        · have c1' : (l4 < iN 0) = True := eq_true c1
          simp only [f_x_fewest, nlit, negone, h5', c1', ↓reduceIte]
        · have c1' : (l4 < iN 0) = False := eq_false c1
          have c2' : (l4 < iN (2 ^ s.1.1)) = False := by
            refine eq_false (fun c2 => ?_)
            rw [Int32.lt_iff_toInt_lt, i0_toInt] at c1
            rw [Int32.lt_iff_toInt_lt, iN_toInt (by omega)] at c2
            unfold inR at z2
            rw [decide_eq_false_iff_not] at z2
            exact z2 ⟨by omega, c2⟩
          simp only [f_x_fewest, nlit, negone, h5', c1', hsh, c2', ↓reduceIte]
      · cases z1 : inR l1 3 with
        | false =>
          rw [z1] at hI
          simp only [f_m_fewest, nlit, negone, hI, bF0, Option.bind_some, ↓reduceIte]
        | true =>
          rw [z1] at hI
          simp only [f_m_fewest, nlit, negone, hI, hS, bT0, bF0, Option.bind_some, ↓reduceIte]
    | true =>
      rw [z2] at hS
      obtain ⟨set, hset, rfl⟩ := inR_some z2
      have s0 : (iN set < iN 0) = False := iN_nneg (by omega)
      have s1 : (iN set < iN (2 ^ s.1.1)) = True := by rw [iN_lt (by omega) (by omega)]; exact eq_true hset
      have hbad : ∀ w', f_x_setGoal pe wn bo nm l1 l2 l3 = some (iN 0, w') → f_x_fewest pe ga hr rl size0 (ruO s) wn bo tb st og lo (cL (ruO s)) (lz (ruO s)) (tk (ruO s)) nm tn sz tz hp th v (kd (ruO s)) (to (ruO s)) (fr (ruO s)) sk (cd (ruO s)) l1 l2 l3 (iN set) l5 = some (mI, size0, w', tb, st, og, tn, tz, th, v, sk) := by
        intro w' hw
        simp only [f_x_fewest, nlit, negone, h5', s0, hsh, s1, hw, un2, Option.bind_some, ↓reduceIte]
      have hgood : ∀ w' W, f_x_setGoal pe wn bo nm l1 l2 l3 = some (iN 1, w') → WN w' W → (∀ (d' : Nat → Int32) (t : Tn), MT d' 70 t → TW t → (∀ j, j < 70 → d' j = d j) → f_m_isGoal (iN 70) a d' l1 l2 l3 = some (b01 (asW W t))) → f_m_fewest (iN 0) many a d texts named mv truth states cf cb chain chains path l1 l2 l3 (iN set) l5 = fj_m_fewest_62 (iN 0) many a d texts named mv truth states cf cb chain chains path l1 l2 l3 (iN set) l5 → ∃ r s' w' tb' st' og' tn' tz' th' v' sk' many' d' named' mv' truth' states' cf' cb' chain' chains' path', f_x_fewest pe ga hr rl size0 (ruO s) wn bo tb st og lo (cL (ruO s)) (lz (ruO s)) (tk (ruO s)) nm tn sz tz hp th v (kd (ruO s)) (to (ruO s)) (fr (ruO s)) sk (cd (ruO s)) l1 l2 l3 (iN set) l5 = some (r, s', w', tb', st', og', tn', tz', th', v', sk') ∧ f_m_fewest (iN 0) many a d texts named mv truth states cf cb chain chains path l1 l2 l3 (iN set) l5 = some (r, iN 0, many', d', named', mv', truth', states', cf', cb', chain', chains', path') ∧ ∀ j, j < 70 → d' j = d j := by
        intro w' W hw hWN hgl hm
        have e1 : f_x_fewest pe ga hr rl size0 (ruO s) wn bo tb st og lo (cL (ruO s)) (lz (ruO s)) (tk (ruO s)) nm tn sz tz hp th v (kd (ruO s)) (to (ruO s)) (fr (ruO s)) sk (cd (ruO s)) l1 l2 l3 (iN set) l5 = fewR (f_srch_find size0 tb pe ga hr rl st og w' tn tz th lo (ruO s) bo nm sz hp v (cL (ruO s)) (lz (ruO s)) (tk (ruO s)) sk (kd (ruO s)) (to (ruO s)) (fr (ruO s)) (cd (ruO s)) (iN set)) w' l5 := by
          have e10 : ¬ iN 1 = 0 := by decide
          have g5 : ¬ l5 < (-1) := h5
          have g0 : ¬ iN set < 0 := of_eq_false s0
          have hsh' : (1 : Int32) <<< (pe &&& 31) = iN (2 ^ s.1.1) := hsh
          unfold f_x_fewest fewR
          rw [if_neg g5, if_neg g0, hsh', if_pos (of_eq_true s1), hw, Option.bind_some]
          simp only [un2]
          rw [if_neg e10]
        rw [e1, hm]
        exact J_few hX hcx hmx hset hWN hgl hok.2.1.1 hC.2.2.1 hT h5
      cases z1 : inR l1 3 with
      | false =>
        rw [z1] at hI
        obtain ⟨w0, e0, -⟩ := C_wantNo (wn := wn)
        have n0 : (l1 = iN 0) = False := eq_false (fun z => by rw [z] at z1; revert z1; decide)
        have n1 : (l1 = iN 1) = False := eq_false (fun z => by rw [z] at z1; revert z1; decide)
        have n2 : (l1 = iN 2) = False := eq_false (fun z => by rw [z] at z1; revert z1; decide)
        refine same w0 (hbad w0 ?_) ?_
        · simp only [f_x_setGoal, fj_x_setGoal_96, e0, nlit, n0, n1, n2, Option.bind_some, ↓reduceIte]
        · simp only [f_m_fewest, nlit, negone, hI, bF0, Option.bind_some, ↓reduceIte]
      | true =>
        rw [z1] at hI
        obtain ⟨gl, hgl3, rfl⟩ := inR_some z1
        obtain rfl | rfl | rfl : gl = 0 ∨ gl = 1 ∨ gl = 2 := by omega
        · have e01 : (iN 0 = iN 1) = False := eq_false (by decide)
          have e02 : (iN 0 = iN 2) = False := eq_false (by decide)
          obtain ⟨w0, e0, -⟩ := C_wantNo (wn := wn)
          have p1 : f_world_hasPerson pe l2 = some (b01 (inR l2 s.1.1)) := by rw [hpe]; exact C_hasPerson (by omega)
          have p2 := M_isPerson (l := l2) ha0 (by omega)
          have p3 := M_isInK (l := l3) (n := 7) (by decide)
          cases y2 : inR l2 s.1.1 with
          | false =>
            rw [y2] at p1 p2
            refine same w0 (hbad w0 ?_) ?_
            · simp only [f_x_setGoal, fj_x_setGoal_96, e0, nlit, e01, e02, p1, bF0, Option.bind_some, ↓reduceIte]
            · simp only [f_m_fewest, nlit, negone, hI, hS, h5', p2, bT0, bF0, Option.bind_some, ↓reduceIte]
          | true =>
            rw [y2] at p1 p2
            cases y3 : inR l3 8 with
            | false =>
              rw [y3] at p3
              refine same w0 (hbad w0 ?_) ?_
              · simp only [f_x_setGoal, fj_x_setGoal_96, e0, nlit, e01, e02, p1, C_isName, y3, bT0, bF0, Option.bind_some, ↓reduceIte]
              · simp only [f_m_fewest, nlit, negone, hI, hS, h5', p2, p3, bT0, bF0, Option.bind_some, ↓reduceIte]
            | true =>
              rw [y3] at p3
              obtain ⟨p, hp', rfl⟩ := inR_some y2
              obtain ⟨nv, hnv, rfl⟩ := inR_some y3
              obtain ⟨w', g1, g2⟩ := C_goal0 (x := cxO s laws) (wn := wn) (born := bo) (nm := nm) hP hpe hp' hnv
              refine hgood w' _ g1 g2 (fun d' t h1 h2 h3 => M_goal0 h1 (by omega) h2 (by omega) hnv) ?_
              simp only [f_m_fewest, fj_m_fewest_46, nlit, negone, hI, hS, h5', p2, p3, e01, bT0, Option.bind_some, ↓reduceIte]
        · have e10 : (iN 1 = iN 0) = False := eq_false (by decide)
          rcases J_two (wn := wn) (bo := bo) hP hpe ha0 hC.2.2.1 hT hok.2.1.1 l2 l3 with ⟨⟨w0, g1⟩, g2⟩ | ⟨p, q, n, m, rfl, rfl, b1, b2, b3, b4, b5, b6⟩
          · refine same w0 (hbad w0 g1) ?_
            simp only [f_m_fewest, fj_m_fewest_46, nlit, negone, hI, hS, h5', g2, e10, bT0, Option.bind_some, ↓reduceIte]
          · obtain ⟨w', g1, g2⟩ := C_goal1 (x := cxO s laws) (wn := wn) (born := bo) hP hpe hC.2.2.1 hok.2.1.1 b1 b2 b3 b4 b5
            refine hgood w' _ g1 g2 (fun d' t h1 h2 h3 => M_goal1 h1 (by omega) h2 (hT.moved hok.2.1.1 (fun j hj => h3 _ (by omega))) hok.2.1.1 (by omega) (by omega) b3 b4 b5) ?_
            simp only [f_m_fewest, fj_m_fewest_46, nlit, negone, hI, hS, h5', b6, e10, bT0, Option.bind_some, ↓reduceIte]
        · have e20 : (iN 2 = iN 0) = False := eq_false (by decide)
          have e21 : (iN 2 = iN 1) = False := eq_false (by decide)
          obtain ⟨w', g1, g2⟩ := C_goal2 (x := cxO s laws) (wn := wn) (nm := nm) hX hpe hC.2.1.1 l2 l3
          refine hgood w' _ g1 g2 (fun d' t h1 h2 h3 => M_goal2 hX hmx h1 (by omega) h2 l2 l3) ?_
          simp only [f_m_fewest, fj_m_fewest_46, nlit, negone, hI, hS, h5', e20, e21, bT0, Option.bind_some, ↓reduceIte]
end
