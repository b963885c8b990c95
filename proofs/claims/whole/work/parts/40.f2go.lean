/-! ===== PURE: go, gone, days ===== -/
def spGo (s : Wd) (o : Option (Nat × Tn × Nat)) (w : Nat) (fee : Int) : Wd := ((s.1.1, s.1.2.1, s.1.2.2.1, s.1.2.2.2.1, s.1.2.2.2.2.1, aftX s.1.2.2.2.2.2 o), (s.2.1.1, s.2.1.2.1, if o.isSome = true then setF s.2.1.2.2.1 w (s.2.1.2.2.1 w + zI fee) else s.2.1.2.2.1, if o.isSome = true then setF s.2.1.2.2.2 w (s.2.1.2.2.2 w + iN 1) else s.2.1.2.2.2), aftT s.2.2.1 o, s.2.2.2)
theorem cxO_go {s : Wd} {o : Option (Nat × Tn × Nat)} {w : Nat} {fee : Int} {laws : Nat → Lw} : cxO (spGo s o w fee) laws = cxO s laws := rfl
theorem goN_in {x : Cx} {X : Nat} {t : Tn} {w g P G : Nat} (h1 : ∀ i n, t.1 i = some n → i < P ∧ n < P) (h2 : ∀ g n, n ∈ t.2 g → g < G ∧ n < P) (hw : w < P) (hg : g < G) : (∀ i n, (aftT t (goN x X t w g)).1 i = some n → i < P ∧ n < P) ∧ ∀ g' n, n ∈ (aftT t (goN x X t w g)).2 g' → g' < G ∧ n < P := by
  have hout : ∀ n, t.1 w = some n → (∀ i m, (outT t w g n).1 i = some m → i < P ∧ m < P) ∧ ∀ g' m, m ∈ (outT t w g n).2 g' → g' < G ∧ m < P := by
    intro n hn
    refine ⟨fun i m hi => ?_, fun g' m hm => ?_⟩
    · have hi' : setF t.1 w none i = some m := hi
      by_cases q : i = w
      · subst q; rw [setF_same] at hi'; cases hi'
      · rw [setF_ne q] at hi'; exact h1 i m hi'
    · have hm' : m ∈ setF t.2 g (t.2 g ++ [n]) g' := hm
      by_cases q : g' = g
      · subst q
        rw [setF_same] at hm'
        rcases List.mem_append.mp hm' with z | z
        · exact h2 _ m z
        · rw [List.mem_singleton] at z; subst z; exact ⟨hg, (h1 w m hn).2⟩
      · rw [setF_ne q] at hm'; exact h2 g' m hm'
  have hin : ∀ k n, (t.2 g)[k]? = some n → (∀ i m, (inT t w g k n).1 i = some m → i < P ∧ m < P) ∧ ∀ g' m, m ∈ (inT t w g k n).2 g' → g' < G ∧ m < P := by
    intro k n hk
    have hn := (h2 g n (List.mem_of_getElem? hk)).2
    refine ⟨fun i m hi => ?_, fun g' m hm => ?_⟩
    · have hi' : setF t.1 w (some n) i = some m := hi
      by_cases q : i = w
      · subst q; rw [setF_same] at hi'; cases hi'; exact ⟨hw, hn⟩
      · rw [setF_ne q] at hi'; exact h1 i m hi'
    · have hm' : m ∈ setF t.2 g ((t.2 g).eraseIdx k) g' := hm
      by_cases q : g' = g
      · subst q; rw [setF_same] at hm'; exact h2 _ m (List.mem_of_mem_eraseIdx hm')
      · rw [setF_ne q] at hm'; exact h2 g' m hm'
  unfold goN
  by_cases hc : canS x t w g = true
  · rw [if_pos hc]
    cases q : t.1 w with
    | some n => exact hout n q
    | none =>
      show (∀ i n, (aftT t (if x.2.2.2.1 g then _ else _)).1 i = some n → _) ∧ ∀ g' n, n ∈ (aftT t (if x.2.2.2.1 g then _ else _)).2 g' → _
      cases x.2.2.2.1 g with
      | true => exact hin _ _ (lot_at (can_ne hc q))
      | false => exact hin _ _ (pick_at (can_ne hc q))
  · rw [if_neg hc]; exact ⟨h1, h2⟩
theorem goN_name {x : Cx} {X : Nat} {t : Tn} {w g : Nat} (ht : TW t) : ∀ m, (goN x X t w g).map Prod.fst = some m → m < 8 := by
  intro m hm
  unfold goN at hm
  by_cases hc : canS x t w g = true
  · rw [if_pos hc] at hm
    cases q : t.1 w with
    | some n =>
      rw [q] at hm
      have : n = m := Option.some.inj hm
      rw [← this]; exact (ht.1 w n q).2
    | none =>
      rw [q] at hm
      dsimp only at hm
      have hl : ∀ k, k < (t.2 g).length → (t.2 g).getD k 0 < 8 := fun k hk => (ht.2.1 g _ (List.mem_of_getElem? (show (t.2 g)[k]? = some ((t.2 g).getD k 0) by rw [List.getD_eq_getElem?_getD, List.getElem?_eq_getElem hk]; rfl))).2
      have hne := can_ne hc q
      cases hlot : x.2.2.2.1 g with
      | true =>
        rw [hlot] at hm
        have e : (t.2 g).getD (X % (t.2 g).length) 0 = m := Option.some.inj hm
        rw [← e]; exact hl _ (Nat.mod_lt _ (List.length_pos_iff.mpr hne))
      | false =>
        rw [hlot] at hm
        have e : (t.2 g).getD (pickS x t w g) 0 = m := Option.some.inj hm
        rw [← e]; exact hl _ (pickS_lt hne)
  · rw [if_neg hc] at hm; cases hm
section
variable {pe ga hr tx rl dz rz kz : Int32} {bo lo dc rc kc : Nat → Int32} {laws : Nat → Lw} {texts cL lz tk fe : Nat → Int32} {cd kd fr to : Nat → Nat → Int32}
/-- a going for good, on both sides at once -/
theorem J_step {s : Wd} {xx : Int32} {pa dn nm sz a d values stack named truth : Nat → Int32} {hp : Nat → Nat → Int32} {mv : Nat → Int64} (hC : CW pe ga hr tx rl xx bo lo pa dn nm sz hp dz dc rz rc kz kc s) (hM : MA a s) (hok : WOK s) (hT : MT d 0 s.2.2.1) (hcl : CLs cL lz tk fe cd kd fr to s.1.2.2.2.1 laws) (hml : MLs texts s.1.2.2.2.1 laws) (l v : Int32) : ∃ o xx' values' stack' pa' dn' nm' sz' hp' a' d' named' mv' truth' s', f_go_doNow pe ga hr rl xx (ruO s) values (cL (ruO s)) (lz (ruO s)) (tk (ruO s)) (fe (ruO s)) stack pa dn lo bo nm sz (kd (ruO s)) (to (ruO s)) (fr (ruO s)) (cd (ruO s)) hp l v = some (enO o, xx', values', stack', pa', dn', nm', sz', hp') ∧ f_m_go (iN 0) a d texts named mv truth l v = some (enO o, a', d', named', mv', truth') ∧ CW pe ga hr tx rl xx' bo lo pa' dn' nm' sz' hp' dz dc rz rc kz kc s' ∧ MA a' s' ∧ WOK s' ∧ MT d' 0 s'.2.2.1 ∧ (∀ j, 35 ≤ j → d' j = d j) ∧ (∀ m, o = some m → m < 8) ∧ s'.1.2.2.2.1 = s.1.2.2.2.1 ∧ ruO s' = ruO s ∧ s'.1.1 = s.1.1 ∧ s'.1.2.1 = s.1.2.1 := by
  have hX := cxO_ok (laws := laws) hok
  have hcx := CX.of (texts := texts) hC.1 hC.2.1 hok hcl hml
  have hmx := MX.of hM hok hml
  have hP := hok.1.1
  have hG := hok.1.2.1
  have g1 := C_hasPerson (l := l) (show s.1.1 < 100 by omega)
  have g2 := M_isPerson (l := l) hM.1.1 (show s.1.1 < 1000 by omega)
  have g3 := C_hasGate (l := v) (show s.1.2.1 < 100 by omega)
  have g4 := M_isGate (l := v) hM.1.2.1 (show s.1.2.1 < 1000 by omega)
  rw [← hC.1.1] at g1
  rw [← hC.1.2.1] at g3
  cases h : inR l s.1.1 with
  | false =>
    rw [h] at g1 g2
    refine ⟨none, xx, values, stack, pa, dn, nm, sz, hp, a, d, named, mv, truth, s, ?_, ?_, hC, hM, hok, hT, fun _ _ => rfl, fun m hm => (by cases hm), rfl, rfl, rfl, rfl⟩
    · simp only [f_go_doNow, f_go_canBe, g1, un3, Option.bind_some, nlit, bF0, ↓reduceIte]; rfl
    · simp only [f_m_go, g2, Option.bind_some, nlit, bF0, ↓reduceIte]; rfl
  | true =>
    rw [h] at g1 g2
    cases h' : inR v s.1.2.1 with
    | false =>
      rw [h'] at g3 g4
      refine ⟨none, xx, values, stack, pa, dn, nm, sz, hp, a, d, named, mv, truth, s, ?_, ?_, hC, hM, hok, hT, fun _ _ => rfl, fun m hm => (by cases hm), rfl, rfl, rfl, rfl⟩
      · simp only [f_go_doNow, f_go_canBe, g1, g3, un3, Option.bind_some, nlit, bT0, bF0, ↓reduceIte]; rfl
      · simp only [f_m_go, g2, g4, Option.bind_some, nlit, bT0, bF0, ↓reduceIte]; rfl
    | true =>
      obtain ⟨w, hw, rfl⟩ := inR_some h
      obtain ⟨g, hg, rfl⟩ := inR_some h'
      have hXb := hok.1.2.2.2.2.2
      obtain ⟨v1, s1, n1, z1, h1, e1, e2⟩ := C_doNow (x := cxO s laws) (w := w) (g := g) (values := values) (stack := stack) (paid := pa) (done := dn) hX hcx hXb hC.2.2.1 hok.2.1.1 hw hg
      obtain ⟨a', d', mn, mv', mt, e3, e4, e5, e6⟩ := M_go (x := cxO s laws) (w := w) (g := g) (named := named) (values := mv) (truth := truth) hX hmx hM.1.2.2.2.2.2 hXb hT hok.2.1.1 hw hg
      obtain ⟨⟨c1, c2, c3, c4, c5, c6⟩, ⟨c7, c8, c9, c10⟩, cT, cD, cR, cK⟩ := hC
      obtain ⟨⟨m1, m2, m3, m4, m5, m6⟩, ⟨m7, m8, m9, m10⟩, ⟨m11, m12⟩, ⟨m13, m14⟩, ⟨m15, m16, m17⟩⟩ := hM
      obtain ⟨⟨k1, k2, k3, k4, k5, k6⟩, ⟨k7, k8, k9⟩, ⟨kD, kD2⟩, ⟨kR, kR2⟩, ⟨kK, kK2⟩⟩ := hok
      have hw8 : w < 8 := by omega
      have hg3 : g < 3 := by omega
      rw [← c6] at e1
      refine ⟨_, _, v1, s1, _, _, n1, z1, h1, a', d', mn, mv', mt, spGo s (goN (cxO s laws) s.1.2.2.2.2.2 s.2.2.1 w g) w (feeS (cxO s laws) s.2.2.1 w g), e1, e3, ⟨⟨c1, c2, c3, c4, c5, rfl⟩, ⟨c7, c8, fun i hi => ?_, fun i hi => ?_⟩, e2, cD, cR, cK⟩, ?_, ⟨⟨k1, k2, k3, k4, k5, goN_X k6⟩, ⟨goN_TW k7 hw8 hg3, goN_in k8 k9 hw hg⟩, ⟨kD, kD2⟩, ⟨kR, kR2⟩, ⟨kK, kK2⟩⟩, e4, e5, goN_name k7, rfl, rfl, rfl, rfl⟩
      · show _ = (if _ then setF s.2.1.2.2.1 w (s.2.1.2.2.1 w + zI (feeS (cxO s laws) s.2.2.1 w g)) else s.2.1.2.2.1) i
        split
        · by_cases q : i = w
          · subst q; rw [upd_same, setF_same, c9 i hi]
          · rw [upd_ne q, setF_ne q]; exact c9 i hi
        · exact c9 i hi
      · show _ = (if _ then setF s.2.1.2.2.2 w (s.2.1.2.2.2 w + iN 1) else s.2.1.2.2.2) i
        split
        · by_cases q : i = w
          · subst q; rw [upd_same, setF_same, c10 i hi]
          · rw [upd_ne q, setF_ne q]; exact c10 i hi
        · exact c10 i hi
      · have hs : ∀ j, j ≠ 8 → j ≠ 10 + 3 * w + 1 → j ≠ 10 + 3 * w + 2 → a' j = a j := by
          intro j q1 q2 q3
          rw [e6 j, if_neg q1, if_neg (fun z => q2 z.2), if_neg (fun z => q3 z.2)]
        refine ⟨⟨?_, ?_, ?_, ?_, ?_, ?_⟩, ⟨fun i hi => ?_, fun g hg => ?_, fun i hi => ?_, fun i hi => ?_⟩, ⟨?_, fun k q hk => ?_⟩, ⟨?_, fun k q hk => ?_⟩, ⟨?_, fun k hk => ?_, fun k q hk => ?_⟩⟩
        · rw [hs _ (by omega) (by omega) (by omega)]; exact m1
        · rw [hs _ (by omega) (by omega) (by omega)]; exact m2
        · rw [hs _ (by omega) (by omega) (by omega)]; exact m3
        · rw [hs _ (by omega) (by omega) (by omega)]; exact m4
        · rw [hs _ (by omega) (by omega) (by omega)]; exact m5
        · rw [e6 8, if_pos rfl]; rfl
        · rw [hs _ (by omega) (by omega) (by omega)]; exact m7 i hi
        · rw [hs _ (by omega) (by omega) (by omega)]; exact m8 g hg
        · show _ = (if _ then setF s.2.1.2.2.1 w (s.2.1.2.2.1 w + zI (feeS (cxO s laws) s.2.2.1 w g)) else s.2.1.2.2.1) i
          rw [e6, if_neg (by omega)]
          by_cases q : i = w
          · subst q
            by_cases hz : (goN (cxO s laws) s.1.2.2.2.2.2 s.2.2.1 i g).isSome = true
            · rw [if_pos ⟨hz, rfl⟩, if_pos hz, setF_same, m9 i hi]
            · rw [if_neg (fun z => hz z.1), if_neg (fun z => hz z.1), if_neg hz]; exact m9 i hi
          · rw [if_neg (by omega), if_neg (by omega)]
            split
            · rw [setF_ne q]; exact m9 i hi
            · exact m9 i hi
        · show _ = (if _ then setF s.2.1.2.2.2 w (s.2.1.2.2.2 w + iN 1) else s.2.1.2.2.2) i
          rw [e6, if_neg (by omega), if_neg (by omega)]
          by_cases q : i = w
          · subst q
            by_cases hz : (goN (cxO s laws) s.1.2.2.2.2.2 s.2.2.1 i g).isSome = true
            · rw [if_pos ⟨hz, rfl⟩, if_pos hz, setF_same, m10 i hi]
            · rw [if_neg (fun z => hz z.1), if_neg hz]; exact m10 i hi
          · rw [if_neg (by omega)]
            split
            · rw [setF_ne q]; exact m10 i hi
            · exact m10 i hi
        · rw [hs _ (by omega) (by omega) (by omega)]; exact m11
        · have hkl := (List.getElem?_eq_some_iff.mp hk).1
          rw [hs _ (by omega) (by omega) (by omega), hs _ (by omega) (by omega) (by omega), hs _ (by omega) (by omega) (by omega)]; exact m12 k q hk
        · rw [hs _ (by omega) (by omega) (by omega)]; exact m13
        · have hkl := (List.getElem?_eq_some_iff.mp hk).1
          rw [hs _ (by omega) (by omega) (by omega), hs _ (by omega) (by omega) (by omega)]; exact m14 k q hk
        · rw [hs _ (by omega) (by omega) (by omega)]; exact m15
        · have hkl := (List.getElem?_eq_some_iff.mp hk).1
          rw [hs _ (by omega) (by omega) (by omega)]; exact m16 k hk
        · have hkl := (List.getElem?_eq_some_iff.mp hk).1
          rw [hs _ (by omega) (by omega) (by omega), hs _ (by omega) (by omega) (by omega), hs _ (by omega) (by omega) (by omega)]; exact m17 k q hk
end
