/-! ===== PURE: text: ONE ===== -/
section
variable (by_ tp kd st nu tx0 : Nat → Int32) (n : Nat) (B : Nat → Nat) (L : List Tk) (al so : Int32) (aF : Nat → Bool) (T : Nat)
/-- what is read of it on both sides: bad -/
def BD (r : Option (Int32 × Int32 × Int32 × Int32 × Int32 × (Nat → Int32))) (i : Nat) (s : T11) : Prop := ∃ f p i2 k2 c2 code2, r = some (iN f, iN p, iN i2, k2, iN c2, code2) ∧ f ≠ 0 ∧ f < 10 ∧ i2 ≤ 300 ∧ c2 ≤ 300 ∧ FL tp tx0 n so T f p (302 - i) s
def HO (o d : Nat) : Prop := ∀ (i q x : Nat) (cs : List (Nat × Nat)) (code : Nat → Int32) (K0 : List Nat) (s : T11), CC code cs → cs.length + q + x ≤ i → q ≤ o → (∀ v, K0.head? = some v → v ≠ 2) → (∀ v ∈ K0, v < 100) → (List.replicate q 2 ++ K0).length ≤ 3 * o + 2 → MR tx0 n B L T i (List.replicate q 2 ++ K0) o false cs s →
  (∃ i' c code' s' k, (FG_rd_readSum d).2.2 (iN (L.length + 1)) (iN 0) mI (iN i) (iN (kI L n i)) al st (iN cs.length) kd nu code (iN o) = some (iN 0, mI, iN i', iN (kI L n i'), iN (cs ++ c).length, code') ∧ CC code' (cs ++ c) ∧ i < i' ∧ i' ≤ L.length ∧ (cs ++ c).length + q + x ≤ i' ∧ i + k = i' ∧ stps (un11 (fb_m_summed_10 (iN n) (iN (680 * T)) so tp)) k s s' ∧ MR tx0 n B L T i' K0 (o - q) true (cs ++ c ++ List.replicate q (2, 0)) s' ∧ ∀ t v, t + v + (2 * (8 - o) + 1) ≤ 60 → tyR aF c t v = some (t, v + 1)) ∨
  BD tp tx0 n so T ((FG_rd_readSum d).2.2 (iN (L.length + 1)) (iN 0) mI (iN i) (iN (kI L n i)) al st (iN cs.length) kd nu code (iN o)) i s
def HS (o d : Nat) : Prop := ∀ (i x : Nat) (cs : List (Nat × Nat)) (code : Nat → Int32) (K : List Nat) (s : T11), CC code cs → cs.length + x ≤ i → (∀ v, K.head? = some v → v = 40) → (∀ v ∈ K, v < 100) → K.length ≤ 3 * o → MR tx0 n B L T i K o false cs s →
  (∃ i' c code' s' k A cr, (FG_rd_readSum d).1 (iN (L.length + 1)) (iN 0) mI (iN i) (iN (kI L n i)) al st (iN cs.length) kd nu code (iN o) = some (iN 0, mI, iN i', iN (kI L n i'), iN (cs ++ c).length, code') ∧ CC code' (cs ++ c) ∧ i < i' ∧ i' ≤ L.length ∧ (cs ++ c).length + x ≤ i' ∧ i + k = i' ∧ stps (un11 (fb_m_summed_10 (iN n) (iN (680 * T)) so tp)) k s s' ∧ MR tx0 n B L T i' (A ++ K) o true cr s' ∧ cs ++ c = cr ++ A.map (fun v => (v, 0)) ∧ (∀ v ∈ A, 3 ≤ v ∧ v < 40) ∧ A.length ≤ 2 ∧ ¬ (7 ≤ kI L n i' ∧ kI L n i' ≤ 11) ∧ ∀ t v, t + v + (2 * (8 - o) + 3) ≤ 60 → tyR aF c t v = some (t, v + 1)) ∨
  BD tp tx0 n so T ((FG_rd_readSum d).1 (iN (L.length + 1)) (iN 0) mI (iN i) (iN (kI L n i)) al st (iN cs.length) kd nu code (iN o)) i s
end
section
variable {by_ tp kd st nu tx0 : Nat → Int32} {n : Nat} {B : Nat → Nat} {L : List Tk} {al so : Int32} {aF : Nat → Bool} {T : Nat}
theorem O_of (hX : PX by_ tp kd st nu n B L al so aF T) {o d : Nat} (ho : o ≤ 8) (hS : o < 8 → HS tp kd st nu tx0 n B L al so aF T (o + 1) d) (hO : o < 8 → HO tp kd st nu tx0 n B L al so aF T (o + 1) d) : HO tp kd st nu tx0 n B L al so aF T o (d + 1) := by
  intro i q x cs code K0 s hcc hlen hq hh hv hkl hm
  show (∃ i' c code' s' k, fR_rd_readOne (FG_rd_readSum d).1 (FG_rd_readSum d).2.1 (FG_rd_readSum d).2.2 (iN (L.length + 1)) (iN 0) mI (iN i) (iN (kI L n i)) al st (iN cs.length) kd nu code (iN o) = some (iN 0, mI, iN i', iN (kI L n i'), iN (cs ++ c).length, code') ∧ _) ∨ BD tp tx0 n so T (fR_rd_readOne (FG_rd_readSum d).1 (FG_rd_readSum d).2.1 (FG_rd_readSum d).2.2 (iN (L.length + 1)) (iN 0) mI (iN i) (iN (kI L n i)) al st (iN cs.length) kd nu code (iN o)) i s
  have hL := hX.len
  have hT := hX.2.2.2.1
  obtain ⟨a, p, t, b, wd, tx, pile, rfl, hr, hmc, htx, hpl⟩ := hm
  have hi := hr.1
  obtain ⟨k1, k2, k3, k4, k5, k6⟩ := hX.tok hi
  have hMK : MK (kI L n i) (tI L n i).2.1 t b wd := hr.2.2.1
  have hpp : p = iN (pI L n i) := hr.2.1
  have hnm := M_nameOf hMK
  have b00 : (b01 false = iN 0) = True := bF0
  have hin : inb (iN i) 301 = True := by rw [iN_inb (by omega)]; exact eq_true (by omega)
  have hix : ix (iN i) = i := iN_ix (by omega)
  have hkeq : ∀ c, c < 100 → (iN (kI L n i) = iN c) = (kI L n i = c) := fun c hc => iN_eq (by omega) (by omega)
  have hK160 : (List.replicate q 2 ++ K0).length ≤ 160 := by omega
  by_cases c2 : kI L n i = 2
  · -- a number
    have hil := kI_lt (show kI L n i ≠ 0 by omega)
    have e2 : (iN (kI L n i) = iN 2) = True := (hkeq 2 (by decide)).trans (eq_true c2)
    have t1 : (t = iN 1) = True := hMK.t1.trans (eq_true c2)
    obtain ⟨m, hm1, hm2, hm3, hm4⟩ : ∃ m, b = iN m ∧ m < 2000000 ∧ ((tI L n i).2.1 ≤ 9999 → m = (tI L n i).2.1) ∧ (9999 < (tI L n i).2.1 → 9999 < m) := by
      rcases hMK with ⟨-, -, h3⟩ | ⟨-, h2, -⟩
      · exact h3 c2
      · omega
    by_cases c3 : 9999 < (tI L n i).2.1
    · refine Or.inr ?_
      have c3' : (iN 9999 < iN (tI L n i).2.1) = True := by rw [iN_lt (by omega) (by omega)]; exact eq_true c3
      have c4' : (iN 9999 < b) = True := by rw [hm1, iN_lt (by omega) (by omega)]; exact eq_true (hm4 c3)
      have e3 := C_failT hX hi (w := iN 2)
      have e4 := H_step (tokens := iN (L.length + 1)) (k := iN (kI L n i)) (kd := kd) (f := 2) (i := i) (by decide) (by decide)
      obtain ⟨c', code', e5, e6⟩ := C_emitA (code := code) (v := nu i) (show cs.length ≤ 300 by omega)
      refine ⟨2, pI L n i, i, iN (kI L n i), c', code', ?_, by decide, by decide, by omega, e6, ?_⟩
      · simp only [fR_rd_readOne, f_rd_readNumber, fj_rd_readNumber_36, nlit, e2, hin, hix, k3, c3', e3, e4, un2, un5, Option.bind_some, ↓reduceIte]
        rw [← k3]
        simp only [e5, un2, Option.bind_some]
      · refine FL.mono (FL.now (a := a) (t := t) (b := b) (wd := wd) (wr := iN cs.length) (pi := iN (List.replicate q 2 ++ K0).length) (op := iN o) (wh := b01 false) (tx := tx) (pile := pile) ?_ htx) (show 1 ≤ 302 - i by omega)
        have h20 : (iN 2 = iN 0) = False := eq_false (by decide)
        rw [hpp]
        simp only [un11, fb_m_summed_10, fj_m_summed_24_10, fj_m_summed_42_10, f_m_beginOne, nlit, b00, t1, c4', h20, un12, Option.bind_some, ↓reduceIte]
    · have hmn := hm3 (by omega)
      have c3' : (iN 9999 < iN (tI L n i).2.1) = False := by rw [iN_lt (by omega) (by omega)]; exact eq_false c3
      have c4' : (iN 9999 < b) = False := by rw [hm1, hmn]; exact c3'
      have e4 := C_stepT hX hil (k := iN (kI L n i))
      obtain ⟨code', e5, e6⟩ := C_put hcc (show cs.length < 300 by omega) (0, (tI L n i).2.1) (v := iN (tI L n i).2.1) rfl
      obtain ⟨a', p', t', b', wd', n1, n2⟩ := M_nextT hX.1 hr hil
      obtain ⟨tx1, m1, m2, m3⟩ := M_emit hT hmc htx (show cs.length < 300 by omega) 0 (tI L n i).2.1
      have hl1 : (cs ++ [(0, (tI L n i).2.1)]).length = cs.length + 1 := by rw [List.length_append]; rfl
      obtain ⟨tx2, w1, w2, w3⟩ := M_whole (wh := b01 false) hT hh hv hq (show o < 100 by omega) (show (cs ++ [(0, (tI L n i).2.1)]).length + q ≤ 300 by omega) hK160 m2 m3 hpl
      rw [hl1] at w1
      refine Or.inl ⟨i + 1, [(0, (tI L n i).2.1)], code', (a', p', t', b', wd', iN (cs.length + 1 + q), iN K0.length, iN (o - q), iN 1, tx2, pile), 1, ?_, e6, by omega, by omega, by omega, rfl, stps_one ?_, ⟨a', p', t', b', wd', tx2, pile, ?_, n2, w2, w3, hpl.app⟩, fun t v htv => ?_⟩
      · simp only [fR_rd_readOne, f_rd_readNumber, fj_rd_readNumber_36, nlit, e2, hin, hix, k3, c3', e4, e5, un2, un5, Option.bind_some, ↓reduceIte]
      · rw [hm1, hmn] at n1 c4' ⊢
        have h00 : (iN 0 = iN 0) = True := eq_true rfl
        simp only [un11, fb_m_summed_10, fj_m_summed_24_10, fj_m_summed_42_10, f_m_beginOne, nlit, b00, t1, c4', m1, n1, w1, un2, un5, un12, Option.bind_some, ↓reduceIte]
      · rw [List.length_append, hl1, List.length_replicate]; rfl
      · rw [tyR_one]
        show (if (0 : Nat) = 0 then (if (tI L n i).2.1 ≤ 9999 ∧ t + v < 60 then some (t, v + 1) else none) else _) = _
        rw [if_pos rfl, if_pos ⟨by omega, by omega⟩]
  · have e2 : (iN (kI L n i) = iN 2) = False := (hkeq 2 (by decide)).trans (eq_false c2)
    have t1 : (t = iN 1) = False := hMK.t1.trans (eq_false c2)
    by_cases c12 : kI L n i = 12
    · -- (
      have hil := kI_lt (show kI L n i ≠ 0 by omega)
      have e12 : (iN (kI L n i) = iN 12) = True := (hkeq 12 (by decide)).trans (eq_true c12)
      have t40 : (t = iN 40) = True := hMK.t40.trans (eq_true c12)
      rw [if_neg (by omega)] at hnm
      have h400 : (iN 40 = iN 0) = False := eq_false (by decide)
      by_cases c8 : o < 8
      · have o8 : (iN o < iN 8) = True := by rw [iN_lt (by omega) (by omega)]; exact eq_true c8
        have o8' : (iN o = iN 8) = False := by rw [iN_eq (by omega) (by omega)]; exact eq_false (by omega)
        have e4 := C_stepT hX hil (k := iN (kI L n i))
        have h10 : (iN 1 = iN 0) = False := eq_false (by decide)
        obtain ⟨a', p', t', b', wd', n1, n2⟩ := M_nextT hX.1 hr hil
        obtain ⟨q1, q2⟩ := M_push hpl (show (List.replicate q 2 ++ K0).length < 160 by omega) 40
        have st1 : un11 (fb_m_summed_10 (iN n) (iN (680 * T)) so tp) (a, p, t, b, wd, iN cs.length, iN (List.replicate q 2 ++ K0).length, iN o, b01 false, tx, pile) = some (.inl (a', p', t', b', wd', iN cs.length, iN ((List.replicate q 2 ++ K0).length + 1), iN (o + 1), b01 false, tx, upd pile (List.replicate q 2 ++ K0).length (iN 40))) := by
          simp only [un11, fb_m_summed_10, fj_m_summed_24_10, fj_m_summed_42_10, f_m_beginOne, fj_m_beginOne_106, nlit, b00, t1, hnm, mI_neg, t40, h400, o8', q1, n1, un2, un5, un12, iN_add, Option.bind_some, ↓reduceIte]
        have hm1 : MR tx0 n B L T (i + 1) (40 :: (List.replicate q 2 ++ K0)) (o + 1) false cs (a', p', t', b', wd', iN cs.length, iN ((List.replicate q 2 ++ K0).length + 1), iN (o + 1), b01 false, tx, upd pile (List.replicate q 2 ++ K0).length (iN 40)) := ⟨a', p', t', b', wd', tx, _, rfl, n2, hmc, htx, q2⟩
        have hv1 : ∀ v ∈ (40 :: (List.replicate q 2 ++ K0)), v < 100 := by
          intro v hv'
          rcases List.mem_cons.mp hv' with rfl | z
          · decide
          · rcases List.mem_append.mp z with z | z
            · rw [(List.mem_replicate.mp z).2]; decide
            · exact hv v z
        rcases hS c8 (i + 1) (q + x) cs code (40 :: (List.replicate q 2 ++ K0)) _ hcc (by omega) (fun v z => by cases z; rfl) hv1 (by rw [List.length_cons]; omega) hm1 with ⟨i1, c, code1, s1, k, A, cr, r1, r2, r3, r4, r5, r6, r7, r8, r9, r10, r11, r12, r13⟩ | ⟨f, pp, i2, kk, cc, code2, r1, r2, r3, r4, r5, r6⟩
        · have hli := hX.tok r4
          obtain ⟨a2, p2, t2, b2, wd2, tx2, pile2, rfl, g1, g2, g3, g4⟩ := r8
          have hMK2 : MK (kI L n i1) (tI L n i1).2.1 t2 b2 wd2 := g1.2.2.1
          have hp2 : p2 = iN (pI L n i1) := g1.2.1
          have hmem : 40 ∈ A ++ 40 :: (List.replicate q 2 ++ K0) := List.mem_append_right _ List.mem_cons_self
          have hlA : (A ++ 40 :: (List.replicate q 2 ++ K0)).length = A.length + ((List.replicate q 2 ++ K0).length + 1) := by rw [List.length_append, List.length_cons]
          have hvA : ∀ v ∈ A ++ 40 :: (List.replicate q 2 ++ K0), v < 100 := by
            intro v z
            rcases List.mem_append.mp z with z | z
            · have := r10 v z; omega
            · exact hv1 v z
          have hgo := M_goesOn hMK2 g4 (by omega) hvA
          have hlcs : (cs ++ c).length = cr.length + A.length := by rw [r9, List.length_append, List.length_map]
          have bT1 : (b01 true = iN 0) = False := bT0
          by_cases c13 : kI L n i1 = 13
          · have hil1 := kI_lt (show kI L n i1 ≠ 0 by omega)
            rw [decide_eq_true (Or.inr ⟨c13, hmem⟩)] at hgo
            have e13 : (iN (kI L n i1) = iN 13) = True := eq_true (by rw [c13])
            have e5 := C_stepT hX hil1 (k := iN (kI L n i1))
            obtain ⟨tx3, s1, s2, s3⟩ := M_settle (least := 3) hT (by decide) (K0 := 40 :: (List.replicate q 2 ++ K0)) (fun v z => by cases z; decide) hv1 (cr := cr) (A := A) (by omega) (by omega) r10 g2 g3 g4
            rw [← r9] at s2
            have hw0 : PL pile2 (List.replicate q 2 ++ K0) := (PL.app g4).2
            obtain ⟨tx4, w1, w2, w3⟩ := M_whole (wh := b01 true) hT hh hv hq (show o < 100 by omega) (show (cs ++ c).length + q ≤ 300 by omega) hK160 s2 s3 hw0
            obtain ⟨a3, p3, t3, b3, wd3, n3, n4⟩ := M_nextT hX.1 g1 hil1
            have hs1 : iN (cr.length + A.length) = iN (cs ++ c).length := by rw [hlcs]
            have hs2 : iN (40 :: (List.replicate q 2 ++ K0)).length - iN 1 = iN (List.replicate q 2 ++ K0).length := by rw [List.length_cons, iN_sub (by omega)]; congr 1
            have hs3 : iN (o + 1) - iN 1 = iN o := by rw [iN_sub (by omega)]; congr 1
            have u1 : (t2 = iN 43) = False := hMK2.t43.trans (eq_false (by omega))
            have u2 : (t2 = iN 45) = False := hMK2.t45.trans (eq_false (by omega))
            have u3 : (t2 = iN 42) = False := hMK2.t42.trans (eq_false (by omega))
            have u4 : (t2 = iN 47) = False := hMK2.t47.trans (eq_false (by omega))
            have u5 : (t2 = iN 37) = False := hMK2.t37.trans (eq_false (by omega))
            have st2 : un11 (fb_m_summed_10 (iN n) (iN (680 * T)) so tp) (a2, p2, t2, b2, wd2, iN cr.length, iN (A ++ 40 :: (List.replicate q 2 ++ K0)).length, iN (o + 1), b01 true, tx2, pile2) = some (.inl (a3, p3, t3, b3, wd3, iN ((cs ++ c).length + q), iN K0.length, iN (o - q), iN 1, tx4, pile2)) := by
              simp only [un11, fb_m_summed_10, fj_m_summed_24_10, fj_m_summed_42_10, f_m_behindOne, fj_m_behindOne_132, nlit, bT1, hgo, u1, u2, u3, u4, u5, s1, hs1, hs2, hs3, w1, n3, un3, un5, un12, Option.bind_some, ↓reduceIte]
            refine Or.inl ⟨i1 + 1, c, code1, (a3, p3, t3, b3, wd3, iN ((cs ++ c).length + q), iN K0.length, iN (o - q), iN 1, tx4, pile2), 1 + k + 1, ?_, r2, by omega, by omega, by omega, by omega, stps_trans (1 + k) 1 _ _ _ (stps_trans 1 k _ _ _ (stps_one st1) r7) (stps_one st2), ⟨a3, p3, t3, b3, wd3, tx4, pile2, ?_, n4, w2, w3, hw0.app⟩, fun tt v htv => r13 tt v (by omega)⟩
            · simp only [fR_rd_readOne, f_rd_opens, fj_rd_opens_11, f_rd_expect, fj_rd_expect_13, nlit, e2, e12, o8, e4, h10, iN_add, r1, e13, e5, un2, un4, un5, un6, Option.bind_some, ↓reduceIte]
            · have hl2 : (cs ++ c ++ List.replicate q ((2 : Nat), (0 : Nat))).length = (cs ++ c).length + q := by rw [List.length_append (as := cs ++ c), List.length_replicate]
              rw [hl2]; rfl
          · refine Or.inr ?_
            rw [decide_eq_false (fun z => z.elim r12 (fun w => c13 w.1))] at hgo
            have e13 : (iN (kI L n i1) = iN 13) = False := by rw [iN_eq (by omega) (by omega)]; exact eq_false c13
            have e5 := C_failT hX r4 (w := iN 1)
            have e6 := H_step (tokens := iN (L.length + 1)) (k := iN (kI L n i1)) (kd := kd) (f := 1) (i := i1) (by decide) (by decide)
            obtain ⟨tx3, s1, s2, s3⟩ := M_settle (least := 3) hT (by decide) (K0 := 40 :: (List.replicate q 2 ++ K0)) (fun v z => by cases z; decide) hv1 (cr := cr) (A := A) (by omega) (by omega) r10 g2 g3 g4
            refine ⟨1, pI L n i1, i1, iN (kI L n i1), (cs ++ c).length, code1, ?_, by decide, by decide, by omega, by omega, ?_⟩
            · simp only [fR_rd_readOne, f_rd_opens, fj_rd_opens_11, f_rd_expect, fj_rd_expect_13, nlit, e2, e12, o8, e4, h10, iN_add, r1, e13, e5, e6, un2, un4, un5, un6, Option.bind_some, ↓reduceIte]
            · have fin : FL tp tx0 n so T 1 (pI L n i1) 1 (a2, p2, t2, b2, wd2, iN cr.length, iN (A ++ 40 :: (List.replicate q 2 ++ K0)).length, iN (o + 1), b01 true, tx2, pile2) := by
                intro z hz
                obtain ⟨z, rfl⟩ : ∃ y, z = y + 1 := ⟨z - 1, by omega⟩
                have b01F : (b01 false = iN 0) = True := bF0
                have st3 : un11 (fb_m_summed_10 (iN n) (iN (680 * T)) so tp) (a2, p2, t2, b2, wd2, iN cr.length, iN (A ++ 40 :: (List.replicate q 2 ++ K0)).length, iN (o + 1), b01 true, tx2, pile2) = some (.inr (.inr (a2, p2, t2, b2, wd2, iN cr.length, iN (A ++ 40 :: (List.replicate q 2 ++ K0)).length, iN (o + 1), b01 true, tx2, pile2))) := by
                  simp only [un11, fb_m_summed_10, nlit, bT1, hgo, b01F, Option.bind_some, ↓reduceIte]
                rw [itr_end st3, Option.bind_some]
                have hpos : (0 < iN (40 :: (List.replicate q 2 ++ K0)).length) = True := by
                  show (iN 0 < _) = True
                  rw [iN_lt (by omega) (by rw [List.length_cons]; omega)]; exact eq_true (by rw [List.length_cons]; omega)
                have s1' : f_m_settle (iN (680 * T)) (iN cr.length) (iN (A ++ 40 :: (List.replicate q 2 ++ K0)).length) tx2 pile2 3 = _ := s1
                refine ⟨a2, t2, b2, wd2, iN (cr.length + A.length), iN (40 :: (List.replicate q 2 ++ K0)).length, iN (o + 1), b01 true, tx3, pile2, ?_, s3⟩
                simp only [gS, Sum.elim_inr, un11]
                rw [s1', Option.bind_some]
                simp only [un3, hpos, ↓reduceIte, hp2]; rfl
              exact FL.mono (FL.step (stps_trans 1 k _ _ _ (stps_one st1) r7) fin) (by omega)
        · refine Or.inr ⟨f, pp, i2, kk, cc, code2, ?_, r2, r3, r4, r5, FL.mono (FL.step (stps_one st1) r6) (by omega)⟩
          have e6 := H_expect (tokens := iN (L.length + 1)) (p := iN pp) (k := kk) (w := iN 13) (kd := kd) (st := st) (i := i2) r2 r3
          simp only [fR_rd_readOne, f_rd_opens, fj_rd_opens_11, nlit, e2, e12, o8, e4, h10, iN_add, r1, e6, un2, un4, un5, un6, Option.bind_some, ↓reduceIte]
      · refine Or.inr ?_
        have hoe : o = 8 := by omega
        have o8 : (iN o < iN 8) = False := by rw [iN_lt (by omega) (by omega)]; exact eq_false (by omega)
        have o8' : (iN o = iN 8) = True := eq_true (by rw [hoe])
        have e3 := C_failT hX hi (w := iN 3)
        have e4 := H_step (tokens := iN (L.length + 1)) (k := iN (kI L n i)) (kd := kd) (f := 3) (i := i) (by decide) (by decide)
        have h30 : (iN 3 = iN 0) = False := eq_false (by decide)
        refine ⟨3, pI L n i, i, iN (kI L n i), cs.length, code, ?_, by decide, by decide, by omega, by omega, ?_⟩
        · simp only [fR_rd_readOne, f_rd_opens, fj_rd_opens_11, nlit, e2, e12, o8, e3, e4, h30, un2, un5, Option.bind_some, ↓reduceIte]
        · refine FL.mono (FL.now (a := a) (t := t) (b := b) (wd := wd) (wr := iN cs.length) (pi := iN (List.replicate q 2 ++ K0).length) (op := iN o) (wh := b01 false) (tx := tx) (pile := pile) ?_ htx) (show 1 ≤ 302 - i by omega)
          rw [hpp]
          simp only [un11, fb_m_summed_10, fj_m_summed_24_10, fj_m_summed_42_10, f_m_beginOne, fj_m_beginOne_106, nlit, b00, t1, hnm, mI_neg, t40, h400, o8', h30, un12, Option.bind_some, ↓reduceIte]
    · have e12 : (iN (kI L n i) = iN 12) = False := (hkeq 12 (by decide)).trans (eq_false c12)
      have t40 : (t = iN 40) = False := hMK.t40.trans (eq_false c12)
      by_cases c8k : kI L n i = 8
      · -- -
        have hil := kI_lt (show kI L n i ≠ 0 by omega)
        have e8 : (iN (kI L n i) = iN 8) = True := (hkeq 8 (by decide)).trans (eq_true c8k)
        have t45 : (t = iN 45) = True := hMK.t45.trans (eq_true c8k)
        rw [if_neg (by omega)] at hnm
        have h20 : (iN 2 = iN 0) = False := eq_false (by decide)
        by_cases c8 : o < 8
        · have o8 : (iN o < iN 8) = True := by rw [iN_lt (by omega) (by omega)]; exact eq_true c8
          have o8' : (iN o = iN 8) = False := by rw [iN_eq (by omega) (by omega)]; exact eq_false (by omega)
          have e4 := C_stepT hX hil (k := iN (kI L n i))
          have h10 : (iN 1 = iN 0) = False := eq_false (by decide)
          obtain ⟨a', p', t', b', wd', n1, n2⟩ := M_nextT hX.1 hr hil
          obtain ⟨q1, q2⟩ := M_push hpl (show (List.replicate q 2 ++ K0).length < 160 by omega) 2
          have st1 : un11 (fb_m_summed_10 (iN n) (iN (680 * T)) so tp) (a, p, t, b, wd, iN cs.length, iN (List.replicate q 2 ++ K0).length, iN o, b01 false, tx, pile) = some (.inl (a', p', t', b', wd', iN cs.length, iN ((List.replicate q 2 ++ K0).length + 1), iN (o + 1), b01 false, tx, upd pile (List.replicate q 2 ++ K0).length (iN 2))) := by
            simp only [un11, fb_m_summed_10, fj_m_summed_24_10, fj_m_summed_42_10, f_m_beginOne, fj_m_beginOne_106, nlit, b00, t1, hnm, mI_neg, t40, t45, h20, o8', q1, n1, un2, un5, un12, iN_add, Option.bind_some, ↓reduceIte]
          have hm1 : MR tx0 n B L T (i + 1) (List.replicate (q + 1) 2 ++ K0) (o + 1) false cs (a', p', t', b', wd', iN cs.length, iN ((List.replicate q 2 ++ K0).length + 1), iN (o + 1), b01 false, tx, upd pile (List.replicate q 2 ++ K0).length (iN 2)) := ⟨a', p', t', b', wd', tx, _, rfl, n2, hmc, htx, q2⟩
          rcases hO c8 (i + 1) (q + 1) x cs code K0 _ hcc (by omega) (by omega) hh hv (by rw [List.replicate_succ, List.cons_append, List.length_cons]; omega) hm1 with ⟨i1, c, code1, s1, k, r1, r2, r3, r4, r5, r6, r7, r8, r9⟩ | ⟨f, pp, i2, kk, cc, code2, r1, r2, r3, r4, r5, r6⟩
          · obtain ⟨code3, e5, e6⟩ := C_put r2 (show (cs ++ c).length < 300 by omega) (2, 0) (v := iN 20017) rfl
            have hl1 : (cs ++ c ++ [(2, 0)]).length = (cs ++ c).length + 1 := by rw [List.length_append]; rfl
            rw [show cs ++ c ++ [(2, 0)] = cs ++ (c ++ [(2, 0)]) from List.append_assoc _ _ _] at e5 e6 hl1
            refine Or.inl ⟨i1, c ++ [(2, 0)], code3, s1, 1 + k, ?_, e6, by omega, r4, by omega, by omega, stps_trans 1 k _ _ _ (stps_one st1) r7, ?_, fun tt v htv => ?_⟩
            · simp only [fR_rd_readOne, f_rd_opens, fj_rd_opens_11, nlit, e2, e12, e8, o8, e4, h10, iN_add, r1, e5, un2, un5, un6, Option.bind_some, ↓reduceIte]
            · rw [show o + 1 - (q + 1) = o - q by omega, ← rep_snoc] at r8
              rw [← List.append_assoc]; exact r8
            · rw [tyR_app, r9 tt v (by omega), Option.bind_some, tyR_one]
              show (if (2 : Nat) = 0 then _ else if (2 : Nat) = 1 then _ else if (2 : Nat) = 2 then (if 1 ≤ v + 1 then some (tt, v + 1) else none) else _) = _
              rw [if_neg (by decide), if_neg (by decide), if_pos rfl, if_pos (by omega)]
          · obtain ⟨c', code', e5, e6⟩ := C_emitA (code := code2) (v := iN 20017) r5
            refine Or.inr ⟨f, pp, i2, kk, c', code', ?_, r2, r3, r4, e6, FL.mono (FL.step (stps_one st1) r6) (by omega)⟩
            simp only [fR_rd_readOne, f_rd_opens, fj_rd_opens_11, nlit, e2, e12, e8, o8, e4, h10, iN_add, r1, e5, un2, un5, un6, Option.bind_some, ↓reduceIte]
        · refine Or.inr ?_
          have hoe : o = 8 := by omega
          have o8 : (iN o < iN 8) = False := by rw [iN_lt (by omega) (by omega)]; exact eq_false (by omega)
          have o8' : (iN o = iN 8) = True := eq_true (by rw [hoe])
          have e3 := C_failT hX hi (w := iN 3)
          have e4 := H_step (tokens := iN (L.length + 1)) (k := iN (kI L n i)) (kd := kd) (f := 3) (i := i) (by decide) (by decide)
          have h30 : (iN 3 = iN 0) = False := eq_false (by decide)
          refine ⟨3, pI L n i, i, iN (kI L n i), cs.length, code, ?_, by decide, by decide, by omega, by omega, ?_⟩
          · simp only [fR_rd_readOne, f_rd_opens, fj_rd_opens_11, nlit, e2, e12, e8, o8, e3, e4, h30, un2, un5, Option.bind_some, ↓reduceIte]
          · refine FL.mono (FL.now (a := a) (t := t) (b := b) (wd := wd) (wr := iN cs.length) (pi := iN (List.replicate q 2 ++ K0).length) (op := iN o) (wh := b01 false) (tx := tx) (pile := pile) ?_ htx) (show 1 ≤ 302 - i by omega)
            rw [hpp]
            simp only [un11, fb_m_summed_10, fj_m_summed_24_10, fj_m_summed_42_10, f_m_beginOne, fj_m_beginOne_106, nlit, b00, t1, hnm, mI_neg, t40, t45, h20, o8', h30, un12, Option.bind_some, ↓reduceIte]
      · have e8 : (iN (kI L n i) = iN 8) = False := (hkeq 8 (by decide)).trans (eq_false c8k)
        have t45 : (t = iN 45) = False := hMK.t45.trans (eq_false c8k)
        by_cases cn : 28 ≤ kI L n i ∧ kI L n i ≤ 35
        · -- a name
          have hil := kI_lt (show kI L n i ≠ 0 by omega)
          rw [if_pos cn] at hnm
          have hn0 : (iN (kI L n i - 28) < iN 0) = False := iN_nneg (by omega)
          have f28 : (iN (kI L n i) < iN 28) = False := by rw [iN_lt (by omega) (by omega)]; exact eq_false (by omega)
          have f35 : (iN 35 < iN (kI L n i)) = False := by rw [iN_lt (by omega) (by omega)]; exact eq_false (by omega)
          have hal := hX.2.2.2.2.1 (kI L n i - 28) (by omega)
          rw [show 28 + (kI L n i - 28) = kI L n i by omega] at hal
          have hba := hX.2.2.2.2.2 (kI L n i - 28) (by omega)
          cases ca : aF (kI L n i - 28) with
          | false =>
            refine Or.inr ?_
            rw [ca] at hal hba
            have hal' := hal.trans (eq_true rfl)
            have hba : f_m_isBarred so (iN (kI L n i - 28)) = some (b01 true) := hba
            have e3 := C_failT hX hi (w := iN 5)
            have e4 := H_step (tokens := iN (L.length + 1)) (k := iN (kI L n i)) (kd := kd) (f := 5) (i := i) (by decide) (by decide)
            obtain ⟨c', code', e5, e6⟩ := C_emitA (code := code) (v := iN 20000 + iN (kI L n i)) (show cs.length ≤ 300 by omega)
            refine ⟨5, pI L n i, i, iN (kI L n i), c', code', ?_, by decide, by decide, by omega, e6, ?_⟩
            · simp only [fR_rd_readOne, f_rd_readName, fj_rd_readName_48, nlit, e2, e12, e8, f28, f35, hal', e3, e4, e5, un2, un6, Option.bind_some, ↓reduceIte]
            · refine FL.mono (FL.now (a := a) (t := t) (b := b) (wd := wd) (wr := iN cs.length) (pi := iN (List.replicate q 2 ++ K0).length) (op := iN o) (wh := b01 false) (tx := tx) (pile := pile) ?_ htx) (show 1 ≤ 302 - i by omega)
              have h50 : (iN 5 = iN 0) = False := eq_false (by decide)
              rw [hpp]
              simp only [un11, fb_m_summed_10, fj_m_summed_24_10, fj_m_summed_42_10, f_m_beginOne, nlit, b00, t1, hnm, hn0, hba, bT0, h50, un12, Option.bind_some, ↓reduceIte]
          | true =>
            rw [ca] at hal hba
            have hal' := hal.trans (eq_false (by decide))
            have hba : f_m_isBarred so (iN (kI L n i - 28)) = some (b01 false) := hba
            have e4 := C_stepT hX hil (k := iN (kI L n i))
            have hcE : iN 20000 + iN (kI L n i) = iN (cE (1, kI L n i - 28)) := by
              rw [iN_add]
              show _ = iN (20028 + (kI L n i - 28))
              congr 1; omega
            obtain ⟨code', e5, e6⟩ := C_put hcc (show cs.length < 300 by omega) (1, kI L n i - 28) hcE
            obtain ⟨a', p', t', b', wd', n1, n2⟩ := M_nextT hX.1 hr hil
            obtain ⟨tx1, m1, m2, m3⟩ := M_emit hT hmc htx (show cs.length < 300 by omega) 1 (kI L n i - 28)
            have hl1 : (cs ++ [(1, kI L n i - 28)]).length = cs.length + 1 := by rw [List.length_append]; rfl
            obtain ⟨tx2, w1, w2, w3⟩ := M_whole (wh := b01 false) hT hh hv hq (show o < 100 by omega) (show (cs ++ [(1, kI L n i - 28)]).length + q ≤ 300 by omega) hK160 m2 m3 hpl
            rw [hl1] at w1
            refine Or.inl ⟨i + 1, [(1, kI L n i - 28)], code', (a', p', t', b', wd', iN (cs.length + 1 + q), iN K0.length, iN (o - q), iN 1, tx2, pile), 1, ?_, e6, by omega, by omega, by omega, rfl, stps_one ?_, ⟨a', p', t', b', wd', tx2, pile, ?_, n2, w2, w3, hpl.app⟩, fun t v htv => ?_⟩
            · simp only [fR_rd_readOne, f_rd_readName, fj_rd_readName_48, nlit, e2, e12, e8, f28, f35, hal', e4, e5, un2, un6, Option.bind_some, ↓reduceIte]
            · simp only [un11, fb_m_summed_10, fj_m_summed_24_10, fj_m_summed_42_10, f_m_beginOne, nlit, b00, t1, hnm, hn0, hba, bF0, m1, n1, w1, un2, un5, un12, Option.bind_some, ↓reduceIte]
            · rw [List.length_append, hl1, List.length_replicate]; rfl
            · rw [tyR_one]
              show (if (1 : Nat) = 0 then _ else if (1 : Nat) = 1 then (if (kI L n i - 28 < 8 ∧ aF (kI L n i - 28) = true) ∧ t + v < 60 then some (t, v + 1) else none) else _) = _
              rw [if_neg (by decide), if_pos rfl, if_pos ⟨⟨by omega, ca⟩, by omega⟩]
        · -- nothing of that
          refine Or.inr ?_
          rw [if_neg cn] at hnm
          have e3 := C_failT hX hi (w := iN 1)
          have e4 := H_step (tokens := iN (L.length + 1)) (k := iN (kI L n i)) (kd := kd) (f := 1) (i := i) (by decide) (by decide)
          obtain ⟨c', code', e5, e6⟩ := C_emitA (code := code) (v := iN 20000 + iN (kI L n i)) (show cs.length ≤ 300 by omega)
          refine ⟨1, pI L n i, i, iN (kI L n i), c', code', ?_, by decide, by decide, by omega, e6, ?_⟩
          · by_cases c28 : kI L n i < 28
            · have f28 : (iN (kI L n i) < iN 28) = True := by rw [iN_lt (by omega) (by omega)]; exact eq_true c28
              simp only [fR_rd_readOne, f_rd_readName, fj_rd_readName_18, fj_rd_readName_48, nlit, e2, e12, e8, f28, e3, e4, e5, un2, un6, Option.bind_some, ↓reduceIte]
            · have f28 : (iN (kI L n i) < iN 28) = False := by rw [iN_lt (by omega) (by omega)]; exact eq_false c28
              have f35 : (iN 35 < iN (kI L n i)) = True := by rw [iN_lt (by omega) (by omega)]; exact eq_true (by omega)
              simp only [fR_rd_readOne, f_rd_readName, fj_rd_readName_18, fj_rd_readName_48, nlit, e2, e12, e8, f28, f35, e3, e4, e5, un2, un6, Option.bind_some, ↓reduceIte]
          · refine FL.mono (FL.now (a := a) (t := t) (b := b) (wd := wd) (wr := iN cs.length) (pi := iN (List.replicate q 2 ++ K0).length) (op := iN o) (wh := b01 false) (tx := tx) (pile := pile) ?_ htx) (show 1 ≤ 302 - i by omega)
            have h10 : (iN 1 = iN 0) = False := eq_false (by decide)
            rw [hpp]
            simp only [un11, fb_m_summed_10, fj_m_summed_24_10, fj_m_summed_42_10, f_m_beginOne, fj_m_beginOne_106, nlit, b00, t1, hnm, mI_neg, t40, t45, h10, un12, Option.bind_some, ↓reduceIte]
end
