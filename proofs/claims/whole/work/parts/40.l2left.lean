/-! ===== PURE: left: how many orders, class and reference ===== -/
def finL (x : Cx) (g : Nat) : Tn → List Nat → Tn
  | t, [] => t
  | t, o :: p => finL x g (aft t (goS x t o g)) p
def hitN (x : Cx) (g who : Nat) (want : Option Nat) (t : Tn) : List (List Nat) → Nat
  | [] => 0
  | p :: r => (if (finL x g t p).1 who = want then 1 else 0) + hitN x g who want t r
theorem hitN_app {x : Cx} {g who : Nat} {want : Option Nat} {t : Tn} : ∀ (A B : List (List Nat)), hitN x g who want t (A ++ B) = hitN x g who want t A + hitN x g who want t B
  | [], B => by rw [List.nil_append, hitN, Nat.zero_add]
  | p :: A, B => by rw [List.cons_append, hitN, hitN, hitN_app A B, Nat.add_assoc]
theorem hitN_cons {x : Cx} {g who : Nat} {want : Option Nat} {t : Tn} {o : Nat} : ∀ (A : List (List Nat)), hitN x g who want t (A.map (fun p => o :: p)) = hitN x g who want (aft t (goS x t o g)) A
  | [] => rfl
  | p :: A => by rw [List.map_cons, hitN, hitN, hitN_cons A]; rfl
theorem hitN_le {x : Cx} {g who : Nat} {want : Option Nat} {t : Tn} : ∀ (A : List (List Nat)), hitN x g who want t A ≤ A.length
  | [] => Nat.le_refl _
  | p :: A => by
    have := hitN_le (x := x) (g := g) (who := who) (want := want) (t := t) A
    rw [hitN, List.length_cons]
    split <;> omega
theorem chainLen {os : List Nat} (h6 : os.length ≤ 6) (hs : ∀ i j, i < j → j < os.length → os.getD i 0 < os.getD j 0) : (allL os.length 721 os).length < 721 := by
  have dec : ∀ n, n < 7 → (lexL n (List.range n)).length < 721 := by decide +kernel
  have hi : ∀ a b, a < os.length → b < os.length → os.getD a 0 = os.getD b 0 → a = b := by
    intro a b ha hb h
    rcases Nat.lt_trichotomy a b with q | q | q
    · have := hs a b q hb; omega
    · exact q
    · have := hs b a q ha; omega
  have e : os = (List.range os.length).map (fun i => os.getD i 0) := by
    refine List.ext_getElem (by rw [List.length_map, List.length_range]) (fun i h1 h2 => ?_)
    rw [List.getElem_map, List.getElem_range, List.getD_eq_getElem?_getD, List.getElem?_eq_getElem h1]; rfl
  have a2 := lexL_map hi os.length (List.range os.length) (fun a ha => List.mem_range.mp ha)
  rw [← e] at a2
  rw [chainL h6 hs, a2, List.length_map]
  exact dec _ (by omega)
section
variable {x : Cx} {a texts : Nat → Int32} {g who : Nat} {want : Option Nat}
theorem M_goAll (hx : CxOK x) (hm : MX a texts x) (hg : g < 3) {o : Nat → Int32} {l : List Nat} (h : OR o l) (h6 : l.length ≤ 6) (h8 : ∀ z ∈ l, z < 8) : ∀ (m i n : Nat) (d named truth : Nat → Int32) (values : Nat → Int64) (t : Tn), i + m = l.length → m < n → MT d 70 t → TW t →
    ∃ d' n' v' k', itr (un5 (fb_m_left_118 (iN 70) a texts o (iN g) (iN l.length))) n (iN i, d, named, values, truth) = some (d', n', v', k') ∧ MT d' 70 (finL x g t (l.drop i)) ∧ ∀ j, j < 70 → d' j = d j
  | 0, i, n, d, named, truth, values, t, hi, hn, hd, ht => by
    obtain ⟨n, rfl⟩ : ∃ z, n = z + 1 := ⟨n - 1, by omega⟩
    rw [List.drop_eq_nil_of_le (by omega)]
    refine ⟨d, named, values, truth, itr_end ?_, hd, fun _ _ => rfl⟩
    simp (disch := omega) only [un5, fb_m_left_118, iN_lt, ltF, ↓reduceIte]
  | m + 1, i, n, d, named, truth, values, t, hi, hn, hd, ht => by
    obtain ⟨n, rfl⟩ : ∃ z, n = z + 1 := ⟨n - 1, by omega⟩
    have hlt : i < l.length := by omega
    have hdr : l.drop i = l.getD i 0 :: l.drop (i + 1) := by
      rw [List.drop_eq_getElem_cons hlt, List.getD_eq_getElem?_getD, List.getElem?_eq_getElem hlt]; rfl
    have hw := h8 _ (getD_in hlt)
    have ho := h i hlt
    obtain ⟨d1, n1, v1, t1, g1, g2, g3⟩ := M_goes (b := 70) (named := named) (values := values) (truth := truth) hx hm hd (by decide) ht hw hg
    obtain ⟨d2, n2, v2, t2, f1, f2, f3⟩ := M_goAll hx hm hg h h6 h8 m (i + 1) n d1 n1 t1 v1 _ (by omega) (by omega) g2 (goS_TW ht hw hg)
    refine ⟨d2, n2, v2, t2, ?_, by rw [hdr]; exact f2, fun j hj => (f3 j hj).trans (g3 j (Or.inl hj))⟩
    rw [itr_step (s' := (iN (i + 1), d1, n1, v1, t1)), f1]
    simp (disch := omega) only [un5, fb_m_left_118, ho, g1, nlit, iN_add, iN_lt, iN_inb, iN_ix, ltT, Option.bind_some, ↓reduceIte]
theorem M_orders (hx : CxOK x) (hm : MX a texts x) (hg : g < 3) (hwho : who < 8) (hwant : ∀ m, want = some m → m < 8) {t : Tn} (ht : TW t) {N : Nat} (hN : N ≤ 6) : ∀ (f c z : Nat) (b0 : Int32) (l : List Nat) (d named truth o : Nat → Int32) (values : Nat → Int64), l.length = N → (∀ y ∈ l, y < 8) → (allL N f l).length < f → f < z → c + f < 100000 → OR o l → MT d 0 t →
    ∃ d' n' v' k' o', itr (un8 (fb_m_left_99 a texts (iN g) (iN who) (enO want) (iN N))) z (iN c, iN 1, b0, d, named, values, truth, o) = some (iN (c + hitN x g who want t (allL N f l)), iN 70, d', n', v', k', o') ∧ ∀ j, j < 70 → d' j = d j
  | 0, c, z, b0, l, d, named, truth, o, values, hl, h8, hlen, hz, hc, ho, hd => absurd hlen (Nat.not_lt_zero _)
  | f + 1, c, z, b0, l, d, named, truth, o, values, hl, h8, hlen, hz, hc, ho, hd => by
    obtain ⟨z, rfl⟩ : ∃ y, z = y + 1 := ⟨z - 1, by omega⟩
    obtain ⟨d1, c1, c2, c3⟩ := M_copyT (i := 0) (j := 2) hd ht (by decide) (by decide) (by decide)
    obtain ⟨d2, n2, v2, t2, f1, f2, f3⟩ := M_goAll (g := g) hx hm hg ho (by omega) h8 l.length 0 KF d1 named truth values t (by omega) (kf_lt (by omega)) c2 ht
    rw [List.drop_zero] at f2
    have hNm := f2.nameAt (by decide) hwho
    have hfT : ∀ (p : List Nat) (t : Tn), TW t → (∀ y ∈ p, y < 8) → TW (finL x g t p) := by
      intro p
      induction p with
      | nil => intro t ht _; exact ht
      | cons w p ih => intro t ht h; exact ih _ (goS_TW ht (h w List.mem_cons_self) hg) (fun y hy => h y (List.mem_cons_of_mem _ hy))
    have hfin := hfT l t ht h8
    have hw := enO_inj (o := (finL x g t l).1 who) (fun m hm => (hfin.1 who m hm).2) hwant
    obtain ⟨o', e1, e2⟩ := M_next ho (by omega) h8
    rw [hl] at e1 e2 f1
    have hfr : ∀ j, j < 70 → d2 j = d j := fun j hj => (f3 j hj).trans (c3 j (Or.inl hj))
    have st : un8 (fb_m_left_99 a texts (iN g) (iN who) (enO want) (iN N)) (iN c, iN 1, b0, d, named, values, truth, o) = some (.inl (iN (c + if (finL x g t l).1 who = want then 1 else 0), b01 (nxtL N l).isSome, iN 70, d2, n2, v2, t2, o')) := by
      have h10 : (iN 1 = iN 0) = False := eq_false (by decide)
      have c1' : f_m_copy d (iN 0) (iN 2) = some d1 := c1
      have f1' : itr (un5 (fb_m_left_118 (iN 35 * iN 2) a texts o (iN g) (iN N))) KF (iN 0, d1, named, values, truth) = some (d2, n2, v2, t2) := f1
      have hNm' : f_m_nameAt (iN 35 * iN 2) d2 (iN who) = some (enO ((finL x g t l).1 who)) := hNm
      by_cases q : (finL x g t l).1 who = want
      · have hw' : (enO ((finL x g t l).1 who) = enO want) = True := hw.trans (eq_true q)
        rw [if_pos q]
        simp only [un8, fb_m_left_99, fj_m_left_161_99, f_m_tries, nlit, h10, c1', f1', un4, hNm', hw', e1, un2, iN_add, Option.bind_some, ↓reduceIte]; rfl
      · have hw' : (enO ((finL x g t l).1 who) = enO want) = False := hw.trans (eq_false q)
        rw [if_neg q]
        simp only [un8, fb_m_left_99, fj_m_left_161_99, f_m_tries, nlit, h10, c1', f1', un4, hNm', hw', e1, un2, iN_add, Option.bind_some, ↓reduceIte]; rfl
    rw [itr_step st]
    unfold allL at hlen ⊢
    rw [List.length_cons] at hlen
    have hd2 : MT d2 0 t := hd.moved ht (fun j hj => hfr _ (by omega))
    cases hx' : nxtL N l with
    | none =>
      obtain ⟨z, rfl⟩ : ∃ y, z = y + 1 := ⟨z - 1, by omega⟩
      refine ⟨d2, n2, v2, t2, o', itr_end ?_, hfr⟩
      simp only [un8, fb_m_left_99, Option.isSome_none, nlit, bF0, ↓reduceIte]; rfl
    | some l' =>
      rw [hx'] at hlen
      have hle : (allL N f l').length < f := by
        have : (allL N f l').length + 1 < f + 1 := hlen
        omega
      have h8' : ∀ y ∈ l', y < 8 := by
        intro y hy
        unfold nxtL at hx'
        cases q : fnd1 l (N - 1) with
        | none => rw [q] at hx'; cases hx'
        | some i =>
          rw [q] at hx'; cases hx'
          have hi := fnd1_lt q
          have hj := fnd2_le (l := l) (v := l.getD i 0) (N - 1)
          obtain ⟨k, hk, rfl⟩ := List.mem_map.mp hy
          rw [List.mem_range] at hk
          exact h8 _ (getD_in (by rw [hl]; exact plc_lt (by omega) (by omega) hk))
      obtain ⟨d3, n3, v3, t3, o3, g1, g2⟩ := M_orders hx hm hg hwho hwant ht hN f (c + if (finL x g t l).1 who = want then 1 else 0) z (iN 70) l' d2 n2 t2 o' v2 (nxtL_len hx') h8' hle (by omega) (by split <;> omega) (e2 l' hx') hd2
      refine ⟨d3, n3, v3, t3, o3, ?_, fun j hj => (g2 j hj).trans (hfr j hj)⟩
      rw [Option.isSome_some, show b01 true = iN 1 from rfl, g1, Nat.add_assoc]; rfl
end
