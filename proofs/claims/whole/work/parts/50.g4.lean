/-! ===== behind a constructor's call ===== -/
def ad2I (ad bd : Nat → Nat) (n k : Nat) : Nat → Nat := fun j => if n ≤ j ∧ j < n + k then bd (j - n + 1) else ad j
def plI (x n : Nat) : Nat → Nat
  | 0 => x
  | i + 1 => n + i
theorem ad2_old {ad bd : Nat → Nat} {n k j : Nat} (hn : n + k ≤ 1000) (h : j < n ∨ 1000 ≤ j) : ad2I ad bd n k j = ad j := by
  unfold ad2I
  rw [if_neg (by omega)]
theorem ad2_tau {ad bd : Nat → Nat} {x n k i : Nat} {ε : List Nat} (hn : n + k < 1000) (hx : x < n) (hε : ε.all (fun j => Nat.blt j n || Nat.ble 1000 j) = true) (hb : agr 1 (fun i => ad (tauI x n ε i)) bd) (h : i < k + 1 ∨ 1000 ≤ i) : ad2I ad bd n k (tauI x n ε i) = bd i := by
  rcases h with h | h
  · cases i with
    | zero =>
      rw [hb 0 (Or.inl (by decide))]
      exact ad2_old (by omega) (Or.inl hx)
    | succ i =>
      rw [tau_new (by omega) (by omega)]
      unfold ad2I
      rw [if_pos (by omega)]
      congr 1
      omega
  · rw [hb i (Or.inr h)]
    show ad2I ad bd n k (tauI x n ε i) = ad (tauI x n ε i)
    apply ad2_old (by omega)
    rw [tau_out h]
    rw [List.getD_eq_getElem?_getD]
    cases hg : ε[i - 1000]? with
    | none => exact Or.inl (Nat.lt_of_le_of_lt (Nat.zero_le _) hx)
    | some j =>
      have := List.all_eq_true.mp hε j (List.mem_of_getElem? hg)
      rw [Bool.or_eq_true] at this
      exact this.elim (fun h => Or.inl (Nat.le_of_ble_eq_true h)) (fun h => Or.inr (Nat.le_of_ble_eq_true h))
theorem at2I {ad bd : Nat → Nat} {E : Nat → ClassId} {x : Nat} {ε : List Nat} {h nw : List va_E} {e1 : va_E} (hn : h.length + nw.length < 1000) (hx : x < h.length) (hε : ε.all (fun j => Nat.blt j h.length || Nat.ble 1000 j) = true) (hb : agr 1 (fun i => ad (tauI x h.length ε i)) bd) (hh : h.all (okE h.length) = true) (hc : (e1 :: nw).all (okE (nw.length + 1)) = true) {j : Nat} {q : Nat × va_E}
    (hq : (conc (ad2I ad bd h.length nw.length) E (h.set x (rnF (tauI x h.length ε) e1) ++ nw.map (rnF (tauI x h.length ε))))[j]? = some q) : (j < h.length ∧ j ≠ x ∧ (conc ad E h)[j]? = some q) ∨ ∃ i, plI x h.length i = j ∧ (conc bd E (e1 :: nw))[i]? = some q := by
  have hF : ∀ i : Nat, i < nw.length + 1 ∨ 1000 ≤ i → ad2I ad bd h.length nw.length (tauI x h.length ε i) = bd i := fun i hi => ad2_tau hn hx hε hb hi
  have hgc : ∀ e, okE (nw.length + 1) e = true → gE (ad2I ad bd h.length nw.length) E (rnF (tauI x h.length ε) e) = gE bd E e := fun e he => by
    rw [gE_rnF]
    exact gE_same hF he
  rw [conc_get] at hq
  by_cases hj : j < h.length
  · rw [List.getElem?_append_left (by rw [List.length_set]; exact hj)] at hq
    by_cases hjx : j = x
    · right
      subst hjx
      rw [List.getElem?_set_self hj] at hq
      refine ⟨0, rfl, ?_⟩
      rw [conc_get, ← Option.some.inj hq]
      show some (bd 0, gE bd E e1) = some (ad2I ad bd h.length nw.length j, gE (ad2I ad bd h.length nw.length) E (rnF (tauI j h.length ε) e1))
      rw [hgc e1 (List.all_eq_true.mp hc e1 List.mem_cons_self), ← hF 0 (Or.inl (by omega))]
      rfl
    · left
      rw [List.getElem?_set_ne (fun e => hjx e.symm), List.getElem?_eq_getElem hj] at hq
      refine ⟨hj, hjx, ?_⟩
      rw [conc_get, List.getElem?_eq_getElem hj, ← Option.some.inj hq]
      show some (ad j, gE ad E h[j]) = some (ad2I ad bd h.length nw.length j, gE (ad2I ad bd h.length nw.length) E h[j])
      rw [ad2_old (by omega) (Or.inl hj), gE_same (fun i hi => ad2_old (by omega) hi) (List.all_eq_true.mp hh h[j] (List.getElem_mem hj))]
  · right
    have hj : h.length ≤ j := Nat.not_lt.mp hj
    rw [List.getElem?_append_right (by rw [List.length_set]; exact hj), List.length_set, List.getElem?_map] at hq
    cases he : nw[j - h.length]? with
    | none => rw [he] at hq; cases hq
    | some e =>
      rw [he] at hq
      have hlt : j - h.length < nw.length := (List.getElem?_eq_some_iff.mp he).1
      refine ⟨j - h.length + 1, by show h.length + (j - h.length) = j; omega, ?_⟩
      rw [conc_get, List.getElem?_cons_succ, he, ← Option.some.inj hq]
      show some (bd (j - h.length + 1), gE bd E e) = some (ad2I ad bd h.length nw.length j, gE (ad2I ad bd h.length nw.length) E (rnF (tauI x h.length ε) e))
      rw [hgc e (List.all_eq_true.mp hc e (List.mem_cons_of_mem _ (List.mem_of_getElem? he)))]
      unfold ad2I
      rw [if_pos (by omega)]
theorem pl_inj {x n i j : Nat} (hx : x < n) (h : plI x n i = plI x n j) : i = j := by
  cases i with
  | zero =>
    cases j with
    | zero => rfl
    | succ j => have h : x = n + j := h; omega
  | succ i =>
    cases j with
    | zero => have h : n + i = x := h; omega
    | succ j => have h : n + i = n + j := h; omega
theorem callWN {X : CXG} {p : Program} {l : Launch} {ev : Env} {s : State} {m : MethodId} {args : Array Value} {below : List Frame} {meth : Method} {c : Code} {H : Heap} {locs : List Loc} {la : Array Slot} {ad0 ad : Nat → Nat} {D : va_G} {E : Nat → ClassId}
    {cl sl mc ms pc x : Nat} {ls : List (Option Value)} {st0 rest : List Value} {h nw : List va_E} {e0 e1 : va_E} {ε : List Nat} {av : Array Value}
    (hrun : va_Run p l ev X.R s m args below meth c H locs cl sl mc ms (F0 m pc la st0) (rest.map (gV ad)) (CoutN (fun i => ad (tauI x h.length ε i)) D E [e0] (e1 :: nw) H.size av) (va_A (conc (fun i => ad (tauI x h.length ε i)) E [e0]) H.size))
    (hCF : CF X.1 D E (va_A (conc ad0 E X.h0) s.heap.size) p s m args meth c) (hag : agr X.h0.length ad0 ad ∧ X.Pr ad0 E args s meth) (hLh : Lh ad la X.1.2.2.1 ls) (hP : va_P D vwCl (conc ad E h) H) (hD : va_D (va_A (conc ad0 E X.h0) s.heap.size) (conc ad E h)) (hS : va_S (va_A (conc ad0 E X.h0) s.heap.size) s.heap H locs)
    (hn : h.length + nw.length < 1000) (hx : x < h.length) (hε : ε.all (fun j => Nat.blt j h.length || Nat.ble 1000 j) = true) (hok : okA h.length ls rest h = true) (hc : (e1 :: nw).all (okE (nw.length + 1)) = true) (hle : X.h0.length ≤ h.length)
    (k : AG X (cl + mc) (sl + ms) (pc + 3) ls rest (h.set x (rnF (tauI x h.length ε) e1) ++ nw.map (rnF (tauI x h.length ε)))) :
    W p l ev X.R s m args below meth c H locs cl sl (X.Q ad0 D E below args s) (F0 m pc la st0) := by
  unfold okA at hok
  rw [Bool.and_eq_true, Bool.and_eq_true] at hok
  obtain ⟨o1, o2, o3⟩ := hok
  intro T hT Xs
  obtain ⟨v, st₀, t, T', L, h0, X', hL, e1', e2', ⟨⟨hv, hK1, bd, hbd, hP1, hD1⟩, hz, hk⟩, stp⟩ := hrun T hT Xs
  rw [h0] at hz hk
  cases hv
  have hcx : (conc ad E h)[x]? = some (ad x, gE ad E h[x]) := conc_at (List.getElem?_eq_getElem hx)
  have hAx : ∀ q, va_A (conc (fun i => ad (tauI x h.length ε i)) E [e0]) H.size q → q = ad x ∨ H.size ≤ q := by
    intro q hq
    rcases hq with ⟨j, e, hq⟩ | hq
    · left
      cases j with
      | zero =>
        rw [conc_get] at hq
        have hq : some (ad (tauI x h.length ε 0), gE (fun i => ad (tauI x h.length ε i)) E e0) = some (q, e) := hq
        have := congrArg Prod.fst (Option.some.inj hq)
        exact this.symm
      | succ j => rw [conc_get] at hq; cases hq
    · exact Or.inr hq
  have hA0 : ∀ q, va_A (conc (fun i => ad (tauI x h.length ε i)) E [e0]) H.size q → va_A (conc ad0 E X.h0) s.heap.size q := by
    intro q hq
    rcases hAx q hq with hq | hq
    · rw [hq]; exact hD.2 x _ hcx
    · exact Or.inr (Nat.le_trans hS.1 hq)
  have hold : ∀ (j : Nat) (q : Nat × va_E), j ≠ x → (conc ad E h)[j]? = some q → ¬ va_A (conc (fun i => ad (tauI x h.length ε i)) E [e0]) H.size q.1 := by
    intro j q hjx hq hA
    rcases hAx _ hA with h9 | h9
    · exact hjx (hD.1 j x _ _ hq hcx h9)
    · exact absurd (hP j q hq).lt (Nat.not_lt.mpr h9)
  have hPn : va_P D vwCl (conc (ad2I ad bd h.length nw.length) E (h.set x (rnF (tauI x h.length ε) e1) ++ nw.map (rnF (tauI x h.length ε)))) T'.heap := by
    intro j q hq
    rcases at2I hn hx hε hbd o3 hc hq with ⟨hj, hjx, hq2⟩ | ⟨i, -, hq2⟩
    · refine (hP j q hq2).kept ?_
      rw [e1']
      exact hk _ (hP j q hq2).lt (hold j q hjx hq2)
    · rw [e1']; exact hP1 i q hq2
  have hDn : va_D (va_A (conc ad0 E X.h0) s.heap.size) (conc (ad2I ad bd h.length nw.length) E (h.set x (rnF (tauI x h.length ε) e1) ++ nw.map (rnF (tauI x h.length ε)))) := by
    refine ⟨fun i j a b hi hj hab => ?_, fun j q hq => ?_⟩
    · rcases at2I hn hx hε hbd o3 hc hi with ⟨-, hix, hi2⟩ | ⟨i', hpi, hi2⟩
      · rcases at2I hn hx hε hbd o3 hc hj with ⟨-, hjx, hj2⟩ | ⟨j', hpj, hj2⟩
        · exact hD.1 i j a b hi2 hj2 hab
        · exact absurd (by rw [hab]; exact hD1.2 j' b hj2) (hold i a hix hi2)
      · rcases at2I hn hx hε hbd o3 hc hj with ⟨-, hjx, hj2⟩ | ⟨j', hpj, hj2⟩
        · exact absurd (by rw [← hab]; exact hD1.2 i' a hi2) (hold j b hjx hj2)
        · have := hD1.1 i' j' a b hi2 hj2 hab
          subst this
          exact hpi.symm.trans hpj
    · rcases at2I hn hx hε hbd o3 hc hq with ⟨-, -, hq2⟩ | ⟨i, -, hq2⟩
      · exact hD.2 j q hq2
      · exact hA0 _ (hD1.2 i q hq2)
  have hSn : va_S (va_A (conc ad0 E X.h0) s.heap.size) s.heap T'.heap (locs ++ L) := by
    refine ⟨Nat.le_trans hS.1 (by rw [e1']; exact hz), fun q h1 h2 => ?_, fun q hq => ?_⟩
    · rw [e1', hk q (Nat.lt_of_lt_of_le h1 hS.1) (fun z => h2 (hA0 q z))]
      exact hS.2.1 q h1 h2
    · rcases List.mem_append.mp hq with h9 | h9
      · exact hS.2.2 q h9
      · exact hA0 _ (hL q h9)
  have hF1 : ∀ i : Nat, i < h.length ∨ 1000 ≤ i → ad2I ad bd h.length nw.length i = ad i := fun i hi => ad2_old (by omega) hi
  have ha2 : agr X.h0.length ad0 (ad2I ad bd h.length nw.length) := fun i hi => (hF1 i (hi.imp (fun h => Nat.lt_of_lt_of_le h hle) id)).trans (hag.1 i hi)
  have kk := k ad0 (ad2I ad bd h.length nw.length) D E p l ev s m args below meth c T'.heap (locs ++ L) la hCF ⟨ha2, hag.2⟩ (hLh.same hF1 o1) hPn hDn hSn
  have es : rest.map (gV (ad2I ad bd h.length nw.length)) = rest.map (gV ad) := List.map_congr_left (fun v hv => gV_same hF1 (List.all_eq_true.mp o2 v hv))
  rw [es] at kk
  obtain ⟨t2, a1, b1⟩ := kk T' rfl X'
  exact ⟨t2, stp t2 a1, b1⟩
