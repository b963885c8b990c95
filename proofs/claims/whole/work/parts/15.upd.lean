/-! ===== calls: only the cells that the callee changed are set ===== -/
def setS : List va_E → List (Nat × va_E) → List va_E
  | h, [] => h
  | h, q :: r => setS (h.set q.1 q.2) r
def dE : va_E := .inl (0, 0, .inl fun _ => 0)
theorem setS_len : ∀ (cs : List (Nat × va_E)) (h : List va_E), (setS h cs).length = h.length
  | [], h => rfl
  | q :: r, h => by unfold setS; rw [setS_len r]; simp
theorem putS_ext {h h1 : List va_E} {σ : List Nat} {X : List va_E} (hσ : va_nd σ = true) (hl : h.length = h1.length) (hin : ∀ j k, σ[j]? = some k → k < h.length ∧ j < X.length) (he : ∀ p, p ∉ σ → h[p]? = h1[p]?) : putS h σ X = putS h1 σ X := by
  apply List.ext_getElem?
  intro p
  by_cases hp : p ∈ σ
  · obtain ⟨j, hj⟩ := List.getElem?_of_mem hp
    obtain ⟨a, b⟩ := hin j p hj
    rw [putS_in σ X h j p hσ hj a b, putS_in σ X h1 j p hσ hj (hl ▸ a) b]
  · rw [putS_out _ _ _ _ hp, putS_out _ _ _ _ hp, he p hp]
theorem hh_at {h hc : List va_E} {σ : List Nat} {rn : va_E → va_E} (hh : σ.map (fun i => h[i]?) = hc.map (fun e => some (rn e))) {j k : Nat} (hj : σ[j]? = some k) : ∃ e, hc[j]? = some e ∧ h[k]? = some (rn e) := by
  have h1 := congrArg (fun l => l[j]?) hh
  rw [List.getElem?_map, List.getElem?_map, hj] at h1
  cases he : hc[j]? with
  | none => rw [he] at h1; cases h1
  | some e =>
    rw [he] at h1
    exact ⟨e, rfl, Option.some.inj h1⟩
theorem hh_len {h hc : List va_E} {σ : List Nat} {rn : va_E → va_E} (hh : σ.map (fun i => h[i]?) = hc.map (fun e => some (rn e))) : hc.length = σ.length := by
  have h1 := congrArg List.length hh
  rw [List.length_map, List.length_map] at h1
  exact h1.symm
theorem putS_setS {σ : List Nat} {rn : va_E → va_E} (hσ : va_nd σ = true) : ∀ (cs : List (Nat × va_E)) (h hc : List va_E), σ.map (fun i => h[i]?) = hc.map (fun e => some (rn e)) → (∀ q ∈ cs, q.1 < σ.length) → putS h σ ((setS hc cs).map rn) = setS h (cs.map (fun q => (sg σ q.1, rn q.2)))
  | [], h, hc, hh, _ => by
    show putS h σ (hc.map rn) = h
    apply List.ext_getElem?
    intro p
    by_cases hp : p ∈ σ
    · obtain ⟨j, hj⟩ := List.getElem?_of_mem hp
      obtain ⟨e, he1, he2⟩ := hh_at hh hj
      have hlt : p < h.length := (List.getElem?_eq_some_iff.mp he2).1
      have hjl : j < hc.length := (List.getElem?_eq_some_iff.mp he1).1
      rw [putS_in σ _ h j p hσ hj hlt (by rw [List.length_map]; exact hjl), List.getElem?_map, he1, he2]; rfl
    · rw [putS_out _ _ _ _ hp]
  | (k, e) :: r, h, hc, hh, hk => by
    have hkl : k < σ.length := hk (k, e) List.mem_cons_self
    have hsk : σ[k]? = some (sg σ k) := by
      unfold sg
      rw [List.getD_eq_getElem?_getD, List.getElem?_eq_getElem hkl]; rfl
    have hh1 : σ.map (fun i => (h.set (sg σ k) (rn e))[i]?) = (hc.set k e).map (fun e => some (rn e)) := by
      apply List.ext_getElem?
      intro j
      rw [List.getElem?_map, List.getElem?_map]
      cases hj : σ[j]? with
      | none =>
        have : σ.length ≤ j := List.getElem?_eq_none_iff.mp hj
        have h2 : (hc.set k e)[j]? = none := List.getElem?_eq_none_iff.mpr (by rw [List.length_set, hh_len hh]; exact this)
        rw [h2]; rfl
      | some p =>
        obtain ⟨e0, he1, he2⟩ := hh_at hh hj
        have hlt : p < h.length := (List.getElem?_eq_some_iff.mp he2).1
        have hjl : j < hc.length := (List.getElem?_eq_some_iff.mp he1).1
        by_cases hjk : j = k
        · subst hjk
          have e3 : p = sg σ j := Option.some.inj (hj.symm.trans hsk)
          subst e3
          rw [Option.map_some, List.getElem?_set_self hlt, List.getElem?_set_self hjl]; rfl
        · have hne : sg σ k ≠ p := fun q => hjk (va_nd_inj σ hσ j k p hj (by rw [hsk, q]))
          rw [Option.map_some, List.getElem?_set_ne hne, List.getElem?_set_ne (Ne.symm hjk), he1, he2]; rfl
    have ih := putS_setS hσ r (h.set (sg σ k) (rn e)) (hc.set k e) hh1 (fun q hq => hk q (List.mem_cons_of_mem _ hq))
    show putS h σ ((setS (hc.set k e) r).map rn) = setS (h.set (sg σ k) (rn e)) (r.map _)
    rw [← ih]
    refine putS_ext hσ (by simp) (fun j p hj => ?_) (fun p hp => ?_)
    · obtain ⟨e0, he1, he2⟩ := hh_at hh hj
      refine ⟨(List.getElem?_eq_some_iff.mp he2).1, ?_⟩
      rw [List.length_map, setS_len, List.length_set]
      exact (List.getElem?_eq_some_iff.mp he1).1
    · rw [List.getElem?_set_ne]
      intro q
      exact hp (q ▸ List.mem_of_getElem? hsk)
theorem ks_ok {σ : List Nat} {hc' : List va_E} {ks : List Nat} (h : ks.all (fun k => Nat.blt k σ.length) = true) : ∀ q ∈ ks.map (fun k => (k, hc'.getD k dE)), q.1 < σ.length := by
  intro q hq
  obtain ⟨k, hk, rfl⟩ := List.mem_map.mp hq
  rw [List.all_eq_true] at h
  have := h k hk
  rw [Nat.blt_eq] at this
  exact this
/-- the same by one walk: nothing is nested, so that it can be run by rfl -/
def lkp (i : Nat) : List (Nat × va_E) → va_E → va_E
  | [], e => e
  | q :: r, e => lkp i r (bif Nat.beq q.1 i then q.2 else e)
def mset : Nat → List va_E → List (Nat × va_E) → List va_E
  | _, [], _ => []
  | i, e :: l, cs => lkp i cs e :: mset (i + 1) l cs
theorem mset_get (cs : List (Nat × va_E)) : ∀ (l : List va_E) (i j : Nat), (mset i l cs)[j]? = l[j]?.map (lkp (i + j) cs)
  | [], i, j => by simp [mset]
  | e :: l, i, 0 => by simp [mset]
  | e :: l, i, j + 1 => by
    have := mset_get cs l (i + 1) j
    rw [show i + 1 + j = i + (j + 1) by omega] at this
    simpa [mset] using this
theorem setS_get : ∀ (cs : List (Nat × va_E)) (h : List va_E) (j : Nat), (setS h cs)[j]? = h[j]?.map (lkp j cs)
  | [], h, j => by
    show h[j]? = _
    cases h[j]? <;> rfl
  | q :: r, h, j => by
    show (setS (h.set q.1 q.2) r)[j]? = _
    rw [setS_get r, List.getElem?_set]
    by_cases hq : q.1 = j
    · subst hq
      rw [if_pos rfl]
      by_cases hl : q.1 < h.length
      · rw [if_pos hl, List.getElem?_eq_getElem hl]
        show some _ = some _
        unfold lkp
        rw [show Nat.beq q.1 q.1 = true from Nat.beq_refl _]
        conv => rhs; unfold lkp
        rfl
      · rw [if_neg hl, List.getElem?_eq_none (by omega)]; rfl
    · rw [if_neg hq]
      have hb : Nat.beq q.1 j = false := by
        cases hbb : Nat.beq q.1 j with
        | false => rfl
        | true => exact absurd (Nat.eq_of_beq_eq_true hbb) hq
      congr 1
      funext e
      conv => rhs; unfold lkp
      rw [hb]; rfl
theorem mset_eq (h : List va_E) (cs : List (Nat × va_E)) : mset 0 h cs = setS h cs := by
  apply List.ext_getElem?
  intro j
  rw [mset_get, setS_get, Nat.zero_add]
section
variable {M : MI} {dd : Nat} {rr : Option Value} {h0 hF : List va_E}
theorem AJ.eS {d n : Nat} {M' : MI} {own : String} {idx pc : Nat} {nest : Bool} {ls : List (Option Value)} {st as : List Value} {h hc hc' : List va_E} {r : Option Value} (mk : MOK M' n false) (hs : SK M [(pc, .invokestatic idx, (0, 0, 0), 0)]) (lk : LK own idx M'.1 nest) (C : Ctr d M' as hc r hc') (σ ε ks : List Nat) (rest : List Value) (nxt : Nat) (st2 : List Value) (h2 : List va_E) (how : own = M.1.cls) (hd : dd = d + 1) (hσ : va_nd σ = true) (hh : σ.map (fun i => h[i]?) = hc.map (fun e => some (rnE (σ ++ ε) e))) (hks : ks.all (fun k => Nat.blt k σ.length) = true) (hc1 : mset 0 hc (ks.map (fun k => (k, hc'.getD k dE))) = hc') (hst : st = (as.map (gV (sg (σ ++ ε)))).reverse ++ rest) (hn : as.length = n) (hroom : (rest.map Value.category).sum ≤ 8) (hnx : pc + 3 = nxt) (e1 : (r.map (gV (sg (σ ++ ε)))).toList ++ rest = st2) (e2 : mset 0 h (ks.map (fun k => (sg σ k, rnE (σ ++ ε) (hc'.getD k dE)))) = h2) (k : AJ (M, dd, rr, h0, hF) nxt ls st2 h2) : AJ (M, dd, rr, h0, hF) pc ls st h := by
  rw [mset_eq] at hc1 e2
  refine AJ.dS mk hs lk C σ ε rest nxt st2 h2 how hd hσ hh (by rw [← hc1, setS_len]) hst hn hroom hnx e1 ?_ k
  have := putS_setS hσ _ h hc hh (ks_ok (hc' := hc') hks)
  rw [hc1, List.map_map] at this
  rw [← e2]; exact this
theorem AJ.eV {d n : Nat} {M' : MI} {own : String} {idx pc : Nat} {nest : Bool} {ls : List (Option Value)} {st as : List Value} {h hc hc' : List va_E} {r : Option Value} {i0 ci : Nat} {fs : List Value} {cc : vw_C} (mk : MOK M' n true) (hs : SK M [(pc, .invokevirtual idx, (0, 0, 0), 0)]) (lk : LK own idx M'.1 nest) (C : Ctr d M' (.ref i0 :: as) hc r hc') (σ ε ks : List Nat) (rest : List Value) (nxt : Nat) (st2 : List Value) (h2 : List va_E) (how : own = M.1.cls) (hd : dd = d + 1) (hrc : hc[i0]? = some (.inr (ci, fs))) (hcc : vwCl[ci]? = some cc) (hcn : cc.1 = M'.1.cls) (hσ : va_nd σ = true) (hh : σ.map (fun i => h[i]?) = hc.map (fun e => some (rnE (σ ++ ε) e))) (hks : ks.all (fun k => Nat.blt k σ.length) = true) (hc1 : mset 0 hc (ks.map (fun k => (k, hc'.getD k dE))) = hc') (hst : st = (as.map (gV (sg (σ ++ ε)))).reverse ++ .ref (sg (σ ++ ε) i0) :: rest) (hn : as.length = n) (hroom : (rest.map Value.category).sum ≤ 8) (hnx : pc + 3 = nxt) (e1 : (r.map (gV (sg (σ ++ ε)))).toList ++ rest = st2) (e2 : mset 0 h (ks.map (fun k => (sg σ k, rnE (σ ++ ε) (hc'.getD k dE)))) = h2) (k : AJ (M, dd, rr, h0, hF) nxt ls st2 h2) : AJ (M, dd, rr, h0, hF) pc ls st h := by
  rw [mset_eq] at hc1 e2
  refine AJ.dV mk hs lk C σ ε rest nxt st2 h2 how hd hrc hcc hcn hσ hh (by rw [← hc1, setS_len]) hst hn hroom hnx e1 ?_ k
  have := putS_setS hσ _ h hc hh (ks_ok (hc' := hc') hks)
  rw [hc1, List.map_map] at this
  rw [← e2]; exact this
end
