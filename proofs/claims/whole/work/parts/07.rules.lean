/-! ===== runs of straight code ===== -/
def cj (g : Option Prop) (C : Prop) : Prop := match g with
  | none => C
  | some p => p ∧ C
def prun (nL : Nat) : List (Nat × ENT) → SS → Option (Prop × SS)
  | [], s => some (True, s)
  | e :: t, s => match decide (s.1 = e.1) with
    | true => match pin nL e.2 s with
      | none => none
      | some (g, s') => match prun nL t s' with
        | none => none
        | some (C, s'') => some (cj g C, s'')
    | false => none
def segOK (own : String) (cc : ByteArray) (seg : List (Nat × ENT)) : Bool := seg.all (fun q => chk own cc q.1 q.2)
theorem AJ.run {X : CXT} : ∀ (seg : List (Nat × ENT)) {pc : Nat} {ls : List (Option Value)} {st : List Value} {h : List va_E} {C : Prop} {pc' : Nat} {ls' : List (Option Value)} {st' : List Value} {h' : List va_E}, segOK X.1.1.cls X.1.2.1 seg = true → prun X.1.2.2.1 seg (pc, ls, st, h) = some (C, pc', ls', st', h') → C → AJ X pc' ls' st' h' → AJ X pc ls st h
  | [], pc, ls, st, h, C, pc', ls', st', h', _, hr, _, k => by
    cases hr
    exact k
  | e :: t, pc, ls, st, h, C, pc', ls', st', h', hs, hr, hC, k => by
    unfold segOK at hs
    rw [List.all_cons, Bool.and_eq_true] at hs
    unfold prun at hr
    split at hr
    · rename_i hpc
      have hpc : pc = e.1 := of_decide_eq_true hpc
      split at hr
      · cases hr
      · rename_i g s1 hp
        split at hr
        · cases hr
        · rename_i C1 s2 hr2
          cases hr
          have hg : ∀ q, g = some q → q := by
            intro q hq
            subst hq
            exact hC.1
          have hC1 : C1 := by
            cases g with
            | none => exact hC
            | some q => exact hC.2
          refine AJ.step (e := e.2) (by rw [hpc]; exact hs.1) hp hg ?_
          exact AJ.run t hs.2 hr2 hC1 k
    · cases hr
/-! ===== branches ===== -/
def cndF : Instr → List Value → Option (Prop × Bool × Int × List Value)
  | .ifCond .eq off, .int x :: r => some (x = 0, true, off, r)
  | .ifCond .ne off, .int x :: r => some (x = 0, false, off, r)
  | .ifCond .lt off, .int x :: r => some (x < 0, true, off, r)
  | .ifCond .ge off, .int x :: r => some (x < 0, false, off, r)
  | .ifCond .gt off, .int x :: r => some (0 < x, true, off, r)
  | .ifCond .le off, .int x :: r => some (0 < x, false, off, r)
  | .if_icmp .eq off, .int y :: .int x :: r => some (x = y, true, off, r)
  | .if_icmp .ne off, .int y :: .int x :: r => some (x = y, false, off, r)
  | .if_icmp .lt off, .int y :: .int x :: r => some (x < y, true, off, r)
  | .if_icmp .ge off, .int y :: .int x :: r => some (x < y, false, off, r)
  | .if_icmp .gt off, .int y :: .int x :: r => some (y < x, true, off, r)
  | .if_icmp .le off, .int y :: .int x :: r => some (y < x, false, off, r)
  | _, _ => none
theorem AJ.cnd {X : CXT} {i : Instr} {pc tgt nxt : Nat} {ls : List (Option Value)} {st r : List Value} {h : List va_E} {P : Prop} {b : Bool} {off : Int} (hs : segOK X.1.1.cls X.1.2.1 [(pc, i, (0, 0, 0), 0)] = true) (hc : cndF i st = some (P, b, off, r)) (ht : (pc : Int) + off = (tgt : Int)) (hn : pc + 3 = nxt)
    (kT : P → AJ X (bif b then tgt else nxt) ls r h) (kF : ¬ P → AJ X (bif b then nxt else tgt) ls r h) : AJ X pc ls st h := by
  intro ad D E p l ev s m args below meth c H locs la hCF hLh hP hD hS
  obtain ⟨hx, hb, hr, hml, hlk, hown, hts, hK, hN, hSc⟩ := id hCF
  subst hn
  unfold segOK at hs
  rw [List.all_cons, Bool.and_eq_true] at hs
  obtain ⟨hd, -⟩ := chk_eq hs.1
  have kT' := fun q => kT q ad D E p l ev s m args below meth c H locs la hCF hLh hP hD hS
  have kF' := fun q => kF q ad D E p l ev s m args below meth c H locs la hCF hLh hP hD hS
  unfold cndF at hc
  split at hc <;> first | (cases hc; done) | skip
  · cases hc; exact lv_if_eq hx hb hd ht (fun q => kT' q) (fun q => kF' q)
  · cases hc; exact lv_if_ne hx hb hd ht (fun q => kF' q) (fun q => kT' q)
  · cases hc; exact lv_if_lt hx hb hd ht (fun q => kT' q) (fun q => kF' q)
  · cases hc; exact lv_if_ge hx hb hd ht (fun q => kF' (Int32.not_lt.mpr q)) (fun q => kT' (Int32.not_le.mp q))
  · cases hc; exact lv_if_gt hx hb hd ht (fun q => kT' q) (fun q => kF' q)
  · cases hc; exact lv_if_le hx hb hd ht (fun q => kF' (Int32.not_lt.mpr q)) (fun q => kT' (Int32.not_le.mp q))
  · cases hc; exact lv_icmp_eq hx hb hd ht (fun q => kT' q) (fun q => kF' q)
  · cases hc; exact lv_icmp_ne hx hb hd ht (fun q => kF' q) (fun q => kT' q)
  · cases hc; exact lv_icmp_lt hx hb hd ht (fun q => kT' q) (fun q => kF' q)
  · cases hc; exact lv_icmp_ge hx hb hd ht (fun q => kF' (Int32.not_lt.mpr q)) (fun q => kT' (Int32.not_le.mp q))
  · cases hc; exact lv_icmp_gt hx hb hd ht (fun q => kT' q) (fun q => kF' q)
  · cases hc; exact lv_icmp_le hx hb hd ht (fun q => kF' (Int32.not_lt.mpr q)) (fun q => kT' (Int32.not_le.mp q))
/-! ===== returns ===== -/
theorem AJ.iret {M : MI} {d : Nat} {h0 h : List va_E} {pc : Nat} {ls : List (Option Value)} {v : Int32} (hs : segOK M.1.cls M.2.1 [(pc, .ireturn, (0, 0, 0), 0)] = true) (hr0 : M.2.2.2 = some .int) : AJ (M, d, some (.int v), h0, h) pc ls [.int v] h := by
  intro ad D E p l ev s m args below meth c H locs la hCF hLh hP hD hS
  obtain ⟨hx, hb, hr, hml, hlk, hown, hts, hK, hN, hSc⟩ := id hCF
  unfold segOK at hs
  rw [List.all_cons, Bool.and_eq_true] at hs
  obtain ⟨hd, -⟩ := chk_eq hs.1
  exact W.iret hx hb (hr.trans hr0) (fun t ht hW => ⟨⟨rfl, by rw [ht]; exact hP, va_K.moved hW.alike hK, hD⟩, hS.F ht⟩) hS.2.2 hd hlk
theorem AJ.zret {M : MI} {d : Nat} {h0 h : List va_E} {pc : Nat} {ls : List (Option Value)} {v : Int32} (hz : bz v) (hs : segOK M.1.cls M.2.1 [(pc, .ireturn, (0, 0, 0), 0)] = true) (hr0 : M.2.2.2 = some .boolean) : AJ (M, d, some (.int v), h0, h) pc ls [.int v] h := by
  intro ad D E p l ev s m args below meth c H locs la hCF hLh hP hD hS
  obtain ⟨hx, hb, hr, hml, hlk, hown, hts, hK, hN, hSc⟩ := id hCF
  unfold segOK at hs
  rw [List.all_cons, Bool.and_eq_true] at hs
  obtain ⟨hd, -⟩ := chk_eq hs.1
  exact W.zret hx hb (hr.trans hr0) (by rcases hz with rfl | rfl <;> decide) (fun t ht hW => ⟨⟨rfl, by rw [ht]; exact hP, va_K.moved hW.alike hK, hD⟩, hS.F ht⟩) hS.2.2 hd hlk
theorem AJ.lret {M : MI} {d : Nat} {h0 h : List va_E} {pc : Nat} {ls : List (Option Value)} {v : Int64} (hs : segOK M.1.cls M.2.1 [(pc, .lreturn, (0, 0, 0), 0)] = true) (hr0 : M.2.2.2 = some .long) : AJ (M, d, some (.long v), h0, h) pc ls [.long v] h := by
  intro ad D E p l ev s m args below meth c H locs la hCF hLh hP hD hS
  obtain ⟨hx, hb, hr, hml, hlk, hown, hts, hK, hN, hSc⟩ := id hCF
  unfold segOK at hs
  rw [List.all_cons, Bool.and_eq_true] at hs
  obtain ⟨hd, -⟩ := chk_eq hs.1
  exact W.lret hx hb (hr.trans hr0) (fun t ht hW => ⟨⟨rfl, by rw [ht]; exact hP, va_K.moved hW.alike hK, hD⟩, hS.F ht⟩) hS.2.2 hd hlk
theorem AJ.vret {M : MI} {d : Nat} {h0 h : List va_E} {pc : Nat} {ls : List (Option Value)} (hs : segOK M.1.cls M.2.1 [(pc, .return_, (0, 0, 0), 0)] = true) (hr0 : M.2.2.2 = none) : AJ (M, d, none, h0, h) pc ls [] h := by
  intro ad D E p l ev s m args below meth c H locs la hCF hLh hP hD hS
  obtain ⟨hx, hb, hr, hml, hlk, hown, hts, hK, hN, hSc⟩ := id hCF
  unfold segOK at hs
  rw [List.all_cons, Bool.and_eq_true] at hs
  obtain ⟨hd, -⟩ := chk_eq hs.1
  exact W.vret hx hb (hr.trans hr0) (fun t ht hW => ⟨⟨rfl, by rw [ht]; exact hP, va_K.moved hW.alike hK, hD⟩, hS.F ht⟩) hS.2.2 hd hlk
/-! ===== calls ===== -/
def sg (σ : List Nat) (i : Nat) : Nat := σ.getD i 0
def rnE (τ : List Nat) : va_E → va_E
  | .inl x => .inl x
  | .inr (c, fs) => .inr (c, fs.map (gV (sg τ)))
theorem gV_gV (ad bd : Nat → Nat) (v : Value) : gV ad (gV bd v) = gV (fun i => ad (bd i)) v := by cases v <;> rfl
theorem gE_gE (ad : Nat → Nat) (τ : List Nat) (E : Nat → ClassId) (e : va_E) : gE ad E (rnE τ e) = gE (fun i => ad (sg τ i)) E e := by
  rcases e with ⟨k, a⟩ | ⟨c, fs⟩
  · rfl
  · show (bif Nat.ble 100 c then Sum.inl (E (c - 100), (fs.map (gV (sg τ))).length, Sum.inr (Sum.inr (Sum.inr (Sum.inr (fun i : Nat => rfO ad (fs.map (gV (sg τ)))[i]?))))) else Sum.inr (c, (fs.map (gV (sg τ))).map (gV ad)) : va_E) = (bif Nat.ble 100 c then Sum.inl (E (c - 100), fs.length, Sum.inr (Sum.inr (Sum.inr (Sum.inr (fun i : Nat => rfO (fun i => ad (sg τ i)) fs[i]?))))) else Sum.inr (c, fs.map (gV (fun i => ad (sg τ i)))))
    have e1 : (fs.map (gV (sg τ))).map (gV ad) = fs.map (gV (fun i => ad (sg τ i))) := by
      rw [List.map_map]
      apply List.map_congr_left
      intro v _
      exact gV_gV ad (sg τ) v
    have e2 : (fun i : Nat => rfO ad (fs.map (gV (sg τ)))[i]?) = (fun i : Nat => rfO (fun i => ad (sg τ i)) fs[i]?) := by
      funext i
      rw [List.getElem?_map]
      cases fs[i]? with
      | none => rfl
      | some v => cases v <;> rfl
    rw [e1, e2, List.length_map]
def putS : List va_E → List Nat → List va_E → List va_E
  | h, i :: σ, e :: es => putS (h.set i e) σ es
  | h, _, _ => h
theorem putS_len : ∀ (σ : List Nat) (es h : List va_E), (putS h σ es).length = h.length
  | [], _, h => by unfold putS; rfl
  | _ :: _, [], h => by unfold putS; rfl
  | i :: σ, e :: es, h => by unfold putS; rw [putS_len σ es]; simp
theorem putS_out : ∀ (σ : List Nat) (es h : List va_E) (k : Nat), k ∉ σ → (putS h σ es)[k]? = h[k]?
  | [], _, h, k, _ => by unfold putS; rfl
  | _ :: _, [], h, k, _ => by unfold putS; rfl
  | i :: σ, e :: es, h, k, hk => by
    unfold putS
    rw [putS_out σ es _ k (fun q => hk (List.mem_cons_of_mem _ q)), List.getElem?_set_ne (fun q => hk (by rw [q]; exact List.mem_cons_self))]
theorem putS_in : ∀ (σ : List Nat) (es h : List va_E) (j k : Nat), va_nd σ = true → σ[j]? = some k → k < h.length → j < es.length → (putS h σ es)[k]? = es[j]?
  | [], es, h, j, k, _, hj, _, _ => by simp at hj
  | _ :: _, [], h, j, k, _, _, _, hl => by simp at hl
  | i :: σ, e :: es, h, 0, k, hn, hj, hk, _ => by
    have e1 : i = k := by simpa using hj
    subst e1
    unfold va_nd at hn
    rw [Bool.and_eq_true, decide_eq_true_eq] at hn
    unfold putS
    rw [putS_out σ es _ i hn.1]
    simp [hk]
  | i :: σ, e :: es, h, j + 1, k, hn, hj, hk, hl => by
    unfold va_nd at hn
    rw [Bool.and_eq_true] at hn
    unfold putS
    rw [putS_in σ es _ j k hn.2 (by simpa using hj) (by simpa using hk) (by simpa using hl)]
    simp
