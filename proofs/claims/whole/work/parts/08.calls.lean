/-! ===== calls: the core ===== -/
theorem sg_at {σ ε : List Nat} {j k : Nat} (h : σ[j]? = some k) : sg (σ ++ ε) j = k := by
  unfold sg
  rw [List.getD_eq_getElem?_getD, List.getElem?_append_left (List.getElem?_eq_some_iff.mp h).1, h]; rfl
/-- the callee's cells among the caller's -/
theorem sub_at {h hc : List va_E} {σ ε : List Nat} (hh : σ.map (fun i => h[i]?) = hc.map (fun e => some (rnE (σ ++ ε) e))) {j : Nat} {e : va_E} (he : hc[j]? = some e) : ∃ k, σ[j]? = some k ∧ h[k]? = some (rnE (σ ++ ε) e) := by
  have h1 : (σ.map (fun i => h[i]?))[j]? = some (some (rnE (σ ++ ε) e)) := by rw [hh, List.getElem?_map, he]; rfl
  rw [List.getElem?_map] at h1
  cases hj : σ[j]? with
  | none => rw [hj] at h1; cases h1
  | some k => rw [hj] at h1; exact ⟨k, rfl, Option.some.inj h1⟩
theorem sub_len {h hc : List va_E} {σ ε : List Nat} (hh : σ.map (fun i => h[i]?) = hc.map (fun e => some (rnE (σ ++ ε) e))) : σ.length = hc.length := by
  have := congrArg List.length hh
  simpa using this
theorem sub_lt {h hc : List va_E} {σ ε : List Nat} (hh : σ.map (fun i => h[i]?) = hc.map (fun e => some (rnE (σ ++ ε) e))) {j k : Nat} (hj : σ[j]? = some k) : k < h.length := by
  have hl : j < hc.length := by rw [← sub_len hh]; exact (List.getElem?_eq_some_iff.mp hj).1
  obtain ⟨k2, h1, h2⟩ := sub_at hh (List.getElem?_eq_getElem hl)
  rw [hj] at h1
  have := Option.some.inj h1
  subst this
  exact (List.getElem?_eq_some_iff.mp h2).1
theorem sub_conc {ad : Nat → Nat} {E : Nat → ClassId} {h hc : List va_E} {σ ε : List Nat} (hh : σ.map (fun i => h[i]?) = hc.map (fun e => some (rnE (σ ++ ε) e))) {j : Nat} {q : Nat × va_E} (hq : (conc (fun i => ad (sg (σ ++ ε) i)) E hc)[j]? = some q) : ∃ k, σ[j]? = some k ∧ (conc ad E h)[k]? = some q := by
  rw [conc_get] at hq
  cases he : hc[j]? with
  | none => rw [he] at hq; cases hq
  | some e =>
    rw [he] at hq
    obtain ⟨k, h1, h2⟩ := sub_at hh he
    refine ⟨k, h1, ?_⟩
    rw [conc_at h2, ← Option.some.inj hq]
    show some (ad k, gE ad E (rnE (σ ++ ε) e)) = some (ad (sg (σ ++ ε) j), gE (fun i => ad (sg (σ ++ ε) i)) E e)
    rw [gE_gE, sg_at h1]
theorem callW {X : CXT} {p : Program} {l : Launch} {ev : Env} {s : State} {m : MethodId} {args : Array Value} {below : List Frame} {meth : Method} {c : Code} {H : Heap} {locs : List Loc} {la : Array Slot} {ad : Nat → Nat} {D : va_G} {E : Nat → ClassId}
    {pc : Nat} {ls : List (Option Value)} {st0 rest : List Value} {h hc hc' : List va_E} {r : Option Value} {σ ε : List Nat} {av : Array Value}
    (hrun : va_Run p l ev (rmD X.2.1) s m args below meth c H locs 0 0 0 0 (F0 m pc la st0) (rest.map (gV ad)) (Cout D E (conc (fun i => ad (sg (σ ++ ε) i)) E hc) (conc (fun i => ad (sg (σ ++ ε) i)) E hc') H.size (r.map (gV (fun i => ad (sg (σ ++ ε) i)))) av) (va_A (conc (fun i => ad (sg (σ ++ ε) i)) E hc) H.size))
    (hCF : CF X.1 D E (va_A (conc ad E X.2.2.2.1) s.heap.size) p s m args meth c) (hLh : Lh ad la X.1.2.2.1 ls) (hP : va_P D vwCl (conc ad E h) H) (hD : va_D (va_A (conc ad E X.2.2.2.1) s.heap.size) (conc ad E h)) (hS : va_S (va_A (conc ad E X.2.2.2.1) s.heap.size) s.heap H locs)
    (hσ : va_nd σ = true) (hh : σ.map (fun i => h[i]?) = hc.map (fun e => some (rnE (σ ++ ε) e))) (hlen : hc'.length = hc.length)
    (k : AJ X (pc + 3) ls ((r.map (gV (sg (σ ++ ε)))).toList ++ rest) (putS h σ (hc'.map (rnE (σ ++ ε))))) :
    W p l ev (rmD X.2.1) s m args below meth c H locs 0 0 (MQ below (Cout D E (conc ad E X.2.2.2.1) (conc ad E X.2.2.2.2) s.heap.size (X.2.2.1.map (gV ad))) args s 0 0 (va_A (conc ad E X.2.2.2.1) s.heap.size)) (F0 m pc la st0) := by
  have hA0 : ∀ q, va_A (conc (fun i => ad (sg (σ ++ ε) i)) E hc) H.size q → va_A (conc ad E X.2.2.2.1) s.heap.size q := by
    intro q hq
    rcases hq with ⟨j, e, hq⟩ | hq
    · obtain ⟨k2, -, h2⟩ := sub_conc hh hq
      exact hD.2 k2 _ h2
    · exact Or.inr (Nat.le_trans hS.1 hq)
  intro T hT Xs
  obtain ⟨v, st₀, t, T', L, h0, X', hL, e1, e2, ⟨⟨hv, hP1, hK1, hD1⟩, hz, hk⟩, stp⟩ := hrun T hT Xs
  rw [h0] at hz hk
  cases hv
  have hadr : ∀ (j q : Nat) (e : va_E), (putS h σ (hc'.map (rnE (σ ++ ε))))[q]? = some e → q ∉ σ → h[q]? = some e := fun j q e h1 h2 => by rw [putS_out _ _ _ _ h2] at h1; exact h1
  have hPn : va_P D vwCl (conc ad E (putS h σ (hc'.map (rnE (σ ++ ε))))) T'.heap := by
    intro q z hq
    rw [conc_get] at hq
    cases he : (putS h σ (hc'.map (rnE (σ ++ ε))))[q]? with
    | none => rw [he] at hq; cases hq
    | some e =>
      rw [he] at hq
      have hz1 : (ad q, gE ad E e) = z := Option.some.inj hq
      subst hz1
      by_cases hin : q ∈ σ
      · obtain ⟨j, hj⟩ := List.getElem?_of_mem hin
        have hjl : j < (hc'.map (rnE (σ ++ ε))).length := by rw [List.length_map, hlen, ← sub_len hh]; exact (List.getElem?_eq_some_iff.mp hj).1
        rw [putS_in σ _ h j q hσ hj (sub_lt hh hj) hjl, List.getElem?_map] at he
        cases he2 : hc'[j]? with
        | none => rw [he2] at he; cases he
        | some e' =>
          rw [he2] at he
          have he3 : rnE (σ ++ ε) e' = e := Option.some.inj he
          have h9 := hP1 j _ (conc_at (ad := fun i => ad (sg (σ ++ ε) i)) (E := E) he2)
          rw [← e1] at h9
          rw [← he3]
          show va_at D vwCl (ad q, gE ad E (rnE (σ ++ ε) e')) T'.heap
          rw [gE_gE, ← sg_at (ε := ε) hj]
          exact h9
      · have h3 := hadr 0 q e he hin
        have h4 := conc_at (ad := ad) (E := E) h3
        have h5 := hP q _ h4
        refine h5.kept ?_
        rw [e1]
        refine hk _ h5.lt ?_
        rintro (⟨j, e', hq2⟩ | hq2)
        · obtain ⟨k2, g1, g2⟩ := sub_conc hh hq2
          have := hD.1 q k2 _ _ h4 g2 rfl
          subst this
          exact hin (List.mem_of_getElem? g1)
        · exact absurd h5.lt (Nat.not_lt.mpr hq2)
  have hDn : va_D (va_A (conc ad E X.2.2.2.1) s.heap.size) (conc ad E (putS h σ (hc'.map (rnE (σ ++ ε))))) := by
    have hpl : ∀ (q : Nat) (z : Nat × va_E), (conc ad E (putS h σ (hc'.map (rnE (σ ++ ε)))))[q]? = some z → ∃ z', (conc ad E h)[q]? = some z' ∧ z'.1 = z.1 := by
      intro q z hq
      rw [conc_get] at hq
      cases he : (putS h σ (hc'.map (rnE (σ ++ ε))))[q]? with
      | none => rw [he] at hq; cases hq
      | some e =>
        rw [he] at hq
        have hl : q < h.length := by
          have := (List.getElem?_eq_some_iff.mp he).1
          rw [putS_len] at this
          exact this
        refine ⟨_, conc_at (List.getElem?_eq_getElem hl), ?_⟩
        rw [← Option.some.inj hq]
    refine ⟨fun i j a b hi hj hab => ?_, fun q z hq => ?_⟩
    · obtain ⟨a', g1, g2⟩ := hpl i a hi
      obtain ⟨b', g3, g4⟩ := hpl j b hj
      exact hD.1 i j a' b' g1 g3 (by rw [g2, g4, hab])
    · obtain ⟨z', g1, g2⟩ := hpl q z hq
      rw [← g2]
      exact hD.2 q z' g1
  have hSn : va_S (va_A (conc ad E X.2.2.2.1) s.heap.size) s.heap T'.heap (locs ++ L) := by
    refine ⟨Nat.le_trans hS.1 (by rw [e1]; exact hz), fun q h1 h2 => ?_, fun q hq => ?_⟩
    · rw [e1, hk q (Nat.lt_of_lt_of_le h1 hS.1) (fun z => h2 (hA0 q z))]
      exact hS.2.1 q h1 h2
    · rcases List.mem_append.mp hq with h9 | h9
      · exact hS.2.2 q h9
      · exact hA0 _ (hL q h9)
  have e9 : ((r.map (gV (sg (σ ++ ε)))).toList ++ rest).map (gV ad) = (r.map (gV (fun i => ad (sg (σ ++ ε) i)))).toList ++ rest.map (gV ad) := by
    rw [List.map_append]
    cases r with
    | none => rfl
    | some v => show gV ad (gV (sg (σ ++ ε)) v) :: _ = gV (fun i => ad (sg (σ ++ ε) i)) v :: _; rw [gV_gV]; rfl
  have kk := k ad D E p l ev s m args below meth c T'.heap (locs ++ L) la hCF hLh hPn hDn hSn
  rw [e9] at kk
  obtain ⟨t2, a1, b1⟩ := kk T' rfl X'
  exact ⟨t2, stp t2 a1, b1⟩
/-! ===== the three calls ===== -/
/-- what the tables say of a method that is called; n: its arguments beside the receiver; virt: by a receiver -/
def mOK (M : MI) (n : Nat) (virt : Bool) (pc pi p1 p2 : Nat) : Bool :=
  wdOK pc (.code M.1 M.2.1 M.2.2.1 M.2.2.2) && (wdOK pi (.initialized M.1.cls) && (decide (M.1.cls ≠ "java/lang/invoke/MethodHandle" ∧ M.1.cls ≠ "java/lang/invoke/VarHandle" ∧ (parseMethodDescriptor M.1.desc).map (fun d => d.parameters.length) = some n) && (decide (M.2.2.1 ≤ 21) && (bif virt then wdOK p1 (.instanceMethod M.1) && wdOK p2 (.selects M.1.cls M.1 M.1) else wdOK p1 (.static M.1)))))
def MOK (M : MI) (n : Nat) (virt : Bool) : Prop := (.code M.1 M.2.1 M.2.2.1 M.2.2.2 ∈ ALLW) ∧ (.initialized M.1.cls ∈ ALLW) ∧ (M.1.cls ≠ "java/lang/invoke/MethodHandle" ∧ M.1.cls ≠ "java/lang/invoke/VarHandle" ∧ (parseMethodDescriptor M.1.desc).map (fun d => d.parameters.length) = some n) ∧ M.2.2.1 ≤ 21 ∧ (if virt = true then (.instanceMethod M.1 ∈ ALLW) ∧ (.selects M.1.cls M.1 M.1 ∈ ALLW) else .static M.1 ∈ ALLW)
theorem mOK_eq {M : MI} {n : Nat} {virt : Bool} {pc pi p1 p2 : Nat} (h : mOK M n virt pc pi p1 p2 = true) : MOK M n virt := by
  unfold mOK at h
  simp only [Bool.and_eq_true, decide_eq_true_eq] at h
  refine ⟨wdOK_mem h.1, wdOK_mem h.2.1, h.2.2.1, h.2.2.2.1, ?_⟩
  have h5 := h.2.2.2.2
  cases virt with
  | true =>
    simp only [cond_true, Bool.and_eq_true] at h5
    rw [if_pos rfl]
    exact ⟨wdOK_mem h5.1, wdOK_mem h5.2⟩
  | false =>
    simp only [cond_false] at h5
    rw [if_neg (by decide)]
    exact wdOK_mem h5
/-- a call's link (plain or of a nest mate) -/
def LK (own : String) (idx : Nat) (y : MethodName) (nest : Bool) : Prop := if nest = true then .methodLinkNest own idx y "LastName" ∈ NESTW else .methodLink own idx y ∈ ALLW
theorem LK_p {own : String} {idx : Nat} {y : MethodName} (pl : Nat) (h : wdOK pl (.methodLink own idx y) = true) : LK own idx y false := by
  unfold LK; rw [if_neg (by decide)]; exact wdOK_mem h
theorem LK_n {own : String} {idx : Nat} {y : MethodName} (pl : Nat) (h : nwOK pl (.methodLinkNest own idx y "LastName") = true) : LK own idx y true := by
  unfold LK; rw [if_pos rfl]; exact nwOK_mem h
theorem allw_GoodIn {M : MI} (h : .code M.1 M.2.1 M.2.2.1 M.2.2.2 ∈ ALLW) : GoodIn ALLW (wOf M) := by
  intro w hw
  rcases List.mem_cons.mp hw with rfl | hw
  · exact ⟨h, allw_good h⟩
  · exact ⟨hw, allw_good hw⟩
theorem callB {X : CXT} {M : MI} {n d : Nat} {virt : Bool} {s : State} {args : Array Value} {own : String} {idx : Nat} (mk : MOK M n virt) (hts : ∀ w ∈ ALLW, w.before args s = true) (hd : X.2.1 = d + 1) (hl : (Jvm.Cond.methodLink own idx M.1).before args s = true) :
    CallB (rmD X.2.1) s args own idx M.1 M.2.1 M.2.2.1 M.2.2.2 (wOf M) (rmD d) 0 0 n :=
  callB_of (ws' := ALLW) n hts (allw_GoodIn mk.1) rfl rfl rfl (hts _ mk.2.1) hl mk.2.2.1 ⟨by rw [hd]; exact Nat.le_refl _, by
    rw [hd]
    show 8 + (M.2.2.1 + 11) + 40 * d ≤ 40 * (d + 1)
    have := mk.2.2.2.1
    omega⟩
theorem callN {X : CXT} {M : MI} {n d : Nat} {virt : Bool} {s : State} {args : Array Value} {own : String} {idx : Nat} (mk : MOK M n virt) (hts : ∀ w ∈ ALLW, w.before args s = true) (hd : X.2.1 = d + 1) (hl : va_Nw (.methodLinkNest own idx M.1 "LastName") s) :
    va_CN (rmD X.2.1) s args own idx M.1 "LastName" M.2.1 M.2.2.1 M.2.2.2 (wOf M) (rmD d) 0 0 n :=
  va_cnB (ws' := ALLW) n hts (allw_GoodIn mk.1) rfl rfl rfl hl (hts _ mk.2.1) mk.2.2.1 ⟨by rw [hd]; exact Nat.le_refl _, by
    rw [hd]
    show 8 + (M.2.2.1 + 11) + 40 * d ≤ 40 * (d + 1)
    have := mk.2.2.2.1
    omega⟩
theorem Cin_blind {D : va_G} {E : Nat → ClassId} {ws : va_W} {sz : Nat} {av : List Value} : FrameBlind (va_Pc av (Cin D E ws sz)) := by
  intro a U g mk q
  obtain ⟨q0, q1, qP, qK, qD, qN, qS⟩ := q
  exact ⟨q0, q1, qP, va_K.moved (u := U) (U := U.calling g mk a) (Vm.Alike.refl U.vm) qK, qD, fun w hw => va_Nw.same (u := U) (U := U.calling g mk a) (nest_tab (List.mem_filter.mp hw).2) rfl (qN w hw), qS.calling⟩
theorem Cin_call {ad : Nat → Nat} {D : va_G} {E : Nat → ClassId} {h hc : List va_E} {σ ε : List Nat} {A : Nat → Prop} {H : Heap} {s U : State} {locs : List Loc} (hSc : Sc A s) (hA : ∀ q, s.heap.size ≤ q → A q) (hS : va_S A s.heap H locs) (hP : va_P D vwCl (conc ad E h) H) (hD : va_D A (conc ad E h)) (hK : va_K D vwCl (tysOf E) s) (hN : ∀ w ∈ NESTW, va_Nw w s) (hσ : va_nd σ = true) (hh : σ.map (fun i => h[i]?) = hc.map (fun e => some (rnE (σ ++ ε) e))) (hU : U.heap = H) (hW : s.WarmedH U.vm) : Cin D E (conc (fun i => ad (sg (σ ++ ε) i)) E hc) H.size U := by
  refine ⟨by rw [hU], ?_, va_K.moved hW.alike hK, ?_, fun w hw => nest_warm hW (List.mem_filter.mp hw).2 (hN w hw), hSc.call (fun q hq => ?_) hS hU hW⟩
  · rw [hU]
    intro j q hq
    obtain ⟨k, -, h2⟩ := sub_conc hh hq
    exact hP k q h2
  · refine ⟨fun i j a b hi hj hab => ?_, fun _ _ _ => trivial⟩
    obtain ⟨k1, g1, g2⟩ := sub_conc hh hi
    obtain ⟨k2, g3, g4⟩ := sub_conc hh hj
    have := hD.1 k1 k2 a b g2 g4 hab
    subst this
    exact va_nd_inj σ hσ i j k1 g1 g3
  · rcases hq with ⟨j, e, hq⟩ | hq
    · obtain ⟨k2, -, h2⟩ := sub_conc hh hq
      exact hD.2 k2 _ h2
    · exact hA q (Nat.le_trans hS.1 hq)
/-- a static method -/
theorem AJ.callS {X : CXT} {d n : Nat} {M : MI} {idx pc nxt : Nat} {nest : Bool} {ls : List (Option Value)} {st rest as : List Value} {h hc hc' : List va_E} {r : Option Value} (mk : MOK M n false) (hd : X.2.1 = d + 1) (hs : segOK X.1.1.cls X.1.2.1 [(pc, .invokestatic idx, (0, 0, 0), 0)] = true) (lk : LK X.1.1.cls idx M.1 nest) (C : Ctr d M as hc r hc') (σ ε : List Nat) (hσ : va_nd σ = true) (hh : σ.map (fun i => h[i]?) = hc.map (fun e => some (rnE (σ ++ ε) e))) (hlen : hc'.length = hc.length) (hst : st = (as.map (gV (sg (σ ++ ε)))).reverse ++ rest) (hn : as.length = n) (hroom : (rest.map Value.category).sum ≤ 8) (hnx : pc + 3 = nxt)
    (k : AJ X nxt ls ((r.map (gV (sg (σ ++ ε)))).toList ++ rest) (putS h σ (hc'.map (rnE (σ ++ ε))))) : AJ X pc ls st h := by
  intro ad D E p l ev s m args below meth c H locs la hCF hLh hP hD hS
  obtain ⟨hx, hb, hr, hml, hlk, hown, hts, hK, hN, hSc⟩ := id hCF
  subst hst
  subst hnx
  unfold segOK at hs
  rw [List.all_cons, Bool.and_eq_true] at hs
  obtain ⟨hdg, -⟩ := chk_eq hs.1
  unfold LK at lk
  have hstk : (((as.map (gV (sg (σ ++ ε)))).reverse ++ rest).map (gV ad)) = (as.map (gV (fun i => ad (sg (σ ++ ε) i)))).reverse ++ rest.map (gV ad) := by
    rw [List.map_append, List.map_reverse, List.map_map]
    congr 2
    apply List.map_congr_left
    intro v _
    exact gV_gV ad (sg (σ ++ ε)) v
  have hroom2 : ((rest.map (gV ad)).map fun v => v.category).sum ≤ 8 := by
    rw [List.map_map]
    have : (Value.category ∘ gV ad) = Value.category := by funext v; exact gV_cat ad v
    show ((rest.map (Value.category ∘ gV ad)).sum) ≤ 8
    rw [this]; exact hroom
  have hstat : (Jvm.Cond.static M.1).before args s = true := hts _ (by have := mk.2.2.2.2; rwa [if_neg (by decide)] at this)
  have hpre : PreS s H (va_Pc (as.map (gV (fun i => ad (sg (σ ++ ε) i)))) (Cin D E (conc (fun i => ad (sg (σ ++ ε) i)) E hc) H.size)) (as.map (gV (fun i => ad (sg (σ ++ ε) i)))) := ⟨Cin_blind, fun U hU hW => ⟨rfl, Cin_call hSc (fun q hq => Or.inr hq) hS hP hD hK hN hσ hh hU hW⟩⟩
  cases nest with
  | false =>
    rw [if_neg (by decide)] at lk
    have hl : (Jvm.Cond.methodLink X.1.1.cls idx M.1).before args s = true := hts _ lk
    refine callW (va_runS ⟨hx, hb, hml, hown, hts⟩ (C (fun i => ad (sg (σ ++ ε) i)) D E l H.size) ⟨callB mk hts hd hl, hstat⟩ hpre rfl (by rw [List.length_map]; exact hn) hLh.1 hstk (lv_room hroom2) hdg ⟨Nat.le_refl _, Nat.le_refl _⟩) hCF hLh hP hD hS hσ hh hlen k
  | true =>
    rw [if_pos rfl] at lk
    have hl : va_Nw (.methodLinkNest X.1.1.cls idx M.1 "LastName") s := hN _ lk
    refine callW (va_runSN ⟨hx, hb, hml, hown, hts⟩ (C (fun i => ad (sg (σ ++ ε) i)) D E l H.size) ⟨callN mk hts hd hl, hstat, trivial⟩ hpre rfl (by rw [List.length_map]; exact hn) hLh.1 hstk (lv_room hroom2) hdg ⟨Nat.le_refl _, Nat.le_refl _⟩) hCF hLh hP hD hS hσ hh hlen k
/-- a method of a receiver: at place i0 of the callee's cells, an object of its class -/
theorem AJ.callV {X : CXT} {d n : Nat} {M : MI} {idx pc nxt : Nat} {nest : Bool} {ls : List (Option Value)} {st rest as : List Value} {h hc hc' : List va_E} {r : Option Value} {i0 ci : Nat} {fs : List Value} {cc : vw_C} (mk : MOK M n true) (hd : X.2.1 = d + 1) (hs : segOK X.1.1.cls X.1.2.1 [(pc, .invokevirtual idx, (0, 0, 0), 0)] = true) (lk : LK X.1.1.cls idx M.1 nest) (C : Ctr d M (.ref i0 :: as) hc r hc') (hrc : hc[i0]? = some (.inr (ci, fs))) (hcc : vwCl[ci]? = some cc) (hcn : cc.1 = M.1.cls) (σ ε : List Nat) (hσ : va_nd σ = true) (hh : σ.map (fun i => h[i]?) = hc.map (fun e => some (rnE (σ ++ ε) e))) (hlen : hc'.length = hc.length) (hst : st = (as.map (gV (sg (σ ++ ε)))).reverse ++ .ref (sg (σ ++ ε) i0) :: rest) (hn : as.length = n) (hroom : (rest.map Value.category).sum ≤ 8) (hnx : pc + 3 = nxt)
    (k : AJ X nxt ls ((r.map (gV (sg (σ ++ ε)))).toList ++ rest) (putS h σ (hc'.map (rnE (σ ++ ε))))) : AJ X pc ls st h := by
  intro ad D E p l ev s m args below meth c H locs la hCF hLh hP hD hS
  obtain ⟨hx, hb, hr, hml, hlk, hown, hts, hK, hN, hSc⟩ := id hCF
  subst hst
  subst hnx
  unfold segOK at hs
  rw [List.all_cons, Bool.and_eq_true] at hs
  obtain ⟨hdg, -⟩ := chk_eq hs.1
  unfold LK at lk
  have hstk : (((as.map (gV (sg (σ ++ ε)))).reverse ++ .ref (sg (σ ++ ε) i0) :: rest).map (gV ad)) = (as.map (gV (fun i => ad (sg (σ ++ ε) i)))).reverse ++ .ref (ad (sg (σ ++ ε) i0)) :: rest.map (gV ad) := by
    rw [List.map_append, List.map_reverse, List.map_map]
    congr 2
    apply List.map_congr_left
    intro v _
    exact gV_gV ad (sg (σ ++ ε)) v
  have hroom2 : ((rest.map (gV ad)).map fun v => v.category).sum ≤ 8 := by
    rw [List.map_map]
    have : (Value.category ∘ gV ad) = Value.category := by funext v; exact gV_cat ad v
    show ((rest.map (Value.category ∘ gV ad)).sum) ≤ 8
    rw [this]; exact hroom
  have hvv : (.instanceMethod M.1 ∈ ALLW) ∧ (.selects M.1.cls M.1 M.1 ∈ ALLW) := by have := mk.2.2.2.2; rwa [if_pos rfl] at this
  obtain ⟨k0, g1, g2⟩ := sub_conc (ad := ad) (E := E) hh (conc_at (ad := fun i => ad (sg (σ ++ ε) i)) (E := E) hrc)
  rw [gE_obj (vwCl_lt hcc)] at g2
  have hrecv := va_recv hK hP hcc g2
  rw [hcn] at hrecv
  have hpre : PreV s H M.1.cls (ad (sg (σ ++ ε) i0)) (va_Pc ((Value.ref i0 :: as).map (gV (fun i => ad (sg (σ ++ ε) i)))) (Cin D E (conc (fun i => ad (sg (σ ++ ε) i)) E hc) H.size)) (as.map (gV (fun i => ad (sg (σ ++ ε) i)))) := ⟨Cin_blind, hrecv, fun U hU hW => ⟨rfl, Cin_call hSc (fun q hq => Or.inr hq) hS hP hD hK hN hσ hh hU hW⟩⟩
  cases nest with
  | false =>
    rw [if_neg (by decide)] at lk
    have hl : (Jvm.Cond.methodLink X.1.1.cls idx M.1).before args s = true := hts _ lk
    refine callW (va_runV ⟨hx, hb, hml, hown, hts⟩ (C (fun i => ad (sg (σ ++ ε) i)) D E l H.size) ⟨callB mk hts hd hl, hts _ hvv.1, hts _ hvv.2⟩ hpre rfl (by rw [List.length_map]; exact hn) hLh.1 hstk (lv_room hroom2) hdg ⟨Nat.le_refl _, Nat.le_refl _⟩) hCF hLh hP hD hS hσ hh hlen k
  | true =>
    rw [if_pos rfl] at lk
    have hl : va_Nw (.methodLinkNest X.1.1.cls idx M.1 "LastName") s := hN _ lk
    refine callW (va_runVN ⟨hx, hb, hml, hown, hts⟩ (C (fun i => ad (sg (σ ++ ε) i)) D E l H.size) ⟨callN mk hts hd hl, hts _ hvv.1, hts _ hvv.2⟩ hpre rfl (by rw [List.length_map]; exact hn) hLh.1 hstk (lv_room hroom2) hdg ⟨Nat.le_refl _, Nat.le_refl _⟩) hCF hLh hP hD hS hσ hh hlen k
/-! ===== calls that take the whole heap along ===== -/
theorem callWI {X : CXT} {p : Program} {l : Launch} {ev : Env} {s : State} {m : MethodId} {args : Array Value} {below : List Frame} {meth : Method} {c : Code} {H : Heap} {locs : List Loc} {la : Array Slot} {ad : Nat → Nat} {D : va_G} {E : Nat → ClassId}
    {pc : Nat} {ls : List (Option Value)} {st0 rest : List Value} {h h' : List va_E} {r : Option Value} {av : Array Value}
    (hrun : va_Run p l ev (rmD X.2.1) s m args below meth c H locs 0 0 0 0 (F0 m pc la st0) (rest.map (gV ad)) (Cout D E (conc ad E h) (conc ad E h') H.size (r.map (gV ad)) av) (va_A (conc ad E h) H.size))
    (hCF : CF X.1 D E (va_A (conc ad E X.2.2.2.1) s.heap.size) p s m args meth c) (hLh : Lh ad la X.1.2.2.1 ls) (hD : va_D (va_A (conc ad E X.2.2.2.1) s.heap.size) (conc ad E h)) (hS : va_S (va_A (conc ad E X.2.2.2.1) s.heap.size) s.heap H locs)
    (k : AJ X (pc + 3) ls (r.toList ++ rest) h') :
    W p l ev (rmD X.2.1) s m args below meth c H locs 0 0 (MQ below (Cout D E (conc ad E X.2.2.2.1) (conc ad E X.2.2.2.2) s.heap.size (X.2.2.1.map (gV ad))) args s 0 0 (va_A (conc ad E X.2.2.2.1) s.heap.size)) (F0 m pc la st0) := by
  have hA0 : ∀ q, va_A (conc ad E h) H.size q → va_A (conc ad E X.2.2.2.1) s.heap.size q := by
    intro q hq
    rcases hq with ⟨j, e, hq⟩ | hq
    · exact hD.2 j _ hq
    · exact Or.inr (Nat.le_trans hS.1 hq)
  intro T hT Xs
  obtain ⟨v, st₀, t, T', L, h0, X', hL, e1, e2, ⟨⟨hv, hP1, hK1, hD1⟩, hz, hk⟩, stp⟩ := hrun T hT Xs
  rw [h0] at hz hk
  cases hv
  have hSn : va_S (va_A (conc ad E X.2.2.2.1) s.heap.size) s.heap T'.heap (locs ++ L) := by
    refine ⟨Nat.le_trans hS.1 (by rw [e1]; exact hz), fun q h1 h2 => ?_, fun q hq => ?_⟩
    · rw [e1, hk q (Nat.lt_of_lt_of_le h1 hS.1) (fun z => h2 (hA0 q z))]
      exact hS.2.1 q h1 h2
    · rcases List.mem_append.mp hq with h9 | h9
      · exact hS.2.2 q h9
      · exact hA0 _ (hL q h9)
  have e9 : (r.toList ++ rest).map (gV ad) = (r.map (gV ad)).toList ++ rest.map (gV ad) := by
    rw [List.map_append]
    cases r <;> rfl
  have kk := k ad D E p l ev s m args below meth c T'.heap (locs ++ L) la hCF hLh (by rw [e1]; exact hP1) (hD1.weaken (fun _ _ _ h9 => hA0 _ h9)) hSn
  rw [e9] at kk
  obtain ⟨t2, a1, b1⟩ := kk T' rfl X'
  exact ⟨t2, stp t2 a1, b1⟩
theorem AJ.callVI {X : CXT} {d n : Nat} {M : MI} {idx pc nxt : Nat} {nest : Bool} {ls : List (Option Value)} {st rest as : List Value} {h h' : List va_E} {r : Option Value} {i0 ci : Nat} {fs : List Value} {cc : vw_C} (mk : MOK M n true) (hd : X.2.1 = d + 1) (hs : segOK X.1.1.cls X.1.2.1 [(pc, .invokevirtual idx, (0, 0, 0), 0)] = true) (lk : LK X.1.1.cls idx M.1 nest) (C : Ctr d M (.ref i0 :: as) h r h') (hrc : h[i0]? = some (.inr (ci, fs))) (hcc : vwCl[ci]? = some cc) (hcn : cc.1 = M.1.cls) (hst : st = as.reverse ++ .ref i0 :: rest) (hn : as.length = n) (hroom : (rest.map Value.category).sum ≤ 8) (hnx : pc + 3 = nxt)
    (k : AJ X nxt ls (r.toList ++ rest) h') : AJ X pc ls st h := by
  intro ad D E p l ev s m args below meth c H locs la hCF hLh hP hD hS
  obtain ⟨hx, hb, hr, hml, hlk, hown, hts, hK, hN, hSc⟩ := id hCF
  subst hst
  subst hnx
  unfold segOK at hs
  rw [List.all_cons, Bool.and_eq_true] at hs
  obtain ⟨hdg, -⟩ := chk_eq hs.1
  unfold LK at lk
  have hstk : ((as.reverse ++ .ref i0 :: rest).map (gV ad)) = (as.map (gV ad)).reverse ++ .ref (ad i0) :: rest.map (gV ad) := by
    rw [List.map_append, List.map_reverse]; rfl
  have hroom2 : ((rest.map (gV ad)).map fun v => v.category).sum ≤ 8 := by
    rw [List.map_map]
    have : (Value.category ∘ gV ad) = Value.category := by funext v; exact gV_cat ad v
    show ((rest.map (Value.category ∘ gV ad)).sum) ≤ 8
    rw [this]; exact hroom
  have hvv : (.instanceMethod M.1 ∈ ALLW) ∧ (.selects M.1.cls M.1 M.1 ∈ ALLW) := by have := mk.2.2.2.2; rwa [if_pos rfl] at this
  have g2 := conc_at (ad := ad) (E := E) hrc
  rw [gE_obj (vwCl_lt hcc)] at g2
  have hrecv := va_recv hK hP hcc g2
  rw [hcn] at hrecv
  have hpre : PreV s H M.1.cls (ad i0) (va_Pc ((Value.ref i0 :: as).map (gV ad)) (Cin D E (conc ad E h) H.size)) (as.map (gV ad)) := ⟨Cin_blind, hrecv, fun U hU hW => ⟨rfl, by rw [hU], by rw [hU]; exact hP, va_K.moved hW.alike hK, hD.weaken (fun _ _ _ _ => trivial), fun w hw => nest_warm hW (List.mem_filter.mp hw).2 (hN w hw), hSc.call (fun q hq => hq.elim (fun ⟨j, e, hq⟩ => hD.2 j _ hq) (fun hq => Or.inr (Nat.le_trans hS.1 hq))) hS hU hW⟩⟩
  cases nest with
  | false =>
    rw [if_neg (by decide)] at lk
    have hl : (Jvm.Cond.methodLink X.1.1.cls idx M.1).before args s = true := hts _ lk
    refine callWI (va_runV ⟨hx, hb, hml, hown, hts⟩ (C ad D E l H.size) ⟨callB mk hts hd hl, hts _ hvv.1, hts _ hvv.2⟩ hpre rfl (by rw [List.length_map]; exact hn) hLh.1 hstk (lv_room hroom2) hdg ⟨Nat.le_refl _, Nat.le_refl _⟩) hCF hLh hD hS k
  | true =>
    rw [if_pos rfl] at lk
    have hl : va_Nw (.methodLinkNest X.1.1.cls idx M.1 "LastName") s := hN _ lk
    refine callWI (va_runVN ⟨hx, hb, hml, hown, hts⟩ (C ad D E l H.size) ⟨callN mk hts hd hl, hts _ hvv.1, hts _ hvv.2⟩ hpre rfl (by rw [List.length_map]; exact hn) hLh.1 hstk (lv_room hroom2) hdg ⟨Nat.le_refl _, Nat.le_refl _⟩) hCF hLh hD hS k
