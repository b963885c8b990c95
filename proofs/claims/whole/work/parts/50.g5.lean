/-! ===== calls in AG (written by mkg5.py) ===== -/
theorem callBG {X : CXG} {M : MI} {n d : Nat} {virt : Bool} {s : State} {args : Array Value} {own : String} {idx : Nat} (mk : MOK M n virt) (hts : ∀ w ∈ ALLW, w.before args s = true) (hd : d + 1 ≤ X.R.frames ∧ 40 * (d + 1) ≤ X.R.locals) (hl : (Jvm.Cond.methodLink own idx M.1).before args s = true) :
    CallB X.R s args own idx M.1 M.2.1 M.2.2.1 M.2.2.2 (wOf M) (rmD d) 0 0 n :=
  callB_of (ws' := ALLW) n hts (allw_GoodIn mk.1) rfl rfl rfl (hts _ mk.2.1) hl mk.2.2.1 ⟨hd.1, by
    show 8 + (M.2.2.1 + 11) + 40 * d ≤ X.R.locals
    have := mk.2.2.2.1
    have := hd.2
    omega⟩
theorem callNG {X : CXG} {M : MI} {n d : Nat} {virt : Bool} {s : State} {args : Array Value} {own : String} {idx : Nat} (mk : MOK M n virt) (hts : ∀ w ∈ ALLW, w.before args s = true) (hd : d + 1 ≤ X.R.frames ∧ 40 * (d + 1) ≤ X.R.locals) (hl : va_Nw (.methodLinkNest own idx M.1 "LastName") s) :
    va_CN X.R s args own idx M.1 "LastName" M.2.1 M.2.2.1 M.2.2.2 (wOf M) (rmD d) 0 0 n :=
  va_cnB (ws' := ALLW) n hts (allw_GoodIn mk.1) rfl rfl rfl hl (hts _ mk.2.1) mk.2.2.1 ⟨hd.1, by
    show 8 + (M.2.2.1 + 11) + 40 * d ≤ X.R.locals
    have := mk.2.2.2.1
    have := hd.2
    omega⟩
theorem callWG {X : CXG} {cl sl : Nat} {p : Program} {l : Launch} {ev : Env} {s : State} {m : MethodId} {args : Array Value} {below : List Frame} {meth : Method} {c : Code} {H : Heap} {locs : List Loc} {la : Array Slot} {ad0 ad : Nat → Nat} {D : va_G} {E : Nat → ClassId}
    {pc : Nat} {ls : List (Option Value)} {st0 rest : List Value} {h hc hc' : List va_E} {r : Option Value} {σ ε : List Nat} {av : Array Value}
    (hrun : va_Run p l ev X.R s m args below meth c H locs cl sl 0 0 (F0 m pc la st0) (rest.map (gV ad)) (Cout D E (conc (fun i => ad (sg (σ ++ ε) i)) E hc) (conc (fun i => ad (sg (σ ++ ε) i)) E hc') H.size (r.map (gV (fun i => ad (sg (σ ++ ε) i)))) av) (va_A (conc (fun i => ad (sg (σ ++ ε) i)) E hc) H.size))
    (hCF : CF X.1 D E (va_A (conc ad0 E X.h0) s.heap.size) p s m args meth c) (hag : agr X.h0.length ad0 ad ∧ X.Pr ad0 E args s meth) (hLh : Lh ad la X.1.2.2.1 ls) (hP : va_P D vwCl (conc ad E h) H) (hD : va_D (va_A (conc ad0 E X.h0) s.heap.size) (conc ad E h)) (hS : va_S (va_A (conc ad0 E X.h0) s.heap.size) s.heap H locs)
    (hσ : va_nd σ = true) (hh : σ.map (fun i => h[i]?) = hc.map (fun e => some (rnE (σ ++ ε) e))) (hlen : hc'.length = hc.length)
    (k : AG X cl sl (pc + 3) ls ((r.map (gV (sg (σ ++ ε)))).toList ++ rest) (putS h σ (hc'.map (rnE (σ ++ ε))))) :
    W p l ev X.R s m args below meth c H locs cl sl (X.Q ad0 D E below args s) (F0 m pc la st0) := by
  have hA0 : ∀ q, va_A (conc (fun i => ad (sg (σ ++ ε) i)) E hc) H.size q → va_A (conc ad0 E X.h0) s.heap.size q := by
    intro q hq
    rcases hq with ⟨j, e, hq⟩ | hq
    · obtain ⟨k2, -, h2⟩ := sub_conc hh hq
      exact hD.2 k2 _ h2
    · exact Or.inr (Nat.le_trans hS.1 hq)
  intro T hT Xs
  obtain ⟨v, st₀, t, T', L, h0, X', hL, e1, e2, ⟨⟨hv, hP1, hK1, hD1⟩, hz, hk⟩, stp⟩ := hrun T hT Xs
  rw [h0] at hz hk
  cases hv
  have hadr : ∀ (j q : Nat) (e : va_E), (putS h σ (hc'.map (rnE (σ ++ ε))))[q]? = some e → q ∉ σ → h[q]? = some e := fun j q e h1 h2 => by rw [putS_out _ _ _ _ h2] at h1; exact h1
  have hPn : va_P D vwCl (conc ad E (putS h σ (hc'.map (rnE (σ ++ ε))))) T'.heap := by
    intro q z hq
    rw [conc_get] at hq
    cases he : (putS h σ (hc'.map (rnE (σ ++ ε))))[q]? with
    | none => rw [he] at hq; cases hq
    | some e =>
      rw [he] at hq
      have hz1 : (ad q, gE ad E e) = z := Option.some.inj hq
      subst hz1
      by_cases hin : q ∈ σ
      · obtain ⟨j, hj⟩ := List.getElem?_of_mem hin
        have hjl : j < (hc'.map (rnE (σ ++ ε))).length := by rw [List.length_map, hlen, ← sub_len hh]; exact (List.getElem?_eq_some_iff.mp hj).1
        rw [putS_in σ _ h j q hσ hj (sub_lt hh hj) hjl, List.getElem?_map] at he
        cases he2 : hc'[j]? with
        | none => rw [he2] at he; cases he
        | some e' =>
          rw [he2] at he
          have he3 : rnE (σ ++ ε) e' = e := Option.some.inj he
          have h9 := hP1 j _ (conc_at (ad := fun i => ad (sg (σ ++ ε) i)) (E := E) he2)
          rw [← e1] at h9
          rw [← he3]
          show va_at D vwCl (ad q, gE ad E (rnE (σ ++ ε) e')) T'.heap
          rw [gE_gE, ← sg_at (ε := ε) hj]
          exact h9
      · have h3 := hadr 0 q e he hin
        have h4 := conc_at (ad := ad) (E := E) h3
        have h5 := hP q _ h4
        refine h5.kept ?_
        rw [e1]
        refine hk _ h5.lt ?_
        rintro (⟨j, e', hq2⟩ | hq2)
        · obtain ⟨k2, g1, g2⟩ := sub_conc hh hq2
          have := hD.1 q k2 _ _ h4 g2 rfl
          subst this
          exact hin (List.mem_of_getElem? g1)
        · exact absurd h5.lt (Nat.not_lt.mpr hq2)
  have hDn : va_D (va_A (conc ad0 E X.h0) s.heap.size) (conc ad E (putS h σ (hc'.map (rnE (σ ++ ε))))) := by
    have hpl : ∀ (q : Nat) (z : Nat × va_E), (conc ad E (putS h σ (hc'.map (rnE (σ ++ ε)))))[q]? = some z → ∃ z', (conc ad E h)[q]? = some z' ∧ z'.1 = z.1 := by
      intro q z hq
      rw [conc_get] at hq
      cases he : (putS h σ (hc'.map (rnE (σ ++ ε))))[q]? with
      | none => rw [he] at hq; cases hq
      | some e =>
        rw [he] at hq
        have hl : q < h.length := by
          have := (List.getElem?_eq_some_iff.mp he).1
          rw [putS_len] at this
          exact this
        refine ⟨_, conc_at (List.getElem?_eq_getElem hl), ?_⟩
        rw [← Option.some.inj hq]
    refine ⟨fun i j a b hi hj hab => ?_, fun q z hq => ?_⟩
    · obtain ⟨a', g1, g2⟩ := hpl i a hi
      obtain ⟨b', g3, g4⟩ := hpl j b hj
      exact hD.1 i j a' b' g1 g3 (by rw [g2, g4, hab])
    · obtain ⟨z', g1, g2⟩ := hpl q z hq
      rw [← g2]
      exact hD.2 q z' g1
  have hSn : va_S (va_A (conc ad0 E X.h0) s.heap.size) s.heap T'.heap (locs ++ L) := by
    refine ⟨Nat.le_trans hS.1 (by rw [e1]; exact hz), fun q h1 h2 => ?_, fun q hq => ?_⟩
    · rw [e1, hk q (Nat.lt_of_lt_of_le h1 hS.1) (fun z => h2 (hA0 q z))]
      exact hS.2.1 q h1 h2
    · rcases List.mem_append.mp hq with h9 | h9
      · exact hS.2.2 q h9
      · exact hA0 _ (hL q h9)
  have e9 : ((r.map (gV (sg (σ ++ ε)))).toList ++ rest).map (gV ad) = (r.map (gV (fun i => ad (sg (σ ++ ε) i)))).toList ++ rest.map (gV ad) := by
    rw [List.map_append]
    cases r with
    | none => rfl
    | some v => show gV ad (gV (sg (σ ++ ε)) v) :: _ = gV (fun i => ad (sg (σ ++ ε) i)) v :: _; rw [gV_gV]; rfl
  have kk := k ad0 ad D E p l ev s m args below meth c T'.heap (locs ++ L) la hCF hag hLh hPn hDn hSn
  rw [e9] at kk
  obtain ⟨t2, a1, b1⟩ := kk T' rfl X'
  exact ⟨t2, stp t2 a1, b1⟩
/-- a static method -/
theorem AG.callS {X : CXG} {cl sl : Nat} {d n : Nat} {M : MI} {idx pc nxt : Nat} {nest : Bool} {ls : List (Option Value)} {st rest as : List Value} {h hc hc' : List va_E} {r : Option Value} (mk : MOK M n false) (hd : d + 1 ≤ X.R.frames ∧ 40 * (d + 1) ≤ X.R.locals) (hcs : cl ≤ X.R.cells ∧ sl ≤ X.R.slots) (hs : segOK X.1.1.cls X.1.2.1 [(pc, .invokestatic idx, (0, 0, 0), 0)] = true) (lk : LK X.1.1.cls idx M.1 nest) (C : Ctr d M as hc r hc') (σ ε : List Nat) (hσ : va_nd σ = true) (hh : σ.map (fun i => h[i]?) = hc.map (fun e => some (rnE (σ ++ ε) e))) (hlen : hc'.length = hc.length) (hst : st = (as.map (gV (sg (σ ++ ε)))).reverse ++ rest) (hn : as.length = n) (hroom : (rest.map Value.category).sum ≤ 8) (hnx : pc + 3 = nxt)
    (k : AG X cl sl nxt ls ((r.map (gV (sg (σ ++ ε)))).toList ++ rest) (putS h σ (hc'.map (rnE (σ ++ ε))))) : AG X cl sl pc ls st h := by
  intro ad0 ad D E p l ev s m args below meth c H locs la hCF hag hLh hP hD hS
  obtain ⟨hx, hb, hr, hml, hlk, hown, hts, hK, hN, hSc⟩ := id hCF
  subst hst
  subst hnx
  unfold segOK at hs
  rw [List.all_cons, Bool.and_eq_true] at hs
  obtain ⟨hdg, -⟩ := chk_eq hs.1
  unfold LK at lk
  have hstk : (((as.map (gV (sg (σ ++ ε)))).reverse ++ rest).map (gV ad)) = (as.map (gV (fun i => ad (sg (σ ++ ε) i)))).reverse ++ rest.map (gV ad) := by
    rw [List.map_append, List.map_reverse, List.map_map]
    congr 2
    apply List.map_congr_left
    intro v _
    exact gV_gV ad (sg (σ ++ ε)) v
  have hroom2 : ((rest.map (gV ad)).map fun v => v.category).sum ≤ 8 := by
    rw [List.map_map]
    have : (Value.category ∘ gV ad) = Value.category := by funext v; exact gV_cat ad v
    show ((rest.map (Value.category ∘ gV ad)).sum) ≤ 8
    rw [this]; exact hroom
  have hstat : (Jvm.Cond.static M.1).before args s = true := hts _ (by have := mk.2.2.2.2; rwa [if_neg (by decide)] at this)
  have hpre : PreS s H (va_Pc (as.map (gV (fun i => ad (sg (σ ++ ε) i)))) (Cin D E (conc (fun i => ad (sg (σ ++ ε) i)) E hc) H.size)) (as.map (gV (fun i => ad (sg (σ ++ ε) i)))) := ⟨Cin_blind, fun U hU hW => ⟨rfl, Cin_call hSc (fun q hq => Or.inr hq) hS hP hD hK hN hσ hh hU hW⟩⟩
  cases nest with
  | false =>
    rw [if_neg (by decide)] at lk
    have hl : (Jvm.Cond.methodLink X.1.1.cls idx M.1).before args s = true := hts _ lk
    refine callWG (va_runS ⟨hx, hb, hml, hown, hts⟩ (C (fun i => ad (sg (σ ++ ε) i)) D E l H.size) ⟨callBG mk hts hd hl, hstat⟩ hpre rfl (by rw [List.length_map]; exact hn) hLh.1 hstk (lv_room hroom2) hdg hcs) hCF hag hLh hP hD hS hσ hh hlen k
  | true =>
    rw [if_pos rfl] at lk
    have hl : va_Nw (.methodLinkNest X.1.1.cls idx M.1 "LastName") s := hN _ lk
    refine callWG (va_runSN ⟨hx, hb, hml, hown, hts⟩ (C (fun i => ad (sg (σ ++ ε) i)) D E l H.size) ⟨callNG mk hts hd hl, hstat, trivial⟩ hpre rfl (by rw [List.length_map]; exact hn) hLh.1 hstk (lv_room hroom2) hdg hcs) hCF hag hLh hP hD hS hσ hh hlen k
/-- a method of a receiver: at place i0 of the callee's cells, an object of its class -/
theorem AG.callV {X : CXG} {cl sl : Nat} {d n : Nat} {M : MI} {idx pc nxt : Nat} {nest : Bool} {ls : List (Option Value)} {st rest as : List Value} {h hc hc' : List va_E} {r : Option Value} {i0 ci : Nat} {fs : List Value} {cc : vw_C} (mk : MOK M n true) (hd : d + 1 ≤ X.R.frames ∧ 40 * (d + 1) ≤ X.R.locals) (hcs : cl ≤ X.R.cells ∧ sl ≤ X.R.slots) (hs : segOK X.1.1.cls X.1.2.1 [(pc, .invokevirtual idx, (0, 0, 0), 0)] = true) (lk : LK X.1.1.cls idx M.1 nest) (C : Ctr d M (.ref i0 :: as) hc r hc') (hrc : hc[i0]? = some (.inr (ci, fs))) (hcc : vwCl[ci]? = some cc) (hcn : cc.1 = M.1.cls) (σ ε : List Nat) (hσ : va_nd σ = true) (hh : σ.map (fun i => h[i]?) = hc.map (fun e => some (rnE (σ ++ ε) e))) (hlen : hc'.length = hc.length) (hst : st = (as.map (gV (sg (σ ++ ε)))).reverse ++ .ref (sg (σ ++ ε) i0) :: rest) (hn : as.length = n) (hroom : (rest.map Value.category).sum ≤ 8) (hnx : pc + 3 = nxt)
    (k : AG X cl sl nxt ls ((r.map (gV (sg (σ ++ ε)))).toList ++ rest) (putS h σ (hc'.map (rnE (σ ++ ε))))) : AG X cl sl pc ls st h := by
  intro ad0 ad D E p l ev s m args below meth c H locs la hCF hag hLh hP hD hS
  obtain ⟨hx, hb, hr, hml, hlk, hown, hts, hK, hN, hSc⟩ := id hCF
  subst hst
  subst hnx
  unfold segOK at hs
  rw [List.all_cons, Bool.and_eq_true] at hs
  obtain ⟨hdg, -⟩ := chk_eq hs.1
  unfold LK at lk
  have hstk : (((as.map (gV (sg (σ ++ ε)))).reverse ++ .ref (sg (σ ++ ε) i0) :: rest).map (gV ad)) = (as.map (gV (fun i => ad (sg (σ ++ ε) i)))).reverse ++ .ref (ad (sg (σ ++ ε) i0)) :: rest.map (gV ad) := by
    rw [List.map_append, List.map_reverse, List.map_map]
    congr 2
    apply List.map_congr_left
    intro v _
    exact gV_gV ad (sg (σ ++ ε)) v
  have hroom2 : ((rest.map (gV ad)).map fun v => v.category).sum ≤ 8 := by
    rw [List.map_map]
    have : (Value.category ∘ gV ad) = Value.category := by funext v; exact gV_cat ad v
    show ((rest.map (Value.category ∘ gV ad)).sum) ≤ 8
    rw [this]; exact hroom
  have hvv : (.instanceMethod M.1 ∈ ALLW) ∧ (.selects M.1.cls M.1 M.1 ∈ ALLW) := by have := mk.2.2.2.2; rwa [if_pos rfl] at this
  obtain ⟨k0, g1, g2⟩ := sub_conc (ad := ad) (E := E) hh (conc_at (ad := fun i => ad (sg (σ ++ ε) i)) (E := E) hrc)
  rw [gE_obj (vwCl_lt hcc)] at g2
  have hrecv := va_recv hK hP hcc g2
  rw [hcn] at hrecv
  have hpre : PreV s H M.1.cls (ad (sg (σ ++ ε) i0)) (va_Pc ((Value.ref i0 :: as).map (gV (fun i => ad (sg (σ ++ ε) i)))) (Cin D E (conc (fun i => ad (sg (σ ++ ε) i)) E hc) H.size)) (as.map (gV (fun i => ad (sg (σ ++ ε) i)))) := ⟨Cin_blind, hrecv, fun U hU hW => ⟨rfl, Cin_call hSc (fun q hq => Or.inr hq) hS hP hD hK hN hσ hh hU hW⟩⟩
  cases nest with
  | false =>
    rw [if_neg (by decide)] at lk
    have hl : (Jvm.Cond.methodLink X.1.1.cls idx M.1).before args s = true := hts _ lk
    refine callWG (va_runV ⟨hx, hb, hml, hown, hts⟩ (C (fun i => ad (sg (σ ++ ε) i)) D E l H.size) ⟨callBG mk hts hd hl, hts _ hvv.1, hts _ hvv.2⟩ hpre rfl (by rw [List.length_map]; exact hn) hLh.1 hstk (lv_room hroom2) hdg hcs) hCF hag hLh hP hD hS hσ hh hlen k
  | true =>
    rw [if_pos rfl] at lk
    have hl : va_Nw (.methodLinkNest X.1.1.cls idx M.1 "LastName") s := hN _ lk
    refine callWG (va_runVN ⟨hx, hb, hml, hown, hts⟩ (C (fun i => ad (sg (σ ++ ε) i)) D E l H.size) ⟨callNG mk hts hd hl, hts _ hvv.1, hts _ hvv.2⟩ hpre rfl (by rw [List.length_map]; exact hn) hLh.1 hstk (lv_room hroom2) hdg hcs) hCF hag hLh hP hD hS hσ hh hlen k
/-- a constructor -/
theorem AG.cI {X : CXG} {cl sl pc idx nxt x d n mc ms : Nat} {nest : Bool} {M' : MI} {ls : List (Option Value)} {st as : List Value} {h nw : List va_E} {e0 e1 : va_E} (mk : MOKI M' n) (hd : decode X.1.2.1 pc = .ok (.invokespecial idx, 3)) (lk : LK X.1.1.cls idx M'.1 nest) (C : CtN d M' (.ref 0 :: as) [e0] (e1 :: nw) mc ms) (ε : List Nat) (rest : List Value) (h2 : List va_E) (hR : d + 1 ≤ X.R.frames ∧ 8 + (M'.2.2.1 + 11) + 40 * d ≤ X.R.locals) (hcs : cl + mc ≤ X.R.cells ∧ sl + ms ≤ X.R.slots) (hpr : ∀ ad0 E args s meth, X.Pr ad0 E args s meth → va_AO "LastName$Law" s ∧ AOi E s)
    (hx0 : h[x]? = some (rnF (tauI x h.length ε) e0)) (hε : ε.all (fun j => Nat.blt j h.length || Nat.ble 1000 j) = true) (hok : okA h.length ls rest h = true) (hc : (e1 :: nw).all (okE (nw.length + 1)) = true) (hn1 : h.length + nw.length < 1000) (hle : X.h0.length ≤ h.length) (hst : st = (as.map (gV (tauI x h.length ε))).reverse ++ .ref x :: rest) (hn : as.length = n) (hroom : (rest.map Value.category).sum ≤ 8) (hnx : pc + 3 = nxt) (e2 : h.set x (rnF (tauI x h.length ε) e1) ++ nw.map (rnF (tauI x h.length ε)) = h2) (k : AG X (cl + mc) (sl + ms) nxt ls rest h2) : AG X cl sl pc ls st h := by
  intro ad0 ad D E p l ev s m args below meth c H locs la hCF hag hLh hP hD hS
  obtain ⟨hx, hb, hr, hml, hlk, hown, hts, hK, hN, hSc⟩ := id hCF
  subst hst
  subst hnx
  subst e2
  obtain ⟨ha1, ha2⟩ := hpr _ _ _ _ _ hag.2
  have hxl : x < h.length := (List.getElem?_eq_some_iff.mp hx0).1
  have hstk : (((as.map (gV (tauI x h.length ε))).reverse ++ .ref x :: rest).map (gV ad)) = (as.map (gV (fun i => ad (tauI x h.length ε i)))).reverse ++ .ref (ad x) :: rest.map (gV ad) := by
    rw [List.map_append, List.map_reverse, List.map_map]
    congr 2
    apply List.map_congr_left
    intro v _
    exact gV_gV ad (tauI x h.length ε) v
  have hcx := conc_at (ad := ad) (E := E) hx0
  rw [gE_rnF] at hcx
  have hc0 : ∀ (j : Nat) (q : Nat × va_E), (conc (fun i => ad (tauI x h.length ε i)) E [e0])[j]? = some q → j = 0 ∧ (conc ad E h)[x]? = some q := by
    intro j q hq
    cases j with
    | zero =>
      refine ⟨rfl, ?_⟩
      rw [hcx, ← hq]
      rfl
    | succ j => rw [conc_get] at hq; cases hq
  have hpre : PreS s H (va_Pc ((Value.ref 0 :: as).map (gV (fun i => ad (tauI x h.length ε i)))) (CinN D E (conc (fun i => ad (tauI x h.length ε i)) E [e0]) H.size)) (.ref (ad x) :: as.map (gV (fun i => ad (tauI x h.length ε i)))) := by
    refine ⟨CinN_blind, fun U hU hW => ⟨rfl, ⟨by rw [hU], ?_, va_K.moved hW.alike hK, ?_, fun w hw => nest_warm hW (List.mem_filter.mp hw).2 (hN w hw), hSc.call (fun q hq => ?_) hS hU hW⟩, ha1.moved hW.alike, ha2.moved hW.alike⟩⟩
    · rw [hU]
      intro j q hq
      exact hP x q (hc0 j q hq).2
    · exact ⟨fun i j a b hi hj _ => (hc0 i a hi).1.trans (hc0 j b hj).1.symm, fun _ _ _ => trivial⟩
    · rcases hq with ⟨j, e, hq⟩ | hq
      · exact hD.2 x _ (hc0 j _ hq).2
      · exact Or.inr (Nat.le_trans hS.1 hq)
  have hret : M'.2.2.2 = none := mk.2.2.2.2.2
  unfold LK at lk
  cases nest with
  | false =>
    rw [if_neg (by decide)] at lk
    have hcb := callB_of (R := X.R) (rm := rmN d mc ms) (ws' := ALLW) n hts (allw_GoodIn mk.1) rfl rfl rfl (hts _ mk.2.1) (hts _ lk) mk.2.2.1 ⟨hR.1, hR.2⟩
    rw [hret] at hcb
    exact callWN (va_runI ⟨hx, hb, hml, hown, hts⟩ (C (fun i => ad (tauI x h.length ε i)) D E l H.size) ⟨hcb, mk.2.2.2.2.1, hts _ mk.2.2.2.1⟩ hpre rfl (by rw [List.length_map]; exact hn) hLh.1 hstk (lv_room (room_map hroom)) hd hcs) hCF hag hLh hP hD hS hn1 hxl hε hok hc hle k
  | true =>
    rw [if_pos rfl] at lk
    have hl : va_Nw (.methodLinkNest X.1.1.cls idx M'.1 "LastName") s := hN _ lk
    have hcb := va_cnB (R := X.R) (rm := rmN d mc ms) (ws' := ALLW) n hts (allw_GoodIn mk.1) rfl rfl rfl hl (hts _ mk.2.1) mk.2.2.1 ⟨hR.1, hR.2⟩
    rw [hret] at hcb
    exact callWN (va_runIN ⟨hx, hb, hml, hown, hts⟩ (C (fun i => ad (tauI x h.length ε i)) D E l H.size) ⟨hcb, mk.2.2.2.2.1, hts _ mk.2.2.2.1⟩ hpre rfl (by rw [List.length_map]; exact hn) hLh.1 hstk (lv_room (room_map hroom)) hd hcs) hCF hag hLh hP hD hS hn1 hxl hε hok hc hle k
