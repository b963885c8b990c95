/-! ===== rules of AQ ===== -/
section
variable {M : MI} {dd : Nat} {rr : Option Value}
theorem AQ.g {tbl : List (Nat × ENT)} (hs : SK M tbl) (a n : Nat) {pc : Nat} {ls : List (Option Value)} {st : List Value} (C : Prop) (pc' : Nat) (ls' : List (Option Value)) (st' : List Value) (hr : prun M.2.2.1 ((tbl.drop a).take n) (pc, ls, st, []) = some (C, pc', ls', st', [])) (hC : C) (k : AQ (M, dd, rr, [], []) pc' ls' st' []) : AQ (M, dd, rr, [], []) pc ls st [] := AQ.run (X := (M, dd, rr, [], [])) _ (sk_sub hs a n) hr hC k
theorem AQ.cT {i : Instr} {pc : Nat} {ls : List (Option Value)} {st r : List Value} {P : Prop} {off : Int} {b : Bool} (hP : P) (hs : SK M [(pc, i, (0, 0, 0), 0)]) (tgt nxt q : Nat) (hc : cndF i st = some (P, b, off, r)) (ht : (pc : Int) + off = (tgt : Int)) (hn : pc + 3 = nxt) (hq : (bif b then tgt else nxt) = q) (k : AQ (M, dd, rr, [], []) q ls r []) : AQ (M, dd, rr, [], []) pc ls st [] := AQ.cnd (X := (M, dd, rr, [], [])) hs hc ht hn (fun _ => by rw [hq]; exact k) (fun h => absurd hP h)
theorem AQ.cF {i : Instr} {pc : Nat} {ls : List (Option Value)} {st r : List Value} {P : Prop} {off : Int} {b : Bool} (hP : ¬ P) (hs : SK M [(pc, i, (0, 0, 0), 0)]) (tgt nxt q : Nat) (hc : cndF i st = some (P, b, off, r)) (ht : (pc : Int) + off = (tgt : Int)) (hn : pc + 3 = nxt) (hq : (bif b then nxt else tgt) = q) (k : AQ (M, dd, rr, [], []) q ls r []) : AQ (M, dd, rr, [], []) pc ls st [] := AQ.cnd (X := (M, dd, rr, [], [])) hs hc ht hn (fun h => absurd h hP) (fun _ => by rw [hq]; exact k)
theorem AQ.gstC {pc : Nat} {ls : List (Option Value)} {st : List Value} {own : String} (hd : decode M.2.1 pc = .ok (.getstatic 38, 3)) (lk : .fieldLink own 38 "java/lang/String" "COMPACT_STRINGS" "Z" ∈ ALLW) (ho : own = M.1.cls) (k : AQ (M, dd, rr, [], []) (pc + 3) ls (.int 1 :: st) []) : AQ (M, dd, rr, [], []) pc ls st [] := by
  intro ad D E p l ev s m args below meth c H locs la hCF hLh hP hD hS
  obtain ⟨hx, hb, hr, hml, hlk, hown, hts, hK, hN, h1, h2, h3, h4, h5⟩ := id hCF
  subst ho
  exact va_gets hx hb h4 hS hown (hts _ lk) (fun _ q => q) hd (k ad D E p l ev s m args below meth c H locs la hCF hLh hP hD hS)
theorem AQ.gstF {pc : Nat} {ls : List (Option Value)} {st : List Value} {own : String} (hd : decode M.2.1 pc = .ok (.getstatic 1053, 3)) (lk : .fieldLink own 1053 "jdk/internal/util/Preconditions" "SIOOBE_FORMATTER" "Ljava/util/function/BiFunction;" ∈ ALLW) (ho : own = M.1.cls) (k : AQ (M, dd, rr, [], []) (pc + 3) ls (.ref 4 :: st) []) (k2 : AQ (M, dd, rr, [], []) (pc + 3) ls (.null :: st) []) : AQ (M, dd, rr, [], []) pc ls st [] := by
  intro ad D E p l ev s m args below meth c H locs la hCF hLh hP hD hS
  obtain ⟨hx, hb, hr, hml, hlk, hown, hts, hK, hN, h1, h2, h3, h4, h5⟩ := id hCF
  subst ho
  rcases h5 with h5 | h5
  · exact va_gets hx hb h5 hS hown (hts _ lk) (fun _ q => q) hd (k ad D E p l ev s m args below meth c H locs la hCF hLh hP hD hS)
  · exact va_gets hx hb h5 hS hown (hts _ lk) (fun _ q => q) hd (k2 ad D E p l ev s m args below meth c H locs la hCF hLh hP hD hS)
theorem AQ.gfV {pc i : Nat} {ls : List (Option Value)} {st : List Value} {own : String} (hi : i < 2) (hd : decode M.2.1 pc = .ok (.getfield 9, 3)) (lk : .fieldLink own 9 "java/lang/String" "value" "[B" ∈ ALLW) (ho : own = M.1.cls) (k : AQ (M, dd, rr, [], []) (pc + 3) ls (.ref (i + 2) :: st) []) : AQ (M, dd, rr, [], []) pc ls (.ref i :: st) [] := by
  intro ad D E p l ev s m args below meth c H locs la hCF hLh hP hD hS
  obtain ⟨hx, hb, hr, hml, hlk, hown, hts, hK, hN, h1, h2, h3, h4, h5⟩ := id hCF
  subst ho
  exact vk_getf hx hb (h1.1 i hi).2.2.1 hS hown (hts _ lk) (fun _ q => q) hd (k ad D E p l ev s m args below meth c H locs la hCF hLh hP hD hS)
theorem AQ.gfC {pc i : Nat} {ls : List (Option Value)} {st : List Value} {own : String} (hi : i < 2) (hd : decode M.2.1 pc = .ok (.getfield 15, 3)) (lk : .fieldLink own 15 "java/lang/String" "coder" "B" ∈ ALLW) (ho : own = M.1.cls) (k : AQ (M, dd, rr, [], []) (pc + 3) ls (.int 0 :: st) []) : AQ (M, dd, rr, [], []) pc ls (.ref i :: st) [] := by
  intro ad D E p l ev s m args below meth c H locs la hCF hLh hP hD hS
  obtain ⟨hx, hb, hr, hml, hlk, hown, hts, hK, hN, h1, h2, h3, h4, h5⟩ := id hCF
  subst ho
  exact vk_getf hx hb (h1.1 i hi).2.1 hS hown (hts _ lk) (fun _ q => q) hd (k ad D E p l ev s m args below meth c H locs la hCF hLh hP hD hS)
theorem AQ.aln {pc i : Nat} {ls : List (Option Value)} {st : List Value} (hi : i < 2) (hs : SK M [(pc, .arraylength, (0, 0, 0), 0)]) (k : AQ (M, dd, rr, [], []) (pc + 1) ls (.int (Int32.ofNat (scL.getD i 0)) :: st) []) : AQ (M, dd, rr, [], []) pc ls (.ref (i + 2) :: st) [] := by
  intro ad D E p l ev s m args below meth c H locs la hCF hLh hP hD hS
  obtain ⟨hx, hb, hr, hml, hlk, hown, hts, hK, hN, h1, h2, h3, h4, h5⟩ := id hCF
  unfold SK segOK at hs
  rw [List.all_cons, Bool.and_eq_true] at hs
  obtain ⟨hd, -⟩ := chk_eq hs.1
  exact va_tlen hx hb (h1.1 i hi).2.2.2 hS rfl hd (k ad D E p l ev s m args below meth c H locs la hCF hLh hP hD hS)
theorem AQ.bal {pc i : Nat} {j : Int32} {ls : List (Option Value)} {st : List Value} (hi : i < 2) (hj : inb j (scL.getD i 0)) (hs : SK M [(pc, .baload, (0, 0, 0), 0)]) (k : AQ (M, dd, rr, [], []) (pc + 1) ls (.int ((scB.getD i []).getD (ix j) 0) :: st) []) : AQ (M, dd, rr, [], []) pc ls (.int j :: .ref (i + 2) :: st) [] := by
  intro ad D E p l ev s m args below meth c H locs la hCF hLh hP hD hS
  obtain ⟨hx, hb, hr, hml, hlk, hown, hts, hK, hN, h1, h2, h3, h4, h5⟩ := id hCF
  unfold SK segOK at hs
  rw [List.all_cons, Bool.and_eq_true] at hs
  obtain ⟨hd, -⟩ := chk_eq hs.1
  exact va_tb hx hb (h1.1 i hi).2.2.2 hS (inb_vp hj) rfl hd (k ad D E p l ev s m args below meth c H locs la hCF hLh hP hD hS)
theorem AQ.i2b {pc : Nat} {x : Int32} {ls : List (Option Value)} {st : List Value} (hs : SK M [(pc, .i2b, (0, 0, 0), 0)]) (k : AQ (M, dd, rr, [], []) (pc + 1) ls (.int x.toInt8.toInt32 :: st) []) : AQ (M, dd, rr, [], []) pc ls (.int x :: st) [] := by
  intro ad D E p l ev s m args below meth c H locs la hCF hLh hP hD hS
  obtain ⟨hx, hb, hr, hml, hlk, hown, hts, hK, hN, hSc⟩ := id hCF
  unfold SK segOK at hs
  rw [List.all_cons, Bool.and_eq_true] at hs
  obtain ⟨hd, -⟩ := chk_eq hs.1
  exact lv_i2b hx hb hd rfl (k ad D E p l ev s m args below meth c H locs la hCF hLh hP hD hS)
theorem AQ.xi {pc : Nat} {ls : List (Option Value)} {v : Int32} (hs : SK M [(pc, .ireturn, (0, 0, 0), 0)]) (hr0 : M.2.2.2 = some .int) : AQ (M, dd, some (.int v), [], []) pc ls [.int v] [] := AQ.iret hs hr0
theorem AQ.xv {pc : Nat} {ls : List (Option Value)} (hs : SK M [(pc, .return_, (0, 0, 0), 0)]) (hr0 : M.2.2.2 = none) : AQ (M, dd, none, [], []) pc ls [] [] := AQ.vret hs hr0
theorem AQ.xn {pc : Nat} {ls : List (Option Value)} {v : Int32} {ty : FieldType} (hn : narrow ty (.int v) = .int v) (hs : SK M [(pc, .ireturn, (0, 0, 0), 0)]) (hr0 : M.2.2.2 = some ty) : AQ (M, dd, some (.int v), [], []) pc ls [.int v] [] := by
  intro ad D E p l ev s m args below meth c H locs la hCF hLh hP hD hS
  obtain ⟨hx, hb, hr, hml, hlk, hown, hts, hK, hN, hSc⟩ := id hCF
  unfold SK segOK at hs
  rw [List.all_cons, Bool.and_eq_true] at hs
  obtain ⟨hd, -⟩ := chk_eq hs.1
  exact W.zret hx hb (hr.trans hr0) hn (fun t ht hW => ⟨⟨rfl, by rw [ht]; exact hP, va_K.moved hW.alike hK, hD⟩, hS.F ht⟩) hS.2.2 hd hlk
end
/-! ===== calls among them ===== -/
theorem A_nil {a b : Nat} (h : a ≤ b) {q : Nat} (hq : va_A [] b q) : va_A [] a q := by
  rcases hq with ⟨j, e, hq⟩ | hq
  · simp at hq
  · exact Or.inr (Nat.le_trans h hq)
theorem callQ {M : MI} {dd : Nat} {rr : Option Value} {p : Program} {l : Launch} {ev : Env} {s : State} {m : MethodId} {args : Array Value} {below : List Frame} {meth : Method} {c : Code} {H : Heap} {locs : List Loc} {la : Array Slot} {ad : Nat → Nat} {D : va_G} {E : Nat → ClassId}
    {pc : Nat} {ls : List (Option Value)} {st0 rest : List Value} {r : Option Value} {av : Array Value}
    (hrun : va_Run p l ev (rmD dd) s m args below meth c H locs 0 0 0 0 (F0 m pc la st0) (rest.map (gV ad)) (Cout D E [] [] H.size (r.map (gV ad)) av) (va_A [] H.size))
    (hCF : CFQ M ad D E (va_A [] s.heap.size) p s m args meth c) (hLh : Lh ad la M.2.2.1 ls) (hS : va_S (va_A [] s.heap.size) s.heap H locs)
    (k : AQ (M, dd, rr, [], []) (pc + 3) ls (r.toList ++ rest) []) :
    W p l ev (rmD dd) s m args below meth c H locs 0 0 (MQ below (Cout D E [] [] s.heap.size (rr.map (gV ad))) args s 0 0 (va_A [] s.heap.size)) (F0 m pc la st0) := by
  intro T hT Xs
  obtain ⟨v, st₀, t, T', L, h0, X', hL, e1, e2, ⟨⟨hv, hP1, hK1, hD1⟩, hz, hk⟩, stp⟩ := hrun T hT Xs
  rw [h0] at hz hk
  cases hv
  have hSn : va_S (va_A [] s.heap.size) s.heap T'.heap (locs ++ L) := by
    refine ⟨Nat.le_trans hS.1 (by rw [e1]; exact hz), fun q h1 h2 => ?_, fun q hq => ?_⟩
    · rw [e1, hk q (Nat.lt_of_lt_of_le h1 hS.1) (fun z => h2 (A_nil hS.1 z))]
      exact hS.2.1 q h1 h2
    · rcases List.mem_append.mp hq with h9 | h9
      · exact hS.2.2 q h9
      · exact A_nil hS.1 (hL q h9)
  have e9 : (r.toList ++ rest).map (gV ad) = (r.map (gV ad)).toList ++ rest.map (gV ad) := by
    rw [List.map_append]
    cases r <;> rfl
  have kk := k ad D E p l ev s m args below meth c T'.heap (locs ++ L) la hCF hLh va_P_nil va_D_nil hSn
  rw [e9] at kk
  obtain ⟨t2, a1, b1⟩ := kk T' rfl X'
  exact ⟨t2, stp t2 a1, b1⟩
theorem CQin_blind {ad : Nat → Nat} {D : va_G} {E : Nat → ClassId} {sz : Nat} {av : List Value} : FrameBlind (va_Pc av (CQin ad D E sz)) := by
  intro a U g mk q
  obtain ⟨q0, q1, qK, qN, qS⟩ := q
  exact ⟨q0, q1, va_K.moved (u := U) (U := U.calling g mk a) (Vm.Alike.refl U.vm) qK, fun w hw => va_Nw.same (u := U) (U := U.calling g mk a) (nest_tab (List.mem_filter.mp hw).2) rfl (qN w hw), qS.calling⟩
theorem CQin_call {ad : Nat → Nat} {D : va_G} {E : Nat → ClassId} {A : Nat → Prop} {H : Heap} {s U : State} {locs : List Loc} (hSc : SX ad A s) (hA : ∀ q, s.heap.size ≤ q → A q) (hS : va_S A s.heap H locs) (hK : va_K D vwCl (tysOf E) s) (hN : ∀ w ∈ NESTW, va_Nw w s) (hU : U.heap = H) (hW : s.WarmedH U.vm) : CQin ad D E H.size U := by
  refine ⟨by rw [hU], va_K.moved hW.alike hK, fun w hw => nest_warm hW (List.mem_filter.mp hw).2 (hN w hw), hSc.call (fun q hq => ?_) hS hU hW⟩
  rcases hq with ⟨j, e, hq⟩ | hq
  · simp at hq
  · exact hA q (Nat.le_trans hS.1 hq)
theorem room_map {ad : Nat → Nat} {rest : List Value} (h : (rest.map Value.category).sum ≤ 8) : ((rest.map (gV ad)).map fun v => v.category).sum ≤ 8 := by
  rw [List.map_map]
  have : (Value.category ∘ gV ad) = Value.category := by funext v; exact gV_cat ad v
  show ((rest.map (Value.category ∘ gV ad)).sum) ≤ 8
  rw [this]; exact h
theorem AQ.cS {M M' : MI} {dd d n : Nat} {rr r : Option Value} {own : String} {idx pc : Nat} {ls : List (Option Value)} {st as : List Value} (mk : MOK M' n false) (hs : SK M [(pc, .invokestatic idx, (0, 0, 0), 0)]) (lk : LK own idx M'.1 false) (C : CtQ d M' as r) (rest : List Value) (nxt : Nat) (st2 : List Value) (ho : own = M.1.cls) (hdd : dd = d + 1) (hst : st = as.reverse ++ rest) (hn : as.length = n) (hroom : (rest.map Value.category).sum ≤ 8) (hnx : pc + 3 = nxt) (hs2 : r.toList ++ rest = st2)
    (k : AQ (M, dd, rr, [], []) nxt ls st2 []) : AQ (M, dd, rr, [], []) pc ls st [] := by
  intro ad D E p l ev s m args below meth c H locs la hCF hLh hP hD hS
  obtain ⟨hx, hb, hr, hml, hlk, hown, hts, hK, hN, hSc⟩ := id hCF
  subst hst
  subst hnx
  subst ho
  subst hs2
  unfold SK segOK at hs
  rw [List.all_cons, Bool.and_eq_true] at hs
  obtain ⟨hdg, -⟩ := chk_eq hs.1
  unfold LK at lk
  rw [if_neg (by decide)] at lk
  have hstk : ((as.reverse ++ rest).map (gV ad)) = (as.map (gV ad)).reverse ++ rest.map (gV ad) := by
    rw [List.map_append, List.map_reverse]
  have hstat : (Jvm.Cond.static M'.1).before args s = true := hts _ (by have := mk.2.2.2.2; rwa [if_neg (by decide)] at this)
  have hpre : PreS s H (va_Pc (as.map (gV ad)) (CQin ad D E H.size)) (as.map (gV ad)) := ⟨CQin_blind, fun U hU hW => ⟨rfl, CQin_call hSc (fun q hq => Or.inr hq) hS hK hN hU hW⟩⟩
  have hl : (Jvm.Cond.methodLink M.1.cls idx M'.1).before args s = true := hts _ lk
  exact callQ (va_runS ⟨hx, hb, hml, hown, hts⟩ (C ad D E l H.size) ⟨callB (X := (M, dd, rr, [], [])) mk hts hdd hl, hstat⟩ hpre rfl (by rw [List.length_map]; exact hn) hLh.1 hstk (lv_room (room_map hroom)) hdg ⟨Nat.le_refl _, Nat.le_refl _⟩) hCF hLh hS k
theorem AQ.cV {M M' : MI} {dd d n i : Nat} {rr r : Option Value} {own : String} {idx pc : Nat} {ls : List (Option Value)} {st as : List Value} (hi : i < 2) (mk : MOK M' n true) (hs : SK M [(pc, .invokevirtual idx, (0, 0, 0), 0)]) (lk : LK own idx M'.1 false) (C : CtQ d M' (.ref i :: as) r) (rest : List Value) (nxt : Nat) (st2 : List Value) (ho : own = M.1.cls) (hcl : M'.1.cls = "java/lang/String") (hdd : dd = d + 1) (hst : st = as.reverse ++ .ref i :: rest) (hn : as.length = n) (hroom : (rest.map Value.category).sum ≤ 8) (hnx : pc + 3 = nxt) (hs2 : r.toList ++ rest = st2)
    (k : AQ (M, dd, rr, [], []) nxt ls st2 []) : AQ (M, dd, rr, [], []) pc ls st [] := by
  intro ad D E p l ev s m args below meth c H locs la hCF hLh hP hD hS
  obtain ⟨hx, hb, hr, hml, hlk, hown, hts, hK, hN, hSc⟩ := id hCF
  subst hst
  subst hnx
  subst ho
  subst hs2
  unfold SK segOK at hs
  rw [List.all_cons, Bool.and_eq_true] at hs
  obtain ⟨hdg, -⟩ := chk_eq hs.1
  unfold LK at lk
  rw [if_neg (by decide)] at lk
  have hstk : ((as.reverse ++ .ref i :: rest).map (gV ad)) = (as.map (gV ad)).reverse ++ .ref (ad i) :: rest.map (gV ad) := by
    rw [List.map_append, List.map_reverse]; rfl
  have hvv : (.instanceMethod M'.1 ∈ ALLW) ∧ (.selects M'.1.cls M'.1 M'.1 ∈ ALLW) := by have := mk.2.2.2.2; rwa [if_pos rfl] at this
  have hrecv := vk_recv hSc.1 hi hS
  rw [← hcl] at hrecv
  have hpre : PreV s H M'.1.cls (ad i) (va_Pc ((Value.ref i :: as).map (gV ad)) (CQin ad D E H.size)) (as.map (gV ad)) := ⟨CQin_blind, hrecv, fun U hU hW => ⟨rfl, CQin_call hSc (fun q hq => Or.inr hq) hS hK hN hU hW⟩⟩
  have hl : (Jvm.Cond.methodLink M.1.cls idx M'.1).before args s = true := hts _ lk
  exact callQ (va_runV ⟨hx, hb, hml, hown, hts⟩ (C ad D E l H.size) ⟨callB (X := (M, dd, rr, [], [])) mk hts hdd hl, hts _ hvv.1, hts _ hvv.2⟩ hpre rfl (by rw [List.length_map]; exact hn) hLh.1 hstk (lv_room (room_map hroom)) hdg ⟨Nat.le_refl _, Nat.le_refl _⟩) hCF hLh hS k
