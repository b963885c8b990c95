/-! ===== the rules for String constants in the code of ours ===== -/
theorem sCallW {M M' : MI} {dd d n i : Nat} {rr : Option Value} {h0 hF h : List va_E} {v : Int32} {idx pc : Nat} {ls : List (Option Value)} {st as : List Value} {p : Program} {l : Launch} {ev : Env} {s : State} {m : MethodId} {args : Array Value} {below : List Frame} {meth : Method} {c : Code} {H : Heap} {locs : List Loc} {la : Array Slot} {ad bd : Nat → Nat} {D : va_G} {E : Nat → ClassId}
    (hi : i < 2) (mk : MOK M' n true) (hcl : M'.1.cls = "java/lang/String") (hdd : dd = d + 1) (lk : LK M.1.cls idx M'.1 false) (hs : SK M [(pc, .invokevirtual idx, (0, 0, 0), 0)]) (C : CtQ d M' (.ref i :: as) (some (.int v))) (has : as.map (gV bd) = as) (hn : as.length = n) (hroom : (st.map Value.category).sum ≤ 8)
    (hSX : SX bd (va_A (conc ad E h0) s.heap.size) s)
    (hCF : CF M D E (va_A (conc ad E h0) s.heap.size) p s m args meth c) (hLh : Lh ad la M.2.2.1 ls) (hP : va_P D vwCl (conc ad E h) H) (hD : va_D (va_A (conc ad E h0) s.heap.size) (conc ad E h)) (hS : va_S (va_A (conc ad E h0) s.heap.size) s.heap H locs)
    (k : AJ (M, dd, rr, h0, hF) (pc + 3) ls (.int v :: st) h) :
    W p l ev (rmD dd) s m args below meth c H locs 0 0 (MQ below (Cout D E (conc ad E h0) (conc ad E hF) s.heap.size (rr.map (gV ad))) args s 0 0 (va_A (conc ad E h0) s.heap.size)) (F0 m pc la (as.reverse ++ .ref (bd i) :: st.map (gV ad))) := by
  obtain ⟨hx, hb, hr, hml, hlk, hown, hts, hK, hN, hSc⟩ := id hCF
  unfold SK segOK at hs
  rw [List.all_cons, Bool.and_eq_true] at hs
  obtain ⟨hdg, -⟩ := chk_eq hs.1
  unfold LK at lk
  rw [if_neg (by decide)] at lk
  have hvv : (.instanceMethod M'.1 ∈ ALLW) ∧ (.selects M'.1.cls M'.1 M'.1 ∈ ALLW) := by have := mk.2.2.2.2; rwa [if_pos rfl] at this
  have hrecv := vk_recv hSX.1 hi hS
  rw [← hcl] at hrecv
  have hpre : PreV s H M'.1.cls (bd i) (va_Pc ((Value.ref i :: as).map (gV bd)) (CQin bd D E H.size)) (as.map (gV bd)) := ⟨CQin_blind, hrecv, fun U hU hW => ⟨rfl, CQin_call hSX (fun q hq => Or.inr hq) hS hK hN hU hW⟩⟩
  have hl : (Jvm.Cond.methodLink M.1.cls idx M'.1).before args s = true := hts _ lk
  exact callW (X := (M, dd, rr, h0, hF)) (σ := []) (ε := []) (hc := []) (hc' := []) (r := some (.int v)) (va_runV ⟨hx, hb, hml, hown, hts⟩ (C bd D E l H.size) ⟨callB (X := (M, dd, rr, h0, hF)) mk hts hdd hl, hts _ hvv.1, hts _ hvv.2⟩ hpre rfl (by rw [List.length_map]; exact hn) hLh.1 (by show as.reverse ++ .ref (bd i) :: st.map (gV ad) = _; rw [has]) (lv_room (room_map hroom)) hdg ⟨Nat.le_refl _, Nat.le_refl _⟩) hCF hLh hP hD hS rfl rfl rfl k
theorem sRef {i idx : Nat} {bd : Nat → Nat} {A : Nat → Prop} {s : State} (hk : (i = 0 ∧ idx = 115) ∨ (i = 1 ∧ idx = 108)) (h : SX bd A s) : i < 2 ∧ ∃ tx, vk_R "LastName$Reader" idx tx (bd i) s := by
  rcases hk with ⟨rfl, rfl⟩ | ⟨rfl, rfl⟩
  · exact ⟨by decide, _, h.2.1⟩
  · exact ⟨by decide, _, h.2.2.1⟩
section
variable {M : MI} {dd : Nat} {rr : Option Value} {h0 hF : List va_E}
theorem AJ.sLen {i pc idx nxt d : Nat} {ls : List (Option Value)} {st : List Value} {h : List va_E} {v : Int32} (hk : (i = 0 ∧ idx = 115) ∨ (i = 1 ∧ idx = 108)) (hM : M.1.cls = "LastName$Reader") (hdd : dd = d + 2) (hd : decode M.2.1 pc = .ok (.ldc idx, 2)) (hs : SK M [(pc + 2, .invokevirtual 117, (0, 0, 0), 0)]) (hv : Int32.ofNat (scL.getD i 0) = v) (hroom : (st.map Value.category).sum ≤ 8) (hn : pc + 5 = nxt) (k : AJ (M, dd, rr, h0, hF) nxt ls (.int v :: st) h) : AJ (M, dd, rr, h0, hF) pc ls st h := by
  intro ad D E p l ev s m args below meth c H locs la hCF hLh hP hD hS
  obtain ⟨hx, hb, hr, hml, hlk, hown, hts, hK, hN, hSc⟩ := id hCF
  obtain ⟨bd, hSX⟩ := hSc.SX
  obtain ⟨hi, tx, hR⟩ := sRef hk hSX
  subst hn
  subst hv
  refine va_ldcS hx hb (hM ▸ hown) hR hd ?_
  exact sCallW (as := []) hi mk_s_len rfl hdd (by rw [hM]; exact lk_s_R_117) hs (c_s_len hi) rfl rfl hroom hSX hCF hLh hP hD hS k
theorem AJ.sChr {i pc idx nxt a d : Nat} {j : Int32} {ls : List (Option Value)} {st : List Value} {h : List va_E} (hk : (i = 0 ∧ idx = 115) ∨ (i = 1 ∧ idx = 108)) (hM : M.1.cls = "LastName$Reader") (hdd : dd = d + 4) (hj : inb j (scL.getD i 0)) (hd : decode M.2.1 pc = .ok (.ldc idx, 2)) (hs1 : SK M [(pc + 2, .iload a, (0, 0, 0), 0)]) (hs : SK M [(pc + 4, .invokevirtual 119, (0, 0, 0), 0)]) (hl : ls[a]? = some (some (.int j))) (hroom : (st.map Value.category).sum ≤ 8) (hn : pc + 7 = nxt) (k : AJ (M, dd, rr, h0, hF) nxt ls (.int ((scB.getD i []).getD (ix j) 0) :: st) h) : AJ (M, dd, rr, h0, hF) pc ls st h := by
  intro ad D E p l ev s m args below meth c H locs la hCF hLh hP hD hS
  obtain ⟨hx, hb, hr, hml, hlk, hown, hts, hK, hN, hSc⟩ := id hCF
  obtain ⟨bd, hSX⟩ := hSc.SX
  obtain ⟨hi, tx, hR⟩ := sRef hk hSX
  subst hn
  refine va_ldcS hx hb (hM ▸ hown) hR hd ?_
  unfold SK segOK at hs1
  rw [List.all_cons, Bool.and_eq_true] at hs1
  obtain ⟨hd1, -⟩ := chk_eq hs1.1
  refine lv_iload hx hb hd1 (hLh.2.2 _ _ hl) ?_
  exact sCallW (as := [.int j]) hi mk_s_cha rfl hdd (by rw [hM]; exact lk_s_R_119) hs (c_s_cha hi hj) rfl rfl hroom hSX hCF hLh hP hD hS k
theorem AJ.sIdx {i pc idx nxt d : Nat} {a : Fin 4} {j : Int32} {ls : List (Option Value)} {st : List Value} {h : List va_E} (hk : (i = 0 ∧ idx = 115) ∨ (i = 1 ∧ idx = 108)) (hM : M.1.cls = "LastName$Reader") (hdd : dd = d + 4) (hd : decode M.2.1 pc = .ok (.ldc idx, 2)) (hs1 : SK M [(pc + 2, .iload_n a, (0, 0, 0), 0)]) (hs2 : SK M [(pc + 3, .i2c, (0, 0, 0), 0)]) (hs : SK M [(pc + 4, .invokevirtual 110, (0, 0, 0), 0)]) (hl : ls[a.val]? = some (some (.int j))) (hroom : (st.map Value.category).sum ≤ 8) (hn : pc + 7 = nxt) (k : AJ (M, dd, rr, h0, hF) nxt ls (.int (ixF ((j.toUInt32 % 65536).toInt32) (scB.getD i []) 0) :: st) h) : AJ (M, dd, rr, h0, hF) pc ls st h := by
  intro ad D E p l ev s m args below meth c H locs la hCF hLh hP hD hS
  obtain ⟨hx, hb, hr, hml, hlk, hown, hts, hK, hN, hSc⟩ := id hCF
  obtain ⟨bd, hSX⟩ := hSc.SX
  obtain ⟨hi, tx, hR⟩ := sRef hk hSX
  subst hn
  refine va_ldcS hx hb (hM ▸ hown) hR hd ?_
  unfold SK segOK at hs1 hs2
  rw [List.all_cons, Bool.and_eq_true] at hs1 hs2
  obtain ⟨hd1, -⟩ := chk_eq hs1.1
  obtain ⟨hd2, -⟩ := chk_eq hs2.1
  refine lv_iload_n hx hb hd1 rfl (hLh.2.2 _ _ hl) ?_
  refine lv_i2c hx hb hd2 rfl ?_
  exact sCallW (as := [.int ((j.toUInt32 % 65536).toInt32)]) hi mk_s_ix1 rfl hdd (by rw [hM]; exact lk_s_R_110) hs (c_s_ix1 hi) rfl rfl hroom hSX hCF hLh hP hD hS k
end
