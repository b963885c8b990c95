/-! ===== arrays of references; wrappers ===== -/
theorem AG.anw {X : CXG} {cl sl pc idx nxt : Nat} {ls : List (Option Value)} {st : List Value} {h : List va_E} {n : Int32} (N : Nat) (hd : decode X.1.2.1 pc = .ok (.anewarray idx, 3)) (w1 : .classLink X.1.1.cls idx "LastName$Law" ∈ ALLW) (hpr : ∀ ad0 E args s meth, X.Pr ad0 E args s meth → va_AO "LastName$Law" s) (hn0 : ¬ n < 0) (hN : n.toNatClampNeg = N) (hby : N * 4 ≤ 536870912) (hcl : cl + 1 ≤ X.R.cells) (hsl : sl + N ≤ X.R.slots) (hn : pc + 3 = nxt) (hf : frsh X.h0.length ls st h (.inr (103, List.replicate N .null))) (k : AG X (cl + 1) (sl + N) nxt ls (.ref h.length :: st) (h ++ [.inr (103, List.replicate N .null)])) : AG X cl sl pc ls (.int n :: st) h := by
  intro ad0 ad D E p l ev s m args below meth c H locs la hCF hag hLh hP hD hS
  obtain ⟨hx, hb, hr, hml, hlk, hown, hts, hK, hN2, hSc⟩ := id hCF
  subst hn
  refine va_newq hx hb hown (hts _ w1) (hpr _ _ _ _ _ hag.2) hK hP hD hS (fun q hq => Or.inr hq) hn0 hN hby hcl hsl hd (fun q cA H1 hK1 hP1 hD1 hS1 => ?_)
  obtain ⟨_, _, _, _, _, g1⟩ := (hK1.2 5 (cA, .object "LastName$Law") rfl).2
  obtain ⟨_, _, _, _, _, g2⟩ := (hK.2 3 (E 3, .object "LastName$Law") rfl).2
  have e1 : cA = E 3 := Option.some.inj (g1.symm.trans g2)
  subst e1
  have e3 : gE ad E (.inr (103, List.replicate N .null)) = .inl (E 3, N, .inr (.inr (.inr (.inr (fun _ => none))))) := by
    show (Sum.inl (E 3, (List.replicate N Value.null).length, Sum.inr (Sum.inr (Sum.inr (Sum.inr (fun i : Nat => rfO ad (List.replicate N Value.null)[i]?))))) : va_E) = _
    rw [List.length_replicate]
    have : (fun i : Nat => rfO ad (List.replicate N Value.null)[i]?) = fun _ => none := by
      funext i
      rw [List.getElem?_replicate]
      split <;> rfl
    rw [this]
  exact AG.pushed hf k hCF hag hLh (by rw [e3]; exact hP1) (by rw [e3]; exact hD1) hS1
theorem AG.aas {X : CXG} {cl sl pc nxt q y ci : Nat} {ls : List (Option Value)} {st : List Value} {h : List va_E} {fs vs : List Value} {r : vw_C} {j : Int32} (h2 : List va_E) (hs : SK X.1 [(pc, .aastore, (0, 0, 0), 0)]) (hq : h[q]? = some (.inr (103, fs))) (hy : h[y]? = some (.inr (ci, vs))) (hc : vwCl[ci]? = some r) (hr1 : r.1 = "LastName$Law") (hj : inb j fs.length) (e2 : h.set q (.inr (103, fs.set (ix j) (.ref y))) = h2) (hn : pc + 1 = nxt) (k : AG X cl sl nxt ls st h2) : AG X cl sl pc ls (.ref y :: .int j :: .ref q :: st) h := by
  intro ad0 ad D E p l ev s m args below meth c H locs la hCF hag hLh hP hD hS
  obtain ⟨hx, hb, hr, hml, hlk, hown, hts, hK, hN2, hSc⟩ := id hCF
  subst hn; subst e2
  unfold SK segOK at hs
  rw [List.all_cons, Bool.and_eq_true] at hs
  obtain ⟨hd, -⟩ := chk_eq hs.1
  have e6 := conc_at (ad := ad) (E := E) hy
  rw [gE_obj (vwCl_lt hc)] at e6
  have e5 : (conc ad E h)[q]? = some (ad q, .inl (E 3, fs.length, .inr (.inr (.inr (.inr (fun i => rfO ad fs[i]?)))))) := conc_at (ad := ad) (E := E) hq
  refine va_astq hx hb hK hP hD hS q 3 y ci e5 (by rw [hr1]; rfl) e6 hc (inb_vp hj) hd (fun H1 locs1 hP1 hD1 hS1 => ?_)
  have e9 : (conc ad E h).set q (ad q, .inl (E 3, fs.length, .inr (.inr (.inr (.inr (va_up (fun i => rfO ad fs[i]?) j.toNatClampNeg (some (ad y)))))))) = conc ad E (h.set q (.inr (103, fs.set (ix j) (.ref y)))) := by
    rw [← conc_set]
    congr 2
    show _ = (Sum.inl (E 3, (fs.set (ix j) (.ref y)).length, Sum.inr (Sum.inr (Sum.inr (Sum.inr (fun i : Nat => rfO ad (fs.set (ix j) (.ref y))[i]?))))) : va_E)
    rw [List.length_set]
    have : va_up (fun i => rfO ad fs[i]?) j.toNatClampNeg (some (ad y)) = fun i : Nat => rfO ad (fs.set (ix j) (.ref y))[i]? := by
      funext i
      unfold va_up
      rw [List.getElem?_set]
      by_cases hi : i = ix j
      · subst hi
        rw [if_pos rfl, if_pos rfl, if_pos hj.2]
        rfl
      · rw [if_neg hi, if_neg (fun e => hi e.symm)]
    rw [this]
  rw [e9] at hP1 hD1
  exact k ad0 ad D E p l ev s m args below meth c H1 locs1 la hCF hag hLh hP1 hD1 hS1
section
variable {M : MI} {d mc ms cl sl : Nat} {h0 hF : List va_E}
theorem AN.mul {pc idx nxt : Nat} {own : String} {ls : List (Option Value)} {st : List Value} {h : List va_E} {n k : Int32} (N K cl' sl' : Nat) (st' : List Value) (h' : List va_E) (hd : decode M.2.1 pc = .ok (.multianewarray idx 2, 4)) (w1 : .classLink own idx "[[I" ∈ ALLW) (ho : own = M.1.cls) (hn0 : ¬ n < 0) (hk0 : ¬ k < 0) (hN : n.toNatClampNeg = N) (hK : k.toNatClampNeg = K) (hb1 : N * 4 ≤ 536870912) (hb2 : K * 4 ≤ 536870912) (hcl : cl + (1 + N) = cl') (hsl : sl + (N + N * K) = sl') (hcl2 : cl' ≤ mc) (hsl2 : sl' ≤ ms) (hn : pc + 4 = nxt) (hlt : h.length + (N + 1) < 1000) (hle : h0.length ≤ h.length) (hok : okA h.length ls st h = true) (e1 : .ref h.length :: st = st') (e2 : h ++ muN h.length N K = h') (kk : AG (XN M d h0 hF mc ms) cl' sl' nxt ls st' h') : AG (XN M d h0 hF mc ms) cl sl pc ls (.int k :: .int n :: st) h := by
  subst ho; subst e1
  exact AG.mul (X := XN M d h0 hF mc ms) N K cl' sl' h' hd w1 (fun _ _ _ _ _ h => h.2.2) hn0 hk0 hN hK hb1 hb2 hcl hsl hcl2 hsl2 hn hlt hle hok e2 kk
theorem AN.anw {pc idx nxt : Nat} {own : String} {ls : List (Option Value)} {st : List Value} {h : List va_E} {n : Int32} (N cl' sl' : Nat) (st' : List Value) (h' : List va_E) (hd : decode M.2.1 pc = .ok (.anewarray idx, 3)) (w1 : .classLink own idx "LastName$Law" ∈ ALLW) (ho : own = M.1.cls) (hn0 : ¬ n < 0) (hN : n.toNatClampNeg = N) (hby : N * 4 ≤ 536870912) (hcl : cl + 1 = cl') (hsl : sl + N = sl') (hcl2 : cl' ≤ mc) (hsl2 : sl' ≤ ms) (hn : pc + 3 = nxt) (hf : frsh h0.length ls st h (.inr (103, List.replicate N .null))) (e1 : .ref h.length :: st = st') (e2 : h ++ [.inr (103, List.replicate N .null)] = h') (k : AG (XN M d h0 hF mc ms) cl' sl' nxt ls st' h') : AG (XN M d h0 hF mc ms) cl sl pc ls (.int n :: st) h := by
  subst ho; subst e1; subst e2; subst hcl; subst hsl
  exact AG.anw (X := XN M d h0 hF mc ms) N hd w1 (fun _ _ _ _ _ h => h.2.1) hn0 hN hby hcl2 hsl2 hn hf k
theorem AN.aas {pc nxt q y ci : Nat} {ls : List (Option Value)} {st : List Value} {h : List va_E} {fs vs : List Value} {r : vw_C} {j : Int32} (h2 : List va_E) (hs : SK M [(pc, .aastore, (0, 0, 0), 0)]) (hq : h[q]? = some (.inr (103, fs))) (hy : h[y]? = some (.inr (ci, vs))) (hc : vwCl[ci]? = some r) (hr1 : r.1 = "LastName$Law") (hj : inb j fs.length) (e2 : h.set q (.inr (103, fs.set (ix j) (.ref y))) = h2) (hn : pc + 1 = nxt) (k : AG (XN M d h0 hF mc ms) cl sl nxt ls st h2) : AG (XN M d h0 hF mc ms) cl sl pc ls (.ref y :: .int j :: .ref q :: st) h := AG.aas (X := XN M d h0 hF mc ms) h2 hs hq hy hc hr1 hj e2 hn k
theorem AN.cV {d' n idx pc nxt i0 ci : Nat} {own : String} {nest : Bool} {M' : MI} {ls : List (Option Value)} {st as : List Value} {h hc hc' : List va_E} {r : Option Value} {fs : List Value} {cc : vw_C} (mk : MOK M' n true) (hs : SK M [(pc, .invokevirtual idx, (0, 0, 0), 0)]) (lk : LK own idx M'.1 nest) (C : Ctr d' M' (.ref i0 :: as) hc r hc') (hrc : hc[i0]? = some (.inr (ci, fs))) (hcc : vwCl[ci]? = some cc) (hcn : cc.1 = M'.1.cls) (σ ε : List Nat) (rest : List Value) (st2 : List Value) (h2 : List va_E) (ho : own = M.1.cls) (hdd : d = d' + 1) (hcl2 : cl ≤ mc) (hsl2 : sl ≤ ms) (hσ : va_nd σ = true) (hh : σ.map (fun i => h[i]?) = hc.map (fun e => some (rnE (σ ++ ε) e))) (hlen : hc'.length = hc.length) (hst : st = (as.map (gV (sg (σ ++ ε)))).reverse ++ .ref (sg (σ ++ ε) i0) :: rest) (hn : as.length = n) (hroom : (rest.map Value.category).sum ≤ 8) (hnx : pc + 3 = nxt) (e1 : (r.map (gV (sg (σ ++ ε)))).toList ++ rest = st2) (e2 : putS h σ (hc'.map (rnE (σ ++ ε))) = h2) (k : AG (XN M d h0 hF mc ms) cl sl nxt ls st2 h2) : AG (XN M d h0 hF mc ms) cl sl pc ls st h := by
  subst ho; subst hdd; subst e1; subst e2
  exact AG.callV (X := XN M (d' + 1) h0 hF mc ms) mk ⟨Nat.le_refl _, Nat.le_refl _⟩ ⟨hcl2, hsl2⟩ hs lk C hrc hcc hcn σ ε hσ hh hlen hst hn hroom hnx k
end
