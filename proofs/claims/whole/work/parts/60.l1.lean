/-! ===== the law's rules, the context's parts apart ===== -/
section
variable {b L cl sl : Nat} {xs : Nat → Int32}
theorem AL.g {tbl : List (Nat × ENT)} (hs : SK M_l tbl) (a n : Nat) {pc : Nat} {ls : List (Option Value)} {st : List Value} {h : List va_E} (C : Prop) (pc' : Nat) (ls' : List (Option Value)) (st' : List Value) (h' : List va_E) (hr : prun M_l.2.2.1 ((tbl.drop a).take n) (pc, ls, st, h) = some (C, pc', ls', st', h')) (hC : C) (k : AG (XL b L xs) cl sl pc' ls' st' h') : AG (XL b L xs) cl sl pc ls st h := AG.g (X := XL b L xs) hs a n C pc' ls' st' h' hr hC k
theorem AL.cT {i : Instr} {pc : Nat} {ls : List (Option Value)} {st r : List Value} {h : List va_E} {P : Prop} {off : Int} {c : Bool} (hP : P) (hs : SK M_l [(pc, i, (0, 0, 0), 0)]) (tgt nxt q : Nat) (hc : cndF i st = some (P, c, off, r)) (ht : (pc : Int) + off = (tgt : Int)) (hn : pc + 3 = nxt) (hq : (bif c then tgt else nxt) = q) (k : AG (XL b L xs) cl sl q ls r h) : AG (XL b L xs) cl sl pc ls st h := AG.cnd (X := XL b L xs) hs hc ht hn (fun _ => by rw [hq]; exact k) (fun h => absurd hP h)
theorem AL.cF {i : Instr} {pc : Nat} {ls : List (Option Value)} {st r : List Value} {h : List va_E} {P : Prop} {off : Int} {c : Bool} (hP : ¬ P) (hs : SK M_l [(pc, i, (0, 0, 0), 0)]) (tgt nxt q : Nat) (hc : cndF i st = some (P, c, off, r)) (ht : (pc : Int) + off = (tgt : Int)) (hn : pc + 3 = nxt) (hq : (bif c then nxt else tgt) = q) (k : AG (XL b L xs) cl sl q ls r h) : AG (XL b L xs) cl sl pc ls st h := AG.cnd (X := XL b L xs) hs hc ht hn (fun h => absurd h hP) (fun _ => by rw [hq]; exact k)
theorem SK.dec {M : MI} {pc : Nat} {i : Instr} {aux : Nat × Nat × Nat} {v : Int} (hs : SK M [(pc, i, aux, v)]) : decode M.2.1 pc = .ok (i, iln i) := by
  unfold SK segOK at hs
  rw [List.all_cons, Bool.and_eq_true] at hs
  obtain ⟨hd, -⟩ := chk_eq hs.1
  exact hd
/-- an int of the script -/
theorem AL.ld {pc nxt : Nat} {j : Int32} {ls : List (Option Value)} {st : List Value} {h : List va_E} (hs : SK M_l [(pc, .iaload, (0, 0, 0), 0)]) (hj : inb j L) (hn : pc + 1 = nxt) (k : AG (XL b L xs) cl sl nxt ls (.int (xs (ix j)) :: st) h) : AG (XL b L xs) cl sl pc ls (.int j :: .ref 1000 :: st) h := AL.sld (SK.dec hs) hj rfl hn k
theorem AL.eV {d n : Nat} {M' : MI} {idx pc : Nat} {nest : Bool} {ls : List (Option Value)} {st as : List Value} {h hc hc' : List va_E} {r : Option Value} {i0 ci : Nat} {fs : List Value} {cc : vw_C} (mk : MOK M' n true) (hs : SK M_l [(pc, .invokevirtual idx, (0, 0, 0), 0)]) (lk : LK M_l.1.cls idx M'.1 nest) (C : Ctr d M' (.ref i0 :: as) hc r hc') (σ ε ks : List Nat) (rest : List Value) (nxt : Nat) (st2 : List Value) (h2 : List va_E) (hd : d ≤ 2000) (hcl : cl ≤ 600000) (hsl : sl ≤ 7302250) (hrc : hc[i0]? = some (.inr (ci, fs))) (hcc : vwCl[ci]? = some cc) (hcn : cc.1 = M'.1.cls) (hσ : va_nd σ = true) (hh : σ.map (fun i => h[i]?) = hc.map (fun e => some (rnE (σ ++ ε) e))) (hks : ks.all (fun k => Nat.blt k σ.length) = true) (hc1 : mset 0 hc (ks.map (fun k => (k, hc'.getD k dE))) = hc') (hst : st = (as.map (gV (sg (σ ++ ε)))).reverse ++ .ref (sg (σ ++ ε) i0) :: rest) (hn : as.length = n) (hroom : (rest.map Value.category).sum ≤ 8) (hnx : pc + 3 = nxt) (e1 : (r.map (gV (sg (σ ++ ε)))).toList ++ rest = st2) (e2 : mset 0 h (ks.map (fun k => (sg σ k, rnE (σ ++ ε) (hc'.getD k dE)))) = h2) (k : AG (XL b L xs) cl sl nxt ls st2 h2) : AG (XL b L xs) cl sl pc ls st h := by
  rw [mset_eq] at hc1 e2
  subst e1
  have := putS_setS hσ _ h hc hh (ks_ok (hc' := hc') hks)
  rw [hc1, List.map_map] at this
  have e3 : putS h σ (hc'.map (rnE (σ ++ ε))) = h2 := by rw [← e2]; exact this
  subst e3
  exact AG.callV (X := XL b L xs) mk ⟨by show d + 1 ≤ 2048; omega, by show 40 * (d + 1) ≤ 84000; omega⟩ ⟨hcl, hsl⟩ hs lk C hrc hcc hcn σ ε hσ hh (by rw [← hc1, setS_len]) hst hn hroom hnx k
theorem AL.new {pc nxt : Nat} {ls : List (Option Value)} {st : List Value} {h : List va_E} {ci idx N : Nat} {C : String} {T : u_T} (fs : List Value) (cl' sl' : Nat) (st' : List Value) (h' : List va_E) (hd : decode M_l.2.1 pc = .ok (.new idx, 3)) (hc : vwCl[ci]? = some (C, T, N)) (hdf : dfB T N fs = true) (hfs : ∀ ad, fs.map (gV ad) = fs) (w1 : .classLink M_l.1.cls idx C ∈ ALLW) (w2 : .instantiable C N ∈ ALLW) (w3 : .initialized C ∈ ALLW) (hcl : cl + 1 = cl') (hsl : sl + N = sl') (hcl2 : cl' ≤ 600000) (hsl2 : sl' ≤ 7302250) (hn : pc + 3 = nxt) (hf : frsh 0 ls st h (.inr (ci, fs))) (e1 : .ref h.length :: st = st') (e2 : h ++ [.inr (ci, fs)] = h') (k : AG (XL b L xs) cl' sl' nxt ls st' h') : AG (XL b L xs) cl sl pc ls st h := by
  subst hcl; subst hsl; subst e1; subst e2
  exact AG.new (X := XL b L xs) fs hd hc hdf hfs w1 w2 w3 hcl2 hsl2 hn hf k
theorem AL.cI {pc idx nxt x d' n mc' ms' : Nat} {nest : Bool} {M' : MI} {ls : List (Option Value)} {st as : List Value} {h nw : List va_E} {e0 e1 : va_E} (mk : MOKI M' n) (hm : M'.2.2.1 ≤ 21) (hd : decode M_l.2.1 pc = .ok (.invokespecial idx, 3)) (lk : LK M_l.1.cls idx M'.1 nest) (C : CtN d' M' (.ref 0 :: as) [e0] (e1 :: nw) mc' ms') (cl' sl' : Nat) (rest : List Value) (h2 : List va_E) (hdd : d' ≤ 2000) (hcl : cl + mc' = cl') (hsl : sl + ms' = sl') (hcl2 : cl' ≤ 600000) (hsl2 : sl' ≤ 7302250)
    (hx0 : h[x]? = some (rnF (tauI x h.length []) e0)) (hok : okA h.length ls rest h = true) (hc : (e1 :: nw).all (okE (nw.length + 1)) = true) (hn1 : h.length + nw.length < 1000) (hst : st = (as.map (gV (tauI x h.length []))).reverse ++ .ref x :: rest) (hn : as.length = n) (hroom : (rest.map Value.category).sum ≤ 8) (hnx : pc + 3 = nxt) (e2 : h.set x (rnF (tauI x h.length []) e1) ++ nw.map (rnF (tauI x h.length [])) = h2) (k : AG (XL b L xs) cl' sl' nxt ls rest h2) : AG (XL b L xs) cl sl pc ls st h := by
  subst hcl; subst hsl
  exact AG.cI (X := XL b L xs) mk hd lk C [] rest h2 ⟨by show d' + 1 ≤ 2048; omega, by show 8 + (M'.2.2.1 + 11) + 40 * d' ≤ 84000; omega⟩ ⟨hcl2, hsl2⟩ (fun _ _ _ _ _ h => ⟨h.2.2.2.2.1, h.2.2.2.2.2⟩) hx0 rfl hok hc hn1 (Nat.zero_le _) hst hn hroom hnx e2 k
/-- 'v != 0' as an argument -/
def bo (v : Int32) : Int32 := b01 (decide (v ≠ 0))
theorem bo_z {v : Int32} (h : v = 0) : bo v = 0 := by
  unfold bo b01
  rw [if_neg (by rw [decide_eq_true_eq]; exact fun q => q h)]
  rfl
theorem bo_o {v : Int32} (h : ¬ v = 0) : bo v = 1 := by
  unfold bo b01
  rw [if_pos (decide_eq_true h)]
  rfl
theorem AL.boo {pc p3 p4 p7 p8 : Nat} {v : Int32} {ls : List (Option Value)} {st : List Value} {h : List va_E} (h0 : SK M_l [(pc, .ifCond .eq 7, (0, 0, 0), 0)]) (h1 : SK M_l [(p3, .iconst 1, (0, 0, 0), 0), (p4, .goto 4, (p8, 0, 0), 0)]) (h2 : SK M_l [(p7, .iconst 0, (0, 0, 0), 0)]) (r1 : ∀ (ls : List (Option Value)) (st : List Value) (h : List va_E), prun M_l.2.2.1 [(p3, .iconst 1, (0, 0, 0), 0), (p4, .goto 4, (p8, 0, 0), 0)] (p3, ls, st, h) = some (True, p8, ls, .int 1 :: st, h)) (r2 : ∀ (ls : List (Option Value)) (st : List Value) (h : List va_E), prun M_l.2.2.1 [(p7, .iconst 0, (0, 0, 0), 0)] (p7, ls, st, h) = some (True, p8, ls, .int 0 :: st, h)) (e3 : pc + 3 = p3) (e7 : (pc : Int) + 7 = (p7 : Int)) (k : AG (XL b L xs) cl sl p8 ls (.int (bo v) :: st) h) : AG (XL b L xs) cl sl pc ls (.int v :: st) h := by
  by_cases c : v = 0
  · rw [bo_z c] at k
    exact AL.cT c h0 p7 p3 p7 rfl e7 e3 rfl (AG.run (X := XL b L xs) _ h2 (r2 ls st h) trivial k)
  · rw [bo_o c] at k
    exact AL.cF c h0 p7 p3 p3 rfl e7 e3 rfl (AG.run (X := XL b L xs) _ h1 (r1 ls st h) trivial k)
end
