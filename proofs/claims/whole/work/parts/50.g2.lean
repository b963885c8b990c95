/-! ===== contracts of constructors: this at id 0, what lies outside from 1000 on, new cells behind ===== -/
def AOi (E : Nat → ClassId) (U : State) : Prop := ∃ k : Class, U.vm.classes[E 4]? = some k ∧ k.kind = .array (E 0) (.array .int)
theorem AOi.moved {E : Nat → ClassId} {u U : State} (hvm : u.vm.Alike U.vm) (h : AOi E u) : AOi E U := by
  obtain ⟨k, h1, h2⟩ := h
  obtain ⟨k', hk', he⟩ := hvm.2.2 _ _ h1
  exact ⟨k', hk', by rw [he]; exact h2⟩
def rmN (d mc ms : Nat) : Room := { frames := d, cells := mc, slots := ms, locals := 40 * d }
def CinN (D : va_G) (E : Nat → ClassId) (ws : va_W) (sz : Nat) (U : State) : Prop := Cin D E ws sz U ∧ va_AO "LastName$Law" U ∧ AOi E U
def CoutN (ad : Nat → Nat) (D : va_G) (E : Nat → ClassId) (h h' : List va_E) (sz : Nat) : Array Value → State → Outcome → State → Prop := fun _ st oc t => (oc = .returned none ∧ va_K D vwCl (tysOf E) t ∧ ∃ ad', agr h.length ad ad' ∧ va_P D vwCl (conc ad' E h') t.heap ∧ va_D (va_A (conc ad E h) sz) (conc ad' E h')) ∧ va_F (va_A (conc ad E h) sz) st t
def CtN (d : Nat) (M : MI) (args : List Value) (h h' : List va_E) (mc ms : Nat) : Prop :=
  ∀ (ad : Nat → Nat) (D : va_G) (E : Nat → ClassId) (l : Launch) (sz : Nat), Met l M.1 (wOf M) (rmN d mc ms) (va_Pc (args.map (gV ad)) (CinN D E (conc ad E h) sz)) (CoutN ad D E h h' sz) mc ms (va_A (conc ad E h) sz)
def XN (M : MI) (d : Nat) (h0 hF : List va_E) (mc ms : Nat) : CXG := (M, rmN d mc ms, h0, (fun _ E _ s meth => meth.name = "<init>" ∧ va_AO "LastName$Law" s ∧ AOi E s), (fun ad0 D E below args s => MQ below (CoutN ad0 D E h0 hF s.heap.size) args s mc ms (va_A (conc ad0 E h0) s.heap.size)))
theorem CtN.intro {d : Nat} {M : MI} {args : List Value} {h h' : List va_E} {mc ms : Nat} (hp : plainFor M.1 = true) (hnm : M.1.name = "<init>") (hl : (args.map Value.category).sum ≤ M.2.2.1) (k : AG (XN M d h h' mc ms) 0 0 0 (entL args) [] h) : CtN d M args h h' mc ms := by
  intro ad D E l sz
  refine va_MetF (cc := M.2.1) (maxL := M.2.2.1) (ret := M.2.2.2) hp rfl ?_
  intro p e s m args' below meth c s₁ B hml hv
  obtain ⟨rfl, ⟨hsz, hP, hK, hD0, hN, hSc⟩, ha1, ha2⟩ := hv
  have hts := atoms_spec (ws := wOf M) B.pre
  have hown : s.vm.findClass M.1.cls = some m.cls := findClass_of_methodNamed B.named
  have hin : meth.name = "<init>" := (name_of_methodNamed B.named B.method).1.trans hnm
  subst hsz
  have hlen : ∀ vs : List Value, (lg_sl (vs.map (gV ad))).length = (vs.map Value.category).sum := by
    intro vs
    induction vs with
    | nil => rfl
    | cons v vs ih =>
      have e1 : lg_sl ((v :: vs).map (gV ad)) = (if (gV ad v).category = 2 then [Slot.val (gV ad v), .second] else [.val (gV ad v)]) ++ lg_sl (vs.map (gV ad)) := by
        simp [lg_sl]
      rw [e1, List.length_append, ih, List.map_cons, List.sum_cons]
      congr 1
      cases v <;> rfl
  have hlh := Lh.entry ad args (n := M.2.2.1) (by rw [hlen]; exact hl)
  rw [lg_entry_eq]
  exact k ad ad D E p l e s m _ below meth c s.heap [] _ ⟨B.exec, B.bytes, B.returns, hml, B.notSynchronized, hown, fun w hw => hts w (List.mem_cons_of_mem _ hw), hK, hN, hSc⟩ ⟨fun _ _ => rfl, hin, ha1, ha2⟩ hlh hP (hD0.self (sz := s.heap.size)) va_S.rf
theorem AG.xv {M : MI} {d : Nat} {h0 hF : List va_E} {mc ms pc : Nat} {ls : List (Option Value)} (hd : decode M.2.1 pc = .ok (.return_, 1)) (hr0 : M.2.2.2 = none) : AG (XN M d h0 hF mc ms) mc ms pc ls [] hF := by
  intro ad0 ad D E p l ev s m args below meth c H locs la hCF hag hLh hP hD hS
  obtain ⟨hx, hb, hr, hml, hlk, hown, hts, hK, hN, hSc⟩ := id hCF
  exact W.vret hx hb (hr.trans hr0) (fun t ht hW => ⟨⟨rfl, va_K.moved hW.alike hK, ad, hag.1, by rw [ht]; exact hP, hD⟩, hS.F ht⟩) hS.2.2 hd hlk
/-- a run of plain instructions -/
theorem AG.g {X : CXG} {cl sl : Nat} {tbl : List (Nat × ENT)} (hs : SK X.1 tbl) (a n : Nat) {pc : Nat} {ls : List (Option Value)} {st : List Value} {h : List va_E} (C : Prop) (pc' : Nat) (ls' : List (Option Value)) (st' : List Value) (h' : List va_E) (hr : prun X.1.2.2.1 ((tbl.drop a).take n) (pc, ls, st, h) = some (C, pc', ls', st', h')) (hC : C) (k : AG X cl sl pc' ls' st' h') : AG X cl sl pc ls st h := AG.run (X := X) _ (sk_sub hs a n) hr hC k
/-- Object's own constructor -/
def oiW : Prop := (.instanceMethod Lib.objectInit ∈ ALLW) ∧ (.code Lib.objectInit ⟨#[0xb1]⟩ 1 none ∈ ALLW)
theorem AG.obj {X : CXG} {cl sl pc idx nxt x : Nat} {ls : List (Option Value)} {st : List Value} {h : List va_E} (ow : oiW) (hd : decode X.1.2.1 pc = .ok (.invokespecial idx, 3)) (lk : .methodLink X.1.1.cls idx Lib.objectInit ∈ ALLW) (hfr : 1 ≤ X.R.frames) (hlo : 20 ≤ X.R.locals) (hroom : (st.map Value.category).sum ≤ 8) (hn : pc + 3 = nxt) (k : AG X cl sl nxt ls st h) : AG X cl sl pc ls (.ref x :: st) h := by
  intro ad0 ad D E p l ev s m args below meth c H locs la hCF hag hLh hP hD hS
  obtain ⟨hx, hb, hr, hml, hlk, hown, hts, hK, hN, hSc⟩ := id hCF
  subst hn
  have hrm := room_map (ad := ad) hroom
  refine W.objInit hx hb hown (hts _ lk) (hts _ ow.1) (hts _ ow.2) rfl (hLh.1.trans hml.symm) rfl hd hfr ?_ (k ad0 ad D E p l ev s m args below meth c H locs la hCF hag hLh hP hD hS)
  show 2 * 0 + ((st.map (gV ad)).map fun v => v.category).sum + 12 ≤ X.R.locals
  omega
/-- a final field, in a constructor -/
theorem AG.pF {X : CXG} {cl sl pc idx nxt q k ci : Nat} {ls : List (Option Value)} {st : List Value} {h h2 : List va_E} {fs : List Value} {cc : vw_C} {v : Value} {ty : FieldType} (hd : decode X.1.2.1 pc = .ok (.putfield idx, 3)) (hpr : ∀ ad0 E args s meth, X.Pr ad0 E args s meth → meth.name = "<init>") (ecc : vwCl[ci]? = some cc) (hk : k < cc.2.2) (w : .fieldLink X.1.1.cls idx (cc.2.1 k).1 (cc.2.1 k).2.1 (cc.2.1 k).2.2.1 ∈ ALLW) (hfin : (cc.2.1 k).2.2.2 = true) (hdc : (cc.2.1 k).1 = X.1.1.cls) (hty : parseFieldDescriptor (cc.2.1 k).2.2.1 = some ty) (hv : ∀ ad : Nat → Nat, narrow ty (gV ad v) = gV ad v ∧ fits ty (gV ad v) = true) (hq : h[q]? = some (.inr (ci, fs))) (hkl : k < fs.length) (e2 : h.set q (.inr (ci, fs.set k v)) = h2) (hn : pc + 3 = nxt) (kk : AG X cl sl nxt ls st h2) : AG X cl sl pc ls (v :: .ref q :: st) h := by
  intro ad0 ad D E p l ev s m args below meth c H locs la hCF hag hLh hP hD hS
  obtain ⟨hx, hb, hr, hml, hlk, hown, hts, hK, hN, hSc⟩ := id hCF
  subst hn
  subst e2
  obtain ⟨h1, ⟨ty0, h2⟩, h3⟩ := cls_ok _ _ ecc
  have e6 := conc_at (ad := ad) (E := E) hq
  rw [gE_obj (vwCl_lt ecc)] at e6
  exact va_putF hx hb hts h1 ty0 h2 h3 hown hK hP hD hS q e6 ecc k hk (hts _ w) (fun _ h9 => h9) hfin (hpr _ _ _ _ _ hag.2) hdc hty (hv ad).1 (hv ad).2 (by rw [List.length_map]; exact hkl) hd (fun H1 locs1 hP1 hD1 hS1 => kk ad0 ad D E p l ev s m args below meth c H1 locs1 la hCF hag hLh (conc_putF (vwCl_lt ecc) ▸ hP1) (conc_putF (vwCl_lt ecc) ▸ hD1) hS1)
