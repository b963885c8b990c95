/-! ===== the judgement of String's own methods: places 0, 1 the two constants, 2, 3 their bytes, 4 the formatter ===== -/
def SX (ad : Nat → Nat) (A : Nat → Prop) (U : State) : Prop := vk_S 2 scL scB ad (fun i => ad (i + 2)) A U U.heap ∧ vk_R "LastName$Reader" 115 "take fee bars go by or and not place name own who gate size hour in " (ad 0) U ∧ vk_R "LastName$Reader" 108 "<>=#+-*/%();" (ad 1) U ∧ va_Z "java/lang/String" "COMPACT_STRINGS" "Z" (.int 1) A U U.heap ∧ (va_Z "jdk/internal/util/Preconditions" "SIOOBE_FORMATTER" "Ljava/util/function/BiFunction;" (.ref (ad 4)) A U U.heap ∨ va_Z "jdk/internal/util/Preconditions" "SIOOBE_FORMATTER" "Ljava/util/function/BiFunction;" .null A U U.heap)
theorem Sc.SX {A : Nat → Prop} {U : State} (h : Sc A U) : ∃ ad : Nat → Nat, SX ad A U := by
  obtain ⟨adK, adV, h1, h2, h3, h4, fv, hfv, h5⟩ := h
  obtain ⟨fm, h5⟩ : ∃ fm : Nat, va_Z "jdk/internal/util/Preconditions" "SIOOBE_FORMATTER" "Ljava/util/function/BiFunction;" (.ref fm) A U U.heap ∨ va_Z "jdk/internal/util/Preconditions" "SIOOBE_FORMATTER" "Ljava/util/function/BiFunction;" .null A U U.heap := by
    rcases hfv with rfl | ⟨fm, rfl⟩
    · exact ⟨0, Or.inr h5⟩
    · exact ⟨fm, Or.inl h5⟩
  refine ⟨fun i => match i with | 0 => adK 0 | 1 => adK 1 | 2 => adV 0 | 3 => adV 1 | _ => fm, ⟨fun i hi => ?_, fun i j hi hj e => ?_⟩, h2, h3, h4, h5⟩
  · match i, hi with
    | 0, _ => exact h1.1 0 (by decide)
    | 1, _ => exact h1.1 1 (by decide)
  · match i, hi, j, hj with
    | 0, _, 0, _ => rfl
    | 1, _, 1, _ => rfl
    | 0, _, 1, _ => exact absurd (h1.2 0 1 (by decide) (by decide) e) (by decide)
    | 1, _, 0, _ => exact absurd (h1.2 1 0 (by decide) (by decide) e) (by decide)
theorem SX.call {ad : Nat → Nat} {A B : Nat → Prop} {s U : State} {H : Heap} {locs : List Loc} (h : SX ad A s) (hAB : ∀ q, B q → A q) (hS : va_S A s.heap H locs) (hU : U.heap = H) (hW : s.WarmedH U.vm) : SX ad B U := by
  obtain ⟨h1, h2, h3, h4, h5⟩ := h
  subst hU
  exact ⟨(vk_S.moved hW.alike (h1.kept hS.2.1)).narrow hAB, h2.warm hW, h3.warm hW, (va_Z.moved hW.alike (h4.kept hS.2.1)).narrow hAB, h5.imp (fun h => (va_Z.moved hW.alike (h.kept hS.2.1)).narrow hAB) (fun h => (va_Z.moved hW.alike (h.kept hS.2.1)).narrow hAB)⟩
theorem SX.calling {ad : Nat → Nat} {A : Nat → Prop} {U : State} {g : JFrame} {mk : MethodId} {a : Array Value} (h : SX ad A U) : SX ad A (U.calling g mk a) := by
  obtain ⟨h1, h2, h3, h4, h5⟩ := h
  exact ⟨vk_S.moved (u := U) (U := U.calling g mk a) (Vm.Alike.refl U.vm) h1, vk_R.same (u := U) (U := U.calling g mk a) rfl h2, vk_R.same (u := U) (U := U.calling g mk a) rfl h3, va_Z.moved (u := U) (U := U.calling g mk a) (Vm.Alike.refl U.vm) h4, h5.imp (fun h => va_Z.moved (u := U) (U := U.calling g mk a) (Vm.Alike.refl U.vm) h) (fun h => va_Z.moved (u := U) (U := U.calling g mk a) (Vm.Alike.refl U.vm) h)⟩
def CQin (ad : Nat → Nat) (D : va_G) (E : Nat → ClassId) (sz : Nat) (U : State) : Prop := U.heap.size = sz ∧ va_K D vwCl (tysOf E) U ∧ (∀ w ∈ NESTW, va_Nw w U) ∧ SX ad (va_A [] sz) U
def CtQ (d : Nat) (M : MI) (args : List Value) (r : Option Value) : Prop :=
  ∀ (ad : Nat → Nat) (D : va_G) (E : Nat → ClassId) (l : Launch) (sz : Nat), Met l M.1 (wOf M) (rmD d) (va_Pc (args.map (gV ad)) (CQin ad D E sz)) (Cout D E [] [] sz (r.map (gV ad))) 0 0 (va_A [] sz)
def CFQ (M : MI) (ad : Nat → Nat) (D : va_G) (E : Nat → ClassId) (A : Nat → Prop) (p : Program) (s : State) (m : MethodId) (args : Array Value) (meth : Method) (c : Code) : Prop :=
  p.tables.exec = Jvm.exec ∧ c.code = M.2.1 ∧ meth.sig.returnType = M.2.2.2 ∧ c.maxLocals = M.2.2.1 ∧ meth.locks = false ∧ s.vm.findClass M.1.cls = some m.cls ∧ (∀ w ∈ ALLW, w.before args s = true) ∧ va_K D vwCl (tysOf E) s ∧ (∀ w ∈ NESTW, va_Nw w s) ∧ SX ad A s
def AQ (x : CXT) (pc : Nat) (ls : List (Option Value)) (st : List Value) (h : List va_E) : Prop :=
  ∀ (ad : Nat → Nat) (D : va_G) (E : Nat → ClassId) (p : Program) (l : Launch) (e : Env) (s : State) (m : MethodId) (args : Array Value) (below : List Frame) (meth : Method) (c : Code) (H : Heap) (locs : List Loc) (la : Array Slot),
    CFQ x.1 ad D E (va_A (conc ad E x.2.2.2.1) s.heap.size) p s m args meth c → Lh ad la x.1.2.2.1 ls → va_P D vwCl (conc ad E h) H → va_D (va_A (conc ad E x.2.2.2.1) s.heap.size) (conc ad E h) → va_S (va_A (conc ad E x.2.2.2.1) s.heap.size) s.heap H locs →
    W p l e (rmD x.2.1) s m args below meth c H locs 0 0 (MQ below (Cout D E (conc ad E x.2.2.2.1) (conc ad E x.2.2.2.2) s.heap.size (x.2.2.1.map (gV ad))) args s 0 0 (va_A (conc ad E x.2.2.2.1) s.heap.size)) (F0 m pc la (st.map (gV ad)))
theorem va_D_nil {A : Nat → Prop} : va_D A [] := ⟨fun i j a b hi => by simp at hi, fun q z hq => by simp at hq⟩
theorem va_P_nil {D : va_G} {H : Heap} : va_P D vwCl [] H := fun q z hq => by simp at hq
theorem CtQ.intro {d : Nat} {M : MI} {args : List Value} {r : Option Value} (hp : plainFor M.1 = true) (hl : (args.map Value.category).sum ≤ M.2.2.1) (k : AQ (M, d, r, [], []) 0 (entL args) [] []) : CtQ d M args r := by
  intro ad D E l sz
  refine va_MetF (cc := M.2.1) (maxL := M.2.2.1) (ret := M.2.2.2) hp rfl ?_
  intro p e s m args' below meth c s₁ B hml hv
  obtain ⟨rfl, hsz, hK, hN, hSc⟩ := hv
  have hts := atoms_spec (ws := wOf M) B.pre
  have hown : s.vm.findClass M.1.cls = some m.cls := findClass_of_methodNamed B.named
  subst hsz
  have hlen : ∀ vs : List Value, (lg_sl (vs.map (gV ad))).length = (vs.map Value.category).sum := by
    intro vs
    induction vs with
    | nil => rfl
    | cons v vs ih =>
      have e1 : lg_sl ((v :: vs).map (gV ad)) = (if (gV ad v).category = 2 then [Slot.val (gV ad v), .second] else [.val (gV ad v)]) ++ lg_sl (vs.map (gV ad)) := by
        simp [lg_sl]
      rw [e1, List.length_append, ih, List.map_cons, List.sum_cons]
      congr 1
      cases v <;> rfl
  have hlh := Lh.entry ad args (n := M.2.2.1) (by rw [hlen]; exact hl)
  rw [lg_entry_eq]
  exact k ad D E p l e s m _ below meth c s.heap [] _ ⟨B.exec, B.bytes, B.returns, hml, B.notSynchronized, hown, fun w hw => hts w (List.mem_cons_of_mem _ hw), hK, hN, hSc⟩ hlh va_P_nil va_D_nil va_S.rf
theorem qs_iconst {X : CXT} (n : Int) {aux : Nat × Nat × Nat} {v : Int} {pc : Nat} {ls : List (Option Value)} {st : List Value} {h : List va_E} {g : Option Prop} {s' : SS} (hd : decode X.1.2.1 pc = .ok (.iconst n, iln (.iconst n))) (hl : lnk X.1.1.cls (.iconst n, aux, v) = true) (hp : pin X.1.2.2.1 (.iconst n, aux, v) (pc, ls, st, h) = some (g, s')) (hg : ∀ q, g = some q → q) (k : AQ X s'.1 s'.2.1 s'.2.2.1 s'.2.2.2) : AQ X pc ls st h := by
    intro ad D E p l ev s m args below meth c H locs la hCF hLh hP hD hS
    obtain ⟨hx, hb, hr, hml, hlk, hown, hts, hK, hN, hSc⟩ := id hCF
    have hp2 : some ((none : Option Prop), pc + 1, ls, Value.int (Int32.ofInt n) :: st, h) = some (g, s') := hp
    cases hp2
    exact lv_iconst hx hb hd rfl (k ad D E p l ev s m args below meth c H locs la hCF hLh hP hD hS)
theorem qs_bipush {X : CXT} (n : Int) {aux : Nat × Nat × Nat} {v : Int} {pc : Nat} {ls : List (Option Value)} {st : List Value} {h : List va_E} {g : Option Prop} {s' : SS} (hd : decode X.1.2.1 pc = .ok (.bipush n, iln (.bipush n))) (hl : lnk X.1.1.cls (.bipush n, aux, v) = true) (hp : pin X.1.2.2.1 (.bipush n, aux, v) (pc, ls, st, h) = some (g, s')) (hg : ∀ q, g = some q → q) (k : AQ X s'.1 s'.2.1 s'.2.2.1 s'.2.2.2) : AQ X pc ls st h := by
    intro ad D E p l ev s m args below meth c H locs la hCF hLh hP hD hS
    obtain ⟨hx, hb, hr, hml, hlk, hown, hts, hK, hN, hSc⟩ := id hCF
    have hp2 : some ((none : Option Prop), pc + 2, ls, Value.int ((Int8.ofInt n).toInt32) :: st, h) = some (g, s') := hp
    cases hp2
    exact lv_bipush hx hb hd rfl (k ad D E p l ev s m args below meth c H locs la hCF hLh hP hD hS)
theorem qs_sipush {X : CXT} (n : Int) {aux : Nat × Nat × Nat} {v : Int} {pc : Nat} {ls : List (Option Value)} {st : List Value} {h : List va_E} {g : Option Prop} {s' : SS} (hd : decode X.1.2.1 pc = .ok (.sipush n, iln (.sipush n))) (hl : lnk X.1.1.cls (.sipush n, aux, v) = true) (hp : pin X.1.2.2.1 (.sipush n, aux, v) (pc, ls, st, h) = some (g, s')) (hg : ∀ q, g = some q → q) (k : AQ X s'.1 s'.2.1 s'.2.2.1 s'.2.2.2) : AQ X pc ls st h := by
    intro ad D E p l ev s m args below meth c H locs la hCF hLh hP hD hS
    obtain ⟨hx, hb, hr, hml, hlk, hown, hts, hK, hN, hSc⟩ := id hCF
    have hp2 : some ((none : Option Prop), pc + 3, ls, Value.int ((Int16.ofInt n).toInt32) :: st, h) = some (g, s') := hp
    cases hp2
    exact lv_sipush hx hb hd rfl (k ad D E p l ev s m args below meth c H locs la hCF hLh hP hD hS)
theorem qs_lconst {X : CXT} (n : Fin 2) {aux : Nat × Nat × Nat} {v : Int} {pc : Nat} {ls : List (Option Value)} {st : List Value} {h : List va_E} {g : Option Prop} {s' : SS} (hd : decode X.1.2.1 pc = .ok (.lconst n, iln (.lconst n))) (hl : lnk X.1.1.cls (.lconst n, aux, v) = true) (hp : pin X.1.2.2.1 (.lconst n, aux, v) (pc, ls, st, h) = some (g, s')) (hg : ∀ q, g = some q → q) (k : AQ X s'.1 s'.2.1 s'.2.2.1 s'.2.2.2) : AQ X pc ls st h := by
    intro ad D E p l ev s m args below meth c H locs la hCF hLh hP hD hS
    obtain ⟨hx, hb, hr, hml, hlk, hown, hts, hK, hN, hSc⟩ := id hCF
    have hp2 : some ((none : Option Prop), pc + 1, ls, Value.long (Int64.ofNat n) :: st, h) = some (g, s') := hp
    cases hp2
    exact lv_lconst hx hb hd rfl (k ad D E p l ev s m args below meth c H locs la hCF hLh hP hD hS)
theorem qs_ldc {X : CXT} (n : Nat) {aux : Nat × Nat × Nat} {v : Int} {pc : Nat} {ls : List (Option Value)} {st : List Value} {h : List va_E} {g : Option Prop} {s' : SS} (hd : decode X.1.2.1 pc = .ok (.ldc n, iln (.ldc n))) (hl : lnk X.1.1.cls (.ldc n, aux, v) = true) (hp : pin X.1.2.2.1 (.ldc n, aux, v) (pc, ls, st, h) = some (g, s')) (hg : ∀ q, g = some q → q) (k : AQ X s'.1 s'.2.1 s'.2.2.1 s'.2.2.2) : AQ X pc ls st h := by
    intro ad D E p l ev s m args below meth c H locs la hCF hLh hP hD hS
    obtain ⟨hx, hb, hr, hml, hlk, hown, hts, hK, hN, hSc⟩ := id hCF
    have hp2 : some ((none : Option Prop), pc + 2, ls, Value.int (Int32.ofInt v) :: st, h) = some (g, s') := hp
    cases hp2
    exact lv_ldc hx hb hown (hts _ (wdOK_mem hl)) hd (k ad D E p l ev s m args below meth c H locs la hCF hLh hP hD hS)
theorem qs_ldc2_w {X : CXT} (n : Nat) {aux : Nat × Nat × Nat} {v : Int} {pc : Nat} {ls : List (Option Value)} {st : List Value} {h : List va_E} {g : Option Prop} {s' : SS} (hd : decode X.1.2.1 pc = .ok (.ldc2_w n, iln (.ldc2_w n))) (hl : lnk X.1.1.cls (.ldc2_w n, aux, v) = true) (hp : pin X.1.2.2.1 (.ldc2_w n, aux, v) (pc, ls, st, h) = some (g, s')) (hg : ∀ q, g = some q → q) (k : AQ X s'.1 s'.2.1 s'.2.2.1 s'.2.2.2) : AQ X pc ls st h := by
    intro ad D E p l ev s m args below meth c H locs la hCF hLh hP hD hS
    obtain ⟨hx, hb, hr, hml, hlk, hown, hts, hK, hN, hSc⟩ := id hCF
    have hp2 : some ((none : Option Prop), pc + 3, ls, Value.long (Int64.ofInt v) :: st, h) = some (g, s') := hp
    cases hp2
    exact lv_ldc2 hx hb hown (hts _ (wdOK_mem hl)) hd (k ad D E p l ev s m args below meth c H locs la hCF hLh hP hD hS)
theorem qs_iload_n {X : CXT} (n : Fin 4) {aux : Nat × Nat × Nat} {v : Int} {pc : Nat} {ls : List (Option Value)} {st : List Value} {h : List va_E} {g : Option Prop} {s' : SS} (hd : decode X.1.2.1 pc = .ok (.iload_n n, iln (.iload_n n))) (hl : lnk X.1.1.cls (.iload_n n, aux, v) = true) (hp : pin X.1.2.2.1 (.iload_n n, aux, v) (pc, ls, st, h) = some (g, s')) (hg : ∀ q, g = some q → q) (k : AQ X s'.1 s'.2.1 s'.2.2.1 s'.2.2.2) : AQ X pc ls st h := by
    intro ad D E p l ev s m args below meth c H locs la hCF hLh hP hD hS
    obtain ⟨hx, hb, hr, hml, hlk, hown, hts, hK, hN, hSc⟩ := id hCF
    obtain ⟨t, e1, rfl, rfl⟩ := nx_eq hp
    obtain ⟨w, e2, rfl⟩ := ldI_eq e1
    exact lv_iload_n hx hb hd rfl (hLh.2.2 _ _ e2) (k ad D E p l ev s m args below meth c H locs la hCF hLh hP hD hS)
theorem qs_iload {X : CXT} (n : Nat) {aux : Nat × Nat × Nat} {v : Int} {pc : Nat} {ls : List (Option Value)} {st : List Value} {h : List va_E} {g : Option Prop} {s' : SS} (hd : decode X.1.2.1 pc = .ok (.iload n, iln (.iload n))) (hl : lnk X.1.1.cls (.iload n, aux, v) = true) (hp : pin X.1.2.2.1 (.iload n, aux, v) (pc, ls, st, h) = some (g, s')) (hg : ∀ q, g = some q → q) (k : AQ X s'.1 s'.2.1 s'.2.2.1 s'.2.2.2) : AQ X pc ls st h := by
    intro ad D E p l ev s m args below meth c H locs la hCF hLh hP hD hS
    obtain ⟨hx, hb, hr, hml, hlk, hown, hts, hK, hN, hSc⟩ := id hCF
    obtain ⟨t, e1, rfl, rfl⟩ := nx_eq hp
    obtain ⟨w, e2, rfl⟩ := ldI_eq e1
    exact lv_iload hx hb hd (hLh.2.2 _ _ e2) (k ad D E p l ev s m args below meth c H locs la hCF hLh hP hD hS)
theorem qs_lload_n {X : CXT} (n : Fin 4) {aux : Nat × Nat × Nat} {v : Int} {pc : Nat} {ls : List (Option Value)} {st : List Value} {h : List va_E} {g : Option Prop} {s' : SS} (hd : decode X.1.2.1 pc = .ok (.lload_n n, iln (.lload_n n))) (hl : lnk X.1.1.cls (.lload_n n, aux, v) = true) (hp : pin X.1.2.2.1 (.lload_n n, aux, v) (pc, ls, st, h) = some (g, s')) (hg : ∀ q, g = some q → q) (k : AQ X s'.1 s'.2.1 s'.2.2.1 s'.2.2.2) : AQ X pc ls st h := by
    intro ad D E p l ev s m args below meth c H locs la hCF hLh hP hD hS
    obtain ⟨hx, hb, hr, hml, hlk, hown, hts, hK, hN, hSc⟩ := id hCF
    obtain ⟨t, e1, rfl, rfl⟩ := nx_eq hp
    obtain ⟨w, e2, rfl⟩ := ldJ_eq e1
    exact lv_lload_n hx hb hd rfl (hLh.2.2 _ _ e2) (k ad D E p l ev s m args below meth c H locs la hCF hLh hP hD hS)
theorem qs_lload {X : CXT} (n : Nat) {aux : Nat × Nat × Nat} {v : Int} {pc : Nat} {ls : List (Option Value)} {st : List Value} {h : List va_E} {g : Option Prop} {s' : SS} (hd : decode X.1.2.1 pc = .ok (.lload n, iln (.lload n))) (hl : lnk X.1.1.cls (.lload n, aux, v) = true) (hp : pin X.1.2.2.1 (.lload n, aux, v) (pc, ls, st, h) = some (g, s')) (hg : ∀ q, g = some q → q) (k : AQ X s'.1 s'.2.1 s'.2.2.1 s'.2.2.2) : AQ X pc ls st h := by
    intro ad D E p l ev s m args below meth c H locs la hCF hLh hP hD hS
    obtain ⟨hx, hb, hr, hml, hlk, hown, hts, hK, hN, hSc⟩ := id hCF
    obtain ⟨t, e1, rfl, rfl⟩ := nx_eq hp
    obtain ⟨w, e2, rfl⟩ := ldJ_eq e1
    exact lv_lload hx hb hd (hLh.2.2 _ _ e2) (k ad D E p l ev s m args below meth c H locs la hCF hLh hP hD hS)
theorem qs_aload_n {X : CXT} (n : Fin 4) {aux : Nat × Nat × Nat} {v : Int} {pc : Nat} {ls : List (Option Value)} {st : List Value} {h : List va_E} {g : Option Prop} {s' : SS} (hd : decode X.1.2.1 pc = .ok (.aload_n n, iln (.aload_n n))) (hl : lnk X.1.1.cls (.aload_n n, aux, v) = true) (hp : pin X.1.2.2.1 (.aload_n n, aux, v) (pc, ls, st, h) = some (g, s')) (hg : ∀ q, g = some q → q) (k : AQ X s'.1 s'.2.1 s'.2.2.1 s'.2.2.2) : AQ X pc ls st h := by
    intro ad D E p l ev s m args below meth c H locs la hCF hLh hP hD hS
    obtain ⟨hx, hb, hr, hml, hlk, hown, hts, hK, hN, hSc⟩ := id hCF
    obtain ⟨t, e1, rfl, rfl⟩ := nx_eq hp
    obtain ⟨w, e2, rfl⟩ := ldA_eq e1
    exact lv_aload_n hx hb hd rfl (hLh.2.2 _ _ e2) (k ad D E p l ev s m args below meth c H locs la hCF hLh hP hD hS)
theorem qs_aload {X : CXT} (n : Nat) {aux : Nat × Nat × Nat} {v : Int} {pc : Nat} {ls : List (Option Value)} {st : List Value} {h : List va_E} {g : Option Prop} {s' : SS} (hd : decode X.1.2.1 pc = .ok (.aload n, iln (.aload n))) (hl : lnk X.1.1.cls (.aload n, aux, v) = true) (hp : pin X.1.2.2.1 (.aload n, aux, v) (pc, ls, st, h) = some (g, s')) (hg : ∀ q, g = some q → q) (k : AQ X s'.1 s'.2.1 s'.2.2.1 s'.2.2.2) : AQ X pc ls st h := by
    intro ad D E p l ev s m args below meth c H locs la hCF hLh hP hD hS
    obtain ⟨hx, hb, hr, hml, hlk, hown, hts, hK, hN, hSc⟩ := id hCF
    obtain ⟨t, e1, rfl, rfl⟩ := nx_eq hp
    obtain ⟨w, e2, rfl⟩ := ldA_eq e1
    exact lv_aload hx hb hd (hLh.2.2 _ _ e2) (k ad D E p l ev s m args below meth c H locs la hCF hLh hP hD hS)
theorem qs_istore_n {X : CXT} (n : Fin 4) {aux : Nat × Nat × Nat} {v : Int} {pc : Nat} {ls : List (Option Value)} {st : List Value} {h : List va_E} {g : Option Prop} {s' : SS} (hd : decode X.1.2.1 pc = .ok (.istore_n n, iln (.istore_n n))) (hl : lnk X.1.1.cls (.istore_n n, aux, v) = true) (hp : pin X.1.2.2.1 (.istore_n n, aux, v) (pc, ls, st, h) = some (g, s')) (hg : ∀ q, g = some q → q) (k : AQ X s'.1 s'.2.1 s'.2.2.1 s'.2.2.2) : AQ X pc ls st h := by
    intro ad D E p l ev s m args below meth c H locs la hCF hLh hP hD hS
    obtain ⟨hx, hb, hr, hml, hlk, hown, hts, hK, hN, hSc⟩ := id hCF
    obtain ⟨w, r, rfl, hi, rfl, rfl⟩ := stI_eq hp
    exact lv_istore_n hx hb hd rfl hLh.has hi rfl (fun la' h' => k ad D E p l ev s m args below meth c H locs la' hCF (Lh.sto1 hLh h') hP hD hS)
theorem qs_istore {X : CXT} (n : Nat) {aux : Nat × Nat × Nat} {v : Int} {pc : Nat} {ls : List (Option Value)} {st : List Value} {h : List va_E} {g : Option Prop} {s' : SS} (hd : decode X.1.2.1 pc = .ok (.istore n, iln (.istore n))) (hl : lnk X.1.1.cls (.istore n, aux, v) = true) (hp : pin X.1.2.2.1 (.istore n, aux, v) (pc, ls, st, h) = some (g, s')) (hg : ∀ q, g = some q → q) (k : AQ X s'.1 s'.2.1 s'.2.2.1 s'.2.2.2) : AQ X pc ls st h := by
    intro ad D E p l ev s m args below meth c H locs la hCF hLh hP hD hS
    obtain ⟨hx, hb, hr, hml, hlk, hown, hts, hK, hN, hSc⟩ := id hCF
    obtain ⟨w, r, rfl, hi, rfl, rfl⟩ := stI_eq hp
    exact lv_istore hx hb hd hLh.has hi rfl (fun la' h' => k ad D E p l ev s m args below meth c H locs la' hCF (Lh.sto1 hLh h') hP hD hS)
theorem qs_lstore_n {X : CXT} (n : Fin 4) {aux : Nat × Nat × Nat} {v : Int} {pc : Nat} {ls : List (Option Value)} {st : List Value} {h : List va_E} {g : Option Prop} {s' : SS} (hd : decode X.1.2.1 pc = .ok (.lstore_n n, iln (.lstore_n n))) (hl : lnk X.1.1.cls (.lstore_n n, aux, v) = true) (hp : pin X.1.2.2.1 (.lstore_n n, aux, v) (pc, ls, st, h) = some (g, s')) (hg : ∀ q, g = some q → q) (k : AQ X s'.1 s'.2.1 s'.2.2.1 s'.2.2.2) : AQ X pc ls st h := by
    intro ad D E p l ev s m args below meth c H locs la hCF hLh hP hD hS
    obtain ⟨hx, hb, hr, hml, hlk, hown, hts, hK, hN, hSc⟩ := id hCF
    obtain ⟨w, r, rfl, hi, rfl, rfl⟩ := stJ_eq hp
    exact lv_lstore_n hx hb hd rfl hLh.has hi rfl (fun la' h' => k ad D E p l ev s m args below meth c H locs la' hCF (Lh.sto2 hLh h') hP hD hS)
theorem qs_lstore {X : CXT} (n : Nat) {aux : Nat × Nat × Nat} {v : Int} {pc : Nat} {ls : List (Option Value)} {st : List Value} {h : List va_E} {g : Option Prop} {s' : SS} (hd : decode X.1.2.1 pc = .ok (.lstore n, iln (.lstore n))) (hl : lnk X.1.1.cls (.lstore n, aux, v) = true) (hp : pin X.1.2.2.1 (.lstore n, aux, v) (pc, ls, st, h) = some (g, s')) (hg : ∀ q, g = some q → q) (k : AQ X s'.1 s'.2.1 s'.2.2.1 s'.2.2.2) : AQ X pc ls st h := by
    intro ad D E p l ev s m args below meth c H locs la hCF hLh hP hD hS
    obtain ⟨hx, hb, hr, hml, hlk, hown, hts, hK, hN, hSc⟩ := id hCF
    obtain ⟨w, r, rfl, hi, rfl, rfl⟩ := stJ_eq hp
    exact lv_lstore hx hb hd hLh.has hi rfl (fun la' h' => k ad D E p l ev s m args below meth c H locs la' hCF (Lh.sto2 hLh h') hP hD hS)
theorem qs_astore_n {X : CXT} (n : Fin 4) {aux : Nat × Nat × Nat} {v : Int} {pc : Nat} {ls : List (Option Value)} {st : List Value} {h : List va_E} {g : Option Prop} {s' : SS} (hd : decode X.1.2.1 pc = .ok (.astore_n n, iln (.astore_n n))) (hl : lnk X.1.1.cls (.astore_n n, aux, v) = true) (hp : pin X.1.2.2.1 (.astore_n n, aux, v) (pc, ls, st, h) = some (g, s')) (hg : ∀ q, g = some q → q) (k : AQ X s'.1 s'.2.1 s'.2.2.1 s'.2.2.2) : AQ X pc ls st h := by
    intro ad D E p l ev s m args below meth c H locs la hCF hLh hP hD hS
    obtain ⟨hx, hb, hr, hml, hlk, hown, hts, hK, hN, hSc⟩ := id hCF
    obtain ⟨w, r, rfl, hi, rfl, rfl⟩ := stA_eq hp
    exact lv_astore_n hx hb hd rfl hLh.has hi rfl (fun la' h' => k ad D E p l ev s m args below meth c H locs la' hCF (Lh.sto1 hLh h') hP hD hS)
theorem qs_astore {X : CXT} (n : Nat) {aux : Nat × Nat × Nat} {v : Int} {pc : Nat} {ls : List (Option Value)} {st : List Value} {h : List va_E} {g : Option Prop} {s' : SS} (hd : decode X.1.2.1 pc = .ok (.astore n, iln (.astore n))) (hl : lnk X.1.1.cls (.astore n, aux, v) = true) (hp : pin X.1.2.2.1 (.astore n, aux, v) (pc, ls, st, h) = some (g, s')) (hg : ∀ q, g = some q → q) (k : AQ X s'.1 s'.2.1 s'.2.2.1 s'.2.2.2) : AQ X pc ls st h := by
    intro ad D E p l ev s m args below meth c H locs la hCF hLh hP hD hS
    obtain ⟨hx, hb, hr, hml, hlk, hown, hts, hK, hN, hSc⟩ := id hCF
    obtain ⟨w, r, rfl, hi, rfl, rfl⟩ := stA_eq hp
    exact lv_astore hx hb hd hLh.has hi rfl (fun la' h' => k ad D E p l ev s m args below meth c H locs la' hCF (Lh.sto1 hLh h') hP hD hS)
theorem qs_iinc {X : CXT} (i : Nat) (n : Int) {aux : Nat × Nat × Nat} {v : Int} {pc : Nat} {ls : List (Option Value)} {st : List Value} {h : List va_E} {g : Option Prop} {s' : SS} (hd : decode X.1.2.1 pc = .ok (.iinc i n, iln (.iinc i n))) (hl : lnk X.1.1.cls (.iinc i n, aux, v) = true) (hp : pin X.1.2.2.1 (.iinc i n, aux, v) (pc, ls, st, h) = some (g, s')) (hg : ∀ q, g = some q → q) (k : AQ X s'.1 s'.2.1 s'.2.2.1 s'.2.2.2) : AQ X pc ls st h := by
    intro ad D E p l ev s m args below meth c H locs la hCF hLh hP hD hS
    obtain ⟨hx, hb, hr, hml, hlk, hown, hts, hK, hN, hSc⟩ := id hCF
    obtain ⟨w, e2, hi, rfl, rfl⟩ := incI_eq hp
    obtain ⟨kp, hkp⟩ := toLv_place (ad := ad) e2
    exact lv_iinc hx hb hd hLh.has hkp rfl hi rfl (fun la' h' => k ad D E p l ev s m args below meth c H locs la' hCF (Lh.sto1 (v := .int (w + Int32.ofInt n)) hLh h') hP hD hS)
theorem qs_dup {X : CXT}  {aux : Nat × Nat × Nat} {v : Int} {pc : Nat} {ls : List (Option Value)} {st : List Value} {h : List va_E} {g : Option Prop} {s' : SS} (hd : decode X.1.2.1 pc = .ok (.dup, iln (.dup))) (hl : lnk X.1.1.cls (.dup, aux, v) = true) (hp : pin X.1.2.2.1 (.dup, aux, v) (pc, ls, st, h) = some (g, s')) (hg : ∀ q, g = some q → q) (k : AQ X s'.1 s'.2.1 s'.2.2.1 s'.2.2.2) : AQ X pc ls st h := by
    intro ad D E p l ev s m args below meth c H locs la hCF hLh hP hD hS
    obtain ⟨hx, hb, hr, hml, hlk, hown, hts, hK, hN, hSc⟩ := id hCF
    obtain ⟨t, e1, rfl, rfl⟩ := nx_eq hp
    obtain ⟨w, r, rfl, rfl, hcat⟩ := dup1_eq e1
    exact lv_dup hx hb hd (by rw [gV_cat]; exact hcat) (k ad D E p l ev s m args below meth c H locs la hCF hLh hP hD hS)
theorem qs_dup2 {X : CXT}  {aux : Nat × Nat × Nat} {v : Int} {pc : Nat} {ls : List (Option Value)} {st : List Value} {h : List va_E} {g : Option Prop} {s' : SS} (hd : decode X.1.2.1 pc = .ok (.dup2, iln (.dup2))) (hl : lnk X.1.1.cls (.dup2, aux, v) = true) (hp : pin X.1.2.2.1 (.dup2, aux, v) (pc, ls, st, h) = some (g, s')) (hg : ∀ q, g = some q → q) (k : AQ X s'.1 s'.2.1 s'.2.2.1 s'.2.2.2) : AQ X pc ls st h := by
    intro ad D E p l ev s m args below meth c H locs la hCF hLh hP hD hS
    obtain ⟨hx, hb, hr, hml, hlk, hown, hts, hK, hN, hSc⟩ := id hCF
    obtain ⟨t, e1, rfl, rfl⟩ := nx_eq hp
    obtain ⟨w, z, r, rfl, rfl, hcat, hcat2⟩ := dup2s_eq e1
    exact lv_dup2_11 hx hb hd (by rw [gV_cat]; exact hcat) (by rw [gV_cat]; exact hcat2) (k ad D E p l ev s m args below meth c H locs la hCF hLh hP hD hS)
theorem qs_pop {X : CXT}  {aux : Nat × Nat × Nat} {v : Int} {pc : Nat} {ls : List (Option Value)} {st : List Value} {h : List va_E} {g : Option Prop} {s' : SS} (hd : decode X.1.2.1 pc = .ok (.pop, iln (.pop))) (hl : lnk X.1.1.cls (.pop, aux, v) = true) (hp : pin X.1.2.2.1 (.pop, aux, v) (pc, ls, st, h) = some (g, s')) (hg : ∀ q, g = some q → q) (k : AQ X s'.1 s'.2.1 s'.2.2.1 s'.2.2.2) : AQ X pc ls st h := by
    intro ad D E p l ev s m args below meth c H locs la hCF hLh hP hD hS
    obtain ⟨hx, hb, hr, hml, hlk, hown, hts, hK, hN, hSc⟩ := id hCF
    obtain ⟨t, e1, rfl, rfl⟩ := nx_eq hp
    obtain ⟨w, r, rfl, rfl, hcat⟩ := pop1_eq e1
    exact lv_pop hx hb hd (by rw [gV_cat]; exact hcat) (k ad D E p l ev s m args below meth c H locs la hCF hLh hP hD hS)
theorem qs_iadd {X : CXT}  {aux : Nat × Nat × Nat} {v : Int} {pc : Nat} {ls : List (Option Value)} {st : List Value} {h : List va_E} {g : Option Prop} {s' : SS} (hd : decode X.1.2.1 pc = .ok (.iadd, iln (.iadd))) (hl : lnk X.1.1.cls (.iadd, aux, v) = true) (hp : pin X.1.2.2.1 (.iadd, aux, v) (pc, ls, st, h) = some (g, s')) (hg : ∀ q, g = some q → q) (k : AQ X s'.1 s'.2.1 s'.2.2.1 s'.2.2.2) : AQ X pc ls st h := by
    intro ad D E p l ev s m args below meth c H locs la hCF hLh hP hD hS
    obtain ⟨hx, hb, hr, hml, hlk, hown, hts, hK, hN, hSc⟩ := id hCF
    obtain ⟨t, e1, rfl, rfl⟩ := nx_eq hp
    obtain ⟨a, b, r, rfl, rfl⟩ := st2i_eq e1
    exact lv_iadd hx hb hd (k ad D E p l ev s m args below meth c H locs la hCF hLh hP hD hS)
theorem qs_isub {X : CXT}  {aux : Nat × Nat × Nat} {v : Int} {pc : Nat} {ls : List (Option Value)} {st : List Value} {h : List va_E} {g : Option Prop} {s' : SS} (hd : decode X.1.2.1 pc = .ok (.isub, iln (.isub))) (hl : lnk X.1.1.cls (.isub, aux, v) = true) (hp : pin X.1.2.2.1 (.isub, aux, v) (pc, ls, st, h) = some (g, s')) (hg : ∀ q, g = some q → q) (k : AQ X s'.1 s'.2.1 s'.2.2.1 s'.2.2.2) : AQ X pc ls st h := by
    intro ad D E p l ev s m args below meth c H locs la hCF hLh hP hD hS
    obtain ⟨hx, hb, hr, hml, hlk, hown, hts, hK, hN, hSc⟩ := id hCF
    obtain ⟨t, e1, rfl, rfl⟩ := nx_eq hp
    obtain ⟨a, b, r, rfl, rfl⟩ := st2i_eq e1
    exact lv_isub hx hb hd (k ad D E p l ev s m args below meth c H locs la hCF hLh hP hD hS)
theorem qs_imul {X : CXT}  {aux : Nat × Nat × Nat} {v : Int} {pc : Nat} {ls : List (Option Value)} {st : List Value} {h : List va_E} {g : Option Prop} {s' : SS} (hd : decode X.1.2.1 pc = .ok (.imul, iln (.imul))) (hl : lnk X.1.1.cls (.imul, aux, v) = true) (hp : pin X.1.2.2.1 (.imul, aux, v) (pc, ls, st, h) = some (g, s')) (hg : ∀ q, g = some q → q) (k : AQ X s'.1 s'.2.1 s'.2.2.1 s'.2.2.2) : AQ X pc ls st h := by
    intro ad D E p l ev s m args below meth c H locs la hCF hLh hP hD hS
    obtain ⟨hx, hb, hr, hml, hlk, hown, hts, hK, hN, hSc⟩ := id hCF
    obtain ⟨t, e1, rfl, rfl⟩ := nx_eq hp
    obtain ⟨a, b, r, rfl, rfl⟩ := st2i_eq e1
    exact lv_imul hx hb hd (k ad D E p l ev s m args below meth c H locs la hCF hLh hP hD hS)
theorem qs_iand {X : CXT}  {aux : Nat × Nat × Nat} {v : Int} {pc : Nat} {ls : List (Option Value)} {st : List Value} {h : List va_E} {g : Option Prop} {s' : SS} (hd : decode X.1.2.1 pc = .ok (.iand, iln (.iand))) (hl : lnk X.1.1.cls (.iand, aux, v) = true) (hp : pin X.1.2.2.1 (.iand, aux, v) (pc, ls, st, h) = some (g, s')) (hg : ∀ q, g = some q → q) (k : AQ X s'.1 s'.2.1 s'.2.2.1 s'.2.2.2) : AQ X pc ls st h := by
    intro ad D E p l ev s m args below meth c H locs la hCF hLh hP hD hS
    obtain ⟨hx, hb, hr, hml, hlk, hown, hts, hK, hN, hSc⟩ := id hCF
    obtain ⟨t, e1, rfl, rfl⟩ := nx_eq hp
    obtain ⟨a, b, r, rfl, rfl⟩ := st2i_eq e1
    exact lv_iand hx hb hd (k ad D E p l ev s m args below meth c H locs la hCF hLh hP hD hS)
theorem qs_ior {X : CXT}  {aux : Nat × Nat × Nat} {v : Int} {pc : Nat} {ls : List (Option Value)} {st : List Value} {h : List va_E} {g : Option Prop} {s' : SS} (hd : decode X.1.2.1 pc = .ok (.ior, iln (.ior))) (hl : lnk X.1.1.cls (.ior, aux, v) = true) (hp : pin X.1.2.2.1 (.ior, aux, v) (pc, ls, st, h) = some (g, s')) (hg : ∀ q, g = some q → q) (k : AQ X s'.1 s'.2.1 s'.2.2.1 s'.2.2.2) : AQ X pc ls st h := by
    intro ad D E p l ev s m args below meth c H locs la hCF hLh hP hD hS
    obtain ⟨hx, hb, hr, hml, hlk, hown, hts, hK, hN, hSc⟩ := id hCF
    obtain ⟨t, e1, rfl, rfl⟩ := nx_eq hp
    obtain ⟨a, b, r, rfl, rfl⟩ := st2i_eq e1
    exact lv_ior hx hb hd (k ad D E p l ev s m args below meth c H locs la hCF hLh hP hD hS)
theorem qs_ixor {X : CXT}  {aux : Nat × Nat × Nat} {v : Int} {pc : Nat} {ls : List (Option Value)} {st : List Value} {h : List va_E} {g : Option Prop} {s' : SS} (hd : decode X.1.2.1 pc = .ok (.ixor, iln (.ixor))) (hl : lnk X.1.1.cls (.ixor, aux, v) = true) (hp : pin X.1.2.2.1 (.ixor, aux, v) (pc, ls, st, h) = some (g, s')) (hg : ∀ q, g = some q → q) (k : AQ X s'.1 s'.2.1 s'.2.2.1 s'.2.2.2) : AQ X pc ls st h := by
    intro ad D E p l ev s m args below meth c H locs la hCF hLh hP hD hS
    obtain ⟨hx, hb, hr, hml, hlk, hown, hts, hK, hN, hSc⟩ := id hCF
    obtain ⟨t, e1, rfl, rfl⟩ := nx_eq hp
    obtain ⟨a, b, r, rfl, rfl⟩ := st2i_eq e1
    exact lv_ixor hx hb hd (k ad D E p l ev s m args below meth c H locs la hCF hLh hP hD hS)
theorem qs_ishl {X : CXT}  {aux : Nat × Nat × Nat} {v : Int} {pc : Nat} {ls : List (Option Value)} {st : List Value} {h : List va_E} {g : Option Prop} {s' : SS} (hd : decode X.1.2.1 pc = .ok (.ishl, iln (.ishl))) (hl : lnk X.1.1.cls (.ishl, aux, v) = true) (hp : pin X.1.2.2.1 (.ishl, aux, v) (pc, ls, st, h) = some (g, s')) (hg : ∀ q, g = some q → q) (k : AQ X s'.1 s'.2.1 s'.2.2.1 s'.2.2.2) : AQ X pc ls st h := by
    intro ad D E p l ev s m args below meth c H locs la hCF hLh hP hD hS
    obtain ⟨hx, hb, hr, hml, hlk, hown, hts, hK, hN, hSc⟩ := id hCF
    obtain ⟨t, e1, rfl, rfl⟩ := nx_eq hp
    obtain ⟨a, b, r, rfl, rfl⟩ := st2i_eq e1
    exact lv_ishl hx hb hd (k ad D E p l ev s m args below meth c H locs la hCF hLh hP hD hS)
theorem qs_ishr {X : CXT}  {aux : Nat × Nat × Nat} {v : Int} {pc : Nat} {ls : List (Option Value)} {st : List Value} {h : List va_E} {g : Option Prop} {s' : SS} (hd : decode X.1.2.1 pc = .ok (.ishr, iln (.ishr))) (hl : lnk X.1.1.cls (.ishr, aux, v) = true) (hp : pin X.1.2.2.1 (.ishr, aux, v) (pc, ls, st, h) = some (g, s')) (hg : ∀ q, g = some q → q) (k : AQ X s'.1 s'.2.1 s'.2.2.1 s'.2.2.2) : AQ X pc ls st h := by
    intro ad D E p l ev s m args below meth c H locs la hCF hLh hP hD hS
    obtain ⟨hx, hb, hr, hml, hlk, hown, hts, hK, hN, hSc⟩ := id hCF
    obtain ⟨t, e1, rfl, rfl⟩ := nx_eq hp
    obtain ⟨a, b, r, rfl, rfl⟩ := st2i_eq e1
    exact lv_ishr hx hb hd (k ad D E p l ev s m args below meth c H locs la hCF hLh hP hD hS)
theorem qs_iushr {X : CXT}  {aux : Nat × Nat × Nat} {v : Int} {pc : Nat} {ls : List (Option Value)} {st : List Value} {h : List va_E} {g : Option Prop} {s' : SS} (hd : decode X.1.2.1 pc = .ok (.iushr, iln (.iushr))) (hl : lnk X.1.1.cls (.iushr, aux, v) = true) (hp : pin X.1.2.2.1 (.iushr, aux, v) (pc, ls, st, h) = some (g, s')) (hg : ∀ q, g = some q → q) (k : AQ X s'.1 s'.2.1 s'.2.2.1 s'.2.2.2) : AQ X pc ls st h := by
    intro ad D E p l ev s m args below meth c H locs la hCF hLh hP hD hS
    obtain ⟨hx, hb, hr, hml, hlk, hown, hts, hK, hN, hSc⟩ := id hCF
    obtain ⟨t, e1, rfl, rfl⟩ := nx_eq hp
    obtain ⟨a, b, r, rfl, rfl⟩ := st2i_eq e1
    exact lv_iushr hx hb hd rfl (k ad D E p l ev s m args below meth c H locs la hCF hLh hP hD hS)
theorem qs_ladd {X : CXT}  {aux : Nat × Nat × Nat} {v : Int} {pc : Nat} {ls : List (Option Value)} {st : List Value} {h : List va_E} {g : Option Prop} {s' : SS} (hd : decode X.1.2.1 pc = .ok (.ladd, iln (.ladd))) (hl : lnk X.1.1.cls (.ladd, aux, v) = true) (hp : pin X.1.2.2.1 (.ladd, aux, v) (pc, ls, st, h) = some (g, s')) (hg : ∀ q, g = some q → q) (k : AQ X s'.1 s'.2.1 s'.2.2.1 s'.2.2.2) : AQ X pc ls st h := by
    intro ad D E p l ev s m args below meth c H locs la hCF hLh hP hD hS
    obtain ⟨hx, hb, hr, hml, hlk, hown, hts, hK, hN, hSc⟩ := id hCF
    obtain ⟨t, e1, rfl, rfl⟩ := nx_eq hp
    obtain ⟨a, b, r, rfl, rfl⟩ := st2l_eq e1
    exact lv_ladd hx hb hd (k ad D E p l ev s m args below meth c H locs la hCF hLh hP hD hS)
theorem qs_lsub {X : CXT}  {aux : Nat × Nat × Nat} {v : Int} {pc : Nat} {ls : List (Option Value)} {st : List Value} {h : List va_E} {g : Option Prop} {s' : SS} (hd : decode X.1.2.1 pc = .ok (.lsub, iln (.lsub))) (hl : lnk X.1.1.cls (.lsub, aux, v) = true) (hp : pin X.1.2.2.1 (.lsub, aux, v) (pc, ls, st, h) = some (g, s')) (hg : ∀ q, g = some q → q) (k : AQ X s'.1 s'.2.1 s'.2.2.1 s'.2.2.2) : AQ X pc ls st h := by
    intro ad D E p l ev s m args below meth c H locs la hCF hLh hP hD hS
    obtain ⟨hx, hb, hr, hml, hlk, hown, hts, hK, hN, hSc⟩ := id hCF
    obtain ⟨t, e1, rfl, rfl⟩ := nx_eq hp
    obtain ⟨a, b, r, rfl, rfl⟩ := st2l_eq e1
    exact lv_lsub hx hb hd (k ad D E p l ev s m args below meth c H locs la hCF hLh hP hD hS)
theorem qs_lmul {X : CXT}  {aux : Nat × Nat × Nat} {v : Int} {pc : Nat} {ls : List (Option Value)} {st : List Value} {h : List va_E} {g : Option Prop} {s' : SS} (hd : decode X.1.2.1 pc = .ok (.lmul, iln (.lmul))) (hl : lnk X.1.1.cls (.lmul, aux, v) = true) (hp : pin X.1.2.2.1 (.lmul, aux, v) (pc, ls, st, h) = some (g, s')) (hg : ∀ q, g = some q → q) (k : AQ X s'.1 s'.2.1 s'.2.2.1 s'.2.2.2) : AQ X pc ls st h := by
    intro ad D E p l ev s m args below meth c H locs la hCF hLh hP hD hS
    obtain ⟨hx, hb, hr, hml, hlk, hown, hts, hK, hN, hSc⟩ := id hCF
    obtain ⟨t, e1, rfl, rfl⟩ := nx_eq hp
    obtain ⟨a, b, r, rfl, rfl⟩ := st2l_eq e1
    exact lv_lmul hx hb hd (k ad D E p l ev s m args below meth c H locs la hCF hLh hP hD hS)
theorem qs_land {X : CXT}  {aux : Nat × Nat × Nat} {v : Int} {pc : Nat} {ls : List (Option Value)} {st : List Value} {h : List va_E} {g : Option Prop} {s' : SS} (hd : decode X.1.2.1 pc = .ok (.land, iln (.land))) (hl : lnk X.1.1.cls (.land, aux, v) = true) (hp : pin X.1.2.2.1 (.land, aux, v) (pc, ls, st, h) = some (g, s')) (hg : ∀ q, g = some q → q) (k : AQ X s'.1 s'.2.1 s'.2.2.1 s'.2.2.2) : AQ X pc ls st h := by
    intro ad D E p l ev s m args below meth c H locs la hCF hLh hP hD hS
    obtain ⟨hx, hb, hr, hml, hlk, hown, hts, hK, hN, hSc⟩ := id hCF
    obtain ⟨t, e1, rfl, rfl⟩ := nx_eq hp
    obtain ⟨a, b, r, rfl, rfl⟩ := st2l_eq e1
    exact lv_land hx hb hd (k ad D E p l ev s m args below meth c H locs la hCF hLh hP hD hS)
theorem qs_lor {X : CXT}  {aux : Nat × Nat × Nat} {v : Int} {pc : Nat} {ls : List (Option Value)} {st : List Value} {h : List va_E} {g : Option Prop} {s' : SS} (hd : decode X.1.2.1 pc = .ok (.lor, iln (.lor))) (hl : lnk X.1.1.cls (.lor, aux, v) = true) (hp : pin X.1.2.2.1 (.lor, aux, v) (pc, ls, st, h) = some (g, s')) (hg : ∀ q, g = some q → q) (k : AQ X s'.1 s'.2.1 s'.2.2.1 s'.2.2.2) : AQ X pc ls st h := by
    intro ad D E p l ev s m args below meth c H locs la hCF hLh hP hD hS
    obtain ⟨hx, hb, hr, hml, hlk, hown, hts, hK, hN, hSc⟩ := id hCF
    obtain ⟨t, e1, rfl, rfl⟩ := nx_eq hp
    obtain ⟨a, b, r, rfl, rfl⟩ := st2l_eq e1
    exact lv_lor hx hb hd (k ad D E p l ev s m args below meth c H locs la hCF hLh hP hD hS)
theorem qs_lcmp {X : CXT}  {aux : Nat × Nat × Nat} {v : Int} {pc : Nat} {ls : List (Option Value)} {st : List Value} {h : List va_E} {g : Option Prop} {s' : SS} (hd : decode X.1.2.1 pc = .ok (.lcmp, iln (.lcmp))) (hl : lnk X.1.1.cls (.lcmp, aux, v) = true) (hp : pin X.1.2.2.1 (.lcmp, aux, v) (pc, ls, st, h) = some (g, s')) (hg : ∀ q, g = some q → q) (k : AQ X s'.1 s'.2.1 s'.2.2.1 s'.2.2.2) : AQ X pc ls st h := by
    intro ad D E p l ev s m args below meth c H locs la hCF hLh hP hD hS
    obtain ⟨hx, hb, hr, hml, hlk, hown, hts, hK, hN, hSc⟩ := id hCF
    obtain ⟨t, e1, rfl, rfl⟩ := nx_eq hp
    obtain ⟨a, b, r, rfl, rfl⟩ := st2l_eq e1
    exact W.lcmp hx hb hd (k ad D E p l ev s m args below meth c H locs la hCF hLh hP hD hS)
theorem qs_ineg {X : CXT}  {aux : Nat × Nat × Nat} {v : Int} {pc : Nat} {ls : List (Option Value)} {st : List Value} {h : List va_E} {g : Option Prop} {s' : SS} (hd : decode X.1.2.1 pc = .ok (.ineg, iln (.ineg))) (hl : lnk X.1.1.cls (.ineg, aux, v) = true) (hp : pin X.1.2.2.1 (.ineg, aux, v) (pc, ls, st, h) = some (g, s')) (hg : ∀ q, g = some q → q) (k : AQ X s'.1 s'.2.1 s'.2.2.1 s'.2.2.2) : AQ X pc ls st h := by
    intro ad D E p l ev s m args below meth c H locs la hCF hLh hP hD hS
    obtain ⟨hx, hb, hr, hml, hlk, hown, hts, hK, hN, hSc⟩ := id hCF
    obtain ⟨t, e1, rfl, rfl⟩ := nx_eq hp
    obtain ⟨a, r, rfl, rfl⟩ := st1i_eq e1
    exact lv_ineg hx hb hd (k ad D E p l ev s m args below meth c H locs la hCF hLh hP hD hS)
theorem qs_lneg {X : CXT}  {aux : Nat × Nat × Nat} {v : Int} {pc : Nat} {ls : List (Option Value)} {st : List Value} {h : List va_E} {g : Option Prop} {s' : SS} (hd : decode X.1.2.1 pc = .ok (.lneg, iln (.lneg))) (hl : lnk X.1.1.cls (.lneg, aux, v) = true) (hp : pin X.1.2.2.1 (.lneg, aux, v) (pc, ls, st, h) = some (g, s')) (hg : ∀ q, g = some q → q) (k : AQ X s'.1 s'.2.1 s'.2.2.1 s'.2.2.2) : AQ X pc ls st h := by
    intro ad D E p l ev s m args below meth c H locs la hCF hLh hP hD hS
    obtain ⟨hx, hb, hr, hml, hlk, hown, hts, hK, hN, hSc⟩ := id hCF
    obtain ⟨t, e1, rfl, rfl⟩ := nx_eq hp
    obtain ⟨a, r, rfl, rfl⟩ := st1l_eq e1
    exact lv_lneg hx hb hd (k ad D E p l ev s m args below meth c H locs la hCF hLh hP hD hS)
theorem qs_i2l {X : CXT}  {aux : Nat × Nat × Nat} {v : Int} {pc : Nat} {ls : List (Option Value)} {st : List Value} {h : List va_E} {g : Option Prop} {s' : SS} (hd : decode X.1.2.1 pc = .ok (.i2l, iln (.i2l))) (hl : lnk X.1.1.cls (.i2l, aux, v) = true) (hp : pin X.1.2.2.1 (.i2l, aux, v) (pc, ls, st, h) = some (g, s')) (hg : ∀ q, g = some q → q) (k : AQ X s'.1 s'.2.1 s'.2.2.1 s'.2.2.2) : AQ X pc ls st h := by
    intro ad D E p l ev s m args below meth c H locs la hCF hLh hP hD hS
    obtain ⟨hx, hb, hr, hml, hlk, hown, hts, hK, hN, hSc⟩ := id hCF
    obtain ⟨t, e1, rfl, rfl⟩ := nx_eq hp
    obtain ⟨a, r, rfl, rfl⟩ := st1i_eq e1
    exact lv_i2l hx hb hd rfl (k ad D E p l ev s m args below meth c H locs la hCF hLh hP hD hS)
theorem qs_l2i {X : CXT}  {aux : Nat × Nat × Nat} {v : Int} {pc : Nat} {ls : List (Option Value)} {st : List Value} {h : List va_E} {g : Option Prop} {s' : SS} (hd : decode X.1.2.1 pc = .ok (.l2i, iln (.l2i))) (hl : lnk X.1.1.cls (.l2i, aux, v) = true) (hp : pin X.1.2.2.1 (.l2i, aux, v) (pc, ls, st, h) = some (g, s')) (hg : ∀ q, g = some q → q) (k : AQ X s'.1 s'.2.1 s'.2.2.1 s'.2.2.2) : AQ X pc ls st h := by
    intro ad D E p l ev s m args below meth c H locs la hCF hLh hP hD hS
    obtain ⟨hx, hb, hr, hml, hlk, hown, hts, hK, hN, hSc⟩ := id hCF
    obtain ⟨t, e1, rfl, rfl⟩ := nx_eq hp
    obtain ⟨a, r, rfl, rfl⟩ := st1l_eq e1
    exact lv_l2i hx hb hd rfl (k ad D E p l ev s m args below meth c H locs la hCF hLh hP hD hS)
theorem qs_i2c {X : CXT}  {aux : Nat × Nat × Nat} {v : Int} {pc : Nat} {ls : List (Option Value)} {st : List Value} {h : List va_E} {g : Option Prop} {s' : SS} (hd : decode X.1.2.1 pc = .ok (.i2c, iln (.i2c))) (hl : lnk X.1.1.cls (.i2c, aux, v) = true) (hp : pin X.1.2.2.1 (.i2c, aux, v) (pc, ls, st, h) = some (g, s')) (hg : ∀ q, g = some q → q) (k : AQ X s'.1 s'.2.1 s'.2.2.1 s'.2.2.2) : AQ X pc ls st h := by
    intro ad D E p l ev s m args below meth c H locs la hCF hLh hP hD hS
    obtain ⟨hx, hb, hr, hml, hlk, hown, hts, hK, hN, hSc⟩ := id hCF
    obtain ⟨t, e1, rfl, rfl⟩ := nx_eq hp
    obtain ⟨a, r, rfl, rfl⟩ := st1i_eq e1
    exact lv_i2c hx hb hd rfl (k ad D E p l ev s m args below meth c H locs la hCF hLh hP hD hS)
theorem qs_lshl {X : CXT}  {aux : Nat × Nat × Nat} {v : Int} {pc : Nat} {ls : List (Option Value)} {st : List Value} {h : List va_E} {g : Option Prop} {s' : SS} (hd : decode X.1.2.1 pc = .ok (.lshl, iln (.lshl))) (hl : lnk X.1.1.cls (.lshl, aux, v) = true) (hp : pin X.1.2.2.1 (.lshl, aux, v) (pc, ls, st, h) = some (g, s')) (hg : ∀ q, g = some q → q) (k : AQ X s'.1 s'.2.1 s'.2.2.1 s'.2.2.2) : AQ X pc ls st h := by
    intro ad D E p l ev s m args below meth c H locs la hCF hLh hP hD hS
    obtain ⟨hx, hb, hr, hml, hlk, hown, hts, hK, hN, hSc⟩ := id hCF
    obtain ⟨t, e1, rfl, rfl⟩ := nx_eq hp
    obtain ⟨a, b, r, rfl, rfl⟩ := stli_eq e1
    exact lv_lshl hx hb hd rfl (k ad D E p l ev s m args below meth c H locs la hCF hLh hP hD hS)
theorem qs_lushr {X : CXT}  {aux : Nat × Nat × Nat} {v : Int} {pc : Nat} {ls : List (Option Value)} {st : List Value} {h : List va_E} {g : Option Prop} {s' : SS} (hd : decode X.1.2.1 pc = .ok (.lushr, iln (.lushr))) (hl : lnk X.1.1.cls (.lushr, aux, v) = true) (hp : pin X.1.2.2.1 (.lushr, aux, v) (pc, ls, st, h) = some (g, s')) (hg : ∀ q, g = some q → q) (k : AQ X s'.1 s'.2.1 s'.2.2.1 s'.2.2.2) : AQ X pc ls st h := by
    intro ad D E p l ev s m args below meth c H locs la hCF hLh hP hD hS
    obtain ⟨hx, hb, hr, hml, hlk, hown, hts, hK, hN, hSc⟩ := id hCF
    obtain ⟨t, e1, rfl, rfl⟩ := nx_eq hp
    obtain ⟨a, b, r, rfl, rfl⟩ := stli_eq e1
    exact lv_lushr hx hb hd rfl (k ad D E p l ev s m args below meth c H locs la hCF hLh hP hD hS)
theorem qs_idiv {X : CXT}  {aux : Nat × Nat × Nat} {v : Int} {pc : Nat} {ls : List (Option Value)} {st : List Value} {h : List va_E} {g : Option Prop} {s' : SS} (hd : decode X.1.2.1 pc = .ok (.idiv, iln (.idiv))) (hl : lnk X.1.1.cls (.idiv, aux, v) = true) (hp : pin X.1.2.2.1 (.idiv, aux, v) (pc, ls, st, h) = some (g, s')) (hg : ∀ q, g = some q → q) (k : AQ X s'.1 s'.2.1 s'.2.2.1 s'.2.2.2) : AQ X pc ls st h := by
    intro ad D E p l ev s m args below meth c H locs la hCF hLh hP hD hS
    obtain ⟨hx, hb, hr, hml, hlk, hown, hts, hK, hN, hSc⟩ := id hCF
    obtain ⟨a, b, r, rfl, rfl, rfl⟩ := gdI_eq hp
    exact lv_idiv hx hb hd (hg _ rfl) (k ad D E p l ev s m args below meth c H locs la hCF hLh hP hD hS)
theorem qs_irem {X : CXT}  {aux : Nat × Nat × Nat} {v : Int} {pc : Nat} {ls : List (Option Value)} {st : List Value} {h : List va_E} {g : Option Prop} {s' : SS} (hd : decode X.1.2.1 pc = .ok (.irem, iln (.irem))) (hl : lnk X.1.1.cls (.irem, aux, v) = true) (hp : pin X.1.2.2.1 (.irem, aux, v) (pc, ls, st, h) = some (g, s')) (hg : ∀ q, g = some q → q) (k : AQ X s'.1 s'.2.1 s'.2.2.1 s'.2.2.2) : AQ X pc ls st h := by
    intro ad D E p l ev s m args below meth c H locs la hCF hLh hP hD hS
    obtain ⟨hx, hb, hr, hml, hlk, hown, hts, hK, hN, hSc⟩ := id hCF
    obtain ⟨a, b, r, rfl, rfl, rfl⟩ := gdI_eq hp
    exact lv_irem hx hb hd (hg _ rfl) (k ad D E p l ev s m args below meth c H locs la hCF hLh hP hD hS)
theorem qs_ldiv {X : CXT}  {aux : Nat × Nat × Nat} {v : Int} {pc : Nat} {ls : List (Option Value)} {st : List Value} {h : List va_E} {g : Option Prop} {s' : SS} (hd : decode X.1.2.1 pc = .ok (.ldiv, iln (.ldiv))) (hl : lnk X.1.1.cls (.ldiv, aux, v) = true) (hp : pin X.1.2.2.1 (.ldiv, aux, v) (pc, ls, st, h) = some (g, s')) (hg : ∀ q, g = some q → q) (k : AQ X s'.1 s'.2.1 s'.2.2.1 s'.2.2.2) : AQ X pc ls st h := by
    intro ad D E p l ev s m args below meth c H locs la hCF hLh hP hD hS
    obtain ⟨hx, hb, hr, hml, hlk, hown, hts, hK, hN, hSc⟩ := id hCF
    obtain ⟨a, b, r, rfl, rfl, rfl⟩ := gdJ_eq hp
    exact lv_ldiv hx hb hd (hg _ rfl) (k ad D E p l ev s m args below meth c H locs la hCF hLh hP hD hS)
theorem qs_lrem {X : CXT}  {aux : Nat × Nat × Nat} {v : Int} {pc : Nat} {ls : List (Option Value)} {st : List Value} {h : List va_E} {g : Option Prop} {s' : SS} (hd : decode X.1.2.1 pc = .ok (.lrem, iln (.lrem))) (hl : lnk X.1.1.cls (.lrem, aux, v) = true) (hp : pin X.1.2.2.1 (.lrem, aux, v) (pc, ls, st, h) = some (g, s')) (hg : ∀ q, g = some q → q) (k : AQ X s'.1 s'.2.1 s'.2.2.1 s'.2.2.2) : AQ X pc ls st h := by
    intro ad D E p l ev s m args below meth c H locs la hCF hLh hP hD hS
    obtain ⟨hx, hb, hr, hml, hlk, hown, hts, hK, hN, hSc⟩ := id hCF
    obtain ⟨a, b, r, rfl, rfl, rfl⟩ := gdJ_eq hp
    exact lv_lrem hx hb hd (hg _ rfl) (k ad D E p l ev s m args below meth c H locs la hCF hLh hP hD hS)
theorem qs_goto {X : CXT} (off : Int) {aux : Nat × Nat × Nat} {v : Int} {pc : Nat} {ls : List (Option Value)} {st : List Value} {h : List va_E} {g : Option Prop} {s' : SS} (hd : decode X.1.2.1 pc = .ok (.goto off, iln (.goto off))) (hl : lnk X.1.1.cls (.goto off, aux, v) = true) (hp : pin X.1.2.2.1 (.goto off, aux, v) (pc, ls, st, h) = some (g, s')) (hg : ∀ q, g = some q → q) (k : AQ X s'.1 s'.2.1 s'.2.2.1 s'.2.2.2) : AQ X pc ls st h := by
    intro ad D E p l ev s m args below meth c H locs la hCF hLh hP hD hS
    obtain ⟨hx, hb, hr, hml, hlk, hown, hts, hK, hN, hSc⟩ := id hCF
    obtain ⟨e1, rfl, rfl⟩ := gotoS_eq hp
    exact lv_goto hx hb hd e1 (k ad D E p l ev s m args below meth c H locs la hCF hLh hP hD hS)
theorem qs_getfield {X : CXT} (i : Nat) {aux : Nat × Nat × Nat} {v : Int} {pc : Nat} {ls : List (Option Value)} {st : List Value} {h : List va_E} {g : Option Prop} {s' : SS} (hd : decode X.1.2.1 pc = .ok (.getfield i, iln (.getfield i))) (hl : lnk X.1.1.cls (.getfield i, aux, v) = true) (hp : pin X.1.2.2.1 (.getfield i, aux, v) (pc, ls, st, h) = some (g, s')) (hg : ∀ q, g = some q → q) (k : AQ X s'.1 s'.2.1 s'.2.2.1 s'.2.2.2) : AQ X pc ls st h := by
    intro ad D E p l ev s m args below meth c H locs la hCF hLh hP hD hS
    obtain ⟨hx, hb, hr, hml, hlk, hown, hts, hK, hN, hSc⟩ := id hCF
    obtain ⟨q, r, fs, w, rfl, e2, e3, rfl, rfl⟩ := getF_eq hp
    obtain ⟨cc, ecc⟩ : ∃ cc, vwCl[aux.1]? = some cc := by
      cases hq : vwCl[aux.1]? with
      | some cc => exact ⟨cc, rfl⟩
      | none => simp only [lnk, hq] at hl; cases hl
    have hl2 : lnkF X.1.1.cls i (.getfield i, aux, v) cc = true := by simpa only [lnk, ecc] using hl
    obtain ⟨hk, hw⟩ := lnkF_eq hl2
    obtain ⟨h1, ⟨ty0, h2⟩, h3⟩ := cls_ok _ _ ecc
    have e4 : (fs.map (gV ad))[aux.2.1]? = some (gV ad w) := by rw [List.getElem?_map, e3]; rfl
    have e6 := conc_at (ad := ad) (E := E) e2
    rw [gE_obj (vwCl_lt ecc)] at e6
    rcases hw with hw | hw
    · exact va_getN hx hb hts h1 hown hK hP q e6 ecc _ hk (nest_use hN hw) (fun _ h9 => h9) e4 hd (k ad D E p l ev s m args below meth c H locs la hCF hLh hP hD hS)
    · exact va_get hx hb hts h1 hown hK hP q e6 ecc _ hk (hts _ hw) (fun _ h9 => h9) e4 hd (k ad D E p l ev s m args below meth c H locs la hCF hLh hP hD hS)
theorem qs_putfield {X : CXT} (i : Nat) {aux : Nat × Nat × Nat} {v : Int} {pc : Nat} {ls : List (Option Value)} {st : List Value} {h : List va_E} {g : Option Prop} {s' : SS} (hd : decode X.1.2.1 pc = .ok (.putfield i, iln (.putfield i))) (hl : lnk X.1.1.cls (.putfield i, aux, v) = true) (hp : pin X.1.2.2.1 (.putfield i, aux, v) (pc, ls, st, h) = some (g, s')) (hg : ∀ q, g = some q → q) (k : AQ X s'.1 s'.2.1 s'.2.2.1 s'.2.2.2) : AQ X pc ls st h := by
    intro ad D E p l ev s m args below meth c H locs la hCF hLh hP hD hS
    obtain ⟨hx, hb, hr, hml, hlk, hown, hts, hK, hN, hSc⟩ := id hCF
    obtain ⟨cc, ecc⟩ : ∃ cc, vwCl[aux.1]? = some cc := by
      cases hq : vwCl[aux.1]? with
      | some cc => exact ⟨cc, rfl⟩
      | none => simp only [lnk, hq] at hl; cases hl
    obtain ⟨h1, ⟨ty0, h2⟩, h3⟩ := cls_ok _ _ ecc
    have hl2 : (!(cc.2.1 aux.2.1).2.2.2 && lnkF X.1.1.cls i (.putfield i, aux, v) cc) = true := by simpa only [lnk, ecc] using hl
    rw [Bool.and_eq_true] at hl2
    obtain ⟨hk, hw⟩ := lnkF_eq hl2.2
    have hfin : (cc.2.1 aux.2.1).2.2.2 = false := by simpa using hl2.1
    have hp2 : putF (pc, ls, st, h) aux.1 aux.2.1 (ty0 aux.2.1) = some (g, s') := by
      have hp3 := hp
      simp only [pin, ecc, h2 _ hk] at hp3
      exact hp3
    obtain ⟨w, q, r, fs, rfl, e2, e3, e4, rfl⟩ := putF_eq hp2
    obtain ⟨n1, n2⟩ := fitG_ok e4 hg ad
    have e5 : aux.2.1 < (fs.map (gV ad)).length := by rw [List.length_map]; exact e3
    have e6 := conc_at (ad := ad) (E := E) e2
    rw [gE_obj (vwCl_lt ecc)] at e6
    rcases hw with hw | hw
    · exact va_putN hx hb hts h1 ty0 h2 h3 hown hK hP hD hS q e6 ecc _ hk (nest_use hN hw) (fun _ h9 => h9) hfin (h2 _ hk) n1 n2 e5 hd (fun H1 locs1 hP1 hD1 hS1 => k ad D E p l ev s m args below meth c H1 locs1 la hCF hLh (conc_putF (vwCl_lt ecc) ▸ hP1) (conc_putF (vwCl_lt ecc) ▸ hD1) hS1)
    · exact va_put hx hb hts h1 ty0 h2 h3 hown hK hP hD hS q e6 ecc _ hk (hts _ hw) (fun _ h9 => h9) hfin (h2 _ hk) n1 n2 e5 hd (fun H1 locs1 hP1 hD1 hS1 => k ad D E p l ev s m args below meth c H1 locs1 la hCF hLh (conc_putF (vwCl_lt ecc) ▸ hP1) (conc_putF (vwCl_lt ecc) ▸ hD1) hS1)
theorem qs_iaload {X : CXT}  {aux : Nat × Nat × Nat} {v : Int} {pc : Nat} {ls : List (Option Value)} {st : List Value} {h : List va_E} {g : Option Prop} {s' : SS} (hd : decode X.1.2.1 pc = .ok (.iaload, iln (.iaload))) (hl : lnk X.1.1.cls (.iaload, aux, v) = true) (hp : pin X.1.2.2.1 (.iaload, aux, v) (pc, ls, st, h) = some (g, s')) (hg : ∀ q, g = some q → q) (k : AQ X s'.1 s'.2.1 s'.2.2.1 s'.2.2.2) : AQ X pc ls st h := by
    intro ad D E p l ev s m args below meth c H locs la hCF hLh hP hD hS
    obtain ⟨hx, hb, hr, hml, hlk, hown, hts, hK, hN, hSc⟩ := id hCF
    obtain ⟨i, q, r, n, f, rfl, e2, rfl, rfl⟩ := aldI_eq hp
    exact va_iald hx hb hK hP q 0 (conc_at e2) rfl (inb_vp (hg _ rfl)) hd (k ad D E p l ev s m args below meth c H locs la hCF hLh hP hD hS)
theorem qs_baload {X : CXT}  {aux : Nat × Nat × Nat} {v : Int} {pc : Nat} {ls : List (Option Value)} {st : List Value} {h : List va_E} {g : Option Prop} {s' : SS} (hd : decode X.1.2.1 pc = .ok (.baload, iln (.baload))) (hl : lnk X.1.1.cls (.baload, aux, v) = true) (hp : pin X.1.2.2.1 (.baload, aux, v) (pc, ls, st, h) = some (g, s')) (hg : ∀ q, g = some q → q) (k : AQ X s'.1 s'.2.1 s'.2.2.1 s'.2.2.2) : AQ X pc ls st h := by
    intro ad D E p l ev s m args below meth c H locs la hCF hLh hP hD hS
    obtain ⟨hx, hb, hr, hml, hlk, hown, hts, hK, hN, hSc⟩ := id hCF
    obtain ⟨i, q, r, n, f, rfl, e2, rfl, rfl⟩ := aldI_eq hp
    exact va_zald hx hb hK hP q 2 (conc_at e2) rfl (inb_vp (hg _ rfl)) hd (k ad D E p l ev s m args below meth c H locs la hCF hLh hP hD hS)
theorem qs_laload {X : CXT}  {aux : Nat × Nat × Nat} {v : Int} {pc : Nat} {ls : List (Option Value)} {st : List Value} {h : List va_E} {g : Option Prop} {s' : SS} (hd : decode X.1.2.1 pc = .ok (.laload, iln (.laload))) (hl : lnk X.1.1.cls (.laload, aux, v) = true) (hp : pin X.1.2.2.1 (.laload, aux, v) (pc, ls, st, h) = some (g, s')) (hg : ∀ q, g = some q → q) (k : AQ X s'.1 s'.2.1 s'.2.2.1 s'.2.2.2) : AQ X pc ls st h := by
    intro ad D E p l ev s m args below meth c H locs la hCF hLh hP hD hS
    obtain ⟨hx, hb, hr, hml, hlk, hown, hts, hK, hN, hSc⟩ := id hCF
    obtain ⟨i, q, r, n, f, rfl, e2, rfl, rfl⟩ := aldJ_eq hp
    exact va_lald hx hb hK hP q 1 (conc_at e2) rfl (inb_vp (hg _ rfl)) hd (k ad D E p l ev s m args below meth c H locs la hCF hLh hP hD hS)
theorem qs_iastore {X : CXT}  {aux : Nat × Nat × Nat} {v : Int} {pc : Nat} {ls : List (Option Value)} {st : List Value} {h : List va_E} {g : Option Prop} {s' : SS} (hd : decode X.1.2.1 pc = .ok (.iastore, iln (.iastore))) (hl : lnk X.1.1.cls (.iastore, aux, v) = true) (hp : pin X.1.2.2.1 (.iastore, aux, v) (pc, ls, st, h) = some (g, s')) (hg : ∀ q, g = some q → q) (k : AQ X s'.1 s'.2.1 s'.2.2.1 s'.2.2.2) : AQ X pc ls st h := by
    intro ad D E p l ev s m args below meth c H locs la hCF hLh hP hD hS
    obtain ⟨hx, hb, hr, hml, hlk, hown, hts, hK, hN, hSc⟩ := id hCF
    obtain ⟨w, i, q, r, n, f, rfl, e2, rfl, rfl⟩ := astI_eq hp
    exact va_iast hx hb hK hP hD hS q 0 (conc_at e2) rfl (inb_vp (hg _ rfl)) hd (fun H1 locs1 hP1 hD1 hS1 => k ad D E p l ev s m args below meth c H1 locs1 la hCF hLh (conc_set ▸ hP1) (conc_set ▸ hD1) hS1)
theorem qs_bastore {X : CXT}  {aux : Nat × Nat × Nat} {v : Int} {pc : Nat} {ls : List (Option Value)} {st : List Value} {h : List va_E} {g : Option Prop} {s' : SS} (hd : decode X.1.2.1 pc = .ok (.bastore, iln (.bastore))) (hl : lnk X.1.1.cls (.bastore, aux, v) = true) (hp : pin X.1.2.2.1 (.bastore, aux, v) (pc, ls, st, h) = some (g, s')) (hg : ∀ q, g = some q → q) (k : AQ X s'.1 s'.2.1 s'.2.2.1 s'.2.2.2) : AQ X pc ls st h := by
    intro ad D E p l ev s m args below meth c H locs la hCF hLh hP hD hS
    obtain ⟨hx, hb, hr, hml, hlk, hown, hts, hK, hN, hSc⟩ := id hCF
    obtain ⟨w, i, q, r, n, f, rfl, e2, rfl, rfl⟩ := astI_eq hp
    exact va_zast hx hb hK hP hD hS q 2 (conc_at e2) rfl (inb_vp (hg _ rfl)) hd (fun H1 locs1 hP1 hD1 hS1 => k ad D E p l ev s m args below meth c H1 locs1 la hCF hLh (conc_set ▸ hP1) (conc_set ▸ hD1) hS1)
theorem qs_lastore {X : CXT}  {aux : Nat × Nat × Nat} {v : Int} {pc : Nat} {ls : List (Option Value)} {st : List Value} {h : List va_E} {g : Option Prop} {s' : SS} (hd : decode X.1.2.1 pc = .ok (.lastore, iln (.lastore))) (hl : lnk X.1.1.cls (.lastore, aux, v) = true) (hp : pin X.1.2.2.1 (.lastore, aux, v) (pc, ls, st, h) = some (g, s')) (hg : ∀ q, g = some q → q) (k : AQ X s'.1 s'.2.1 s'.2.2.1 s'.2.2.2) : AQ X pc ls st h := by
    intro ad D E p l ev s m args below meth c H locs la hCF hLh hP hD hS
    obtain ⟨hx, hb, hr, hml, hlk, hown, hts, hK, hN, hSc⟩ := id hCF
    obtain ⟨w, i, q, r, n, f, rfl, e2, rfl, rfl⟩ := astJ_eq hp
    exact va_last hx hb hK hP hD hS q 1 (conc_at e2) rfl (inb_vp (hg _ rfl)) hd (fun H1 locs1 hP1 hD1 hS1 => k ad D E p l ev s m args below meth c H1 locs1 la hCF hLh (conc_set ▸ hP1) (conc_set ▸ hD1) hS1)
theorem qs_arraylength {X : CXT}  {aux : Nat × Nat × Nat} {v : Int} {pc : Nat} {ls : List (Option Value)} {st : List Value} {h : List va_E} {g : Option Prop} {s' : SS} (hd : decode X.1.2.1 pc = .ok (.arraylength, iln (.arraylength))) (hl : lnk X.1.1.cls (.arraylength, aux, v) = true) (hp : pin X.1.2.2.1 (.arraylength, aux, v) (pc, ls, st, h) = some (g, s')) (hg : ∀ q, g = some q → q) (k : AQ X s'.1 s'.2.1 s'.2.2.1 s'.2.2.2) : AQ X pc ls st h := by
    intro ad D E p l ev s m args below meth c H locs la hCF hLh hP hD hS
    obtain ⟨hx, hb, hr, hml, hlk, hown, hts, hK, hN, hSc⟩ := id hCF
    obtain ⟨q, r, e, n, rfl, e2, hor, rfl, rfl⟩ := alnA_eq hp
    have e3 : ∃ (kd : Nat) (z : vp_A), gE ad E e = .inl (E kd, z) ∧ z.1 = n ∧ kd < 5 := by
      rcases hor with ⟨kd, a, rfl, hk⟩ | ⟨cc, fs, rfl, hk, rfl⟩
      · exact ⟨kd, _, rfl, rfl, Nat.lt_of_lt_of_le hk (by decide)⟩
      · rcases hk with rfl | rfl
        · exact ⟨3, _, rfl, rfl, by omega⟩
        · exact ⟨4, _, rfl, rfl, by omega⟩
    obtain ⟨kd, z, e4, e5, hkd⟩ := e3
    have e6 := conc_at (ad := ad) (E := E) e2
    rw [e4] at e6
    obtain ⟨ty, hty⟩ : ∃ ty, (tysOf E)[kd]? = some (E kd, ty) := by
      match kd, hkd with
      | 0, _ => exact ⟨_, rfl⟩
      | 1, _ => exact ⟨_, rfl⟩
      | 2, _ => exact ⟨_, rfl⟩
      | 3, _ => exact ⟨_, rfl⟩
      | 4, _ => exact ⟨_, rfl⟩
    exact va_alen hx hb hK hP q kd e6 hty (by rw [e5]) hd (k ad D E p l ev s m args below meth c H locs la hCF hLh hP hD hS)
theorem AQ.step {X : CXT} {e : ENT} {pc : Nat} {ls : List (Option Value)} {st : List Value} {h : List va_E} {g : Option Prop} {s' : SS} (hc : chk X.1.1.cls X.1.2.1 pc e = true) (hp : pin X.1.2.2.1 e (pc, ls, st, h) = some (g, s')) (hg : ∀ q, g = some q → q) (k : AQ X s'.1 s'.2.1 s'.2.2.1 s'.2.2.2) : AQ X pc ls st h := by
  obtain ⟨hd, hl⟩ := chk_eq hc
  obtain ⟨i, aux, v⟩ := e
  cases i with
  | iconst n => exact qs_iconst n hd hl hp hg k
  | bipush n => exact qs_bipush n hd hl hp hg k
  | sipush n => exact qs_sipush n hd hl hp hg k
  | lconst n => exact qs_lconst n hd hl hp hg k
  | ldc n => exact qs_ldc n hd hl hp hg k
  | ldc2_w n => exact qs_ldc2_w n hd hl hp hg k
  | iload_n n => exact qs_iload_n n hd hl hp hg k
  | iload n => exact qs_iload n hd hl hp hg k
  | lload_n n => exact qs_lload_n n hd hl hp hg k
  | lload n => exact qs_lload n hd hl hp hg k
  | aload_n n => exact qs_aload_n n hd hl hp hg k
  | aload n => exact qs_aload n hd hl hp hg k
  | istore_n n => exact qs_istore_n n hd hl hp hg k
  | istore n => exact qs_istore n hd hl hp hg k
  | lstore_n n => exact qs_lstore_n n hd hl hp hg k
  | lstore n => exact qs_lstore n hd hl hp hg k
  | astore_n n => exact qs_astore_n n hd hl hp hg k
  | astore n => exact qs_astore n hd hl hp hg k
  | iinc i n => exact qs_iinc i n hd hl hp hg k
  | dup => exact qs_dup hd hl hp hg k
  | dup2 => exact qs_dup2 hd hl hp hg k
  | pop => exact qs_pop hd hl hp hg k
  | iadd => exact qs_iadd hd hl hp hg k
  | isub => exact qs_isub hd hl hp hg k
  | imul => exact qs_imul hd hl hp hg k
  | iand => exact qs_iand hd hl hp hg k
  | ior => exact qs_ior hd hl hp hg k
  | ixor => exact qs_ixor hd hl hp hg k
  | ishl => exact qs_ishl hd hl hp hg k
  | ishr => exact qs_ishr hd hl hp hg k
  | iushr => exact qs_iushr hd hl hp hg k
  | ladd => exact qs_ladd hd hl hp hg k
  | lsub => exact qs_lsub hd hl hp hg k
  | lmul => exact qs_lmul hd hl hp hg k
  | land => exact qs_land hd hl hp hg k
  | lor => exact qs_lor hd hl hp hg k
  | lcmp => exact qs_lcmp hd hl hp hg k
  | ineg => exact qs_ineg hd hl hp hg k
  | lneg => exact qs_lneg hd hl hp hg k
  | i2l => exact qs_i2l hd hl hp hg k
  | l2i => exact qs_l2i hd hl hp hg k
  | i2c => exact qs_i2c hd hl hp hg k
  | lshl => exact qs_lshl hd hl hp hg k
  | lushr => exact qs_lushr hd hl hp hg k
  | idiv => exact qs_idiv hd hl hp hg k
  | irem => exact qs_irem hd hl hp hg k
  | ldiv => exact qs_ldiv hd hl hp hg k
  | lrem => exact qs_lrem hd hl hp hg k
  | goto off => exact qs_goto off hd hl hp hg k
  | getfield i => exact qs_getfield i hd hl hp hg k
  | putfield i => exact qs_putfield i hd hl hp hg k
  | iaload => exact qs_iaload hd hl hp hg k
  | baload => exact qs_baload hd hl hp hg k
  | laload => exact qs_laload hd hl hp hg k
  | iastore => exact qs_iastore hd hl hp hg k
  | bastore => exact qs_bastore hd hl hp hg k
  | lastore => exact qs_lastore hd hl hp hg k
  | arraylength => exact qs_arraylength hd hl hp hg k
  | _ => cases hp
theorem AQ.run {X : CXT} : ∀ (seg : List (Nat × ENT)) {pc : Nat} {ls : List (Option Value)} {st : List Value} {h : List va_E} {C : Prop} {pc' : Nat} {ls' : List (Option Value)} {st' : List Value} {h' : List va_E}, segOK X.1.1.cls X.1.2.1 seg = true → prun X.1.2.2.1 seg (pc, ls, st, h) = some (C, pc', ls', st', h') → C → AQ X pc' ls' st' h' → AQ X pc ls st h
  | [], pc, ls, st, h, C, pc', ls', st', h', _, hr, _, k => by
    cases hr
    exact k
  | e :: t, pc, ls, st, h, C, pc', ls', st', h', hs, hr, hC, k => by
    unfold segOK at hs
    rw [List.all_cons, Bool.and_eq_true] at hs
    unfold prun at hr
    split at hr
    · rename_i hpc
      have hpc : pc = e.1 := of_decide_eq_true hpc
      split at hr
      · cases hr
      · rename_i g s1 hp
        split at hr
        · cases hr
        · rename_i C1 s2 hr2
          cases hr
          have hg : ∀ q, g = some q → q := by
            intro q hq
            subst hq
            exact hC.1
          have hC1 : C1 := by
            cases g with
            | none => exact hC
            | some q => exact hC.2
          refine AQ.step (e := e.2) (by rw [hpc]; exact hs.1) hp hg ?_
          exact AQ.run t hs.2 hr2 hC1 k
    · cases hr
theorem AQ.cnd {X : CXT} {i : Instr} {pc tgt nxt : Nat} {ls : List (Option Value)} {st r : List Value} {h : List va_E} {P : Prop} {b : Bool} {off : Int} (hs : segOK X.1.1.cls X.1.2.1 [(pc, i, (0, 0, 0), 0)] = true) (hc : cndF i st = some (P, b, off, r)) (ht : (pc : Int) + off = (tgt : Int)) (hn : pc + 3 = nxt)
    (kT : P → AQ X (bif b then tgt else nxt) ls r h) (kF : ¬ P → AQ X (bif b then nxt else tgt) ls r h) : AQ X pc ls st h := by
  intro ad D E p l ev s m args below meth c H locs la hCF hLh hP hD hS
  obtain ⟨hx, hb, hr, hml, hlk, hown, hts, hK, hN, hSc⟩ := id hCF
  subst hn
  unfold segOK at hs
  rw [List.all_cons, Bool.and_eq_true] at hs
  obtain ⟨hd, -⟩ := chk_eq hs.1
  have kT' := fun q => kT q ad D E p l ev s m args below meth c H locs la hCF hLh hP hD hS
  have kF' := fun q => kF q ad D E p l ev s m args below meth c H locs la hCF hLh hP hD hS
  unfold cndF at hc
  split at hc <;> first | (cases hc; done) | skip
  · cases hc; exact lv_if_eq hx hb hd ht (fun q => kT' q) (fun q => kF' q)
  · cases hc; exact lv_if_ne hx hb hd ht (fun q => kF' q) (fun q => kT' q)
  · cases hc; exact lv_if_lt hx hb hd ht (fun q => kT' q) (fun q => kF' q)
  · cases hc; exact lv_if_ge hx hb hd ht (fun q => kF' (Int32.not_lt.mpr q)) (fun q => kT' (Int32.not_le.mp q))
  · cases hc; exact lv_if_gt hx hb hd ht (fun q => kT' q) (fun q => kF' q)
  · cases hc; exact lv_if_le hx hb hd ht (fun q => kF' (Int32.not_lt.mpr q)) (fun q => kT' (Int32.not_le.mp q))
  · cases hc; exact lv_icmp_eq hx hb hd ht (fun q => kT' q) (fun q => kF' q)
  · cases hc; exact lv_icmp_ne hx hb hd ht (fun q => kF' q) (fun q => kT' q)
  · cases hc; exact lv_icmp_lt hx hb hd ht (fun q => kT' q) (fun q => kF' q)
  · cases hc; exact lv_icmp_ge hx hb hd ht (fun q => kF' (Int32.not_lt.mpr q)) (fun q => kT' (Int32.not_le.mp q))
  · cases hc; exact lv_icmp_gt hx hb hd ht (fun q => kT' q) (fun q => kF' q)
  · cases hc; exact lv_icmp_le hx hb hd ht (fun q => kF' (Int32.not_lt.mpr q)) (fun q => kT' (Int32.not_le.mp q))
theorem AQ.iret {M : MI} {d : Nat} {h0 h : List va_E} {pc : Nat} {ls : List (Option Value)} {v : Int32} (hs : segOK M.1.cls M.2.1 [(pc, .ireturn, (0, 0, 0), 0)] = true) (hr0 : M.2.2.2 = some .int) : AQ (M, d, some (.int v), h0, h) pc ls [.int v] h := by
  intro ad D E p l ev s m args below meth c H locs la hCF hLh hP hD hS
  obtain ⟨hx, hb, hr, hml, hlk, hown, hts, hK, hN, hSc⟩ := id hCF
  unfold segOK at hs
  rw [List.all_cons, Bool.and_eq_true] at hs
  obtain ⟨hd, -⟩ := chk_eq hs.1
  exact W.iret hx hb (hr.trans hr0) (fun t ht hW => ⟨⟨rfl, by rw [ht]; exact hP, va_K.moved hW.alike hK, hD⟩, hS.F ht⟩) hS.2.2 hd hlk
theorem AQ.vret {M : MI} {d : Nat} {h0 h : List va_E} {pc : Nat} {ls : List (Option Value)} (hs : segOK M.1.cls M.2.1 [(pc, .return_, (0, 0, 0), 0)] = true) (hr0 : M.2.2.2 = none) : AQ (M, d, none, h0, h) pc ls [] h := by
  intro ad D E p l ev s m args below meth c H locs la hCF hLh hP hD hS
  obtain ⟨hx, hb, hr, hml, hlk, hown, hts, hK, hN, hSc⟩ := id hCF
  unfold segOK at hs
  rw [List.all_cons, Bool.and_eq_true] at hs
  obtain ⟨hd, -⟩ := chk_eq hs.1
  exact W.vret hx hb (hr.trans hr0) (fun t ht hW => ⟨⟨rfl, by rw [ht]; exact hP, va_K.moved hW.alike hK, hD⟩, hS.F ht⟩) hS.2.2 hd hlk
