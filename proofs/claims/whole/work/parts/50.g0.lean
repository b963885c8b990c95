/-! ===== the general judgement: any room, any goal, cells may be made. Ids from 1000 on stand for what lies outside ===== -/
abbrev CXG : Type := MI × Room × List va_E × ((Nat → Nat) → (Nat → ClassId) → Array Value → State → Method → Prop) × ((Nat → Nat) → va_G → (Nat → ClassId) → List Frame → Array Value → State → State → Prop)
abbrev CXG.R (x : CXG) : Room := x.2.1
abbrev CXG.h0 (x : CXG) : List va_E := x.2.2.1
abbrev CXG.Pr (x : CXG) : (Nat → Nat) → (Nat → ClassId) → Array Value → State → Method → Prop := x.2.2.2.1
abbrev CXG.Q (x : CXG) : (Nat → Nat) → va_G → (Nat → ClassId) → List Frame → Array Value → State → State → Prop := x.2.2.2.2
def agr (n : Nat) (ad0 ad : Nat → Nat) : Prop := ∀ i : Nat, i < n ∨ 1000 ≤ i → ad i = ad0 i
def AG (x : CXG) (cl sl : Nat) (pc : Nat) (ls : List (Option Value)) (st : List Value) (h : List va_E) : Prop :=
  ∀ (ad0 ad : Nat → Nat) (D : va_G) (E : Nat → ClassId) (p : Program) (l : Launch) (e : Env) (s : State) (m : MethodId) (args : Array Value) (below : List Frame) (meth : Method) (c : Code) (H : Heap) (locs : List Loc) (la : Array Slot),
    CF x.1 D E (va_A (conc ad0 E x.h0) s.heap.size) p s m args meth c → (agr x.h0.length ad0 ad ∧ x.Pr ad0 E args s meth) → Lh ad la x.1.2.2.1 ls → va_P D vwCl (conc ad E h) H → va_D (va_A (conc ad0 E x.h0) s.heap.size) (conc ad E h) → va_S (va_A (conc ad0 E x.h0) s.heap.size) s.heap H locs →
    W p l e x.R s m args below meth c H locs cl sl (x.Q ad0 D E below args s) (F0 m pc la (st.map (gV ad)))
theorem gs_iconst {X : CXG} {cl sl : Nat} (n : Int) {aux : Nat × Nat × Nat} {v : Int} {pc : Nat} {ls : List (Option Value)} {st : List Value} {h : List va_E} {g : Option Prop} {s' : SS} (hd : decode X.1.2.1 pc = .ok (.iconst n, iln (.iconst n))) (hl : lnk X.1.1.cls (.iconst n, aux, v) = true) (hp : pin X.1.2.2.1 (.iconst n, aux, v) (pc, ls, st, h) = some (g, s')) (hg : ∀ q, g = some q → q) (k : AG X cl sl s'.1 s'.2.1 s'.2.2.1 s'.2.2.2) : AG X cl sl pc ls st h := by
    intro ad0 ad D E p l ev s m args below meth c H locs la hCF hag hLh hP hD hS
    obtain ⟨hx, hb, hr, hml, hlk, hown, hts, hK, hN, hSc⟩ := id hCF
    have hp2 : some ((none : Option Prop), pc + 1, ls, Value.int (Int32.ofInt n) :: st, h) = some (g, s') := hp
    cases hp2
    exact lv_iconst hx hb hd rfl (k ad0 ad D E p l ev s m args below meth c H locs la hCF hag hLh hP hD hS)
theorem gs_bipush {X : CXG} {cl sl : Nat} (n : Int) {aux : Nat × Nat × Nat} {v : Int} {pc : Nat} {ls : List (Option Value)} {st : List Value} {h : List va_E} {g : Option Prop} {s' : SS} (hd : decode X.1.2.1 pc = .ok (.bipush n, iln (.bipush n))) (hl : lnk X.1.1.cls (.bipush n, aux, v) = true) (hp : pin X.1.2.2.1 (.bipush n, aux, v) (pc, ls, st, h) = some (g, s')) (hg : ∀ q, g = some q → q) (k : AG X cl sl s'.1 s'.2.1 s'.2.2.1 s'.2.2.2) : AG X cl sl pc ls st h := by
    intro ad0 ad D E p l ev s m args below meth c H locs la hCF hag hLh hP hD hS
    obtain ⟨hx, hb, hr, hml, hlk, hown, hts, hK, hN, hSc⟩ := id hCF
    have hp2 : some ((none : Option Prop), pc + 2, ls, Value.int ((Int8.ofInt n).toInt32) :: st, h) = some (g, s') := hp
    cases hp2
    exact lv_bipush hx hb hd rfl (k ad0 ad D E p l ev s m args below meth c H locs la hCF hag hLh hP hD hS)
theorem gs_sipush {X : CXG} {cl sl : Nat} (n : Int) {aux : Nat × Nat × Nat} {v : Int} {pc : Nat} {ls : List (Option Value)} {st : List Value} {h : List va_E} {g : Option Prop} {s' : SS} (hd : decode X.1.2.1 pc = .ok (.sipush n, iln (.sipush n))) (hl : lnk X.1.1.cls (.sipush n, aux, v) = true) (hp : pin X.1.2.2.1 (.sipush n, aux, v) (pc, ls, st, h) = some (g, s')) (hg : ∀ q, g = some q → q) (k : AG X cl sl s'.1 s'.2.1 s'.2.2.1 s'.2.2.2) : AG X cl sl pc ls st h := by
    intro ad0 ad D E p l ev s m args below meth c H locs la hCF hag hLh hP hD hS
    obtain ⟨hx, hb, hr, hml, hlk, hown, hts, hK, hN, hSc⟩ := id hCF
    have hp2 : some ((none : Option Prop), pc + 3, ls, Value.int ((Int16.ofInt n).toInt32) :: st, h) = some (g, s') := hp
    cases hp2
    exact lv_sipush hx hb hd rfl (k ad0 ad D E p l ev s m args below meth c H locs la hCF hag hLh hP hD hS)
theorem gs_lconst {X : CXG} {cl sl : Nat} (n : Fin 2) {aux : Nat × Nat × Nat} {v : Int} {pc : Nat} {ls : List (Option Value)} {st : List Value} {h : List va_E} {g : Option Prop} {s' : SS} (hd : decode X.1.2.1 pc = .ok (.lconst n, iln (.lconst n))) (hl : lnk X.1.1.cls (.lconst n, aux, v) = true) (hp : pin X.1.2.2.1 (.lconst n, aux, v) (pc, ls, st, h) = some (g, s')) (hg : ∀ q, g = some q → q) (k : AG X cl sl s'.1 s'.2.1 s'.2.2.1 s'.2.2.2) : AG X cl sl pc ls st h := by
    intro ad0 ad D E p l ev s m args below meth c H locs la hCF hag hLh hP hD hS
    obtain ⟨hx, hb, hr, hml, hlk, hown, hts, hK, hN, hSc⟩ := id hCF
    have hp2 : some ((none : Option Prop), pc + 1, ls, Value.long (Int64.ofNat n) :: st, h) = some (g, s') := hp
    cases hp2
    exact lv_lconst hx hb hd rfl (k ad0 ad D E p l ev s m args below meth c H locs la hCF hag hLh hP hD hS)
theorem gs_ldc {X : CXG} {cl sl : Nat} (n : Nat) {aux : Nat × Nat × Nat} {v : Int} {pc : Nat} {ls : List (Option Value)} {st : List Value} {h : List va_E} {g : Option Prop} {s' : SS} (hd : decode X.1.2.1 pc = .ok (.ldc n, iln (.ldc n))) (hl : lnk X.1.1.cls (.ldc n, aux, v) = true) (hp : pin X.1.2.2.1 (.ldc n, aux, v) (pc, ls, st, h) = some (g, s')) (hg : ∀ q, g = some q → q) (k : AG X cl sl s'.1 s'.2.1 s'.2.2.1 s'.2.2.2) : AG X cl sl pc ls st h := by
    intro ad0 ad D E p l ev s m args below meth c H locs la hCF hag hLh hP hD hS
    obtain ⟨hx, hb, hr, hml, hlk, hown, hts, hK, hN, hSc⟩ := id hCF
    have hp2 : some ((none : Option Prop), pc + 2, ls, Value.int (Int32.ofInt v) :: st, h) = some (g, s') := hp
    cases hp2
    exact lv_ldc hx hb hown (hts _ (wdOK_mem hl)) hd (k ad0 ad D E p l ev s m args below meth c H locs la hCF hag hLh hP hD hS)
theorem gs_ldc2_w {X : CXG} {cl sl : Nat} (n : Nat) {aux : Nat × Nat × Nat} {v : Int} {pc : Nat} {ls : List (Option Value)} {st : List Value} {h : List va_E} {g : Option Prop} {s' : SS} (hd : decode X.1.2.1 pc = .ok (.ldc2_w n, iln (.ldc2_w n))) (hl : lnk X.1.1.cls (.ldc2_w n, aux, v) = true) (hp : pin X.1.2.2.1 (.ldc2_w n, aux, v) (pc, ls, st, h) = some (g, s')) (hg : ∀ q, g = some q → q) (k : AG X cl sl s'.1 s'.2.1 s'.2.2.1 s'.2.2.2) : AG X cl sl pc ls st h := by
    intro ad0 ad D E p l ev s m args below meth c H locs la hCF hag hLh hP hD hS
    obtain ⟨hx, hb, hr, hml, hlk, hown, hts, hK, hN, hSc⟩ := id hCF
    have hp2 : some ((none : Option Prop), pc + 3, ls, Value.long (Int64.ofInt v) :: st, h) = some (g, s') := hp
    cases hp2
    exact lv_ldc2 hx hb hown (hts _ (wdOK_mem hl)) hd (k ad0 ad D E p l ev s m args below meth c H locs la hCF hag hLh hP hD hS)
theorem gs_iload_n {X : CXG} {cl sl : Nat} (n : Fin 4) {aux : Nat × Nat × Nat} {v : Int} {pc : Nat} {ls : List (Option Value)} {st : List Value} {h : List va_E} {g : Option Prop} {s' : SS} (hd : decode X.1.2.1 pc = .ok (.iload_n n, iln (.iload_n n))) (hl : lnk X.1.1.cls (.iload_n n, aux, v) = true) (hp : pin X.1.2.2.1 (.iload_n n, aux, v) (pc, ls, st, h) = some (g, s')) (hg : ∀ q, g = some q → q) (k : AG X cl sl s'.1 s'.2.1 s'.2.2.1 s'.2.2.2) : AG X cl sl pc ls st h := by
    intro ad0 ad D E p l ev s m args below meth c H locs la hCF hag hLh hP hD hS
    obtain ⟨hx, hb, hr, hml, hlk, hown, hts, hK, hN, hSc⟩ := id hCF
    obtain ⟨t, e1, rfl, rfl⟩ := nx_eq hp
    obtain ⟨w, e2, rfl⟩ := ldI_eq e1
    exact lv_iload_n hx hb hd rfl (hLh.2.2 _ _ e2) (k ad0 ad D E p l ev s m args below meth c H locs la hCF hag hLh hP hD hS)
theorem gs_iload {X : CXG} {cl sl : Nat} (n : Nat) {aux : Nat × Nat × Nat} {v : Int} {pc : Nat} {ls : List (Option Value)} {st : List Value} {h : List va_E} {g : Option Prop} {s' : SS} (hd : decode X.1.2.1 pc = .ok (.iload n, iln (.iload n))) (hl : lnk X.1.1.cls (.iload n, aux, v) = true) (hp : pin X.1.2.2.1 (.iload n, aux, v) (pc, ls, st, h) = some (g, s')) (hg : ∀ q, g = some q → q) (k : AG X cl sl s'.1 s'.2.1 s'.2.2.1 s'.2.2.2) : AG X cl sl pc ls st h := by
    intro ad0 ad D E p l ev s m args below meth c H locs la hCF hag hLh hP hD hS
    obtain ⟨hx, hb, hr, hml, hlk, hown, hts, hK, hN, hSc⟩ := id hCF
    obtain ⟨t, e1, rfl, rfl⟩ := nx_eq hp
    obtain ⟨w, e2, rfl⟩ := ldI_eq e1
    exact lv_iload hx hb hd (hLh.2.2 _ _ e2) (k ad0 ad D E p l ev s m args below meth c H locs la hCF hag hLh hP hD hS)
theorem gs_lload_n {X : CXG} {cl sl : Nat} (n : Fin 4) {aux : Nat × Nat × Nat} {v : Int} {pc : Nat} {ls : List (Option Value)} {st : List Value} {h : List va_E} {g : Option Prop} {s' : SS} (hd : decode X.1.2.1 pc = .ok (.lload_n n, iln (.lload_n n))) (hl : lnk X.1.1.cls (.lload_n n, aux, v) = true) (hp : pin X.1.2.2.1 (.lload_n n, aux, v) (pc, ls, st, h) = some (g, s')) (hg : ∀ q, g = some q → q) (k : AG X cl sl s'.1 s'.2.1 s'.2.2.1 s'.2.2.2) : AG X cl sl pc ls st h := by
    intro ad0 ad D E p l ev s m args below meth c H locs la hCF hag hLh hP hD hS
    obtain ⟨hx, hb, hr, hml, hlk, hown, hts, hK, hN, hSc⟩ := id hCF
    obtain ⟨t, e1, rfl, rfl⟩ := nx_eq hp
    obtain ⟨w, e2, rfl⟩ := ldJ_eq e1
    exact lv_lload_n hx hb hd rfl (hLh.2.2 _ _ e2) (k ad0 ad D E p l ev s m args below meth c H locs la hCF hag hLh hP hD hS)
theorem gs_lload {X : CXG} {cl sl : Nat} (n : Nat) {aux : Nat × Nat × Nat} {v : Int} {pc : Nat} {ls : List (Option Value)} {st : List Value} {h : List va_E} {g : Option Prop} {s' : SS} (hd : decode X.1.2.1 pc = .ok (.lload n, iln (.lload n))) (hl : lnk X.1.1.cls (.lload n, aux, v) = true) (hp : pin X.1.2.2.1 (.lload n, aux, v) (pc, ls, st, h) = some (g, s')) (hg : ∀ q, g = some q → q) (k : AG X cl sl s'.1 s'.2.1 s'.2.2.1 s'.2.2.2) : AG X cl sl pc ls st h := by
    intro ad0 ad D E p l ev s m args below meth c H locs la hCF hag hLh hP hD hS
    obtain ⟨hx, hb, hr, hml, hlk, hown, hts, hK, hN, hSc⟩ := id hCF
    obtain ⟨t, e1, rfl, rfl⟩ := nx_eq hp
    obtain ⟨w, e2, rfl⟩ := ldJ_eq e1
    exact lv_lload hx hb hd (hLh.2.2 _ _ e2) (k ad0 ad D E p l ev s m args below meth c H locs la hCF hag hLh hP hD hS)
theorem gs_aload_n {X : CXG} {cl sl : Nat} (n : Fin 4) {aux : Nat × Nat × Nat} {v : Int} {pc : Nat} {ls : List (Option Value)} {st : List Value} {h : List va_E} {g : Option Prop} {s' : SS} (hd : decode X.1.2.1 pc = .ok (.aload_n n, iln (.aload_n n))) (hl : lnk X.1.1.cls (.aload_n n, aux, v) = true) (hp : pin X.1.2.2.1 (.aload_n n, aux, v) (pc, ls, st, h) = some (g, s')) (hg : ∀ q, g = some q → q) (k : AG X cl sl s'.1 s'.2.1 s'.2.2.1 s'.2.2.2) : AG X cl sl pc ls st h := by
    intro ad0 ad D E p l ev s m args below meth c H locs la hCF hag hLh hP hD hS
    obtain ⟨hx, hb, hr, hml, hlk, hown, hts, hK, hN, hSc⟩ := id hCF
    obtain ⟨t, e1, rfl, rfl⟩ := nx_eq hp
    obtain ⟨w, e2, rfl⟩ := ldA_eq e1
    exact lv_aload_n hx hb hd rfl (hLh.2.2 _ _ e2) (k ad0 ad D E p l ev s m args below meth c H locs la hCF hag hLh hP hD hS)
theorem gs_aload {X : CXG} {cl sl : Nat} (n : Nat) {aux : Nat × Nat × Nat} {v : Int} {pc : Nat} {ls : List (Option Value)} {st : List Value} {h : List va_E} {g : Option Prop} {s' : SS} (hd : decode X.1.2.1 pc = .ok (.aload n, iln (.aload n))) (hl : lnk X.1.1.cls (.aload n, aux, v) = true) (hp : pin X.1.2.2.1 (.aload n, aux, v) (pc, ls, st, h) = some (g, s')) (hg : ∀ q, g = some q → q) (k : AG X cl sl s'.1 s'.2.1 s'.2.2.1 s'.2.2.2) : AG X cl sl pc ls st h := by
    intro ad0 ad D E p l ev s m args below meth c H locs la hCF hag hLh hP hD hS
    obtain ⟨hx, hb, hr, hml, hlk, hown, hts, hK, hN, hSc⟩ := id hCF
    obtain ⟨t, e1, rfl, rfl⟩ := nx_eq hp
    obtain ⟨w, e2, rfl⟩ := ldA_eq e1
    exact lv_aload hx hb hd (hLh.2.2 _ _ e2) (k ad0 ad D E p l ev s m args below meth c H locs la hCF hag hLh hP hD hS)
theorem gs_istore_n {X : CXG} {cl sl : Nat} (n : Fin 4) {aux : Nat × Nat × Nat} {v : Int} {pc : Nat} {ls : List (Option Value)} {st : List Value} {h : List va_E} {g : Option Prop} {s' : SS} (hd : decode X.1.2.1 pc = .ok (.istore_n n, iln (.istore_n n))) (hl : lnk X.1.1.cls (.istore_n n, aux, v) = true) (hp : pin X.1.2.2.1 (.istore_n n, aux, v) (pc, ls, st, h) = some (g, s')) (hg : ∀ q, g = some q → q) (k : AG X cl sl s'.1 s'.2.1 s'.2.2.1 s'.2.2.2) : AG X cl sl pc ls st h := by
    intro ad0 ad D E p l ev s m args below meth c H locs la hCF hag hLh hP hD hS
    obtain ⟨hx, hb, hr, hml, hlk, hown, hts, hK, hN, hSc⟩ := id hCF
    obtain ⟨w, r, rfl, hi, rfl, rfl⟩ := stI_eq hp
    exact lv_istore_n hx hb hd rfl hLh.has hi rfl (fun la' h' => k ad0 ad D E p l ev s m args below meth c H locs la' hCF hag (Lh.sto1 hLh h') hP hD hS)
theorem gs_istore {X : CXG} {cl sl : Nat} (n : Nat) {aux : Nat × Nat × Nat} {v : Int} {pc : Nat} {ls : List (Option Value)} {st : List Value} {h : List va_E} {g : Option Prop} {s' : SS} (hd : decode X.1.2.1 pc = .ok (.istore n, iln (.istore n))) (hl : lnk X.1.1.cls (.istore n, aux, v) = true) (hp : pin X.1.2.2.1 (.istore n, aux, v) (pc, ls, st, h) = some (g, s')) (hg : ∀ q, g = some q → q) (k : AG X cl sl s'.1 s'.2.1 s'.2.2.1 s'.2.2.2) : AG X cl sl pc ls st h := by
    intro ad0 ad D E p l ev s m args below meth c H locs la hCF hag hLh hP hD hS
    obtain ⟨hx, hb, hr, hml, hlk, hown, hts, hK, hN, hSc⟩ := id hCF
    obtain ⟨w, r, rfl, hi, rfl, rfl⟩ := stI_eq hp
    exact lv_istore hx hb hd hLh.has hi rfl (fun la' h' => k ad0 ad D E p l ev s m args below meth c H locs la' hCF hag (Lh.sto1 hLh h') hP hD hS)
theorem gs_lstore_n {X : CXG} {cl sl : Nat} (n : Fin 4) {aux : Nat × Nat × Nat} {v : Int} {pc : Nat} {ls : List (Option Value)} {st : List Value} {h : List va_E} {g : Option Prop} {s' : SS} (hd : decode X.1.2.1 pc = .ok (.lstore_n n, iln (.lstore_n n))) (hl : lnk X.1.1.cls (.lstore_n n, aux, v) = true) (hp : pin X.1.2.2.1 (.lstore_n n, aux, v) (pc, ls, st, h) = some (g, s')) (hg : ∀ q, g = some q → q) (k : AG X cl sl s'.1 s'.2.1 s'.2.2.1 s'.2.2.2) : AG X cl sl pc ls st h := by
    intro ad0 ad D E p l ev s m args below meth c H locs la hCF hag hLh hP hD hS
    obtain ⟨hx, hb, hr, hml, hlk, hown, hts, hK, hN, hSc⟩ := id hCF
    obtain ⟨w, r, rfl, hi, rfl, rfl⟩ := stJ_eq hp
    exact lv_lstore_n hx hb hd rfl hLh.has hi rfl (fun la' h' => k ad0 ad D E p l ev s m args below meth c H locs la' hCF hag (Lh.sto2 hLh h') hP hD hS)
theorem gs_lstore {X : CXG} {cl sl : Nat} (n : Nat) {aux : Nat × Nat × Nat} {v : Int} {pc : Nat} {ls : List (Option Value)} {st : List Value} {h : List va_E} {g : Option Prop} {s' : SS} (hd : decode X.1.2.1 pc = .ok (.lstore n, iln (.lstore n))) (hl : lnk X.1.1.cls (.lstore n, aux, v) = true) (hp : pin X.1.2.2.1 (.lstore n, aux, v) (pc, ls, st, h) = some (g, s')) (hg : ∀ q, g = some q → q) (k : AG X cl sl s'.1 s'.2.1 s'.2.2.1 s'.2.2.2) : AG X cl sl pc ls st h := by
    intro ad0 ad D E p l ev s m args below meth c H locs la hCF hag hLh hP hD hS
    obtain ⟨hx, hb, hr, hml, hlk, hown, hts, hK, hN, hSc⟩ := id hCF
    obtain ⟨w, r, rfl, hi, rfl, rfl⟩ := stJ_eq hp
    exact lv_lstore hx hb hd hLh.has hi rfl (fun la' h' => k ad0 ad D E p l ev s m args below meth c H locs la' hCF hag (Lh.sto2 hLh h') hP hD hS)
theorem gs_astore_n {X : CXG} {cl sl : Nat} (n : Fin 4) {aux : Nat × Nat × Nat} {v : Int} {pc : Nat} {ls : List (Option Value)} {st : List Value} {h : List va_E} {g : Option Prop} {s' : SS} (hd : decode X.1.2.1 pc = .ok (.astore_n n, iln (.astore_n n))) (hl : lnk X.1.1.cls (.astore_n n, aux, v) = true) (hp : pin X.1.2.2.1 (.astore_n n, aux, v) (pc, ls, st, h) = some (g, s')) (hg : ∀ q, g = some q → q) (k : AG X cl sl s'.1 s'.2.1 s'.2.2.1 s'.2.2.2) : AG X cl sl pc ls st h := by
    intro ad0 ad D E p l ev s m args below meth c H locs la hCF hag hLh hP hD hS
    obtain ⟨hx, hb, hr, hml, hlk, hown, hts, hK, hN, hSc⟩ := id hCF
    obtain ⟨w, r, rfl, hi, rfl, rfl⟩ := stA_eq hp
    exact lv_astore_n hx hb hd rfl hLh.has hi rfl (fun la' h' => k ad0 ad D E p l ev s m args below meth c H locs la' hCF hag (Lh.sto1 hLh h') hP hD hS)
theorem gs_astore {X : CXG} {cl sl : Nat} (n : Nat) {aux : Nat × Nat × Nat} {v : Int} {pc : Nat} {ls : List (Option Value)} {st : List Value} {h : List va_E} {g : Option Prop} {s' : SS} (hd : decode X.1.2.1 pc = .ok (.astore n, iln (.astore n))) (hl : lnk X.1.1.cls (.astore n, aux, v) = true) (hp : pin X.1.2.2.1 (.astore n, aux, v) (pc, ls, st, h) = some (g, s')) (hg : ∀ q, g = some q → q) (k : AG X cl sl s'.1 s'.2.1 s'.2.2.1 s'.2.2.2) : AG X cl sl pc ls st h := by
    intro ad0 ad D E p l ev s m args below meth c H locs la hCF hag hLh hP hD hS
    obtain ⟨hx, hb, hr, hml, hlk, hown, hts, hK, hN, hSc⟩ := id hCF
    obtain ⟨w, r, rfl, hi, rfl, rfl⟩ := stA_eq hp
    exact lv_astore hx hb hd hLh.has hi rfl (fun la' h' => k ad0 ad D E p l ev s m args below meth c H locs la' hCF hag (Lh.sto1 hLh h') hP hD hS)
theorem gs_iinc {X : CXG} {cl sl : Nat} (i : Nat) (n : Int) {aux : Nat × Nat × Nat} {v : Int} {pc : Nat} {ls : List (Option Value)} {st : List Value} {h : List va_E} {g : Option Prop} {s' : SS} (hd : decode X.1.2.1 pc = .ok (.iinc i n, iln (.iinc i n))) (hl : lnk X.1.1.cls (.iinc i n, aux, v) = true) (hp : pin X.1.2.2.1 (.iinc i n, aux, v) (pc, ls, st, h) = some (g, s')) (hg : ∀ q, g = some q → q) (k : AG X cl sl s'.1 s'.2.1 s'.2.2.1 s'.2.2.2) : AG X cl sl pc ls st h := by
    intro ad0 ad D E p l ev s m args below meth c H locs la hCF hag hLh hP hD hS
    obtain ⟨hx, hb, hr, hml, hlk, hown, hts, hK, hN, hSc⟩ := id hCF
    obtain ⟨w, e2, hi, rfl, rfl⟩ := incI_eq hp
    obtain ⟨kp, hkp⟩ := toLv_place (ad := ad) e2
    exact lv_iinc hx hb hd hLh.has hkp rfl hi rfl (fun la' h' => k ad0 ad D E p l ev s m args below meth c H locs la' hCF hag (Lh.sto1 (v := .int (w + Int32.ofInt n)) hLh h') hP hD hS)
theorem gs_dup {X : CXG} {cl sl : Nat}  {aux : Nat × Nat × Nat} {v : Int} {pc : Nat} {ls : List (Option Value)} {st : List Value} {h : List va_E} {g : Option Prop} {s' : SS} (hd : decode X.1.2.1 pc = .ok (.dup, iln (.dup))) (hl : lnk X.1.1.cls (.dup, aux, v) = true) (hp : pin X.1.2.2.1 (.dup, aux, v) (pc, ls, st, h) = some (g, s')) (hg : ∀ q, g = some q → q) (k : AG X cl sl s'.1 s'.2.1 s'.2.2.1 s'.2.2.2) : AG X cl sl pc ls st h := by
    intro ad0 ad D E p l ev s m args below meth c H locs la hCF hag hLh hP hD hS
    obtain ⟨hx, hb, hr, hml, hlk, hown, hts, hK, hN, hSc⟩ := id hCF
    obtain ⟨t, e1, rfl, rfl⟩ := nx_eq hp
    obtain ⟨w, r, rfl, rfl, hcat⟩ := dup1_eq e1
    exact lv_dup hx hb hd (by rw [gV_cat]; exact hcat) (k ad0 ad D E p l ev s m args below meth c H locs la hCF hag hLh hP hD hS)
theorem gs_dup2 {X : CXG} {cl sl : Nat}  {aux : Nat × Nat × Nat} {v : Int} {pc : Nat} {ls : List (Option Value)} {st : List Value} {h : List va_E} {g : Option Prop} {s' : SS} (hd : decode X.1.2.1 pc = .ok (.dup2, iln (.dup2))) (hl : lnk X.1.1.cls (.dup2, aux, v) = true) (hp : pin X.1.2.2.1 (.dup2, aux, v) (pc, ls, st, h) = some (g, s')) (hg : ∀ q, g = some q → q) (k : AG X cl sl s'.1 s'.2.1 s'.2.2.1 s'.2.2.2) : AG X cl sl pc ls st h := by
    intro ad0 ad D E p l ev s m args below meth c H locs la hCF hag hLh hP hD hS
    obtain ⟨hx, hb, hr, hml, hlk, hown, hts, hK, hN, hSc⟩ := id hCF
    obtain ⟨t, e1, rfl, rfl⟩ := nx_eq hp
    obtain ⟨w, z, r, rfl, rfl, hcat, hcat2⟩ := dup2s_eq e1
    exact lv_dup2_11 hx hb hd (by rw [gV_cat]; exact hcat) (by rw [gV_cat]; exact hcat2) (k ad0 ad D E p l ev s m args below meth c H locs la hCF hag hLh hP hD hS)
theorem gs_pop {X : CXG} {cl sl : Nat}  {aux : Nat × Nat × Nat} {v : Int} {pc : Nat} {ls : List (Option Value)} {st : List Value} {h : List va_E} {g : Option Prop} {s' : SS} (hd : decode X.1.2.1 pc = .ok (.pop, iln (.pop))) (hl : lnk X.1.1.cls (.pop, aux, v) = true) (hp : pin X.1.2.2.1 (.pop, aux, v) (pc, ls, st, h) = some (g, s')) (hg : ∀ q, g = some q → q) (k : AG X cl sl s'.1 s'.2.1 s'.2.2.1 s'.2.2.2) : AG X cl sl pc ls st h := by
    intro ad0 ad D E p l ev s m args below meth c H locs la hCF hag hLh hP hD hS
    obtain ⟨hx, hb, hr, hml, hlk, hown, hts, hK, hN, hSc⟩ := id hCF
    obtain ⟨t, e1, rfl, rfl⟩ := nx_eq hp
    obtain ⟨w, r, rfl, rfl, hcat⟩ := pop1_eq e1
    exact lv_pop hx hb hd (by rw [gV_cat]; exact hcat) (k ad0 ad D E p l ev s m args below meth c H locs la hCF hag hLh hP hD hS)
theorem gs_iadd {X : CXG} {cl sl : Nat}  {aux : Nat × Nat × Nat} {v : Int} {pc : Nat} {ls : List (Option Value)} {st : List Value} {h : List va_E} {g : Option Prop} {s' : SS} (hd : decode X.1.2.1 pc = .ok (.iadd, iln (.iadd))) (hl : lnk X.1.1.cls (.iadd, aux, v) = true) (hp : pin X.1.2.2.1 (.iadd, aux, v) (pc, ls, st, h) = some (g, s')) (hg : ∀ q, g = some q → q) (k : AG X cl sl s'.1 s'.2.1 s'.2.2.1 s'.2.2.2) : AG X cl sl pc ls st h := by
    intro ad0 ad D E p l ev s m args below meth c H locs la hCF hag hLh hP hD hS
    obtain ⟨hx, hb, hr, hml, hlk, hown, hts, hK, hN, hSc⟩ := id hCF
    obtain ⟨t, e1, rfl, rfl⟩ := nx_eq hp
    obtain ⟨a, b, r, rfl, rfl⟩ := st2i_eq e1
    exact lv_iadd hx hb hd (k ad0 ad D E p l ev s m args below meth c H locs la hCF hag hLh hP hD hS)
theorem gs_isub {X : CXG} {cl sl : Nat}  {aux : Nat × Nat × Nat} {v : Int} {pc : Nat} {ls : List (Option Value)} {st : List Value} {h : List va_E} {g : Option Prop} {s' : SS} (hd : decode X.1.2.1 pc = .ok (.isub, iln (.isub))) (hl : lnk X.1.1.cls (.isub, aux, v) = true) (hp : pin X.1.2.2.1 (.isub, aux, v) (pc, ls, st, h) = some (g, s')) (hg : ∀ q, g = some q → q) (k : AG X cl sl s'.1 s'.2.1 s'.2.2.1 s'.2.2.2) : AG X cl sl pc ls st h := by
    intro ad0 ad D E p l ev s m args below meth c H locs la hCF hag hLh hP hD hS
    obtain ⟨hx, hb, hr, hml, hlk, hown, hts, hK, hN, hSc⟩ := id hCF
    obtain ⟨t, e1, rfl, rfl⟩ := nx_eq hp
    obtain ⟨a, b, r, rfl, rfl⟩ := st2i_eq e1
    exact lv_isub hx hb hd (k ad0 ad D E p l ev s m args below meth c H locs la hCF hag hLh hP hD hS)
theorem gs_imul {X : CXG} {cl sl : Nat}  {aux : Nat × Nat × Nat} {v : Int} {pc : Nat} {ls : List (Option Value)} {st : List Value} {h : List va_E} {g : Option Prop} {s' : SS} (hd : decode X.1.2.1 pc = .ok (.imul, iln (.imul))) (hl : lnk X.1.1.cls (.imul, aux, v) = true) (hp : pin X.1.2.2.1 (.imul, aux, v) (pc, ls, st, h) = some (g, s')) (hg : ∀ q, g = some q → q) (k : AG X cl sl s'.1 s'.2.1 s'.2.2.1 s'.2.2.2) : AG X cl sl pc ls st h := by
    intro ad0 ad D E p l ev s m args below meth c H locs la hCF hag hLh hP hD hS
    obtain ⟨hx, hb, hr, hml, hlk, hown, hts, hK, hN, hSc⟩ := id hCF
    obtain ⟨t, e1, rfl, rfl⟩ := nx_eq hp
    obtain ⟨a, b, r, rfl, rfl⟩ := st2i_eq e1
    exact lv_imul hx hb hd (k ad0 ad D E p l ev s m args below meth c H locs la hCF hag hLh hP hD hS)
theorem gs_iand {X : CXG} {cl sl : Nat}  {aux : Nat × Nat × Nat} {v : Int} {pc : Nat} {ls : List (Option Value)} {st : List Value} {h : List va_E} {g : Option Prop} {s' : SS} (hd : decode X.1.2.1 pc = .ok (.iand, iln (.iand))) (hl : lnk X.1.1.cls (.iand, aux, v) = true) (hp : pin X.1.2.2.1 (.iand, aux, v) (pc, ls, st, h) = some (g, s')) (hg : ∀ q, g = some q → q) (k : AG X cl sl s'.1 s'.2.1 s'.2.2.1 s'.2.2.2) : AG X cl sl pc ls st h := by
    intro ad0 ad D E p l ev s m args below meth c H locs la hCF hag hLh hP hD hS
    obtain ⟨hx, hb, hr, hml, hlk, hown, hts, hK, hN, hSc⟩ := id hCF
    obtain ⟨t, e1, rfl, rfl⟩ := nx_eq hp
    obtain ⟨a, b, r, rfl, rfl⟩ := st2i_eq e1
    exact lv_iand hx hb hd (k ad0 ad D E p l ev s m args below meth c H locs la hCF hag hLh hP hD hS)
theorem gs_ior {X : CXG} {cl sl : Nat}  {aux : Nat × Nat × Nat} {v : Int} {pc : Nat} {ls : List (Option Value)} {st : List Value} {h : List va_E} {g : Option Prop} {s' : SS} (hd : decode X.1.2.1 pc = .ok (.ior, iln (.ior))) (hl : lnk X.1.1.cls (.ior, aux, v) = true) (hp : pin X.1.2.2.1 (.ior, aux, v) (pc, ls, st, h) = some (g, s')) (hg : ∀ q, g = some q → q) (k : AG X cl sl s'.1 s'.2.1 s'.2.2.1 s'.2.2.2) : AG X cl sl pc ls st h := by
    intro ad0 ad D E p l ev s m args below meth c H locs la hCF hag hLh hP hD hS
    obtain ⟨hx, hb, hr, hml, hlk, hown, hts, hK, hN, hSc⟩ := id hCF
    obtain ⟨t, e1, rfl, rfl⟩ := nx_eq hp
    obtain ⟨a, b, r, rfl, rfl⟩ := st2i_eq e1
    exact lv_ior hx hb hd (k ad0 ad D E p l ev s m args below meth c H locs la hCF hag hLh hP hD hS)
theorem gs_ixor {X : CXG} {cl sl : Nat}  {aux : Nat × Nat × Nat} {v : Int} {pc : Nat} {ls : List (Option Value)} {st : List Value} {h : List va_E} {g : Option Prop} {s' : SS} (hd : decode X.1.2.1 pc = .ok (.ixor, iln (.ixor))) (hl : lnk X.1.1.cls (.ixor, aux, v) = true) (hp : pin X.1.2.2.1 (.ixor, aux, v) (pc, ls, st, h) = some (g, s')) (hg : ∀ q, g = some q → q) (k : AG X cl sl s'.1 s'.2.1 s'.2.2.1 s'.2.2.2) : AG X cl sl pc ls st h := by
    intro ad0 ad D E p l ev s m args below meth c H locs la hCF hag hLh hP hD hS
    obtain ⟨hx, hb, hr, hml, hlk, hown, hts, hK, hN, hSc⟩ := id hCF
    obtain ⟨t, e1, rfl, rfl⟩ := nx_eq hp
    obtain ⟨a, b, r, rfl, rfl⟩ := st2i_eq e1
    exact lv_ixor hx hb hd (k ad0 ad D E p l ev s m args below meth c H locs la hCF hag hLh hP hD hS)
theorem gs_ishl {X : CXG} {cl sl : Nat}  {aux : Nat × Nat × Nat} {v : Int} {pc : Nat} {ls : List (Option Value)} {st : List Value} {h : List va_E} {g : Option Prop} {s' : SS} (hd : decode X.1.2.1 pc = .ok (.ishl, iln (.ishl))) (hl : lnk X.1.1.cls (.ishl, aux, v) = true) (hp : pin X.1.2.2.1 (.ishl, aux, v) (pc, ls, st, h) = some (g, s')) (hg : ∀ q, g = some q → q) (k : AG X cl sl s'.1 s'.2.1 s'.2.2.1 s'.2.2.2) : AG X cl sl pc ls st h := by
    intro ad0 ad D E p l ev s m args below meth c H locs la hCF hag hLh hP hD hS
    obtain ⟨hx, hb, hr, hml, hlk, hown, hts, hK, hN, hSc⟩ := id hCF
    obtain ⟨t, e1, rfl, rfl⟩ := nx_eq hp
    obtain ⟨a, b, r, rfl, rfl⟩ := st2i_eq e1
    exact lv_ishl hx hb hd (k ad0 ad D E p l ev s m args below meth c H locs la hCF hag hLh hP hD hS)
theorem gs_ishr {X : CXG} {cl sl : Nat}  {aux : Nat × Nat × Nat} {v : Int} {pc : Nat} {ls : List (Option Value)} {st : List Value} {h : List va_E} {g : Option Prop} {s' : SS} (hd : decode X.1.2.1 pc = .ok (.ishr, iln (.ishr))) (hl : lnk X.1.1.cls (.ishr, aux, v) = true) (hp : pin X.1.2.2.1 (.ishr, aux, v) (pc, ls, st, h) = some (g, s')) (hg : ∀ q, g = some q → q) (k : AG X cl sl s'.1 s'.2.1 s'.2.2.1 s'.2.2.2) : AG X cl sl pc ls st h := by
    intro ad0 ad D E p l ev s m args below meth c H locs la hCF hag hLh hP hD hS
    obtain ⟨hx, hb, hr, hml, hlk, hown, hts, hK, hN, hSc⟩ := id hCF
    obtain ⟨t, e1, rfl, rfl⟩ := nx_eq hp
    obtain ⟨a, b, r, rfl, rfl⟩ := st2i_eq e1
    exact lv_ishr hx hb hd (k ad0 ad D E p l ev s m args below meth c H locs la hCF hag hLh hP hD hS)
theorem gs_iushr {X : CXG} {cl sl : Nat}  {aux : Nat × Nat × Nat} {v : Int} {pc : Nat} {ls : List (Option Value)} {st : List Value} {h : List va_E} {g : Option Prop} {s' : SS} (hd : decode X.1.2.1 pc = .ok (.iushr, iln (.iushr))) (hl : lnk X.1.1.cls (.iushr, aux, v) = true) (hp : pin X.1.2.2.1 (.iushr, aux, v) (pc, ls, st, h) = some (g, s')) (hg : ∀ q, g = some q → q) (k : AG X cl sl s'.1 s'.2.1 s'.2.2.1 s'.2.2.2) : AG X cl sl pc ls st h := by
    intro ad0 ad D E p l ev s m args below meth c H locs la hCF hag hLh hP hD hS
    obtain ⟨hx, hb, hr, hml, hlk, hown, hts, hK, hN, hSc⟩ := id hCF
    obtain ⟨t, e1, rfl, rfl⟩ := nx_eq hp
    obtain ⟨a, b, r, rfl, rfl⟩ := st2i_eq e1
    exact lv_iushr hx hb hd rfl (k ad0 ad D E p l ev s m args below meth c H locs la hCF hag hLh hP hD hS)
theorem gs_ladd {X : CXG} {cl sl : Nat}  {aux : Nat × Nat × Nat} {v : Int} {pc : Nat} {ls : List (Option Value)} {st : List Value} {h : List va_E} {g : Option Prop} {s' : SS} (hd : decode X.1.2.1 pc = .ok (.ladd, iln (.ladd))) (hl : lnk X.1.1.cls (.ladd, aux, v) = true) (hp : pin X.1.2.2.1 (.ladd, aux, v) (pc, ls, st, h) = some (g, s')) (hg : ∀ q, g = some q → q) (k : AG X cl sl s'.1 s'.2.1 s'.2.2.1 s'.2.2.2) : AG X cl sl pc ls st h := by
    intro ad0 ad D E p l ev s m args below meth c H locs la hCF hag hLh hP hD hS
    obtain ⟨hx, hb, hr, hml, hlk, hown, hts, hK, hN, hSc⟩ := id hCF
    obtain ⟨t, e1, rfl, rfl⟩ := nx_eq hp
    obtain ⟨a, b, r, rfl, rfl⟩ := st2l_eq e1
    exact lv_ladd hx hb hd (k ad0 ad D E p l ev s m args below meth c H locs la hCF hag hLh hP hD hS)
theorem gs_lsub {X : CXG} {cl sl : Nat}  {aux : Nat × Nat × Nat} {v : Int} {pc : Nat} {ls : List (Option Value)} {st : List Value} {h : List va_E} {g : Option Prop} {s' : SS} (hd : decode X.1.2.1 pc = .ok (.lsub, iln (.lsub))) (hl : lnk X.1.1.cls (.lsub, aux, v) = true) (hp : pin X.1.2.2.1 (.lsub, aux, v) (pc, ls, st, h) = some (g, s')) (hg : ∀ q, g = some q → q) (k : AG X cl sl s'.1 s'.2.1 s'.2.2.1 s'.2.2.2) : AG X cl sl pc ls st h := by
    intro ad0 ad D E p l ev s m args below meth c H locs la hCF hag hLh hP hD hS
    obtain ⟨hx, hb, hr, hml, hlk, hown, hts, hK, hN, hSc⟩ := id hCF
    obtain ⟨t, e1, rfl, rfl⟩ := nx_eq hp
    obtain ⟨a, b, r, rfl, rfl⟩ := st2l_eq e1
    exact lv_lsub hx hb hd (k ad0 ad D E p l ev s m args below meth c H locs la hCF hag hLh hP hD hS)
theorem gs_lmul {X : CXG} {cl sl : Nat}  {aux : Nat × Nat × Nat} {v : Int} {pc : Nat} {ls : List (Option Value)} {st : List Value} {h : List va_E} {g : Option Prop} {s' : SS} (hd : decode X.1.2.1 pc = .ok (.lmul, iln (.lmul))) (hl : lnk X.1.1.cls (.lmul, aux, v) = true) (hp : pin X.1.2.2.1 (.lmul, aux, v) (pc, ls, st, h) = some (g, s')) (hg : ∀ q, g = some q → q) (k : AG X cl sl s'.1 s'.2.1 s'.2.2.1 s'.2.2.2) : AG X cl sl pc ls st h := by
    intro ad0 ad D E p l ev s m args below meth c H locs la hCF hag hLh hP hD hS
    obtain ⟨hx, hb, hr, hml, hlk, hown, hts, hK, hN, hSc⟩ := id hCF
    obtain ⟨t, e1, rfl, rfl⟩ := nx_eq hp
    obtain ⟨a, b, r, rfl, rfl⟩ := st2l_eq e1
    exact lv_lmul hx hb hd (k ad0 ad D E p l ev s m args below meth c H locs la hCF hag hLh hP hD hS)
theorem gs_land {X : CXG} {cl sl : Nat}  {aux : Nat × Nat × Nat} {v : Int} {pc : Nat} {ls : List (Option Value)} {st : List Value} {h : List va_E} {g : Option Prop} {s' : SS} (hd : decode X.1.2.1 pc = .ok (.land, iln (.land))) (hl : lnk X.1.1.cls (.land, aux, v) = true) (hp : pin X.1.2.2.1 (.land, aux, v) (pc, ls, st, h) = some (g, s')) (hg : ∀ q, g = some q → q) (k : AG X cl sl s'.1 s'.2.1 s'.2.2.1 s'.2.2.2) : AG X cl sl pc ls st h := by
    intro ad0 ad D E p l ev s m args below meth c H locs la hCF hag hLh hP hD hS
    obtain ⟨hx, hb, hr, hml, hlk, hown, hts, hK, hN, hSc⟩ := id hCF
    obtain ⟨t, e1, rfl, rfl⟩ := nx_eq hp
    obtain ⟨a, b, r, rfl, rfl⟩ := st2l_eq e1
    exact lv_land hx hb hd (k ad0 ad D E p l ev s m args below meth c H locs la hCF hag hLh hP hD hS)
theorem gs_lor {X : CXG} {cl sl : Nat}  {aux : Nat × Nat × Nat} {v : Int} {pc : Nat} {ls : List (Option Value)} {st : List Value} {h : List va_E} {g : Option Prop} {s' : SS} (hd : decode X.1.2.1 pc = .ok (.lor, iln (.lor))) (hl : lnk X.1.1.cls (.lor, aux, v) = true) (hp : pin X.1.2.2.1 (.lor, aux, v) (pc, ls, st, h) = some (g, s')) (hg : ∀ q, g = some q → q) (k : AG X cl sl s'.1 s'.2.1 s'.2.2.1 s'.2.2.2) : AG X cl sl pc ls st h := by
    intro ad0 ad D E p l ev s m args below meth c H locs la hCF hag hLh hP hD hS
    obtain ⟨hx, hb, hr, hml, hlk, hown, hts, hK, hN, hSc⟩ := id hCF
    obtain ⟨t, e1, rfl, rfl⟩ := nx_eq hp
    obtain ⟨a, b, r, rfl, rfl⟩ := st2l_eq e1
    exact lv_lor hx hb hd (k ad0 ad D E p l ev s m args below meth c H locs la hCF hag hLh hP hD hS)
theorem gs_lcmp {X : CXG} {cl sl : Nat}  {aux : Nat × Nat × Nat} {v : Int} {pc : Nat} {ls : List (Option Value)} {st : List Value} {h : List va_E} {g : Option Prop} {s' : SS} (hd : decode X.1.2.1 pc = .ok (.lcmp, iln (.lcmp))) (hl : lnk X.1.1.cls (.lcmp, aux, v) = true) (hp : pin X.1.2.2.1 (.lcmp, aux, v) (pc, ls, st, h) = some (g, s')) (hg : ∀ q, g = some q → q) (k : AG X cl sl s'.1 s'.2.1 s'.2.2.1 s'.2.2.2) : AG X cl sl pc ls st h := by
    intro ad0 ad D E p l ev s m args below meth c H locs la hCF hag hLh hP hD hS
    obtain ⟨hx, hb, hr, hml, hlk, hown, hts, hK, hN, hSc⟩ := id hCF
    obtain ⟨t, e1, rfl, rfl⟩ := nx_eq hp
    obtain ⟨a, b, r, rfl, rfl⟩ := st2l_eq e1
    exact W.lcmp hx hb hd (k ad0 ad D E p l ev s m args below meth c H locs la hCF hag hLh hP hD hS)
theorem gs_ineg {X : CXG} {cl sl : Nat}  {aux : Nat × Nat × Nat} {v : Int} {pc : Nat} {ls : List (Option Value)} {st : List Value} {h : List va_E} {g : Option Prop} {s' : SS} (hd : decode X.1.2.1 pc = .ok (.ineg, iln (.ineg))) (hl : lnk X.1.1.cls (.ineg, aux, v) = true) (hp : pin X.1.2.2.1 (.ineg, aux, v) (pc, ls, st, h) = some (g, s')) (hg : ∀ q, g = some q → q) (k : AG X cl sl s'.1 s'.2.1 s'.2.2.1 s'.2.2.2) : AG X cl sl pc ls st h := by
    intro ad0 ad D E p l ev s m args below meth c H locs la hCF hag hLh hP hD hS
    obtain ⟨hx, hb, hr, hml, hlk, hown, hts, hK, hN, hSc⟩ := id hCF
    obtain ⟨t, e1, rfl, rfl⟩ := nx_eq hp
    obtain ⟨a, r, rfl, rfl⟩ := st1i_eq e1
    exact lv_ineg hx hb hd (k ad0 ad D E p l ev s m args below meth c H locs la hCF hag hLh hP hD hS)
theorem gs_lneg {X : CXG} {cl sl : Nat}  {aux : Nat × Nat × Nat} {v : Int} {pc : Nat} {ls : List (Option Value)} {st : List Value} {h : List va_E} {g : Option Prop} {s' : SS} (hd : decode X.1.2.1 pc = .ok (.lneg, iln (.lneg))) (hl : lnk X.1.1.cls (.lneg, aux, v) = true) (hp : pin X.1.2.2.1 (.lneg, aux, v) (pc, ls, st, h) = some (g, s')) (hg : ∀ q, g = some q → q) (k : AG X cl sl s'.1 s'.2.1 s'.2.2.1 s'.2.2.2) : AG X cl sl pc ls st h := by
    intro ad0 ad D E p l ev s m args below meth c H locs la hCF hag hLh hP hD hS
    obtain ⟨hx, hb, hr, hml, hlk, hown, hts, hK, hN, hSc⟩ := id hCF
    obtain ⟨t, e1, rfl, rfl⟩ := nx_eq hp
    obtain ⟨a, r, rfl, rfl⟩ := st1l_eq e1
    exact lv_lneg hx hb hd (k ad0 ad D E p l ev s m args below meth c H locs la hCF hag hLh hP hD hS)
theorem gs_i2l {X : CXG} {cl sl : Nat}  {aux : Nat × Nat × Nat} {v : Int} {pc : Nat} {ls : List (Option Value)} {st : List Value} {h : List va_E} {g : Option Prop} {s' : SS} (hd : decode X.1.2.1 pc = .ok (.i2l, iln (.i2l))) (hl : lnk X.1.1.cls (.i2l, aux, v) = true) (hp : pin X.1.2.2.1 (.i2l, aux, v) (pc, ls, st, h) = some (g, s')) (hg : ∀ q, g = some q → q) (k : AG X cl sl s'.1 s'.2.1 s'.2.2.1 s'.2.2.2) : AG X cl sl pc ls st h := by
    intro ad0 ad D E p l ev s m args below meth c H locs la hCF hag hLh hP hD hS
    obtain ⟨hx, hb, hr, hml, hlk, hown, hts, hK, hN, hSc⟩ := id hCF
    obtain ⟨t, e1, rfl, rfl⟩ := nx_eq hp
    obtain ⟨a, r, rfl, rfl⟩ := st1i_eq e1
    exact lv_i2l hx hb hd rfl (k ad0 ad D E p l ev s m args below meth c H locs la hCF hag hLh hP hD hS)
theorem gs_l2i {X : CXG} {cl sl : Nat}  {aux : Nat × Nat × Nat} {v : Int} {pc : Nat} {ls : List (Option Value)} {st : List Value} {h : List va_E} {g : Option Prop} {s' : SS} (hd : decode X.1.2.1 pc = .ok (.l2i, iln (.l2i))) (hl : lnk X.1.1.cls (.l2i, aux, v) = true) (hp : pin X.1.2.2.1 (.l2i, aux, v) (pc, ls, st, h) = some (g, s')) (hg : ∀ q, g = some q → q) (k : AG X cl sl s'.1 s'.2.1 s'.2.2.1 s'.2.2.2) : AG X cl sl pc ls st h := by
    intro ad0 ad D E p l ev s m args below meth c H locs la hCF hag hLh hP hD hS
    obtain ⟨hx, hb, hr, hml, hlk, hown, hts, hK, hN, hSc⟩ := id hCF
    obtain ⟨t, e1, rfl, rfl⟩ := nx_eq hp
    obtain ⟨a, r, rfl, rfl⟩ := st1l_eq e1
    exact lv_l2i hx hb hd rfl (k ad0 ad D E p l ev s m args below meth c H locs la hCF hag hLh hP hD hS)
theorem gs_i2c {X : CXG} {cl sl : Nat}  {aux : Nat × Nat × Nat} {v : Int} {pc : Nat} {ls : List (Option Value)} {st : List Value} {h : List va_E} {g : Option Prop} {s' : SS} (hd : decode X.1.2.1 pc = .ok (.i2c, iln (.i2c))) (hl : lnk X.1.1.cls (.i2c, aux, v) = true) (hp : pin X.1.2.2.1 (.i2c, aux, v) (pc, ls, st, h) = some (g, s')) (hg : ∀ q, g = some q → q) (k : AG X cl sl s'.1 s'.2.1 s'.2.2.1 s'.2.2.2) : AG X cl sl pc ls st h := by
    intro ad0 ad D E p l ev s m args below meth c H locs la hCF hag hLh hP hD hS
    obtain ⟨hx, hb, hr, hml, hlk, hown, hts, hK, hN, hSc⟩ := id hCF
    obtain ⟨t, e1, rfl, rfl⟩ := nx_eq hp
    obtain ⟨a, r, rfl, rfl⟩ := st1i_eq e1
    exact lv_i2c hx hb hd rfl (k ad0 ad D E p l ev s m args below meth c H locs la hCF hag hLh hP hD hS)
theorem gs_lshl {X : CXG} {cl sl : Nat}  {aux : Nat × Nat × Nat} {v : Int} {pc : Nat} {ls : List (Option Value)} {st : List Value} {h : List va_E} {g : Option Prop} {s' : SS} (hd : decode X.1.2.1 pc = .ok (.lshl, iln (.lshl))) (hl : lnk X.1.1.cls (.lshl, aux, v) = true) (hp : pin X.1.2.2.1 (.lshl, aux, v) (pc, ls, st, h) = some (g, s')) (hg : ∀ q, g = some q → q) (k : AG X cl sl s'.1 s'.2.1 s'.2.2.1 s'.2.2.2) : AG X cl sl pc ls st h := by
    intro ad0 ad D E p l ev s m args below meth c H locs la hCF hag hLh hP hD hS
    obtain ⟨hx, hb, hr, hml, hlk, hown, hts, hK, hN, hSc⟩ := id hCF
    obtain ⟨t, e1, rfl, rfl⟩ := nx_eq hp
    obtain ⟨a, b, r, rfl, rfl⟩ := stli_eq e1
    exact lv_lshl hx hb hd rfl (k ad0 ad D E p l ev s m args below meth c H locs la hCF hag hLh hP hD hS)
theorem gs_lushr {X : CXG} {cl sl : Nat}  {aux : Nat × Nat × Nat} {v : Int} {pc : Nat} {ls : List (Option Value)} {st : List Value} {h : List va_E} {g : Option Prop} {s' : SS} (hd : decode X.1.2.1 pc = .ok (.lushr, iln (.lushr))) (hl : lnk X.1.1.cls (.lushr, aux, v) = true) (hp : pin X.1.2.2.1 (.lushr, aux, v) (pc, ls, st, h) = some (g, s')) (hg : ∀ q, g = some q → q) (k : AG X cl sl s'.1 s'.2.1 s'.2.2.1 s'.2.2.2) : AG X cl sl pc ls st h := by
    intro ad0 ad D E p l ev s m args below meth c H locs la hCF hag hLh hP hD hS
    obtain ⟨hx, hb, hr, hml, hlk, hown, hts, hK, hN, hSc⟩ := id hCF
    obtain ⟨t, e1, rfl, rfl⟩ := nx_eq hp
    obtain ⟨a, b, r, rfl, rfl⟩ := stli_eq e1
    exact lv_lushr hx hb hd rfl (k ad0 ad D E p l ev s m args below meth c H locs la hCF hag hLh hP hD hS)
theorem gs_idiv {X : CXG} {cl sl : Nat}  {aux : Nat × Nat × Nat} {v : Int} {pc : Nat} {ls : List (Option Value)} {st : List Value} {h : List va_E} {g : Option Prop} {s' : SS} (hd : decode X.1.2.1 pc = .ok (.idiv, iln (.idiv))) (hl : lnk X.1.1.cls (.idiv, aux, v) = true) (hp : pin X.1.2.2.1 (.idiv, aux, v) (pc, ls, st, h) = some (g, s')) (hg : ∀ q, g = some q → q) (k : AG X cl sl s'.1 s'.2.1 s'.2.2.1 s'.2.2.2) : AG X cl sl pc ls st h := by
    intro ad0 ad D E p l ev s m args below meth c H locs la hCF hag hLh hP hD hS
    obtain ⟨hx, hb, hr, hml, hlk, hown, hts, hK, hN, hSc⟩ := id hCF
    obtain ⟨a, b, r, rfl, rfl, rfl⟩ := gdI_eq hp
    exact lv_idiv hx hb hd (hg _ rfl) (k ad0 ad D E p l ev s m args below meth c H locs la hCF hag hLh hP hD hS)
theorem gs_irem {X : CXG} {cl sl : Nat}  {aux : Nat × Nat × Nat} {v : Int} {pc : Nat} {ls : List (Option Value)} {st : List Value} {h : List va_E} {g : Option Prop} {s' : SS} (hd : decode X.1.2.1 pc = .ok (.irem, iln (.irem))) (hl : lnk X.1.1.cls (.irem, aux, v) = true) (hp : pin X.1.2.2.1 (.irem, aux, v) (pc, ls, st, h) = some (g, s')) (hg : ∀ q, g = some q → q) (k : AG X cl sl s'.1 s'.2.1 s'.2.2.1 s'.2.2.2) : AG X cl sl pc ls st h := by
    intro ad0 ad D E p l ev s m args below meth c H locs la hCF hag hLh hP hD hS
    obtain ⟨hx, hb, hr, hml, hlk, hown, hts, hK, hN, hSc⟩ := id hCF
    obtain ⟨a, b, r, rfl, rfl, rfl⟩ := gdI_eq hp
    exact lv_irem hx hb hd (hg _ rfl) (k ad0 ad D E p l ev s m args below meth c H locs la hCF hag hLh hP hD hS)
theorem gs_ldiv {X : CXG} {cl sl : Nat}  {aux : Nat × Nat × Nat} {v : Int} {pc : Nat} {ls : List (Option Value)} {st : List Value} {h : List va_E} {g : Option Prop} {s' : SS} (hd : decode X.1.2.1 pc = .ok (.ldiv, iln (.ldiv))) (hl : lnk X.1.1.cls (.ldiv, aux, v) = true) (hp : pin X.1.2.2.1 (.ldiv, aux, v) (pc, ls, st, h) = some (g, s')) (hg : ∀ q, g = some q → q) (k : AG X cl sl s'.1 s'.2.1 s'.2.2.1 s'.2.2.2) : AG X cl sl pc ls st h := by
    intro ad0 ad D E p l ev s m args below meth c H locs la hCF hag hLh hP hD hS
    obtain ⟨hx, hb, hr, hml, hlk, hown, hts, hK, hN, hSc⟩ := id hCF
    obtain ⟨a, b, r, rfl, rfl, rfl⟩ := gdJ_eq hp
    exact lv_ldiv hx hb hd (hg _ rfl) (k ad0 ad D E p l ev s m args below meth c H locs la hCF hag hLh hP hD hS)
theorem gs_lrem {X : CXG} {cl sl : Nat}  {aux : Nat × Nat × Nat} {v : Int} {pc : Nat} {ls : List (Option Value)} {st : List Value} {h : List va_E} {g : Option Prop} {s' : SS} (hd : decode X.1.2.1 pc = .ok (.lrem, iln (.lrem))) (hl : lnk X.1.1.cls (.lrem, aux, v) = true) (hp : pin X.1.2.2.1 (.lrem, aux, v) (pc, ls, st, h) = some (g, s')) (hg : ∀ q, g = some q → q) (k : AG X cl sl s'.1 s'.2.1 s'.2.2.1 s'.2.2.2) : AG X cl sl pc ls st h := by
    intro ad0 ad D E p l ev s m args below meth c H locs la hCF hag hLh hP hD hS
    obtain ⟨hx, hb, hr, hml, hlk, hown, hts, hK, hN, hSc⟩ := id hCF
    obtain ⟨a, b, r, rfl, rfl, rfl⟩ := gdJ_eq hp
    exact lv_lrem hx hb hd (hg _ rfl) (k ad0 ad D E p l ev s m args below meth c H locs la hCF hag hLh hP hD hS)
theorem gs_goto {X : CXG} {cl sl : Nat} (off : Int) {aux : Nat × Nat × Nat} {v : Int} {pc : Nat} {ls : List (Option Value)} {st : List Value} {h : List va_E} {g : Option Prop} {s' : SS} (hd : decode X.1.2.1 pc = .ok (.goto off, iln (.goto off))) (hl : lnk X.1.1.cls (.goto off, aux, v) = true) (hp : pin X.1.2.2.1 (.goto off, aux, v) (pc, ls, st, h) = some (g, s')) (hg : ∀ q, g = some q → q) (k : AG X cl sl s'.1 s'.2.1 s'.2.2.1 s'.2.2.2) : AG X cl sl pc ls st h := by
    intro ad0 ad D E p l ev s m args below meth c H locs la hCF hag hLh hP hD hS
    obtain ⟨hx, hb, hr, hml, hlk, hown, hts, hK, hN, hSc⟩ := id hCF
    obtain ⟨e1, rfl, rfl⟩ := gotoS_eq hp
    exact lv_goto hx hb hd e1 (k ad0 ad D E p l ev s m args below meth c H locs la hCF hag hLh hP hD hS)
theorem gs_getfield {X : CXG} {cl sl : Nat} (i : Nat) {aux : Nat × Nat × Nat} {v : Int} {pc : Nat} {ls : List (Option Value)} {st : List Value} {h : List va_E} {g : Option Prop} {s' : SS} (hd : decode X.1.2.1 pc = .ok (.getfield i, iln (.getfield i))) (hl : lnk X.1.1.cls (.getfield i, aux, v) = true) (hp : pin X.1.2.2.1 (.getfield i, aux, v) (pc, ls, st, h) = some (g, s')) (hg : ∀ q, g = some q → q) (k : AG X cl sl s'.1 s'.2.1 s'.2.2.1 s'.2.2.2) : AG X cl sl pc ls st h := by
    intro ad0 ad D E p l ev s m args below meth c H locs la hCF hag hLh hP hD hS
    obtain ⟨hx, hb, hr, hml, hlk, hown, hts, hK, hN, hSc⟩ := id hCF
    obtain ⟨q, r, fs, w, rfl, e2, e3, rfl, rfl⟩ := getF_eq hp
    obtain ⟨cc, ecc⟩ : ∃ cc, vwCl[aux.1]? = some cc := by
      cases hq : vwCl[aux.1]? with
      | some cc => exact ⟨cc, rfl⟩
      | none => simp only [lnk, hq] at hl; cases hl
    have hl2 : lnkF X.1.1.cls i (.getfield i, aux, v) cc = true := by simpa only [lnk, ecc] using hl
    obtain ⟨hk, hw⟩ := lnkF_eq hl2
    obtain ⟨h1, ⟨ty0, h2⟩, h3⟩ := cls_ok _ _ ecc
    have e4 : (fs.map (gV ad))[aux.2.1]? = some (gV ad w) := by rw [List.getElem?_map, e3]; rfl
    have e6 := conc_at (ad := ad) (E := E) e2
    rw [gE_obj (vwCl_lt ecc)] at e6
    rcases hw with hw | hw
    · exact va_getN hx hb hts h1 hown hK hP q e6 ecc _ hk (nest_use hN hw) (fun _ h9 => h9) e4 hd (k ad0 ad D E p l ev s m args below meth c H locs la hCF hag hLh hP hD hS)
    · exact va_get hx hb hts h1 hown hK hP q e6 ecc _ hk (hts _ hw) (fun _ h9 => h9) e4 hd (k ad0 ad D E p l ev s m args below meth c H locs la hCF hag hLh hP hD hS)
theorem gs_putfield {X : CXG} {cl sl : Nat} (i : Nat) {aux : Nat × Nat × Nat} {v : Int} {pc : Nat} {ls : List (Option Value)} {st : List Value} {h : List va_E} {g : Option Prop} {s' : SS} (hd : decode X.1.2.1 pc = .ok (.putfield i, iln (.putfield i))) (hl : lnk X.1.1.cls (.putfield i, aux, v) = true) (hp : pin X.1.2.2.1 (.putfield i, aux, v) (pc, ls, st, h) = some (g, s')) (hg : ∀ q, g = some q → q) (k : AG X cl sl s'.1 s'.2.1 s'.2.2.1 s'.2.2.2) : AG X cl sl pc ls st h := by
    intro ad0 ad D E p l ev s m args below meth c H locs la hCF hag hLh hP hD hS
    obtain ⟨hx, hb, hr, hml, hlk, hown, hts, hK, hN, hSc⟩ := id hCF
    obtain ⟨cc, ecc⟩ : ∃ cc, vwCl[aux.1]? = some cc := by
      cases hq : vwCl[aux.1]? with
      | some cc => exact ⟨cc, rfl⟩
      | none => simp only [lnk, hq] at hl; cases hl
    obtain ⟨h1, ⟨ty0, h2⟩, h3⟩ := cls_ok _ _ ecc
    have hl2 : (!(cc.2.1 aux.2.1).2.2.2 && lnkF X.1.1.cls i (.putfield i, aux, v) cc) = true := by simpa only [lnk, ecc] using hl
    rw [Bool.and_eq_true] at hl2
    obtain ⟨hk, hw⟩ := lnkF_eq hl2.2
    have hfin : (cc.2.1 aux.2.1).2.2.2 = false := by simpa using hl2.1
    have hp2 : putF (pc, ls, st, h) aux.1 aux.2.1 (ty0 aux.2.1) = some (g, s') := by
      have hp3 := hp
      simp only [pin, ecc, h2 _ hk] at hp3
      exact hp3
    obtain ⟨w, q, r, fs, rfl, e2, e3, e4, rfl⟩ := putF_eq hp2
    obtain ⟨n1, n2⟩ := fitG_ok e4 hg ad
    have e5 : aux.2.1 < (fs.map (gV ad)).length := by rw [List.length_map]; exact e3
    have e6 := conc_at (ad := ad) (E := E) e2
    rw [gE_obj (vwCl_lt ecc)] at e6
    rcases hw with hw | hw
    · exact va_putN hx hb hts h1 ty0 h2 h3 hown hK hP hD hS q e6 ecc _ hk (nest_use hN hw) (fun _ h9 => h9) hfin (h2 _ hk) n1 n2 e5 hd (fun H1 locs1 hP1 hD1 hS1 => k ad0 ad D E p l ev s m args below meth c H1 locs1 la hCF hag hLh (conc_putF (vwCl_lt ecc) ▸ hP1) (conc_putF (vwCl_lt ecc) ▸ hD1) hS1)
    · exact va_put hx hb hts h1 ty0 h2 h3 hown hK hP hD hS q e6 ecc _ hk (hts _ hw) (fun _ h9 => h9) hfin (h2 _ hk) n1 n2 e5 hd (fun H1 locs1 hP1 hD1 hS1 => k ad0 ad D E p l ev s m args below meth c H1 locs1 la hCF hag hLh (conc_putF (vwCl_lt ecc) ▸ hP1) (conc_putF (vwCl_lt ecc) ▸ hD1) hS1)
theorem gs_iaload {X : CXG} {cl sl : Nat}  {aux : Nat × Nat × Nat} {v : Int} {pc : Nat} {ls : List (Option Value)} {st : List Value} {h : List va_E} {g : Option Prop} {s' : SS} (hd : decode X.1.2.1 pc = .ok (.iaload, iln (.iaload))) (hl : lnk X.1.1.cls (.iaload, aux, v) = true) (hp : pin X.1.2.2.1 (.iaload, aux, v) (pc, ls, st, h) = some (g, s')) (hg : ∀ q, g = some q → q) (k : AG X cl sl s'.1 s'.2.1 s'.2.2.1 s'.2.2.2) : AG X cl sl pc ls st h := by
    intro ad0 ad D E p l ev s m args below meth c H locs la hCF hag hLh hP hD hS
    obtain ⟨hx, hb, hr, hml, hlk, hown, hts, hK, hN, hSc⟩ := id hCF
    obtain ⟨i, q, r, n, f, rfl, e2, rfl, rfl⟩ := aldI_eq hp
    exact va_iald hx hb hK hP q 0 (conc_at e2) rfl (inb_vp (hg _ rfl)) hd (k ad0 ad D E p l ev s m args below meth c H locs la hCF hag hLh hP hD hS)
theorem gs_baload {X : CXG} {cl sl : Nat}  {aux : Nat × Nat × Nat} {v : Int} {pc : Nat} {ls : List (Option Value)} {st : List Value} {h : List va_E} {g : Option Prop} {s' : SS} (hd : decode X.1.2.1 pc = .ok (.baload, iln (.baload))) (hl : lnk X.1.1.cls (.baload, aux, v) = true) (hp : pin X.1.2.2.1 (.baload, aux, v) (pc, ls, st, h) = some (g, s')) (hg : ∀ q, g = some q → q) (k : AG X cl sl s'.1 s'.2.1 s'.2.2.1 s'.2.2.2) : AG X cl sl pc ls st h := by
    intro ad0 ad D E p l ev s m args below meth c H locs la hCF hag hLh hP hD hS
    obtain ⟨hx, hb, hr, hml, hlk, hown, hts, hK, hN, hSc⟩ := id hCF
    obtain ⟨i, q, r, n, f, rfl, e2, rfl, rfl⟩ := aldI_eq hp
    exact va_zald hx hb hK hP q 2 (conc_at e2) rfl (inb_vp (hg _ rfl)) hd (k ad0 ad D E p l ev s m args below meth c H locs la hCF hag hLh hP hD hS)
theorem gs_laload {X : CXG} {cl sl : Nat}  {aux : Nat × Nat × Nat} {v : Int} {pc : Nat} {ls : List (Option Value)} {st : List Value} {h : List va_E} {g : Option Prop} {s' : SS} (hd : decode X.1.2.1 pc = .ok (.laload, iln (.laload))) (hl : lnk X.1.1.cls (.laload, aux, v) = true) (hp : pin X.1.2.2.1 (.laload, aux, v) (pc, ls, st, h) = some (g, s')) (hg : ∀ q, g = some q → q) (k : AG X cl sl s'.1 s'.2.1 s'.2.2.1 s'.2.2.2) : AG X cl sl pc ls st h := by
    intro ad0 ad D E p l ev s m args below meth c H locs la hCF hag hLh hP hD hS
    obtain ⟨hx, hb, hr, hml, hlk, hown, hts, hK, hN, hSc⟩ := id hCF
    obtain ⟨i, q, r, n, f, rfl, e2, rfl, rfl⟩ := aldJ_eq hp
    exact va_lald hx hb hK hP q 1 (conc_at e2) rfl (inb_vp (hg _ rfl)) hd (k ad0 ad D E p l ev s m args below meth c H locs la hCF hag hLh hP hD hS)
theorem gs_iastore {X : CXG} {cl sl : Nat}  {aux : Nat × Nat × Nat} {v : Int} {pc : Nat} {ls : List (Option Value)} {st : List Value} {h : List va_E} {g : Option Prop} {s' : SS} (hd : decode X.1.2.1 pc = .ok (.iastore, iln (.iastore))) (hl : lnk X.1.1.cls (.iastore, aux, v) = true) (hp : pin X.1.2.2.1 (.iastore, aux, v) (pc, ls, st, h) = some (g, s')) (hg : ∀ q, g = some q → q) (k : AG X cl sl s'.1 s'.2.1 s'.2.2.1 s'.2.2.2) : AG X cl sl pc ls st h := by
    intro ad0 ad D E p l ev s m args below meth c H locs la hCF hag hLh hP hD hS
    obtain ⟨hx, hb, hr, hml, hlk, hown, hts, hK, hN, hSc⟩ := id hCF
    obtain ⟨w, i, q, r, n, f, rfl, e2, rfl, rfl⟩ := astI_eq hp
    exact va_iast hx hb hK hP hD hS q 0 (conc_at e2) rfl (inb_vp (hg _ rfl)) hd (fun H1 locs1 hP1 hD1 hS1 => k ad0 ad D E p l ev s m args below meth c H1 locs1 la hCF hag hLh (conc_set ▸ hP1) (conc_set ▸ hD1) hS1)
theorem gs_bastore {X : CXG} {cl sl : Nat}  {aux : Nat × Nat × Nat} {v : Int} {pc : Nat} {ls : List (Option Value)} {st : List Value} {h : List va_E} {g : Option Prop} {s' : SS} (hd : decode X.1.2.1 pc = .ok (.bastore, iln (.bastore))) (hl : lnk X.1.1.cls (.bastore, aux, v) = true) (hp : pin X.1.2.2.1 (.bastore, aux, v) (pc, ls, st, h) = some (g, s')) (hg : ∀ q, g = some q → q) (k : AG X cl sl s'.1 s'.2.1 s'.2.2.1 s'.2.2.2) : AG X cl sl pc ls st h := by
    intro ad0 ad D E p l ev s m args below meth c H locs la hCF hag hLh hP hD hS
    obtain ⟨hx, hb, hr, hml, hlk, hown, hts, hK, hN, hSc⟩ := id hCF
    obtain ⟨w, i, q, r, n, f, rfl, e2, rfl, rfl⟩ := astI_eq hp
    exact va_zast hx hb hK hP hD hS q 2 (conc_at e2) rfl (inb_vp (hg _ rfl)) hd (fun H1 locs1 hP1 hD1 hS1 => k ad0 ad D E p l ev s m args below meth c H1 locs1 la hCF hag hLh (conc_set ▸ hP1) (conc_set ▸ hD1) hS1)
theorem gs_lastore {X : CXG} {cl sl : Nat}  {aux : Nat × Nat × Nat} {v : Int} {pc : Nat} {ls : List (Option Value)} {st : List Value} {h : List va_E} {g : Option Prop} {s' : SS} (hd : decode X.1.2.1 pc = .ok (.lastore, iln (.lastore))) (hl : lnk X.1.1.cls (.lastore, aux, v) = true) (hp : pin X.1.2.2.1 (.lastore, aux, v) (pc, ls, st, h) = some (g, s')) (hg : ∀ q, g = some q → q) (k : AG X cl sl s'.1 s'.2.1 s'.2.2.1 s'.2.2.2) : AG X cl sl pc ls st h := by
    intro ad0 ad D E p l ev s m args below meth c H locs la hCF hag hLh hP hD hS
    obtain ⟨hx, hb, hr, hml, hlk, hown, hts, hK, hN, hSc⟩ := id hCF
    obtain ⟨w, i, q, r, n, f, rfl, e2, rfl, rfl⟩ := astJ_eq hp
    exact va_last hx hb hK hP hD hS q 1 (conc_at e2) rfl (inb_vp (hg _ rfl)) hd (fun H1 locs1 hP1 hD1 hS1 => k ad0 ad D E p l ev s m args below meth c H1 locs1 la hCF hag hLh (conc_set ▸ hP1) (conc_set ▸ hD1) hS1)
theorem gs_arraylength {X : CXG} {cl sl : Nat}  {aux : Nat × Nat × Nat} {v : Int} {pc : Nat} {ls : List (Option Value)} {st : List Value} {h : List va_E} {g : Option Prop} {s' : SS} (hd : decode X.1.2.1 pc = .ok (.arraylength, iln (.arraylength))) (hl : lnk X.1.1.cls (.arraylength, aux, v) = true) (hp : pin X.1.2.2.1 (.arraylength, aux, v) (pc, ls, st, h) = some (g, s')) (hg : ∀ q, g = some q → q) (k : AG X cl sl s'.1 s'.2.1 s'.2.2.1 s'.2.2.2) : AG X cl sl pc ls st h := by
    intro ad0 ad D E p l ev s m args below meth c H locs la hCF hag hLh hP hD hS
    obtain ⟨hx, hb, hr, hml, hlk, hown, hts, hK, hN, hSc⟩ := id hCF
    obtain ⟨q, r, e, n, rfl, e2, hor, rfl, rfl⟩ := alnA_eq hp
    have e3 : ∃ (kd : Nat) (z : vp_A), gE ad E e = .inl (E kd, z) ∧ z.1 = n ∧ kd < 5 := by
      rcases hor with ⟨kd, a, rfl, hk⟩ | ⟨cc, fs, rfl, hk, rfl⟩
      · exact ⟨kd, _, rfl, rfl, Nat.lt_of_lt_of_le hk (by decide)⟩
      · rcases hk with rfl | rfl
        · exact ⟨3, _, rfl, rfl, by omega⟩
        · exact ⟨4, _, rfl, rfl, by omega⟩
    obtain ⟨kd, z, e4, e5, hkd⟩ := e3
    have e6 := conc_at (ad := ad) (E := E) e2
    rw [e4] at e6
    obtain ⟨ty, hty⟩ : ∃ ty, (tysOf E)[kd]? = some (E kd, ty) := by
      match kd, hkd with
      | 0, _ => exact ⟨_, rfl⟩
      | 1, _ => exact ⟨_, rfl⟩
      | 2, _ => exact ⟨_, rfl⟩
      | 3, _ => exact ⟨_, rfl⟩
      | 4, _ => exact ⟨_, rfl⟩
    exact va_alen hx hb hK hP q kd e6 hty (by rw [e5]) hd (k ad0 ad D E p l ev s m args below meth c H locs la hCF hag hLh hP hD hS)
theorem AG.step {X : CXG} {cl sl : Nat} {e : ENT} {pc : Nat} {ls : List (Option Value)} {st : List Value} {h : List va_E} {g : Option Prop} {s' : SS} (hc : chk X.1.1.cls X.1.2.1 pc e = true) (hp : pin X.1.2.2.1 e (pc, ls, st, h) = some (g, s')) (hg : ∀ q, g = some q → q) (k : AG X cl sl s'.1 s'.2.1 s'.2.2.1 s'.2.2.2) : AG X cl sl pc ls st h := by
  obtain ⟨hd, hl⟩ := chk_eq hc
  obtain ⟨i, aux, v⟩ := e
  cases i with
  | iconst n => exact gs_iconst n hd hl hp hg k
  | bipush n => exact gs_bipush n hd hl hp hg k
  | sipush n => exact gs_sipush n hd hl hp hg k
  | lconst n => exact gs_lconst n hd hl hp hg k
  | ldc n => exact gs_ldc n hd hl hp hg k
  | ldc2_w n => exact gs_ldc2_w n hd hl hp hg k
  | iload_n n => exact gs_iload_n n hd hl hp hg k
  | iload n => exact gs_iload n hd hl hp hg k
  | lload_n n => exact gs_lload_n n hd hl hp hg k
  | lload n => exact gs_lload n hd hl hp hg k
  | aload_n n => exact gs_aload_n n hd hl hp hg k
  | aload n => exact gs_aload n hd hl hp hg k
  | istore_n n => exact gs_istore_n n hd hl hp hg k
  | istore n => exact gs_istore n hd hl hp hg k
  | lstore_n n => exact gs_lstore_n n hd hl hp hg k
  | lstore n => exact gs_lstore n hd hl hp hg k
  | astore_n n => exact gs_astore_n n hd hl hp hg k
  | astore n => exact gs_astore n hd hl hp hg k
  | iinc i n => exact gs_iinc i n hd hl hp hg k
  | dup => exact gs_dup hd hl hp hg k
  | dup2 => exact gs_dup2 hd hl hp hg k
  | pop => exact gs_pop hd hl hp hg k
  | iadd => exact gs_iadd hd hl hp hg k
  | isub => exact gs_isub hd hl hp hg k
  | imul => exact gs_imul hd hl hp hg k
  | iand => exact gs_iand hd hl hp hg k
  | ior => exact gs_ior hd hl hp hg k
  | ixor => exact gs_ixor hd hl hp hg k
  | ishl => exact gs_ishl hd hl hp hg k
  | ishr => exact gs_ishr hd hl hp hg k
  | iushr => exact gs_iushr hd hl hp hg k
  | ladd => exact gs_ladd hd hl hp hg k
  | lsub => exact gs_lsub hd hl hp hg k
  | lmul => exact gs_lmul hd hl hp hg k
  | land => exact gs_land hd hl hp hg k
  | lor => exact gs_lor hd hl hp hg k
  | lcmp => exact gs_lcmp hd hl hp hg k
  | ineg => exact gs_ineg hd hl hp hg k
  | lneg => exact gs_lneg hd hl hp hg k
  | i2l => exact gs_i2l hd hl hp hg k
  | l2i => exact gs_l2i hd hl hp hg k
  | i2c => exact gs_i2c hd hl hp hg k
  | lshl => exact gs_lshl hd hl hp hg k
  | lushr => exact gs_lushr hd hl hp hg k
  | idiv => exact gs_idiv hd hl hp hg k
  | irem => exact gs_irem hd hl hp hg k
  | ldiv => exact gs_ldiv hd hl hp hg k
  | lrem => exact gs_lrem hd hl hp hg k
  | goto off => exact gs_goto off hd hl hp hg k
  | getfield i => exact gs_getfield i hd hl hp hg k
  | putfield i => exact gs_putfield i hd hl hp hg k
  | iaload => exact gs_iaload hd hl hp hg k
  | baload => exact gs_baload hd hl hp hg k
  | laload => exact gs_laload hd hl hp hg k
  | iastore => exact gs_iastore hd hl hp hg k
  | bastore => exact gs_bastore hd hl hp hg k
  | lastore => exact gs_lastore hd hl hp hg k
  | arraylength => exact gs_arraylength hd hl hp hg k
  | _ => cases hp
theorem AG.run {X : CXG} {cl sl : Nat} : ∀ (seg : List (Nat × ENT)) {pc : Nat} {ls : List (Option Value)} {st : List Value} {h : List va_E} {C : Prop} {pc' : Nat} {ls' : List (Option Value)} {st' : List Value} {h' : List va_E}, segOK X.1.1.cls X.1.2.1 seg = true → prun X.1.2.2.1 seg (pc, ls, st, h) = some (C, pc', ls', st', h') → C → AG X cl sl pc' ls' st' h' → AG X cl sl pc ls st h
  | [], pc, ls, st, h, C, pc', ls', st', h', _, hr, _, k => by
    cases hr
    exact k
  | e :: t, pc, ls, st, h, C, pc', ls', st', h', hs, hr, hC, k => by
    unfold segOK at hs
    rw [List.all_cons, Bool.and_eq_true] at hs
    unfold prun at hr
    split at hr
    · rename_i hpc
      have hpc : pc = e.1 := of_decide_eq_true hpc
      split at hr
      · cases hr
      · rename_i g s1 hp
        split at hr
        · cases hr
        · rename_i C1 s2 hr2
          cases hr
          have hg : ∀ q, g = some q → q := by
            intro q hq
            subst hq
            exact hC.1
          have hC1 : C1 := by
            cases g with
            | none => exact hC
            | some q => exact hC.2
          refine AG.step (e := e.2) (by rw [hpc]; exact hs.1) hp hg ?_
          exact AG.run t hs.2 hr2 hC1 k
    · cases hr
theorem AG.cnd {X : CXG} {cl sl : Nat} {i : Instr} {pc tgt nxt : Nat} {ls : List (Option Value)} {st r : List Value} {h : List va_E} {P : Prop} {b : Bool} {off : Int} (hs : segOK X.1.1.cls X.1.2.1 [(pc, i, (0, 0, 0), 0)] = true) (hc : cndF i st = some (P, b, off, r)) (ht : (pc : Int) + off = (tgt : Int)) (hn : pc + 3 = nxt)
    (kT : P → AG X cl sl (bif b then tgt else nxt) ls r h) (kF : ¬ P → AG X cl sl (bif b then nxt else tgt) ls r h) : AG X cl sl pc ls st h := by
  intro ad0 ad D E p l ev s m args below meth c H locs la hCF hag hLh hP hD hS
  obtain ⟨hx, hb, hr, hml, hlk, hown, hts, hK, hN, hSc⟩ := id hCF
  subst hn
  unfold segOK at hs
  rw [List.all_cons, Bool.and_eq_true] at hs
  obtain ⟨hd, -⟩ := chk_eq hs.1
  have kT' := fun q => kT q ad0 ad D E p l ev s m args below meth c H locs la hCF hag hLh hP hD hS
  have kF' := fun q => kF q ad0 ad D E p l ev s m args below meth c H locs la hCF hag hLh hP hD hS
  unfold cndF at hc
  split at hc <;> first | (cases hc; done) | skip
  · cases hc; exact lv_if_eq hx hb hd ht (fun q => kT' q) (fun q => kF' q)
  · cases hc; exact lv_if_ne hx hb hd ht (fun q => kF' q) (fun q => kT' q)
  · cases hc; exact lv_if_lt hx hb hd ht (fun q => kT' q) (fun q => kF' q)
  · cases hc; exact lv_if_ge hx hb hd ht (fun q => kF' (Int32.not_lt.mpr q)) (fun q => kT' (Int32.not_le.mp q))
  · cases hc; exact lv_if_gt hx hb hd ht (fun q => kT' q) (fun q => kF' q)
  · cases hc; exact lv_if_le hx hb hd ht (fun q => kF' (Int32.not_lt.mpr q)) (fun q => kT' (Int32.not_le.mp q))
  · cases hc; exact lv_icmp_eq hx hb hd ht (fun q => kT' q) (fun q => kF' q)
  · cases hc; exact lv_icmp_ne hx hb hd ht (fun q => kF' q) (fun q => kT' q)
  · cases hc; exact lv_icmp_lt hx hb hd ht (fun q => kT' q) (fun q => kF' q)
  · cases hc; exact lv_icmp_ge hx hb hd ht (fun q => kF' (Int32.not_lt.mpr q)) (fun q => kT' (Int32.not_le.mp q))
  · cases hc; exact lv_icmp_gt hx hb hd ht (fun q => kT' q) (fun q => kF' q)
  · cases hc; exact lv_icmp_le hx hb hd ht (fun q => kF' (Int32.not_lt.mpr q)) (fun q => kT' (Int32.not_le.mp q))
