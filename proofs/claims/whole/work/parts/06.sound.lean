/-! ===== soundness of one step ===== -/
theorem gV_int {ad : Nat → Nat} {v : Int32} : gV ad (.int v) = .int v := rfl
theorem toLv_place {ad : Nat → Nat} {ls : List (Option Value)} {i : Nat} {v : Value} (h : ls[i]? = some (some v)) : ∃ k : Nat, (toLv ad 0 ls)[k]? = some (i, gV ad v) :=
  List.getElem?_of_mem ((toLv_mem ad ls 0 _).mpr ⟨i, v, h, by rw [Nat.zero_add]⟩)
theorem conc_putF {ad : Nat → Nat} {E : Nat → ClassId} {h : List va_E} {q ci k : Nat} {fs : List Value} {v : Value} (hc : ci < 100) : (conc ad E h).set q (ad q, .inr (ci, (fs.map (gV ad)).set k (gV ad v))) = conc ad E (h.set q (.inr (ci, fs.set k v))) := by
  rw [← conc_set]
  rw [gE_obj hc, List.map_set]
theorem lnkF_eq {own : String} {i : Nat} {e : ENT} {c : vw_C} (h : lnkF own i e c = true) : e.2.1.2.1 < c.2.2 ∧ ((Jvm.Cond.fieldLinkNest own i (c.2.1 e.2.1.2.1).1 (c.2.1 e.2.1.2.1).2.1 (c.2.1 e.2.1.2.1).2.2.1 "LastName" ∈ NESTW) ∨ (Jvm.Cond.fieldLink own i (c.2.1 e.2.1.2.1).1 (c.2.1 e.2.1.2.1).2.1 (c.2.1 e.2.1.2.1).2.2.1 ∈ ALLW)) := by
  unfold lnkF at h
  rw [Bool.and_eq_true, decide_eq_true_eq] at h
  refine ⟨h.1, ?_⟩
  have h2 := h.2
  cases hq : decide (e.2.2 = 1) with
  | true => rw [hq] at h2; exact Or.inl (nwOK_mem h2)
  | false => rw [hq] at h2; exact Or.inr (wdOK_mem h2)
theorem nest_use {s : State} {args : Array Value} (hN : ∀ w ∈ NESTW, va_Nw w s) {w : Jvm.Cond} (hw : w ∈ NESTW) : w.before args s = true := va_Nw.use (nest_tab (List.mem_filter.mp hw).2) (hN w hw)
theorem fitG_ok {ty : FieldType} {v : Value} {g : Option Prop} (h : fitG ty v = some g) (hg : ∀ q, g = some q → q) (ad : Nat → Nat) : narrow ty (gV ad v) = gV ad v ∧ fits ty (gV ad v) = true := by
  unfold fitG at h
  split at h
  · exact ⟨rfl, rfl⟩
  · exact ⟨rfl, rfl⟩
  · rename_i v
    cases h
    rcases hg _ rfl with rfl | rfl
    · exact ⟨(by decide : narrow .boolean (.int 0) = .int 0), (by decide : fits .boolean (.int 0) = true)⟩
    · exact ⟨(by decide : narrow .boolean (.int 1) = .int 1), (by decide : fits .boolean (.int 1) = true)⟩
  · cases h

theorem ps_iconst {X : CXT} (n : Int) {aux : Nat × Nat × Nat} {v : Int} {pc : Nat} {ls : List (Option Value)} {st : List Value} {h : List va_E} {g : Option Prop} {s' : SS} (hd : decode X.1.2.1 pc = .ok (.iconst n, iln (.iconst n))) (hl : lnk X.1.1.cls (.iconst n, aux, v) = true) (hp : pin X.1.2.2.1 (.iconst n, aux, v) (pc, ls, st, h) = some (g, s')) (hg : ∀ q, g = some q → q) (k : AJ X s'.1 s'.2.1 s'.2.2.1 s'.2.2.2) : AJ X pc ls st h := by
    intro ad D E p l ev s m args below meth c H locs la hCF hLh hP hD hS
    obtain ⟨hx, hb, hr, hml, hlk, hown, hts, hK, hN, hSc⟩ := id hCF
    have hp2 : some ((none : Option Prop), pc + 1, ls, Value.int (Int32.ofInt n) :: st, h) = some (g, s') := hp
    cases hp2
    exact lv_iconst hx hb hd rfl (k ad D E p l ev s m args below meth c H locs la hCF hLh hP hD hS)
theorem ps_bipush {X : CXT} (n : Int) {aux : Nat × Nat × Nat} {v : Int} {pc : Nat} {ls : List (Option Value)} {st : List Value} {h : List va_E} {g : Option Prop} {s' : SS} (hd : decode X.1.2.1 pc = .ok (.bipush n, iln (.bipush n))) (hl : lnk X.1.1.cls (.bipush n, aux, v) = true) (hp : pin X.1.2.2.1 (.bipush n, aux, v) (pc, ls, st, h) = some (g, s')) (hg : ∀ q, g = some q → q) (k : AJ X s'.1 s'.2.1 s'.2.2.1 s'.2.2.2) : AJ X pc ls st h := by
    intro ad D E p l ev s m args below meth c H locs la hCF hLh hP hD hS
    obtain ⟨hx, hb, hr, hml, hlk, hown, hts, hK, hN, hSc⟩ := id hCF
    have hp2 : some ((none : Option Prop), pc + 2, ls, Value.int ((Int8.ofInt n).toInt32) :: st, h) = some (g, s') := hp
    cases hp2
    exact lv_bipush hx hb hd rfl (k ad D E p l ev s m args below meth c H locs la hCF hLh hP hD hS)
theorem ps_sipush {X : CXT} (n : Int) {aux : Nat × Nat × Nat} {v : Int} {pc : Nat} {ls : List (Option Value)} {st : List Value} {h : List va_E} {g : Option Prop} {s' : SS} (hd : decode X.1.2.1 pc = .ok (.sipush n, iln (.sipush n))) (hl : lnk X.1.1.cls (.sipush n, aux, v) = true) (hp : pin X.1.2.2.1 (.sipush n, aux, v) (pc, ls, st, h) = some (g, s')) (hg : ∀ q, g = some q → q) (k : AJ X s'.1 s'.2.1 s'.2.2.1 s'.2.2.2) : AJ X pc ls st h := by
    intro ad D E p l ev s m args below meth c H locs la hCF hLh hP hD hS
    obtain ⟨hx, hb, hr, hml, hlk, hown, hts, hK, hN, hSc⟩ := id hCF
    have hp2 : some ((none : Option Prop), pc + 3, ls, Value.int ((Int16.ofInt n).toInt32) :: st, h) = some (g, s') := hp
    cases hp2
    exact lv_sipush hx hb hd rfl (k ad D E p l ev s m args below meth c H locs la hCF hLh hP hD hS)
theorem ps_lconst {X : CXT} (n : Fin 2) {aux : Nat × Nat × Nat} {v : Int} {pc : Nat} {ls : List (Option Value)} {st : List Value} {h : List va_E} {g : Option Prop} {s' : SS} (hd : decode X.1.2.1 pc = .ok (.lconst n, iln (.lconst n))) (hl : lnk X.1.1.cls (.lconst n, aux, v) = true) (hp : pin X.1.2.2.1 (.lconst n, aux, v) (pc, ls, st, h) = some (g, s')) (hg : ∀ q, g = some q → q) (k : AJ X s'.1 s'.2.1 s'.2.2.1 s'.2.2.2) : AJ X pc ls st h := by
    intro ad D E p l ev s m args below meth c H locs la hCF hLh hP hD hS
    obtain ⟨hx, hb, hr, hml, hlk, hown, hts, hK, hN, hSc⟩ := id hCF
    have hp2 : some ((none : Option Prop), pc + 1, ls, Value.long (Int64.ofNat n) :: st, h) = some (g, s') := hp
    cases hp2
    exact lv_lconst hx hb hd rfl (k ad D E p l ev s m args below meth c H locs la hCF hLh hP hD hS)
theorem ps_ldc {X : CXT} (n : Nat) {aux : Nat × Nat × Nat} {v : Int} {pc : Nat} {ls : List (Option Value)} {st : List Value} {h : List va_E} {g : Option Prop} {s' : SS} (hd : decode X.1.2.1 pc = .ok (.ldc n, iln (.ldc n))) (hl : lnk X.1.1.cls (.ldc n, aux, v) = true) (hp : pin X.1.2.2.1 (.ldc n, aux, v) (pc, ls, st, h) = some (g, s')) (hg : ∀ q, g = some q → q) (k : AJ X s'.1 s'.2.1 s'.2.2.1 s'.2.2.2) : AJ X pc ls st h := by
    intro ad D E p l ev s m args below meth c H locs la hCF hLh hP hD hS
    obtain ⟨hx, hb, hr, hml, hlk, hown, hts, hK, hN, hSc⟩ := id hCF
    have hp2 : some ((none : Option Prop), pc + 2, ls, Value.int (Int32.ofInt v) :: st, h) = some (g, s') := hp
    cases hp2
    exact lv_ldc hx hb hown (hts _ (wdOK_mem hl)) hd (k ad D E p l ev s m args below meth c H locs la hCF hLh hP hD hS)
theorem ps_ldc2_w {X : CXT} (n : Nat) {aux : Nat × Nat × Nat} {v : Int} {pc : Nat} {ls : List (Option Value)} {st : List Value} {h : List va_E} {g : Option Prop} {s' : SS} (hd : decode X.1.2.1 pc = .ok (.ldc2_w n, iln (.ldc2_w n))) (hl : lnk X.1.1.cls (.ldc2_w n, aux, v) = true) (hp : pin X.1.2.2.1 (.ldc2_w n, aux, v) (pc, ls, st, h) = some (g, s')) (hg : ∀ q, g = some q → q) (k : AJ X s'.1 s'.2.1 s'.2.2.1 s'.2.2.2) : AJ X pc ls st h := by
    intro ad D E p l ev s m args below meth c H locs la hCF hLh hP hD hS
    obtain ⟨hx, hb, hr, hml, hlk, hown, hts, hK, hN, hSc⟩ := id hCF
    have hp2 : some ((none : Option Prop), pc + 3, ls, Value.long (Int64.ofInt v) :: st, h) = some (g, s') := hp
    cases hp2
    exact lv_ldc2 hx hb hown (hts _ (wdOK_mem hl)) hd (k ad D E p l ev s m args below meth c H locs la hCF hLh hP hD hS)
theorem ps_iload_n {X : CXT} (n : Fin 4) {aux : Nat × Nat × Nat} {v : Int} {pc : Nat} {ls : List (Option Value)} {st : List Value} {h : List va_E} {g : Option Prop} {s' : SS} (hd : decode X.1.2.1 pc = .ok (.iload_n n, iln (.iload_n n))) (hl : lnk X.1.1.cls (.iload_n n, aux, v) = true) (hp : pin X.1.2.2.1 (.iload_n n, aux, v) (pc, ls, st, h) = some (g, s')) (hg : ∀ q, g = some q → q) (k : AJ X s'.1 s'.2.1 s'.2.2.1 s'.2.2.2) : AJ X pc ls st h := by
    intro ad D E p l ev s m args below meth c H locs la hCF hLh hP hD hS
    obtain ⟨hx, hb, hr, hml, hlk, hown, hts, hK, hN, hSc⟩ := id hCF
    obtain ⟨t, e1, rfl, rfl⟩ := nx_eq hp
    obtain ⟨w, e2, rfl⟩ := ldI_eq e1
    exact lv_iload_n hx hb hd rfl (hLh.2.2 _ _ e2) (k ad D E p l ev s m args below meth c H locs la hCF hLh hP hD hS)
theorem ps_iload {X : CXT} (n : Nat) {aux : Nat × Nat × Nat} {v : Int} {pc : Nat} {ls : List (Option Value)} {st : List Value} {h : List va_E} {g : Option Prop} {s' : SS} (hd : decode X.1.2.1 pc = .ok (.iload n, iln (.iload n))) (hl : lnk X.1.1.cls (.iload n, aux, v) = true) (hp : pin X.1.2.2.1 (.iload n, aux, v) (pc, ls, st, h) = some (g, s')) (hg : ∀ q, g = some q → q) (k : AJ X s'.1 s'.2.1 s'.2.2.1 s'.2.2.2) : AJ X pc ls st h := by
    intro ad D E p l ev s m args below meth c H locs la hCF hLh hP hD hS
    obtain ⟨hx, hb, hr, hml, hlk, hown, hts, hK, hN, hSc⟩ := id hCF
    obtain ⟨t, e1, rfl, rfl⟩ := nx_eq hp
    obtain ⟨w, e2, rfl⟩ := ldI_eq e1
    exact lv_iload hx hb hd (hLh.2.2 _ _ e2) (k ad D E p l ev s m args below meth c H locs la hCF hLh hP hD hS)
theorem ps_lload_n {X : CXT} (n : Fin 4) {aux : Nat × Nat × Nat} {v : Int} {pc : Nat} {ls : List (Option Value)} {st : List Value} {h : List va_E} {g : Option Prop} {s' : SS} (hd : decode X.1.2.1 pc = .ok (.lload_n n, iln (.lload_n n))) (hl : lnk X.1.1.cls (.lload_n n, aux, v) = true) (hp : pin X.1.2.2.1 (.lload_n n, aux, v) (pc, ls, st, h) = some (g, s')) (hg : ∀ q, g = some q → q) (k : AJ X s'.1 s'.2.1 s'.2.2.1 s'.2.2.2) : AJ X pc ls st h := by
    intro ad D E p l ev s m args below meth c H locs la hCF hLh hP hD hS
    obtain ⟨hx, hb, hr, hml, hlk, hown, hts, hK, hN, hSc⟩ := id hCF
    obtain ⟨t, e1, rfl, rfl⟩ := nx_eq hp
    obtain ⟨w, e2, rfl⟩ := ldJ_eq e1
    exact lv_lload_n hx hb hd rfl (hLh.2.2 _ _ e2) (k ad D E p l ev s m args below meth c H locs la hCF hLh hP hD hS)
theorem ps_lload {X : CXT} (n : Nat) {aux : Nat × Nat × Nat} {v : Int} {pc : Nat} {ls : List (Option Value)} {st : List Value} {h : List va_E} {g : Option Prop} {s' : SS} (hd : decode X.1.2.1 pc = .ok (.lload n, iln (.lload n))) (hl : lnk X.1.1.cls (.lload n, aux, v) = true) (hp : pin X.1.2.2.1 (.lload n, aux, v) (pc, ls, st, h) = some (g, s')) (hg : ∀ q, g = some q → q) (k : AJ X s'.1 s'.2.1 s'.2.2.1 s'.2.2.2) : AJ X pc ls st h := by
    intro ad D E p l ev s m args below meth c H locs la hCF hLh hP hD hS
    obtain ⟨hx, hb, hr, hml, hlk, hown, hts, hK, hN, hSc⟩ := id hCF
    obtain ⟨t, e1, rfl, rfl⟩ := nx_eq hp
    obtain ⟨w, e2, rfl⟩ := ldJ_eq e1
    exact lv_lload hx hb hd (hLh.2.2 _ _ e2) (k ad D E p l ev s m args below meth c H locs la hCF hLh hP hD hS)
theorem ps_aload_n {X : CXT} (n : Fin 4) {aux : Nat × Nat × Nat} {v : Int} {pc : Nat} {ls : List (Option Value)} {st : List Value} {h : List va_E} {g : Option Prop} {s' : SS} (hd : decode X.1.2.1 pc = .ok (.aload_n n, iln (.aload_n n))) (hl : lnk X.1.1.cls (.aload_n n, aux, v) = true) (hp : pin X.1.2.2.1 (.aload_n n, aux, v) (pc, ls, st, h) = some (g, s')) (hg : ∀ q, g = some q → q) (k : AJ X s'.1 s'.2.1 s'.2.2.1 s'.2.2.2) : AJ X pc ls st h := by
    intro ad D E p l ev s m args below meth c H locs la hCF hLh hP hD hS
    obtain ⟨hx, hb, hr, hml, hlk, hown, hts, hK, hN, hSc⟩ := id hCF
    obtain ⟨t, e1, rfl, rfl⟩ := nx_eq hp
    obtain ⟨w, e2, rfl⟩ := ldA_eq e1
    exact lv_aload_n hx hb hd rfl (hLh.2.2 _ _ e2) (k ad D E p l ev s m args below meth c H locs la hCF hLh hP hD hS)
theorem ps_aload {X : CXT} (n : Nat) {aux : Nat × Nat × Nat} {v : Int} {pc : Nat} {ls : List (Option Value)} {st : List Value} {h : List va_E} {g : Option Prop} {s' : SS} (hd : decode X.1.2.1 pc = .ok (.aload n, iln (.aload n))) (hl : lnk X.1.1.cls (.aload n, aux, v) = true) (hp : pin X.1.2.2.1 (.aload n, aux, v) (pc, ls, st, h) = some (g, s')) (hg : ∀ q, g = some q → q) (k : AJ X s'.1 s'.2.1 s'.2.2.1 s'.2.2.2) : AJ X pc ls st h := by
    intro ad D E p l ev s m args below meth c H locs la hCF hLh hP hD hS
    obtain ⟨hx, hb, hr, hml, hlk, hown, hts, hK, hN, hSc⟩ := id hCF
    obtain ⟨t, e1, rfl, rfl⟩ := nx_eq hp
    obtain ⟨w, e2, rfl⟩ := ldA_eq e1
    exact lv_aload hx hb hd (hLh.2.2 _ _ e2) (k ad D E p l ev s m args below meth c H locs la hCF hLh hP hD hS)
theorem ps_istore_n {X : CXT} (n : Fin 4) {aux : Nat × Nat × Nat} {v : Int} {pc : Nat} {ls : List (Option Value)} {st : List Value} {h : List va_E} {g : Option Prop} {s' : SS} (hd : decode X.1.2.1 pc = .ok (.istore_n n, iln (.istore_n n))) (hl : lnk X.1.1.cls (.istore_n n, aux, v) = true) (hp : pin X.1.2.2.1 (.istore_n n, aux, v) (pc, ls, st, h) = some (g, s')) (hg : ∀ q, g = some q → q) (k : AJ X s'.1 s'.2.1 s'.2.2.1 s'.2.2.2) : AJ X pc ls st h := by
    intro ad D E p l ev s m args below meth c H locs la hCF hLh hP hD hS
    obtain ⟨hx, hb, hr, hml, hlk, hown, hts, hK, hN, hSc⟩ := id hCF
    obtain ⟨w, r, rfl, hi, rfl, rfl⟩ := stI_eq hp
    exact lv_istore_n hx hb hd rfl hLh.has hi rfl (fun la' h' => k ad D E p l ev s m args below meth c H locs la' hCF (Lh.sto1 hLh h') hP hD hS)
theorem ps_istore {X : CXT} (n : Nat) {aux : Nat × Nat × Nat} {v : Int} {pc : Nat} {ls : List (Option Value)} {st : List Value} {h : List va_E} {g : Option Prop} {s' : SS} (hd : decode X.1.2.1 pc = .ok (.istore n, iln (.istore n))) (hl : lnk X.1.1.cls (.istore n, aux, v) = true) (hp : pin X.1.2.2.1 (.istore n, aux, v) (pc, ls, st, h) = some (g, s')) (hg : ∀ q, g = some q → q) (k : AJ X s'.1 s'.2.1 s'.2.2.1 s'.2.2.2) : AJ X pc ls st h := by
    intro ad D E p l ev s m args below meth c H locs la hCF hLh hP hD hS
    obtain ⟨hx, hb, hr, hml, hlk, hown, hts, hK, hN, hSc⟩ := id hCF
    obtain ⟨w, r, rfl, hi, rfl, rfl⟩ := stI_eq hp
    exact lv_istore hx hb hd hLh.has hi rfl (fun la' h' => k ad D E p l ev s m args below meth c H locs la' hCF (Lh.sto1 hLh h') hP hD hS)
theorem ps_lstore_n {X : CXT} (n : Fin 4) {aux : Nat × Nat × Nat} {v : Int} {pc : Nat} {ls : List (Option Value)} {st : List Value} {h : List va_E} {g : Option Prop} {s' : SS} (hd : decode X.1.2.1 pc = .ok (.lstore_n n, iln (.lstore_n n))) (hl : lnk X.1.1.cls (.lstore_n n, aux, v) = true) (hp : pin X.1.2.2.1 (.lstore_n n, aux, v) (pc, ls, st, h) = some (g, s')) (hg : ∀ q, g = some q → q) (k : AJ X s'.1 s'.2.1 s'.2.2.1 s'.2.2.2) : AJ X pc ls st h := by
    intro ad D E p l ev s m args below meth c H locs la hCF hLh hP hD hS
    obtain ⟨hx, hb, hr, hml, hlk, hown, hts, hK, hN, hSc⟩ := id hCF
    obtain ⟨w, r, rfl, hi, rfl, rfl⟩ := stJ_eq hp
    exact lv_lstore_n hx hb hd rfl hLh.has hi rfl (fun la' h' => k ad D E p l ev s m args below meth c H locs la' hCF (Lh.sto2 hLh h') hP hD hS)
theorem ps_lstore {X : CXT} (n : Nat) {aux : Nat × Nat × Nat} {v : Int} {pc : Nat} {ls : List (Option Value)} {st : List Value} {h : List va_E} {g : Option Prop} {s' : SS} (hd : decode X.1.2.1 pc = .ok (.lstore n, iln (.lstore n))) (hl : lnk X.1.1.cls (.lstore n, aux, v) = true) (hp : pin X.1.2.2.1 (.lstore n, aux, v) (pc, ls, st, h) = some (g, s')) (hg : ∀ q, g = some q → q) (k : AJ X s'.1 s'.2.1 s'.2.2.1 s'.2.2.2) : AJ X pc ls st h := by
    intro ad D E p l ev s m args below meth c H locs la hCF hLh hP hD hS
    obtain ⟨hx, hb, hr, hml, hlk, hown, hts, hK, hN, hSc⟩ := id hCF
    obtain ⟨w, r, rfl, hi, rfl, rfl⟩ := stJ_eq hp
    exact lv_lstore hx hb hd hLh.has hi rfl (fun la' h' => k ad D E p l ev s m args below meth c H locs la' hCF (Lh.sto2 hLh h') hP hD hS)
theorem ps_astore_n {X : CXT} (n : Fin 4) {aux : Nat × Nat × Nat} {v : Int} {pc : Nat} {ls : List (Option Value)} {st : List Value} {h : List va_E} {g : Option Prop} {s' : SS} (hd : decode X.1.2.1 pc = .ok (.astore_n n, iln (.astore_n n))) (hl : lnk X.1.1.cls (.astore_n n, aux, v) = true) (hp : pin X.1.2.2.1 (.astore_n n, aux, v) (pc, ls, st, h) = some (g, s')) (hg : ∀ q, g = some q → q) (k : AJ X s'.1 s'.2.1 s'.2.2.1 s'.2.2.2) : AJ X pc ls st h := by
    intro ad D E p l ev s m args below meth c H locs la hCF hLh hP hD hS
    obtain ⟨hx, hb, hr, hml, hlk, hown, hts, hK, hN, hSc⟩ := id hCF
    obtain ⟨w, r, rfl, hi, rfl, rfl⟩ := stA_eq hp
    exact lv_astore_n hx hb hd rfl hLh.has hi rfl (fun la' h' => k ad D E p l ev s m args below meth c H locs la' hCF (Lh.sto1 hLh h') hP hD hS)
theorem ps_astore {X : CXT} (n : Nat) {aux : Nat × Nat × Nat} {v : Int} {pc : Nat} {ls : List (Option Value)} {st : List Value} {h : List va_E} {g : Option Prop} {s' : SS} (hd : decode X.1.2.1 pc = .ok (.astore n, iln (.astore n))) (hl : lnk X.1.1.cls (.astore n, aux, v) = true) (hp : pin X.1.2.2.1 (.astore n, aux, v) (pc, ls, st, h) = some (g, s')) (hg : ∀ q, g = some q → q) (k : AJ X s'.1 s'.2.1 s'.2.2.1 s'.2.2.2) : AJ X pc ls st h := by
    intro ad D E p l ev s m args below meth c H locs la hCF hLh hP hD hS
    obtain ⟨hx, hb, hr, hml, hlk, hown, hts, hK, hN, hSc⟩ := id hCF
    obtain ⟨w, r, rfl, hi, rfl, rfl⟩ := stA_eq hp
    exact lv_astore hx hb hd hLh.has hi rfl (fun la' h' => k ad D E p l ev s m args below meth c H locs la' hCF (Lh.sto1 hLh h') hP hD hS)
theorem ps_iinc {X : CXT} (i : Nat) (n : Int) {aux : Nat × Nat × Nat} {v : Int} {pc : Nat} {ls : List (Option Value)} {st : List Value} {h : List va_E} {g : Option Prop} {s' : SS} (hd : decode X.1.2.1 pc = .ok (.iinc i n, iln (.iinc i n))) (hl : lnk X.1.1.cls (.iinc i n, aux, v) = true) (hp : pin X.1.2.2.1 (.iinc i n, aux, v) (pc, ls, st, h) = some (g, s')) (hg : ∀ q, g = some q → q) (k : AJ X s'.1 s'.2.1 s'.2.2.1 s'.2.2.2) : AJ X pc ls st h := by
    intro ad D E p l ev s m args below meth c H locs la hCF hLh hP hD hS
    obtain ⟨hx, hb, hr, hml, hlk, hown, hts, hK, hN, hSc⟩ := id hCF
    obtain ⟨w, e2, hi, rfl, rfl⟩ := incI_eq hp
    obtain ⟨kp, hkp⟩ := toLv_place (ad := ad) e2
    exact lv_iinc hx hb hd hLh.has hkp rfl hi rfl (fun la' h' => k ad D E p l ev s m args below meth c H locs la' hCF (Lh.sto1 (v := .int (w + Int32.ofInt n)) hLh h') hP hD hS)
theorem ps_dup {X : CXT}  {aux : Nat × Nat × Nat} {v : Int} {pc : Nat} {ls : List (Option Value)} {st : List Value} {h : List va_E} {g : Option Prop} {s' : SS} (hd : decode X.1.2.1 pc = .ok (.dup, iln (.dup))) (hl : lnk X.1.1.cls (.dup, aux, v) = true) (hp : pin X.1.2.2.1 (.dup, aux, v) (pc, ls, st, h) = some (g, s')) (hg : ∀ q, g = some q → q) (k : AJ X s'.1 s'.2.1 s'.2.2.1 s'.2.2.2) : AJ X pc ls st h := by
    intro ad D E p l ev s m args below meth c H locs la hCF hLh hP hD hS
    obtain ⟨hx, hb, hr, hml, hlk, hown, hts, hK, hN, hSc⟩ := id hCF
    obtain ⟨t, e1, rfl, rfl⟩ := nx_eq hp
    obtain ⟨w, r, rfl, rfl, hcat⟩ := dup1_eq e1
    exact lv_dup hx hb hd (by rw [gV_cat]; exact hcat) (k ad D E p l ev s m args below meth c H locs la hCF hLh hP hD hS)
theorem ps_dup2 {X : CXT}  {aux : Nat × Nat × Nat} {v : Int} {pc : Nat} {ls : List (Option Value)} {st : List Value} {h : List va_E} {g : Option Prop} {s' : SS} (hd : decode X.1.2.1 pc = .ok (.dup2, iln (.dup2))) (hl : lnk X.1.1.cls (.dup2, aux, v) = true) (hp : pin X.1.2.2.1 (.dup2, aux, v) (pc, ls, st, h) = some (g, s')) (hg : ∀ q, g = some q → q) (k : AJ X s'.1 s'.2.1 s'.2.2.1 s'.2.2.2) : AJ X pc ls st h := by
    intro ad D E p l ev s m args below meth c H locs la hCF hLh hP hD hS
    obtain ⟨hx, hb, hr, hml, hlk, hown, hts, hK, hN, hSc⟩ := id hCF
    obtain ⟨t, e1, rfl, rfl⟩ := nx_eq hp
    obtain ⟨w, z, r, rfl, rfl, hcat, hcat2⟩ := dup2s_eq e1
    exact lv_dup2_11 hx hb hd (by rw [gV_cat]; exact hcat) (by rw [gV_cat]; exact hcat2) (k ad D E p l ev s m args below meth c H locs la hCF hLh hP hD hS)
theorem ps_pop {X : CXT}  {aux : Nat × Nat × Nat} {v : Int} {pc : Nat} {ls : List (Option Value)} {st : List Value} {h : List va_E} {g : Option Prop} {s' : SS} (hd : decode X.1.2.1 pc = .ok (.pop, iln (.pop))) (hl : lnk X.1.1.cls (.pop, aux, v) = true) (hp : pin X.1.2.2.1 (.pop, aux, v) (pc, ls, st, h) = some (g, s')) (hg : ∀ q, g = some q → q) (k : AJ X s'.1 s'.2.1 s'.2.2.1 s'.2.2.2) : AJ X pc ls st h := by
    intro ad D E p l ev s m args below meth c H locs la hCF hLh hP hD hS
    obtain ⟨hx, hb, hr, hml, hlk, hown, hts, hK, hN, hSc⟩ := id hCF
    obtain ⟨t, e1, rfl, rfl⟩ := nx_eq hp
    obtain ⟨w, r, rfl, rfl, hcat⟩ := pop1_eq e1
    exact lv_pop hx hb hd (by rw [gV_cat]; exact hcat) (k ad D E p l ev s m args below meth c H locs la hCF hLh hP hD hS)
theorem ps_iadd {X : CXT}  {aux : Nat × Nat × Nat} {v : Int} {pc : Nat} {ls : List (Option Value)} {st : List Value} {h : List va_E} {g : Option Prop} {s' : SS} (hd : decode X.1.2.1 pc = .ok (.iadd, iln (.iadd))) (hl : lnk X.1.1.cls (.iadd, aux, v) = true) (hp : pin X.1.2.2.1 (.iadd, aux, v) (pc, ls, st, h) = some (g, s')) (hg : ∀ q, g = some q → q) (k : AJ X s'.1 s'.2.1 s'.2.2.1 s'.2.2.2) : AJ X pc ls st h := by
    intro ad D E p l ev s m args below meth c H locs la hCF hLh hP hD hS
    obtain ⟨hx, hb, hr, hml, hlk, hown, hts, hK, hN, hSc⟩ := id hCF
    obtain ⟨t, e1, rfl, rfl⟩ := nx_eq hp
    obtain ⟨a, b, r, rfl, rfl⟩ := st2i_eq e1
    exact lv_iadd hx hb hd (k ad D E p l ev s m args below meth c H locs la hCF hLh hP hD hS)
theorem ps_isub {X : CXT}  {aux : Nat × Nat × Nat} {v : Int} {pc : Nat} {ls : List (Option Value)} {st : List Value} {h : List va_E} {g : Option Prop} {s' : SS} (hd : decode X.1.2.1 pc = .ok (.isub, iln (.isub))) (hl : lnk X.1.1.cls (.isub, aux, v) = true) (hp : pin X.1.2.2.1 (.isub, aux, v) (pc, ls, st, h) = some (g, s')) (hg : ∀ q, g = some q → q) (k : AJ X s'.1 s'.2.1 s'.2.2.1 s'.2.2.2) : AJ X pc ls st h := by
    intro ad D E p l ev s m args below meth c H locs la hCF hLh hP hD hS
    obtain ⟨hx, hb, hr, hml, hlk, hown, hts, hK, hN, hSc⟩ := id hCF
    obtain ⟨t, e1, rfl, rfl⟩ := nx_eq hp
    obtain ⟨a, b, r, rfl, rfl⟩ := st2i_eq e1
    exact lv_isub hx hb hd (k ad D E p l ev s m args below meth c H locs la hCF hLh hP hD hS)
theorem ps_imul {X : CXT}  {aux : Nat × Nat × Nat} {v : Int} {pc : Nat} {ls : List (Option Value)} {st : List Value} {h : List va_E} {g : Option Prop} {s' : SS} (hd : decode X.1.2.1 pc = .ok (.imul, iln (.imul))) (hl : lnk X.1.1.cls (.imul, aux, v) = true) (hp : pin X.1.2.2.1 (.imul, aux, v) (pc, ls, st, h) = some (g, s')) (hg : ∀ q, g = some q → q) (k : AJ X s'.1 s'.2.1 s'.2.2.1 s'.2.2.2) : AJ X pc ls st h := by
    intro ad D E p l ev s m args below meth c H locs la hCF hLh hP hD hS
    obtain ⟨hx, hb, hr, hml, hlk, hown, hts, hK, hN, hSc⟩ := id hCF
    obtain ⟨t, e1, rfl, rfl⟩ := nx_eq hp
    obtain ⟨a, b, r, rfl, rfl⟩ := st2i_eq e1
    exact lv_imul hx hb hd (k ad D E p l ev s m args below meth c H locs la hCF hLh hP hD hS)
theorem ps_iand {X : CXT}  {aux : Nat × Nat × Nat} {v : Int} {pc : Nat} {ls : List (Option Value)} {st : List Value} {h : List va_E} {g : Option Prop} {s' : SS} (hd : decode X.1.2.1 pc = .ok (.iand, iln (.iand))) (hl : lnk X.1.1.cls (.iand, aux, v) = true) (hp : pin X.1.2.2.1 (.iand, aux, v) (pc, ls, st, h) = some (g, s')) (hg : ∀ q, g = some q → q) (k : AJ X s'.1 s'.2.1 s'.2.2.1 s'.2.2.2) : AJ X pc ls st h := by
    intro ad D E p l ev s m args below meth c H locs la hCF hLh hP hD hS
    obtain ⟨hx, hb, hr, hml, hlk, hown, hts, hK, hN, hSc⟩ := id hCF
    obtain ⟨t, e1, rfl, rfl⟩ := nx_eq hp
    obtain ⟨a, b, r, rfl, rfl⟩ := st2i_eq e1
    exact lv_iand hx hb hd (k ad D E p l ev s m args below meth c H locs la hCF hLh hP hD hS)
theorem ps_ior {X : CXT}  {aux : Nat × Nat × Nat} {v : Int} {pc : Nat} {ls : List (Option Value)} {st : List Value} {h : List va_E} {g : Option Prop} {s' : SS} (hd : decode X.1.2.1 pc = .ok (.ior, iln (.ior))) (hl : lnk X.1.1.cls (.ior, aux, v) = true) (hp : pin X.1.2.2.1 (.ior, aux, v) (pc, ls, st, h) = some (g, s')) (hg : ∀ q, g = some q → q) (k : AJ X s'.1 s'.2.1 s'.2.2.1 s'.2.2.2) : AJ X pc ls st h := by
    intro ad D E p l ev s m args below meth c H locs la hCF hLh hP hD hS
    obtain ⟨hx, hb, hr, hml, hlk, hown, hts, hK, hN, hSc⟩ := id hCF
    obtain ⟨t, e1, rfl, rfl⟩ := nx_eq hp
    obtain ⟨a, b, r, rfl, rfl⟩ := st2i_eq e1
    exact lv_ior hx hb hd (k ad D E p l ev s m args below meth c H locs la hCF hLh hP hD hS)
theorem ps_ixor {X : CXT}  {aux : Nat × Nat × Nat} {v : Int} {pc : Nat} {ls : List (Option Value)} {st : List Value} {h : List va_E} {g : Option Prop} {s' : SS} (hd : decode X.1.2.1 pc = .ok (.ixor, iln (.ixor))) (hl : lnk X.1.1.cls (.ixor, aux, v) = true) (hp : pin X.1.2.2.1 (.ixor, aux, v) (pc, ls, st, h) = some (g, s')) (hg : ∀ q, g = some q → q) (k : AJ X s'.1 s'.2.1 s'.2.2.1 s'.2.2.2) : AJ X pc ls st h := by
    intro ad D E p l ev s m args below meth c H locs la hCF hLh hP hD hS
    obtain ⟨hx, hb, hr, hml, hlk, hown, hts, hK, hN, hSc⟩ := id hCF
    obtain ⟨t, e1, rfl, rfl⟩ := nx_eq hp
    obtain ⟨a, b, r, rfl, rfl⟩ := st2i_eq e1
    exact lv_ixor hx hb hd (k ad D E p l ev s m args below meth c H locs la hCF hLh hP hD hS)
theorem ps_ishl {X : CXT}  {aux : Nat × Nat × Nat} {v : Int} {pc : Nat} {ls : List (Option Value)} {st : List Value} {h : List va_E} {g : Option Prop} {s' : SS} (hd : decode X.1.2.1 pc = .ok (.ishl, iln (.ishl))) (hl : lnk X.1.1.cls (.ishl, aux, v) = true) (hp : pin X.1.2.2.1 (.ishl, aux, v) (pc, ls, st, h) = some (g, s')) (hg : ∀ q, g = some q → q) (k : AJ X s'.1 s'.2.1 s'.2.2.1 s'.2.2.2) : AJ X pc ls st h := by
    intro ad D E p l ev s m args below meth c H locs la hCF hLh hP hD hS
    obtain ⟨hx, hb, hr, hml, hlk, hown, hts, hK, hN, hSc⟩ := id hCF
    obtain ⟨t, e1, rfl, rfl⟩ := nx_eq hp
    obtain ⟨a, b, r, rfl, rfl⟩ := st2i_eq e1
    exact lv_ishl hx hb hd (k ad D E p l ev s m args below meth c H locs la hCF hLh hP hD hS)
theorem ps_ishr {X : CXT}  {aux : Nat × Nat × Nat} {v : Int} {pc : Nat} {ls : List (Option Value)} {st : List Value} {h : List va_E} {g : Option Prop} {s' : SS} (hd : decode X.1.2.1 pc = .ok (.ishr, iln (.ishr))) (hl : lnk X.1.1.cls (.ishr, aux, v) = true) (hp : pin X.1.2.2.1 (.ishr, aux, v) (pc, ls, st, h) = some (g, s')) (hg : ∀ q, g = some q → q) (k : AJ X s'.1 s'.2.1 s'.2.2.1 s'.2.2.2) : AJ X pc ls st h := by
    intro ad D E p l ev s m args below meth c H locs la hCF hLh hP hD hS
    obtain ⟨hx, hb, hr, hml, hlk, hown, hts, hK, hN, hSc⟩ := id hCF
    obtain ⟨t, e1, rfl, rfl⟩ := nx_eq hp
    obtain ⟨a, b, r, rfl, rfl⟩ := st2i_eq e1
    exact lv_ishr hx hb hd (k ad D E p l ev s m args below meth c H locs la hCF hLh hP hD hS)
theorem ps_iushr {X : CXT}  {aux : Nat × Nat × Nat} {v : Int} {pc : Nat} {ls : List (Option Value)} {st : List Value} {h : List va_E} {g : Option Prop} {s' : SS} (hd : decode X.1.2.1 pc = .ok (.iushr, iln (.iushr))) (hl : lnk X.1.1.cls (.iushr, aux, v) = true) (hp : pin X.1.2.2.1 (.iushr, aux, v) (pc, ls, st, h) = some (g, s')) (hg : ∀ q, g = some q → q) (k : AJ X s'.1 s'.2.1 s'.2.2.1 s'.2.2.2) : AJ X pc ls st h := by
    intro ad D E p l ev s m args below meth c H locs la hCF hLh hP hD hS
    obtain ⟨hx, hb, hr, hml, hlk, hown, hts, hK, hN, hSc⟩ := id hCF
    obtain ⟨t, e1, rfl, rfl⟩ := nx_eq hp
    obtain ⟨a, b, r, rfl, rfl⟩ := st2i_eq e1
    exact lv_iushr hx hb hd rfl (k ad D E p l ev s m args below meth c H locs la hCF hLh hP hD hS)
theorem ps_ladd {X : CXT}  {aux : Nat × Nat × Nat} {v : Int} {pc : Nat} {ls : List (Option Value)} {st : List Value} {h : List va_E} {g : Option Prop} {s' : SS} (hd : decode X.1.2.1 pc = .ok (.ladd, iln (.ladd))) (hl : lnk X.1.1.cls (.ladd, aux, v) = true) (hp : pin X.1.2.2.1 (.ladd, aux, v) (pc, ls, st, h) = some (g, s')) (hg : ∀ q, g = some q → q) (k : AJ X s'.1 s'.2.1 s'.2.2.1 s'.2.2.2) : AJ X pc ls st h := by
    intro ad D E p l ev s m args below meth c H locs la hCF hLh hP hD hS
    obtain ⟨hx, hb, hr, hml, hlk, hown, hts, hK, hN, hSc⟩ := id hCF
    obtain ⟨t, e1, rfl, rfl⟩ := nx_eq hp
    obtain ⟨a, b, r, rfl, rfl⟩ := st2l_eq e1
    exact lv_ladd hx hb hd (k ad D E p l ev s m args below meth c H locs la hCF hLh hP hD hS)
theorem ps_lsub {X : CXT}  {aux : Nat × Nat × Nat} {v : Int} {pc : Nat} {ls : List (Option Value)} {st : List Value} {h : List va_E} {g : Option Prop} {s' : SS} (hd : decode X.1.2.1 pc = .ok (.lsub, iln (.lsub))) (hl : lnk X.1.1.cls (.lsub, aux, v) = true) (hp : pin X.1.2.2.1 (.lsub, aux, v) (pc, ls, st, h) = some (g, s')) (hg : ∀ q, g = some q → q) (k : AJ X s'.1 s'.2.1 s'.2.2.1 s'.2.2.2) : AJ X pc ls st h := by
    intro ad D E p l ev s m args below meth c H locs la hCF hLh hP hD hS
    obtain ⟨hx, hb, hr, hml, hlk, hown, hts, hK, hN, hSc⟩ := id hCF
    obtain ⟨t, e1, rfl, rfl⟩ := nx_eq hp
    obtain ⟨a, b, r, rfl, rfl⟩ := st2l_eq e1
    exact lv_lsub hx hb hd (k ad D E p l ev s m args below meth c H locs la hCF hLh hP hD hS)
theorem ps_lmul {X : CXT}  {aux : Nat × Nat × Nat} {v : Int} {pc : Nat} {ls : List (Option Value)} {st : List Value} {h : List va_E} {g : Option Prop} {s' : SS} (hd : decode X.1.2.1 pc = .ok (.lmul, iln (.lmul))) (hl : lnk X.1.1.cls (.lmul, aux, v) = true) (hp : pin X.1.2.2.1 (.lmul, aux, v) (pc, ls, st, h) = some (g, s')) (hg : ∀ q, g = some q → q) (k : AJ X s'.1 s'.2.1 s'.2.2.1 s'.2.2.2) : AJ X pc ls st h := by
    intro ad D E p l ev s m args below meth c H locs la hCF hLh hP hD hS
    obtain ⟨hx, hb, hr, hml, hlk, hown, hts, hK, hN, hSc⟩ := id hCF
    obtain ⟨t, e1, rfl, rfl⟩ := nx_eq hp
    obtain ⟨a, b, r, rfl, rfl⟩ := st2l_eq e1
    exact lv_lmul hx hb hd (k ad D E p l ev s m args below meth c H locs la hCF hLh hP hD hS)
theorem ps_land {X : CXT}  {aux : Nat × Nat × Nat} {v : Int} {pc : Nat} {ls : List (Option Value)} {st : List Value} {h : List va_E} {g : Option Prop} {s' : SS} (hd : decode X.1.2.1 pc = .ok (.land, iln (.land))) (hl : lnk X.1.1.cls (.land, aux, v) = true) (hp : pin X.1.2.2.1 (.land, aux, v) (pc, ls, st, h) = some (g, s')) (hg : ∀ q, g = some q → q) (k : AJ X s'.1 s'.2.1 s'.2.2.1 s'.2.2.2) : AJ X pc ls st h := by
    intro ad D E p l ev s m args below meth c H locs la hCF hLh hP hD hS
    obtain ⟨hx, hb, hr, hml, hlk, hown, hts, hK, hN, hSc⟩ := id hCF
    obtain ⟨t, e1, rfl, rfl⟩ := nx_eq hp
    obtain ⟨a, b, r, rfl, rfl⟩ := st2l_eq e1
    exact lv_land hx hb hd (k ad D E p l ev s m args below meth c H locs la hCF hLh hP hD hS)
theorem ps_lor {X : CXT}  {aux : Nat × Nat × Nat} {v : Int} {pc : Nat} {ls : List (Option Value)} {st : List Value} {h : List va_E} {g : Option Prop} {s' : SS} (hd : decode X.1.2.1 pc = .ok (.lor, iln (.lor))) (hl : lnk X.1.1.cls (.lor, aux, v) = true) (hp : pin X.1.2.2.1 (.lor, aux, v) (pc, ls, st, h) = some (g, s')) (hg : ∀ q, g = some q → q) (k : AJ X s'.1 s'.2.1 s'.2.2.1 s'.2.2.2) : AJ X pc ls st h := by
    intro ad D E p l ev s m args below meth c H locs la hCF hLh hP hD hS
    obtain ⟨hx, hb, hr, hml, hlk, hown, hts, hK, hN, hSc⟩ := id hCF
    obtain ⟨t, e1, rfl, rfl⟩ := nx_eq hp
    obtain ⟨a, b, r, rfl, rfl⟩ := st2l_eq e1
    exact lv_lor hx hb hd (k ad D E p l ev s m args below meth c H locs la hCF hLh hP hD hS)
theorem ps_lcmp {X : CXT}  {aux : Nat × Nat × Nat} {v : Int} {pc : Nat} {ls : List (Option Value)} {st : List Value} {h : List va_E} {g : Option Prop} {s' : SS} (hd : decode X.1.2.1 pc = .ok (.lcmp, iln (.lcmp))) (hl : lnk X.1.1.cls (.lcmp, aux, v) = true) (hp : pin X.1.2.2.1 (.lcmp, aux, v) (pc, ls, st, h) = some (g, s')) (hg : ∀ q, g = some q → q) (k : AJ X s'.1 s'.2.1 s'.2.2.1 s'.2.2.2) : AJ X pc ls st h := by
    intro ad D E p l ev s m args below meth c H locs la hCF hLh hP hD hS
    obtain ⟨hx, hb, hr, hml, hlk, hown, hts, hK, hN, hSc⟩ := id hCF
    obtain ⟨t, e1, rfl, rfl⟩ := nx_eq hp
    obtain ⟨a, b, r, rfl, rfl⟩ := st2l_eq e1
    exact W.lcmp hx hb hd (k ad D E p l ev s m args below meth c H locs la hCF hLh hP hD hS)
theorem ps_ineg {X : CXT}  {aux : Nat × Nat × Nat} {v : Int} {pc : Nat} {ls : List (Option Value)} {st : List Value} {h : List va_E} {g : Option Prop} {s' : SS} (hd : decode X.1.2.1 pc = .ok (.ineg, iln (.ineg))) (hl : lnk X.1.1.cls (.ineg, aux, v) = true) (hp : pin X.1.2.2.1 (.ineg, aux, v) (pc, ls, st, h) = some (g, s')) (hg : ∀ q, g = some q → q) (k : AJ X s'.1 s'.2.1 s'.2.2.1 s'.2.2.2) : AJ X pc ls st h := by
    intro ad D E p l ev s m args below meth c H locs la hCF hLh hP hD hS
    obtain ⟨hx, hb, hr, hml, hlk, hown, hts, hK, hN, hSc⟩ := id hCF
    obtain ⟨t, e1, rfl, rfl⟩ := nx_eq hp
    obtain ⟨a, r, rfl, rfl⟩ := st1i_eq e1
    exact lv_ineg hx hb hd (k ad D E p l ev s m args below meth c H locs la hCF hLh hP hD hS)
theorem ps_lneg {X : CXT}  {aux : Nat × Nat × Nat} {v : Int} {pc : Nat} {ls : List (Option Value)} {st : List Value} {h : List va_E} {g : Option Prop} {s' : SS} (hd : decode X.1.2.1 pc = .ok (.lneg, iln (.lneg))) (hl : lnk X.1.1.cls (.lneg, aux, v) = true) (hp : pin X.1.2.2.1 (.lneg, aux, v) (pc, ls, st, h) = some (g, s')) (hg : ∀ q, g = some q → q) (k : AJ X s'.1 s'.2.1 s'.2.2.1 s'.2.2.2) : AJ X pc ls st h := by
    intro ad D E p l ev s m args below meth c H locs la hCF hLh hP hD hS
    obtain ⟨hx, hb, hr, hml, hlk, hown, hts, hK, hN, hSc⟩ := id hCF
    obtain ⟨t, e1, rfl, rfl⟩ := nx_eq hp
    obtain ⟨a, r, rfl, rfl⟩ := st1l_eq e1
    exact lv_lneg hx hb hd (k ad D E p l ev s m args below meth c H locs la hCF hLh hP hD hS)
theorem ps_i2l {X : CXT}  {aux : Nat × Nat × Nat} {v : Int} {pc : Nat} {ls : List (Option Value)} {st : List Value} {h : List va_E} {g : Option Prop} {s' : SS} (hd : decode X.1.2.1 pc = .ok (.i2l, iln (.i2l))) (hl : lnk X.1.1.cls (.i2l, aux, v) = true) (hp : pin X.1.2.2.1 (.i2l, aux, v) (pc, ls, st, h) = some (g, s')) (hg : ∀ q, g = some q → q) (k : AJ X s'.1 s'.2.1 s'.2.2.1 s'.2.2.2) : AJ X pc ls st h := by
    intro ad D E p l ev s m args below meth c H locs la hCF hLh hP hD hS
    obtain ⟨hx, hb, hr, hml, hlk, hown, hts, hK, hN, hSc⟩ := id hCF
    obtain ⟨t, e1, rfl, rfl⟩ := nx_eq hp
    obtain ⟨a, r, rfl, rfl⟩ := st1i_eq e1
    exact lv_i2l hx hb hd rfl (k ad D E p l ev s m args below meth c H locs la hCF hLh hP hD hS)
theorem ps_l2i {X : CXT}  {aux : Nat × Nat × Nat} {v : Int} {pc : Nat} {ls : List (Option Value)} {st : List Value} {h : List va_E} {g : Option Prop} {s' : SS} (hd : decode X.1.2.1 pc = .ok (.l2i, iln (.l2i))) (hl : lnk X.1.1.cls (.l2i, aux, v) = true) (hp : pin X.1.2.2.1 (.l2i, aux, v) (pc, ls, st, h) = some (g, s')) (hg : ∀ q, g = some q → q) (k : AJ X s'.1 s'.2.1 s'.2.2.1 s'.2.2.2) : AJ X pc ls st h := by
    intro ad D E p l ev s m args below meth c H locs la hCF hLh hP hD hS
    obtain ⟨hx, hb, hr, hml, hlk, hown, hts, hK, hN, hSc⟩ := id hCF
    obtain ⟨t, e1, rfl, rfl⟩ := nx_eq hp
    obtain ⟨a, r, rfl, rfl⟩ := st1l_eq e1
    exact lv_l2i hx hb hd rfl (k ad D E p l ev s m args below meth c H locs la hCF hLh hP hD hS)
theorem ps_i2c {X : CXT}  {aux : Nat × Nat × Nat} {v : Int} {pc : Nat} {ls : List (Option Value)} {st : List Value} {h : List va_E} {g : Option Prop} {s' : SS} (hd : decode X.1.2.1 pc = .ok (.i2c, iln (.i2c))) (hl : lnk X.1.1.cls (.i2c, aux, v) = true) (hp : pin X.1.2.2.1 (.i2c, aux, v) (pc, ls, st, h) = some (g, s')) (hg : ∀ q, g = some q → q) (k : AJ X s'.1 s'.2.1 s'.2.2.1 s'.2.2.2) : AJ X pc ls st h := by
    intro ad D E p l ev s m args below meth c H locs la hCF hLh hP hD hS
    obtain ⟨hx, hb, hr, hml, hlk, hown, hts, hK, hN, hSc⟩ := id hCF
    obtain ⟨t, e1, rfl, rfl⟩ := nx_eq hp
    obtain ⟨a, r, rfl, rfl⟩ := st1i_eq e1
    exact lv_i2c hx hb hd rfl (k ad D E p l ev s m args below meth c H locs la hCF hLh hP hD hS)
theorem ps_lshl {X : CXT}  {aux : Nat × Nat × Nat} {v : Int} {pc : Nat} {ls : List (Option Value)} {st : List Value} {h : List va_E} {g : Option Prop} {s' : SS} (hd : decode X.1.2.1 pc = .ok (.lshl, iln (.lshl))) (hl : lnk X.1.1.cls (.lshl, aux, v) = true) (hp : pin X.1.2.2.1 (.lshl, aux, v) (pc, ls, st, h) = some (g, s')) (hg : ∀ q, g = some q → q) (k : AJ X s'.1 s'.2.1 s'.2.2.1 s'.2.2.2) : AJ X pc ls st h := by
    intro ad D E p l ev s m args below meth c H locs la hCF hLh hP hD hS
    obtain ⟨hx, hb, hr, hml, hlk, hown, hts, hK, hN, hSc⟩ := id hCF
    obtain ⟨t, e1, rfl, rfl⟩ := nx_eq hp
    obtain ⟨a, b, r, rfl, rfl⟩ := stli_eq e1
    exact lv_lshl hx hb hd rfl (k ad D E p l ev s m args below meth c H locs la hCF hLh hP hD hS)
theorem ps_lushr {X : CXT}  {aux : Nat × Nat × Nat} {v : Int} {pc : Nat} {ls : List (Option Value)} {st : List Value} {h : List va_E} {g : Option Prop} {s' : SS} (hd : decode X.1.2.1 pc = .ok (.lushr, iln (.lushr))) (hl : lnk X.1.1.cls (.lushr, aux, v) = true) (hp : pin X.1.2.2.1 (.lushr, aux, v) (pc, ls, st, h) = some (g, s')) (hg : ∀ q, g = some q → q) (k : AJ X s'.1 s'.2.1 s'.2.2.1 s'.2.2.2) : AJ X pc ls st h := by
    intro ad D E p l ev s m args below meth c H locs la hCF hLh hP hD hS
    obtain ⟨hx, hb, hr, hml, hlk, hown, hts, hK, hN, hSc⟩ := id hCF
    obtain ⟨t, e1, rfl, rfl⟩ := nx_eq hp
    obtain ⟨a, b, r, rfl, rfl⟩ := stli_eq e1
    exact lv_lushr hx hb hd rfl (k ad D E p l ev s m args below meth c H locs la hCF hLh hP hD hS)
theorem ps_idiv {X : CXT}  {aux : Nat × Nat × Nat} {v : Int} {pc : Nat} {ls : List (Option Value)} {st : List Value} {h : List va_E} {g : Option Prop} {s' : SS} (hd : decode X.1.2.1 pc = .ok (.idiv, iln (.idiv))) (hl : lnk X.1.1.cls (.idiv, aux, v) = true) (hp : pin X.1.2.2.1 (.idiv, aux, v) (pc, ls, st, h) = some (g, s')) (hg : ∀ q, g = some q → q) (k : AJ X s'.1 s'.2.1 s'.2.2.1 s'.2.2.2) : AJ X pc ls st h := by
    intro ad D E p l ev s m args below meth c H locs la hCF hLh hP hD hS
    obtain ⟨hx, hb, hr, hml, hlk, hown, hts, hK, hN, hSc⟩ := id hCF
    obtain ⟨a, b, r, rfl, rfl, rfl⟩ := gdI_eq hp
    exact lv_idiv hx hb hd (hg _ rfl) (k ad D E p l ev s m args below meth c H locs la hCF hLh hP hD hS)
theorem ps_irem {X : CXT}  {aux : Nat × Nat × Nat} {v : Int} {pc : Nat} {ls : List (Option Value)} {st : List Value} {h : List va_E} {g : Option Prop} {s' : SS} (hd : decode X.1.2.1 pc = .ok (.irem, iln (.irem))) (hl : lnk X.1.1.cls (.irem, aux, v) = true) (hp : pin X.1.2.2.1 (.irem, aux, v) (pc, ls, st, h) = some (g, s')) (hg : ∀ q, g = some q → q) (k : AJ X s'.1 s'.2.1 s'.2.2.1 s'.2.2.2) : AJ X pc ls st h := by
    intro ad D E p l ev s m args below meth c H locs la hCF hLh hP hD hS
    obtain ⟨hx, hb, hr, hml, hlk, hown, hts, hK, hN, hSc⟩ := id hCF
    obtain ⟨a, b, r, rfl, rfl, rfl⟩ := gdI_eq hp
    exact lv_irem hx hb hd (hg _ rfl) (k ad D E p l ev s m args below meth c H locs la hCF hLh hP hD hS)
theorem ps_ldiv {X : CXT}  {aux : Nat × Nat × Nat} {v : Int} {pc : Nat} {ls : List (Option Value)} {st : List Value} {h : List va_E} {g : Option Prop} {s' : SS} (hd : decode X.1.2.1 pc = .ok (.ldiv, iln (.ldiv))) (hl : lnk X.1.1.cls (.ldiv, aux, v) = true) (hp : pin X.1.2.2.1 (.ldiv, aux, v) (pc, ls, st, h) = some (g, s')) (hg : ∀ q, g = some q → q) (k : AJ X s'.1 s'.2.1 s'.2.2.1 s'.2.2.2) : AJ X pc ls st h := by
    intro ad D E p l ev s m args below meth c H locs la hCF hLh hP hD hS
    obtain ⟨hx, hb, hr, hml, hlk, hown, hts, hK, hN, hSc⟩ := id hCF
    obtain ⟨a, b, r, rfl, rfl, rfl⟩ := gdJ_eq hp
    exact lv_ldiv hx hb hd (hg _ rfl) (k ad D E p l ev s m args below meth c H locs la hCF hLh hP hD hS)
theorem ps_lrem {X : CXT}  {aux : Nat × Nat × Nat} {v : Int} {pc : Nat} {ls : List (Option Value)} {st : List Value} {h : List va_E} {g : Option Prop} {s' : SS} (hd : decode X.1.2.1 pc = .ok (.lrem, iln (.lrem))) (hl : lnk X.1.1.cls (.lrem, aux, v) = true) (hp : pin X.1.2.2.1 (.lrem, aux, v) (pc, ls, st, h) = some (g, s')) (hg : ∀ q, g = some q → q) (k : AJ X s'.1 s'.2.1 s'.2.2.1 s'.2.2.2) : AJ X pc ls st h := by
    intro ad D E p l ev s m args below meth c H locs la hCF hLh hP hD hS
    obtain ⟨hx, hb, hr, hml, hlk, hown, hts, hK, hN, hSc⟩ := id hCF
    obtain ⟨a, b, r, rfl, rfl, rfl⟩ := gdJ_eq hp
    exact lv_lrem hx hb hd (hg _ rfl) (k ad D E p l ev s m args below meth c H locs la hCF hLh hP hD hS)
theorem ps_goto {X : CXT} (off : Int) {aux : Nat × Nat × Nat} {v : Int} {pc : Nat} {ls : List (Option Value)} {st : List Value} {h : List va_E} {g : Option Prop} {s' : SS} (hd : decode X.1.2.1 pc = .ok (.goto off, iln (.goto off))) (hl : lnk X.1.1.cls (.goto off, aux, v) = true) (hp : pin X.1.2.2.1 (.goto off, aux, v) (pc, ls, st, h) = some (g, s')) (hg : ∀ q, g = some q → q) (k : AJ X s'.1 s'.2.1 s'.2.2.1 s'.2.2.2) : AJ X pc ls st h := by
    intro ad D E p l ev s m args below meth c H locs la hCF hLh hP hD hS
    obtain ⟨hx, hb, hr, hml, hlk, hown, hts, hK, hN, hSc⟩ := id hCF
    obtain ⟨e1, rfl, rfl⟩ := gotoS_eq hp
    exact lv_goto hx hb hd e1 (k ad D E p l ev s m args below meth c H locs la hCF hLh hP hD hS)
theorem ps_getfield {X : CXT} (i : Nat) {aux : Nat × Nat × Nat} {v : Int} {pc : Nat} {ls : List (Option Value)} {st : List Value} {h : List va_E} {g : Option Prop} {s' : SS} (hd : decode X.1.2.1 pc = .ok (.getfield i, iln (.getfield i))) (hl : lnk X.1.1.cls (.getfield i, aux, v) = true) (hp : pin X.1.2.2.1 (.getfield i, aux, v) (pc, ls, st, h) = some (g, s')) (hg : ∀ q, g = some q → q) (k : AJ X s'.1 s'.2.1 s'.2.2.1 s'.2.2.2) : AJ X pc ls st h := by
    intro ad D E p l ev s m args below meth c H locs la hCF hLh hP hD hS
    obtain ⟨hx, hb, hr, hml, hlk, hown, hts, hK, hN, hSc⟩ := id hCF
    obtain ⟨q, r, fs, w, rfl, e2, e3, rfl, rfl⟩ := getF_eq hp
    obtain ⟨cc, ecc⟩ : ∃ cc, vwCl[aux.1]? = some cc := by
      cases hq : vwCl[aux.1]? with
      | some cc => exact ⟨cc, rfl⟩
      | none => simp only [lnk, hq] at hl; cases hl
    have hl2 : lnkF X.1.1.cls i (.getfield i, aux, v) cc = true := by simpa only [lnk, ecc] using hl
    obtain ⟨hk, hw⟩ := lnkF_eq hl2
    obtain ⟨h1, ⟨ty0, h2⟩, h3⟩ := cls_ok _ _ ecc
    have e4 : (fs.map (gV ad))[aux.2.1]? = some (gV ad w) := by rw [List.getElem?_map, e3]; rfl
    have e6 := conc_at (ad := ad) (E := E) e2
    rw [gE_obj (vwCl_lt ecc)] at e6
    rcases hw with hw | hw
    · exact va_getN hx hb hts h1 hown hK hP q e6 ecc _ hk (nest_use hN hw) (fun _ h9 => h9) e4 hd (k ad D E p l ev s m args below meth c H locs la hCF hLh hP hD hS)
    · exact va_get hx hb hts h1 hown hK hP q e6 ecc _ hk (hts _ hw) (fun _ h9 => h9) e4 hd (k ad D E p l ev s m args below meth c H locs la hCF hLh hP hD hS)
theorem ps_putfield {X : CXT} (i : Nat) {aux : Nat × Nat × Nat} {v : Int} {pc : Nat} {ls : List (Option Value)} {st : List Value} {h : List va_E} {g : Option Prop} {s' : SS} (hd : decode X.1.2.1 pc = .ok (.putfield i, iln (.putfield i))) (hl : lnk X.1.1.cls (.putfield i, aux, v) = true) (hp : pin X.1.2.2.1 (.putfield i, aux, v) (pc, ls, st, h) = some (g, s')) (hg : ∀ q, g = some q → q) (k : AJ X s'.1 s'.2.1 s'.2.2.1 s'.2.2.2) : AJ X pc ls st h := by
    intro ad D E p l ev s m args below meth c H locs la hCF hLh hP hD hS
    obtain ⟨hx, hb, hr, hml, hlk, hown, hts, hK, hN, hSc⟩ := id hCF
    obtain ⟨cc, ecc⟩ : ∃ cc, vwCl[aux.1]? = some cc := by
      cases hq : vwCl[aux.1]? with
      | some cc => exact ⟨cc, rfl⟩
      | none => simp only [lnk, hq] at hl; cases hl
    obtain ⟨h1, ⟨ty0, h2⟩, h3⟩ := cls_ok _ _ ecc
    have hl2 : (!(cc.2.1 aux.2.1).2.2.2 && lnkF X.1.1.cls i (.putfield i, aux, v) cc) = true := by simpa only [lnk, ecc] using hl
    rw [Bool.and_eq_true] at hl2
    obtain ⟨hk, hw⟩ := lnkF_eq hl2.2
    have hfin : (cc.2.1 aux.2.1).2.2.2 = false := by simpa using hl2.1
    have hp2 : putF (pc, ls, st, h) aux.1 aux.2.1 (ty0 aux.2.1) = some (g, s') := by
      have hp3 := hp
      simp only [pin, ecc, h2 _ hk] at hp3
      exact hp3
    obtain ⟨w, q, r, fs, rfl, e2, e3, e4, rfl⟩ := putF_eq hp2
    obtain ⟨n1, n2⟩ := fitG_ok e4 hg ad
    have e5 : aux.2.1 < (fs.map (gV ad)).length := by rw [List.length_map]; exact e3
    have e6 := conc_at (ad := ad) (E := E) e2
    rw [gE_obj (vwCl_lt ecc)] at e6
    rcases hw with hw | hw
    · exact va_putN hx hb hts h1 ty0 h2 h3 hown hK hP hD hS q e6 ecc _ hk (nest_use hN hw) (fun _ h9 => h9) hfin (h2 _ hk) n1 n2 e5 hd (fun H1 locs1 hP1 hD1 hS1 => k ad D E p l ev s m args below meth c H1 locs1 la hCF hLh (conc_putF (vwCl_lt ecc) ▸ hP1) (conc_putF (vwCl_lt ecc) ▸ hD1) hS1)
    · exact va_put hx hb hts h1 ty0 h2 h3 hown hK hP hD hS q e6 ecc _ hk (hts _ hw) (fun _ h9 => h9) hfin (h2 _ hk) n1 n2 e5 hd (fun H1 locs1 hP1 hD1 hS1 => k ad D E p l ev s m args below meth c H1 locs1 la hCF hLh (conc_putF (vwCl_lt ecc) ▸ hP1) (conc_putF (vwCl_lt ecc) ▸ hD1) hS1)
theorem ps_iaload {X : CXT}  {aux : Nat × Nat × Nat} {v : Int} {pc : Nat} {ls : List (Option Value)} {st : List Value} {h : List va_E} {g : Option Prop} {s' : SS} (hd : decode X.1.2.1 pc = .ok (.iaload, iln (.iaload))) (hl : lnk X.1.1.cls (.iaload, aux, v) = true) (hp : pin X.1.2.2.1 (.iaload, aux, v) (pc, ls, st, h) = some (g, s')) (hg : ∀ q, g = some q → q) (k : AJ X s'.1 s'.2.1 s'.2.2.1 s'.2.2.2) : AJ X pc ls st h := by
    intro ad D E p l ev s m args below meth c H locs la hCF hLh hP hD hS
    obtain ⟨hx, hb, hr, hml, hlk, hown, hts, hK, hN, hSc⟩ := id hCF
    obtain ⟨i, q, r, n, f, rfl, e2, rfl, rfl⟩ := aldI_eq hp
    exact va_iald hx hb hK hP q 0 (conc_at e2) rfl (inb_vp (hg _ rfl)) hd (k ad D E p l ev s m args below meth c H locs la hCF hLh hP hD hS)
theorem ps_baload {X : CXT}  {aux : Nat × Nat × Nat} {v : Int} {pc : Nat} {ls : List (Option Value)} {st : List Value} {h : List va_E} {g : Option Prop} {s' : SS} (hd : decode X.1.2.1 pc = .ok (.baload, iln (.baload))) (hl : lnk X.1.1.cls (.baload, aux, v) = true) (hp : pin X.1.2.2.1 (.baload, aux, v) (pc, ls, st, h) = some (g, s')) (hg : ∀ q, g = some q → q) (k : AJ X s'.1 s'.2.1 s'.2.2.1 s'.2.2.2) : AJ X pc ls st h := by
    intro ad D E p l ev s m args below meth c H locs la hCF hLh hP hD hS
    obtain ⟨hx, hb, hr, hml, hlk, hown, hts, hK, hN, hSc⟩ := id hCF
    obtain ⟨i, q, r, n, f, rfl, e2, rfl, rfl⟩ := aldI_eq hp
    exact va_zald hx hb hK hP q 2 (conc_at e2) rfl (inb_vp (hg _ rfl)) hd (k ad D E p l ev s m args below meth c H locs la hCF hLh hP hD hS)
theorem ps_laload {X : CXT}  {aux : Nat × Nat × Nat} {v : Int} {pc : Nat} {ls : List (Option Value)} {st : List Value} {h : List va_E} {g : Option Prop} {s' : SS} (hd : decode X.1.2.1 pc = .ok (.laload, iln (.laload))) (hl : lnk X.1.1.cls (.laload, aux, v) = true) (hp : pin X.1.2.2.1 (.laload, aux, v) (pc, ls, st, h) = some (g, s')) (hg : ∀ q, g = some q → q) (k : AJ X s'.1 s'.2.1 s'.2.2.1 s'.2.2.2) : AJ X pc ls st h := by
    intro ad D E p l ev s m args below meth c H locs la hCF hLh hP hD hS
    obtain ⟨hx, hb, hr, hml, hlk, hown, hts, hK, hN, hSc⟩ := id hCF
    obtain ⟨i, q, r, n, f, rfl, e2, rfl, rfl⟩ := aldJ_eq hp
    exact va_lald hx hb hK hP q 1 (conc_at e2) rfl (inb_vp (hg _ rfl)) hd (k ad D E p l ev s m args below meth c H locs la hCF hLh hP hD hS)
theorem ps_iastore {X : CXT}  {aux : Nat × Nat × Nat} {v : Int} {pc : Nat} {ls : List (Option Value)} {st : List Value} {h : List va_E} {g : Option Prop} {s' : SS} (hd : decode X.1.2.1 pc = .ok (.iastore, iln (.iastore))) (hl : lnk X.1.1.cls (.iastore, aux, v) = true) (hp : pin X.1.2.2.1 (.iastore, aux, v) (pc, ls, st, h) = some (g, s')) (hg : ∀ q, g = some q → q) (k : AJ X s'.1 s'.2.1 s'.2.2.1 s'.2.2.2) : AJ X pc ls st h := by
    intro ad D E p l ev s m args below meth c H locs la hCF hLh hP hD hS
    obtain ⟨hx, hb, hr, hml, hlk, hown, hts, hK, hN, hSc⟩ := id hCF
    obtain ⟨w, i, q, r, n, f, rfl, e2, rfl, rfl⟩ := astI_eq hp
    exact va_iast hx hb hK hP hD hS q 0 (conc_at e2) rfl (inb_vp (hg _ rfl)) hd (fun H1 locs1 hP1 hD1 hS1 => k ad D E p l ev s m args below meth c H1 locs1 la hCF hLh (conc_set ▸ hP1) (conc_set ▸ hD1) hS1)
theorem ps_bastore {X : CXT}  {aux : Nat × Nat × Nat} {v : Int} {pc : Nat} {ls : List (Option Value)} {st : List Value} {h : List va_E} {g : Option Prop} {s' : SS} (hd : decode X.1.2.1 pc = .ok (.bastore, iln (.bastore))) (hl : lnk X.1.1.cls (.bastore, aux, v) = true) (hp : pin X.1.2.2.1 (.bastore, aux, v) (pc, ls, st, h) = some (g, s')) (hg : ∀ q, g = some q → q) (k : AJ X s'.1 s'.2.1 s'.2.2.1 s'.2.2.2) : AJ X pc ls st h := by
    intro ad D E p l ev s m args below meth c H locs la hCF hLh hP hD hS
    obtain ⟨hx, hb, hr, hml, hlk, hown, hts, hK, hN, hSc⟩ := id hCF
    obtain ⟨w, i, q, r, n, f, rfl, e2, rfl, rfl⟩ := astI_eq hp
    exact va_zast hx hb hK hP hD hS q 2 (conc_at e2) rfl (inb_vp (hg _ rfl)) hd (fun H1 locs1 hP1 hD1 hS1 => k ad D E p l ev s m args below meth c H1 locs1 la hCF hLh (conc_set ▸ hP1) (conc_set ▸ hD1) hS1)
theorem ps_lastore {X : CXT}  {aux : Nat × Nat × Nat} {v : Int} {pc : Nat} {ls : List (Option Value)} {st : List Value} {h : List va_E} {g : Option Prop} {s' : SS} (hd : decode X.1.2.1 pc = .ok (.lastore, iln (.lastore))) (hl : lnk X.1.1.cls (.lastore, aux, v) = true) (hp : pin X.1.2.2.1 (.lastore, aux, v) (pc, ls, st, h) = some (g, s')) (hg : ∀ q, g = some q → q) (k : AJ X s'.1 s'.2.1 s'.2.2.1 s'.2.2.2) : AJ X pc ls st h := by
    intro ad D E p l ev s m args below meth c H locs la hCF hLh hP hD hS
    obtain ⟨hx, hb, hr, hml, hlk, hown, hts, hK, hN, hSc⟩ := id hCF
    obtain ⟨w, i, q, r, n, f, rfl, e2, rfl, rfl⟩ := astJ_eq hp
    exact va_last hx hb hK hP hD hS q 1 (conc_at e2) rfl (inb_vp (hg _ rfl)) hd (fun H1 locs1 hP1 hD1 hS1 => k ad D E p l ev s m args below meth c H1 locs1 la hCF hLh (conc_set ▸ hP1) (conc_set ▸ hD1) hS1)
theorem ps_arraylength {X : CXT}  {aux : Nat × Nat × Nat} {v : Int} {pc : Nat} {ls : List (Option Value)} {st : List Value} {h : List va_E} {g : Option Prop} {s' : SS} (hd : decode X.1.2.1 pc = .ok (.arraylength, iln (.arraylength))) (hl : lnk X.1.1.cls (.arraylength, aux, v) = true) (hp : pin X.1.2.2.1 (.arraylength, aux, v) (pc, ls, st, h) = some (g, s')) (hg : ∀ q, g = some q → q) (k : AJ X s'.1 s'.2.1 s'.2.2.1 s'.2.2.2) : AJ X pc ls st h := by
    intro ad D E p l ev s m args below meth c H locs la hCF hLh hP hD hS
    obtain ⟨hx, hb, hr, hml, hlk, hown, hts, hK, hN, hSc⟩ := id hCF
    obtain ⟨q, r, e, n, rfl, e2, hor, rfl, rfl⟩ := alnA_eq hp
    have e3 : ∃ (kd : Nat) (z : vp_A), gE ad E e = .inl (E kd, z) ∧ z.1 = n ∧ kd < 5 := by
      rcases hor with ⟨kd, a, rfl, hk⟩ | ⟨cc, fs, rfl, hk, rfl⟩
      · exact ⟨kd, _, rfl, rfl, Nat.lt_of_lt_of_le hk (by decide)⟩
      · rcases hk with rfl | rfl
        · exact ⟨3, _, rfl, rfl, by omega⟩
        · exact ⟨4, _, rfl, rfl, by omega⟩
    obtain ⟨kd, z, e4, e5, hkd⟩ := e3
    have e6 := conc_at (ad := ad) (E := E) e2
    rw [e4] at e6
    obtain ⟨ty, hty⟩ : ∃ ty, (tysOf E)[kd]? = some (E kd, ty) := by
      match kd, hkd with
      | 0, _ => exact ⟨_, rfl⟩
      | 1, _ => exact ⟨_, rfl⟩
      | 2, _ => exact ⟨_, rfl⟩
      | 3, _ => exact ⟨_, rfl⟩
      | 4, _ => exact ⟨_, rfl⟩
    exact va_alen hx hb hK hP q kd e6 hty (by rw [e5]) hd (k ad D E p l ev s m args below meth c H locs la hCF hLh hP hD hS)
theorem AJ.step {X : CXT} {e : ENT} {pc : Nat} {ls : List (Option Value)} {st : List Value} {h : List va_E} {g : Option Prop} {s' : SS} (hc : chk X.1.1.cls X.1.2.1 pc e = true) (hp : pin X.1.2.2.1 e (pc, ls, st, h) = some (g, s')) (hg : ∀ q, g = some q → q) (k : AJ X s'.1 s'.2.1 s'.2.2.1 s'.2.2.2) : AJ X pc ls st h := by
  obtain ⟨hd, hl⟩ := chk_eq hc
  obtain ⟨i, aux, v⟩ := e
  cases i with
  | iconst n => exact ps_iconst n hd hl hp hg k
  | bipush n => exact ps_bipush n hd hl hp hg k
  | sipush n => exact ps_sipush n hd hl hp hg k
  | lconst n => exact ps_lconst n hd hl hp hg k
  | ldc n => exact ps_ldc n hd hl hp hg k
  | ldc2_w n => exact ps_ldc2_w n hd hl hp hg k
  | iload_n n => exact ps_iload_n n hd hl hp hg k
  | iload n => exact ps_iload n hd hl hp hg k
  | lload_n n => exact ps_lload_n n hd hl hp hg k
  | lload n => exact ps_lload n hd hl hp hg k
  | aload_n n => exact ps_aload_n n hd hl hp hg k
  | aload n => exact ps_aload n hd hl hp hg k
  | istore_n n => exact ps_istore_n n hd hl hp hg k
  | istore n => exact ps_istore n hd hl hp hg k
  | lstore_n n => exact ps_lstore_n n hd hl hp hg k
  | lstore n => exact ps_lstore n hd hl hp hg k
  | astore_n n => exact ps_astore_n n hd hl hp hg k
  | astore n => exact ps_astore n hd hl hp hg k
  | iinc i n => exact ps_iinc i n hd hl hp hg k
  | dup => exact ps_dup hd hl hp hg k
  | dup2 => exact ps_dup2 hd hl hp hg k
  | pop => exact ps_pop hd hl hp hg k
  | iadd => exact ps_iadd hd hl hp hg k
  | isub => exact ps_isub hd hl hp hg k
  | imul => exact ps_imul hd hl hp hg k
  | iand => exact ps_iand hd hl hp hg k
  | ior => exact ps_ior hd hl hp hg k
  | ixor => exact ps_ixor hd hl hp hg k
  | ishl => exact ps_ishl hd hl hp hg k
  | ishr => exact ps_ishr hd hl hp hg k
  | iushr => exact ps_iushr hd hl hp hg k
  | ladd => exact ps_ladd hd hl hp hg k
  | lsub => exact ps_lsub hd hl hp hg k
  | lmul => exact ps_lmul hd hl hp hg k
  | land => exact ps_land hd hl hp hg k
  | lor => exact ps_lor hd hl hp hg k
  | lcmp => exact ps_lcmp hd hl hp hg k
  | ineg => exact ps_ineg hd hl hp hg k
  | lneg => exact ps_lneg hd hl hp hg k
  | i2l => exact ps_i2l hd hl hp hg k
  | l2i => exact ps_l2i hd hl hp hg k
  | i2c => exact ps_i2c hd hl hp hg k
  | lshl => exact ps_lshl hd hl hp hg k
  | lushr => exact ps_lushr hd hl hp hg k
  | idiv => exact ps_idiv hd hl hp hg k
  | irem => exact ps_irem hd hl hp hg k
  | ldiv => exact ps_ldiv hd hl hp hg k
  | lrem => exact ps_lrem hd hl hp hg k
  | goto off => exact ps_goto off hd hl hp hg k
  | getfield i => exact ps_getfield i hd hl hp hg k
  | putfield i => exact ps_putfield i hd hl hp hg k
  | iaload => exact ps_iaload hd hl hp hg k
  | baload => exact ps_baload hd hl hp hg k
  | laload => exact ps_laload hd hl hp hg k
  | iastore => exact ps_iastore hd hl hp hg k
  | bastore => exact ps_bastore hd hl hp hg k
  | lastore => exact ps_lastore hd hl hp hg k
  | arraylength => exact ps_arraylength hd hl hp hg k
  | _ => cases hp
