/-! ===== rules with the cells told apart: arrays of references, rows, arraycopy, null ===== -/
theorem cs3 {P : Nat → Prop} {k : Nat} (hk : k < 3) (h0 : P 0) (h1 : P 1) (h2 : P 2) : P k := by
  match k, hk with
  | 0, _ => exact h0
  | 1, _ => exact h1
  | 2, _ => exact h2
theorem cs4 {P : Nat → Prop} {k : Nat} (hk : k < 4) (h0 : P 0) (h1 : P 1) (h2 : P 2) (h3 : P 3) : P k := by
  match k, hk with
  | 0, _ => exact h0
  | 1, _ => exact h1
  | 2, _ => exact h2
  | 3, _ => exact h3
theorem cs8 {P : Nat → Prop} {k : Nat} (hk : k < 8) (h0 : P 0) (h1 : P 1) (h2 : P 2) (h3 : P 3) (h4 : P 4) (h5 : P 5) (h6 : P 6) (h7 : P 7) : P k := by
  match k, hk with
  | 0, _ => exact h0
  | 1, _ => exact h1
  | 2, _ => exact h2
  | 3, _ => exact h3
  | 4, _ => exact h4
  | 5, _ => exact h5
  | 6, _ => exact h6
  | 7, _ => exact h7
/-- the place of row i of those that begin at b -/
def rowp (b : Nat) (i : Int32) : Nat := b + ix i
/-- the rows with row k set to f -/
def setR (H : Nat → Nat → Int32) (k : Nat) (f : Nat → Int32) : Nat → Nat → Int32 := fun i => if i = k then f else H i
/-- the id of text i's law: the one in force at P, the others at N -/
def lq (r i P N : Nat) : Nat := bif Nat.beq r i then P else N
section
variable {M : MI} {dd : Nat} {rr : Option Value} {h0 hF : List va_E}
theorem AJ.aal {pc : Nat} {ls : List (Option Value)} {r : List Value} {h : List va_E} {i : Int32} {q c x : Nat} {fs : List Value} (hs : SK M [(pc, .aaload, (0, 0, 0), 0)]) (hq : h[q]? = some (.inr (c, fs))) (hc : c = 103 ∨ c = 104) (hi : inb i fs.length) (hx : fs[ix i]? = some (.ref x)) (k : AJ (M, dd, rr, h0, hF) (pc + 1) ls (.ref x :: r) h) : AJ (M, dd, rr, h0, hF) pc ls (.int i :: .ref q :: r) h := by
  intro ad D E p l ev s m args below meth c' H locs la hCF hLh hP hD hS
  obtain ⟨hxe, hb, hr, hml, hlk, hown, hts, hK, hN, hSc⟩ := id hCF
  unfold SK segOK at hs
  rw [List.all_cons, Bool.and_eq_true] at hs
  obtain ⟨hd, -⟩ := chk_eq hs.1
  have kk := k ad D E p l ev s m args below meth c' H locs la hCF hLh hP hD hS
  have e6 := conc_at (ad := ad) (E := E) hq
  have hlt : ix i < fs.length := hi.2
  have hv : va_rf (rfO ad fs[ix i]?) = .ref (ad x) := by rw [hx]; rfl
  rcases hc with rfl | rfl
  · have e7 : gE ad E (.inr (103, fs)) = .inl (E 3, fs.length, .inr (.inr (.inr (.inr (fun i => rfO ad fs[i]?))))) := rfl
    rw [e7] at e6
    refine W.aald (v := .ref (ad x)) (ty := .object "LastName$Law") hxe hb (hP q _ e6) ((hK.2 3 _ rfl).1 fs.length (fun j => va_rf (rfO ad fs[j]?))) rfl (fun q => by cases q) (by show ¬ (i < 0 ∨ (arrV _ _ _).slots.size ≤ _); rw [arrV_size]; exact inb_vp hi) (by show (arrV _ _ _).slots[_]? = _; rw [arrV_read _ _ hlt, hv]) rfl rfl hd kk
  · have e7 : gE ad E (.inr (104, fs)) = .inl (E 4, fs.length, .inr (.inr (.inr (.inr (fun i => rfO ad fs[i]?))))) := rfl
    rw [e7] at e6
    refine W.aald (v := .ref (ad x)) (ty := .array .int) hxe hb (hP q _ e6) ((hK.2 4 _ rfl).1 fs.length (fun j => va_rf (rfO ad fs[j]?))) rfl (fun q => by cases q) (by show ¬ (i < 0 ∨ (arrV _ _ _).slots.size ≤ _); rw [arrV_size]; exact inb_vp hi) (by show (arrV _ _ _).slots[_]? = _; rw [arrV_read _ _ hlt, hv]) rfl rfl hd kk
/-- one instruction of pin, its result told apart -/
theorem AJ.one {pc : Nat} {ls : List (Option Value)} {st : List Value} {h : List va_E} {e : ENT} {g : Option Prop} {s' : SS} (hs : SK M [(pc, e)]) (hp : pin M.2.2.1 e (pc, ls, st, h) = some (g, s')) (hg : ∀ q, g = some q → q) (k : AJ (M, dd, rr, h0, hF) s'.1 s'.2.1 s'.2.2.1 s'.2.2.2) : AJ (M, dd, rr, h0, hF) pc ls st h := by
  unfold SK segOK at hs
  rw [List.all_cons, Bool.and_eq_true] at hs
  exact AJ.step (X := (M, dd, rr, h0, hF)) (e := e) hs.1 hp hg k
theorem AJ.ral {pc : Nat} {ls : List (Option Value)} {r : List Value} {h : List va_E} {j : Int32} {q n : Nat} {f : Nat → Int32} (hs : SK M [(pc, .iaload, (0, 0, 0), 0)]) (hq : h[q]? = some (.inl (0, n, .inl f))) (hj : inb j n) (k : AJ (M, dd, rr, h0, hF) (pc + 1) ls (.int (f (ix j)) :: r) h) : AJ (M, dd, rr, h0, hF) pc ls (.int j :: .ref q :: r) h := by
  refine AJ.one (e := (.iaload, (0, 0, 0), 0)) (g := some (inb j n)) (s' := (pc + 1, ls, .int (f (ix j)) :: r, h)) hs ?_ (fun q hq => by cases hq; exact hj) k
  show aldI (pc, ls, .int j :: .ref q :: r, h) 0 = _
  simp only [aldI, hq]; rfl
theorem AJ.ras {pc : Nat} {ls : List (Option Value)} {r : List Value} {h : List va_E} {j v : Int32} {q n : Nat} {f : Nat → Int32} (hs : SK M [(pc, .iastore, (0, 0, 0), 0)]) (hq : h[q]? = some (.inl (0, n, .inl f))) (hj : inb j n) (h2 : List va_E) (e2 : h.set q (.inl (0, n, .inl (upd f (ix j) v))) = h2) (k : AJ (M, dd, rr, h0, hF) (pc + 1) ls r h2) : AJ (M, dd, rr, h0, hF) pc ls (.int v :: .int j :: .ref q :: r) h := by
  subst e2
  refine AJ.one (e := (.iastore, (0, 0, 0), 0)) (g := some (inb j n)) (s' := (pc + 1, ls, r, h.set q (.inl (0, n, .inl (upd f (ix j) v))))) hs ?_ (fun q hq => by cases hq; exact hj) k
  show astI (pc, ls, .int v :: .int j :: .ref q :: r, h) 0 (fun x => x) = _
  simp only [astI, hq]; rfl
theorem AJ.rln {pc : Nat} {ls : List (Option Value)} {r : List Value} {h : List va_E} {q n : Nat} {f : Nat → Int32} (hs : SK M [(pc, .arraylength, (0, 0, 0), 0)]) (hq : h[q]? = some (.inl (0, n, .inl f))) (k : AJ (M, dd, rr, h0, hF) (pc + 1) ls (.int (Int32.ofNat n) :: r) h) : AJ (M, dd, rr, h0, hF) pc ls (.ref q :: r) h := by
  refine AJ.one (e := (.arraylength, (0, 0, 0), 0)) (g := none) (s' := (pc + 1, ls, .int (Int32.ofNat n) :: r, h)) hs ?_ (fun q hq => by cases hq) k
  show alnA (pc, ls, .ref q :: r, h) = _
  simp only [alnA, hq]; rfl
def cpW : Prop := (.native arraycopyName ∈ ALLW) ∧ (.static arraycopyName ∈ ALLW) ∧ (.initialized "java/lang/System" ∈ ALLW)
theorem AJ.acp {own : String} {idx pc d kd q0 q1 n0 n1 : Nat} {ls : List (Option Value)} {r : List Value} {h : List va_E} {f g : Nat → Int32} {sp dp n : Int32} (cw : cpW) (hs : SK M [(pc, .invokestatic idx, (0, 0, 0), 0)]) (lk : .methodLink own idx arraycopyName ∈ ALLW) (how : own = M.1.cls) (hdd : dd = d + 1) (hkd : kd = 0 ∨ kd = 2) (hq0 : h[q0]? = some (.inl (kd, n0, .inl f))) (hq1 : h[q1]? = some (.inl (kd, n1, .inl g))) (h1 : ¬ sp < 0) (h2 : ¬ dp < 0) (h3 : ¬ n < 0) (h4 : ix sp + ix n ≤ n0) (h5 : ix dp + ix n ≤ n1) (hfit : kd = 2 → ∀ i, i < ix n → bz (f (ix sp + i))) (hroom : (r.map Value.category).sum ≤ 8) (nxt : Nat) (hnx : pc + 3 = nxt) (h' : List va_E) (e2 : h.set q1 (.inl (kd, n1, .inl (va_cpy f g (ix sp) (ix dp) (ix n)))) = h') (k : AJ (M, dd, rr, h0, hF) nxt ls r h') : AJ (M, dd, rr, h0, hF) pc ls (.int n :: .int dp :: .ref q1 :: .int sp :: .ref q0 :: r) h := by
  intro ad D E p l ev s m args below meth c' H locs la hCF hLh hP hD hS
  obtain ⟨hxe, hb, hr, hml, hlk, hown, hts, hK, hN, hSc⟩ := id hCF
  subst hnx
  subst e2
  subst how
  subst hdd
  unfold SK segOK at hs
  rw [List.all_cons, Bool.and_eq_true] at hs
  obtain ⟨hd, -⟩ := chk_eq hs.1
  have e0 := conc_at (ad := ad) (E := E) hq0
  have e1 := conc_at (ad := ad) (E := E) hq1
  have hroom2 : ((r.map (gV ad)).map fun v => v.category).sum ≤ 8 := by
    rw [List.map_map]
    have : (Value.category ∘ gV ad) = Value.category := by funext v; exact gV_cat ad v
    show ((r.map (Value.category ∘ gV ad)).sum) ≤ 8
    rw [this]; exact hroom
  have hw : nativeFrameWords "java/lang/System" "arraycopy" 5 = 7 := by decide
  have hloc : ((r.map (gV ad)).map fun v => v.category).sum + (nativeFrameWords "java/lang/System" "arraycopy" 5 + 11) ≤ (rmD (d + 1)).locals := by
    rw [hw]
    show _ ≤ 40 * (d + 1)
    omega
  obtain ⟨ty, hty, hprim, hf⟩ : ∃ ty, (tysOf E)[kd]? = some (E kd, ty) ∧ refKind ty = false ∧ ∀ i, i < ix n → fits ty (.int (f (ix sp + i))) = true := by
    rcases hkd with rfl | rfl
    · exact ⟨_, rfl, rfl, fun _ _ => rfl⟩
    · refine ⟨_, rfl, rfl, fun i hi => ?_⟩
      rcases hfit rfl i hi with hz | hz
      · rw [hz]; decide
      · rw [hz]; decide
  refine va_copyi hxe hb (hml.trans hLh.1.symm) hown (hts _ lk) (hts _ cw.1) (hts _ cw.2.1) (hts _ cw.2.2) hK hP hD hS q0 q1 kd kd e0 e1 hty hty hprim h1 h2 h3 h4 h5 hf (Nat.le_add_left 1 d) hloc hd (fun H1 locs1 hP1 hD1 hS1 => ?_)
  have e9 : (conc ad E h).set q1 (ad q1, .inl (E kd, n1, .inl (va_cpy f g (ix sp) (ix dp) (ix n)))) = conc ad E (h.set q1 (.inl (kd, n1, .inl (va_cpy f g (ix sp) (ix dp) (ix n))))) := by
    rw [← conc_set]; rfl
  rw [e9] at hP1 hD1
  exact k ad D E p l ev s m args below meth c' H1 locs1 la hCF hLh hP1 hD1 hS1
/-- null -/
theorem AJ.nul {pc : Nat} {ls : List (Option Value)} {r : List Value} {h : List va_E} (hs : SK M [(pc, .aconst_null, (0, 0, 0), 0)]) (k : AJ (M, dd, rr, h0, hF) (pc + 1) ls (.null :: r) h) : AJ (M, dd, rr, h0, hF) pc ls r h := by
  intro ad D E p l ev s m args below meth c' H locs la hCF hLh hP hD hS
  obtain ⟨hxe, hb, hr, hml, hlk, hown, hts, hK, hN, hSc⟩ := id hCF
  unfold SK segOK at hs
  rw [List.all_cons, Bool.and_eq_true] at hs
  obtain ⟨hd, -⟩ := chk_eq hs.1
  exact lv_null hxe hb hd (k ad D E p l ev s m args below meth c' H locs la hCF hLh hP hD hS)
theorem AJ.aldN {pc i : Nat} {ls : List (Option Value)} {r : List Value} {h : List va_E} (hs : SK M [(pc, .aload i, (0, 0, 0), 0)]) (hi : ls[i]? = some (some .null)) (k : AJ (M, dd, rr, h0, hF) (pc + 2) ls (.null :: r) h) : AJ (M, dd, rr, h0, hF) pc ls r h := by
  intro ad D E p l ev s m args below meth c' H locs la hCF hLh hP hD hS
  obtain ⟨hxe, hb, hr, hml, hlk, hown, hts, hK, hN, hSc⟩ := id hCF
  unfold SK segOK at hs
  rw [List.all_cons, Bool.and_eq_true] at hs
  obtain ⟨hd, -⟩ := chk_eq hs.1
  exact lv_aloadN hxe hb hd (hLh.2.2 _ _ hi) (k ad D E p l ev s m args below meth c' H locs la hCF hLh hP hD hS)
theorem AJ.astN {pc i : Nat} {ls ls' : List (Option Value)} {r : List Value} {h : List va_E} (hs : SK M [(pc, .astore i, (0, 0, 0), 0)]) (hi : i < M.2.2.1) (hl : sto1 ls i .null = ls') (k : AJ (M, dd, rr, h0, hF) (pc + 2) ls' r h) : AJ (M, dd, rr, h0, hF) pc ls (.null :: r) h := by
  intro ad D E p l ev s m args below meth c' H locs la hCF hLh hP hD hS
  obtain ⟨hxe, hb, hr, hml, hlk, hown, hts, hK, hN, hSc⟩ := id hCF
  subst hl
  unfold SK segOK at hs
  rw [List.all_cons, Bool.and_eq_true] at hs
  obtain ⟨hd, -⟩ := chk_eq hs.1
  exact lv_astoreN hxe hb hd hLh.has hi rfl (fun la' h' => k ad D E p l ev s m args below meth c' H locs la' hCF (Lh.sto1 (v := .null) hLh h') hP hD hS)
theorem AJ.nnR {pc tgt x : Nat} {off : Int} {ls : List (Option Value)} {r : List Value} {h : List va_E} (hs : SK M [(pc, .ifnonnull off, (0, 0, 0), 0)]) (ht : (pc : Int) + off = (tgt : Int)) (k : AJ (M, dd, rr, h0, hF) tgt ls r h) : AJ (M, dd, rr, h0, hF) pc ls (.ref x :: r) h := by
  intro ad D E p l ev s m args below meth c' H locs la hCF hLh hP hD hS
  obtain ⟨hxe, hb, hr, hml, hlk, hown, hts, hK, hN, hSc⟩ := id hCF
  unfold SK segOK at hs
  rw [List.all_cons, Bool.and_eq_true] at hs
  obtain ⟨hd, -⟩ := chk_eq hs.1
  exact lv_ifnonnull hxe hb hd ht (k ad D E p l ev s m args below meth c' H locs la hCF hLh hP hD hS)
theorem AJ.nnN {pc nxt : Nat} {off : Int} {ls : List (Option Value)} {r : List Value} {h : List va_E} (hs : SK M [(pc, .ifnonnull off, (0, 0, 0), 0)]) (hn : pc + 3 = nxt) (k : AJ (M, dd, rr, h0, hF) nxt ls r h) : AJ (M, dd, rr, h0, hF) pc ls (.null :: r) h := by
  intro ad D E p l ev s m args below meth c' H locs la hCF hLh hP hD hS
  obtain ⟨hxe, hb, hr, hml, hlk, hown, hts, hK, hN, hSc⟩ := id hCF
  subst hn
  unfold SK segOK at hs
  rw [List.all_cons, Bool.and_eq_true] at hs
  obtain ⟨hd, -⟩ := chk_eq hs.1
  exact lv_ifnonnullN hxe hb hd (k ad D E p l ev s m args below meth c' H locs la hCF hLh hP hD hS)
theorem AJ.inR {pc nxt x : Nat} {off : Int} {ls : List (Option Value)} {r : List Value} {h : List va_E} (hs : SK M [(pc, .ifnull off, (0, 0, 0), 0)]) (hn : pc + 3 = nxt) (k : AJ (M, dd, rr, h0, hF) nxt ls r h) : AJ (M, dd, rr, h0, hF) pc ls (.ref x :: r) h := by
  intro ad D E p l ev s m args below meth c' H locs la hCF hLh hP hD hS
  obtain ⟨hxe, hb, hr, hml, hlk, hown, hts, hK, hN, hSc⟩ := id hCF
  subst hn
  unfold SK segOK at hs
  rw [List.all_cons, Bool.and_eq_true] at hs
  obtain ⟨hd, -⟩ := chk_eq hs.1
  exact lv_ifnull hxe hb hd (k ad D E p l ev s m args below meth c' H locs la hCF hLh hP hD hS)
theorem AJ.inN {pc tgt : Nat} {off : Int} {ls : List (Option Value)} {r : List Value} {h : List va_E} (hs : SK M [(pc, .ifnull off, (0, 0, 0), 0)]) (ht : (pc : Int) + off = (tgt : Int)) (k : AJ (M, dd, rr, h0, hF) tgt ls r h) : AJ (M, dd, rr, h0, hF) pc ls (.null :: r) h := by
  intro ad D E p l ev s m args below meth c' H locs la hCF hLh hP hD hS
  obtain ⟨hxe, hb, hr, hml, hlk, hown, hts, hK, hN, hSc⟩ := id hCF
  unfold SK segOK at hs
  rw [List.all_cons, Bool.and_eq_true] at hs
  obtain ⟨hd, -⟩ := chk_eq hs.1
  exact lv_ifnullN hxe hb hd ht (k ad D E p l ev s m args below meth c' H locs la hCF hLh hP hD hS)
theorem AJ.xa {h : List va_E} {pc : Nat} {ls : List (Option Value)} {v : Value} {n : String} (hv : v = .null ∨ ∃ a, v = .ref a) (hs : SK M [(pc, .areturn, (0, 0, 0), 0)]) (hr0 : M.2.2.2 = some (.object n)) : AJ (M, dd, some v, h0, h) pc ls [v] h := by
  intro ad D E p l ev s m args below meth c' H locs la hCF hLh hP hD hS
  obtain ⟨hxe, hb, hr, hml, hlk, hown, hts, hK, hN, hSc⟩ := id hCF
  unfold SK segOK at hs
  rw [List.all_cons, Bool.and_eq_true] at hs
  obtain ⟨hd, -⟩ := chk_eq hs.1
  have hv2 : gV ad v = .null ∨ ∃ a, gV ad v = .ref a := by
    rcases hv with rfl | ⟨a, rfl⟩
    · exact Or.inl rfl
    · exact Or.inr ⟨_, rfl⟩
  exact W.aret hxe hb (hr.trans hr0) (Or.inl ⟨n, rfl⟩) hv2 (fun t ht hW => ⟨⟨rfl, by rw [ht]; exact hP, va_K.moved hW.alike hK, hD⟩, hS.F ht⟩) hS.2.2 hd hlk
end
