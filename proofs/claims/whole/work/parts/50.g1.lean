/-! ===== new cells ===== -/
def okV (n : Nat) : Value → Bool
  | .ref i => Nat.blt i n || Nat.ble 1000 i
  | _ => true
def okE (n : Nat) : va_E → Bool
  | .inl _ => true
  | .inr (_, fs) => fs.all (okV n)
def okO (n : Nat) : Option Value → Bool
  | some v => okV n v
  | none => true
def okA (n : Nat) (ls : List (Option Value)) (st : List Value) (h : List va_E) : Bool := ls.all (okO n) && (st.all (okV n) && h.all (okE n))
def adx (ad : Nat → Nat) (n q : Nat) : Nat → Nat := fun i => if i = n then q else ad i
theorem gV_adx {ad : Nat → Nat} {n q : Nat} {v : Value} (hn : n < 1000) (h : okV n v = true) : gV (adx ad n q) v = gV ad v := by
  cases v <;> try rfl
  rename_i i
  have hi : i ≠ n := by
    unfold okV at h
    rw [Bool.or_eq_true] at h
    intro e
    rcases h with h | h
    · have h2 : i + 1 ≤ n := Nat.le_of_ble_eq_true h
      rw [e] at h2
      exact Nat.not_succ_le_self n h2
    · have h2 : 1000 ≤ i := Nat.le_of_ble_eq_true h
      rw [e] at h2
      exact Nat.not_le.mpr hn h2
  show Value.ref (adx ad n q i) = Value.ref (ad i)
  unfold adx
  rw [if_neg hi]
theorem map_adx {ad : Nat → Nat} {n q : Nat} (hn : n < 1000) {st : List Value} (h : st.all (okV n) = true) : st.map (gV (adx ad n q)) = st.map (gV ad) := by
  apply List.map_congr_left
  intro v hv
  exact gV_adx hn (List.all_eq_true.mp h v hv)
theorem gE_adx {ad : Nat → Nat} {E : Nat → ClassId} {n q : Nat} (hn : n < 1000) {e : va_E} (h : okE n e = true) : gE (adx ad n q) E e = gE ad E e := by
  rcases e with ⟨k, a⟩ | ⟨c, fs⟩
  · rfl
  · have h : fs.all (okV n) = true := h
    have e1 := map_adx (ad := ad) (q := q) hn h
    have e2 : (fun i : Nat => rfO (adx ad n q) fs[i]?) = (fun i : Nat => rfO ad fs[i]?) := by
      funext i
      cases hf : fs[i]? with
      | none => rfl
      | some v =>
        have hv := List.all_eq_true.mp h v (List.mem_of_getElem? hf)
        cases v <;> try rfl
        rename_i j
        have := gV_adx (ad := ad) (q := q) hn hv
        have e3 : adx ad n q j = ad j := by
          have e4 : Value.ref (adx ad n q j) = Value.ref (ad j) := this
          exact Value.ref.inj e4
        show some (adx ad n q j) = some (ad j)
        rw [e3]
    show (bif Nat.ble 100 c then Sum.inl (E (c - 100), fs.length, Sum.inr (Sum.inr (Sum.inr (Sum.inr (fun i : Nat => rfO (adx ad n q) fs[i]?))))) else Sum.inr (c, fs.map (gV (adx ad n q))) : va_E) = (bif Nat.ble 100 c then Sum.inl (E (c - 100), fs.length, Sum.inr (Sum.inr (Sum.inr (Sum.inr (fun i : Nat => rfO ad fs[i]?))))) else Sum.inr (c, fs.map (gV ad)))
    rw [e1, e2]
theorem conc_push {ad : Nat → Nat} {E : Nat → ClassId} {h : List va_E} {e : va_E} {q : Nat} (hn : h.length < 1000) (hh : h.all (okE h.length) = true) (he : okE h.length e = true) : conc (adx ad h.length q) E (h ++ [e]) = conc ad E h ++ [(q, gE ad E e)] := by
  apply List.ext_getElem?
  intro j
  rw [conc_get]
  by_cases hj : j < h.length
  · rw [List.getElem?_append_left hj, List.getElem?_append_left (by rw [conc_len]; exact hj), conc_get, List.getElem?_eq_getElem hj]
    have hok := List.all_eq_true.mp hh h[j] (List.getElem_mem hj)
    show some (adx ad h.length q j, gE (adx ad h.length q) E h[j]) = some (ad j, gE ad E h[j])
    rw [gE_adx hn hok]
    unfold adx
    rw [if_neg (Nat.ne_of_lt hj)]
  · by_cases hj2 : j = h.length
    · subst hj2
      rw [List.getElem?_append_right (Nat.le_refl _), List.getElem?_append_right (by rw [conc_len]; exact Nat.le_refl _), conc_len, Nat.sub_self]
      show some (adx ad h.length q h.length, gE (adx ad h.length q) E e) = some (q, gE ad E e)
      rw [gE_adx hn he]
      unfold adx
      rw [if_pos rfl]
    · rw [List.getElem?_eq_none (by simp; omega), List.getElem?_eq_none (by simp [conc_len]; omega)]
      rfl
theorem Lh.adx {ad : Nat → Nat} {la : Array Slot} {n k q : Nat} {ls : List (Option Value)} (h : Lh ad la n ls) (hk : k < 1000) (hl : ls.all (okO k) = true) : Lh (adx ad k q) la n ls := by
  refine ⟨h.1, h.2.1, fun i v hi => ?_⟩
  have hv : okV k v = true := List.all_eq_true.mp hl _ (List.mem_of_getElem? hi)
  rw [gV_adx hk hv]
  exact h.2.2 i v hi
/-- what must hold of ids when a cell is made -/
def frsh (n0 : Nat) (ls : List (Option Value)) (st : List Value) (h : List va_E) (e : va_E) : Prop := h.length < 1000 ∧ n0 ≤ h.length ∧ okA h.length ls st h = true ∧ okE h.length e = true
theorem AG.pushed {X : CXG} {cl sl pc : Nat} {ls : List (Option Value)} {st : List Value} {h : List va_E} {e : va_E} (hf : frsh X.h0.length ls st h e) (k : AG X cl sl pc ls (.ref h.length :: st) (h ++ [e]))
    {ad0 ad : Nat → Nat} {D : va_G} {E : Nat → ClassId} {p : Program} {l : Launch} {ev : Env} {s : State} {m : MethodId} {args : Array Value} {below : List Frame} {meth : Method} {c : Code} {H1 : Heap} {locs : List Loc} {la : Array Slot} {q : Nat}
    (hCF : CF X.1 D E (va_A (conc ad0 E X.h0) s.heap.size) p s m args meth c) (hag : agr X.h0.length ad0 ad ∧ X.Pr ad0 E args s meth) (hLh : Lh ad la X.1.2.2.1 ls) (hP : va_P D vwCl (conc ad E h ++ [(q, gE ad E e)]) H1) (hD : va_D (va_A (conc ad0 E X.h0) s.heap.size) (conc ad E h ++ [(q, gE ad E e)])) (hS : va_S (va_A (conc ad0 E X.h0) s.heap.size) s.heap H1 locs) :
    W p l ev X.R s m args below meth c H1 locs cl sl (X.Q ad0 D E below args s) (F0 m pc la (.ref q :: st.map (gV ad))) := by
  obtain ⟨h1, h2, h3, h4⟩ := hf
  unfold okA at h3
  rw [Bool.and_eq_true, Bool.and_eq_true] at h3
  obtain ⟨o1, o2, o3⟩ := h3
  have hp := conc_push (ad := ad) (E := E) (q := q) h1 o3 h4
  have ha : agr X.h0.length ad0 (adx ad h.length q) := by
    intro i hi
    have hne : i ≠ h.length := by omega
    unfold adx
    rw [if_neg hne]
    exact hag.1 i hi
  have kk := k ad0 (adx ad h.length q) D E p l ev s m args below meth c H1 locs la hCF ⟨ha, hag.2⟩ (hLh.adx h1 o1) (by rw [hp]; exact hP) (by rw [hp]; exact hD) hS
  have es : (Value.ref h.length :: st).map (gV (adx ad h.length q)) = .ref q :: st.map (gV ad) := by
    rw [List.map_cons, map_adx h1 o2]
    show Value.ref (adx ad h.length q h.length) :: _ = _
    unfold adx
    rw [if_pos rfl]
  rw [es] at kk
  exact kk
def dfB (T : u_T) (N : Nat) (fs : List Value) : Bool := (List.range N).all fun j => match parseFieldDescriptor (T j).2.2.1 with
  | some t => decide (defaultValue t = vp_V fs j)
  | none => false
theorem dfB_eq {T : u_T} {N : Nat} {fs : List Value} (h : dfB T N fs = true) {ty : Nat → FieldType} (hty : ∀ k, k < N → parseFieldDescriptor (T k).2.2.1 = some (ty k)) : ∀ j, j < N → defaultValue (ty j) = vp_V fs j := by
  intro j hj
  have h1 := List.all_eq_true.mp h j (List.mem_range.mpr hj)
  rw [hty j hj] at h1
  exact of_decide_eq_true h1
theorem AG.new {X : CXG} {cl sl pc nxt : Nat} {ls : List (Option Value)} {st : List Value} {h : List va_E} {ci idx N : Nat} {C : String} {T : u_T} (fs : List Value) (hd : decode X.1.2.1 pc = .ok (.new idx, 3)) (hc : vwCl[ci]? = some (C, T, N)) (hdf : dfB T N fs = true) (hfs : ∀ ad, fs.map (gV ad) = fs) (w1 : .classLink X.1.1.cls idx C ∈ ALLW) (w2 : .instantiable C N ∈ ALLW) (w3 : .initialized C ∈ ALLW) (hcl : cl + 1 ≤ X.R.cells) (hsl : sl + N ≤ X.R.slots) (hn : pc + 3 = nxt) (hf : frsh X.h0.length ls st h (.inr (ci, fs))) (k : AG X (cl + 1) (sl + N) nxt ls (.ref h.length :: st) (h ++ [.inr (ci, fs)])) : AG X cl sl pc ls st h := by
  intro ad0 ad D E p l ev s m args below meth c H locs la hCF hag hLh hP hD hS
  obtain ⟨hx, hb, hr, hml, hlk, hown, hts, hK, hN, hSc⟩ := id hCF
  subst hn
  obtain ⟨h1, ⟨ty0, h2⟩, h3⟩ := cls_ok _ _ hc
  refine va_new hx hb hts h1 ty0 h2 hown (hts _ w1) (hts _ w2) (hts _ w3) hK hP hD hS (fun q hq => Or.inr hq) hc (dfB_eq hdf h2) hcl hsl hd (fun q H1 hP1 hD1 hS1 => ?_)
  have e1 : gE ad E (.inr (ci, fs)) = .inr (ci, fs) := by rw [gE_obj (vwCl_lt hc), hfs ad]
  exact AG.pushed hf k hCF hag hLh (by rw [e1]; exact hP1) (by rw [e1]; exact hD1) hS1
theorem AG.nwa {X : CXG} {cl sl pc nxt : Nat} {ls : List (Option Value)} {st : List Value} {h : List va_E} {atype : ArrayType} {kd : Nat} {ty : FieldType} {n : Int32} (N : Nat) (a0 : vp_A) (hd : decode X.1.2.1 pc = .ok (.newarray atype, 2)) (hty : newarray.typeOf atype = ty) (hk : ∀ E, (tysOf E)[kd]? = some (E kd, ty)) (hra : ∀ (U : State) (cA : ClassId), va_RA U cA ty = (U.vm.findClass ("[" ++ ty.toString) = some cA)) (w : .arrayClass ty ∈ ALLW) (ha : ∀ cA : ClassId, vp_cell cA a0 = arrV cA N (fun _ => defaultValue ty)) (hn0 : ¬ n < 0) (hN : n.toNatClampNeg = N) (hby : N * componentBytes ty ≤ 536870912) (hcl : cl + 1 ≤ X.R.cells) (hsl : sl + N ≤ X.R.slots) (hn : pc + 2 = nxt) (hf : frsh X.h0.length ls st h (.inl (kd, a0))) (k : AG X (cl + 1) (sl + N) nxt ls (.ref h.length :: st) (h ++ [.inl (kd, a0)])) : AG X cl sl pc ls (.int n :: st) h := by
  intro ad0 ad D E p l ev s m args below meth c H locs la hCF hag hLh hP hD hS
  obtain ⟨hx, hb, hr, hml, hlk, hown, hts, hK, hN2, hSc⟩ := id hCF
  subst hn
  refine va_newa hx hb (by rw [hty]; exact hts _ w) hty hK hP hD hS (fun q hq => Or.inr hq) ha hn0 hN hby hcl hsl hd (fun q cA H1 hK1 hP1 hD1 hS1 => ?_)
  have g1 := (hK1.2 5 (cA, ty) rfl).2
  have g2 := (hK.2 kd (E kd, ty) (hk E)).2
  rw [hra] at g1 g2
  have e1 : cA = E kd := Option.some.inj (g1.symm.trans g2)
  subst e1
  exact AG.pushed hf k hCF hag hLh hP1 hD1 hS1
