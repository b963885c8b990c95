/-! ===== PURE: fewest: the class finds ===== -/
def mII : Int32 := -2
theorem negtwo : -(iN 2) = mII := rfl
theorem mII_neg : (mII < iN 0) = True := eq_true (by decide)
theorem mII_mI : (mII = mI) = False := eq_false (by decide)
/-- the number that is answered -/
def rOc (o : Oc) : Int32 := match o with
  | .inl _ => mI
  | .inr (false, _) => mII
  | .inr (true, s) => iN (s.1.length - 1)
/-- what is kept behind it -/
def kOc (P : Sr → Prop) (o : Oc) : Prop := match o with
  | .inl s => P s
  | .inr (false, _) => True
  | .inr (true, s) => P s
def s00 (t : Tn) : Sr := ([t], fun _ => 0, fun _ => 0)
noncomputable def fnS (x : Cx) (W : Nat → Option Nat) (set : Nat) (t : Tn) : Oc := if asW W t = true then .inr (true, s00 t) else bfS x W set 3001 0 (s00 t)
theorem s00_ok {t : Tn} (ht : TW t) : SOK (s00 t) := by
  refine ⟨by show 1 ≤ 3000; omega, fun u hu => ?_, fun i h1 h2 => ?_⟩
  · rw [List.mem_singleton.mp (show u ∈ [t] from hu)]; exact ht
  · have h2 : i < 1 := h2; omega
section
variable {x : Cx} {W : Nat → Option Nat} {set : Nat}
theorem wy_gG (hx : CxOK x) {k : Nat} {u : Tn} (hu : TW u) {s : Sr} (hs : SOK s) (hk : k < s.1.length) : OcOK s (wyS x W set k u (wsG x.1 x.2.1) s) := wy_ok hx hu _ s (fun q hq => by
  have h1 := ws_mem hq
  have h2 := hx.1
  have h3 := hx.2.1
  exact ⟨by omega, by omega⟩) hs hk
theorem bf_ok (hx : CxOK x) : ∀ (f k : Nat) (s : Sr), SOK s → OcOK s (bfS x W set f k s)
  | 0, k, s, hs => ⟨hs, Nat.le_refl _, fun _ _ => rfl⟩
  | f + 1, k, s, hs => by
    unfold bfS
    by_cases c : k < s.1.length
    · rw [if_pos c]
      have hu : TW (s.1.getD k t00) := by
        rw [List.getD_eq_getElem?_getD, List.getElem?_eq_getElem c]
        exact hs.2.1 _ (List.getElem_mem c)
      have h1 := wy_gG (W := W) (set := set) hx hu hs c
      cases e : wyS x W set k (s.1.getD k t00) (wsG x.1 x.2.1) s with
      | inr z => rw [e] at h1; exact h1
      | inl s' =>
        rw [e] at h1
        obtain ⟨a1, a2, a3⟩ := h1
        have h3 := bf_ok hx f (k + 1) s' a1
        show OcOK s (bfS x W set f (k + 1) s')
        cases e2 : bfS x W set f (k + 1) s' with
        | inr z => rw [e2] at h3; exact h3
        | inl s2 =>
          rw [e2] at h3
          obtain ⟨b1, b2, b3⟩ := h3
          exact ⟨b1, by omega, fun i hi => (b3 i (by omega)).trans (a3 i hi)⟩
    · rw [if_neg c]; exact ⟨hs, Nat.le_refl _, fun _ _ => rfl⟩
theorem fn_ok (hx : CxOK x) {t : Tn} (ht : TW t) : OcOK (s00 t) (fnS x W set t) := by
  unfold fnS
  by_cases c : asW W t = true
  · rw [if_pos c]; exact ⟨s00_ok ht, fun _ => by show 0 < 1; omega⟩
  · rw [if_neg c]; exact bf_ok hx _ _ _ (s00_ok ht)
variable {pe ga hr rl cL lz tk fe : Int32} {lo bo cd kd fr to wn : Nat → Int32} {ru : Nat}
theorem C_goOn (hx : CxOK x) (hcx : CX pe ga hr rl lo bo ru cL lz tk fe cd kd fr to x) (hW : WN wn W) (hset : set < 256) {k : Nat} {u : Tn} (hu : TW u) {s : Sr} (hs : SOK s) (hk : s.1[k]? = some u) {size : Int32} {st : Nat → Int64} {tb og nm sz v sk : Nat → Int32} {hp : Nat → Nat → Int32} (h1 : CS size st tb og s) : ∃ (t : T9), f_srch_goOnFrom size st pe ga hr rl tb og wn nm sz hp lo ru bo v cL lz tk sk kd to fr cd (iN k) (iN set) = some (rOc (wyS x W set k u (wsG x.1 x.2.1) s), t) ∧ kOc (CS9 t) (wyS x W set k u (wsG x.1 x.2.1) s) := by
  have hl := hs.1
  have hP := hx.1
  have hkl : k < s.1.length := (List.getElem?_eq_some_iff.mp hk).1
  have hik : inb (iN k) 3000 = True := by rw [iN_inb (by omega)]; exact eq_true (by omega)
  have hxk : ix (iN k) = k := iN_ix (by omega)
  have hst : st k = jN (pkS u) := (h1.2.2.1 k (pkS u) (by rw [List.getElem?_map, hk]; rfl)).1
  obtain ⟨n2, s2, h2, u1, u2⟩ := C_unpack (nm := nm) (sz := sz) (hp := hp) hu
  obtain ⟨e, e1, e2⟩ := C_outer (k := k) hx hcx hW hset hu x.1 0 KF s (size, st, tb, og, n2, s2, h2, v, sk) (by omega) (kf_lt (by omega)) hs hk h1 u2
  rw [← List.range_eq_range'] at e2
  have e2 : EX u (wyS x W set k u (wsG x.1 x.2.1) s) e := e2
  unfold f_srch_goOnFrom
  rw [if_pos (of_eq_true hik), hxk, hst, u1, Option.bind_some]
  have e1 : itr (un10 (fb_srch_goOnFrom_15 pe ga hr rl wn lo ru bo cL lz tk kd to fr cd (iN k) (iN set))) KF (0, size, st, tb, og, n2, s2, h2, v, sk) = some e := e1
  cases q : wyS x W set k u (wsG x.1 x.2.1) s with
  | inl s' =>
    rw [q] at e2
    obtain ⟨t, rfl, f1, f2⟩ := e2
    refine ⟨t, ?_, f1⟩
    simp only [un3, e1, Option.bind_some, Sum.elim_inr]; rfl
  | inr z =>
    obtain ⟨b, s'⟩ := z
    rw [q] at e2
    cases b with
    | false =>
      obtain ⟨t, rfl⟩ := e2
      refine ⟨t, ?_, trivial⟩
      simp only [un3, e1, Option.bind_some, Sum.elim_inl]; rfl
    | true =>
      obtain ⟨t, rfl, f1⟩ := e2
      refine ⟨t, ?_, f1⟩
      have hok := wy_gG (W := W) (set := set) hx hu hs hkl
      rw [q] at hok
      have h0 := hok.2 rfl
      have f10 : t.1 = iN s'.1.length := f1.1
      have hsub : iN s'.1.length - 1 = iN (s'.1.length - 1) := iN_sub (a := s'.1.length) (b := 1) (by omega)
      simp only [un3, e1, Option.bind_some, Sum.elim_inr, Sum.elim_inl, un9, f10, hsub]
      show some (iN (s'.1.length - 1), iN s'.1.length, t.2) = some (iN (s'.1.length - 1), t)
      rw [← f10]
abbrev T9b : Type := Int32 × (Nat → Int32) × (Nat → Int64) × (Nat → Int32) × (Nat → Int32) × (Nat → Int32) × (Nat → Nat → Int32) × (Nat → Int32) × (Nat → Int32)
def CS9b (t : T9b) (s : Sr) : Prop := CS t.1 t.2.2.1 t.2.1 t.2.2.2.1 s
def RF (o : Oc) (e : (Int32 × T9b) ⊕ T9b) : Prop := match o with
  | .inl s => ∃ t, e = .inr t ∧ CS9b t s
  | .inr z => ∃ t, e = .inl (rOc (.inr z), t) ∧ kOc (CS9b t) (.inr z)
theorem C_bf (hx : CxOK x) (hcx : CX pe ga hr rl lo bo ru cL lz tk fe cd kd fr to x) (hW : WN wn W) (hset : set < 256) : ∀ (f k n : Nat) (s : Sr) (t : T9b), f + k = 3001 → f < n → SOK s → CS9b t s → ∃ e, itr (un10 (fb_srch_find_51 pe ga hr rl wn lo ru bo cL lz tk kd to fr cd (iN set))) n (iN k, t) = some e ∧ RF (bfS x W set f k s) e := by
  have stop : ∀ (k n : Nat) (s : Sr) (t : T9b), k ≤ 3001 → SOK s → CS9b t s → ¬ k < s.1.length → itr (un10 (fb_srch_find_51 pe ga hr rl wn lo ru bo cL lz tk kd to fr cd (iN set))) (n + 1) (iN k, t) = some (.inr t) := by
    intro k n s t hk hs h1 c
    obtain ⟨size, tb, st, og, nm, sz, hp, v, sk⟩ := t
    have hl := hs.1
    have h11 : size = iN s.1.length := h1.1
    have hlt : (iN k < size) = False := by rw [h11, iN_lt (by omega) (by omega)]; exact eq_false c
    refine itr_end ?_
    simp only [un10, fb_srch_find_51, hlt, ↓reduceIte]
  intro f
  induction f with
  | zero =>
    intro k n s t hf hn hs h1
    obtain ⟨n, rfl⟩ : ∃ z, n = z + 1 := ⟨n - 1, by omega⟩
    have hl := hs.1
    exact ⟨.inr t, stop k n s t (by omega) hs h1 (by omega), t, rfl, h1⟩
  | succ f ih =>
    intro k n s t hf hn hs h1
    obtain ⟨n, rfl⟩ : ∃ z, n = z + 1 := ⟨n - 1, by omega⟩
    have hl := hs.1
    unfold bfS
    by_cases c : k < s.1.length
    · rw [if_pos c]
      have hk : s.1[k]? = some (s.1.getD k t00) := by rw [List.getD_eq_getElem?_getD, List.getElem?_eq_getElem c]; rfl
      have hu : TW (s.1.getD k t00) := hs.2.1 _ (List.mem_of_getElem? hk)
      generalize s.1.getD k t00 = u at hk hu
      obtain ⟨size, tb, st, og, nm, sz, hp, v, sk⟩ := t
      have h11 : size = iN s.1.length := h1.1
      obtain ⟨t', e1, e2⟩ := C_goOn (nm := nm) (sz := sz) (hp := hp) (v := v) (sk := sk) hx hcx hW hset hu hs hk h1
      obtain ⟨size', st', tb', og', nm', sz', hp', v', sk'⟩ := t'
      have hok := wy_gG (W := W) (set := set) hx hu hs c
      have hlt : (iN k < size) = True := by rw [h11, iN_lt (by omega) (by omega)]; exact eq_true c
      have hl3 : (iN k < iN 3000) = True := by rw [iN_lt (by omega) (by omega)]; exact eq_true (by omega)
      cases q : wyS x W set k u (wsG x.1 x.2.1) s with
      | inl s' =>
        rw [q] at e1 e2 hok
        have e1 : f_srch_goOnFrom size st pe ga hr rl tb og wn nm sz hp lo ru bo v cL lz tk sk kd to fr cd (iN k) (iN set) = some (mI, size', st', tb', og', nm', sz', hp', v', sk') := e1
        have stp : un10 (fb_srch_find_51 pe ga hr rl wn lo ru bo cL lz tk kd to fr cd (iN set)) (iN k, size, tb, st, og, nm, sz, hp, v, sk) = some (.inl (iN (k + 1), size', tb', st', og', nm', sz', hp', v', sk')) := by
          simp only [un10, fb_srch_find_51, nlit, hlt, hl3, e1, negone, iN_add, Option.bind_some, ↓reduceIte]
        rw [itr_step stp]
        exact ih (k + 1) n s' (size', tb', st', og', nm', sz', hp', v', sk') (by omega) (by omega) hok.1 e2
      | inr z =>
        obtain ⟨b, s'⟩ := z
        rw [q] at e1 e2 hok
        cases b with
        | false =>
          have e1 : f_srch_goOnFrom size st pe ga hr rl tb og wn nm sz hp lo ru bo v cL lz tk sk kd to fr cd (iN k) (iN set) = some (mII, size', st', tb', og', nm', sz', hp', v', sk') := e1
          refine ⟨.inl (mII, size', tb', st', og', nm', sz', hp', v', sk'), itr_end ?_, (size', tb', st', og', nm', sz', hp', v', sk'), rfl, trivial⟩
          simp only [un10, fb_srch_find_51, nlit, hlt, hl3, e1, negone, mII_mI, Option.bind_some, ↓reduceIte]
        | true =>
          have e1 : f_srch_goOnFrom size st pe ga hr rl tb og wn nm sz hp lo ru bo v cL lz tk sk kd to fr cd (iN k) (iN set) = some (iN (s'.1.length - 1), size', st', tb', og', nm', sz', hp', v', sk') := e1
          have hl2 := hok.1.1
          have hne : (iN (s'.1.length - 1) = mI) = False := iN_nm (by omega)
          refine ⟨.inl (iN (s'.1.length - 1), size', tb', st', og', nm', sz', hp', v', sk'), itr_end ?_, (size', tb', st', og', nm', sz', hp', v', sk'), rfl, e2⟩
          simp only [un10, fb_srch_find_51, nlit, hlt, hl3, e1, negone, hne, Option.bind_some, ↓reduceIte]
    · rw [if_neg c]
      exact ⟨.inr t, stop k n s t (by omega) hs h1 c, t, rfl, h1⟩
theorem HT.nil {tb : Nat → Int32} (h : ∀ k, k < 4096 → tb k = iN 0) : HT tb [] := by
  refine ⟨fun p hp => Or.inl (h p hp), ?_, fun p q hp hq e hn => absurd (h p hp) hn⟩
  intro i S hi
  rw [List.getElem?_nil] at hi
  cases hi
theorem C_find (hx : CxOK x) (hcx : CX pe ga hr rl lo bo ru cL lz tk fe cd kd fr to x) (hW : WN wn W) (hset : set < 256) {t0 : Tn} (ht : TW t0) {nm sz : Nat → Int32} {hp : Nat → Nat → Int32} (hd : CT nm sz hp t0) {size0 : Int32} {st : Nat → Int64} {tb og tn tz v sk : Nat → Int32} {th : Nat → Nat → Int32} : ∃ (t : T9b), f_srch_find size0 tb pe ga hr rl st og wn tn tz th lo ru bo nm sz hp v cL lz tk sk kd to fr cd (iN set) = some (rOc (fnS x W set t0), t) ∧ kOc (CS9b t) (fnS x W set t0) := by
  obtain ⟨tb1, a1, a2, -⟩ := C_fill (n := 4096) (f := tb) (v := iN 0) (by decide)
  obtain ⟨n1, z1, th1, y1, y2⟩ := C_copyTown (nm := tn) (sz := tz) (hp := th) hd ht
  have hpk := C_packed y2 ht
  obtain ⟨tb2, st2, ea, b1, b2⟩ := C_addNew (tb := tb1) (st := st) (og := og) (L := []) (o := iN 0) (HT.nil a2) (by decide) (fun i S hi => by cases hi) (pkT_lt ht) (List.not_mem_nil (a := pkS t0))
  have hw := C_asWanted hW y2 ht
  have a1' : f_arr_fill_II 4096 tb 0 = some tb1 := a1
  have ea' : f_srch_add 0 tb1 st og (jN (pkS t0)) 0 = some (iN 1, iN 1, tb2, st2, upd og 0 (iN 0)) := ea
  have hcs : CS (iN 1) st2 tb2 (upd og 0 (iN 0)) (s00 t0) := ⟨rfl, b1, b2, fun i h1 h2 => by have h2 : i < 1 := h2; omega⟩
  unfold f_srch_find
  rw [a1', Option.bind_some, y1, Option.bind_some]
  simp only [un3]
  rw [hpk, Option.bind_some, ea', Option.bind_some]
  simp only [un5]
  rw [hw, Option.bind_some]
  cases c : asW W t0 with
  | true =>
    have hf : fnS x W set t0 = .inr (true, s00 t0) := by unfold fnS; rw [if_pos c]
    rw [hf]
    refine ⟨(iN 1, tb2, st2, upd og 0 (iN 0), n1, z1, th1, v, sk), ?_, hcs⟩
    simp only [nlit, bT0, ↓reduceIte]; rfl
  | false =>
    have hf : fnS x W set t0 = bfS x W set 3001 0 (s00 t0) := by unfold fnS; rw [if_neg (by rw [c]; decide)]
    rw [hf]
    obtain ⟨e, e1, e2⟩ := C_bf (set := set) hx hcx hW hset 3001 0 KF (s00 t0) (iN 1, tb2, st2, upd og 0 (iN 0), n1, z1, th1, v, sk) rfl (kf_lt (by decide)) (s00_ok ht) hcs
    cases q : bfS x W set 3001 0 (s00 t0) with
    | inl s' =>
      rw [q] at e2
      obtain ⟨t, rfl, f1⟩ := e2
      refine ⟨t, ?_, f1⟩
      simp only [nlit, bF0, e1, Sum.elim_inr, Option.bind_some, ↓reduceIte]; rfl
    | inr z =>
      rw [q] at e2
      obtain ⟨t, rfl, f1⟩ := e2
      refine ⟨t, ?_, f1⟩
      simp only [nlit, bF0, e1, Sum.elim_inl, Option.bind_some, ↓reduceIte]; rfl
end
