/-! ===== PURE: fewest: the class goes through states ===== -/
abbrev T9 : Type := Int32 × (Nat → Int64) × (Nat → Int32) × (Nat → Int32) × (Nat → Int32) × (Nat → Int32) × (Nat → Nat → Int32) × (Nat → Int32) × (Nat → Int32)
def CS (size : Int32) (st : Nat → Int64) (tb og : Nat → Int32) (s : Sr) : Prop := size = iN s.1.length ∧ HT tb (s.1.map pkS) ∧ ST st (s.1.map pkS) ∧ ∀ i, 0 < i → i < s.1.length → og i = iN (s.2.1 i * 100 + s.2.2 i)
def CS9 (t : T9) (s : Sr) : Prop := CS t.1 t.2.1 t.2.2.1 t.2.2.2.1 s
def CT9 (t : T9) (u : Tn) : Prop := CT t.2.2.2.2.1 t.2.2.2.2.2.1 t.2.2.2.2.2.2.1 u
def EX (u : Tn) (o : Oc) (e : T9 ⊕ T9 ⊕ T9) : Prop := match o with
  | .inl s => ∃ t, e = .inr (.inr t) ∧ CS9 t s ∧ CT9 t u
  | .inr (false, _) => ∃ t, e = .inl t
  | .inr (true, s) => ∃ t, e = .inr (.inl t) ∧ CS9 t s
theorem bt_zero : ∀ m, m < 256 → ∀ k, k < 8 → ((((iN m >>> (iN k &&& iN 31)) &&& iN 1) = iN 0) ↔ m.testBit k = false) := by decide +kernel
theorem CS.ad {size : Int32} {st st' : Nat → Int64} {tb og tb' : Nat → Int32} {s : Sr} {t : Tn} {k v : Nat} (h : CS size st tb og s) (h1 : HT tb' (s.1.map pkS ++ [pkS t])) (h2 : ST st' (s.1.map pkS ++ [pkS t])) {o : Int32} (ho : o = iN (k * 100 + v)) : CS (iN (s.1.length + 1)) st' tb' (upd og s.1.length o) (adS s t k v) := by
  have hm : (adS s t k v).1.map pkS = s.1.map pkS ++ [pkS t] := by show (s.1 ++ [t]).map pkS = _; rw [List.map_append]; rfl
  refine ⟨by rw [ad_len], by rw [hm]; exact h1, by rw [hm]; exact h2, fun i hi hi2 => ?_⟩
  rw [ad_len] at hi2
  show upd og s.1.length o i = iN (setF s.2.1 s.1.length k i * 100 + setF s.2.2 s.1.length v i)
  by_cases c : i = s.1.length
  · rw [c, upd_same, setF_same, setF_same, ho]
  · rw [upd_ne c, setF_ne c, setF_ne c]; exact h.2.2.2 i hi (by omega)
section
variable {x : Cx} {W : Nat → Option Nat} {set k w : Nat} {u : Tn} {pe ga hr rl cL lz tk fe : Int32} {lo bo cd kd fr to wn : Nat → Int32} {ru : Nat}
theorem C_go1 (hx : CxOK x) (hcx : CX pe ga hr rl lo bo ru cL lz tk fe cd kd fr to x) (hW : WN wn W) (hset : set < 256) (hu : TW u) (hw : w < x.1) {g : Nat} (hg : g < x.2.1) {s : Sr} (hs : SOK s) (hk : s.1[k]? = some u) {t : T9} (h1 : CS9 t s) (h2 : CT9 t u) :
    (∃ s' t', go1 x W set k u s w g = .inl s' ∧ un10 (fb_srch_goOnFrom_29 pe ga hr rl wn lo ru bo cL lz tk kd to fr cd (iN k) (iN set) (iN w)) (iN g, t) = some (.inl (iN (g + 1), t')) ∧ CS9 t' s' ∧ CT9 t' u) ∨ ∃ z e, go1 x W set k u s w g = .inr z ∧ un10 (fb_srch_goOnFrom_29 pe ga hr rl wn lo ru bo cL lz tk kd to fr cd (iN k) (iN set) (iN w)) (iN g, t) = some (.inr e) ∧ EX u (.inr z) e := by
  have hP := hx.1
  have hG := hx.2.1
  obtain ⟨size, st, tb, og, nm, sz, hp, v, sk⟩ := t
  obtain ⟨h11, h12, h13, h14⟩ := h1
  have h11 : size = iN s.1.length := h11
  have h12 : HT tb (s.1.map pkS) := h12
  have h13 : ST st (s.1.map pkS) := h13
  have h2 : CT nm sz hp u := h2
  have hCS : CS size st tb og s := ⟨h11, h12, h13, h14⟩
  have hga : ga = iN x.2.1 := hcx.2.1
  have hlt : (iN g < ga) = True := by rw [hga, iN_lt (by omega) (by omega)]; exact eq_true hg
  have hbz := bt_zero set hset w (by omega)
  have hlo := hcx.2.2.2.1 g (by omega)
  have hl := hs.1
  have hkl : k < s.1.length := (List.getElem?_eq_some_iff.mp hk).1
  have hL : (s.1.map pkS).length = s.1.length := List.length_map ..
  have hi3 : inb (iN g) 3 = True := by rw [iN_inb (by omega)]; exact eq_true (by omega)
  have hx3 : ix (iN g) = g := iN_ix (by omega)
  cases q1 : set.testBit w with
  | false =>
    have hb0 : (((iN set >>> (iN w &&& iN 31)) &&& iN 1) = iN 0) = True := eq_true (hbz.mpr q1)
    have e : go1 x W set k u s w g = .inl s := by unfold go1 okW; rw [q1, Bool.false_and, Bool.false_and, if_neg (by decide)]
    refine Or.inl ⟨s, (size, st, tb, og, nm, sz, hp, v, sk), e, ?_, hCS, h2⟩
    simp only [un10, fb_srch_goOnFrom_29, hlt, nlit, hb0, iN_add, ↓reduceIte]
  | true =>
    have hb0 : (((iN set >>> (iN w &&& iN 31)) &&& iN 1) = iN 0) = False := eq_false (fun z => by have := hbz.mp z; rw [q1] at this; cases this)
    cases q2 : x.2.2.2.1 g with
    | true =>
      rw [q2] at hlo
      have e : go1 x W set k u s w g = .inl s := by unfold go1 okW; rw [q1, q2, Bool.not_true, Bool.and_false, if_neg (by decide)]
      refine Or.inl ⟨s, (size, st, tb, og, nm, sz, hp, v, sk), e, ?_, hCS, h2⟩
      simp only [un10, fb_srch_goOnFrom_29, hlt, nlit, hb0, hi3, hx3, hlo, bT0, iN_add, ↓reduceIte]
    | false =>
      rw [q2] at hlo
      have hok : okW x set w g = true := by unfold okW; rw [q1, q2, decide_eq_true hg]; rfl
      obtain ⟨v', sk', nm', sz', hp', d1, d2⟩ := C_doTried (values := v) (stack := sk) hx hcx h2 hu hw hg
      cases q3 : goS x u w g with
      | none =>
        rw [q3] at d1 d2
        have d1 : f_go_doTried pe ga hr rl ru v cL lz tk sk lo bo kd to fr cd nm sz hp (iN w) (iN g) = some (mI, v', sk', nm', sz', hp') := d1
        have e : go1 x W set k u s w g = .inl s := by unfold go1; rw [if_pos hok, q3]
        refine Or.inl ⟨s, (size, st, tb, og, nm', sz', hp', v', sk'), e, ?_, hCS, d2⟩
        simp only [un10, fb_srch_goOnFrom_29, hlt, nlit, hb0, hi3, hx3, hlo, bF0, d1, un6, negone, iN_add, Option.bind_some, ↓reduceIte]
      | some p =>
        obtain ⟨n, t'⟩ := p
        rw [q3] at d1 d2
        have hn := goS_name hu q3
        have ht' : TW t' := by have := goS_TW (x := x) hu (show w < 8 by omega) (show g < 3 by omega); rw [q3] at this; exact this
        have d1 : f_go_doTried pe ga hr rl ru v cL lz tk sk lo bo kd to fr cd nm sz hp (iN w) (iN g) = some (iN n, v', sk', nm', sz', hp') := d1
        have d2 : CT nm' sz' hp' t' := d2
        have hne : (iN n = mI) = False := iN_nm (by omega)
        have hpk := C_packed d2 ht'
        have hor : iN k * iN 100 + iN 10 * iN w + iN g = iN (k * 100 + (10 * w + g)) := by rw [iN_mul, iN_mul, iN_add, iN_add, Nat.add_assoc]
        have hSl := pkT_lt ht'
        have hik : inb (iN k) 3000 = True := by rw [iN_inb (by omega)]; exact eq_true (by omega)
        have hxk : ix (iN k) = k := iN_ix (by omega)
        have hstk : ∀ st', ST st' (s.1.map pkS) → st' k = jN (pkS u) := fun st' h => (h k (pkS u) (by rw [List.getElem?_map, hk]; rfl)).1
        by_cases c1 : t' ∈ s.1
        · have ea := C_addOld (og := og) (o := iN (k * 100 + (10 * w + g))) h12 (by rw [hL]; exact hl) h13 hSl (List.mem_map.mpr ⟨t', c1, rfl⟩)
          rw [hL, ← h11] at ea
          have e : go1 x W set k u s w g = .inl s := by unfold go1; rw [if_pos hok, q3]; dsimp only; rw [if_pos (inB_t c1)]
          obtain ⟨n2, s2, h2', u1, u2⟩ := C_unpack (nm := nm') (sz := sz') (hp := hp') hu
          have hst := hstk st h13
          refine Or.inl ⟨s, (size, st, tb, og, n2, s2, h2', v', sk'), e, ?_, hCS, u2⟩
          simp only [un10, fb_srch_goOnFrom_29, hlt, nlit, hb0, hi3, hx3, hlo, bF0, d1, un6, negone, hne, Option.bind_some, ↓reduceIte]
          rw [hpk, Option.bind_some, hor, ea, Option.bind_some]
          simp only [un5, fj_srch_goOnFrom_136_29, hik, hxk, hst, nlit, iN_add, ↓reduceIte]
          rw [u1, Option.bind_some]; rfl
        · have hnot : pkS t' ∉ s.1.map pkS := fun z => by
            obtain ⟨y, y1, y2⟩ := List.mem_map.mp z
            exact c1 (((pkT_eq (hs.2.1 y y1) ht').mp y2) ▸ y1)
          by_cases c2 : s.1.length = 3000
          · have ea := C_addFull (og := og) (o := iN (k * 100 + (10 * w + g))) h12 (by rw [hL]; exact c2) h13 hSl hnot
            rw [hL, ← h11] at ea
            have e : go1 x W set k u s w g = .inr (false, s) := by unfold go1; rw [if_pos hok, q3]; dsimp only; rw [if_neg (by rw [inB_f c1]; decide), if_pos c2]
            have h10 : (iN 1 = iN 0) = False := eq_false (by decide)
            have h31 : (iN 3000 < iN 3001) = True := eq_true (by decide)
            refine Or.inr ⟨(false, s), .inl (iN 3001, st, tb, og, nm', sz', hp', v', sk'), e, ?_, (iN 3001, st, tb, og, nm', sz', hp', v', sk'), rfl⟩
            simp only [un10, fb_srch_goOnFrom_29, hlt, nlit, hb0, hi3, hx3, hlo, bF0, d1, un6, negone, hne, Option.bind_some, ↓reduceIte]
            rw [hpk, Option.bind_some, hor, ea, Option.bind_some]
            simp only [un5, nlit, h10, h31, ↓reduceIte]
          · obtain ⟨tb', st', ea, a1, a2⟩ := C_addNew (og := og) (o := iN (k * 100 + (10 * w + g))) h12 (by rw [hL]; omega) h13 hSl hnot
            rw [hL, ← h11] at ea
            have hnew : CS (iN (s.1.length + 1)) st' tb' (upd og s.1.length (iN (k * 100 + (10 * w + g)))) (adS s t' k (10 * w + g)) := hCS.ad a1 a2 rfl
            have h10 : (iN 1 = iN 0) = False := eq_false (by decide)
            have h31 : (iN 3000 < iN (s.1.length + 1)) = False := by rw [iN_lt (by omega) (by omega)]; exact eq_false (by omega)
            have hw := C_asWanted hW d2 ht'
            cases c3 : asW W t' with
            | true =>
              rw [c3] at hw
              have e : go1 x W set k u s w g = .inr (true, adS s t' k (10 * w + g)) := by unfold go1; rw [if_pos hok, q3]; dsimp only; rw [if_neg (by rw [inB_f c1]; decide), if_neg c2, if_pos c3]
              refine Or.inr ⟨(true, adS s t' k (10 * w + g)), .inr (.inl (iN (s.1.length + 1), st', tb', upd og s.1.length (iN (k * 100 + (10 * w + g))), nm', sz', hp', v', sk')), e, ?_, (iN (s.1.length + 1), st', tb', upd og s.1.length (iN (k * 100 + (10 * w + g))), nm', sz', hp', v', sk'), rfl, hnew⟩
              simp only [un10, fb_srch_goOnFrom_29, hlt, nlit, hb0, hi3, hx3, hlo, bF0, d1, un6, negone, hne, Option.bind_some, ↓reduceIte]
              rw [hpk, Option.bind_some, hor, ea, Option.bind_some]
              simp only [un5, nlit, h10, h31, hw, bT0, Option.bind_some, ↓reduceIte]
            | false =>
              rw [c3] at hw
              have e : go1 x W set k u s w g = .inl (adS s t' k (10 * w + g)) := by unfold go1; rw [if_pos hok, q3]; dsimp only; rw [if_neg (by rw [inB_f c1]; decide), if_neg c2, if_neg (by rw [c3]; decide)]
              obtain ⟨n2, s2, h2', u1, u2⟩ := C_unpack (nm := nm') (sz := sz') (hp := hp') hu
              have hst : st' k = jN (pkS u) := (a2 k (pkS u) (by rw [List.getElem?_append_left (by rw [hL]; exact hkl), List.getElem?_map, hk]; rfl)).1
              refine Or.inl ⟨adS s t' k (10 * w + g), (iN (s.1.length + 1), st', tb', upd og s.1.length (iN (k * 100 + (10 * w + g))), n2, s2, h2', v', sk'), e, ?_, hnew, u2⟩
              simp only [un10, fb_srch_goOnFrom_29, hlt, nlit, hb0, hi3, hx3, hlo, bF0, d1, un6, negone, hne, Option.bind_some, ↓reduceIte]
              rw [hpk, Option.bind_some, hor, ea, Option.bind_some]
              simp only [un5, fj_srch_goOnFrom_136_29, nlit, h10, h31, hw, bF0, hik, hxk, hst, iN_add, Option.bind_some, ↓reduceIte]
              rw [u1, Option.bind_some]; rfl
theorem C_inner (hx : CxOK x) (hcx : CX pe ga hr rl lo bo ru cL lz tk fe cd kd fr to x) (hW : WN wn W) (hset : set < 256) (hu : TW u) (hw : w < x.1) : ∀ (m g n : Nat) (s : Sr) (t : T9), g + m = x.2.1 → m < n → SOK s → s.1[k]? = some u → CS9 t s → CT9 t u → ∃ e, itr (un10 (fb_srch_goOnFrom_29 pe ga hr rl wn lo ru bo cL lz tk kd to fr cd (iN k) (iN set) (iN w))) n (iN g, t) = some e ∧ EX u (wyS x W set k u ((List.range' g m).map (fun g => (w, g))) s) e
  | 0, g, n, s, t, hg, hn, hs, hk, h1, h2 => by
    obtain ⟨n, rfl⟩ : ∃ z, n = z + 1 := ⟨n - 1, by omega⟩
    have hG := hx.2.1
    have hga : ga = iN x.2.1 := hcx.2.1
    have hlt : (iN g < ga) = False := by rw [hga, iN_lt (by omega) (by omega)]; exact eq_false (by omega)
    refine ⟨.inr (.inr t), itr_end ?_, t, rfl, h1, h2⟩
    simp only [un10, fb_srch_goOnFrom_29, hlt, ↓reduceIte]
  | m + 1, g, n, s, t, hg, hn, hs, hk, h1, h2 => by
    obtain ⟨n, rfl⟩ : ∃ z, n = z + 1 := ⟨n - 1, by omega⟩
    have hG := hx.2.1
    have hP := hx.1
    have hkl : k < s.1.length := (List.getElem?_eq_some_iff.mp hk).1
    rw [List.range'_succ, List.map_cons]
    rw [wy_cons]
    have hok := go1_ok (W := W) (set := set) hx hs hkl hu (show w < 8 by omega) (show g < 3 by omega)
    rcases C_go1 hx hcx hW hset hu hw (show g < x.2.1 by omega) hs hk h1 h2 with ⟨s', t', e1, e2, e3, e4⟩ | ⟨z, e, e1, e2, e3⟩
    · rw [e1] at hok
      obtain ⟨o1, o2, o3⟩ := hok
      rw [itr_step e2]
      show ∃ e, _ ∧ EX u (match go1 x W set k u s w g with
        | .inl s' => wyS x W set k u ((List.range' (g + 1) m).map (fun g => (w, g))) s'
        | .inr z => .inr z) e
      rw [e1]
      exact C_inner hx hcx hW hset hu hw m (g + 1) n s' t' (by omega) (by omega) o1 ((o3 k hkl).trans hk) e3 e4
    · refine ⟨e, itr_end e2, ?_⟩
      show EX u (match go1 x W set k u s w g with
        | .inl s' => wyS x W set k u ((List.range' (g + 1) m).map (fun g => (w, g))) s'
        | .inr z => .inr z) e
      rw [e1]; exact e3
theorem C_outer (hx : CxOK x) (hcx : CX pe ga hr rl lo bo ru cL lz tk fe cd kd fr to x) (hW : WN wn W) (hset : set < 256) (hu : TW u) : ∀ (m w n : Nat) (s : Sr) (t : T9), w + m = x.1 → m < n → SOK s → s.1[k]? = some u → CS9 t s → CT9 t u → ∃ e, itr (un10 (fb_srch_goOnFrom_15 pe ga hr rl wn lo ru bo cL lz tk kd to fr cd (iN k) (iN set))) n (iN w, t) = some e ∧ EX u (wyS x W set k u ((List.range' w m).flatMap (fun w => (List.range x.2.1).map (fun g => (w, g)))) s) e
  | 0, w, n, s, t, hg, hn, hs, hk, h1, h2 => by
    obtain ⟨n, rfl⟩ : ∃ z, n = z + 1 := ⟨n - 1, by omega⟩
    have hP := hx.1
    have hpe : pe = iN x.1 := hcx.1
    have hlt : (iN w < pe) = False := by rw [hpe, iN_lt (by omega) (by omega)]; exact eq_false (by omega)
    refine ⟨.inr (.inr t), itr_end ?_, t, rfl, h1, h2⟩
    simp only [un10, fb_srch_goOnFrom_15, hlt, ↓reduceIte]
  | m + 1, w, n, s, t, hg, hn, hs, hk, h1, h2 => by
    obtain ⟨n, rfl⟩ : ∃ z, n = z + 1 := ⟨n - 1, by omega⟩
    have hP := hx.1
    have hG := hx.2.1
    have hpe : pe = iN x.1 := hcx.1
    have hlt : (iN w < pe) = True := by rw [hpe, iN_lt (by omega) (by omega)]; exact eq_true (by omega)
    have hkl : k < s.1.length := (List.getElem?_eq_some_iff.mp hk).1
    obtain ⟨e, e1, e2⟩ := C_inner hx hcx hW hset hu (show w < x.1 by omega) x.2.1 0 KF s t (by omega) (kf_lt (by omega)) hs hk h1 h2
    rw [← List.range_eq_range'] at e2
    have hok := wy_ok (W := W) (set := set) (k := k) hx hu ((List.range x.2.1).map (fun g => (w, g))) s (fun q hq => by
      obtain ⟨g, hg, rfl⟩ := List.mem_map.mp hq
      have := List.mem_range.mp hg
      exact ⟨by show w < 8; omega, by show g < 3; omega⟩) hs hkl
    rw [List.range'_succ, List.flatMap_cons, wy_app]
    obtain ⟨size, st, tb, og, nm, sz, hp, v, sk⟩ := t
    cases q : wyS x W set k u ((List.range x.2.1).map (fun g => (w, g))) s with
    | inl s' =>
      rw [q] at e2 hok
      obtain ⟨o1, o2, o3⟩ := hok
      obtain ⟨t', rfl, f1, f2⟩ := e2
      have stp : un10 (fb_srch_goOnFrom_15 pe ga hr rl wn lo ru bo cL lz tk kd to fr cd (iN k) (iN set)) (iN w, size, st, tb, og, nm, sz, hp, v, sk) = some (.inl (iN (w + 1), t')) := by
        simp only [un10, fb_srch_goOnFrom_15, hlt, nlit, e1, Sum.elim_inr, un9, iN_add, Option.bind_some, ↓reduceIte]
      rw [itr_step stp]
      exact C_outer hx hcx hW hset hu m (w + 1) n s' t' (by omega) (by omega) o1 ((o3 k hkl).trans hk) f1 f2
    | inr z =>
      obtain ⟨b, s'⟩ := z
      rw [q] at e2
      cases b with
      | false =>
        obtain ⟨t', rfl⟩ := e2
        refine ⟨.inl t', itr_end ?_, t', rfl⟩
        simp only [un10, fb_srch_goOnFrom_15, hlt, nlit, e1, Sum.elim_inl, un9, Option.bind_some, ↓reduceIte]
      | true =>
        obtain ⟨t', rfl, f1⟩ := e2
        refine ⟨.inr (.inl t'), itr_end ?_, t', rfl, f1⟩
        simp only [un10, fb_srch_goOnFrom_15, hlt, nlit, e1, Sum.elim_inr, Sum.elim_inl, un9, Option.bind_some, ↓reduceIte]
end
