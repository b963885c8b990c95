/-! ===== PURE: fewest: a state more, as the class adds it ===== -/
def ST (st : Nat → Int64) (L : List Nat) : Prop := ∀ i S, L[i]? = some S → st i = jN S ∧ S < 9000000000000000000
theorem get_snoc {L : List Nat} {S i T : Nat} (h : (L ++ [S])[i]? = some T) : L[i]? = some T ∨ (i = L.length ∧ T = S) := by
  by_cases c : i < L.length
  · rw [List.getElem?_append_left c] at h; exact Or.inl h
  · rw [List.getElem?_append_right (by omega)] at h
    by_cases e : i = L.length
    · subst e
      rw [Nat.sub_self] at h
      exact Or.inr ⟨rfl, (Option.some.inj h).symm⟩
    · have : ([S] : List Nat)[i - L.length]? = none := List.getElem?_eq_none_iff.mpr (by show 1 ≤ _; omega)
      rw [this] at h; cases h
theorem ST.snoc {st : Nat → Int64} {L : List Nat} {S : Nat} (h : ST st L) (hS : S < 9000000000000000000) : ST (vp_updL st L.length (jN S)) (L ++ [S]) := by
  intro i T hi
  rcases get_snoc hi with q | ⟨q1, q2⟩
  · have : i < L.length := (List.getElem?_eq_some_iff.mp q).1
    rw [updL_ne (by omega)]; exact h i T q
  · rw [q1, q2, updL_same]; exact ⟨rfl, hS⟩
theorem HT.snoc {tb : Nat → Int32} {L : List Nat} {S j : Nat} (h : HT tb L) (hL : L.length < 3000) (hj : j < 4096) (h0 : tb ((hsS S + j) % 4096) = iN 0) (hp : ∀ j', j' < j → tb ((hsS S + j') % 4096) ≠ iN 0) : HT (upd tb ((hsS S + j) % 4096) (iN (L.length + 1))) (L ++ [S]) := by
  have hq : (hsS S + j) % 4096 < 4096 := Nat.mod_lt _ (by decide)
  have hlen : (L ++ [S]).length = L.length + 1 := by rw [List.length_append]; rfl
  have hne : iN (L.length + 1) ≠ iN 0 := by
    intro w
    have q4 : (iN (L.length + 1) = iN 0) = (L.length + 1 = 0) := iN_eq (by omega) (by omega)
    rw [q4] at w; omega
  generalize hsl : (hsS S + j) % 4096 = sl at *
  have hnew : ∀ p, p < 4096 → tb p ≠ iN (L.length + 1) := by
    intro p hp' w
    rcases h.1 p hp' with z | ⟨i, hi, z⟩
    · rw [z] at w; exact hne w.symm
    · rw [z] at w
      have q4 : (iN (i + 1) = iN (L.length + 1)) = (i + 1 = L.length + 1) := iN_eq (by omega) (by omega)
      rw [q4] at w; omega
  have hnz : ∀ p, tb p ≠ iN 0 → upd tb sl (iN (L.length + 1)) p ≠ iN 0 := by
    intro p hp'
    by_cases e : p = sl
    · rw [upd_eq e]; exact hne
    · rw [upd_ne e]; exact hp'
  refine ⟨fun p hp' => ?_, fun i T hi => ?_, fun p q hp' hq' e hn => ?_⟩
  · by_cases e : p = sl
    · rw [upd_eq e]; exact Or.inr ⟨L.length, by omega, rfl⟩
    · rw [upd_ne e]
      rcases h.1 p hp' with z | ⟨i, hi, z⟩
      · exact Or.inl z
      · exact Or.inr ⟨i, by omega, z⟩
  · rcases get_snoc hi with q | ⟨q1, q2⟩
    · obtain ⟨j0, w1, w2, w3⟩ := h.2.1 i T q
      refine ⟨j0, w1, ?_, fun j' hj' => hnz _ (w3 j' hj')⟩
      have hil : i < L.length := (List.getElem?_eq_some_iff.mp q).1
      rw [upd_ne (fun e => by
        rw [e, h0] at w2
        have q4 : (iN 0 = iN (i + 1)) = (0 = i + 1) := iN_eq (by omega) (by omega)
        rw [q4] at w2; omega)]
      exact w2
    · subst q2
      refine ⟨j, hj, by rw [hsl, upd_same, q1], fun j' hj' => hnz _ (hp j' hj')⟩
  · by_cases e1 : p = sl
    · by_cases e2 : q = sl
      · rw [e1, e2]
      · rw [upd_eq e1, upd_ne e2] at e
        exact absurd e.symm (hnew q hq')
    · by_cases e2 : q = sl
      · rw [upd_ne e1, upd_eq e2] at e
        exact absurd e (hnew p hp')
      · rw [upd_ne e1, upd_ne e2] at e
        rw [upd_ne e1] at hn
        exact h.2.2 p q hp' hq' e hn
section
variable {tb og : Nat → Int32} {st : Nat → Int64} {L : List Nat} {S : Nat} {o : Int32}
theorem C_addOld (h : HT tb L) (hL : L.length ≤ 3000) (hst : ST st L) (hS : S < 9000000000000000000) (hin : S ∈ L) : f_srch_add (iN L.length) tb st og (jN S) o = some (iN 0, iN L.length, tb, st, og) := by
  obtain ⟨j, hj, e, -, w⟩ := C_slot h hL hst hS
  have hp : (hsS S + j) % 4096 < 4096 := Nat.mod_lt _ (by decide)
  rcases w with ⟨-, w⟩ | ⟨w, -⟩
  · have hi : inb (iN ((hsS S + j) % 4096)) 4096 = True := by rw [iN_inb (by omega)]; exact eq_true hp
    have hx : ix (iN ((hsS S + j) % 4096)) = (hsS S + j) % 4096 := iN_ix (by omega)
    have w' : (tb ((hsS S + j) % 4096) = 0) = False := eq_false w
    simp only [f_srch_add, e, hi, hx, w', Option.bind_some, ↓reduceIte]; rfl
  · exact absurd hin w
theorem C_addNew (h : HT tb L) (hL : L.length < 3000) (hst : ST st L) (hS : S < 9000000000000000000) (hin : S ∉ L) : ∃ tb' st', f_srch_add (iN L.length) tb st og (jN S) o = some (iN 1, iN (L.length + 1), tb', st', upd og L.length o) ∧ HT tb' (L ++ [S]) ∧ ST st' (L ++ [S]) := by
  obtain ⟨j, hj, e, hp, w⟩ := C_slot h (by omega) hst hS
  rcases w with ⟨w, -⟩ | ⟨-, w⟩
  · exact absurd w hin
  · refine ⟨_, _, ?_, h.snoc hL hj w hp, hst.snoc hS⟩
    have hlt : (hsS S + j) % 4096 < 4096 := Nat.mod_lt _ (by decide)
    have hi : inb (iN ((hsS S + j) % 4096)) 4096 = True := by rw [iN_inb (by omega)]; exact eq_true hlt
    have hx : ix (iN ((hsS S + j) % 4096)) = (hsS S + j) % 4096 := iN_ix (by omega)
    have w' : (tb ((hsS S + j) % 4096) = 0) = True := eq_true w
    have hl : (iN L.length < 3000) = True := by
      show (iN L.length < iN 3000) = True
      rw [iN_lt (by omega) (by omega)]; exact eq_true hL
    have hi2 : inb (iN L.length) 3000 = True := by rw [iN_inb (by omega)]; exact eq_true hL
    have hx2 : ix (iN L.length) = L.length := iN_ix (by omega)
    have h1 : iN L.length + 1 = iN (L.length + 1) := iN_add (a := L.length) (b := 1)
    simp only [f_srch_add, e, hi, hx, w', hl, hi2, hx2, h1, bnd, Option.bind_some, ↓reduceIte]; rfl
theorem C_addFull (h : HT tb L) (hL : L.length = 3000) (hst : ST st L) (hS : S < 9000000000000000000) (hin : S ∉ L) : f_srch_add (iN L.length) tb st og (jN S) o = some (iN 1, iN 3001, tb, st, og) := by
  obtain ⟨j, hj, e, hp, w⟩ := C_slot h (by omega) hst hS
  rcases w with ⟨w, -⟩ | ⟨-, w⟩
  · exact absurd w hin
  · have hlt : (hsS S + j) % 4096 < 4096 := Nat.mod_lt _ (by decide)
    have hi : inb (iN ((hsS S + j) % 4096)) 4096 = True := by rw [iN_inb (by omega)]; exact eq_true hlt
    have hx : ix (iN ((hsS S + j) % 4096)) = (hsS S + j) % 4096 := iN_ix (by omega)
    have w' : (tb ((hsS S + j) % 4096) = 0) = True := eq_true w
    have hl : (iN L.length < 3000) = False := by
      show (iN L.length < iN 3000) = False
      rw [iN_lt (by omega) (by omega)]; exact eq_false (by omega)
    have h1 : iN L.length + 1 = iN 3001 := by rw [hL]; exact iN_add (a := 3000) (b := 1)
    simp only [f_srch_add, fj_srch_add_62, e, hi, hx, w', hl, h1, Option.bind_some, ↓reduceIte]; rfl
end
