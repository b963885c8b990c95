/-! ===== PURE: fewest: the reference's chains ===== -/
def t00 : Tn := (fun _ => none, fun _ => [])
noncomputable def qS (LT : List Tn) (i : Nat) : Nat := smS (LT.getD i t00)
def prv (q : Nat → Nat) (h : Nat) : Nat → Option Nat
  | 0 => none
  | n + 1 => if q n = h then some n else prv q h n
theorem prv_lt {q : Nat → Nat} {h : Nat} : ∀ {n i : Nat}, prv q h n = some i → i < n ∧ q i = h
  | 0, i, e => by cases e
  | n + 1, i, e => by
    unfold prv at e
    by_cases c : q n = h
    · rw [if_pos c] at e; cases e; exact ⟨by omega, c⟩
    · rw [if_neg c] at e; have := prv_lt e; exact ⟨by omega, this.2⟩
theorem prv_cg {q q' : Nat → Nat} {h : Nat} : ∀ n, (∀ i, i < n → q i = q' i) → prv q h n = prv q' h n
  | 0, _ => rfl
  | n + 1, e => by
    unfold prv
    rw [e n (by omega), prv_cg n (fun i hi => e i (by omega))]
theorem qS_app {LT : List Tn} {t : Tn} {i : Nat} (hi : i < LT.length) : qS (LT ++ [t]) i = qS LT i := by
  unfold qS
  rw [List.getD_eq_getElem?_getD, List.getD_eq_getElem?_getD, List.getElem?_append_left hi]
theorem qS_new {LT : List Tn} {t : Tn} : qS (LT ++ [t]) LT.length = smS t := by
  unfold qS
  rw [List.getD_eq_getElem?_getD, List.getElem?_append_right (Nat.le_refl _), Nat.sub_self]; rfl
theorem qS_at {LT : List Tn} {t : Tn} {i : Nat} (h : LT[i]? = some t) : qS LT i = smS t := by
  unfold qS
  rw [List.getD_eq_getElem?_getD, h]; rfl
def SR (states : Nat → Int32) (LT : List Tn) : Prop := ∀ i t, LT[i]? = some t → MT states (35 * i) t ∧ TW t
def CH (chain chains : Nat → Int32) (LT : List Tn) : Prop := (∀ h, h < 4096 → chains h = enO (prv (qS LT) h LT.length)) ∧ ∀ i, i < LT.length → chain i = enO (prv (qS LT) (qS LT i) i)
section
variable {d states chain chains : Nat → Int32} {b : Nat} {t : Tn} {LT : List Tn}
theorem M_knownLoop (hd : MT d b t) (hb : b ≤ 525) (ht : TW t) (hs : SR states LT) (hc : CH chain chains LT) (hL : LT.length ≤ 3000) : ∀ (n f : Nat), n ≤ LT.length → n < f → (itr (fb_m_isKnown_7 (iN b) d states chain) f (enO (prv (qS LT) (smS t) n)) = some (.inl ()) ∧ ∃ i, i < n ∧ LT[i]? = some t) ∨ (itr (fb_m_isKnown_7 (iN b) d states chain) f (enO (prv (qS LT) (smS t) n)) = some (.inr ()) ∧ ∀ i, i < n → LT[i]? ≠ some t)
  | 0, f, hn, hf => by
    obtain ⟨f, rfl⟩ : ∃ z, f = z + 1 := ⟨f - 1, by omega⟩
    refine Or.inr ⟨itr_end ?_, fun i hi => absurd hi (Nat.not_lt_zero _)⟩
    show fb_m_isKnown_7 (iN b) d states chain mI = _
    simp only [fb_m_isKnown_7, nlit, mI_neg, ↓reduceIte]
  | n + 1, f, hn, hf => by
    obtain ⟨f, rfl⟩ : ∃ z, f = z + 1 := ⟨f - 1, by omega⟩
    have hlt : n < LT.length := by omega
    have hLn : LT[n]? = some LT[n] := List.getElem?_eq_getElem hlt
    unfold prv
    by_cases c : qS LT n = smS t
    · rw [if_pos c, enO_some]
      obtain ⟨s1, s2⟩ := hs n _ hLn
      have h0 : (iN n < iN 0) = False := iN_nneg (by omega)
      rcases M_isState hd hb ht s1 s2 (by omega) with ⟨e1, e2⟩ | ⟨e1, e2⟩
      · refine Or.inl ⟨itr_end ?_, n, by omega, by rw [hLn, e2]⟩
        have e10 : (iN 1 = iN 0) = False := eq_false (by decide)
        simp only [fb_m_isKnown_7, nlit, h0, e1, e10, Option.bind_some, ↓reduceIte]
      · have st : fb_m_isKnown_7 (iN b) d states chain (iN n) = some (.inl (enO (prv (qS LT) (smS t) n))) := by
          have hcn := hc.2 n hlt
          rw [c] at hcn
          simp (disch := omega) only [fb_m_isKnown_7, nlit, h0, e1, iN_inb, iN_ix, ltT, hcn, Option.bind_some, ↓reduceIte]
        rw [itr_step st]
        rcases M_knownLoop hd hb ht hs hc hL n f (by omega) (by omega) with ⟨w1, i, w2, w3⟩ | ⟨w1, w2⟩
        · exact Or.inl ⟨w1, i, by omega, w3⟩
        · refine Or.inr ⟨w1, fun i hi => ?_⟩
          by_cases e : i = n
          · rw [e, hLn]; exact fun z => e2 (Option.some.inj z)
          · exact w2 i (by omega)
    · rw [if_neg c]
      rcases M_knownLoop hd hb ht hs hc hL n (f + 1) (by omega) (by omega) with ⟨w1, i, w2, w3⟩ | ⟨w1, w2⟩
      · exact Or.inl ⟨w1, i, by omega, w3⟩
      · refine Or.inr ⟨w1, fun i hi => ?_⟩
        by_cases e : i = n
        · rw [e]; exact fun z => c (qS_at z)
        · exact w2 i (by omega)
theorem M_isKnown (hd : MT d b t) (hb : b ≤ 525) (ht : TW t) (hs : SR states LT) (hc : CH chain chains LT) (hL : LT.length ≤ 3000) : (f_m_isKnown (iN b) d states chain chains (iN (smS t)) = some (iN 1) ∧ t ∈ LT) ∨ (f_m_isKnown (iN b) d states chain chains (iN (smS t)) = some (iN 0) ∧ t ∉ LT) := by
  have hh := smS_lt t
  have hi : inb (iN (smS t)) 4096 = True := by rw [iN_inb (by omega)]; exact eq_true hh
  have hx : ix (iN (smS t)) = smS t := iN_ix (by omega)
  have h1 := hc.1 (smS t) hh
  rcases M_knownLoop hd hb ht hs hc hL LT.length KF (Nat.le_refl _) (kf_lt (by omega)) with ⟨w1, i, w2, w3⟩ | ⟨w1, w2⟩
  · refine Or.inl ⟨?_, List.mem_of_getElem? w3⟩
    simp only [f_m_isKnown, hi, hx, h1, w1, nlit, Sum.elim_inl, Option.bind_some, ↓reduceIte]
  · refine Or.inr ⟨?_, fun hm => ?_⟩
    · simp only [f_m_isKnown, hi, hx, h1, w1, nlit, Sum.elim_inr, Option.bind_some, ↓reduceIte]
    · obtain ⟨i, hi'⟩ := List.getElem?_of_mem hm
      exact w2 i (List.getElem?_eq_some_iff.mp hi').1 hi'
end
