/-! ===== PURE: fewest: what is wanted ===== -/
/-- what is wanted, as the class has it: a name or nothing for each -/
def WN (wn : Nat → Int32) (W : Nat → Option Nat) : Prop := ∀ k, k < 8 → wn k = enO (W k) ∧ ∀ m, W k = some m → m < 8
def asW (W : Nat → Option Nat) (t : Tn) : Bool := (List.range 8).all (fun k => match W k with
  | none => true
  | some m => decide (t.1 k = some m))
theorem asW_iff {W : Nat → Option Nat} {t : Tn} : asW W t = true ↔ ∀ k, k < 8 → ∀ m, W k = some m → t.1 k = some m := by
  unfold asW
  rw [List.all_eq_true]
  constructor
  · intro h k hk m hm
    have := h k (List.mem_range.mpr hk)
    rw [hm] at this
    exact of_decide_eq_true this
  · intro h k hk
    cases q : W k with
    | none => rfl
    | some m => exact decide_eq_true (h k (List.mem_range.mp hk) m q)
theorem C_asWanted {wn nm sz : Nat → Int32} {hp : Nat → Nat → Int32} {W : Nat → Option Nat} {t : Tn} (hw : WN wn W) (hd : CT nm sz hp t) (ht : TW t) : f_srch_isAsWanted wn nm = some (b01 (asW W t)) := by
  have key : ∀ m k n, k + m = 8 → m < n → (∀ j, j < k → ∀ m, W j = some m → t.1 j = some m) → (itr (fb_srch_isAsWanted_2 wn nm) n (iN k) = some (.inr ()) ∧ asW W t = true) ∨ (itr (fb_srch_isAsWanted_2 wn nm) n (iN k) = some (.inl ()) ∧ asW W t = false) := by
    intro m
    induction m with
    | zero =>
      intro k n hk hn h
      obtain ⟨n, rfl⟩ : ∃ z, n = z + 1 := ⟨n - 1, by omega⟩
      refine Or.inl ⟨itr_end ?_, asW_iff.mpr (fun j hj => h j (by omega))⟩
      simp (disch := omega) only [fb_srch_isAsWanted_2, nlit, iN_lt, ltF, ↓reduceIte]
    | succ m ih =>
      intro k n hk hn h
      obtain ⟨n, rfl⟩ : ∃ z, n = z + 1 := ⟨n - 1, by omega⟩
      obtain ⟨w1, w2⟩ := hw k (by omega)
      have hN := hd.nameOf (show k < 8 by omega)
      cases q : W k with
      | none =>
        rw [q, enO_none] at w1
        have st : fb_srch_isAsWanted_2 wn nm (iN k) = some (.inl (iN (k + 1))) := by
          simp (disch := omega) only [fb_srch_isAsWanted_2, nlit, negone, w1, iN_add, iN_lt, iN_inb, iN_ix, ltT, ↓reduceIte]
        rw [itr_step st]
        refine ih (k + 1) n (by omega) (by omega) (fun j hj z hz => ?_)
        by_cases c : j = k
        · rw [c, q] at hz; cases hz
        · exact h j (by omega) z hz
      | some v =>
        have hv := w2 v q
        rw [q, enO_some] at w1
        have hE := enO_inj (o := t.1 k) (q := some v) (fun m hm => (ht.1 k m hm).2) (fun m hm => by cases hm; exact hv)
        by_cases e : t.1 k = some v
        · have hE' : (enO (t.1 k) = iN v) = True := hE.trans (eq_true e)
          have st : fb_srch_isAsWanted_2 wn nm (iN k) = some (.inl (iN (k + 1))) := by
            simp (disch := omega) only [fb_srch_isAsWanted_2, nlit, negone, w1, hN, hE', iN_nm, iN_add, iN_lt, iN_inb, iN_ix, ltT, Option.bind_some, ↓reduceIte]
          rw [itr_step st]
          refine ih (k + 1) n (by omega) (by omega) (fun j hj z hz => ?_)
          by_cases c : j = k
          · rw [c, q] at hz; cases hz; rw [c]; exact e
          · exact h j (by omega) z hz
        · have hE' : (enO (t.1 k) = iN v) = False := hE.trans (eq_false e)
          refine Or.inr ⟨itr_end ?_, ?_⟩
          · simp (disch := omega) only [fb_srch_isAsWanted_2, nlit, negone, w1, hN, hE', iN_nm, iN_add, iN_lt, iN_inb, iN_ix, ltT, Option.bind_some, ↓reduceIte]
          · cases z : asW W t with
            | false => rfl
            | true => exact absurd (asW_iff.mp z k (by omega) v q) e
  rcases key 8 0 KF (by omega) (kf_lt (by omega)) (fun j hj => absurd hj (Nat.not_lt_zero _)) with ⟨w1, w2⟩ | ⟨w1, w2⟩
  · rw [w2]; simp only [f_srch_isAsWanted, nlit, w1, Sum.elim_inr, Option.bind_some]; rfl
  · rw [w2]; simp only [f_srch_isAsWanted, nlit, w1, Sum.elim_inl, Option.bind_some]; rfl
