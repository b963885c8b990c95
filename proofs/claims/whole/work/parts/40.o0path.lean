/-! ===== PURE: fewest: the way back ===== -/
/-- each state but the first came from an earlier one -/
def OG (og cf cb : Nat → Int32) (F B : Nat → Nat) (n : Nat) : Prop := ∀ i, 0 < i → i < n → F i < i ∧ B i < 100 ∧ og i = iN (F i * 100 + B i) ∧ cf i = iN (F i) ∧ cb i = iN (B i)
def pathL (F B : Nat → Nat) : Nat → Nat → List Nat
  | 0, _ => []
  | f + 1, i => if i = 0 then [] else B i :: pathL F B f (F i)
theorem pathL_len {F B : Nat → Nat} : ∀ (f i : Nat), (pathL F B f i).length ≤ f
  | 0, _ => Nat.le_refl _
  | f + 1, i => by
    unfold pathL
    by_cases c : i = 0
    · rw [if_pos c]; exact Nat.zero_le _
    · rw [if_neg c, List.length_cons]; have := pathL_len (F := F) (B := B) f (F i); omega
section
variable {og cf cb : Nat → Int32} {F B : Nat → Nat} {n : Nat}
theorem C_lenLoop (h : OG og cf cb F B n) (hn : n ≤ 3000) : ∀ (f i l z : Nat), i ≤ f → i < n → l + f < 3000 → f < z → itr (un2 (fb_srch_lengthOf_4 og)) z (iN l, iN i) = some (iN (l + (pathL F B f i).length))
  | 0, i, l, z, hi, hin, hl, hz => by
    obtain ⟨z, rfl⟩ : ∃ y, z = y + 1 := ⟨z - 1, by omega⟩
    have : i = 0 := by omega
    subst this
    refine itr_end ?_
    simp (disch := omega) only [un2, fb_srch_lengthOf_4, nlit, iN_lt, ltF, ↓reduceIte]; rfl
  | f + 1, i, l, z, hi, hin, hl, hz => by
    obtain ⟨z, rfl⟩ : ∃ y, z = y + 1 := ⟨z - 1, by omega⟩
    unfold pathL
    by_cases c : i = 0
    · subst c
      rw [if_pos rfl]
      refine itr_end ?_
      simp (disch := omega) only [un2, fb_srch_lengthOf_4, nlit, iN_lt, ltF, ↓reduceIte]; rfl
    · obtain ⟨a1, a2, a3, -, -⟩ := h i (by omega) hin
      rw [if_neg c, List.length_cons]
      have e : iN (F i * 100 + B i) / iN 100 = iN (F i) := by
        rw [iN_div (by omega) (by omega)]; congr 1; omega
      have st : un2 (fb_srch_lengthOf_4 og) (iN l, iN i) = some (.inl (iN (l + 1), iN (F i))) := by
        simp (disch := omega) only [un2, fb_srch_lengthOf_4, nlit, a3, e, iN_add, iN_lt, iN_inb, iN_ix, ltT, ↓reduceIte]
      rw [itr_step st, C_lenLoop h hn f (F i) (l + 1) z (by omega) (by omega) (by omega) (by omega)]
      congr 2; omega
theorem C_length (h : OG og cf cb F B n) (hn : n ≤ 3000) {i : Nat} (hi : i < n) : f_srch_lengthOf og (iN i) = some (iN (pathL F B i i).length) := by
  have e := C_lenLoop h hn i i 0 KF (Nat.le_refl _) hi (by omega) (kf_lt (by omega))
  rw [Nat.zero_add] at e
  simp only [f_srch_lengthOf, nlit, e, Option.bind_some]
theorem M_pathLoop (h : OG og cf cb F B n) (hn : n ≤ 3001) : ∀ (f i l z : Nat) (pt : Nat → Int32), i ≤ f → i < n → l + f ≤ 3000 → f < z → ∃ pt', itr (un3 (fb_m_fewest_93 cf cb)) z (iN l, iN i, pt) = some (iN (l + (pathL F B f i).length), pt') ∧ (∀ j, j < l → pt' j = pt j) ∧ ∀ j v, (pathL F B f i)[j]? = some v → pt' (l + j) = iN v
  | 0, i, l, z, pt, hi, hin, hl, hz => by
    obtain ⟨z, rfl⟩ : ∃ y, z = y + 1 := ⟨z - 1, by omega⟩
    have : i = 0 := by omega
    subst this
    refine ⟨pt, itr_end ?_, fun _ _ => rfl, fun j v hv => by cases hv⟩
    simp (disch := omega) only [un3, fb_m_fewest_93, nlit, iN_lt, ltF, ↓reduceIte]; rfl
  | f + 1, i, l, z, pt, hi, hin, hl, hz => by
    obtain ⟨z, rfl⟩ : ∃ y, z = y + 1 := ⟨z - 1, by omega⟩
    unfold pathL
    by_cases c : i = 0
    · subst c
      rw [if_pos rfl]
      refine ⟨pt, itr_end ?_, fun _ _ => rfl, fun j v hv => by cases hv⟩
      simp (disch := omega) only [un3, fb_m_fewest_93, nlit, iN_lt, ltF, ↓reduceIte]; rfl
    · obtain ⟨a1, a2, -, a4, a5⟩ := h i (by omega) hin
      rw [if_neg c, List.length_cons]
      have st : un3 (fb_m_fewest_93 cf cb) (iN l, iN i, pt) = some (.inl (iN (l + 1), iN (F i), upd pt l (iN (B i)))) := by
        simp (disch := omega) only [un3, fb_m_fewest_93, nlit, bnd, a4, a5, iN_add, iN_lt, iN_inb, iN_ix, ltT, ↓reduceIte]
      obtain ⟨pt', w1, w2, w3⟩ := M_pathLoop h hn f (F i) (l + 1) z (upd pt l (iN (B i))) (by omega) (by omega) (by omega) (by omega)
      refine ⟨pt', ?_, fun j hj => by rw [w2 j (by omega), upd_ne (by omega)], fun j v hv => ?_⟩
      · rw [itr_step st, w1]; congr 3; omega
      · cases j with
        | zero =>
          rw [List.getElem?_cons_zero] at hv
          rw [Nat.add_zero, w2 l (by omega), upd_same, Option.some.inj hv]
        | succ j =>
          rw [List.getElem?_cons_succ] at hv
          rw [show l + (j + 1) = l + 1 + j by omega]; exact w3 j v hv
end
