/-! ===== PURE: fewest: one going of the way ===== -/
def nodF (F : Nat → Nat) : Nat → Nat → Nat
  | 0, i => i
  | m + 1, i => nodF F m (F i)
theorem nod_at {F B : Nat → Nat} {n : Nat} (hF : ∀ i, 0 < i → i < n → F i < i) : ∀ (f i j v : Nat), i < n → (pathL F B f i)[j]? = some v → 0 < nodF F j i ∧ nodF F j i < n ∧ B (nodF F j i) = v
  | 0, i, j, v, _, h => by cases h
  | f + 1, i, j, v, hi, h => by
    unfold pathL at h
    by_cases c : i = 0
    · rw [if_pos c] at h; cases h
    · rw [if_neg c] at h
      cases j with
      | zero =>
        rw [List.getElem?_cons_zero] at h
        exact ⟨by show 0 < i; omega, hi, Option.some.inj h⟩
      | succ j =>
        rw [List.getElem?_cons_succ] at h
        have := hF i (by omega) hi
        exact nod_at hF f (F i) j v (by omega) h
section
variable {og cf cb : Nat → Int32} {F B : Nat → Nat} {n : Nat}
theorem C_goLoop (h : OG og cf cb F B n) (hn : n ≤ 3000) {M : Nat} (hM : M < 3000) : ∀ (m k i f z : Nat), k + m = M → m < z → i < n → m < (pathL F B f i).length → itr (un2 (fb_srch_goingOf_37 og (iN M))) z (iN i, iN k) = some (iN (nodF F m i))
  | 0, k, i, f, z, hk, hz, hi, hp => by
    obtain ⟨z, rfl⟩ : ∃ y, z = y + 1 := ⟨z - 1, by omega⟩
    refine itr_end ?_
    simp (disch := omega) only [un2, fb_srch_goingOf_37, iN_lt, ltF, ↓reduceIte]; rfl
  | m + 1, k, i, f, z, hk, hz, hi, hp => by
    obtain ⟨z, rfl⟩ : ∃ y, z = y + 1 := ⟨z - 1, by omega⟩
    cases f with
    | zero => exact absurd hp (Nat.not_lt_zero _)
    | succ f =>
      unfold pathL at hp
      by_cases c : i = 0
      · rw [if_pos c] at hp; exact absurd hp (Nat.not_lt_zero _)
      · rw [if_neg c, List.length_cons] at hp
        obtain ⟨a1, a2, a3, -, -⟩ := h i (by omega) hi
        have e : iN (F i * 100 + B i) / iN 100 = iN (F i) := by
          rw [iN_div (by omega) (by omega)]; congr 1; omega
        have st : un2 (fb_srch_goingOf_37 og (iN M)) (iN i, iN k) = some (.inl (iN (F i), iN (k + 1))) := by
          simp (disch := omega) only [un2, fb_srch_goingOf_37, nlit, a3, e, iN_add, iN_lt, iN_inb, iN_ix, ltT, ↓reduceIte]
        rw [itr_step st]
        exact C_goLoop h hn hM m (k + 1) (F i) f z (by omega) (by omega) (by omega) (by omega)
end
