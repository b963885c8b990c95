/-! ===== PURE: left: the reference's orders ===== -/
def OR (o : Nat → Int32) (l : List Nat) : Prop := ∀ k, k < l.length → o k = iN (l.getD k 0)
theorem iN_dn {k : Nat} (hk : k < 1000) : iN k + mI = dnI k := by
  unfold dnI
  by_cases h : k = 0
  · subst h; rfl
  · rw [if_neg h, iN_pm (by omega)]
theorem fnd1_no {l : List Nat} : ∀ {k i : Nat}, fnd1 l k = some i → ¬ l.getD (i + 1) 0 < l.getD i 0
  | 0, i, h => by cases h
  | k + 1, i, h => by
    unfold fnd1 at h
    by_cases q : l.getD (k + 1) 0 < l.getD k 0
    · rw [if_pos q] at h; exact fnd1_no h
    · rw [if_neg q] at h; cases h; exact q
theorem fnd2_ge {l : List Nat} {i : Nat} (hi : ¬ l.getD (i + 1) 0 < l.getD i 0) : ∀ k, i + 1 ≤ k → i + 1 ≤ fnd2 l (l.getD i 0) k
  | 0, h => absurd h (by omega)
  | k + 1, h => by
    unfold fnd2
    by_cases q : l.getD (k + 1) 0 < l.getD i 0
    · rw [if_pos q]
      have : k ≠ i := fun e => hi (e ▸ q)
      exact fnd2_ge hi k (by omega)
    · rw [if_neg q]; exact h
section
variable {o : Nat → Int32} {l : List Nat}
theorem M_nx1 (h : OR o l) (h6 : l.length ≤ 6) (h8 : ∀ a ∈ l, a < 8) : ∀ (k m : Nat), k < l.length → k < m → itr (fb_m_nextOrder_4 o) m (dnI k) = some (enO (fnd1 l k))
  | 0, m, hk, hm => by
    obtain ⟨m, rfl⟩ : ∃ z, m = z + 1 := ⟨m - 1, by omega⟩
    refine itr_end ?_
    show fb_m_nextOrder_4 o mI = _
    simp only [fb_m_nextOrder_4, nlit, mI_neg, ↓reduceIte]; rfl
  | k + 1, m, hk, hm => by
    obtain ⟨m, rfl⟩ : ∃ z, m = z + 1 := ⟨m - 1, by omega⟩
    have a1 := h (k + 1) hk
    have a0 := h k (by omega)
    have b1 := h8 _ (getD_in hk)
    have b0 := h8 _ (getD_in (show k < l.length by omega))
    rw [dnI_S]
    unfold fnd1
    by_cases q : l.getD (k + 1) 0 < l.getD k 0
    · rw [if_pos q]
      have st : fb_m_nextOrder_4 o (iN k) = some (.inl (dnI k)) := by
        simp (disch := omega) only [fb_m_nextOrder_4, a1, a0, iN_dn, nlit, negone, iN_add, iN_ix, iN_inb, iN_lt, iN_nneg, ltT, ltF, ↓reduceIte]
      rw [itr_step st]
      exact M_nx1 h h6 h8 k m (by omega) (by omega)
    · rw [if_neg q]
      refine itr_end ?_
      simp (disch := omega) only [fb_m_nextOrder_4, a1, a0, nlit, negone, iN_add, iN_ix, iN_inb, iN_lt, iN_nneg, ltT, ltF, ↓reduceIte]; rfl
theorem M_nx2 (h : OR o l) (h6 : l.length ≤ 6) (h8 : ∀ a ∈ l, a < 8) {i : Nat} (hi : ¬ l.getD (i + 1) 0 < l.getD i 0) : ∀ (k m : Nat), i + 1 ≤ k → k < l.length → k < m → itr (fb_m_nextOrder_41 o (iN i)) m (iN k) = some (iN (fnd2 l (l.getD i 0) k))
  | 0, m, hik, hk, hm => absurd hik (by omega)
  | k + 1, m, hik, hk, hm => by
    obtain ⟨m, rfl⟩ : ∃ z, m = z + 1 := ⟨m - 1, by omega⟩
    have a1 := h (k + 1) hk
    have a0 := h i (by omega)
    have b1 := h8 _ (getD_in hk)
    have b0 := h8 _ (getD_in (show i < l.length by omega))
    unfold fnd2
    by_cases q : l.getD (k + 1) 0 < l.getD i 0
    · rw [if_pos q]
      have : k ≠ i := fun e => hi (e ▸ q)
      have e : iN (k + 1) + mI = iN k := by rw [iN_pm (by omega), Nat.add_sub_cancel]
      have st : fb_m_nextOrder_41 o (iN i) (iN (k + 1)) = some (.inl (iN k)) := by
        simp (disch := omega) only [fb_m_nextOrder_41, a1, a0, e, nlit, negone, iN_ix, iN_inb, iN_lt, ltT, ltF, ↓reduceIte]
      rw [itr_step st]
      exact M_nx2 h h6 h8 hi k m (by omega) (by omega) (by omega)
    · rw [if_neg q]
      refine itr_end ?_
      simp (disch := omega) only [fb_m_nextOrder_41, a1, a0, nlit, iN_ix, iN_inb, iN_lt, ltT, ltF, ↓reduceIte]
theorem M_nx3 {s : Nat → Int32} {n i : Nat} (hn : n ≤ 6) : ∀ (m lo hi : Nat) (o : Nat → Int32), lo + hi = n + i → i < lo → hi < n → hi < m + lo → lo ≤ hi + 1 → (∀ k, k < n → o k = if (i < k ∧ k < lo) ∨ hi < k then s (n + i - k) else s k) → ∀ z, m < z → ∃ o', itr (un3 fb_m_nextOrder_100) z (iN lo, iN hi, o) = some o' ∧ ∀ k, k < n → o' k = if i < k then s (n + i - k) else s k
  | m, lo, hi, o, h1, h2, h3, h4, h5, h, z, hz => by
    obtain ⟨z, rfl⟩ : ∃ y, z = y + 1 := ⟨z - 1, by omega⟩
    by_cases q : lo < hi
    · obtain ⟨m, rfl⟩ : ∃ y, m = y + 1 := ⟨m - 1, by omega⟩
      have e : iN hi + mI = iN (hi - 1) := iN_pm (by omega)
      have st : un3 fb_m_nextOrder_100 (iN lo, iN hi, o) = some (.inl (iN (lo + 1), iN (hi - 1), upd (upd o lo (o hi)) hi (o lo))) := by
        simp (disch := omega) only [un3, fb_m_nextOrder_100, e, nlit, negone, bnd, iN_add, iN_ix, iN_inb, iN_lt, ltT, ↓reduceIte]
      rw [itr_step st]
      refine M_nx3 hn m (lo + 1) (hi - 1) _ (by omega) (by omega) (by omega) (by omega) (by omega) (fun k hk => ?_) z (by omega)
      have hlo := h lo (by omega)
      have hhi := h hi (by omega)
      rw [if_neg (by omega)] at hlo hhi
      by_cases k1 : k = hi
      · subst k1
        rw [upd_same, if_pos (by omega), hlo]; congr 1; omega
      · rw [upd_ne k1]
        by_cases k2 : k = lo
        · subst k2
          rw [upd_same, if_pos (by omega), hhi]; congr 1; omega
        · rw [upd_ne k2, h k hk]
          by_cases c : (i < k ∧ k < lo) ∨ hi < k
          · rw [if_pos c, if_pos (by omega)]
          · rw [if_neg c, if_neg (by omega)]
    · refine ⟨o, itr_end ?_, fun k hk => ?_⟩
      · simp (disch := omega) only [un3, fb_m_nextOrder_100, iN_lt, ltF, ↓reduceIte]
      · rw [h k hk]
        by_cases c : (i < k ∧ k < lo) ∨ hi < k
        · rw [if_pos c, if_pos (by omega)]
        · rw [if_neg c]
          by_cases c2 : i < k
          · rw [if_pos c2]; congr 1; omega
          · rw [if_neg c2]
theorem M_next (h : OR o l) (h6 : l.length ≤ 6) (h8 : ∀ a ∈ l, a < 8) : ∃ o', f_m_nextOrder o (iN l.length) = some (b01 (nxtL l.length l).isSome, o') ∧ ∀ l', nxtL l.length l = some l' → OR o' l' := by
  by_cases n0 : l.length = 0
  · rw [n0]
    refine ⟨o, ?_, fun l' hl => by cases hl⟩
    have c : ((iN 0 - iN 2 : Int32) < 0) = True := eq_true (by decide)
    have e : itr (fb_m_nextOrder_4 o) KF (iN 0 - iN 2) = some (iN 0 - iN 2) := by
      obtain ⟨z, hz⟩ := kf5
      rw [hz]
      refine itr_end ?_
      simp only [fb_m_nextOrder_4, c, ↓reduceIte]
    show (itr (fb_m_nextOrder_4 o) KF (iN 0 - iN 2)).bind _ = _
    rw [e, Option.bind_some]
    simp only [fj_m_nextOrder_31, c, ↓reduceIte]; rfl
  · have e2 : iN l.length - iN 2 = dnI (l.length - 1) := by
      unfold dnI
      by_cases q : l.length - 1 = 0
      · have : l.length = 1 := by omega
        rw [this]; rfl
      · rw [if_neg q, iN_sub (by omega)]; congr 1
    have e1 := M_nx1 h h6 h8 (l.length - 1) KF (by omega) (kf_lt (by omega))
    have e0 : f_m_nextOrder o (iN l.length) = fj_m_nextOrder_31 o (iN l.length) (enO (fnd1 l (l.length - 1))) := by
      show (itr (fb_m_nextOrder_4 o) KF (iN l.length - iN 2)).bind _ = _
      rw [e2, e1, Option.bind_some]
    rw [e0]
    cases q : fnd1 l (l.length - 1) with
    | none =>
      have hx : nxtL l.length l = none := by unfold nxtL; rw [q]
      rw [hx]
      refine ⟨o, ?_, fun l' hl => by cases hl⟩
      simp only [fj_m_nextOrder_31, nlit, enO_none, mI_neg, ↓reduceIte]; rfl
    | some i =>
      have hi := fnd1_lt q
      have hno := fnd1_no q
      have hx : nxtL l.length l = some ((List.range l.length).map (fun k => l.getD (plc l.length i (fnd2 l (l.getD i 0) (l.length - 1)) k) 0)) := by unfold nxtL; rw [q]
      have hj := fnd2_le (l := l) (v := l.getD i 0) (l.length - 1)
      have hj2 := fnd2_ge hno (l.length - 1) (by omega)
      have g2 := M_nx2 h h6 h8 hno (l.length - 1) KF (by omega) (by omega) (kf_lt (by omega))
      rw [hx]
      generalize fnd2 l (l.getD i 0) (l.length - 1) = j at *
      obtain ⟨o', g3, g4⟩ := M_nx3 (s := upd (upd o i (o j)) j (o i)) (n := l.length) (i := i) h6 l.length (i + 1) (l.length - 1) (upd (upd o i (o j)) j (o i)) (by omega) (by omega) (by omega) (by omega) (by omega) (fun k hk => by rw [if_neg (by omega)]) KF (kf_lt (by omega))
      have e3 : iN l.length - iN 1 = iN (l.length - 1) := iN_sub (by omega)
      refine ⟨o', ?_, fun l' hl k hk => ?_⟩
      · simp (disch := omega) only [fj_m_nextOrder_31, nlit, enO_some, e3, g2, g3, bnd, iN_add, iN_ix, iN_inb, iN_nneg, ltT, Option.bind_some, ↓reduceIte]; rfl
      · cases hl
        rw [List.length_map, List.length_range] at hk
        have hv : ∀ z, z < l.length → upd (upd o i (o j)) j (o i) z = iN (l.getD (plc2 i j z) 0) := by
          intro z hz
          unfold plc2
          by_cases z1 : z = j
          · rw [z1, upd_same, if_neg (by omega), if_pos rfl]; exact h i (by omega)
          · rw [upd_ne z1]
            by_cases z2 : z = i
            · rw [z2, upd_same, if_pos rfl]; exact h j (by omega)
            · rw [upd_ne z2, if_neg z2, if_neg z1]; exact h z hz
        have er : ((List.range l.length).map (fun k => l.getD (plc l.length i j k) 0)).getD k 0 = l.getD (plc l.length i j k) 0 := by
          rw [List.getD_eq_getElem?_getD, List.getElem?_map, List.getElem?_range hk]; rfl
        rw [er, g4 k hk]
        unfold plc
        by_cases c : i < k
        · rw [if_pos c, if_pos c]; exact hv _ (by omega)
        · rw [if_neg c, if_neg c]; exact hv _ hk
end
