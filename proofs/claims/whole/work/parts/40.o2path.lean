/-! ===== PURE: fewest: the kth going, class and reference ===== -/
section
variable {og cf cb : Nat → Int32} {F B : Nat → Nat} {n : Nat}
theorem J_kth (h : OG og cf cb F B n) (hn : n ≤ 3000) {i k : Nat} (hi : i < n) (hk : k < 2147483648) {pt : Nat → Int32} (hpt : ∀ j v, (pathL F B i i)[j]? = some v → pt j = iN v) : ∃ r, f_srch_goingOf og (iN i) (iN k) = some r ∧ (if iN k < iN (pathL F B i i).length then (if inb ((iN (pathL F B i i).length - 1) - iN k) 3001 then some (pt (ix ((iN (pathL F B i i).length - 1) - iN k))) else none) else some mI) = some r := by
  have hL := pathL_len (F := F) (B := B) i i
  have e1 := C_length h hn hi
  have k0 : (iN k < iN 0) = False := iN_nneg hk
  by_cases c : k < (pathL F B i i).length
  · have e2 : iN (pathL F B i i).length - iN 1 = iN ((pathL F B i i).length - 1) := iN_sub (by omega)
    have e3 : iN ((pathL F B i i).length - 1) - iN k = iN ((pathL F B i i).length - 1 - k) := iN_sub (by omega)
    have e2' : iN (pathL F B i i).length - 1 = iN ((pathL F B i i).length - 1) := e2
    have hj : (pathL F B i i).length - 1 - k < (pathL F B i i).length := by omega
    have hv : (pathL F B i i)[(pathL F B i i).length - 1 - k]? = some ((pathL F B i i).getD ((pathL F B i i).length - 1 - k) 0) := getD_lt hj
    obtain ⟨q1, q2, q3⟩ := nod_at (fun i h0 h1 => (h i h0 h1).1) i i _ _ hi hv
    have g := C_goLoop h hn (M := (pathL F B i i).length - 1 - k) (by omega) _ 0 i i KF (Nat.zero_add _) (kf_lt (by omega)) hi hj
    obtain ⟨a1, a2, a3, -, -⟩ := h _ q1 q2
    have hr : rem32 (iN (F (nodF F ((pathL F B i i).length - 1 - k) i) * 100 + B (nodF F ((pathL F B i i).length - 1 - k) i))) (iN 100) = iN (B (nodF F ((pathL F B i i).length - 1 - k) i)) := by
      rw [iN_rem (by omega) (by omega)]; congr 1; omega
    have hp := hpt _ _ hv
    refine ⟨iN (B (nodF F ((pathL F B i i).length - 1 - k) i)), ?_, ?_⟩
    · simp (disch := omega) only [f_srch_goingOf, nlit, e1, k0, e2, e3, g, a3, hr, iN_nneg, iN_lt, iN_inb, iN_ix, ltT, ltF, Option.bind_some, ↓reduceIte]
    · rw [if_pos (by rw [iN_lt (by omega) (by omega)]; exact c), e2', e3, if_pos (by rw [iN_inb (by omega)]; omega), iN_ix (by omega), hp, q3]
  · refine ⟨mI, ?_, ?_⟩
    · have hneg : ((iN (pathL F B i i).length - iN 1) - iN k < iN 0) = True := by
        refine eq_true ?_
        have z1 : (iN (pathL F B i i).length - iN 1).toInt = ((pathL F B i i).length : Int) - 1 := by
          rw [Int32.toInt_sub, iN_toInt (by omega), iN_toInt (by decide)]
          exact Int.bmod_eq_of_le (by omega) (by omega)
        rw [Int32.lt_iff_toInt_lt, i0_toInt, Int32.toInt_sub, z1, iN_toInt hk, Int.bmod_eq_of_le (by omega) (by omega)]
        omega
      simp only [f_srch_goingOf, nlit, negone, e1, k0, hneg, Option.bind_some, ↓reduceIte]
    · rw [if_neg (by rw [iN_lt hk (by omega)]; exact c)]
end
