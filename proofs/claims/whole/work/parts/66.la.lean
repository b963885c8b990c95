/-! ===== the law: its loop, its start (written by mklaw.py) ===== -/
theorem and31 (v : Int32) : ∃ n, n < 32 ∧ v &&& ((Int8.ofInt 31).toInt32) = iN n := by
  have h31 : (Int8.ofInt 31).toInt32 = (31 : Int32) := by decide
  rw [h31]
  refine ⟨(v &&& 31).toBitVec.toNat, ?_, ?_⟩
  · rw [Int32.toBitVec_and, BitVec.toNat_and]
    exact Nat.lt_of_le_of_lt Nat.and_le_right (by decide)
  · show _ = Int32.ofNat _
    apply Int32.toBitVec_inj.mp
    rw [Int32.toBitVec_ofNat', BitVec.ofNat_toNat, BitVec.setWidth_eq]
theorem lp_T {i L : Nat} (hi : i ≤ 4000) (hL : L ≤ 3072) (h : ¬ i + 6 ≤ L) : Int32.ofNat L - ((Int8.ofInt 6).toInt32) < iN i := by
  have h6 : (Int8.ofInt 6).toInt32 = iN 6 := by decide
  rw [h6, Int32.lt_iff_toInt_lt, Int32.toInt_sub]
  have e1 : (Int32.ofNat L).toInt = (L : Int) := iN_toInt (n := L) (by omega)
  rw [e1, iN_toInt (by omega), iN_toInt (by omega)]
  rw [Int.bmod_eq_of_le (by omega) (by omega)]
  omega
theorem lp_F {i L : Nat} (hi : i ≤ 4000) (hL : L ≤ 3072) (h : i + 6 ≤ L) : ¬ Int32.ofNat L - ((Int8.ofInt 6).toInt32) < iN i := by
  have h6 : (Int8.ofInt 6).toInt32 = iN 6 := by decide
  rw [h6, Int32.lt_iff_toInt_lt, Int32.toInt_sub]
  have e1 : (Int32.ofNat L).toInt = (L : Int) := iN_toInt (n := L) (by omega)
  rw [e1, iN_toInt (by omega), iN_toInt (by omega)]
  rw [Int.bmod_eq_of_le (by omega) (by omega)]
  omega
