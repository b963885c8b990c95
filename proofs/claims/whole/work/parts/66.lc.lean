section
variable {b L cl sl : Nat} {xs : Nat → Int32}
set_option maxRecDepth 100000 in
set_option maxHeartbeats 4000000 in
theorem law_loop (hL : L ≤ 3072) (hcl : cl ≤ 600000) (hsl : sl ≤ 7302250) : ∀ (n i : Nat) (h : List va_E), i ≤ 3080 → L < i + n → INV h → AG (XL b L xs) cl sl 18 [some (.ref 1000), some (.ref 0), some (.ref 125), some (.int (iN i))] [] h := by
  intro n
  induction n with
  | zero =>
    intro i h hi4 hLi I
    refine AL.g sK_l_a 6 2 True 20 [some (.ref 1000), some (.ref 0), some (.ref 125), some (.int (iN i))] [.ref 1000, .int (iN i)] h rfl trivial ?_
    refine AL.slen (SK.dec (SK.at sK_l_a 8 rfl)) (nxt := 21) rfl ?_
    refine AL.g sK_l_a 9 2 True 24 [some (.ref 1000), some (.ref 0), some (.ref 125), some (.int (iN i))] [.int (Int32.ofNat L - ((Int8.ofInt 6).toInt32)), .int (iN i)] h rfl trivial ?_
    refine AL.cT (P := Int32.ofNat L - ((Int8.ofInt 6).toInt32) < iN i) (lp_T (by omega) hL (by omega)) (SK.at sK_l_a 11 rfl) 1127 27 1127 rfl rfl rfl rfl ?_
    refine AL.g sK_l_z 2 1 True 1128 [some (.ref 1000), some (.ref 0), some (.ref 125), some (.int (iN i))] [.int 1] h rfl trivial ?_
    exact AL.ret (SK.dec (SK.at sK_l_z 3 rfl)) hcl hsl
  | succ n ih =>
    intro i h hi4 hLi I
    by_cases hi : i + 6 ≤ L
    · refine AL.g sK_l_a 6 2 True 20 [some (.ref 1000), some (.ref 0), some (.ref 125), some (.int (iN i))] [.ref 1000, .int (iN i)] h rfl trivial ?_
      refine AL.slen (SK.dec (SK.at sK_l_a 8 rfl)) (nxt := 21) rfl ?_
      refine AL.g sK_l_a 9 2 True 24 [some (.ref 1000), some (.ref 0), some (.ref 125), some (.int (iN i))] [.int (Int32.ofNat L - ((Int8.ofInt 6).toInt32)), .int (iN i)] h rfl trivial ?_
      refine AL.cF (P := Int32.ofNat L - ((Int8.ofInt 6).toInt32) < iN i) (lp_F (by omega) hL (by omega)) (SK.at sK_l_a 11 rfl) 1127 27 27 rfl rfl rfl rfl ?_
      refine AL.g sK_l_a 12 2 True 29 [some (.ref 1000), some (.ref 0), some (.ref 125), some (.int (iN i))] [.int (iN i), .ref 1000] h rfl trivial ?_
      refine AL.ld (SK.at sK_l_a 14 rfl) (by rw [iN_inb (by omega)]; omega) (nxt := 30) rfl ?_
      refine AL.g sK_l_a 15 2 True 33 [some (.ref 1000), some (.ref 0), some (.ref 125), some (.int (iN i))] [.int (xs (ix (iN i)) &&& ((Int8.ofInt 31).toInt32))] h rfl trivial ?_
      obtain ⟨n0, hn0, hv⟩ := and31 (xs (ix (iN i)))
      refine law_case hi hL hcl hsl I (fun h I => ?_) hn0 hv
      have e6 : iN i + Int32.ofInt 6 = iN (i + 6) := iN_add (a := i) (b := 6)
      refine AL.g sK_l_z 0 2 True 18 [some (.ref 1000), some (.ref 0), some (.ref 125), some (.int (iN i + Int32.ofInt 6))] [] h rfl trivial ?_
      rw [e6]
      exact ih (i + 6) h (by omega) (by omega) I
    · refine AL.g sK_l_a 6 2 True 20 [some (.ref 1000), some (.ref 0), some (.ref 125), some (.int (iN i))] [.ref 1000, .int (iN i)] h rfl trivial ?_
      refine AL.slen (SK.dec (SK.at sK_l_a 8 rfl)) (nxt := 21) rfl ?_
      refine AL.g sK_l_a 9 2 True 24 [some (.ref 1000), some (.ref 0), some (.ref 125), some (.int (iN i))] [.int (Int32.ofNat L - ((Int8.ofInt 6).toInt32)), .int (iN i)] h rfl trivial ?_
      refine AL.cT (P := Int32.ofNat L - ((Int8.ofInt 6).toInt32) < iN i) (lp_T (by omega) hL (by omega)) (SK.at sK_l_a 11 rfl) 1127 27 1127 rfl rfl rfl rfl ?_
      refine AL.g sK_l_z 2 1 True 1128 [some (.ref 1000), some (.ref 0), some (.ref 125), some (.int (iN i))] [.int 1] h rfl trivial ?_
      exact AL.ret (SK.dec (SK.at sK_l_z 3 rfl)) hcl hsl
end
