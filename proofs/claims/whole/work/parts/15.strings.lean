def ixF (c : Int32) : List Int32 → Nat → Int32
  | [], _ => -1
  | b :: l, k => if b = c then Int32.ofNat k else ixF c l (k + 1)
section
variable {M : MI} {dd : Nat} {rr : Option Value} {h0 hF : List va_E}
theorem AJ.sLen {i pc idx ix2 nxt : Nat} {ls : List (Option Value)} {st : List Value} {h : List va_E} {v : Int32} (hd : decode M.2.1 pc = .ok (.ldc idx, 2)) (hs : SK M [(pc + 2, .invokevirtual ix2, (0, 0, 0), 0)]) (hv : Int32.ofNat (scL.getD i 0) = v) (hn : pc + 5 = nxt) (k : AJ (M, dd, rr, h0, hF) nxt ls (.int v :: st) h) : AJ (M, dd, rr, h0, hF) pc ls st h := sorry
theorem AJ.sChr {i pc idx ix2 nxt a : Nat} {j : Int32} {ls : List (Option Value)} {st : List Value} {h : List va_E} (hj : inb j (scL.getD i 0)) (hd : decode M.2.1 pc = .ok (.ldc idx, 2)) (hs1 : SK M [(pc + 2, .iload a, (0, 0, 0), 0)]) (hs : SK M [(pc + 4, .invokevirtual ix2, (0, 0, 0), 0)]) (hl : ls[a]? = some (some (.int j))) (hn : pc + 7 = nxt) (k : AJ (M, dd, rr, h0, hF) nxt ls (.int ((scB.getD i []).getD (ix j) 0) :: st) h) : AJ (M, dd, rr, h0, hF) pc ls st h := sorry
theorem AJ.sIdx {i pc idx ix2 nxt : Nat} {a : Fin 4} {j : Int32} {ls : List (Option Value)} {st : List Value} {h : List va_E} (hd : decode M.2.1 pc = .ok (.ldc idx, 2)) (hs1 : SK M [(pc + 2, .iload_n a, (0, 0, 0), 0)]) (hs2 : SK M [(pc + 3, .i2c, (0, 0, 0), 0)]) (hs : SK M [(pc + 4, .invokevirtual ix2, (0, 0, 0), 0)]) (hl : ls[a.val]? = some (some (.int j))) (hn : pc + 7 = nxt) (k : AJ (M, dd, rr, h0, hF) nxt ls (.int (ixF ((j.toUInt32 % 65536).toInt32) (scB.getD i []) 0) :: st) h) : AJ (M, dd, rr, h0, hF) pc ls st h := sorry
end
