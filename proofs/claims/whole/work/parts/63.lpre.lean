/-! ===== the law: stretches between the calls (written by mklaw.py) ===== -/
section
variable {b L cl sl i : Nat} {xs : Nat → Int32} {h : List va_E}
theorem il_in {k : Nat} (hi : i + 6 ≤ L) (hL : L ≤ 3072) (hk : k < 6) : inb (iN i + iN k) L := by
  rw [iN_add, iN_inb (by omega)]
  omega
theorem lgc_self {r : Int64} : lg_cmp r r = 0 := by
  unfold lg_cmp
  simp
theorem pa_person (hi : i + 6 ≤ L) (hL : L ≤ 3072) (k : AG (XL b L xs) cl sl 190 [some (.ref 1000), some (.ref 0), some (.ref 125), some (.int (iN i))] [.int (bo (xs (ix ((iN i) + 1)))), .ref 0] h) : AG (XL b L xs) cl sl 176 [some (.ref 1000), some (.ref 0), some (.ref 125), some (.int (iN i))] [] h := by
  refine AL.g sK_l_0 0 5 True 181 [some (.ref 1000), some (.ref 0), some (.ref 125), some (.int (iN i))] [.int ((iN i) + 1), .ref 1000, .ref 0] h rfl trivial ?_
  refine AL.ld (SK.at sK_l_0 5 rfl) (il_in (k := 1) hi hL (by decide)) rfl ?_
  refine AL.boo (pc := 182) (p3 := 185) (p4 := 186) (p7 := 189) (p8 := 190) (SK.at sK_l_0 6 rfl) (sk_sub sK_l_0 7 2) (SK.at sK_l_0 9 rfl) (fun _ _ _ => rfl) (fun _ _ _ => rfl) rfl rfl ?_
  exact k
theorem pb_person {r : Int32} (hi : i + 6 ≤ L) (hL : L ≤ 3072) (k : AG (XL b L xs) cl sl 207 [some (.ref 1000), some (.ref 0), some (.ref 125), some (.int (iN i))] [.int (bo (xs (ix ((iN i) + 1)))), .ref 125, .int r] h) : AG (XL b L xs) cl sl 193 [some (.ref 1000), some (.ref 0), some (.ref 125), some (.int (iN i))] [.int r] h := by
  refine AL.g sK_l_0 11 5 True 198 [some (.ref 1000), some (.ref 0), some (.ref 125), some (.int (iN i))] [.int ((iN i) + 1), .ref 1000, .ref 125, .int r] h rfl trivial ?_
  refine AL.ld (SK.at sK_l_0 16 rfl) (il_in (k := 1) hi hL (by decide)) rfl ?_
  refine AL.boo (pc := 199) (p3 := 202) (p4 := 203) (p7 := 206) (p8 := 207) (SK.at sK_l_0 17 rfl) (sk_sub sK_l_0 18 2) (SK.at sK_l_0 20 rfl) (fun _ _ _ => rfl) (fun _ _ _ => rfl) rfl rfl ?_
  exact k
theorem pc_person {r : Int32} (k : AG (XL b L xs) cl sl 1121 [some (.ref 1000), some (.ref 0), some (.ref 125), some (.int (iN i))] [] h) : AG (XL b L xs) cl sl 210 [some (.ref 1000), some (.ref 0), some (.ref 125), some (.int (iN i))] [.int r, .int r] h := AL.cT (P := r = r) rfl (SK.at sK_l_0 22 rfl) 1121 213 1121 rfl rfl rfl rfl k
theorem pa_gate (hi : i + 6 ≤ L) (hL : L ≤ 3072) (k : AG (XL b L xs) cl sl 229 [some (.ref 1000), some (.ref 0), some (.ref 125), some (.int (iN i))] [.int (bo (xs (ix ((iN i) + 1)))), .ref 0] h) : AG (XL b L xs) cl sl 215 [some (.ref 1000), some (.ref 0), some (.ref 125), some (.int (iN i))] [] h := by
  refine AL.g sK_l_1 0 5 True 220 [some (.ref 1000), some (.ref 0), some (.ref 125), some (.int (iN i))] [.int ((iN i) + 1), .ref 1000, .ref 0] h rfl trivial ?_
  refine AL.ld (SK.at sK_l_1 5 rfl) (il_in (k := 1) hi hL (by decide)) rfl ?_
  refine AL.boo (pc := 221) (p3 := 224) (p4 := 225) (p7 := 228) (p8 := 229) (SK.at sK_l_1 6 rfl) (sk_sub sK_l_1 7 2) (SK.at sK_l_1 9 rfl) (fun _ _ _ => rfl) (fun _ _ _ => rfl) rfl rfl ?_
  exact k
theorem pb_gate {r : Int32} (hi : i + 6 ≤ L) (hL : L ≤ 3072) (k : AG (XL b L xs) cl sl 246 [some (.ref 1000), some (.ref 0), some (.ref 125), some (.int (iN i))] [.int (bo (xs (ix ((iN i) + 1)))), .ref 125, .int r] h) : AG (XL b L xs) cl sl 232 [some (.ref 1000), some (.ref 0), some (.ref 125), some (.int (iN i))] [.int r] h := by
  refine AL.g sK_l_1 11 5 True 237 [some (.ref 1000), some (.ref 0), some (.ref 125), some (.int (iN i))] [.int ((iN i) + 1), .ref 1000, .ref 125, .int r] h rfl trivial ?_
  refine AL.ld (SK.at sK_l_1 16 rfl) (il_in (k := 1) hi hL (by decide)) rfl ?_
  refine AL.boo (pc := 238) (p3 := 241) (p4 := 242) (p7 := 245) (p8 := 246) (SK.at sK_l_1 17 rfl) (sk_sub sK_l_1 18 2) (SK.at sK_l_1 20 rfl) (fun _ _ _ => rfl) (fun _ _ _ => rfl) rfl rfl ?_
  exact k
theorem pc_gate {r : Int32} (k : AG (XL b L xs) cl sl 1121 [some (.ref 1000), some (.ref 0), some (.ref 125), some (.int (iN i))] [] h) : AG (XL b L xs) cl sl 249 [some (.ref 1000), some (.ref 0), some (.ref 125), some (.int (iN i))] [.int r, .int r] h := AL.cT (P := r = r) rfl (SK.at sK_l_1 22 rfl) 1121 252 1121 rfl rfl rfl rfl k
theorem pa_hour (hi : i + 6 ≤ L) (hL : L ≤ 3072) (k : AG (XL b L xs) cl sl 260 [some (.ref 1000), some (.ref 0), some (.ref 125), some (.int (iN i))] [.int (xs (ix ((iN i) + 1))), .ref 0] h) : AG (XL b L xs) cl sl 254 [some (.ref 1000), some (.ref 0), some (.ref 125), some (.int (iN i))] [] h := by
  refine AL.g sK_l_2 0 5 True 259 [some (.ref 1000), some (.ref 0), some (.ref 125), some (.int (iN i))] [.int ((iN i) + 1), .ref 1000, .ref 0] h rfl trivial ?_
  refine AL.ld (SK.at sK_l_2 5 rfl) (il_in (k := 1) hi hL (by decide)) rfl ?_
  exact k
theorem pb_hour {r : Int32} (hi : i + 6 ≤ L) (hL : L ≤ 3072) (k : AG (XL b L xs) cl sl 269 [some (.ref 1000), some (.ref 0), some (.ref 125), some (.int (iN i))] [.int (xs (ix ((iN i) + 1))), .ref 125, .int r] h) : AG (XL b L xs) cl sl 263 [some (.ref 1000), some (.ref 0), some (.ref 125), some (.int (iN i))] [.int r] h := by
  refine AL.g sK_l_2 7 5 True 268 [some (.ref 1000), some (.ref 0), some (.ref 125), some (.int (iN i))] [.int ((iN i) + 1), .ref 1000, .ref 125, .int r] h rfl trivial ?_
  refine AL.ld (SK.at sK_l_2 12 rfl) (il_in (k := 1) hi hL (by decide)) rfl ?_
  exact k
theorem pc_hour {r : Int32} (k : AG (XL b L xs) cl sl 1121 [some (.ref 1000), some (.ref 0), some (.ref 125), some (.int (iN i))] [] h) : AG (XL b L xs) cl sl 272 [some (.ref 1000), some (.ref 0), some (.ref 125), some (.int (iN i))] [.int r, .int r] h := AL.cT (P := r = r) rfl (SK.at sK_l_2 14 rfl) 1121 275 1121 rfl rfl rfl rfl k
theorem pa_feed (hi : i + 6 ≤ L) (hL : L ≤ 3072) (k : AG (XL b L xs) cl sl 303 [some (.ref 1000), some (.ref 0), some (.ref 125), some (.int (iN i))] [.int (xs (ix ((iN i) + 5))), .int (xs (ix ((iN i) + 4))), .int (xs (ix ((iN i) + 3))), .int (xs (ix ((iN i) + 2))), .int (xs (ix ((iN i) + 1))), .ref 0] h) : AG (XL b L xs) cl sl 277 [some (.ref 1000), some (.ref 0), some (.ref 125), some (.int (iN i))] [] h := by
  refine AL.g sK_l_3 0 5 True 282 [some (.ref 1000), some (.ref 0), some (.ref 125), some (.int (iN i))] [.int ((iN i) + 1), .ref 1000, .ref 0] h rfl trivial ?_
  refine AL.ld (SK.at sK_l_3 5 rfl) (il_in (k := 1) hi hL (by decide)) rfl ?_
  refine AL.g sK_l_3 6 4 True 287 [some (.ref 1000), some (.ref 0), some (.ref 125), some (.int (iN i))] [.int ((iN i) + 2), .ref 1000, .int (xs (ix ((iN i) + 1))), .ref 0] h rfl trivial ?_
  refine AL.ld (SK.at sK_l_3 10 rfl) (il_in (k := 2) hi hL (by decide)) rfl ?_
  refine AL.g sK_l_3 11 4 True 292 [some (.ref 1000), some (.ref 0), some (.ref 125), some (.int (iN i))] [.int ((iN i) + 3), .ref 1000, .int (xs (ix ((iN i) + 2))), .int (xs (ix ((iN i) + 1))), .ref 0] h rfl trivial ?_
  refine AL.ld (SK.at sK_l_3 15 rfl) (il_in (k := 3) hi hL (by decide)) rfl ?_
  refine AL.g sK_l_3 16 4 True 297 [some (.ref 1000), some (.ref 0), some (.ref 125), some (.int (iN i))] [.int ((iN i) + 4), .ref 1000, .int (xs (ix ((iN i) + 3))), .int (xs (ix ((iN i) + 2))), .int (xs (ix ((iN i) + 1))), .ref 0] h rfl trivial ?_
  refine AL.ld (SK.at sK_l_3 20 rfl) (il_in (k := 4) hi hL (by decide)) rfl ?_
  refine AL.g sK_l_3 21 4 True 302 [some (.ref 1000), some (.ref 0), some (.ref 125), some (.int (iN i))] [.int ((iN i) + 5), .ref 1000, .int (xs (ix ((iN i) + 4))), .int (xs (ix ((iN i) + 3))), .int (xs (ix ((iN i) + 2))), .int (xs (ix ((iN i) + 1))), .ref 0] h rfl trivial ?_
  refine AL.ld (SK.at sK_l_3 25 rfl) (il_in (k := 5) hi hL (by decide)) rfl ?_
  exact k
theorem pb_feed {r : Int32} (hi : i + 6 ≤ L) (hL : L ≤ 3072) (k : AG (XL b L xs) cl sl 332 [some (.ref 1000), some (.ref 0), some (.ref 125), some (.int (iN i))] [.int (xs (ix ((iN i) + 5))), .int (xs (ix ((iN i) + 4))), .int (xs (ix ((iN i) + 3))), .int (xs (ix ((iN i) + 2))), .int (xs (ix ((iN i) + 1))), .ref 125, .int r] h) : AG (XL b L xs) cl sl 306 [some (.ref 1000), some (.ref 0), some (.ref 125), some (.int (iN i))] [.int r] h := by
  refine AL.g sK_l_3 27 5 True 311 [some (.ref 1000), some (.ref 0), some (.ref 125), some (.int (iN i))] [.int ((iN i) + 1), .ref 1000, .ref 125, .int r] h rfl trivial ?_
  refine AL.ld (SK.at sK_l_3 32 rfl) (il_in (k := 1) hi hL (by decide)) rfl ?_
  refine AL.g sK_l_3 33 4 True 316 [some (.ref 1000), some (.ref 0), some (.ref 125), some (.int (iN i))] [.int ((iN i) + 2), .ref 1000, .int (xs (ix ((iN i) + 1))), .ref 125, .int r] h rfl trivial ?_
  refine AL.ld (SK.at sK_l_3 37 rfl) (il_in (k := 2) hi hL (by decide)) rfl ?_
  refine AL.g sK_l_3 38 4 True 321 [some (.ref 1000), some (.ref 0), some (.ref 125), some (.int (iN i))] [.int ((iN i) + 3), .ref 1000, .int (xs (ix ((iN i) + 2))), .int (xs (ix ((iN i) + 1))), .ref 125, .int r] h rfl trivial ?_
  refine AL.ld (SK.at sK_l_3 42 rfl) (il_in (k := 3) hi hL (by decide)) rfl ?_
  refine AL.g sK_l_3 43 4 True 326 [some (.ref 1000), some (.ref 0), some (.ref 125), some (.int (iN i))] [.int ((iN i) + 4), .ref 1000, .int (xs (ix ((iN i) + 3))), .int (xs (ix ((iN i) + 2))), .int (xs (ix ((iN i) + 1))), .ref 125, .int r] h rfl trivial ?_
  refine AL.ld (SK.at sK_l_3 47 rfl) (il_in (k := 4) hi hL (by decide)) rfl ?_
  refine AL.g sK_l_3 48 4 True 331 [some (.ref 1000), some (.ref 0), some (.ref 125), some (.int (iN i))] [.int ((iN i) + 5), .ref 1000, .int (xs (ix ((iN i) + 4))), .int (xs (ix ((iN i) + 3))), .int (xs (ix ((iN i) + 2))), .int (xs (ix ((iN i) + 1))), .ref 125, .int r] h rfl trivial ?_
  refine AL.ld (SK.at sK_l_3 52 rfl) (il_in (k := 5) hi hL (by decide)) rfl ?_
  exact k
theorem pc_feed {r : Int32} (k : AG (XL b L xs) cl sl 1121 [some (.ref 1000), some (.ref 0), some (.ref 125), some (.int (iN i))] [] h) : AG (XL b L xs) cl sl 335 [some (.ref 1000), some (.ref 0), some (.ref 125), some (.int (iN i))] [.int r, .int r] h := AL.cT (P := r = r) rfl (SK.at sK_l_3 54 rfl) 1121 338 1121 rfl rfl rfl rfl k
theorem pa_end (hi : i + 6 ≤ L) (hL : L ≤ 3072) (k : AG (XL b L xs) cl sl 346 [some (.ref 1000), some (.ref 0), some (.ref 125), some (.int (iN i))] [.int (xs (ix ((iN i) + 1))), .ref 0] h) : AG (XL b L xs) cl sl 340 [some (.ref 1000), some (.ref 0), some (.ref 125), some (.int (iN i))] [] h := by
  refine AL.g sK_l_4 0 5 True 345 [some (.ref 1000), some (.ref 0), some (.ref 125), some (.int (iN i))] [.int ((iN i) + 1), .ref 1000, .ref 0] h rfl trivial ?_
  refine AL.ld (SK.at sK_l_4 5 rfl) (il_in (k := 1) hi hL (by decide)) rfl ?_
  exact k
theorem pb_end {r : Int32} (hi : i + 6 ≤ L) (hL : L ≤ 3072) (k : AG (XL b L xs) cl sl 355 [some (.ref 1000), some (.ref 0), some (.ref 125), some (.int (iN i))] [.int (xs (ix ((iN i) + 1))), .ref 125, .int r] h) : AG (XL b L xs) cl sl 349 [some (.ref 1000), some (.ref 0), some (.ref 125), some (.int (iN i))] [.int r] h := by
  refine AL.g sK_l_4 7 5 True 354 [some (.ref 1000), some (.ref 0), some (.ref 125), some (.int (iN i))] [.int ((iN i) + 1), .ref 1000, .ref 125, .int r] h rfl trivial ?_
  refine AL.ld (SK.at sK_l_4 12 rfl) (il_in (k := 1) hi hL (by decide)) rfl ?_
  exact k
theorem pc_end {r : Int32} (k : AG (XL b L xs) cl sl 1121 [some (.ref 1000), some (.ref 0), some (.ref 125), some (.int (iN i))] [] h) : AG (XL b L xs) cl sl 358 [some (.ref 1000), some (.ref 0), some (.ref 125), some (.int (iN i))] [.int r, .int r] h := AL.cT (P := r = r) rfl (SK.at sK_l_4 14 rfl) 1121 361 1121 rfl rfl rfl rfl k
theorem pa_text (hi : i + 6 ≤ L) (hL : L ≤ 3072) (k : AG (XL b L xs) cl sl 364 [some (.ref 1000), some (.ref 0), some (.ref 125), some (.int (iN i))] [.ref 0] h) : AG (XL b L xs) cl sl 363 [some (.ref 1000), some (.ref 0), some (.ref 125), some (.int (iN i))] [] h := by
  refine AL.g sK_l_5 0 1 True 364 [some (.ref 1000), some (.ref 0), some (.ref 125), some (.int (iN i))] [.ref 0] h rfl trivial ?_
  exact k
theorem pb_text {r : Int32} (hi : i + 6 ≤ L) (hL : L ≤ 3072) (k : AG (XL b L xs) cl sl 368 [some (.ref 1000), some (.ref 0), some (.ref 125), some (.int (iN i))] [.ref 125, .int r] h) : AG (XL b L xs) cl sl 367 [some (.ref 1000), some (.ref 0), some (.ref 125), some (.int (iN i))] [.int r] h := by
  refine AL.g sK_l_5 2 1 True 368 [some (.ref 1000), some (.ref 0), some (.ref 125), some (.int (iN i))] [.ref 125, .int r] h rfl trivial ?_
  exact k
theorem pc_text {r : Int32} (k : AG (XL b L xs) cl sl 1121 [some (.ref 1000), some (.ref 0), some (.ref 125), some (.int (iN i))] [] h) : AG (XL b L xs) cl sl 371 [some (.ref 1000), some (.ref 0), some (.ref 125), some (.int (iN i))] [.int r, .int r] h := AL.cT (P := r = r) rfl (SK.at sK_l_5 4 rfl) 1121 374 1121 rfl rfl rfl rfl k
theorem pa_fault (hi : i + 6 ≤ L) (hL : L ≤ 3072) (k : AG (XL b L xs) cl sl 382 [some (.ref 1000), some (.ref 0), some (.ref 125), some (.int (iN i))] [.int (xs (ix ((iN i) + 1))), .ref 0] h) : AG (XL b L xs) cl sl 376 [some (.ref 1000), some (.ref 0), some (.ref 125), some (.int (iN i))] [] h := by
  refine AL.g sK_l_6 0 5 True 381 [some (.ref 1000), some (.ref 0), some (.ref 125), some (.int (iN i))] [.int ((iN i) + 1), .ref 1000, .ref 0] h rfl trivial ?_
  refine AL.ld (SK.at sK_l_6 5 rfl) (il_in (k := 1) hi hL (by decide)) rfl ?_
  exact k
theorem pb_fault {r : Int32} (hi : i + 6 ≤ L) (hL : L ≤ 3072) (k : AG (XL b L xs) cl sl 391 [some (.ref 1000), some (.ref 0), some (.ref 125), some (.int (iN i))] [.int (xs (ix ((iN i) + 1))), .ref 125, .int r] h) : AG (XL b L xs) cl sl 385 [some (.ref 1000), some (.ref 0), some (.ref 125), some (.int (iN i))] [.int r] h := by
  refine AL.g sK_l_6 7 5 True 390 [some (.ref 1000), some (.ref 0), some (.ref 125), some (.int (iN i))] [.int ((iN i) + 1), .ref 1000, .ref 125, .int r] h rfl trivial ?_
  refine AL.ld (SK.at sK_l_6 12 rfl) (il_in (k := 1) hi hL (by decide)) rfl ?_
  exact k
theorem pc_fault {r : Int32} (k : AG (XL b L xs) cl sl 1121 [some (.ref 1000), some (.ref 0), some (.ref 125), some (.int (iN i))] [] h) : AG (XL b L xs) cl sl 394 [some (.ref 1000), some (.ref 0), some (.ref 125), some (.int (iN i))] [.int r, .int r] h := AL.cT (P := r = r) rfl (SK.at sK_l_6 14 rfl) 1121 397 1121 rfl rfl rfl rfl k
theorem pa_by (hi : i + 6 ≤ L) (hL : L ≤ 3072) (k : AG (XL b L xs) cl sl 405 [some (.ref 1000), some (.ref 0), some (.ref 125), some (.int (iN i))] [.int (xs (ix ((iN i) + 1))), .ref 0] h) : AG (XL b L xs) cl sl 399 [some (.ref 1000), some (.ref 0), some (.ref 125), some (.int (iN i))] [] h := by
  refine AL.g sK_l_7 0 5 True 404 [some (.ref 1000), some (.ref 0), some (.ref 125), some (.int (iN i))] [.int ((iN i) + 1), .ref 1000, .ref 0] h rfl trivial ?_
  refine AL.ld (SK.at sK_l_7 5 rfl) (il_in (k := 1) hi hL (by decide)) rfl ?_
  exact k
theorem pb_by {r : Int32} (hi : i + 6 ≤ L) (hL : L ≤ 3072) (k : AG (XL b L xs) cl sl 414 [some (.ref 1000), some (.ref 0), some (.ref 125), some (.int (iN i))] [.int (xs (ix ((iN i) + 1))), .ref 125, .int r] h) : AG (XL b L xs) cl sl 408 [some (.ref 1000), some (.ref 0), some (.ref 125), some (.int (iN i))] [.int r] h := by
  refine AL.g sK_l_7 7 5 True 413 [some (.ref 1000), some (.ref 0), some (.ref 125), some (.int (iN i))] [.int ((iN i) + 1), .ref 1000, .ref 125, .int r] h rfl trivial ?_
  refine AL.ld (SK.at sK_l_7 12 rfl) (il_in (k := 1) hi hL (by decide)) rfl ?_
  exact k
theorem pc_by {r : Int32} (k : AG (XL b L xs) cl sl 1121 [some (.ref 1000), some (.ref 0), some (.ref 125), some (.int (iN i))] [] h) : AG (XL b L xs) cl sl 417 [some (.ref 1000), some (.ref 0), some (.ref 125), some (.int (iN i))] [.int r, .int r] h := AL.cT (P := r = r) rfl (SK.at sK_l_7 14 rfl) 1121 420 1121 rfl rfl rfl rfl k
theorem pa_gone (hi : i + 6 ≤ L) (hL : L ≤ 3072) (k : AG (XL b L xs) cl sl 428 [some (.ref 1000), some (.ref 0), some (.ref 125), some (.int (iN i))] [.int (xs (ix ((iN i) + 1))), .ref 0] h) : AG (XL b L xs) cl sl 422 [some (.ref 1000), some (.ref 0), some (.ref 125), some (.int (iN i))] [] h := by
  refine AL.g sK_l_8 0 5 True 427 [some (.ref 1000), some (.ref 0), some (.ref 125), some (.int (iN i))] [.int ((iN i) + 1), .ref 1000, .ref 0] h rfl trivial ?_
  refine AL.ld (SK.at sK_l_8 5 rfl) (il_in (k := 1) hi hL (by decide)) rfl ?_
  exact k
theorem pb_gone {r : Int32} (hi : i + 6 ≤ L) (hL : L ≤ 3072) (k : AG (XL b L xs) cl sl 437 [some (.ref 1000), some (.ref 0), some (.ref 125), some (.int (iN i))] [.int (xs (ix ((iN i) + 1))), .ref 125, .int r] h) : AG (XL b L xs) cl sl 431 [some (.ref 1000), some (.ref 0), some (.ref 125), some (.int (iN i))] [.int r] h := by
  refine AL.g sK_l_8 7 5 True 436 [some (.ref 1000), some (.ref 0), some (.ref 125), some (.int (iN i))] [.int ((iN i) + 1), .ref 1000, .ref 125, .int r] h rfl trivial ?_
  refine AL.ld (SK.at sK_l_8 12 rfl) (il_in (k := 1) hi hL (by decide)) rfl ?_
  exact k
theorem pc_gone {r : Int32} (k : AG (XL b L xs) cl sl 1121 [some (.ref 1000), some (.ref 0), some (.ref 125), some (.int (iN i))] [] h) : AG (XL b L xs) cl sl 440 [some (.ref 1000), some (.ref 0), some (.ref 125), some (.int (iN i))] [.int r, .int r] h := AL.cT (P := r = r) rfl (SK.at sK_l_8 14 rfl) 1121 443 1121 rfl rfl rfl rfl k
theorem pa_go (hi : i + 6 ≤ L) (hL : L ≤ 3072) (k : AG (XL b L xs) cl sl 456 [some (.ref 1000), some (.ref 0), some (.ref 125), some (.int (iN i))] [.int (xs (ix ((iN i) + 2))), .int (xs (ix ((iN i) + 1))), .ref 0] h) : AG (XL b L xs) cl sl 445 [some (.ref 1000), some (.ref 0), some (.ref 125), some (.int (iN i))] [] h := by
  refine AL.g sK_l_9 0 5 True 450 [some (.ref 1000), some (.ref 0), some (.ref 125), some (.int (iN i))] [.int ((iN i) + 1), .ref 1000, .ref 0] h rfl trivial ?_
  refine AL.ld (SK.at sK_l_9 5 rfl) (il_in (k := 1) hi hL (by decide)) rfl ?_
  refine AL.g sK_l_9 6 4 True 455 [some (.ref 1000), some (.ref 0), some (.ref 125), some (.int (iN i))] [.int ((iN i) + 2), .ref 1000, .int (xs (ix ((iN i) + 1))), .ref 0] h rfl trivial ?_
  refine AL.ld (SK.at sK_l_9 10 rfl) (il_in (k := 2) hi hL (by decide)) rfl ?_
  exact k
theorem pb_go {r : Int32} (hi : i + 6 ≤ L) (hL : L ≤ 3072) (k : AG (XL b L xs) cl sl 470 [some (.ref 1000), some (.ref 0), some (.ref 125), some (.int (iN i))] [.int (xs (ix ((iN i) + 2))), .int (xs (ix ((iN i) + 1))), .ref 125, .int r] h) : AG (XL b L xs) cl sl 459 [some (.ref 1000), some (.ref 0), some (.ref 125), some (.int (iN i))] [.int r] h := by
  refine AL.g sK_l_9 12 5 True 464 [some (.ref 1000), some (.ref 0), some (.ref 125), some (.int (iN i))] [.int ((iN i) + 1), .ref 1000, .ref 125, .int r] h rfl trivial ?_
  refine AL.ld (SK.at sK_l_9 17 rfl) (il_in (k := 1) hi hL (by decide)) rfl ?_
  refine AL.g sK_l_9 18 4 True 469 [some (.ref 1000), some (.ref 0), some (.ref 125), some (.int (iN i))] [.int ((iN i) + 2), .ref 1000, .int (xs (ix ((iN i) + 1))), .ref 125, .int r] h rfl trivial ?_
  refine AL.ld (SK.at sK_l_9 22 rfl) (il_in (k := 2) hi hL (by decide)) rfl ?_
  exact k
theorem pc_go {r : Int32} (k : AG (XL b L xs) cl sl 1121 [some (.ref 1000), some (.ref 0), some (.ref 125), some (.int (iN i))] [] h) : AG (XL b L xs) cl sl 473 [some (.ref 1000), some (.ref 0), some (.ref 125), some (.int (iN i))] [.int r, .int r] h := AL.cT (P := r = r) rfl (SK.at sK_l_9 24 rfl) 1121 476 1121 rfl rfl rfl rfl k
theorem pa_of (hi : i + 6 ≤ L) (hL : L ≤ 3072) (k : AG (XL b L xs) cl sl 489 [some (.ref 1000), some (.ref 0), some (.ref 125), some (.int (iN i))] [.int (xs (ix ((iN i) + 2))), .int (xs (ix ((iN i) + 1))), .ref 0] h) : AG (XL b L xs) cl sl 478 [some (.ref 1000), some (.ref 0), some (.ref 125), some (.int (iN i))] [] h := by
  refine AL.g sK_l_10 0 5 True 483 [some (.ref 1000), some (.ref 0), some (.ref 125), some (.int (iN i))] [.int ((iN i) + 1), .ref 1000, .ref 0] h rfl trivial ?_
  refine AL.ld (SK.at sK_l_10 5 rfl) (il_in (k := 1) hi hL (by decide)) rfl ?_
  refine AL.g sK_l_10 6 4 True 488 [some (.ref 1000), some (.ref 0), some (.ref 125), some (.int (iN i))] [.int ((iN i) + 2), .ref 1000, .int (xs (ix ((iN i) + 1))), .ref 0] h rfl trivial ?_
  refine AL.ld (SK.at sK_l_10 10 rfl) (il_in (k := 2) hi hL (by decide)) rfl ?_
  exact k
theorem pb_of {r : Int32} (hi : i + 6 ≤ L) (hL : L ≤ 3072) (k : AG (XL b L xs) cl sl 503 [some (.ref 1000), some (.ref 0), some (.ref 125), some (.int (iN i))] [.int (xs (ix ((iN i) + 2))), .int (xs (ix ((iN i) + 1))), .ref 125, .int r] h) : AG (XL b L xs) cl sl 492 [some (.ref 1000), some (.ref 0), some (.ref 125), some (.int (iN i))] [.int r] h := by
  refine AL.g sK_l_10 12 5 True 497 [some (.ref 1000), some (.ref 0), some (.ref 125), some (.int (iN i))] [.int ((iN i) + 1), .ref 1000, .ref 125, .int r] h rfl trivial ?_
  refine AL.ld (SK.at sK_l_10 17 rfl) (il_in (k := 1) hi hL (by decide)) rfl ?_
  refine AL.g sK_l_10 18 4 True 502 [some (.ref 1000), some (.ref 0), some (.ref 125), some (.int (iN i))] [.int ((iN i) + 2), .ref 1000, .int (xs (ix ((iN i) + 1))), .ref 125, .int r] h rfl trivial ?_
  refine AL.ld (SK.at sK_l_10 22 rfl) (il_in (k := 2) hi hL (by decide)) rfl ?_
  exact k
theorem pc_of {r : Int32} (k : AG (XL b L xs) cl sl 1121 [some (.ref 1000), some (.ref 0), some (.ref 125), some (.int (iN i))] [] h) : AG (XL b L xs) cl sl 506 [some (.ref 1000), some (.ref 0), some (.ref 125), some (.int (iN i))] [.int r, .int r] h := AL.cT (P := r = r) rfl (SK.at sK_l_10 24 rfl) 1121 509 1121 rfl rfl rfl rfl k
theorem pa_called (hi : i + 6 ≤ L) (hL : L ≤ 3072) (k : AG (XL b L xs) cl sl 517 [some (.ref 1000), some (.ref 0), some (.ref 125), some (.int (iN i))] [.int (xs (ix ((iN i) + 1))), .ref 0] h) : AG (XL b L xs) cl sl 511 [some (.ref 1000), some (.ref 0), some (.ref 125), some (.int (iN i))] [] h := by
  refine AL.g sK_l_11 0 5 True 516 [some (.ref 1000), some (.ref 0), some (.ref 125), some (.int (iN i))] [.int ((iN i) + 1), .ref 1000, .ref 0] h rfl trivial ?_
  refine AL.ld (SK.at sK_l_11 5 rfl) (il_in (k := 1) hi hL (by decide)) rfl ?_
  exact k
theorem pb_called {r : Int32} (hi : i + 6 ≤ L) (hL : L ≤ 3072) (k : AG (XL b L xs) cl sl 526 [some (.ref 1000), some (.ref 0), some (.ref 125), some (.int (iN i))] [.int (xs (ix ((iN i) + 1))), .ref 125, .int r] h) : AG (XL b L xs) cl sl 520 [some (.ref 1000), some (.ref 0), some (.ref 125), some (.int (iN i))] [.int r] h := by
  refine AL.g sK_l_11 7 5 True 525 [some (.ref 1000), some (.ref 0), some (.ref 125), some (.int (iN i))] [.int ((iN i) + 1), .ref 1000, .ref 125, .int r] h rfl trivial ?_
  refine AL.ld (SK.at sK_l_11 12 rfl) (il_in (k := 1) hi hL (by decide)) rfl ?_
  exact k
theorem pc_called {r : Int32} (k : AG (XL b L xs) cl sl 1121 [some (.ref 1000), some (.ref 0), some (.ref 125), some (.int (iN i))] [] h) : AG (XL b L xs) cl sl 529 [some (.ref 1000), some (.ref 0), some (.ref 125), some (.int (iN i))] [.int r, .int r] h := AL.cT (P := r = r) rfl (SK.at sK_l_11 14 rfl) 1121 532 1121 rfl rfl rfl rfl k
theorem pa_heap (hi : i + 6 ≤ L) (hL : L ≤ 3072) (k : AG (XL b L xs) cl sl 545 [some (.ref 1000), some (.ref 0), some (.ref 125), some (.int (iN i))] [.int (xs (ix ((iN i) + 2))), .int (xs (ix ((iN i) + 1))), .ref 0] h) : AG (XL b L xs) cl sl 534 [some (.ref 1000), some (.ref 0), some (.ref 125), some (.int (iN i))] [] h := by
  refine AL.g sK_l_12 0 5 True 539 [some (.ref 1000), some (.ref 0), some (.ref 125), some (.int (iN i))] [.int ((iN i) + 1), .ref 1000, .ref 0] h rfl trivial ?_
  refine AL.ld (SK.at sK_l_12 5 rfl) (il_in (k := 1) hi hL (by decide)) rfl ?_
  refine AL.g sK_l_12 6 4 True 544 [some (.ref 1000), some (.ref 0), some (.ref 125), some (.int (iN i))] [.int ((iN i) + 2), .ref 1000, .int (xs (ix ((iN i) + 1))), .ref 0] h rfl trivial ?_
  refine AL.ld (SK.at sK_l_12 10 rfl) (il_in (k := 2) hi hL (by decide)) rfl ?_
  exact k
theorem pb_heap {r : Int32} (hi : i + 6 ≤ L) (hL : L ≤ 3072) (k : AG (XL b L xs) cl sl 559 [some (.ref 1000), some (.ref 0), some (.ref 125), some (.int (iN i))] [.int (xs (ix ((iN i) + 2))), .int (xs (ix ((iN i) + 1))), .ref 125, .int r] h) : AG (XL b L xs) cl sl 548 [some (.ref 1000), some (.ref 0), some (.ref 125), some (.int (iN i))] [.int r] h := by
  refine AL.g sK_l_12 12 5 True 553 [some (.ref 1000), some (.ref 0), some (.ref 125), some (.int (iN i))] [.int ((iN i) + 1), .ref 1000, .ref 125, .int r] h rfl trivial ?_
  refine AL.ld (SK.at sK_l_12 17 rfl) (il_in (k := 1) hi hL (by decide)) rfl ?_
  refine AL.g sK_l_12 18 4 True 558 [some (.ref 1000), some (.ref 0), some (.ref 125), some (.int (iN i))] [.int ((iN i) + 2), .ref 1000, .int (xs (ix ((iN i) + 1))), .ref 125, .int r] h rfl trivial ?_
  refine AL.ld (SK.at sK_l_12 22 rfl) (il_in (k := 2) hi hL (by decide)) rfl ?_
  exact k
theorem pc_heap {r : Int32} (k : AG (XL b L xs) cl sl 1121 [some (.ref 1000), some (.ref 0), some (.ref 125), some (.int (iN i))] [] h) : AG (XL b L xs) cl sl 562 [some (.ref 1000), some (.ref 0), some (.ref 125), some (.int (iN i))] [.int r, .int r] h := AL.cT (P := r = r) rfl (SK.at sK_l_12 24 rfl) 1121 565 1121 rfl rfl rfl rfl k
theorem pa_deed (hi : i + 6 ≤ L) (hL : L ≤ 3072) (k : AG (XL b L xs) cl sl 578 [some (.ref 1000), some (.ref 0), some (.ref 125), some (.int (iN i))] [.int (xs (ix ((iN i) + 2))), .int (xs (ix ((iN i) + 1))), .ref 0] h) : AG (XL b L xs) cl sl 567 [some (.ref 1000), some (.ref 0), some (.ref 125), some (.int (iN i))] [] h := by
  refine AL.g sK_l_13 0 5 True 572 [some (.ref 1000), some (.ref 0), some (.ref 125), some (.int (iN i))] [.int ((iN i) + 1), .ref 1000, .ref 0] h rfl trivial ?_
  refine AL.ld (SK.at sK_l_13 5 rfl) (il_in (k := 1) hi hL (by decide)) rfl ?_
  refine AL.g sK_l_13 6 4 True 577 [some (.ref 1000), some (.ref 0), some (.ref 125), some (.int (iN i))] [.int ((iN i) + 2), .ref 1000, .int (xs (ix ((iN i) + 1))), .ref 0] h rfl trivial ?_
  refine AL.ld (SK.at sK_l_13 10 rfl) (il_in (k := 2) hi hL (by decide)) rfl ?_
  exact k
theorem pb_deed {r : Int32} (hi : i + 6 ≤ L) (hL : L ≤ 3072) (k : AG (XL b L xs) cl sl 592 [some (.ref 1000), some (.ref 0), some (.ref 125), some (.int (iN i))] [.int (xs (ix ((iN i) + 2))), .int (xs (ix ((iN i) + 1))), .ref 125, .int r] h) : AG (XL b L xs) cl sl 581 [some (.ref 1000), some (.ref 0), some (.ref 125), some (.int (iN i))] [.int r] h := by
  refine AL.g sK_l_13 12 5 True 586 [some (.ref 1000), some (.ref 0), some (.ref 125), some (.int (iN i))] [.int ((iN i) + 1), .ref 1000, .ref 125, .int r] h rfl trivial ?_
  refine AL.ld (SK.at sK_l_13 17 rfl) (il_in (k := 1) hi hL (by decide)) rfl ?_
  refine AL.g sK_l_13 18 4 True 591 [some (.ref 1000), some (.ref 0), some (.ref 125), some (.int (iN i))] [.int ((iN i) + 2), .ref 1000, .int (xs (ix ((iN i) + 1))), .ref 125, .int r] h rfl trivial ?_
  refine AL.ld (SK.at sK_l_13 22 rfl) (il_in (k := 2) hi hL (by decide)) rfl ?_
  exact k
theorem pc_deed {r : Int32} (k : AG (XL b L xs) cl sl 1121 [some (.ref 1000), some (.ref 0), some (.ref 125), some (.int (iN i))] [] h) : AG (XL b L xs) cl sl 595 [some (.ref 1000), some (.ref 0), some (.ref 125), some (.int (iN i))] [.int r, .int r] h := AL.cT (P := r = r) rfl (SK.at sK_l_13 24 rfl) 1121 598 1121 rfl rfl rfl rfl k
theorem pa_owes (hi : i + 6 ≤ L) (hL : L ≤ 3072) (k : AG (XL b L xs) cl sl 606 [some (.ref 1000), some (.ref 0), some (.ref 125), some (.int (iN i))] [.int (xs (ix ((iN i) + 1))), .ref 0] h) : AG (XL b L xs) cl sl 600 [some (.ref 1000), some (.ref 0), some (.ref 125), some (.int (iN i))] [] h := by
  refine AL.g sK_l_14 0 5 True 605 [some (.ref 1000), some (.ref 0), some (.ref 125), some (.int (iN i))] [.int ((iN i) + 1), .ref 1000, .ref 0] h rfl trivial ?_
  refine AL.ld (SK.at sK_l_14 5 rfl) (il_in (k := 1) hi hL (by decide)) rfl ?_
  exact k
theorem pb_owes {r : Int32} (hi : i + 6 ≤ L) (hL : L ≤ 3072) (k : AG (XL b L xs) cl sl 615 [some (.ref 1000), some (.ref 0), some (.ref 125), some (.int (iN i))] [.int (xs (ix ((iN i) + 1))), .ref 125, .int r] h) : AG (XL b L xs) cl sl 609 [some (.ref 1000), some (.ref 0), some (.ref 125), some (.int (iN i))] [.int r] h := by
  refine AL.g sK_l_14 7 5 True 614 [some (.ref 1000), some (.ref 0), some (.ref 125), some (.int (iN i))] [.int ((iN i) + 1), .ref 1000, .ref 125, .int r] h rfl trivial ?_
  refine AL.ld (SK.at sK_l_14 12 rfl) (il_in (k := 1) hi hL (by decide)) rfl ?_
  exact k
theorem pc_owes {r : Int32} (k : AG (XL b L xs) cl sl 1121 [some (.ref 1000), some (.ref 0), some (.ref 125), some (.int (iN i))] [] h) : AG (XL b L xs) cl sl 618 [some (.ref 1000), some (.ref 0), some (.ref 125), some (.int (iN i))] [.int r, .int r] h := AL.cT (P := r = r) rfl (SK.at sK_l_14 14 rfl) 1121 621 1121 rfl rfl rfl rfl k
theorem pa_row (hi : i + 6 ≤ L) (hL : L ≤ 3072) (k : AG (XL b L xs) cl sl 634 [some (.ref 1000), some (.ref 0), some (.ref 125), some (.int (iN i))] [.int (xs (ix ((iN i) + 2))), .int (xs (ix ((iN i) + 1))), .ref 0] h) : AG (XL b L xs) cl sl 623 [some (.ref 1000), some (.ref 0), some (.ref 125), some (.int (iN i))] [] h := by
  refine AL.g sK_l_15 0 5 True 628 [some (.ref 1000), some (.ref 0), some (.ref 125), some (.int (iN i))] [.int ((iN i) + 1), .ref 1000, .ref 0] h rfl trivial ?_
  refine AL.ld (SK.at sK_l_15 5 rfl) (il_in (k := 1) hi hL (by decide)) rfl ?_
  refine AL.g sK_l_15 6 4 True 633 [some (.ref 1000), some (.ref 0), some (.ref 125), some (.int (iN i))] [.int ((iN i) + 2), .ref 1000, .int (xs (ix ((iN i) + 1))), .ref 0] h rfl trivial ?_
  refine AL.ld (SK.at sK_l_15 10 rfl) (il_in (k := 2) hi hL (by decide)) rfl ?_
  exact k
theorem pb_row {r : Int32} (hi : i + 6 ≤ L) (hL : L ≤ 3072) (k : AG (XL b L xs) cl sl 648 [some (.ref 1000), some (.ref 0), some (.ref 125), some (.int (iN i))] [.int (xs (ix ((iN i) + 2))), .int (xs (ix ((iN i) + 1))), .ref 125, .int r] h) : AG (XL b L xs) cl sl 637 [some (.ref 1000), some (.ref 0), some (.ref 125), some (.int (iN i))] [.int r] h := by
  refine AL.g sK_l_15 12 5 True 642 [some (.ref 1000), some (.ref 0), some (.ref 125), some (.int (iN i))] [.int ((iN i) + 1), .ref 1000, .ref 125, .int r] h rfl trivial ?_
  refine AL.ld (SK.at sK_l_15 17 rfl) (il_in (k := 1) hi hL (by decide)) rfl ?_
  refine AL.g sK_l_15 18 4 True 647 [some (.ref 1000), some (.ref 0), some (.ref 125), some (.int (iN i))] [.int ((iN i) + 2), .ref 1000, .int (xs (ix ((iN i) + 1))), .ref 125, .int r] h rfl trivial ?_
  refine AL.ld (SK.at sK_l_15 22 rfl) (il_in (k := 2) hi hL (by decide)) rfl ?_
  exact k
theorem pc_row {r : Int32} (k : AG (XL b L xs) cl sl 1121 [some (.ref 1000), some (.ref 0), some (.ref 125), some (.int (iN i))] [] h) : AG (XL b L xs) cl sl 651 [some (.ref 1000), some (.ref 0), some (.ref 125), some (.int (iN i))] [.int r, .int r] h := AL.cT (P := r = r) rfl (SK.at sK_l_15 24 rfl) 1121 654 1121 rfl rfl rfl rfl k
theorem pa_judge (hi : i + 6 ≤ L) (hL : L ≤ 3072) (k : AG (XL b L xs) cl sl 657 [some (.ref 1000), some (.ref 0), some (.ref 125), some (.int (iN i))] [.ref 0] h) : AG (XL b L xs) cl sl 656 [some (.ref 1000), some (.ref 0), some (.ref 125), some (.int (iN i))] [] h := by
  refine AL.g sK_l_16 0 1 True 657 [some (.ref 1000), some (.ref 0), some (.ref 125), some (.int (iN i))] [.ref 0] h rfl trivial ?_
  exact k
theorem pb_judge {r : Int32} (hi : i + 6 ≤ L) (hL : L ≤ 3072) (k : AG (XL b L xs) cl sl 661 [some (.ref 1000), some (.ref 0), some (.ref 125), some (.int (iN i))] [.ref 125, .int r] h) : AG (XL b L xs) cl sl 660 [some (.ref 1000), some (.ref 0), some (.ref 125), some (.int (iN i))] [.int r] h := by
  refine AL.g sK_l_16 2 1 True 661 [some (.ref 1000), some (.ref 0), some (.ref 125), some (.int (iN i))] [.ref 125, .int r] h rfl trivial ?_
  exact k
theorem pc_judge {r : Int32} (k : AG (XL b L xs) cl sl 1121 [some (.ref 1000), some (.ref 0), some (.ref 125), some (.int (iN i))] [] h) : AG (XL b L xs) cl sl 664 [some (.ref 1000), some (.ref 0), some (.ref 125), some (.int (iN i))] [.int r, .int r] h := AL.cT (P := r = r) rfl (SK.at sK_l_16 4 rfl) 1121 667 1121 rfl rfl rfl rfl k
theorem pa_then (hi : i + 6 ≤ L) (hL : L ≤ 3072) (k : AG (XL b L xs) cl sl 675 [some (.ref 1000), some (.ref 0), some (.ref 125), some (.int (iN i))] [.int (xs (ix ((iN i) + 1))), .ref 0] h) : AG (XL b L xs) cl sl 669 [some (.ref 1000), some (.ref 0), some (.ref 125), some (.int (iN i))] [] h := by
  refine AL.g sK_l_17 0 5 True 674 [some (.ref 1000), some (.ref 0), some (.ref 125), some (.int (iN i))] [.int ((iN i) + 1), .ref 1000, .ref 0] h rfl trivial ?_
  refine AL.ld (SK.at sK_l_17 5 rfl) (il_in (k := 1) hi hL (by decide)) rfl ?_
  exact k
theorem pb_then {r : Int32} (hi : i + 6 ≤ L) (hL : L ≤ 3072) (k : AG (XL b L xs) cl sl 684 [some (.ref 1000), some (.ref 0), some (.ref 125), some (.int (iN i))] [.int (xs (ix ((iN i) + 1))), .ref 125, .int r] h) : AG (XL b L xs) cl sl 678 [some (.ref 1000), some (.ref 0), some (.ref 125), some (.int (iN i))] [.int r] h := by
  refine AL.g sK_l_17 7 5 True 683 [some (.ref 1000), some (.ref 0), some (.ref 125), some (.int (iN i))] [.int ((iN i) + 1), .ref 1000, .ref 125, .int r] h rfl trivial ?_
  refine AL.ld (SK.at sK_l_17 12 rfl) (il_in (k := 1) hi hL (by decide)) rfl ?_
  exact k
theorem pc_then {r : Int32} (k : AG (XL b L xs) cl sl 1121 [some (.ref 1000), some (.ref 0), some (.ref 125), some (.int (iN i))] [] h) : AG (XL b L xs) cl sl 687 [some (.ref 1000), some (.ref 0), some (.ref 125), some (.int (iN i))] [.int r, .int r] h := AL.cT (P := r = r) rfl (SK.at sK_l_17 14 rfl) 1121 690 1121 rfl rfl rfl rfl k
theorem pa_chance (hi : i + 6 ≤ L) (hL : L ≤ 3072) (k : AG (XL b L xs) cl sl 708 [some (.ref 1000), some (.ref 0), some (.ref 125), some (.int (iN i))] [.int (xs (ix ((iN i) + 3))), .int (xs (ix ((iN i) + 2))), .int (xs (ix ((iN i) + 1))), .ref 0] h) : AG (XL b L xs) cl sl 692 [some (.ref 1000), some (.ref 0), some (.ref 125), some (.int (iN i))] [] h := by
  refine AL.g sK_l_18 0 5 True 697 [some (.ref 1000), some (.ref 0), some (.ref 125), some (.int (iN i))] [.int ((iN i) + 1), .ref 1000, .ref 0] h rfl trivial ?_
  refine AL.ld (SK.at sK_l_18 5 rfl) (il_in (k := 1) hi hL (by decide)) rfl ?_
  refine AL.g sK_l_18 6 4 True 702 [some (.ref 1000), some (.ref 0), some (.ref 125), some (.int (iN i))] [.int ((iN i) + 2), .ref 1000, .int (xs (ix ((iN i) + 1))), .ref 0] h rfl trivial ?_
  refine AL.ld (SK.at sK_l_18 10 rfl) (il_in (k := 2) hi hL (by decide)) rfl ?_
  refine AL.g sK_l_18 11 4 True 707 [some (.ref 1000), some (.ref 0), some (.ref 125), some (.int (iN i))] [.int ((iN i) + 3), .ref 1000, .int (xs (ix ((iN i) + 2))), .int (xs (ix ((iN i) + 1))), .ref 0] h rfl trivial ?_
  refine AL.ld (SK.at sK_l_18 15 rfl) (il_in (k := 3) hi hL (by decide)) rfl ?_
  exact k
theorem pb_chance {r : Int64} (hi : i + 6 ≤ L) (hL : L ≤ 3072) (k : AG (XL b L xs) cl sl 727 [some (.ref 1000), some (.ref 0), some (.ref 125), some (.int (iN i))] [.int (xs (ix ((iN i) + 3))), .int (xs (ix ((iN i) + 2))), .int (xs (ix ((iN i) + 1))), .ref 125, .long r] h) : AG (XL b L xs) cl sl 711 [some (.ref 1000), some (.ref 0), some (.ref 125), some (.int (iN i))] [.long r] h := by
  refine AL.g sK_l_18 17 5 True 716 [some (.ref 1000), some (.ref 0), some (.ref 125), some (.int (iN i))] [.int ((iN i) + 1), .ref 1000, .ref 125, .long r] h rfl trivial ?_
  refine AL.ld (SK.at sK_l_18 22 rfl) (il_in (k := 1) hi hL (by decide)) rfl ?_
  refine AL.g sK_l_18 23 4 True 721 [some (.ref 1000), some (.ref 0), some (.ref 125), some (.int (iN i))] [.int ((iN i) + 2), .ref 1000, .int (xs (ix ((iN i) + 1))), .ref 125, .long r] h rfl trivial ?_
  refine AL.ld (SK.at sK_l_18 27 rfl) (il_in (k := 2) hi hL (by decide)) rfl ?_
  refine AL.g sK_l_18 28 4 True 726 [some (.ref 1000), some (.ref 0), some (.ref 125), some (.int (iN i))] [.int ((iN i) + 3), .ref 1000, .int (xs (ix ((iN i) + 2))), .int (xs (ix ((iN i) + 1))), .ref 125, .long r] h rfl trivial ?_
  refine AL.ld (SK.at sK_l_18 32 rfl) (il_in (k := 3) hi hL (by decide)) rfl ?_
  exact k
theorem pc_chance {r : Int64} (k : AG (XL b L xs) cl sl 1121 [some (.ref 1000), some (.ref 0), some (.ref 125), some (.int (iN i))] [] h) : AG (XL b L xs) cl sl 730 [some (.ref 1000), some (.ref 0), some (.ref 125), some (.int (iN i))] [.long r, .long r] h := by
  refine AL.g sK_l_18 34 1 True 731 [some (.ref 1000), some (.ref 0), some (.ref 125), some (.int (iN i))] [.int (lg_cmp r r)] h rfl trivial ?_
  exact AL.cT (P := lg_cmp r r = 0) lgc_self (SK.at sK_l_18 35 rfl) 1121 734 1121 rfl rfl rfl rfl k
theorem pa_line (hi : i + 6 ≤ L) (hL : L ≤ 3072) (k : AG (XL b L xs) cl sl 760 [some (.ref 1000), some (.ref 0), some (.ref 125), some (.int (iN i))] [.int (xs (ix ((iN i) + 3))), .int (xs (ix ((iN i) + 2))), .int (bo (xs (ix ((iN i) + 1)))), .ref 0] h) : AG (XL b L xs) cl sl 736 [some (.ref 1000), some (.ref 0), some (.ref 125), some (.int (iN i))] [] h := by
  refine AL.g sK_l_19 0 5 True 741 [some (.ref 1000), some (.ref 0), some (.ref 125), some (.int (iN i))] [.int ((iN i) + 1), .ref 1000, .ref 0] h rfl trivial ?_
  refine AL.ld (SK.at sK_l_19 5 rfl) (il_in (k := 1) hi hL (by decide)) rfl ?_
  refine AL.boo (pc := 742) (p3 := 745) (p4 := 746) (p7 := 749) (p8 := 750) (SK.at sK_l_19 6 rfl) (sk_sub sK_l_19 7 2) (SK.at sK_l_19 9 rfl) (fun _ _ _ => rfl) (fun _ _ _ => rfl) rfl rfl ?_
  refine AL.g sK_l_19 10 4 True 754 [some (.ref 1000), some (.ref 0), some (.ref 125), some (.int (iN i))] [.int ((iN i) + 2), .ref 1000, .int (bo (xs (ix ((iN i) + 1)))), .ref 0] h rfl trivial ?_
  refine AL.ld (SK.at sK_l_19 14 rfl) (il_in (k := 2) hi hL (by decide)) rfl ?_
  refine AL.g sK_l_19 15 4 True 759 [some (.ref 1000), some (.ref 0), some (.ref 125), some (.int (iN i))] [.int ((iN i) + 3), .ref 1000, .int (xs (ix ((iN i) + 2))), .int (bo (xs (ix ((iN i) + 1)))), .ref 0] h rfl trivial ?_
  refine AL.ld (SK.at sK_l_19 19 rfl) (il_in (k := 3) hi hL (by decide)) rfl ?_
  exact k
theorem pb_line {r : Int32} (hi : i + 6 ≤ L) (hL : L ≤ 3072) (k : AG (XL b L xs) cl sl 787 [some (.ref 1000), some (.ref 0), some (.ref 125), some (.int (iN i))] [.int (xs (ix ((iN i) + 3))), .int (xs (ix ((iN i) + 2))), .int (bo (xs (ix ((iN i) + 1)))), .ref 125, .int r] h) : AG (XL b L xs) cl sl 763 [some (.ref 1000), some (.ref 0), some (.ref 125), some (.int (iN i))] [.int r] h := by
  refine AL.g sK_l_19 21 5 True 768 [some (.ref 1000), some (.ref 0), some (.ref 125), some (.int (iN i))] [.int ((iN i) + 1), .ref 1000, .ref 125, .int r] h rfl trivial ?_
  refine AL.ld (SK.at sK_l_19 26 rfl) (il_in (k := 1) hi hL (by decide)) rfl ?_
  refine AL.boo (pc := 769) (p3 := 772) (p4 := 773) (p7 := 776) (p8 := 777) (SK.at sK_l_19 27 rfl) (sk_sub sK_l_19 28 2) (SK.at sK_l_19 30 rfl) (fun _ _ _ => rfl) (fun _ _ _ => rfl) rfl rfl ?_
  refine AL.g sK_l_19 31 4 True 781 [some (.ref 1000), some (.ref 0), some (.ref 125), some (.int (iN i))] [.int ((iN i) + 2), .ref 1000, .int (bo (xs (ix ((iN i) + 1)))), .ref 125, .int r] h rfl trivial ?_
  refine AL.ld (SK.at sK_l_19 35 rfl) (il_in (k := 2) hi hL (by decide)) rfl ?_
  refine AL.g sK_l_19 36 4 True 786 [some (.ref 1000), some (.ref 0), some (.ref 125), some (.int (iN i))] [.int ((iN i) + 3), .ref 1000, .int (xs (ix ((iN i) + 2))), .int (bo (xs (ix ((iN i) + 1)))), .ref 125, .int r] h rfl trivial ?_
  refine AL.ld (SK.at sK_l_19 40 rfl) (il_in (k := 3) hi hL (by decide)) rfl ?_
  exact k
theorem pc_line {r : Int32} (k : AG (XL b L xs) cl sl 1121 [some (.ref 1000), some (.ref 0), some (.ref 125), some (.int (iN i))] [] h) : AG (XL b L xs) cl sl 790 [some (.ref 1000), some (.ref 0), some (.ref 125), some (.int (iN i))] [.int r, .int r] h := AL.cT (P := r = r) rfl (SK.at sK_l_19 42 rfl) 1121 793 1121 rfl rfl rfl rfl k
theorem pa_ways (hi : i + 6 ≤ L) (hL : L ≤ 3072) (k : AG (XL b L xs) cl sl 796 [some (.ref 1000), some (.ref 0), some (.ref 125), some (.int (iN i))] [.ref 0] h) : AG (XL b L xs) cl sl 795 [some (.ref 1000), some (.ref 0), some (.ref 125), some (.int (iN i))] [] h := by
  refine AL.g sK_l_20 0 1 True 796 [some (.ref 1000), some (.ref 0), some (.ref 125), some (.int (iN i))] [.ref 0] h rfl trivial ?_
  exact k
theorem pb_ways {r : Int32} (hi : i + 6 ≤ L) (hL : L ≤ 3072) (k : AG (XL b L xs) cl sl 800 [some (.ref 1000), some (.ref 0), some (.ref 125), some (.int (iN i))] [.ref 125, .int r] h) : AG (XL b L xs) cl sl 799 [some (.ref 1000), some (.ref 0), some (.ref 125), some (.int (iN i))] [.int r] h := by
  refine AL.g sK_l_20 2 1 True 800 [some (.ref 1000), some (.ref 0), some (.ref 125), some (.int (iN i))] [.ref 125, .int r] h rfl trivial ?_
  exact k
theorem pc_ways {r : Int32} (k : AG (XL b L xs) cl sl 1121 [some (.ref 1000), some (.ref 0), some (.ref 125), some (.int (iN i))] [] h) : AG (XL b L xs) cl sl 803 [some (.ref 1000), some (.ref 0), some (.ref 125), some (.int (iN i))] [.int r, .int r] h := AL.cT (P := r = r) rfl (SK.at sK_l_20 4 rfl) 1121 806 1121 rfl rfl rfl rfl k
theorem pa_may (hi : i + 6 ≤ L) (hL : L ≤ 3072) (k : AG (XL b L xs) cl sl 814 [some (.ref 1000), some (.ref 0), some (.ref 125), some (.int (iN i))] [.int (xs (ix ((iN i) + 1))), .ref 0] h) : AG (XL b L xs) cl sl 808 [some (.ref 1000), some (.ref 0), some (.ref 125), some (.int (iN i))] [] h := by
  refine AL.g sK_l_21 0 5 True 813 [some (.ref 1000), some (.ref 0), some (.ref 125), some (.int (iN i))] [.int ((iN i) + 1), .ref 1000, .ref 0] h rfl trivial ?_
  refine AL.ld (SK.at sK_l_21 5 rfl) (il_in (k := 1) hi hL (by decide)) rfl ?_
  exact k
theorem pb_may {r : Int32} (hi : i + 6 ≤ L) (hL : L ≤ 3072) (k : AG (XL b L xs) cl sl 823 [some (.ref 1000), some (.ref 0), some (.ref 125), some (.int (iN i))] [.int (xs (ix ((iN i) + 1))), .ref 125, .int r] h) : AG (XL b L xs) cl sl 817 [some (.ref 1000), some (.ref 0), some (.ref 125), some (.int (iN i))] [.int r] h := by
  refine AL.g sK_l_21 7 5 True 822 [some (.ref 1000), some (.ref 0), some (.ref 125), some (.int (iN i))] [.int ((iN i) + 1), .ref 1000, .ref 125, .int r] h rfl trivial ?_
  refine AL.ld (SK.at sK_l_21 12 rfl) (il_in (k := 1) hi hL (by decide)) rfl ?_
  exact k
theorem pc_may {r : Int32} (k : AG (XL b L xs) cl sl 1121 [some (.ref 1000), some (.ref 0), some (.ref 125), some (.int (iN i))] [] h) : AG (XL b L xs) cl sl 826 [some (.ref 1000), some (.ref 0), some (.ref 125), some (.int (iN i))] [.int r, .int r] h := AL.cT (P := r = r) rfl (SK.at sK_l_21 14 rfl) 1121 829 1121 rfl rfl rfl rfl k
theorem pa_ask (hi : i + 6 ≤ L) (hL : L ≤ 3072) (k : AG (XL b L xs) cl sl 837 [some (.ref 1000), some (.ref 0), some (.ref 125), some (.int (iN i))] [.int (xs (ix ((iN i) + 1))), .ref 0] h) : AG (XL b L xs) cl sl 831 [some (.ref 1000), some (.ref 0), some (.ref 125), some (.int (iN i))] [] h := by
  refine AL.g sK_l_22 0 5 True 836 [some (.ref 1000), some (.ref 0), some (.ref 125), some (.int (iN i))] [.int ((iN i) + 1), .ref 1000, .ref 0] h rfl trivial ?_
  refine AL.ld (SK.at sK_l_22 5 rfl) (il_in (k := 1) hi hL (by decide)) rfl ?_
  exact k
theorem pb_ask {r : Int32} (hi : i + 6 ≤ L) (hL : L ≤ 3072) (k : AG (XL b L xs) cl sl 846 [some (.ref 1000), some (.ref 0), some (.ref 125), some (.int (iN i))] [.int (xs (ix ((iN i) + 1))), .ref 125, .int r] h) : AG (XL b L xs) cl sl 840 [some (.ref 1000), some (.ref 0), some (.ref 125), some (.int (iN i))] [.int r] h := by
  refine AL.g sK_l_22 7 5 True 845 [some (.ref 1000), some (.ref 0), some (.ref 125), some (.int (iN i))] [.int ((iN i) + 1), .ref 1000, .ref 125, .int r] h rfl trivial ?_
  refine AL.ld (SK.at sK_l_22 12 rfl) (il_in (k := 1) hi hL (by decide)) rfl ?_
  exact k
theorem pc_ask {r : Int32} (k : AG (XL b L xs) cl sl 1121 [some (.ref 1000), some (.ref 0), some (.ref 125), some (.int (iN i))] [] h) : AG (XL b L xs) cl sl 849 [some (.ref 1000), some (.ref 0), some (.ref 125), some (.int (iN i))] [.int r, .int r] h := AL.cT (P := r = r) rfl (SK.at sK_l_22 14 rfl) 1121 852 1121 rfl rfl rfl rfl k
theorem pa_fewest (hi : i + 6 ≤ L) (hL : L ≤ 3072) (k : AG (XL b L xs) cl sl 880 [some (.ref 1000), some (.ref 0), some (.ref 125), some (.int (iN i))] [.int (xs (ix ((iN i) + 5))), .int (xs (ix ((iN i) + 4))), .int (xs (ix ((iN i) + 3))), .int (xs (ix ((iN i) + 2))), .int (xs (ix ((iN i) + 1))), .ref 0] h) : AG (XL b L xs) cl sl 854 [some (.ref 1000), some (.ref 0), some (.ref 125), some (.int (iN i))] [] h := by
  refine AL.g sK_l_23 0 5 True 859 [some (.ref 1000), some (.ref 0), some (.ref 125), some (.int (iN i))] [.int ((iN i) + 1), .ref 1000, .ref 0] h rfl trivial ?_
  refine AL.ld (SK.at sK_l_23 5 rfl) (il_in (k := 1) hi hL (by decide)) rfl ?_
  refine AL.g sK_l_23 6 4 True 864 [some (.ref 1000), some (.ref 0), some (.ref 125), some (.int (iN i))] [.int ((iN i) + 2), .ref 1000, .int (xs (ix ((iN i) + 1))), .ref 0] h rfl trivial ?_
  refine AL.ld (SK.at sK_l_23 10 rfl) (il_in (k := 2) hi hL (by decide)) rfl ?_
  refine AL.g sK_l_23 11 4 True 869 [some (.ref 1000), some (.ref 0), some (.ref 125), some (.int (iN i))] [.int ((iN i) + 3), .ref 1000, .int (xs (ix ((iN i) + 2))), .int (xs (ix ((iN i) + 1))), .ref 0] h rfl trivial ?_
  refine AL.ld (SK.at sK_l_23 15 rfl) (il_in (k := 3) hi hL (by decide)) rfl ?_
  refine AL.g sK_l_23 16 4 True 874 [some (.ref 1000), some (.ref 0), some (.ref 125), some (.int (iN i))] [.int ((iN i) + 4), .ref 1000, .int (xs (ix ((iN i) + 3))), .int (xs (ix ((iN i) + 2))), .int (xs (ix ((iN i) + 1))), .ref 0] h rfl trivial ?_
  refine AL.ld (SK.at sK_l_23 20 rfl) (il_in (k := 4) hi hL (by decide)) rfl ?_
  refine AL.g sK_l_23 21 4 True 879 [some (.ref 1000), some (.ref 0), some (.ref 125), some (.int (iN i))] [.int ((iN i) + 5), .ref 1000, .int (xs (ix ((iN i) + 4))), .int (xs (ix ((iN i) + 3))), .int (xs (ix ((iN i) + 2))), .int (xs (ix ((iN i) + 1))), .ref 0] h rfl trivial ?_
  refine AL.ld (SK.at sK_l_23 25 rfl) (il_in (k := 5) hi hL (by decide)) rfl ?_
  exact k
theorem pb_fewest {r : Int32} (hi : i + 6 ≤ L) (hL : L ≤ 3072) (k : AG (XL b L xs) cl sl 909 [some (.ref 1000), some (.ref 0), some (.ref 125), some (.int (iN i))] [.int (xs (ix ((iN i) + 5))), .int (xs (ix ((iN i) + 4))), .int (xs (ix ((iN i) + 3))), .int (xs (ix ((iN i) + 2))), .int (xs (ix ((iN i) + 1))), .ref 125, .int r] h) : AG (XL b L xs) cl sl 883 [some (.ref 1000), some (.ref 0), some (.ref 125), some (.int (iN i))] [.int r] h := by
  refine AL.g sK_l_23 27 5 True 888 [some (.ref 1000), some (.ref 0), some (.ref 125), some (.int (iN i))] [.int ((iN i) + 1), .ref 1000, .ref 125, .int r] h rfl trivial ?_
  refine AL.ld (SK.at sK_l_23 32 rfl) (il_in (k := 1) hi hL (by decide)) rfl ?_
  refine AL.g sK_l_23 33 4 True 893 [some (.ref 1000), some (.ref 0), some (.ref 125), some (.int (iN i))] [.int ((iN i) + 2), .ref 1000, .int (xs (ix ((iN i) + 1))), .ref 125, .int r] h rfl trivial ?_
  refine AL.ld (SK.at sK_l_23 37 rfl) (il_in (k := 2) hi hL (by decide)) rfl ?_
  refine AL.g sK_l_23 38 4 True 898 [some (.ref 1000), some (.ref 0), some (.ref 125), some (.int (iN i))] [.int ((iN i) + 3), .ref 1000, .int (xs (ix ((iN i) + 2))), .int (xs (ix ((iN i) + 1))), .ref 125, .int r] h rfl trivial ?_
  refine AL.ld (SK.at sK_l_23 42 rfl) (il_in (k := 3) hi hL (by decide)) rfl ?_
  refine AL.g sK_l_23 43 4 True 903 [some (.ref 1000), some (.ref 0), some (.ref 125), some (.int (iN i))] [.int ((iN i) + 4), .ref 1000, .int (xs (ix ((iN i) + 3))), .int (xs (ix ((iN i) + 2))), .int (xs (ix ((iN i) + 1))), .ref 125, .int r] h rfl trivial ?_
  refine AL.ld (SK.at sK_l_23 47 rfl) (il_in (k := 4) hi hL (by decide)) rfl ?_
  refine AL.g sK_l_23 48 4 True 908 [some (.ref 1000), some (.ref 0), some (.ref 125), some (.int (iN i))] [.int ((iN i) + 5), .ref 1000, .int (xs (ix ((iN i) + 4))), .int (xs (ix ((iN i) + 3))), .int (xs (ix ((iN i) + 2))), .int (xs (ix ((iN i) + 1))), .ref 125, .int r] h rfl trivial ?_
  refine AL.ld (SK.at sK_l_23 52 rfl) (il_in (k := 5) hi hL (by decide)) rfl ?_
  exact k
theorem pc_fewest {r : Int32} (k : AG (XL b L xs) cl sl 1121 [some (.ref 1000), some (.ref 0), some (.ref 125), some (.int (iN i))] [] h) : AG (XL b L xs) cl sl 912 [some (.ref 1000), some (.ref 0), some (.ref 125), some (.int (iN i))] [.int r, .int r] h := AL.cT (P := r = r) rfl (SK.at sK_l_23 54 rfl) 1121 915 1121 rfl rfl rfl rfl k
theorem pa_third (hi : i + 6 ≤ L) (hL : L ≤ 3072) (k : AG (XL b L xs) cl sl 928 [some (.ref 1000), some (.ref 0), some (.ref 125), some (.int (iN i))] [.int (xs (ix ((iN i) + 2))), .int (xs (ix ((iN i) + 1))), .ref 0] h) : AG (XL b L xs) cl sl 917 [some (.ref 1000), some (.ref 0), some (.ref 125), some (.int (iN i))] [] h := by
  refine AL.g sK_l_24 0 5 True 922 [some (.ref 1000), some (.ref 0), some (.ref 125), some (.int (iN i))] [.int ((iN i) + 1), .ref 1000, .ref 0] h rfl trivial ?_
  refine AL.ld (SK.at sK_l_24 5 rfl) (il_in (k := 1) hi hL (by decide)) rfl ?_
  refine AL.g sK_l_24 6 4 True 927 [some (.ref 1000), some (.ref 0), some (.ref 125), some (.int (iN i))] [.int ((iN i) + 2), .ref 1000, .int (xs (ix ((iN i) + 1))), .ref 0] h rfl trivial ?_
  refine AL.ld (SK.at sK_l_24 10 rfl) (il_in (k := 2) hi hL (by decide)) rfl ?_
  exact k
theorem pb_third {r : Int32} (hi : i + 6 ≤ L) (hL : L ≤ 3072) (k : AG (XL b L xs) cl sl 942 [some (.ref 1000), some (.ref 0), some (.ref 125), some (.int (iN i))] [.int (xs (ix ((iN i) + 2))), .int (xs (ix ((iN i) + 1))), .ref 125, .int r] h) : AG (XL b L xs) cl sl 931 [some (.ref 1000), some (.ref 0), some (.ref 125), some (.int (iN i))] [.int r] h := by
  refine AL.g sK_l_24 12 5 True 936 [some (.ref 1000), some (.ref 0), some (.ref 125), some (.int (iN i))] [.int ((iN i) + 1), .ref 1000, .ref 125, .int r] h rfl trivial ?_
  refine AL.ld (SK.at sK_l_24 17 rfl) (il_in (k := 1) hi hL (by decide)) rfl ?_
  refine AL.g sK_l_24 18 4 True 941 [some (.ref 1000), some (.ref 0), some (.ref 125), some (.int (iN i))] [.int ((iN i) + 2), .ref 1000, .int (xs (ix ((iN i) + 1))), .ref 125, .int r] h rfl trivial ?_
  refine AL.ld (SK.at sK_l_24 22 rfl) (il_in (k := 2) hi hL (by decide)) rfl ?_
  exact k
theorem pc_third {r : Int32} (k : AG (XL b L xs) cl sl 1121 [some (.ref 1000), some (.ref 0), some (.ref 125), some (.int (iN i))] [] h) : AG (XL b L xs) cl sl 945 [some (.ref 1000), some (.ref 0), some (.ref 125), some (.int (iN i))] [.int r, .int r] h := AL.cT (P := r = r) rfl (SK.at sK_l_24 24 rfl) 1121 948 1121 rfl rfl rfl rfl k
theorem pa_left (hi : i + 6 ≤ L) (hL : L ≤ 3072) (k : AG (XL b L xs) cl sl 966 [some (.ref 1000), some (.ref 0), some (.ref 125), some (.int (iN i))] [.int (xs (ix ((iN i) + 3))), .int (xs (ix ((iN i) + 2))), .int (xs (ix ((iN i) + 1))), .ref 0] h) : AG (XL b L xs) cl sl 950 [some (.ref 1000), some (.ref 0), some (.ref 125), some (.int (iN i))] [] h := by
  refine AL.g sK_l_25 0 5 True 955 [some (.ref 1000), some (.ref 0), some (.ref 125), some (.int (iN i))] [.int ((iN i) + 1), .ref 1000, .ref 0] h rfl trivial ?_
  refine AL.ld (SK.at sK_l_25 5 rfl) (il_in (k := 1) hi hL (by decide)) rfl ?_
  refine AL.g sK_l_25 6 4 True 960 [some (.ref 1000), some (.ref 0), some (.ref 125), some (.int (iN i))] [.int ((iN i) + 2), .ref 1000, .int (xs (ix ((iN i) + 1))), .ref 0] h rfl trivial ?_
  refine AL.ld (SK.at sK_l_25 10 rfl) (il_in (k := 2) hi hL (by decide)) rfl ?_
  refine AL.g sK_l_25 11 4 True 965 [some (.ref 1000), some (.ref 0), some (.ref 125), some (.int (iN i))] [.int ((iN i) + 3), .ref 1000, .int (xs (ix ((iN i) + 2))), .int (xs (ix ((iN i) + 1))), .ref 0] h rfl trivial ?_
  refine AL.ld (SK.at sK_l_25 15 rfl) (il_in (k := 3) hi hL (by decide)) rfl ?_
  exact k
theorem pb_left {r : Int32} (hi : i + 6 ≤ L) (hL : L ≤ 3072) (k : AG (XL b L xs) cl sl 985 [some (.ref 1000), some (.ref 0), some (.ref 125), some (.int (iN i))] [.int (xs (ix ((iN i) + 3))), .int (xs (ix ((iN i) + 2))), .int (xs (ix ((iN i) + 1))), .ref 125, .int r] h) : AG (XL b L xs) cl sl 969 [some (.ref 1000), some (.ref 0), some (.ref 125), some (.int (iN i))] [.int r] h := by
  refine AL.g sK_l_25 17 5 True 974 [some (.ref 1000), some (.ref 0), some (.ref 125), some (.int (iN i))] [.int ((iN i) + 1), .ref 1000, .ref 125, .int r] h rfl trivial ?_
  refine AL.ld (SK.at sK_l_25 22 rfl) (il_in (k := 1) hi hL (by decide)) rfl ?_
  refine AL.g sK_l_25 23 4 True 979 [some (.ref 1000), some (.ref 0), some (.ref 125), some (.int (iN i))] [.int ((iN i) + 2), .ref 1000, .int (xs (ix ((iN i) + 1))), .ref 125, .int r] h rfl trivial ?_
  refine AL.ld (SK.at sK_l_25 27 rfl) (il_in (k := 2) hi hL (by decide)) rfl ?_
  refine AL.g sK_l_25 28 4 True 984 [some (.ref 1000), some (.ref 0), some (.ref 125), some (.int (iN i))] [.int ((iN i) + 3), .ref 1000, .int (xs (ix ((iN i) + 2))), .int (xs (ix ((iN i) + 1))), .ref 125, .int r] h rfl trivial ?_
  refine AL.ld (SK.at sK_l_25 32 rfl) (il_in (k := 3) hi hL (by decide)) rfl ?_
  exact k
theorem pc_left {r : Int32} (k : AG (XL b L xs) cl sl 1121 [some (.ref 1000), some (.ref 0), some (.ref 125), some (.int (iN i))] [] h) : AG (XL b L xs) cl sl 988 [some (.ref 1000), some (.ref 0), some (.ref 125), some (.int (iN i))] [.int r, .int r] h := AL.cT (P := r = r) rfl (SK.at sK_l_25 34 rfl) 1121 991 1121 rfl rfl rfl rfl k
theorem pa_thief (hi : i + 6 ≤ L) (hL : L ≤ 3072) (k : AG (XL b L xs) cl sl 1004 [some (.ref 1000), some (.ref 0), some (.ref 125), some (.int (iN i))] [.int (xs (ix ((iN i) + 2))), .int (xs (ix ((iN i) + 1))), .ref 0] h) : AG (XL b L xs) cl sl 993 [some (.ref 1000), some (.ref 0), some (.ref 125), some (.int (iN i))] [] h := by
  refine AL.g sK_l_26 0 5 True 998 [some (.ref 1000), some (.ref 0), some (.ref 125), some (.int (iN i))] [.int ((iN i) + 1), .ref 1000, .ref 0] h rfl trivial ?_
  refine AL.ld (SK.at sK_l_26 5 rfl) (il_in (k := 1) hi hL (by decide)) rfl ?_
  refine AL.g sK_l_26 6 4 True 1003 [some (.ref 1000), some (.ref 0), some (.ref 125), some (.int (iN i))] [.int ((iN i) + 2), .ref 1000, .int (xs (ix ((iN i) + 1))), .ref 0] h rfl trivial ?_
  refine AL.ld (SK.at sK_l_26 10 rfl) (il_in (k := 2) hi hL (by decide)) rfl ?_
  exact k
theorem pb_thief {r : Int32} (hi : i + 6 ≤ L) (hL : L ≤ 3072) (k : AG (XL b L xs) cl sl 1018 [some (.ref 1000), some (.ref 0), some (.ref 125), some (.int (iN i))] [.int (xs (ix ((iN i) + 2))), .int (xs (ix ((iN i) + 1))), .ref 125, .int r] h) : AG (XL b L xs) cl sl 1007 [some (.ref 1000), some (.ref 0), some (.ref 125), some (.int (iN i))] [.int r] h := by
  refine AL.g sK_l_26 12 5 True 1012 [some (.ref 1000), some (.ref 0), some (.ref 125), some (.int (iN i))] [.int ((iN i) + 1), .ref 1000, .ref 125, .int r] h rfl trivial ?_
  refine AL.ld (SK.at sK_l_26 17 rfl) (il_in (k := 1) hi hL (by decide)) rfl ?_
  refine AL.g sK_l_26 18 4 True 1017 [some (.ref 1000), some (.ref 0), some (.ref 125), some (.int (iN i))] [.int ((iN i) + 2), .ref 1000, .int (xs (ix ((iN i) + 1))), .ref 125, .int r] h rfl trivial ?_
  refine AL.ld (SK.at sK_l_26 22 rfl) (il_in (k := 2) hi hL (by decide)) rfl ?_
  exact k
theorem pc_thief {r : Int32} (k : AG (XL b L xs) cl sl 1121 [some (.ref 1000), some (.ref 0), some (.ref 125), some (.int (iN i))] [] h) : AG (XL b L xs) cl sl 1021 [some (.ref 1000), some (.ref 0), some (.ref 125), some (.int (iN i))] [.int r, .int r] h := AL.cT (P := r = r) rfl (SK.at sK_l_26 24 rfl) 1121 1024 1121 rfl rfl rfl rfl k
theorem pa_seed (hi : i + 6 ≤ L) (hL : L ≤ 3072) (k : AG (XL b L xs) cl sl 1032 [some (.ref 1000), some (.ref 0), some (.ref 125), some (.int (iN i))] [.int (xs (ix ((iN i) + 1))), .ref 0] h) : AG (XL b L xs) cl sl 1026 [some (.ref 1000), some (.ref 0), some (.ref 125), some (.int (iN i))] [] h := by
  refine AL.g sK_l_27 0 5 True 1031 [some (.ref 1000), some (.ref 0), some (.ref 125), some (.int (iN i))] [.int ((iN i) + 1), .ref 1000, .ref 0] h rfl trivial ?_
  refine AL.ld (SK.at sK_l_27 5 rfl) (il_in (k := 1) hi hL (by decide)) rfl ?_
  exact k
theorem pb_seed {r : Int32} (hi : i + 6 ≤ L) (hL : L ≤ 3072) (k : AG (XL b L xs) cl sl 1041 [some (.ref 1000), some (.ref 0), some (.ref 125), some (.int (iN i))] [.int (xs (ix ((iN i) + 1))), .ref 125, .int r] h) : AG (XL b L xs) cl sl 1035 [some (.ref 1000), some (.ref 0), some (.ref 125), some (.int (iN i))] [.int r] h := by
  refine AL.g sK_l_27 7 5 True 1040 [some (.ref 1000), some (.ref 0), some (.ref 125), some (.int (iN i))] [.int ((iN i) + 1), .ref 1000, .ref 125, .int r] h rfl trivial ?_
  refine AL.ld (SK.at sK_l_27 12 rfl) (il_in (k := 1) hi hL (by decide)) rfl ?_
  exact k
theorem pc_seed {r : Int32} (k : AG (XL b L xs) cl sl 1121 [some (.ref 1000), some (.ref 0), some (.ref 125), some (.int (iN i))] [] h) : AG (XL b L xs) cl sl 1044 [some (.ref 1000), some (.ref 0), some (.ref 125), some (.int (iN i))] [.int r, .int r] h := AL.cT (P := r = r) rfl (SK.at sK_l_27 14 rfl) 1121 1047 1121 rfl rfl rfl rfl k
theorem pa_days (hi : i + 6 ≤ L) (hL : L ≤ 3072) (k : AG (XL b L xs) cl sl 1055 [some (.ref 1000), some (.ref 0), some (.ref 125), some (.int (iN i))] [.int (xs (ix ((iN i) + 1))), .ref 0] h) : AG (XL b L xs) cl sl 1049 [some (.ref 1000), some (.ref 0), some (.ref 125), some (.int (iN i))] [] h := by
  refine AL.g sK_l_28 0 5 True 1054 [some (.ref 1000), some (.ref 0), some (.ref 125), some (.int (iN i))] [.int ((iN i) + 1), .ref 1000, .ref 0] h rfl trivial ?_
  refine AL.ld (SK.at sK_l_28 5 rfl) (il_in (k := 1) hi hL (by decide)) rfl ?_
  exact k
theorem pb_days {r : Int32} (hi : i + 6 ≤ L) (hL : L ≤ 3072) (k : AG (XL b L xs) cl sl 1064 [some (.ref 1000), some (.ref 0), some (.ref 125), some (.int (iN i))] [.int (xs (ix ((iN i) + 1))), .ref 125, .int r] h) : AG (XL b L xs) cl sl 1058 [some (.ref 1000), some (.ref 0), some (.ref 125), some (.int (iN i))] [.int r] h := by
  refine AL.g sK_l_28 7 5 True 1063 [some (.ref 1000), some (.ref 0), some (.ref 125), some (.int (iN i))] [.int ((iN i) + 1), .ref 1000, .ref 125, .int r] h rfl trivial ?_
  refine AL.ld (SK.at sK_l_28 12 rfl) (il_in (k := 1) hi hL (by decide)) rfl ?_
  exact k
theorem pc_days {r : Int32} (k : AG (XL b L xs) cl sl 1121 [some (.ref 1000), some (.ref 0), some (.ref 125), some (.int (iN i))] [] h) : AG (XL b L xs) cl sl 1067 [some (.ref 1000), some (.ref 0), some (.ref 125), some (.int (iN i))] [.int r, .int r] h := AL.cT (P := r = r) rfl (SK.at sK_l_28 14 rfl) 1121 1070 1121 rfl rfl rfl rfl k
theorem pa_image (hi : i + 6 ≤ L) (hL : L ≤ 3072) (k : AG (XL b L xs) cl sl 1073 [some (.ref 1000), some (.ref 0), some (.ref 125), some (.int (iN i))] [.ref 0] h) : AG (XL b L xs) cl sl 1072 [some (.ref 1000), some (.ref 0), some (.ref 125), some (.int (iN i))] [] h := by
  refine AL.g sK_l_29 0 1 True 1073 [some (.ref 1000), some (.ref 0), some (.ref 125), some (.int (iN i))] [.ref 0] h rfl trivial ?_
  exact k
theorem pb_image {r : Int32} (hi : i + 6 ≤ L) (hL : L ≤ 3072) (k : AG (XL b L xs) cl sl 1077 [some (.ref 1000), some (.ref 0), some (.ref 125), some (.int (iN i))] [.ref 125, .int r] h) : AG (XL b L xs) cl sl 1076 [some (.ref 1000), some (.ref 0), some (.ref 125), some (.int (iN i))] [.int r] h := by
  refine AL.g sK_l_29 2 1 True 1077 [some (.ref 1000), some (.ref 0), some (.ref 125), some (.int (iN i))] [.ref 125, .int r] h rfl trivial ?_
  exact k
theorem pc_image {r : Int32} (k : AG (XL b L xs) cl sl 1121 [some (.ref 1000), some (.ref 0), some (.ref 125), some (.int (iN i))] [] h) : AG (XL b L xs) cl sl 1080 [some (.ref 1000), some (.ref 0), some (.ref 125), some (.int (iN i))] [.int r, .int r] h := AL.cT (P := r = r) rfl (SK.at sK_l_29 4 rfl) 1121 1083 1121 rfl rfl rfl rfl k
theorem pa_back (hi : i + 6 ≤ L) (hL : L ≤ 3072) (k : AG (XL b L xs) cl sl 1086 [some (.ref 1000), some (.ref 0), some (.ref 125), some (.int (iN i))] [.ref 0] h) : AG (XL b L xs) cl sl 1085 [some (.ref 1000), some (.ref 0), some (.ref 125), some (.int (iN i))] [] h := by
  refine AL.g sK_l_30 0 1 True 1086 [some (.ref 1000), some (.ref 0), some (.ref 125), some (.int (iN i))] [.ref 0] h rfl trivial ?_
  exact k
theorem pb_back {r : Int32} (hi : i + 6 ≤ L) (hL : L ≤ 3072) (k : AG (XL b L xs) cl sl 1090 [some (.ref 1000), some (.ref 0), some (.ref 125), some (.int (iN i))] [.ref 125, .int r] h) : AG (XL b L xs) cl sl 1089 [some (.ref 1000), some (.ref 0), some (.ref 125), some (.int (iN i))] [.int r] h := by
  refine AL.g sK_l_30 2 1 True 1090 [some (.ref 1000), some (.ref 0), some (.ref 125), some (.int (iN i))] [.ref 125, .int r] h rfl trivial ?_
  exact k
theorem pc_back {r : Int32} (k : AG (XL b L xs) cl sl 1121 [some (.ref 1000), some (.ref 0), some (.ref 125), some (.int (iN i))] [] h) : AG (XL b L xs) cl sl 1093 [some (.ref 1000), some (.ref 0), some (.ref 125), some (.int (iN i))] [.int r, .int r] h := AL.cT (P := r = r) rfl (SK.at sK_l_30 4 rfl) 1121 1096 1121 rfl rfl rfl rfl k
theorem pa_about (hi : i + 6 ≤ L) (hL : L ≤ 3072) (k : AG (XL b L xs) cl sl 1104 [some (.ref 1000), some (.ref 0), some (.ref 125), some (.int (iN i))] [.int (xs (ix ((iN i) + 1))), .ref 0] h) : AG (XL b L xs) cl sl 1098 [some (.ref 1000), some (.ref 0), some (.ref 125), some (.int (iN i))] [] h := by
  refine AL.g sK_l_31 0 5 True 1103 [some (.ref 1000), some (.ref 0), some (.ref 125), some (.int (iN i))] [.int ((iN i) + 1), .ref 1000, .ref 0] h rfl trivial ?_
  refine AL.ld (SK.at sK_l_31 5 rfl) (il_in (k := 1) hi hL (by decide)) rfl ?_
  exact k
theorem pb_about {r : Int32} (hi : i + 6 ≤ L) (hL : L ≤ 3072) (k : AG (XL b L xs) cl sl 1113 [some (.ref 1000), some (.ref 0), some (.ref 125), some (.int (iN i))] [.int (xs (ix ((iN i) + 1))), .ref 125, .int r] h) : AG (XL b L xs) cl sl 1107 [some (.ref 1000), some (.ref 0), some (.ref 125), some (.int (iN i))] [.int r] h := by
  refine AL.g sK_l_31 7 5 True 1112 [some (.ref 1000), some (.ref 0), some (.ref 125), some (.int (iN i))] [.int ((iN i) + 1), .ref 1000, .ref 125, .int r] h rfl trivial ?_
  refine AL.ld (SK.at sK_l_31 12 rfl) (il_in (k := 1) hi hL (by decide)) rfl ?_
  exact k
theorem pc_about {r : Int32} (k : AG (XL b L xs) cl sl 1121 [some (.ref 1000), some (.ref 0), some (.ref 125), some (.int (iN i))] [] h) : AG (XL b L xs) cl sl 1116 [some (.ref 1000), some (.ref 0), some (.ref 125), some (.int (iN i))] [.int r, .int r] h := AL.cT (P := r = r) rfl (SK.at sK_l_31 14 rfl) 1121 1119 1121 rfl rfl rfl rfl k
end
