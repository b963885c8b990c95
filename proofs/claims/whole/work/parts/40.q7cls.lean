/-! ===== PURE: text: the class behind a fault ===== -/
theorem C_emitA {c : Nat} {code : Nat → Int32} {v : Int32} (hc : c ≤ 300) : ∃ c' code', f_law_emit (iN c) code v = some (iN c', code') ∧ c' ≤ 300 := by
  by_cases q : c < 300
  · exact ⟨c + 1, upd code c v, by simp (disch := omega) only [f_law_emit, nlit, bnd, iN_add, iN_lt, iN_inb, iN_ix, ltT, ↓reduceIte], by omega⟩
  · exact ⟨c, code, by simp (disch := omega) only [f_law_emit, nlit, iN_lt, ltF, ↓reduceIte], hc⟩
theorem C_emit {c : Nat} {code : Nat → Int32} {v : Int32} (hc : c < 300) : f_law_emit (iN c) code v = some (iN (c + 1), upd code c v) := by
  simp (disch := omega) only [f_law_emit, nlit, bnd, iN_add, iN_lt, iN_inb, iN_ix, ltT, ↓reduceIte]
section
variable {tokens p k al l1 w : Int32} {kd st nu code : Nat → Int32} {f i c : Nat}
theorem H_fail (hf : f ≠ 0) (hf2 : f < 10) : f_rd_fail (iN f) p (iN i) st w = some (iN f, p) := by
  have h0 : (iN f = iN 0) = False := by rw [iN_eq (by omega) (by omega)]; exact eq_false hf
  simp only [f_rd_fail, nlit, h0, ↓reduceIte]
theorem H_step (hf : f ≠ 0) (hf2 : f < 10) : f_rd_step tokens (iN f) (iN i) k kd = some (iN i, k) := by
  have h0 : (iN f = iN 0) = False := by rw [iN_eq (by omega) (by omega)]; exact eq_false hf
  simp only [f_rd_step, nlit, h0, ↓reduceIte]
theorem H_expect (hf : f ≠ 0) (hf2 : f < 10) : f_rd_expect tokens (iN f) p (iN i) k kd st w = some (iN f, p, iN i, k) := by
  by_cases c1 : k = w
  · have c1' : (k = w) = True := eq_true c1
    simp only [f_rd_expect, fj_rd_expect_13, c1', H_step hf hf2, un2, Option.bind_some, ↓reduceIte]
  · have c1' : (k = w) = False := eq_false c1
    simp only [f_rd_expect, fj_rd_expect_13, c1', H_step hf hf2, H_fail hf hf2, un2, Option.bind_some, ↓reduceIte]
theorem H_opens (hf : f ≠ 0) (hf2 : f < 10) : f_rd_opens tokens (iN f) p (iN i) k kd st l1 = some (iN 0, iN f, p, iN i, k) := by
  have h0 : (iN f = iN 0) = False := by rw [iN_eq (by omega) (by omega)]; exact eq_false hf
  by_cases c1 : l1 < iN 8
  · have c1' : (l1 < iN 8) = True := eq_true c1
    simp only [f_rd_opens, fj_rd_opens_11, nlit, c1', h0, H_step hf hf2, un2, Option.bind_some, ↓reduceIte]
  · have c1' : (l1 < iN 8) = False := eq_false c1
    simp only [f_rd_opens, fj_rd_opens_11, nlit, c1', h0, H_step hf hf2, H_fail hf hf2, un2, Option.bind_some, ↓reduceIte]
theorem H_number (hf : f ≠ 0) (hf2 : f < 10) (hi : i ≤ 300) : ∃ v, f_rd_readNumber tokens (iN f) p (iN i) k nu kd st w = some (v, iN f, p, iN i, k) := by
  have hin : inb (iN i) 301 = True := by rw [iN_inb (by omega)]; exact eq_true (by omega)
  refine ⟨nu (ix (iN i)), ?_⟩
  by_cases c1 : k = iN 2
  · have c1' : (k = iN 2) = True := eq_true c1
    by_cases c2 : w < nu (ix (iN i))
    · have c2' : (w < nu (ix (iN i))) = True := eq_true c2
      simp only [f_rd_readNumber, fj_rd_readNumber_36, nlit, hin, c1', c2', H_step hf hf2, H_fail hf hf2, un2, Option.bind_some, ↓reduceIte]
    · have c2' : (w < nu (ix (iN i))) = False := eq_false c2
      simp only [f_rd_readNumber, fj_rd_readNumber_36, nlit, hin, c1', c2', H_step hf hf2, un2, Option.bind_some, ↓reduceIte]
  · have c1' : (k = iN 2) = False := eq_false c1
    simp only [f_rd_readNumber, fj_rd_readNumber_36, nlit, hin, c1', H_step hf hf2, H_fail hf hf2, un2, Option.bind_some, ↓reduceIte]
theorem H_name (hf : f ≠ 0) (hf2 : f < 10) (hc : c ≤ 300) : ∃ c' code', f_rd_readName tokens (iN f) p (iN i) k al st (iN c) kd code = some (iN f, p, iN i, k, iN c', code') ∧ c' ≤ 300 := by
  obtain ⟨c', code', e1, e2⟩ := C_emitA (code := code) (v := iN 20000 + k) hc
  refine ⟨c', code', ?_, e2⟩
  by_cases c1 : k < iN 28
  · have c1' : (k < iN 28) = True := eq_true c1
    simp only [f_rd_readName, fj_rd_readName_18, fj_rd_readName_48, nlit, c1', H_step hf hf2, H_fail hf hf2, e1, un2, Option.bind_some, ↓reduceIte]
  · have c1' : (k < iN 28) = False := eq_false c1
    by_cases c2 : iN 35 < k
    · have c2' : (iN 35 < k) = True := eq_true c2
      simp only [f_rd_readName, fj_rd_readName_18, fj_rd_readName_48, nlit, c1', c2', H_step hf hf2, H_fail hf hf2, e1, un2, Option.bind_some, ↓reduceIte]
    · have c2' : (iN 35 < k) = False := eq_false c2
      by_cases c3 : ((al >>> ((k - iN 28) &&& iN 31)) &&& iN 1) = iN 0
      · have c3' : (((al >>> ((k - iN 28) &&& iN 31)) &&& iN 1) = iN 0) = True := eq_true c3
        simp only [f_rd_readName, fj_rd_readName_18, fj_rd_readName_48, nlit, c1', c2', c3', H_step hf hf2, H_fail hf hf2, e1, un2, Option.bind_some, ↓reduceIte]
      · have c3' : (((al >>> ((k - iN 28) &&& iN 31)) &&& iN 1) = iN 0) = False := eq_false c3
        simp only [f_rd_readName, fj_rd_readName_18, fj_rd_readName_48, nlit, c1', c2', c3', H_step hf hf2, e1, un2, Option.bind_some, ↓reduceIte]
theorem H_one (m : Nat) (hf : f ≠ 0) (hf2 : f < 10) (hi : i ≤ 300) (hc : c ≤ 300) : ∃ c' code', (FG_rd_readSum (m + 1)).2.2 tokens (iN f) p (iN i) k al st (iN c) kd nu code l1 = some (iN f, p, iN i, k, iN c', code') ∧ c' ≤ 300 := by
  show ∃ c' code', fR_rd_readOne (FG_rd_readSum m).1 (FG_rd_readSum m).2.1 (FG_rd_readSum m).2.2 tokens (iN f) p (iN i) k al st (iN c) kd nu code l1 = some (iN f, p, iN i, k, iN c', code') ∧ c' ≤ 300
  by_cases c1 : k = iN 2
  · have c1' : (k = iN 2) = True := eq_true c1
    obtain ⟨v, e1⟩ := H_number (tokens := tokens) (p := p) (k := k) (w := iN 9999) (kd := kd) (st := st) (nu := nu) hf hf2 hi
    obtain ⟨c', code', e2, e3⟩ := C_emitA (code := code) (v := v) hc
    refine ⟨c', code', ?_, e3⟩
    simp only [fR_rd_readOne, nlit, c1', e1, e2, un2, un5, Option.bind_some, ↓reduceIte]
  · have c1' : (k = iN 2) = False := eq_false c1
    by_cases c2 : k = iN 12
    · have c2' : (k = iN 12) = True := eq_true c2
      refine ⟨c, code, ?_, hc⟩
      simp only [fR_rd_readOne, nlit, c1', c2', H_opens hf hf2, un5, Option.bind_some, ↓reduceIte]
    · have c2' : (k = iN 12) = False := eq_false c2
      by_cases c3 : k = iN 8
      · have c3' : (k = iN 8) = True := eq_true c3
        refine ⟨c, code, ?_, hc⟩
        simp only [fR_rd_readOne, nlit, c1', c2', c3', H_opens hf hf2, un5, Option.bind_some, ↓reduceIte]
      · have c3' : (k = iN 8) = False := eq_false c3
        obtain ⟨c', code', e1, e2⟩ := H_name (tokens := tokens) (p := p) (k := k) (al := al) (kd := kd) (st := st) (code := code) (i := i) hf hf2 hc
        refine ⟨c', code', ?_, e2⟩
        simp only [fR_rd_readOne, nlit, c1', c2', c3', e1, un6, Option.bind_some, ↓reduceIte]
theorem H_prod (m : Nat) (hf : f ≠ 0) (hf2 : f < 10) (hi : i ≤ 300) (hc : c ≤ 300) : ∃ c' code', (FG_rd_readSum (m + 2)).2.1 tokens (iN f) p (iN i) k al st (iN c) kd nu code l1 = some (iN f, p, iN i, k, iN c', code') ∧ c' ≤ 300 := by
  show ∃ c' code', fR_rd_readProduct (FG_rd_readSum (m + 1)).1 (FG_rd_readSum (m + 1)).2.1 (FG_rd_readSum (m + 1)).2.2 tokens (iN f) p (iN i) k al st (iN c) kd nu code l1 = some (iN f, p, iN i, k, iN c', code') ∧ c' ≤ 300
  have h0 : (iN f = iN 0) = False := by rw [iN_eq (by omega) (by omega)]; exact eq_false hf
  have h3 : (iN 0 < iN 300) = True := eq_true (by decide)
  obtain ⟨c', code', e1, e2⟩ := H_one (tokens := tokens) (p := p) (k := k) (al := al) (l1 := l1) (kd := kd) (st := st) (nu := nu) (code := code) m hf hf2 hi hc
  refine ⟨c', code', ?_, e2⟩
  have e3 : itr (un7 (fb_rd_readProduct_7 (FG_rd_readSum (m + 1)).1 (FG_rd_readSum (m + 1)).2.1 (FG_rd_readSum (m + 1)).2.2 tokens al st kd nu l1)) KF (iN 0, iN f, p, iN i, k, iN c', code') = some (iN f, p, iN i, k, iN c', code') := by
    obtain ⟨z, hz⟩ : ∃ z, KF = z + 1 := ⟨KF - 1, by have : 100 < KF := kf_lt (by decide); omega⟩
    rw [hz]
    refine itr_end ?_
    simp only [un7, fb_rd_readProduct_7, nlit, h3, h0, ↓reduceIte]
  simp only [fR_rd_readProduct, nlit, e1, un6, e3, Option.bind_some]
theorem H_sum (m : Nat) (hf : f ≠ 0) (hf2 : f < 10) (hi : i ≤ 300) (hc : c ≤ 300) : ∃ c' code', (FG_rd_readSum (m + 3)).1 tokens (iN f) p (iN i) k al st (iN c) kd nu code l1 = some (iN f, p, iN i, k, iN c', code') ∧ c' ≤ 300 := by
  show ∃ c' code', fR_rd_readSum (FG_rd_readSum (m + 2)).1 (FG_rd_readSum (m + 2)).2.1 (FG_rd_readSum (m + 2)).2.2 tokens (iN f) p (iN i) k al st (iN c) kd nu code l1 = some (iN f, p, iN i, k, iN c', code') ∧ c' ≤ 300
  have h0 : (iN f = iN 0) = False := by rw [iN_eq (by omega) (by omega)]; exact eq_false hf
  have h3 : (iN 0 < iN 300) = True := eq_true (by decide)
  obtain ⟨c', code', e1, e2⟩ := H_prod (tokens := tokens) (p := p) (k := k) (al := al) (l1 := l1) (kd := kd) (st := st) (nu := nu) (code := code) m hf hf2 hi hc
  refine ⟨c', code', ?_, e2⟩
  have e3 : itr (un7 (fb_rd_readSum_7 (FG_rd_readSum (m + 2)).1 (FG_rd_readSum (m + 2)).2.1 (FG_rd_readSum (m + 2)).2.2 tokens al st kd nu l1)) KF (iN 0, iN f, p, iN i, k, iN c', code') = some (iN f, p, iN i, k, iN c', code') := by
    obtain ⟨z, hz⟩ : ∃ z, KF = z + 1 := ⟨KF - 1, by have : 100 < KF := kf_lt (by decide); omega⟩
    rw [hz]
    refine itr_end ?_
    simp only [un7, fb_rd_readSum_7, nlit, h3, h0, ↓reduceIte]
  simp only [fR_rd_readSum, nlit, e1, un6, e3, Option.bind_some]
theorem H_sumF (hf : f ≠ 0) (hf2 : f < 10) (hi : i ≤ 300) (hc : c ≤ 300) : ∃ c' code', f_rd_readSum tokens (iN f) p (iN i) k al st (iN c) kd nu code l1 = some (iN f, p, iN i, k, iN c', code') ∧ c' ≤ 300 := H_sum 41 hf hf2 hi hc
theorem H_ask57 {F : Int32 → Int32 → Int32 → Int32 → Int32 → Int32 → (Nat → Int32) → Int32 → (Nat → Int32) → (Nat → Int32) → (Nat → Int32) → Int32 → Option ((Int32 × Int32 × Int32 × Int32 × Int32 × (Nat → Int32)))} (hf : f ≠ 0) (hf2 : f < 10) (hi : i ≤ 300) (hc : c ≤ 300) : ∃ c' code', fj_rd_readAsk_57 F tokens (iN f) p (iN i) k al st (iN c) kd nu code l1 w = some (iN f, p, iN i, k, iN c', code') ∧ c' ≤ 300 := by
  obtain ⟨c1, code1, e1, e2⟩ := H_sumF (tokens := tokens) (p := p) (k := k) (al := al) (l1 := l1) (kd := kd) (st := st) (nu := nu) (code := code) hf hf2 hi hc
  obtain ⟨c', code', e3, e4⟩ := C_emitA (code := code1) (v := iN 20000 + w) e2
  refine ⟨c', code', ?_, e4⟩
  simp only [fj_rd_readAsk_57, nlit, H_step hf hf2, e1, e3, un2, un6, Option.bind_some]
theorem H_ask (m : Nat) (hf : f ≠ 0) (hf2 : f < 10) (hi : i ≤ 300) (hc : c ≤ 300) : ∃ c' code', (FG_rd_readAsk (m + 1)) tokens (iN f) p (iN i) k al st (iN c) kd nu code l1 = some (iN f, p, iN i, k, iN c', code') ∧ c' ≤ 300 := by
  show ∃ c' code', fR_rd_readAsk (FG_rd_readAsk m) tokens (iN f) p (iN i) k al st (iN c) kd nu code l1 = some (iN f, p, iN i, k, iN c', code') ∧ c' ≤ 300
  by_cases c1 : k = iN 27
  · have c1' : (k = iN 27) = True := eq_true c1
    refine ⟨c, code, ?_, hc⟩
    simp only [fR_rd_readAsk, nlit, c1', H_opens hf hf2, un5, Option.bind_some, ↓reduceIte]
  · have c1' : (k = iN 27) = False := eq_false c1
    obtain ⟨c2, code2, e1, e2⟩ := H_sumF (tokens := tokens) (p := p) (k := k) (al := al) (l1 := l1) (kd := kd) (st := st) (nu := nu) (code := code) hf hf2 hi hc
    obtain ⟨c3, code3, e3, e4⟩ := H_ask57 (F := FG_rd_readAsk m) (tokens := tokens) (p := p) (k := k) (al := al) (l1 := l1) (w := k) (kd := kd) (st := st) (nu := nu) (code := code2) hf hf2 hi e2
    obtain ⟨v, hv⟩ : ∃ v, f_rd_compares k = some v := by
      unfold f_rd_compares fj_rd_compares_11
      split
      · split
        · exact ⟨_, rfl⟩
        · split <;> exact ⟨_, rfl⟩
      · split
        · split
          · exact ⟨_, rfl⟩
          · split <;> exact ⟨_, rfl⟩
        · exact ⟨_, rfl⟩
    refine ⟨c3, code3, ?_, e4⟩
    by_cases c4 : v = iN 0
    · have c4' : (v = iN 0) = True := eq_true c4
      simp only [fR_rd_readAsk, nlit, c1', e1, hv, c4', H_fail hf hf2, e3, un2, un6, Option.bind_some, ↓reduceIte]
    · have c4' : (v = iN 0) = False := eq_false c4
      simp only [fR_rd_readAsk, nlit, c1', e1, hv, c4', e3, un6, Option.bind_some, ↓reduceIte]
end
