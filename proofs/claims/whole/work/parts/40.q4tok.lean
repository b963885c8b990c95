/-! ===== PURE: text: the reference's next token ===== -/
theorem spn_out {p : Nat → Bool} {B : Nat → Nat} : ∀ f s, spn p B f s < s + f → p (B (spn p B f s)) = false
  | 0, s, h => by unfold spn at h; omega
  | f + 1, s, h => by
    unfold spn at h ⊢
    cases c : p (B s) with
    | true => rw [c, if_pos rfl] at h; rw [if_pos rfl]; exact spn_out f (s + 1) (by omega)
    | false => rw [if_neg (by decide)]; exact c
theorem tkL_skip {B : Nat → Nat} {n : Nat} : ∀ f s, s + f = n → tkL B n s = tkL B n (spn isBn B f s)
  | 0, s, h => rfl
  | f + 1, s, h => by
    unfold spn
    cases c : isBn (B s) with
    | true => rw [if_pos rfl, tkL_blank (by omega) c]; exact tkL_skip f (s + 1) (by omega)
    | false => rw [if_neg (by decide)]
theorem slN_snoc {B : Nat → Nat} {s k : Nat} : slN B s (s + (k + 1)) = slN B s (s + k) ++ [B (s + k)] := by
  unfold slN
  rw [show s + (k + 1) - s = k + 1 by omega, show s + k - s = k by omega, List.range_succ, List.map_append]; rfl
section
variable {by_ tp : Nat → Int32} {n s e : Nat} {B : Nat → Nat}
theorem M_byteIn (h : TB by_ tp n B) (hs : s < n) : f_m_byteAt (iN n) tp (iN s) = some (iN (B s)) := by
  have h1 := h.1
  simp (disch := omega) only [f_m_byteAt, nlit, iN_lt, iN_inb, iN_ix, ltT, (h.2 s hs).2.2, ↓reduceIte]
theorem M_byteOut (h : n ≤ 300) (hs : n ≤ s) (hs2 : s < 1000) : f_m_byteAt (iN n) tp (iN s) = some mI := by
  simp (disch := omega) only [f_m_byteAt, nlit, negone, iN_lt, ltF, ↓reduceIte]
theorem M_isLetter {b : Nat} (hb : b < 256) : f_m_isLetter (iN b) = some (b01 (isLn b)) := by
  have key : ∀ b, b < 256 → f_m_isLetter (iN b) = some (b01 (isLn b)) := by decide +kernel
  exact key b hb
theorem M_isDigit {b : Nat} (hb : b < 256) : f_m_isDigit (iN b) = some (b01 (isDn b)) := by
  have key : ∀ b, b < 256 → f_m_isDigit (iN b) = some (b01 (isDn b)) := by decide +kernel
  exact key b hb
theorem M_isDigitNo : f_m_isDigit mI = some (b01 false) := by decide +kernel
theorem M_isLetterNo : f_m_isLetter mI = some (b01 false) := by decide +kernel
theorem M_blanks (h : TB by_ tp n B) : ∀ (f s z : Nat), s + f = n → f < z → itr (fb_m_nextToken_0 (iN n) tp) z (iN s) = some (iN (spn isBn B f s))
  | 0, s, z, hs, hz => by
    obtain ⟨z, rfl⟩ : ∃ y, z = y + 1 := ⟨z - 1, by omega⟩
    have h1 := h.1
    have e1 := M_byteOut (tp := tp) (s := s) h1 (by omega) (by omega)
    have a1 : (mI = iN 32) = False := eq_false (by decide)
    have a2 : (mI = iN 10) = False := eq_false (by decide)
    refine itr_end ?_
    simp only [fb_m_nextToken_0, nlit, e1, a1, a2, Option.bind_some, ↓reduceIte]; rfl
  | f + 1, s, z, hs, hz => by
    obtain ⟨z, rfl⟩ : ∃ y, z = y + 1 := ⟨z - 1, by omega⟩
    have h1 := h.1
    have hb := (h.2 s (by omega)).1
    have e1 := M_byteIn (s := s) h (by omega)
    have q32 : (iN (B s) = iN 32) = (B s = 32) := iN_eq (by omega) (by omega)
    have q10 : (iN (B s) = iN 10) = (B s = 10) := iN_eq (by omega) (by omega)
    unfold spn
    cases c : isBn (B s) with
    | true =>
      rw [if_pos rfl, ← M_blanks h f (s + 1) z (by omega) (by omega)]
      refine itr_step ?_
      unfold isBn at c
      have c := of_decide_eq_true c
      by_cases c1 : B s = 32
      · have q : (iN (B s) = iN 32) = True := q32.trans (eq_true c1)
        simp only [fb_m_nextToken_0, nlit, e1, q, iN_add, Option.bind_some, ↓reduceIte]
      · have q : (iN (B s) = iN 32) = False := q32.trans (eq_false c1)
        have q' : (iN (B s) = iN 10) = True := q10.trans (eq_true (by omega))
        simp only [fb_m_nextToken_0, nlit, e1, q, q', iN_add, Option.bind_some, ↓reduceIte]
    | false =>
      rw [if_neg (by decide)]
      unfold isBn at c
      have c := of_decide_eq_false c
      have q : (iN (B s) = iN 32) = False := q32.trans (eq_false (by omega))
      have q' : (iN (B s) = iN 10) = False := q10.trans (eq_false (by omega))
      refine itr_end ?_
      simp only [fb_m_nextToken_0, nlit, e1, q, q', Option.bind_some, ↓reduceIte]
/-- the number, as both have it -/
def NV (v m : Nat) : Prop := m < 2000000 ∧ v ≤ 10000 ∧ (v ≤ 9999 → m = v) ∧ (9999 < v → 9999 < m)
theorem M_digits (h : TB by_ tp n B) : ∀ (f s v m z : Nat), s + f = n → f < z → NV v m → ∃ m', itr (un2 (fb_m_nextToken_85 (iN n) tp)) z (iN s, iN m) = some (iN (spn isDn B f s), iN m') ∧ NV (nuF B (spn isDn B f s - s) s v) m'
  | 0, s, v, m, z, hs, hz, hv => by
    obtain ⟨z, rfl⟩ : ∃ y, z = y + 1 := ⟨z - 1, by omega⟩
    have h1 := h.1
    have e1 := M_byteOut (tp := tp) (s := s) h1 (by omega) (by omega)
    refine ⟨m, itr_end ?_, ?_⟩
    · simp only [un2, fb_m_nextToken_85, nlit, e1, M_isDigitNo, bF0, Option.bind_some, ↓reduceIte]; rfl
    · show NV (nuF B (s - s) s v) m
      rw [Nat.sub_self]; exact hv
  | f + 1, s, v, m, z, hs, hz, hv => by
    obtain ⟨z, rfl⟩ : ∃ y, z = y + 1 := ⟨z - 1, by omega⟩
    have h1 := h.1
    have hb := (h.2 s (by omega)).1
    have e1 := M_byteIn (s := s) h (by omega)
    have e2 := M_isDigit hb
    unfold spn
    cases c : isDn (B s) with
    | true =>
      rw [c] at e2
      rw [if_pos rfl]
      have hge := spn_le (p := isDn) (B := B) f (s + 1)
      unfold isDn at c
      have c := of_decide_eq_true c
      obtain ⟨v1, v2, v3, v4⟩ := hv
      have hnu : nuF B (spn isDn B f (s + 1) - s) s v = nuF B (spn isDn B f (s + 1) - (s + 1)) (s + 1) (min (v * 10 + B s - 48) 10000) := by
        rw [show spn isDn B f (s + 1) - s = (spn isDn B f (s + 1) - (s + 1)) + 1 by omega]; rfl
      rw [hnu]
      by_cases c2 : m < 100000
      · have hlt : (iN m < iN 100000) = True := by rw [iN_lt (by omega) (by omega)]; exact eq_true c2
        have hval : iN 10 * iN m + iN (B s) - iN 48 = iN (10 * m + B s - 48) := by rw [iN_mul, iN_add, iN_sub (by omega)]
        have st : un2 (fb_m_nextToken_85 (iN n) tp) (iN s, iN m) = some (.inl (iN (s + 1), iN (10 * m + B s - 48))) := by
          simp only [un2, fb_m_nextToken_85, nlit, e1, e2, bT0, hlt, hval, bnd, iN_add, Option.bind_some, ↓reduceIte]
        rw [itr_step st]
        refine M_digits h f (s + 1) _ _ z (by omega) (by omega) ⟨by omega, Nat.min_le_right _ _, fun q => ?_, fun q => ?_⟩
        · by_cases c3 : v ≤ 9999
          · rw [v3 c3] at *; omega
          · omega
        · by_cases c3 : v ≤ 9999
          · rw [v3 c3] at *; omega
          · have := v4 (by omega); omega
      · have hlt : (iN m < iN 100000) = False := by rw [iN_lt (by omega) (by omega)]; exact eq_false c2
        have st : un2 (fb_m_nextToken_85 (iN n) tp) (iN s, iN m) = some (.inl (iN (s + 1), iN m)) := by
          simp only [un2, fb_m_nextToken_85, nlit, e1, e2, bT0, hlt, iN_add, Option.bind_some, ↓reduceIte]
        rw [itr_step st]
        have hv9 : 9999 < v := by
          by_cases c3 : v ≤ 9999
          · have := v3 c3; omega
          · omega
        exact M_digits h f (s + 1) _ _ z (by omega) (by omega) ⟨v1, Nat.min_le_right _ _, fun q => by omega, fun q => v4 hv9⟩
    | false =>
      rw [c] at e2
      rw [if_neg (by decide)]
      refine ⟨m, itr_end ?_, ?_⟩
      · simp only [un2, fb_m_nextToken_85, nlit, e1, e2, bF0, Option.bind_some, ↓reduceIte]
      · rw [Nat.sub_self]; exact hv
theorem M_letters (h : TB by_ tp n B) : ∀ (f k z : Nat), s + k + f = n → f < z → (∀ j, j < k → isLn (B (s + j)) = true) → itr (un2 (fb_m_nextToken_161 (iN n) (iN s) tp)) z (iN (s + k), jN (pkL (slN B s (s + min k 7)))) = some (iN (spn isLn B f (s + k)), jN (pkL (slN B s (s + min (spn isLn B f (s + k) - s) 7))))
  | 0, k, z, hs, hz, hp => by
    obtain ⟨z, rfl⟩ : ∃ y, z = y + 1 := ⟨z - 1, by omega⟩
    have h1 := h.1
    have e1 := M_byteOut (tp := tp) (s := s + k) h1 (by omega) (by omega)
    unfold spn
    rw [show s + k - s = k by omega]
    refine itr_end ?_
    simp only [un2, fb_m_nextToken_161, nlit, e1, M_isLetterNo, bF0, Option.bind_some, ↓reduceIte]
  | f + 1, k, z, hs, hz, hp => by
    obtain ⟨z, rfl⟩ : ∃ y, z = y + 1 := ⟨z - 1, by omega⟩
    have h1 := h.1
    have hb := (h.2 (s + k) (by omega)).1
    have e1 := M_byteIn (s := s + k) h (by omega)
    have e2 := M_isLetter hb
    have hsub : iN (s + k) - iN s = iN k := by rw [iN_sub (by omega)]; congr 1; omega
    unfold spn
    cases c : isLn (B (s + k)) with
    | true =>
      rw [c] at e2
      rw [if_pos rfl]
      have ih := M_letters h f (k + 1) z (by omega) (by omega) (fun j hj => by
        by_cases e : j = k
        · rw [e]; exact c
        · exact hp j (by omega))
      rw [show s + (k + 1) = s + k + 1 by omega] at ih
      rw [← ih]
      refine itr_step ?_
      by_cases c2 : k < 7
      · have hlt : (iN k < 7) = True := by
          show (iN k < iN 7) = True
          rw [iN_lt (by omega) (by omega)]; exact eq_true c2
        have hpk : pkL (slN B s (s + k)) < 281474976710656 := by
          have := pkL_lt 6 (slN B s (s + k)) (by rw [slN_len]; omega) (fun y hy => by
            unfold slN at hy
            obtain ⟨j, hj, rfl⟩ := List.mem_map.mp hy
            have := List.mem_range.mp hj
            exact (h.2 (s + j) (by omega)).1)
          exact this
        have hw := sh8 hpk hb
        rw [Nat.min_eq_left (show k ≤ 7 by omega), Nat.min_eq_left (show k + 1 ≤ 7 by omega), slN_snoc, pkL_snoc]
        have b0 : (b01 true = 0) = False := bT0
        have i1 : iN (s + k) + 1 = iN (s + k + 1) := iN_add (a := s + k) (b := 1)
        simp only [un2, fb_m_nextToken_161, e1, e2, b0, hsub, hlt, hw, bnd, i1, Option.bind_some, ↓reduceIte]
      · have hlt : (iN k < iN 7) = False := by rw [iN_lt (by omega) (by omega)]; exact eq_false c2
        rw [Nat.min_eq_right (show 7 ≤ k by omega), Nat.min_eq_right (show 7 ≤ k + 1 by omega)]
        simp only [un2, fb_m_nextToken_161, nlit, e1, e2, bT0, hsub, hlt, iN_add, Option.bind_some, ↓reduceIte]
    | false =>
      rw [c] at e2
      rw [if_neg (by decide)]
      refine itr_end ?_
      rw [show s + k - s = k by omega]
      simp only [un2, fb_m_nextToken_161, nlit, e1, e2, bF0, Option.bind_some, ↓reduceIte]
end
