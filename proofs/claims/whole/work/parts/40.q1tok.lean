/-! ===== PURE: text: the class's words and numbers ===== -/
theorem slN_get {B : Nat → Nat} {s e j : Nat} (h : j < e - s) : (slN B s e)[j]? = some (B (s + j)) := by
  unfold slN
  rw [List.getElem?_map, List.getElem?_range h]; rfl
theorem slN_len {B : Nat → Nat} {s e : Nat} : (slN B s e).length = e - s := by unfold slN; rw [List.length_map, List.length_range]
theorem slN_eq {B : Nat → Nat} {s e : Nat} {w : List Nat} (hl : w.length = e - s) (h : ∀ j, j < e - s → B (s + j) = w.getD j 0) : slN B s e = w := by
  refine List.ext_getElem? (fun j => ?_)
  by_cases c : j < e - s
  · rw [slN_get c, h j c, List.getD_eq_getElem?_getD, List.getElem?_eq_getElem (by omega)]; rfl
  · rw [List.getElem?_eq_none_iff.mpr (by rw [slN_len]; omega), List.getElem?_eq_none_iff.mpr (by omega)]
section
variable {by_ tp : Nat → Int32} {n s e : Nat} {B : Nat → Nat}
theorem C_wordLoop (h : TB by_ tp n B) (he : e ≤ n) {f : Nat} {w : List Nat} (hw : ∀ j, j < w.length → chr0 (f + j) = iN (w.getD j 0) ∧ w.getD j 0 < 256) (hl : w.length = e - s) (hf : f + w.length < 68) : ∀ (m k z : Nat), s + k + m = e → m < z → (∀ j, j < k → B (s + j) = w.getD j 0) → (itr (fb_rd_isWordAt_3 (iN n) by_ (iN f) (iN s) (iN e)) z (iN (s + k)) = some (.inr ()) ∧ slN B s e = w) ∨ (itr (fb_rd_isWordAt_3 (iN n) by_ (iN f) (iN s) (iN e)) z (iN (s + k)) = some (.inl ()) ∧ slN B s e ≠ w)
  | 0, k, z, hk, hz, hp => by
    obtain ⟨z, rfl⟩ : ∃ y, z = y + 1 := ⟨z - 1, by omega⟩
    have h1 := h.1
    refine Or.inl ⟨itr_end ?_, slN_eq hl (fun j hj => hp j (by omega))⟩
    simp (disch := omega) only [fb_rd_isWordAt_3, iN_lt, ltF, ↓reduceIte]
  | m + 1, k, z, hk, hz, hp => by
    obtain ⟨z, rfl⟩ : ∃ y, z = y + 1 := ⟨z - 1, by omega⟩
    have h1 := h.1
    have hkw : k < w.length := by omega
    obtain ⟨c1, c2⟩ := hw k hkw
    have hb := (h.2 (s + k) (by omega)).1
    have e1 := C_byteIn (s := s + k) h (by omega)
    have hlt : (iN (s + k) < iN e) = True := by rw [iN_lt (by omega) (by omega)]; exact eq_true (by omega)
    have hj : iN f + iN (s + k) - iN s = iN (f + k) := by rw [iN_add, iN_sub (by omega)]; congr 1; omega
    have hj2 : iN (f + (s + k)) - iN s = iN (f + k) := by rw [iN_sub (by omega)]; congr 1; omega
    have h0 : (iN (f + k) < iN 0) = False := iN_nneg (by omega)
    have h68 : (iN (f + k) < iN 68) = True := by rw [iN_lt (by omega) (by omega)]; exact eq_true (by omega)
    have hi : inb (iN (f + k)) 68 = True := by rw [iN_inb (by omega)]; exact eq_true (by omega)
    have hx : ix (iN (f + k)) = f + k := iN_ix (by omega)
    by_cases q : B (s + k) = w.getD k 0
    · have q' : (iN (w.getD k 0) = iN (B (s + k))) = True := eq_true (by rw [q])
      have st : fb_rd_isWordAt_3 (iN n) by_ (iN f) (iN s) (iN e) (iN (s + k)) = some (.inl (iN (s + (k + 1)))) := by
        simp only [fb_rd_isWordAt_3, nlit, hlt, hj2, h0, h68, hi, hx, e1, c1, q', iN_add, Nat.add_assoc, Option.bind_some, ↓reduceIte]
      rw [itr_step st]
      refine C_wordLoop h he hw hl hf m (k + 1) z (by omega) (by omega) (fun j hj' => ?_)
      by_cases c : j = k
      · rw [c]; exact q
      · exact hp j (by omega)
    · have q' : (iN (w.getD k 0) = iN (B (s + k))) = False := by rw [iN_eq (by omega) (by omega)]; exact eq_false (fun z => q z.symm)
      refine Or.inr ⟨itr_end ?_, fun z => q ?_⟩
      · simp only [fb_rd_isWordAt_3, nlit, hlt, hj, h0, h68, hi, hx, e1, c1, q', Option.bind_some, ↓reduceIte]
      · have := slN_get (B := B) (s := s) (e := e) (j := k) (by omega)
        rw [z] at this
        rw [List.getD_eq_getElem?_getD, this]; rfl
theorem C_isWordAt (h : TB by_ tp n B) (he : e ≤ n) (hse : s ≤ e) {f : Nat} {w : List Nat} (hw : ∀ j, j < w.length → chr0 (f + j) = iN (w.getD j 0) ∧ w.getD j 0 < 256) (hl : w.length = e - s) (hf : f + w.length < 68) : f_rd_isWordAt (iN n) by_ (iN f) (iN s) (iN e) = some (b01 (decide (slN B s e = w))) := by
  have h1 := h.1
  rcases C_wordLoop h he hw hl hf (e - s) 0 KF (by omega) (kf_lt (by omega)) (fun j hj => absurd hj (Nat.not_lt_zero _)) with ⟨a, b⟩ | ⟨a, b⟩
  · rw [decide_eq_true b]
    simp only [f_rd_isWordAt, nlit, show itr (fb_rd_isWordAt_3 (iN n) by_ (iN f) (iN s) (iN e)) KF (iN s) = some (.inr ()) from a, Sum.elim_inr, Option.bind_some]; rfl
  · rw [decide_eq_false b]
    simp only [f_rd_isWordAt, nlit, show itr (fb_rd_isWordAt_3 (iN n) by_ (iN f) (iN s) (iN e)) KF (iN s) = some (.inl ()) from a, Sum.elim_inl, Option.bind_some]; rfl
def layB : Nat → List (List Nat) → Bool
  | f, [] => decide (f = 68)
  | f, w :: ws => decide (∀ j, j < w.length → chr0 (f + j) = iN (w.getD j 0) ∧ w.getD j 0 < 256 ∧ w.getD j 0 ≠ 32) && decide (chr0 (f + w.length) = iN 32) && decide (f + w.length < 68) && layB (f + w.length + 1) ws
theorem lay_WD : layB 0 WD = true := by decide +kernel
theorem C_kwSkip {l1 l2 l3 : Int32} {f : Nat} {w : List Nat} (hw : ∀ j, j < w.length → chr0 (f + j) = iN (w.getD j 0) ∧ w.getD j 0 < 256 ∧ w.getD j 0 ≠ 32) (hf : f + w.length < 68) : ∀ (m k z : Nat), k + m = w.length → itr (un3 (fb_rd_kindOfWord_9 (iN n) by_ l1 l2)) (z + m) (l3, iN f, iN (f + k)) = itr (un3 (fb_rd_kindOfWord_9 (iN n) by_ l1 l2)) z (l3, iN f, iN (f + w.length))
  | 0, k, z, hk => by rw [show k = w.length by omega]; rfl
  | m + 1, k, z, hk => by
    obtain ⟨c1, c2, c3⟩ := hw k (by omega)
    have h68 : (iN (f + k) < iN 68) = True := by rw [iN_lt (by omega) (by omega)]; exact eq_true (by omega)
    have hi : inb (iN (f + k)) 68 = True := by rw [iN_inb (by omega)]; exact eq_true (by omega)
    have hx : ix (iN (f + k)) = f + k := iN_ix (by omega)
    have h32 : (iN (w.getD k 0) = iN 32) = False := by rw [iN_eq (by omega) (by omega)]; exact eq_false c3
    have st : un3 (fb_rd_kindOfWord_9 (iN n) by_ l1 l2) (l3, iN f, iN (f + k)) = some (.inl (l3, iN f, iN (f + (k + 1)))) := by
      simp only [un3, fb_rd_kindOfWord_9, nlit, h68, hi, hx, c1, h32, iN_add, Nat.add_assoc, ↓reduceIte]
    rw [show z + (m + 1) = (z + m) + 1 by omega, itr_step st]
    exact C_kwSkip hw hf m (k + 1) z (by omega)
theorem C_kwLoop (h : TB by_ tp n B) (he : e ≤ n) (hse : s ≤ e) : ∀ (ws : List (List Nat)) (f k z : Nat), layB f ws = true → f ≤ 68 → 68 - f < z → k + ws.length < 100 → itr (un3 (fb_rd_kindOfWord_9 (iN n) by_ (iN s) (iN e))) z (iN k, iN f, iN f) = some (if wdF (slN B s e) ws k = 1 then .inr () else .inl (iN (wdF (slN B s e) ws k))) ∨ k ≤ 1
  | [], f, k, z, hL, hf, hz, hk => by
    obtain ⟨z, rfl⟩ : ∃ y, z = y + 1 := ⟨z - 1, by omega⟩
    unfold layB at hL
    have hf : f = 68 := of_decide_eq_true hL
    have h68 : (iN f < iN 68) = False := by rw [hf]; exact eq_false (by decide)
    refine Or.inl (itr_end ?_)
    simp only [un3, fb_rd_kindOfWord_9, nlit, h68, wdF, ↓reduceIte]
  | w :: ws, f, k, z, hL, hf, hz, hk => by
    by_cases hk1 : k ≤ 1
    · exact Or.inr hk1
    · have h1 := h.1
      unfold layB at hL
      rw [Bool.and_eq_true, Bool.and_eq_true, Bool.and_eq_true, decide_eq_true_eq, decide_eq_true_eq, decide_eq_true_eq] at hL
      obtain ⟨⟨⟨l1, l2⟩, l3⟩, l4⟩ := hL
      obtain ⟨z, rfl⟩ : ∃ y, z = (y + 1) + w.length := ⟨z - w.length - 1, by omega⟩
      have sk : itr (un3 (fb_rd_kindOfWord_9 (iN n) by_ (iN s) (iN e))) (z + 1 + w.length) (iN k, iN f, iN f) = itr (un3 (fb_rd_kindOfWord_9 (iN n) by_ (iN s) (iN e))) (z + 1) (iN k, iN f, iN (f + w.length)) := C_kwSkip (n := n) (by_ := by_) (l1 := iN s) (l2 := iN e) (l3 := iN k) l1 l3 w.length 0 (z + 1) (by omega)
      rw [sk]
      rw [List.length_cons] at hk
      have h68 : (iN (f + w.length) < iN 68) = True := by rw [iN_lt (by omega) (by omega)]; exact eq_true (by omega)
      have hi : inb (iN (f + w.length)) 68 = True := by rw [iN_inb (by omega)]; exact eq_true (by omega)
      have hx : ix (iN (f + w.length)) = f + w.length := iN_ix (by omega)
      have hd1 : iN (f + w.length) - iN f = iN w.length := by rw [iN_sub (by omega)]; congr 1; omega
      have hd2 : iN e - iN s = iN (e - s) := iN_sub hse
      unfold wdF
      have go : slN B s e ≠ w → un3 (fb_rd_kindOfWord_9 (iN n) by_ (iN s) (iN e)) (iN k, iN f, iN (f + w.length)) = some (.inl (iN (k + 1), iN (f + w.length + 1), iN (f + w.length + 1))) → itr (un3 (fb_rd_kindOfWord_9 (iN n) by_ (iN s) (iN e))) (z + 1) (iN k, iN f, iN (f + w.length)) = some (if (if slN B s e = w then k else wdF (slN B s e) ws (k + 1)) = 1 then .inr () else .inl (iN (if slN B s e = w then k else wdF (slN B s e) ws (k + 1)))) ∨ k ≤ 1 := by
        intro hne st
        rw [itr_step st, if_neg hne]
        rcases C_kwLoop h he hse ws (f + w.length + 1) (k + 1) z l4 (by omega) (by omega) (by omega) with q | q
        · exact Or.inl q
        · exact absurd q (by omega)
      by_cases cl : w.length = e - s
      · have hq : (iN w.length = iN (e - s)) = True := eq_true (by rw [cl])
        have hwd := C_isWordAt h he hse (fun j hj => ⟨(l1 j hj).1, (l1 j hj).2.1⟩) cl l3
        by_cases ce : slN B s e = w
        · rw [decide_eq_true ce] at hwd
          rw [if_pos ce, if_neg (show ¬ k = 1 by omega)]
          refine Or.inl (itr_end ?_)
          simp only [un3, fb_rd_kindOfWord_9, nlit, h68, hi, hx, l2, hd1, hd2, hq, hwd, bT0, Option.bind_some, ↓reduceIte]
        · rw [decide_eq_false ce] at hwd
          refine go ce ?_
          simp only [un3, fb_rd_kindOfWord_9, nlit, h68, hi, hx, l2, hd1, hd2, hq, hwd, bF0, iN_add, Option.bind_some, ↓reduceIte]
      · have hq : (iN w.length = iN (e - s)) = False := by rw [iN_eq (by omega) (by omega)]; exact eq_false cl
        have ce : slN B s e ≠ w := fun z => cl (by rw [← z, slN_len])
        refine go ce ?_
        simp only [un3, fb_rd_kindOfWord_9, nlit, h68, hi, hx, l2, hd1, hd2, hq, iN_add, ↓reduceIte]
theorem C_kindOfWord (h : TB by_ tp n B) (he : e ≤ n) (hse : s ≤ e) : f_rd_kindOfWord (iN n) by_ (iN s) (iN e) = some (iN (wdF (slN B s e) WD 20)) := by
  rcases C_kwLoop h he hse WD 0 20 KF lay_WD (by decide) (kf_lt (by decide)) (by decide) with q | q
  · have q' : itr (un3 (fb_rd_kindOfWord_9 (iN n) by_ (iN s) (iN e))) KF (20, 0, 0) = _ := q
    unfold f_rd_kindOfWord
    rw [q', Option.bind_some]
    by_cases c : wdF (slN B s e) WD 20 = 1
    · rw [if_pos c, c]; rfl
    · rw [if_neg c]; rfl
  · exact absurd q (by decide)
theorem C_signs : ∀ b, b < 256 → (if (ixc1 (((iN b).toUInt32 % 65536).toInt32)) < 0 then some 1 else some (3 + (ixc1 (((iN b).toUInt32 % 65536).toInt32)))) = some (iN (sgF b SG 3)) := by decide +kernel
theorem C_kindOf (h : TB by_ tp n B) (hs : s < n) : f_rd_kindOfToken (iN n) by_ (iN s) (iN (teN B n s)) = some (iN (tkN B n s)) := by
  have h1 := h.1
  have hb := (h.2 s hs).1
  obtain ⟨g1, g2⟩ := teN_gt (B := B) hs
  have e1 := C_byteIn h hs
  have e2 := C_isLetter hb
  have e3 := C_isDigit hb
  have e4 := C_kindOfWord h g2 (show s ≤ teN B n s by omega)
  have hd2 : iN (teN B n s) - iN s = iN (teN B n s - s) := iN_sub (by omega)
  unfold tkN
  cases c1 : isLn (B s) with
  | true =>
    rw [c1] at e2
    rw [if_pos rfl]
    simp only [f_rd_kindOfToken, e1, e2, nlit, bT0, e4, Option.bind_some, ↓reduceIte]
  | false =>
    rw [c1] at e2
    rw [if_neg (by decide)]
    cases c2 : isDn (B s) with
    | true =>
      rw [c2] at e3
      rw [if_pos rfl]
      simp only [f_rd_kindOfToken, e1, e2, e3, nlit, bF0, bT0, Option.bind_some, ↓reduceIte]
    | false =>
      rw [c2] at e3
      rw [if_neg (by decide)]
      by_cases c3 : teN B n s = s + 2
      · rw [if_pos c3]
        have q : (iN (teN B n s - s) = iN 2) = True := eq_true (by rw [c3]; congr 1; omega)
        by_cases c4 : B s = 60
        · have q4 : (iN (B s) = iN 60) = True := eq_true (by rw [c4])
          rw [if_pos c4]
          simp only [f_rd_kindOfToken, e1, e2, e3, nlit, bF0, hd2, q, q4, Option.bind_some, ↓reduceIte]
        · have q4 : (iN (B s) = iN 60) = False := by rw [iN_eq (by omega) (by omega)]; exact eq_false c4
          rw [if_neg c4]
          simp only [f_rd_kindOfToken, e1, e2, e3, nlit, bF0, hd2, q, q4, Option.bind_some, ↓reduceIte]
      · rw [if_neg c3]
        have q : (iN (teN B n s - s) = 2) = False := by
          show (iN (teN B n s - s) = iN 2) = False
          rw [iN_eq (by omega) (by omega)]; exact eq_false (by omega)
        have bF : (b01 false = 0) = True := bF0
        rw [← C_signs (B s) hb]
        simp only [f_rd_kindOfToken, e1, e2, e3, bF, hd2, q, Option.bind_some, ↓reduceIte]
theorem nuF_le : ∀ (f s v : Nat), v ≤ 10000 → nuF B f s v ≤ 10000
  | 0, s, v, h => h
  | f + 1, s, v, h => by unfold nuF; exact nuF_le f (s + 1) _ (Nat.min_le_right _ _)
theorem C_numLoop (h : TB by_ tp n B) (he : e ≤ n) : ∀ (f s v z : Nat), s + f = e → f < z → v ≤ 10000 → (∀ k, s ≤ k → k < e → isDn (B k) = true) → itr (un2 (fb_rd_numberOf_5 (iN n) by_ (iN e))) z (iN v, iN s) = some (iN (nuF B f s v))
  | 0, s, v, z, hs, hz, hv, hd => by
    obtain ⟨z, rfl⟩ : ∃ y, z = y + 1 := ⟨z - 1, by omega⟩
    have h1 := h.1
    refine itr_end ?_
    simp (disch := omega) only [un2, fb_rd_numberOf_5, iN_lt, ltF, ↓reduceIte]; rfl
  | f + 1, s, v, z, hs, hz, hv, hd => by
    obtain ⟨z, rfl⟩ : ∃ y, z = y + 1 := ⟨z - 1, by omega⟩
    have h1 := h.1
    have hb := (h.2 s (by omega)).1
    have e1 := C_byteIn (s := s) h (by omega)
    have hlt : (iN s < iN e) = True := by rw [iN_lt (by omega) (by omega)]; exact eq_true (by omega)
    have hdg := hd s (Nat.le_refl _) (by omega)
    unfold isDn at hdg
    have hdg := of_decide_eq_true hdg
    have hval : iN v * iN 10 + iN (B s) - iN 48 = iN (v * 10 + B s - 48) := by rw [iN_mul, iN_add, iN_sub (by omega)]
    have hmin : f_math_min_II (iN (v * 10 + B s - 48)) (iN 10000) = some (iN (min (v * 10 + B s - 48) 10000)) := by
      by_cases c : v * 10 + B s - 48 ≤ 10000
      · rw [Nat.min_eq_left c]
        simp (disch := omega) only [f_math_min_II, nlit, onl, negone, iN_add, iN_mul, iN_sub, iN_pm, iN_addneg, iN_ix, iN_inb, iN_lt, iN_eq, iN_nneg, iN_nm, nm_iN, mI_neg, mI_nnn, ne_eq, not_true_eq_false, not_false_eq_true, true_and, and_true, bnd, Option.bind_some, ↓reduceIte, ltT, ltF, eqT, eqF, leT, leF]
      · rw [Nat.min_eq_right (by omega)]
        simp (disch := omega) only [f_math_min_II, nlit, onl, negone, iN_add, iN_mul, iN_sub, iN_pm, iN_addneg, iN_ix, iN_inb, iN_lt, iN_eq, iN_nneg, iN_nm, nm_iN, mI_neg, mI_nnn, ne_eq, not_true_eq_false, not_false_eq_true, true_and, and_true, bnd, Option.bind_some, ↓reduceIte, ltT, ltF, eqT, eqF, leT, leF]
    have st : un2 (fb_rd_numberOf_5 (iN n) by_ (iN e)) (iN v, iN s) = some (.inl (iN (min (v * 10 + B s - 48) 10000), iN (s + 1))) := by
      simp only [un2, fb_rd_numberOf_5, nlit, hlt, e1, hval, hmin, iN_add, Option.bind_some, ↓reduceIte]
    rw [itr_step st]
    unfold nuF
    exact C_numLoop h he f (s + 1) _ z (by omega) (by omega) (Nat.min_le_right _ _) (fun k h1 h2 => hd k (by omega) h2)
end
