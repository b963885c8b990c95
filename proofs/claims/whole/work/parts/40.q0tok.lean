/-! ===== PURE: text: tokens ===== -/
def isLn (b : Nat) : Bool := decide ((97 ≤ b ∧ b ≤ 122) ∨ (65 ≤ b ∧ b ≤ 90))
def isDn (b : Nat) : Bool := decide (48 ≤ b ∧ b ≤ 57)
def isBn (b : Nat) : Bool := decide (b = 32 ∨ b = 10)
/-- the bytes of the tape -/
def TB (by_ tp : Nat → Int32) (n : Nat) (B : Nat → Nat) : Prop := n ≤ 300 ∧ ∀ k, k < n → B k < 256 ∧ by_ k = iN (B k) ∧ tp k = iN (B k)
theorem TP.bytes {ln td : Int32} {by_ tp : Nat → Int32} {n : Nat} (h : TP ln by_ td tp n) : TB by_ tp n (fun k => (by_ k).toInt.toNat) := by
  refine ⟨h.2.2.1, fun k hk => ?_⟩
  obtain ⟨v, h1, h2, h3⟩ := h.2.2.2 k hk
  have e : (by_ k).toInt.toNat = v := by rw [h2, iN_toInt (by omega)]; omega
  show (by_ k).toInt.toNat < 256 ∧ by_ k = iN (by_ k).toInt.toNat ∧ tp k = iN (by_ k).toInt.toNat
  rw [e]; exact ⟨h1, h2, h3⟩
def spn (p : Nat → Bool) (B : Nat → Nat) : Nat → Nat → Nat
  | 0, s => s
  | f + 1, s => if p (B s) = true then spn p B f (s + 1) else s
theorem spn_le {p : Nat → Bool} {B : Nat → Nat} : ∀ f s, s ≤ spn p B f s ∧ spn p B f s ≤ s + f
  | 0, s => ⟨Nat.le_refl _, Nat.le_refl _⟩
  | f + 1, s => by
    unfold spn
    by_cases c : p (B s) = true
    · rw [if_pos c]; have := spn_le (p := p) (B := B) f (s + 1); omega
    · rw [if_neg c]; omega
theorem spn_in {p : Nat → Bool} {B : Nat → Nat} : ∀ f s k, s ≤ k → k < spn p B f s → p (B k) = true
  | 0, s, k, h1, h2 => by unfold spn at h2; omega
  | f + 1, s, k, h1, h2 => by
    unfold spn at h2
    by_cases c : p (B s) = true
    · rw [if_pos c] at h2
      by_cases e : k = s
      · rw [e]; exact c
      · exact spn_in f (s + 1) k (by omega) h2
    · rw [if_neg c] at h2; omega
/-- end of the token that begins at s -/
def teN (B : Nat → Nat) (n s : Nat) : Nat := if isLn (B s) = true then spn isLn B (n - (s + 1)) (s + 1) else if isDn (B s) = true then spn isDn B (n - (s + 1)) (s + 1) else if (B s = 60 ∨ B s = 62) ∧ s + 1 < n ∧ B (s + 1) = 61 then s + 2 else s + 1
theorem teN_gt {B : Nat → Nat} {n s : Nat} (hs : s < n) : s < teN B n s ∧ teN B n s ≤ n := by
  unfold teN
  by_cases c1 : isLn (B s) = true
  · rw [if_pos c1]; have := spn_le (p := isLn) (B := B) (n - (s + 1)) (s + 1); omega
  · rw [if_neg c1]
    by_cases c2 : isDn (B s) = true
    · rw [if_pos c2]; have := spn_le (p := isDn) (B := B) (n - (s + 1)) (s + 1); omega
    · rw [if_neg c2]
      by_cases c3 : (B s = 60 ∨ B s = 62) ∧ s + 1 < n ∧ B (s + 1) = 61
      · rw [if_pos c3]; omega
      · rw [if_neg c3]; omega
def slN (B : Nat → Nat) (s e : Nat) : List Nat := (List.range (e - s)).map (fun j => B (s + j))
def WD : List (List Nat) := [[116, 97, 107, 101], [102, 101, 101], [98, 97, 114, 115], [103, 111], [98, 121], [111, 114], [97, 110, 100], [110, 111, 116], [112, 108, 97, 99, 101], [110, 97, 109, 101], [111, 119, 110], [119, 104, 111], [103, 97, 116, 101], [115, 105, 122, 101], [104, 111, 117, 114], [105, 110]]
def wdF (l : List Nat) : List (List Nat) → Nat → Nat
  | [], _ => 1
  | w :: ws, k => if l = w then k else wdF l ws (k + 1)
def sgF (b : Nat) : List Nat → Nat → Nat
  | [], _ => 1
  | c :: cs, k => if c = b then k else sgF b cs (k + 1)
def SG : List Nat := [60, 62, 61, 35, 43, 45, 42, 47, 37, 40, 41, 59]
def tkN (B : Nat → Nat) (n s : Nat) : Nat := if isLn (B s) = true then wdF (slN B s (teN B n s)) WD 20 else if isDn (B s) = true then 2 else if teN B n s = s + 2 then (if B s = 60 then 15 else 16) else sgF (B s) SG 3
def nuF (B : Nat → Nat) : Nat → Nat → Nat → Nat
  | 0, _, v => v
  | f + 1, s, v => nuF B f (s + 1) (min (v * 10 + B s - 48) 10000)
def tnN (B : Nat → Nat) (n s : Nat) : Nat := if isDn (B s) = true then nuF B (teN B n s - s) s 0 else 0
section
variable {by_ tp : Nat → Int32} {n s e : Nat} {B : Nat → Nat}
theorem C_byteIn (h : TB by_ tp n B) (hs : s < n) : f_rd_byteAt (iN n) by_ (iN s) = some (iN (B s)) := by
  have h1 := h.1
  simp (disch := omega) only [f_rd_byteAt, nlit, iN_lt, iN_inb, iN_ix, ltT, ltF, (h.2 s hs).2.1, ↓reduceIte]
theorem C_byteOut (h : n ≤ 300) (hs : n ≤ s) (hs2 : s < 1000) : f_rd_byteAt (iN n) by_ (iN s) = some (iN 0) := by
  simp (disch := omega) only [f_rd_byteAt, nlit, iN_lt, ltF, ↓reduceIte]
theorem C_isLetter {b : Nat} (hb : b < 256) : f_rd_isLetter (iN b) = some (b01 (isLn b)) := by
  have key : ∀ b, b < 256 → f_rd_isLetter (iN b) = some (b01 (isLn b)) := by decide +kernel
  exact key b hb
theorem C_isDigit {b : Nat} (hb : b < 256) : f_rd_isDigit (iN b) = some (b01 (isDn b)) := by
  have key : ∀ b, b < 256 → f_rd_isDigit (iN b) = some (b01 (isDn b)) := by decide +kernel
  exact key b hb
theorem C_isBlank {b : Nat} (hb : b < 256) : f_rd_isBlank (iN b) = some (b01 (isBn b)) := by
  have key : ∀ b, b < 256 → f_rd_isBlank (iN b) = some (b01 (isBn b)) := by decide +kernel
  exact key b hb
theorem C_spanL (h : TB by_ tp n B) : ∀ (f s z : Nat), s + f = n → f < z → itr (fb_rd_endOfToken_17 (iN n) by_) z (iN s) = some (iN (spn isLn B f s))
  | 0, s, z, hs, hz => by
    obtain ⟨z, rfl⟩ : ∃ y, z = y + 1 := ⟨z - 1, by omega⟩
    have h1 := h.1
    refine itr_end ?_
    simp (disch := omega) only [fb_rd_endOfToken_17, iN_lt, ltF, ↓reduceIte]; rfl
  | f + 1, s, z, hs, hz => by
    obtain ⟨z, rfl⟩ : ∃ y, z = y + 1 := ⟨z - 1, by omega⟩
    have h1 := h.1
    have e1 := C_byteIn (s := s) h (by omega)
    have e2 := C_isLetter (h.2 s (by omega)).1
    have hlt : (iN s < iN n) = True := by rw [iN_lt (by omega) (by omega)]; exact eq_true (by omega)
    unfold spn
    cases c : isLn (B s) with
    | true =>
      rw [c] at e2
      rw [if_pos rfl, ← C_spanL h f (s + 1) z (by omega) (by omega)]
      refine itr_step ?_
      simp only [fb_rd_endOfToken_17, hlt, nlit, e1, e2, bT0, iN_add, Option.bind_some, ↓reduceIte]
    | false =>
      rw [c] at e2
      rw [if_neg (by decide)]
      refine itr_end ?_
      simp only [fb_rd_endOfToken_17, hlt, nlit, e1, e2, bF0, Option.bind_some, ↓reduceIte]
theorem C_spanD (h : TB by_ tp n B) : ∀ (f s z : Nat), s + f = n → f < z → itr (fb_rd_endOfToken_49 (iN n) by_) z (iN s) = some (iN (spn isDn B f s))
  | 0, s, z, hs, hz => by
    obtain ⟨z, rfl⟩ : ∃ y, z = y + 1 := ⟨z - 1, by omega⟩
    have h1 := h.1
    refine itr_end ?_
    simp (disch := omega) only [fb_rd_endOfToken_49, iN_lt, ltF, ↓reduceIte]; rfl
  | f + 1, s, z, hs, hz => by
    obtain ⟨z, rfl⟩ : ∃ y, z = y + 1 := ⟨z - 1, by omega⟩
    have h1 := h.1
    have e1 := C_byteIn (s := s) h (by omega)
    have e2 := C_isDigit (h.2 s (by omega)).1
    have hlt : (iN s < iN n) = True := by rw [iN_lt (by omega) (by omega)]; exact eq_true (by omega)
    unfold spn
    cases c : isDn (B s) with
    | true =>
      rw [c] at e2
      rw [if_pos rfl, ← C_spanD h f (s + 1) z (by omega) (by omega)]
      refine itr_step ?_
      simp only [fb_rd_endOfToken_49, hlt, nlit, e1, e2, bT0, iN_add, Option.bind_some, ↓reduceIte]
    | false =>
      rw [c] at e2
      rw [if_neg (by decide)]
      refine itr_end ?_
      simp only [fb_rd_endOfToken_49, hlt, nlit, e1, e2, bF0, Option.bind_some, ↓reduceIte]
theorem C_end86 (h : TB by_ tp n B) (hs : s < n) : fj_rd_endOfToken_86 (iN n) by_ (iN (s + 1)) = some (iN (if s + 1 < n ∧ B (s + 1) = 61 then s + 2 else s + 1)) := by
  have h1 := h.1
  by_cases c : s + 1 < n
  · have e1 := C_byteIn (s := s + 1) h c
    have hb := (h.2 (s + 1) c).1
    by_cases c2 : B (s + 1) = 61
    · rw [if_pos ⟨c, c2⟩]
      rw [c2] at e1
      simp only [fj_rd_endOfToken_86, e1, nlit, iN_add, Option.bind_some, ↓reduceIte]
    · rw [if_neg (fun q => c2 q.2)]
      have hne : (iN (B (s + 1)) = iN 61) = False := by rw [iN_eq (by omega) (by omega)]; exact eq_false c2
      simp only [fj_rd_endOfToken_86, e1, nlit, hne, Option.bind_some, ↓reduceIte]
  · rw [if_neg (fun q => c q.1)]
    have e1 := C_byteOut (by_ := by_) (s := s + 1) h1 (by omega) (by omega)
    have hne : (iN 0 = iN 61) = False := eq_false (by decide)
    simp only [fj_rd_endOfToken_86, e1, nlit, hne, Option.bind_some, ↓reduceIte]
theorem C_endOf (h : TB by_ tp n B) (hs : s < n) : f_rd_endOfToken (iN n) by_ (iN s) = some (iN (teN B n s)) := by
  have h1 := h.1
  have hb := (h.2 s hs).1
  have e1 := C_byteIn h hs
  have e2 := C_isLetter hb
  have e3 := C_isDigit hb
  unfold teN
  cases c1 : isLn (B s) with
  | true =>
    rw [c1] at e2
    have e4 := C_spanL h (n - (s + 1)) (s + 1) KF (by omega) (kf_lt (by omega))
    rw [if_pos rfl]
    simp only [f_rd_endOfToken, e1, e2, nlit, bT0, iN_add, e4, Option.bind_some, ↓reduceIte]
  | false =>
    rw [c1] at e2
    rw [if_neg (by decide)]
    cases c2 : isDn (B s) with
    | true =>
      rw [c2] at e3
      have e4 := C_spanD h (n - (s + 1)) (s + 1) KF (by omega) (kf_lt (by omega))
      rw [if_pos rfl]
      simp only [f_rd_endOfToken, e1, e2, e3, nlit, bT0, bF0, iN_add, e4, Option.bind_some, ↓reduceIte]
    | false =>
      rw [c2] at e3
      rw [if_neg (by decide)]
      have e5 := C_end86 h hs
      by_cases c3 : B s = 60
      · have q3 : (iN (B s) = iN 60) = True := eq_true (by rw [c3])
        simp only [f_rd_endOfToken, e1, e2, e3, nlit, bF0, q3, iN_add, e5, Option.bind_some, ↓reduceIte]
        congr 2
        by_cases c4 : s + 1 < n ∧ B (s + 1) = 61
        · rw [if_pos c4, if_pos ⟨Or.inl c3, c4⟩]
        · rw [if_neg c4, if_neg (fun q => c4 q.2)]
      · have q3 : (iN (B s) = iN 60) = False := by rw [iN_eq (by omega) (by omega)]; exact eq_false c3
        by_cases c4 : B s = 62
        · have q4 : (iN (B s) = iN 62) = True := eq_true (by rw [c4])
          simp only [f_rd_endOfToken, e1, e2, e3, nlit, bF0, q3, q4, iN_add, e5, Option.bind_some, ↓reduceIte]
          congr 2
          by_cases c5 : s + 1 < n ∧ B (s + 1) = 61
          · rw [if_pos c5, if_pos ⟨Or.inr c4, c5⟩]
          · rw [if_neg c5, if_neg (fun q => c5 q.2)]
        · have q4 : (iN (B s) = iN 62) = False := by rw [iN_eq (by omega) (by omega)]; exact eq_false c4
          rw [if_neg (by omega)]
          simp only [f_rd_endOfToken, e1, e2, e3, nlit, bF0, q3, q4, iN_add, Option.bind_some, ↓reduceIte]
end
