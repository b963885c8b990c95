/-! ===== PURE: text: the reference's next token, whole ===== -/
section
variable {by_ tp : Nat → Int32} {n s : Nat} {B : Nat → Nat}
theorem sg_in : ∀ b, b < 256 → (sgF b SG 3 = 1 ∧ b ∉ SG) ∨ (3 ≤ sgF b SG 3 ∧ sgF b SG 3 ≤ 14 ∧ SG.getD (sgF b SG 3 - 3) 0 = b ∧ b ∈ SG) := by decide +kernel
theorem sg_60 : sgF 60 SG 3 = 3 ∧ sgF 62 SG 3 = 4 := by decide
theorem M_chain {α : Type} {b : Nat} (hb : b < 256) {X Y : α} : (if iN b = iN 60 then X else if iN b = iN 62 then X else if iN b = iN 61 then X else if iN b = iN 35 then X else if iN b = iN 43 then X else if iN b = iN 45 then X else if iN b = iN 42 then X else if iN b = iN 47 then X else if iN b = iN 37 then X else if iN b = iN 40 then X else if iN b = iN 41 then X else if iN b = iN 59 then X else Y) = if b ∈ SG then X else Y := by
  have hE : ∀ c, c < 256 → (iN b = iN c) = (b = c) := fun c hc => iN_eq (by omega) (by omega)
  simp only [hE 60 (by decide), hE 62 (by decide), hE 61 (by decide), hE 35 (by decide), hE 43 (by decide), hE 45 (by decide), hE 42 (by decide), hE 47 (by decide), hE 37 (by decide), hE 40 (by decide), hE 41 (by decide), hE 59 (by decide)]
  unfold SG
  simp only [List.mem_cons, List.not_mem_nil, or_false]
  by_cases c1 : b = 60
  · simp [c1]
  by_cases c2 : b = 62
  · simp [c2]
  by_cases c3 : b = 61
  · simp [c3]
  by_cases c4 : b = 35
  · simp [c4]
  by_cases c5 : b = 43
  · simp [c5]
  by_cases c6 : b = 45
  · simp [c6]
  by_cases c7 : b = 42
  · simp [c7]
  by_cases c8 : b = 47
  · simp [c8]
  by_cases c9 : b = 37
  · simp [c9]
  by_cases c10 : b = 40
  · simp [c10]
  by_cases c11 : b = 41
  · simp [c11]
  by_cases c12 : b = 59
  · simp [c12]
  simp [c1, c2, c3, c4, c5, c6, c7, c8, c9, c10, c11, c12]
theorem tkO_sg {k : Nat} (h1 : 3 ≤ k) (h2 : k ≤ 14) : tkO k = SG.getD (k - 3) 0 := by
  unfold tkO
  rw [if_neg (by omega), if_neg (by omega), if_neg (by omega), if_neg (by omega), if_neg (by omega)]
theorem MK.sign {k nu : Nat} {nb : Int32} {wd : Int64} (hk : k < 17) (h2 : k ≠ 2) {t : Int32} (ht : t = iN (tkO k)) : MK k nu t nb wd := Or.inl ⟨hk, ht, fun q => absurd q h2⟩
theorem M_sign (h : TB by_ tp n B) (hs : s < n) (hl : isLn (B s) = false) (hd : isDn (B s) = false) {tk nb : Int32} {wd : Int64} : ∃ tk', fj_m_nextToken_332 (iN n) (iN (s + 1)) (iN s) tk nb wd tp (iN (B s)) (if B s ∈ SG then iN 1 else iN 0) = some (iN (teN B n s), iN s, tk', nb, wd) ∧ MK (tkN B n s) (tnN B n s) tk' nb wd := by
  have h1 := h.1
  have hb := (h.2 s hs).1
  have e60 : (iN (B s) = iN 60) = (B s = 60) := iN_eq (by omega) (by omega)
  have e62 : (iN (B s) = iN 62) = (B s = 62) := iN_eq (by omega) (by omega)
  have h10 : (iN 1 = iN 0) = False := eq_false (by decide)
  have hte : teN B n s = if (B s = 60 ∨ B s = 62) ∧ s + 1 < n ∧ B (s + 1) = 61 then s + 2 else s + 1 := by
    unfold teN
    rw [if_neg (by rw [hl]; decide), if_neg (by rw [hd]; decide)]
  have htk : tkN B n s = if teN B n s = s + 2 then (if B s = 60 then 15 else 16) else sgF (B s) SG 3 := by
    unfold tkN
    rw [if_neg (by rw [hl]; decide), if_neg (by rw [hd]; decide)]
  have hby : f_m_byteAt (iN n) tp (iN (s + 1)) = some (if s + 1 < n then iN (B (s + 1)) else mI) := by
    by_cases c : s + 1 < n
    · rw [if_pos c]; exact M_byteIn h c
    · rw [if_neg c]; exact M_byteOut h1 (by omega) (by omega)
  have h61 : ((if s + 1 < n then iN (B (s + 1)) else mI) = iN 61) = (s + 1 < n ∧ B (s + 1) = 61) := by
    by_cases c : s + 1 < n
    · have hb2 := (h.2 (s + 1) c).1
      rw [if_pos c, iN_eq (by omega) (by omega)]
      exact propext ⟨fun q => ⟨c, q⟩, fun q => q.2⟩
    · rw [if_neg c]
      exact propext ⟨fun q => absurd q (by decide), fun q => absurd q.1 c⟩
  by_cases c0 : B s = 60 ∨ B s = 62
  · have hin : B s ∈ SG := by rcases c0 with q | q <;> rw [q] <;> decide
    rw [if_pos hin]
    by_cases c2 : s + 1 < n ∧ B (s + 1) = 61
    · rw [if_pos ⟨c0, c2⟩] at hte
      rw [if_pos hte] at htk
      have q61 := h61.trans (eq_true c2)
      rcases c0 with q | q
      · rw [if_pos q] at htk
        have q' := e60.trans (eq_true q)
        refine ⟨iN 4, ?_, by rw [htk]; exact MK.sign (by decide) (by decide) rfl⟩
        rw [hte]
        simp only [fj_m_nextToken_332, fj_m_nextToken_343, fj_m_nextToken_358, nlit, h10, q', hby, q61, iN_add, Option.bind_some, ↓reduceIte]
      · rw [if_neg (by omega)] at htk
        have q1 : (iN (B s) = iN 60) = False := e60.trans (eq_false (by omega))
        have q' := e62.trans (eq_true q)
        refine ⟨iN 5, ?_, by rw [htk]; exact MK.sign (by decide) (by decide) rfl⟩
        rw [hte]
        simp only [fj_m_nextToken_332, fj_m_nextToken_343, fj_m_nextToken_358, nlit, h10, q1, q', hby, q61, iN_add, Option.bind_some, ↓reduceIte]
    · rw [if_neg (fun q => c2 q.2)] at hte
      rw [if_neg (by omega)] at htk
      have q61 := h61.trans (eq_false c2)
      rcases c0 with q | q
      · have q' := e60.trans (eq_true q)
        refine ⟨iN (B s), ?_, by rw [htk, q]; exact MK.sign (by decide) (by decide) rfl⟩
        rw [hte]
        simp only [fj_m_nextToken_332, fj_m_nextToken_343, fj_m_nextToken_358, nlit, h10, q', hby, q61, Option.bind_some, ↓reduceIte]
      · have q1 : (iN (B s) = iN 60) = False := e60.trans (eq_false (by omega))
        have q' := e62.trans (eq_true q)
        refine ⟨iN (B s), ?_, by rw [htk, q]; exact MK.sign (by decide) (by decide) rfl⟩
        rw [hte]
        simp only [fj_m_nextToken_332, fj_m_nextToken_343, fj_m_nextToken_358, nlit, h10, q1, q', hby, q61, Option.bind_some, ↓reduceIte]
  · rw [if_neg (fun q => c0 q.1)] at hte
    rw [if_neg (by omega)] at htk
    have q1 : (iN (B s) = iN 60) = False := e60.trans (eq_false (by omega))
    have q2 : (iN (B s) = iN 62) = False := e62.trans (eq_false (by omega))
    rcases sg_in (B s) hb with ⟨g1, g2⟩ | ⟨g1, g2, g3, g4⟩
    · rw [if_neg g2]
      refine ⟨iN 3, ?_, by rw [htk, g1]; exact MK.sign (by decide) (by decide) rfl⟩
      rw [hte]
      simp only [fj_m_nextToken_332, fj_m_nextToken_343, nlit, q1, q2, ↓reduceIte]
    · rw [if_pos g4]
      refine ⟨iN (B s), ?_, by rw [htk]; exact MK.sign (by omega) (by omega) (by rw [tkO_sg g1 g2, g3])⟩
      rw [hte]
      simp only [fj_m_nextToken_332, fj_m_nextToken_343, nlit, h10, q1, q2, ↓reduceIte]
/-- the i-th token; behind all the end -/
def tI (L : List Tk) (n i : Nat) : Tk := L.getD i (0, 0, n, n)
def RS (B : Nat → Nat) (n : Nat) (L : List Tk) (i : Nat) (at_ pl tk nb : Int32) (wd : Int64) : Prop := i ≤ L.length ∧ pl = iN (tI L n i).2.2.1 ∧ MK (tI L n i).1 (tI L n i).2.1 tk nb wd ∧ (i < L.length → ∃ e, e ≤ n ∧ at_ = iN e ∧ L.drop (i + 1) = tkL B n e)
theorem M_next0 (h : TB by_ tp n B) (hs : s ≤ n) {pl tk nb : Int32} {wd : Int64} : ∃ at' pl' tk' nb' wd', f_m_nextToken (iN n) (iN s) pl tk nb wd tp = some (at', pl', tk', nb', wd') ∧ ((tkL B n s = [] ∧ pl' = iN n ∧ tk' = iN 0) ∨ ∃ t l, tkL B n s = t :: l ∧ at' = iN t.2.2.2 ∧ pl' = iN t.2.2.1 ∧ MK t.1 t.2.1 tk' nb' wd' ∧ l = tkL B n t.2.2.2 ∧ t.2.2.2 ≤ n) := by
  have h1 := h.1
  have hbl := M_blanks h (n - s) s KF (by omega) (kf_lt (by omega))
  have hsk := tkL_skip (B := B) (n := n) (n - s) s (by omega)
  have hle := spn_le (p := isBn) (B := B) (n - s) s
  have hout := spn_out (p := isBn) (B := B) (n - s) s
  rw [hsk]
  generalize spn isBn B (n - s) s = u at hbl hle hout
  unfold f_m_nextToken
  rw [hbl, Option.bind_some]
  by_cases c : u < n
  · have hb := (h.2 u c).1
    have e1 := M_byteIn h c
    have hneg : (iN (B u) < 0) = False := iN_nneg (by omega)
    have e2 := M_isDigit hb
    have e3 := M_isLetter hb
    have hnb : isBn (B u) = false := hout (by omega)
    have hg := teN_gt (B := B) c
    rw [tkL_tok c hnb]
    rw [e1, Option.bind_some]
    simp only [hneg, ↓reduceIte]
    rw [e2, Option.bind_some]
    have bT : (b01 true = 0) = False := bT0
    have bF : (b01 false = 0) = True := bF0
    cases c2 : isDn (B u) with
    | true =>
      have hnl : isLn (B u) = false := by
        unfold isDn at c2
        have := of_decide_eq_true c2
        unfold isLn
        exact decide_eq_false (by omega)
      have hte : teN B n u = spn isDn B (n - u) u := by
        unfold teN
        rw [if_neg (by rw [hnl]; decide), if_pos c2, show n - u = (n - (u + 1)) + 1 by omega]
        show _ = if isDn (B u) = true then spn isDn B (n - (u + 1)) (u + 1) else u
        rw [if_pos c2]
      obtain ⟨m, d1, d2⟩ := M_digits h (n - u) u 0 0 KF (by omega) (kf_lt (by omega)) ⟨by decide, by decide, fun _ => rfl, fun q => by omega⟩
      have d1 : itr (un2 (fb_m_nextToken_85 (iN n) tp)) KF (iN u, 0) = _ := d1
      simp only [bT, ↓reduceIte]
      rw [d1, Option.bind_some]
      refine ⟨_, _, _, _, _, rfl, Or.inr ⟨_, _, rfl, ?_, rfl, ?_, rfl, hg.2⟩⟩
      · show iN (spn isDn B (n - u) u) = iN (teN B n u)
        rw [hte]
      · have hk : tkN B n u = 2 := by unfold tkN; rw [if_neg (by rw [hnl]; decide), if_pos c2]
        have hn : tnN B n u = nuF B (spn isDn B (n - u) u - u) u 0 := by unfold tnN; rw [if_pos c2, hte]
        show MK (tkN B n u) (tnN B n u) _ _ _
        rw [hk, hn]
        exact Or.inl ⟨by decide, rfl, fun _ => ⟨m, rfl, d2.1, d2.2.2.1, d2.2.2.2⟩⟩
    | false =>
      simp only [bF, ↓reduceIte]
      rw [e3, Option.bind_some]
      cases c3 : isLn (B u) with
      | true =>
        have hte : teN B n u = spn isLn B (n - u) u := by
          unfold teN
          rw [if_pos c3, show n - u = (n - (u + 1)) + 1 by omega]
          show _ = if isLn (B u) = true then spn isLn B (n - (u + 1)) (u + 1) else u
          rw [if_pos c3]
        have d1 := M_letters (s := u) h (n - u) 0 KF (by omega) (kf_lt (by omega)) (fun j hj => absurd hj (Nat.not_lt_zero _))
        have z0 : pkL (slN B u (u + min 0 7)) = 0 := by
          have : slN B u (u + min 0 7) = [] := by unfold slN; rw [show u + min 0 7 - u = 0 by omega]; rfl
          rw [this]; rfl
        rw [z0] at d1
        have d1 : itr (un2 (fb_m_nextToken_161 (iN n) (iN u) tp)) KF (iN u, 0) = _ := d1
        rw [Nat.add_zero, ← hte] at d1
        simp only [bT, ↓reduceIte]
        rw [d1, Option.bind_some]
        simp only [un2]
        have hsub : iN (teN B n u) - iN u = iN (teN B n u - u) := iN_sub (by omega)
        rw [hsub]
        have hk : tkN B n u = wdF (slN B u (teN B n u)) WD 20 := by unfold tkN; rw [if_pos c3]
        have hall : ∀ x ∈ slN B u (teN B n u), 0 < x ∧ x < 256 := by
          intro x hx
          unfold slN at hx
          obtain ⟨j, hj, rfl⟩ := List.mem_map.mp hx
          have hj := List.mem_range.mp hj
          refine ⟨?_, (h.2 (u + j) (by omega)).1⟩
          have hl : isLn (B (u + j)) = true := by
            have : u + j < spn isLn B (n - u) u := by omega
            exact spn_in _ _ _ (by omega) this
          unfold isLn at hl
          have := of_decide_eq_true hl
          omega
        by_cases c4 : 7 < teN B n u - u
        · have h7 : (7 < iN (teN B n u - u)) = True := by
            show (iN 7 < iN (teN B n u - u)) = True
            rw [iN_lt (by omega) (by omega)]; exact eq_true c4
          simp only [h7, ↓reduceIte]
          refine ⟨_, _, _, _, _, rfl, Or.inr ⟨_, _, rfl, rfl, rfl, ?_, rfl, hg.2⟩⟩
          show MK (tkN B n u) _ _ _ _
          rw [hk]
          exact MK.word hall (Or.inr ⟨by rw [slN_len]; exact c4, rfl⟩)
        · have h7 : (7 < iN (teN B n u - u)) = False := by
            show (iN 7 < iN (teN B n u - u)) = False
            rw [iN_lt (by omega) (by omega)]; exact eq_false c4
          simp only [h7, ↓reduceIte]
          refine ⟨_, _, _, _, _, rfl, Or.inr ⟨_, _, rfl, rfl, rfl, ?_, rfl, hg.2⟩⟩
          show MK (tkN B n u) _ _ _ _
          rw [hk, Nat.min_eq_left (show teN B n u - u ≤ 7 by omega), show u + (teN B n u - u) = teN B n u by omega]
          exact MK.word hall (Or.inl ⟨by rw [slN_len]; omega, rfl⟩)
      | false =>
        simp only [bF, ↓reduceIte]
        obtain ⟨tk', d1, d2⟩ := M_sign (tk := tk) (nb := nb) (wd := wd) h c c3 c2
        have d1 : fj_m_nextToken_332 (iN n) (iN (u + 1)) (iN u) tk nb wd tp (iN (B u)) (if B u ∈ SG then iN 1 else iN 0) = some (iN (teN B n u), iN u, tk', nb, wd) := d1
        refine ⟨iN (teN B n u), iN u, tk', nb, wd, ?_, Or.inr ⟨_, _, rfl, rfl, rfl, d2, rfl, hg.2⟩⟩
        have ch := M_chain hb (X := fj_m_nextToken_332 (iN n) (iN (u + 1)) (iN u) tk nb wd tp (iN (B u)) (iN 1)) (Y := fj_m_nextToken_332 (iN n) (iN (u + 1)) (iN u) tk nb wd tp (iN (B u)) (iN 0))
        rw [show iN u + 1 = iN (u + 1) from iN_add (a := u) (b := 1)]
        refine Eq.trans ch ?_
        rw [← d1]
        by_cases c5 : B u ∈ SG
        · rw [if_pos c5, if_pos c5]
        · rw [if_neg c5, if_neg c5]
  · have hu : u = n := by omega
    have e1 := M_byteOut (tp := tp) (s := u) h1 (by omega) (by omega)
    have hneg : (mI < 0) = True := mI_neg
    rw [e1, Option.bind_some]
    simp only [hneg, ↓reduceIte]
    refine ⟨_, _, _, _, _, rfl, Or.inl ⟨tkL_end (by omega), by rw [hu], rfl⟩⟩
end
