/-! ===== PURE: a town in one number ===== -/
def jN (n : Nat) : Int64 := Int64.ofNat n
def dig (S n : Nat) : Nat := (S >>> (6 * n)) % 64
theorem dig_bit {S n i : Nat} (hi : i < 6) : (dig S n).testBit i = S.testBit (6 * n + i) := by
  unfold dig
  rw [show 64 = 2 ^ 6 from rfl, Nat.testBit_mod_two_pow, Nat.testBit_shiftRight, decide_eq_true hi, Bool.true_and]
theorem dig_hi {S n i : Nat} (hi : 6 ≤ i) : (dig S n).testBit i = false := by
  unfold dig
  rw [show 64 = 2 ^ 6 from rfl, Nat.testBit_mod_two_pow, decide_eq_false (by omega), Bool.false_and]
theorem c_hi {c i : Nat} (hc : c < 64) (hi : 6 ≤ i) : c.testBit i = false :=
  Nat.testBit_lt_two_pow (Nat.lt_of_lt_of_le (show c < 2 ^ 6 from hc) (Nat.pow_le_pow_right (by decide) hi))
theorem dig_or {S n m c : Nat} (hc : c < 64) (h0 : dig S n = 0) : dig (S ||| (c <<< (6 * n))) m = if m = n then c else dig S m := by
  apply Nat.eq_of_testBit_eq
  intro i
  by_cases hi : i < 6
  · rw [dig_bit hi, Nat.testBit_or, Nat.testBit_shiftLeft]
    by_cases hm : m = n
    · subst hm
      rw [if_pos rfl]
      have : S.testBit (6 * m + i) = false := by rw [← dig_bit hi, h0, Nat.zero_testBit]
      rw [this, Bool.false_or, decide_eq_true (by omega), Bool.true_and]
      congr 1; omega
    · rw [if_neg hm, dig_bit hi]
      have : (decide (6 * n ≤ 6 * m + i) && c.testBit (6 * m + i - 6 * n)) = false := by
        by_cases hle : 6 * n ≤ 6 * m + i
        · rw [decide_eq_true hle, Bool.true_and]
          exact c_hi hc (by omega)
        · rw [decide_eq_false hle, Bool.false_and]
      rw [this, Bool.or_false]
  · rw [dig_hi (by omega)]
    by_cases hm : m = n
    · rw [if_pos hm, c_hi hc (by omega)]
    · rw [if_neg hm, dig_hi (by omega)]
def digs (S : Nat) (D : Nat → Nat) : Prop := S < 281474976710656 ∧ ∀ n, n < 8 → dig S n = D n
theorem digs_or {S n c : Nat} {D : Nat → Nat} (h : digs S D) (hn : n < 8) (hc : c < 64) (h0 : D n = 0) : digs (S ||| (c <<< (6 * n))) (setF D n c) := by
  refine ⟨?_, fun m hm => ?_⟩
  · have h2 : c <<< (6 * n) < 2 ^ 48 := by
      rw [Nat.shiftLeft_eq]
      have h3 : c * 2 ^ (6 * n) < 2 ^ 6 * 2 ^ (6 * n) := Nat.mul_lt_mul_of_pos_right hc (Nat.two_pow_pos _)
      rw [← Nat.pow_add] at h3
      exact Nat.lt_of_lt_of_le h3 (Nat.pow_le_pow_right (by decide) (by omega))
    exact Nat.or_lt_two_pow (show S < 2 ^ 48 from h.1) h2
  · rw [dig_or hc (by rw [h.2 n hn, h0])]
    by_cases q : m = n
    · subst q; rw [if_pos rfl, setF_same]
    · rw [if_neg q, setF_ne q]; exact h.2 m hm
theorem digs_inj {S S' : Nat} {D : Nat → Nat} (h : digs S D) (h' : digs S' D) : S = S' := by
  apply Nat.eq_of_testBit_eq
  intro j
  by_cases hj : j < 48
  · have e : j = 6 * (j / 6) + j % 6 := by omega
    have h1 := dig_bit (S := S) (n := j / 6) (i := j % 6) (Nat.mod_lt _ (by decide))
    have h2 := dig_bit (S := S') (n := j / 6) (i := j % 6) (Nat.mod_lt _ (by decide))
    rw [e, ← h1, ← h2, h.2 _ (by omega), h'.2 _ (by omega)]
  · rw [Nat.testBit_lt_two_pow (Nat.lt_of_lt_of_le (show S < 2 ^ 48 from h.1) (Nat.pow_le_pow_right (by decide) (by omega))), Nat.testBit_lt_two_pow (Nat.lt_of_lt_of_le (show S' < 2 ^ 48 from h'.1) (Nat.pow_le_pow_right (by decide) (by omega)))]
theorem digs_zero : digs 0 (fun _ => 0) := ⟨by decide, fun n _ => by unfold dig; rw [Nat.zero_shiftRight]⟩
def pkd (D : Nat → Nat) : Nat → Nat
  | 0 => 0
  | m + 1 => pkd D m ||| (D m <<< (6 * m))
theorem pkd_digs {D : Nat → Nat} (hD : ∀ n, D n < 64) : ∀ m, m ≤ 8 → digs (pkd D m) (fun n => if n < m then D n else 0)
  | 0, _ => digs_zero
  | m + 1, hm => by
    have h := digs_or (pkd_digs hD m (by omega)) (show m < 8 by omega) (hD m) (if_neg (Nat.lt_irrefl m))
    refine ⟨h.1, fun n hn => ?_⟩
    have e : pkd D (m + 1) = pkd D m ||| (D m <<< (6 * m)) := rfl
    rw [e, h.2 n hn]
    show _ = if n < m + 1 then D n else 0
    by_cases q : n = m
    · subst q; rw [setF_same, if_pos (Nat.lt_succ_self n)]
    · rw [setF_ne q]
      by_cases r : n < m
      · rw [if_pos r, if_pos (by omega)]
      · rw [if_neg r, if_neg (by omega)]
def d1 (t : Tn) : Nat → Nat → Nat
  | 0 => fun _ => 0
  | w + 1 => match t.1 w with
    | none => d1 t w
    | some n => setF (d1 t w) n (1 + w)
def d2 (l : List Nat) (g : Nat) (D : Nat → Nat) : Nat → Nat → Nat
  | 0 => D
  | k + 1 => setF (d2 l g D k) (l.getD k 0) (9 + g * 8 + k)
def dG (t : Tn) : Nat → Nat → Nat
  | 0 => d1 t 8
  | g + 1 => d2 (t.2 g) g (dG t g) (t.2 g).length
def pkS (t : Tn) : Nat := pkd (dG t 3) 8
theorem d1_in {t : Tn} {n : Nat} : ∀ w, d1 t w n ≠ 0 → ∃ w', w' < w ∧ t.1 w' = some n ∧ d1 t w n = 1 + w'
  | 0, h => absurd rfl h
  | w + 1, h => by
    unfold d1 at h ⊢
    cases q : t.1 w with
    | none =>
      rw [q] at h
      obtain ⟨w', h1, h2, h3⟩ := d1_in w h
      exact ⟨w', by omega, h2, h3⟩
    | some m =>
      rw [q] at h
      by_cases e : n = m
      · subst e
        exact ⟨w, Nat.lt_succ_self w, q, setF_same⟩
      · have h' : setF (d1 t w) m (1 + w) n ≠ 0 := h
        rw [setF_ne e] at h'
        obtain ⟨w', h1, h2, h3⟩ := d1_in w h'
        exact ⟨w', by omega, h2, (setF_ne e).trans h3⟩
theorem d1_out {t : Tn} (ht : TW t) {n w0 : Nat} (h0 : t.1 w0 = some n) : ∀ w, w0 < w → d1 t w n = 1 + w0
  | 0, h => absurd h (Nat.not_lt_zero _)
  | w + 1, h => by
    unfold d1
    by_cases e : w0 = w
    · subst e
      rw [h0]
      exact setF_same
    · have ih := d1_out ht h0 w (by omega)
      cases q : t.1 w with
      | none => exact ih
      | some m =>
        have hm : n ≠ m := fun z => e (ht.2.2.1 w0 w n h0 (z ▸ q))
        show setF (d1 t w) m (1 + w) n = _
        rw [setF_ne hm]; exact ih
theorem d2_in {l : List Nat} {g : Nat} {D : Nat → Nat} {n : Nat} : ∀ k, k ≤ l.length → d2 l g D k n = D n ∨ ∃ k', k' < k ∧ l[k']? = some n ∧ d2 l g D k n = 9 + g * 8 + k'
  | 0, _ => Or.inl rfl
  | k + 1, hk => by
    have hg : l[k]? = some (l.getD k 0) := by rw [List.getD_eq_getElem?_getD, List.getElem?_eq_getElem (by omega)]; rfl
    unfold d2
    by_cases e : n = l.getD k 0
    · right
      refine ⟨k, Nat.lt_succ_self k, ?_, ?_⟩
      · rw [hg, e]
      · rw [e]; exact setF_same
    · rcases d2_in (l := l) (g := g) (D := D) (n := n) k (by omega) with h | ⟨k', h1, h2, h3⟩
      · left; rw [setF_ne e]; exact h
      · right; exact ⟨k', by omega, h2, (setF_ne e).trans h3⟩
theorem d2_out {l : List Nat} {g : Nat} {D : Nat → Nat} {n k0 : Nat} (hd : l.Nodup) (h0 : l[k0]? = some n) : ∀ k, k0 < k → k ≤ l.length → d2 l g D k n = 9 + g * 8 + k0
  | 0, h, _ => absurd h (Nat.not_lt_zero _)
  | k + 1, h, hk => by
    have hg : l[k]? = some (l.getD k 0) := by rw [List.getD_eq_getElem?_getD, List.getElem?_eq_getElem (by omega)]; rfl
    unfold d2
    by_cases e : k0 = k
    · subst e
      have : n = l.getD k0 0 := by rw [hg] at h0; exact (Option.some.inj h0).symm
      rw [← this]; exact setF_same
    · have hne : n ≠ l.getD k 0 := by
        intro z
        rw [← z] at hg
        exact e ((List.getElem?_inj (List.getElem?_eq_some_iff.mp h0).1 hd).mp (h0.trans hg.symm))
      rw [setF_ne hne]
      exact d2_out hd h0 k (by omega) (by omega)
theorem d2_no {l : List Nat} {g : Nat} {D : Nat → Nat} {n : Nat} (h : n ∉ l) : d2 l g D l.length n = D n := by
  rcases d2_in (l := l) (g := g) (D := D) (n := n) l.length (Nat.le_refl _) with q | ⟨k', h1, h2, h3⟩
  · exact q
  · exact absurd (List.mem_of_getElem? h2) h
theorem dG_in {t : Tn} {n : Nat} : ∀ g, dG t g n = d1 t 8 n ∨ ∃ g' k, g' < g ∧ (t.2 g')[k]? = some n ∧ dG t g n = 9 + g' * 8 + k
  | 0 => Or.inl rfl
  | g + 1 => by
    unfold dG
    rcases d2_in (l := t.2 g) (g := g) (D := dG t g) (n := n) _ (Nat.le_refl _) with q | ⟨k', h1, h2, h3⟩
    · rcases dG_in (t := t) (n := n) g with z | ⟨g', k, h1, h2, h3⟩
      · exact Or.inl (q.trans z)
      · exact Or.inr ⟨g', k, by omega, h2, q.trans h3⟩
    · exact Or.inr ⟨g, k', Nat.lt_succ_self g, h2, h3⟩
theorem dG_lt {t : Tn} (ht : TW t) (n : Nat) : dG t 3 n < 33 := by
  rcases dG_in (t := t) (n := n) 3 with h | ⟨g', k, h1, h2, h3⟩
  · rw [h]
    by_cases q : d1 t 8 n = 0
    · omega
    · obtain ⟨w', h1, h2, h3⟩ := d1_in 8 q
      omega
  · have := (List.getElem?_eq_some_iff.mp h2).1
    have := ht.len g'
    omega
theorem dG_name {t : Tn} (ht : TW t) {w n : Nat} (h : t.1 w = some n) : dG t 3 n = 1 + w := by
  have h8 := (ht.1 w n h).1
  have hno : ∀ g, n ∉ t.2 g := fun g q => ht.2.2.2.1 w n g h q
  have e : ∀ g, dG t g n = d1 t 8 n := by
    intro g
    induction g with
    | zero => rfl
    | succ g ih => unfold dG; rw [d2_no (hno g)]; exact ih
  rw [e, d1_out ht h 8 h8]
theorem dG_heap {t : Tn} (ht : TW t) {g k n : Nat} (hg : g < 3) (h : (t.2 g)[k]? = some n) : dG t 3 n = 9 + g * 8 + k := by
  have hm := List.mem_of_getElem? h
  have hk := (List.getElem?_eq_some_iff.mp h).1
  have hno : ∀ g', g' ≠ g → n ∉ t.2 g' := fun g' q z => q (ht.2.2.2.2.1 g' g n z hm)
  have e : ∀ g', g < g' → dG t g' n = 9 + g * 8 + k := by
    intro g'
    induction g' with
    | zero => intro q; omega
    | succ g' ih =>
      intro q
      unfold dG
      by_cases z : g' = g
      · subst z; exact d2_out (ht.2.2.2.2.2 g') h _ hk (Nat.le_refl _)
      · rw [d2_no (hno g' z)]; exact ih (by omega)
  exact e 3 hg
theorem dG_none {t : Tn} {n : Nat} (h1 : ∀ w, t.1 w ≠ some n) (h2 : ∀ g, n ∉ t.2 g) : dG t 3 n = 0 := by
  rcases dG_in (t := t) (n := n) 3 with h | ⟨g', k, -, h3, -⟩
  · rw [h]
    by_cases q : d1 t 8 n = 0
    · exact q
    · obtain ⟨w', -, h3, -⟩ := d1_in 8 q
      exact absurd h3 (h1 w')
  · exact absurd (List.mem_of_getElem? h3) (h2 g')
theorem pkS_digs {t : Tn} (ht : TW t) : digs (pkS t) (dG t 3) := by
  have h := pkd_digs (D := dG t 3) (fun n => by have := dG_lt ht n; omega) 8 (Nat.le_refl _)
  exact ⟨h.1, fun n hn => (h.2 n hn).trans (if_pos hn)⟩
theorem sh_ok {c k : Nat} {b : Int64} (hb : b.toBitVec.smod 64 = BitVec.ofNat 64 k) (hk : k < 64) : jN c <<< b = jN (c <<< k) := by
  show (⟨⟨(BitVec.ofNat 64 c) <<< (b.toBitVec.smod 64)⟩⟩ : Int64) = ⟨⟨BitVec.ofNat 64 (c <<< k)⟩⟩
  rw [hb]
  congr 2
  apply BitVec.eq_of_toNat_eq
  rw [BitVec.shiftLeft_ofNat_eq, BitVec.toNat_shiftLeft, BitVec.toNat_ofNat, BitVec.toNat_ofNat, Nat.mod_eq_of_lt (show k < 2 ^ 64 by omega), Nat.shiftLeft_eq, Nat.shiftLeft_eq, Nat.mod_mul_mod]
theorem sh_n {c n : Nat} (hn : n < 8) : jN c <<< ((iN (6 * n)).toInt64 &&& 63) = jN (c <<< (6 * n)) := by
  match n, hn with
  | 0, _ => exact sh_ok (k := 0) (by decide) (by decide)
  | 1, _ => exact sh_ok (k := 6) (by decide) (by decide)
  | 2, _ => exact sh_ok (k := 12) (by decide) (by decide)
  | 3, _ => exact sh_ok (k := 18) (by decide) (by decide)
  | 4, _ => exact sh_ok (k := 24) (by decide) (by decide)
  | 5, _ => exact sh_ok (k := 30) (by decide) (by decide)
  | 6, _ => exact sh_ok (k := 36) (by decide) (by decide)
  | 7, _ => exact sh_ok (k := 42) (by decide) (by decide)
theorem jN_or {a b : Nat} : jN a ||| jN b = jN (a ||| b) := by
  show (⟨⟨BitVec.ofNat 64 a ||| BitVec.ofNat 64 b⟩⟩ : Int64) = ⟨⟨BitVec.ofNat 64 (a ||| b)⟩⟩
  rw [BitVec.ofNat_or]
theorem iN_j {n : Nat} (h : n < 2147483648) : (iN n).toInt64 = jN n := by
  rw [iN_w h]; exact Int64.ofInt_eq_ofNat
theorem sh_j {c n : Nat} (hn : n < 8) : jN c <<< (jN (6 * n) &&& 63) = jN (c <<< (6 * n)) := by
  rw [← iN_j (show 6 * n < 2147483648 by omega)]
  exact sh_n hn
