/-! ===== PURE: text: class and reference side by side ===== -/
abbrev T11 : Type := Int32 × Int32 × Int32 × Int32 × Int64 × Int32 × Int32 × Int32 × Int32 × (Nat → Int32) × (Nat → Int32)
abbrev T12 : Type := Int32 × T11
def kI (L : List Tk) (n i : Nat) : Nat := (tI L n i).1
def pI (L : List Tk) (n i : Nat) : Nat := (tI L n i).2.2.1
def PX (by_ tp kd st nu : Nat → Int32) (n : Nat) (B : Nat → Nat) (L : List Tk) (al so : Int32) (aF : Nat → Bool) (T : Nat) : Prop := TB by_ tp n B ∧ L = tkL B n 0 ∧ RTE kd st nu n L ∧ T < 4 ∧ (∀ k, k < 8 → (((al >>> ((iN (28 + k) - iN 28) &&& iN 31)) &&& iN 1) = iN 0) = (aF k = false)) ∧ ∀ k, k < 8 → f_m_isBarred so (iN k) = some (b01 (!(aF k)))
def CC (code : Nat → Int32) (cs : List (Nat × Nat)) : Prop := ∀ (j : Nat) (o : Nat × Nat), cs[j]? = some o → code j = iN (cE o)
theorem sgF_le : ∀ (l : List Nat) (b k : Nat), sgF b l k ≤ k + l.length + 1
  | [], b, k => by unfold sgF; omega
  | c :: l, b, k => by
    unfold sgF
    rw [List.length_cons]
    by_cases q : c = b
    · rw [if_pos q]; omega
    · rw [if_neg q]; have := sgF_le l b (k + 1); omega
theorem tkL_ok {B : Nat → Nat} {n : Nat} : ∀ (f s : Nat), n - s ≤ f → ∀ t ∈ tkL B n s, t.1 < 100 ∧ t.2.1 ≤ 10000 ∧ t.2.2.1 ≤ n
  | f, s, h, t, ht => by
    by_cases c : s < n
    · obtain ⟨f, rfl⟩ : ∃ g, f = g + 1 := ⟨f - 1, by omega⟩
      cases q : isBn (B s) with
      | true => rw [tkL_blank c q] at ht; exact tkL_ok f (s + 1) (by omega) t ht
      | false =>
        have hg := teN_gt (B := B) c
        rw [tkL_tok c q] at ht
        rcases List.mem_cons.mp ht with rfl | ht
        · refine ⟨?_, ?_, by show s ≤ n; omega⟩
          · show tkN B n s < 100
            unfold tkN
            split
            · have := wd_rng (l := slN B s (teN B n s)); omega
            · split
              · omega
              · split
                · split <;> omega
                · have := sgF_le SG (B s) 3
                  have h2 : SG.length = 12 := rfl
                  omega
          · show tnN B n s ≤ 10000
            unfold tnN
            split
            · exact nuF_le _ _ _ (by decide)
            · omega
        · exact tkL_ok f (teN B n s) (by omega) t ht
    · rw [tkL_end (by omega)] at ht; cases ht
section
variable {by_ tp kd st nu : Nat → Int32} {n : Nat} {B : Nat → Nat} {L : List Tk} {al so : Int32} {aF : Nat → Bool} {T : Nat} {i : Nat}
theorem PX.len (h : PX by_ tp kd st nu n B L al so aF T) : L.length ≤ 300 := by
  have h1 := h.1.1
  have h2 := tkL_len (B := B) (n := n) n 0 (by omega)
  rw [h.2.1]; omega
theorem PX.tok (h : PX by_ tp kd st nu n B L al so aF T) (hi : i ≤ L.length) : kd i = iN (kI L n i) ∧ st i = iN (pI L n i) ∧ nu i = iN (tI L n i).2.1 ∧ kI L n i < 100 ∧ pI L n i ≤ 300 ∧ (tI L n i).2.1 ≤ 10000 := by
  have h1 := h.1.1
  obtain ⟨r1, r2, r3, r4⟩ := h.2.2.1
  unfold kI pI
  by_cases c : i = L.length
  · rw [tI_end (n := n) (show L.length ≤ i by omega), c, r2, r3, r4]
    exact ⟨rfl, rfl, rfl, by show 0 < 100; omega, by show n ≤ 300; omega, by show 0 ≤ 10000; omega⟩
  · have hg : L[i]? = some L[i] := List.getElem?_eq_getElem (by omega)
    obtain ⟨a1, a2, a3⟩ := r1 i _ hg
    rw [Nat.zero_add] at a1 a2 a3
    rw [tI_in hg]
    have hm : L[i] ∈ tkL B n 0 := h.2.1 ▸ List.mem_of_getElem? hg
    obtain ⟨b1, b2, b3⟩ := tkL_ok n 0 (by omega) _ hm
    exact ⟨a1, a2, a3, b1, by omega, b2⟩
theorem kI_lt (h : kI L n i ≠ 0) : i < L.length := by
  apply Classical.byContradiction
  intro c
  refine h ?_
  unfold kI
  rw [tI_end (by omega)]
theorem C_stepT (h : PX by_ tp kd st nu n B L al so aF T) (hi : i < L.length) {k : Int32} : f_rd_step (iN (L.length + 1)) (iN 0) (iN i) k kd = some (iN (i + 1), iN (kI L n (i + 1))) := by
  have hl := h.len
  have ht := (h.tok (i := i + 1) (by omega)).1
  simp (disch := omega) only [f_rd_step, nlit, iN_add, iN_lt, iN_inb, iN_ix, ltT, ht, ↓reduceIte]
theorem C_failT (h : PX by_ tp kd st nu n B L al so aF T) (hi : i ≤ L.length) {w : Int32} : f_rd_fail (iN 0) mI (iN i) st w = some (w, iN (pI L n i)) := by
  have hl := h.len
  have ht := (h.tok hi).2.1
  simp (disch := omega) only [f_rd_fail, nlit, iN_inb, iN_ix, ltT, ht, ↓reduceIte]
theorem C_put {code : Nat → Int32} {cs : List (Nat × Nat)} (h : CC code cs) (hl : cs.length < 300) (o : Nat × Nat) {v : Int32} (hv : v = iN (cE o)) : ∃ code', f_law_emit (iN cs.length) code v = some (iN (cs ++ [o]).length, code') ∧ CC code' (cs ++ [o]) := by
  refine ⟨upd code cs.length v, ?_, fun j q hq => ?_⟩
  · rw [C_emit hl, List.length_append]; rfl
  · rcases get_snocG hq with w | ⟨w1, w2⟩
    · have hj : j < cs.length := (List.getElem?_eq_some_iff.mp w).1
      rw [upd_ne (by omega)]; exact h j q w
    · rw [w1, w2, upd_same, hv]
end
section
variable (tp tx0 : Nat → Int32) (n : Nat) (B : Nat → Nat) (L : List Tk) (so : Int32) (T : Nat)
def MR (i : Nat) (K : List Nat) (o : Nat) (w : Bool) (cr : List (Nat × Nat)) (s : T11) : Prop := ∃ a p t b wd tx pile, s = (a, p, t, b, wd, iN cr.length, iN K.length, iN o, b01 w, tx, pile) ∧ RS B n L i a p t b wd ∧ MC tx T cr ∧ TX tx0 tx T ∧ PL pile K
def gS : (T12 ⊕ T11) → Option T12 := Sum.elim (fun x => some x) (un11 fun at_41 place_42 token_43 number_44 word_45 written_46 piled_47 opens_48 isWhole_49 texts_50 pile_51 =>
        (f_m_settle (iN (680 * T)) written_46 piled_47 texts_50 pile_51 3).bind (un3 fun written_52 piled_53 texts_54 =>
        if 0 < piled_53 then
          some (1, at_41, place_42, token_43, number_44, word_45, written_52, piled_53, opens_48, isWhole_49, texts_54, pile_51)
        else
          some (0, at_41, place_42, token_43, number_44, word_45, written_52, piled_53, opens_48, isWhole_49, texts_54, pile_51)))
def FL (f p k : Nat) (s : T11) : Prop := ∀ z, k ≤ z → ∃ a t b wd wr pi op wh tx pile, (itr (un11 (fb_m_summed_10 (iN n) (iN (680 * T)) so tp)) z s).bind (gS T) = some (iN f, a, iN p, t, b, wd, wr, pi, op, wh, tx, pile) ∧ TX tx0 tx T
end
section
variable {tp tx0 : Nat → Int32} {n : Nat} {B : Nat → Nat} {L : List Tk} {so : Int32} {T : Nat}
theorem FL.step {f p k j : Nat} {s s' : T11} (h : stps (un11 (fb_m_summed_10 (iN n) (iN (680 * T)) so tp)) k s s') (hf : FL tp tx0 n so T f p j s') : FL tp tx0 n so T f p (j + k) s := by
  intro z hz
  have := stps_itr k (z - k) s s' h
  rw [show z - k + k = z by omega] at this
  rw [this]
  exact hf (z - k) (by omega)
theorem FL.mono {f p j k : Nat} {s : T11} (hf : FL tp tx0 n so T f p j s) (h : j ≤ k) : FL tp tx0 n so T f p k s := fun z hz => hf z (by omega)
theorem FL.now {f p : Nat} {s : T11} {a t b : Int32} {wd : Int64} {wr pi op wh : Int32} {tx pile : Nat → Int32} (h : un11 (fb_m_summed_10 (iN n) (iN (680 * T)) so tp) s = some (.inr (.inl (iN f, a, iN p, t, b, wd, wr, pi, op, wh, tx, pile)))) (ht : TX tx0 tx T) : FL tp tx0 n so T f p 1 s := by
  intro z hz
  obtain ⟨z, rfl⟩ : ∃ y, z = y + 1 := ⟨z - 1, by omega⟩
  refine ⟨a, t, b, wd, wr, pi, op, wh, tx, pile, ?_, ht⟩
  rw [itr_end h, Option.bind_some]; rfl
end
theorem tyR_app {al : Nat → Bool} : ∀ (c1 c2 : List (Nat × Nat)) (t v : Nat), tyR al (c1 ++ c2) t v = (tyR al c1 t v).bind (fun q => tyR al c2 q.1 q.2)
  | [], c2, t, v => rfl
  | o :: c1, c2, t, v => by
    show (tyS al o t v).bind (fun q => tyR al (c1 ++ c2) q.1 q.2) = ((tyS al o t v).bind (fun q => tyR al c1 q.1 q.2)).bind (fun q => tyR al c2 q.1 q.2)
    cases tyS al o t v with
    | none => rfl
    | some q => exact tyR_app c1 c2 q.1 q.2
theorem tyR_one {al : Nat → Bool} {o : Nat × Nat} {t v : Nat} : tyR al [o] t v = tyS al o t v := by
  show (tyS al o t v).bind (fun q => some (q.1, q.2)) = _
  cases tyS al o t v <;> rfl
