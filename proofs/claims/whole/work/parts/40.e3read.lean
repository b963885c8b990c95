/-! ===== PURE: reads: deeds' sums, holders, of, called, heap, owes, about ===== -/
def swS (p : Nat × Nat × Nat → Bool) : List (Nat × Nat × Nat) → Nat
  | [] => 0
  | q :: r => (if p q then q.2.1 else 0) + swS p r
theorem tri_at {n N k c : Nat} {f : Nat → Int32} (hk : k < n) (hc : c < 3) (hN : k * 3 + c < N) (hn : n < 1000) : f_tri_at (iN n) N f (iN k) (iN c) = some (f (k * 3 + c)) := by
  simp (disch := omega) only [f_tri_at, fj_tri_at_26, nlit, onl, negone, iN_add, iN_mul, iN_sub, iN_pm, iN_addneg, iN_ix, iN_inb, iN_lt, iN_eq, iN_nneg, iN_nm, nm_iN, mI_neg, mI_nnn, ne_eq, not_true_eq_false, not_false_eq_true, true_and, and_true, bnd, Option.bind_some, ↓reduceIte, ltT, ltF, eqT, eqF, leT, leF]
theorem tri_at0 {n N k : Nat} {f : Nat → Int32} (hk : k < n) (hN : k * 3 < N) (hn : n < 1000) : f_tri_at (iN n) N f (iN k) (iN 0) = some (f (k * 3)) := tri_at hk (by decide) hN hn
theorem enO_eq {n : Nat} {o : Option Nat} (hn : n < 8) (ho : ∀ m, o = some m → m < 8) : (iN n = enO o) = (o = some n) := by
  cases o with
  | none => rw [enO_none, iN_nm (by omega)]; exact propext ⟨False.elim, fun q => by cases q⟩
  | some m =>
    have := ho m rfl
    rw [enO_some, iN_eq (by omega) (by omega)]
    exact propext ⟨fun q => by rw [q], fun q => (Option.some.inj q).symm⟩
section
variable {n : Int32} {f : Nat → Int32} {l : List (Nat × Nat × Nat)}
theorem C_coinsLoop (h : CD n f l) (hl : l.length ≤ 20) (hq : ∀ q ∈ l, q.1 < 8 ∧ q.2.1 < 1000 ∧ q.2.2 < 8) {o : Option Nat} (ho : ∀ m, o = some m → m < 8) {c : Nat} (hc : c = 0 ∨ c = 2) : ∀ (m i k acc : Nat), i + m = l.length → m < k → itr (un2 (fb_world_coinsWhere_5 n f (iN c) (enO o))) k (iN acc, iN i) = some (iN (acc + swS (fun q => decide (o = some (if c = 0 then q.1 else q.2.2))) (l.drop i)))
  | 0, i, k, acc, hi, hk => by
    obtain ⟨k, rfl⟩ : ∃ z, k = z + 1 := ⟨k - 1, by omega⟩
    refine itr_end ?_
    rw [List.drop_eq_nil_of_le (by omega), h.1]
    simp (disch := omega) only [un2, fb_world_coinsWhere_5, nlit, onl, negone, iN_add, iN_mul, iN_sub, iN_pm, iN_addneg, iN_ix, iN_inb, iN_lt, iN_eq, iN_nneg, iN_nm, nm_iN, mI_neg, mI_nnn, ne_eq, not_true_eq_false, not_false_eq_true, true_and, and_true, bnd, Option.bind_some, ↓reduceIte, ltT, ltF, eqT, eqF, leT, leF, swS, Nat.add_zero]
  | m + 1, i, k, acc, hi, hk => by
    obtain ⟨k, rfl⟩ : ∃ z, k = z + 1 := ⟨k - 1, by omega⟩
    have hlt : i < l.length := by omega
    have hc0 : l[i]? = some l[i] := List.getElem?_eq_getElem hlt
    have hdr : l.drop i = l[i] :: l.drop (i + 1) := List.drop_eq_getElem_cons hlt
    obtain ⟨g1, g2, g3⟩ := h.2 i _ hc0
    obtain ⟨b1, b2, b3⟩ := hq _ (List.mem_of_getElem? hc0)
    have hsz := h.1
    rw [hdr, swS]
    have ih := fun acc' => C_coinsLoop h hl hq ho hc m (i + 1) k acc' (by omega) (by omega)
    have key : ∀ z, z < 8 → (if c = 0 then l[i].1 else l[i].2.2) = z → f_tri_at n 60 f (iN i) (iN c) = some (iN z) := by
      intro z hz e
      rw [hsz, tri_at hlt (by omega) (by omega) (by omega)]
      rcases hc with rfl | rfl
      · rw [if_pos rfl] at e; rw [Nat.add_zero, g1, e]
      · rw [if_neg (by decide)] at e; rw [g3, e]
    have hz8 : (if c = 0 then l[i].1 else l[i].2.2) < 8 := by split <;> assumption
    have k1 := key _ hz8 rfl
    have k2 : f_tri_at n 60 f (iN i) (iN 1) = some (iN l[i].2.1) := by rw [hsz, tri_at hlt (by omega) (by omega) (by omega), g2]
    by_cases hp : o = some (if c = 0 then l[i].1 else l[i].2.2)
    · have e1 : (iN (if c = 0 then l[i].1 else l[i].2.2) = enO o) = True := by rw [enO_eq hz8 ho]; exact eq_true hp
      rw [itr_step (s' := (iN (acc + l[i].2.1), iN (i + 1))), ih, if_pos (decide_eq_true hp), Nat.add_assoc]
      rw [hsz] at k1 k2 ⊢
      simp (disch := omega) only [un2, fb_world_coinsWhere_5, nlit, k1, k2, e1, nlit, onl, negone, iN_add, iN_mul, iN_sub, iN_pm, iN_addneg, iN_ix, iN_inb, iN_lt, iN_eq, iN_nneg, iN_nm, nm_iN, mI_neg, mI_nnn, ne_eq, not_true_eq_false, not_false_eq_true, true_and, and_true, bnd, Option.bind_some, ↓reduceIte, ltT, ltF, eqT, eqF, leT, leF]
    · have e1 : (iN (if c = 0 then l[i].1 else l[i].2.2) = enO o) = False := by rw [enO_eq hz8 ho]; exact eq_false hp
      rw [itr_step (s' := (iN acc, iN (i + 1))), ih, if_neg (by rw [decide_eq_true_eq]; exact hp), Nat.zero_add]
      rw [hsz] at k1 ⊢
      simp (disch := omega) only [un2, fb_world_coinsWhere_5, nlit, k1, e1, nlit, onl, negone, iN_add, iN_mul, iN_sub, iN_pm, iN_addneg, iN_ix, iN_inb, iN_lt, iN_eq, iN_nneg, iN_nm, nm_iN, mI_neg, mI_nnn, ne_eq, not_true_eq_false, not_false_eq_true, true_and, and_true, bnd, Option.bind_some, ↓reduceIte, ltT, ltF, eqT, eqF, leT, leF]
theorem C_owed (h : CD n f l) (hl : l.length ≤ 20) (hq : ∀ q ∈ l, q.1 < 8 ∧ q.2.1 < 1000 ∧ q.2.2 < 8) {o : Option Nat} (ho : ∀ m, o = some m → m < 8) : f_world_owedUnder n f (enO o) = some (iN (swS (fun q => decide (o = some q.1)) l)) := by
  have := C_coinsLoop h hl hq ho (c := 0) (Or.inl rfl) l.length 0 KF 0 (by omega) (kf_lt (by omega))
  rw [List.drop_zero, Nat.zero_add] at this
  simp only [f_world_owedUnder, f_world_coinsWhere, nlit, this, Option.bind_some]; rfl
theorem C_did (h : CD n f l) (hl : l.length ≤ 20) (hq : ∀ q ∈ l, q.1 < 8 ∧ q.2.1 < 1000 ∧ q.2.2 < 8) {w : Nat} (hw : w < 8) : f_world_didBy n f (iN w) = some (iN (swS (fun q => decide (w = q.2.2)) l)) := by
  have := C_coinsLoop h hl hq (o := some w) (fun m q => by cases q; exact hw) (c := 2) (Or.inr rfl) l.length 0 KF 0 (by omega) (kf_lt (by omega))
  rw [List.drop_zero, Nat.zero_add, enO_some] at this
  simp only [f_world_didBy, f_world_coinsWhere, nlit, this, Option.bind_some]
  congr 3
  funext q
  simp
end
section
variable {a : Nat → Int32} {l : List (Nat × Nat × Nat)}
theorem M_owesLoop (h5 : a 5 = iN l.length) (ha : ∀ (k : Nat) (q : Nat × Nat × Nat), l[k]? = some q → a (40 + 3 * k) = iN q.1 ∧ a (40 + 3 * k + 1) = iN q.2.1 ∧ a (40 + 3 * k + 2) = iN q.2.2) (hl : l.length ≤ 20) (hq : ∀ q ∈ l, q.1 < 8 ∧ q.2.1 < 1000 ∧ q.2.2 < 8) {w : Nat} (hw : w < 8) : ∀ (m i k acc : Nat), i + m = l.length → m < k → itr (un2 (fb_m_owesOf_4 a (iN w))) k (iN acc, iN i) = some (iN (acc + swS (fun q => decide (some w = some q.1)) (l.drop i)))
  | 0, i, k, acc, hi, hk => by
    obtain ⟨k, rfl⟩ : ∃ z, k = z + 1 := ⟨k - 1, by omega⟩
    refine itr_end ?_
    rw [List.drop_eq_nil_of_le (by omega)]
    simp (disch := omega) only [un2, fb_m_owesOf_4, h5, nlit, onl, negone, iN_add, iN_mul, iN_sub, iN_pm, iN_addneg, iN_ix, iN_inb, iN_lt, iN_eq, iN_nneg, iN_nm, nm_iN, mI_neg, mI_nnn, ne_eq, not_true_eq_false, not_false_eq_true, true_and, and_true, bnd, Option.bind_some, ↓reduceIte, ltT, ltF, eqT, eqF, leT, leF, swS, Nat.add_zero]
  | m + 1, i, k, acc, hi, hk => by
    obtain ⟨k, rfl⟩ : ∃ z, k = z + 1 := ⟨k - 1, by omega⟩
    have hlt : i < l.length := by omega
    have hc0 : l[i]? = some l[i] := List.getElem?_eq_getElem hlt
    have hdr : l.drop i = l[i] :: l.drop (i + 1) := List.drop_eq_getElem_cons hlt
    obtain ⟨g1, g2, g3⟩ := ha i _ hc0
    obtain ⟨b1, b2, b3⟩ := hq _ (List.mem_of_getElem? hc0)
    rw [hdr, swS]
    have ih := fun acc' => M_owesLoop h5 ha hl hq hw m (i + 1) k acc' (by omega) (by omega)
    by_cases hp : l[i].1 = w
    · rw [itr_step (s' := (iN (acc + l[i].2.1), iN (i + 1))), ih, if_pos (decide_eq_true (by rw [hp])), Nat.add_assoc]
      simp (disch := omega) only [un2, fb_m_owesOf_4, h5, g1, g2, nlit, onl, negone, iN_add, iN_mul, iN_sub, iN_pm, iN_addneg, iN_ix, iN_inb, iN_lt, iN_eq, iN_nneg, iN_nm, nm_iN, mI_neg, mI_nnn, ne_eq, not_true_eq_false, not_false_eq_true, true_and, and_true, bnd, Option.bind_some, ↓reduceIte, ltT, ltF, eqT, eqF, leT, leF]
    · rw [itr_step (s' := (iN acc, iN (i + 1))), ih, if_neg (by rw [decide_eq_true_eq]; intro q; exact hp (Option.some.inj q).symm), Nat.zero_add]
      simp (disch := omega) only [un2, fb_m_owesOf_4, h5, g1, nlit, onl, negone, iN_add, iN_mul, iN_sub, iN_pm, iN_addneg, iN_ix, iN_inb, iN_lt, iN_eq, iN_nneg, iN_nm, nm_iN, mI_neg, mI_nnn, ne_eq, not_true_eq_false, not_false_eq_true, true_and, and_true, bnd, Option.bind_some, ↓reduceIte, ltT, ltF, eqT, eqF, leT, leF, Nat.add_zero]
theorem M_didLoop (h5 : a 5 = iN l.length) (ha : ∀ (k : Nat) (q : Nat × Nat × Nat), l[k]? = some q → a (40 + 3 * k) = iN q.1 ∧ a (40 + 3 * k + 1) = iN q.2.1 ∧ a (40 + 3 * k + 2) = iN q.2.2) (hl : l.length ≤ 20) (hq : ∀ q ∈ l, q.1 < 8 ∧ q.2.1 < 1000 ∧ q.2.2 < 8) {w : Nat} (hw : w < 8) : ∀ (m i k acc : Nat), i + m = l.length → m < k → itr (un2 (fb_m_didOf_4 a (iN w))) k (iN acc, iN i) = some (iN (acc + swS (fun q => decide (w = q.2.2)) (l.drop i)))
  | 0, i, k, acc, hi, hk => by
    obtain ⟨k, rfl⟩ : ∃ z, k = z + 1 := ⟨k - 1, by omega⟩
    refine itr_end ?_
    rw [List.drop_eq_nil_of_le (by omega)]
    simp (disch := omega) only [un2, fb_m_didOf_4, h5, nlit, onl, negone, iN_add, iN_mul, iN_sub, iN_pm, iN_addneg, iN_ix, iN_inb, iN_lt, iN_eq, iN_nneg, iN_nm, nm_iN, mI_neg, mI_nnn, ne_eq, not_true_eq_false, not_false_eq_true, true_and, and_true, bnd, Option.bind_some, ↓reduceIte, ltT, ltF, eqT, eqF, leT, leF, swS, Nat.add_zero]
  | m + 1, i, k, acc, hi, hk => by
    obtain ⟨k, rfl⟩ : ∃ z, k = z + 1 := ⟨k - 1, by omega⟩
    have hlt : i < l.length := by omega
    have hc0 : l[i]? = some l[i] := List.getElem?_eq_getElem hlt
    have hdr : l.drop i = l[i] :: l.drop (i + 1) := List.drop_eq_getElem_cons hlt
    obtain ⟨g1, g2, g3⟩ := ha i _ hc0
    obtain ⟨b1, b2, b3⟩ := hq _ (List.mem_of_getElem? hc0)
    rw [hdr, swS]
    have ih := fun acc' => M_didLoop h5 ha hl hq hw m (i + 1) k acc' (by omega) (by omega)
    by_cases hp : l[i].2.2 = w
    · rw [itr_step (s' := (iN (acc + l[i].2.1), iN (i + 1))), ih, if_pos (decide_eq_true hp.symm), Nat.add_assoc]
      simp (disch := omega) only [un2, fb_m_didOf_4, h5, g2, g3, nlit, onl, negone, iN_add, iN_mul, iN_sub, iN_pm, iN_addneg, iN_ix, iN_inb, iN_lt, iN_eq, iN_nneg, iN_nm, nm_iN, mI_neg, mI_nnn, ne_eq, not_true_eq_false, not_false_eq_true, true_and, and_true, bnd, Option.bind_some, ↓reduceIte, ltT, ltF, eqT, eqF, leT, leF]
    · rw [itr_step (s' := (iN acc, iN (i + 1))), ih, if_neg (by rw [decide_eq_true_eq]; intro q; exact hp q.symm), Nat.zero_add]
      simp (disch := omega) only [un2, fb_m_didOf_4, h5, g3, nlit, onl, negone, iN_add, iN_mul, iN_sub, iN_pm, iN_addneg, iN_ix, iN_inb, iN_lt, iN_eq, iN_nneg, iN_nm, nm_iN, mI_neg, mI_nnn, ne_eq, not_true_eq_false, not_false_eq_true, true_and, and_true, bnd, Option.bind_some, ↓reduceIte, ltT, ltF, eqT, eqF, leT, leF, Nat.add_zero]
theorem M_owed (h5 : a 5 = iN l.length) (ha : ∀ (k : Nat) (q : Nat × Nat × Nat), l[k]? = some q → a (40 + 3 * k) = iN q.1 ∧ a (40 + 3 * k + 1) = iN q.2.1 ∧ a (40 + 3 * k + 2) = iN q.2.2) (hl : l.length ≤ 20) (hq : ∀ q ∈ l, q.1 < 8 ∧ q.2.1 < 1000 ∧ q.2.2 < 8) {w : Nat} (hw : w < 8) : f_m_owesOf a (iN w) = some (iN (swS (fun q => decide (some w = some q.1)) l)) := by
  have := M_owesLoop h5 ha hl hq hw l.length 0 KF 0 (by omega) (kf_lt (by omega))
  rw [List.drop_zero, Nat.zero_add] at this
  simp only [f_m_owesOf, nlit, this, Option.bind_some]
theorem M_did (h5 : a 5 = iN l.length) (ha : ∀ (k : Nat) (q : Nat × Nat × Nat), l[k]? = some q → a (40 + 3 * k) = iN q.1 ∧ a (40 + 3 * k + 1) = iN q.2.1 ∧ a (40 + 3 * k + 2) = iN q.2.2) (hl : l.length ≤ 20) (hq : ∀ q ∈ l, q.1 < 8 ∧ q.2.1 < 1000 ∧ q.2.2 < 8) {w : Nat} (hw : w < 8) : f_m_didOf a (iN w) = some (iN (swS (fun q => decide (w = q.2.2)) l)) := by
  have := M_didLoop h5 ha hl hq hw l.length 0 KF 0 (by omega) (kf_lt (by omega))
  rw [List.drop_zero, Nat.zero_add] at this
  simp only [f_m_didOf, nlit, this, Option.bind_some]
end
/-- who has a name, the first from i on -/
def hoS (t : Tn) (n : Nat) : Nat → Nat → Option Nat
  | 0, _ => none
  | m + 1, i => if t.1 i = some n then some i else hoS t n m (i + 1)
theorem C_holdLoop {nm sz : Nat → Int32} {hp : Nat → Nat → Int32} {t : Tn} (h : CT nm sz hp t) (ht : TW t) {n : Nat} (hn : n < 8) : ∀ (m i k : Nat), i + m = 8 → m < k → itr (fb_town_holderOf_2 nm (iN n)) k (iN i) = some (match hoS t n m i with
    | none => .inr ()
    | some j => .inl (iN j))
  | 0, i, k, hi, hk => by
    obtain ⟨k, rfl⟩ : ∃ z, k = z + 1 := ⟨k - 1, by omega⟩
    refine itr_end ?_
    simp (disch := omega) only [fb_town_holderOf_2, nlit, onl, negone, iN_add, iN_mul, iN_sub, iN_pm, iN_addneg, iN_ix, iN_inb, iN_lt, iN_eq, iN_nneg, iN_nm, nm_iN, mI_neg, mI_nnn, ne_eq, not_true_eq_false, not_false_eq_true, true_and, and_true, bnd, Option.bind_some, ↓reduceIte, ltT, ltF, eqT, eqF, leT, leF, hoS]
  | m + 1, i, k, hi, hk => by
    obtain ⟨k, rfl⟩ : ∃ z, k = z + 1 := ⟨k - 1, by omega⟩
    have hi8 : i < 8 := by omega
    have he := h.1 i hi8
    rw [hoS]
    by_cases hp : t.1 i = some n
    · rw [if_pos hp]
      refine itr_end ?_
      rw [hp, enO_some] at he
      simp (disch := omega) only [fb_town_holderOf_2, he, nlit, onl, negone, iN_add, iN_mul, iN_sub, iN_pm, iN_addneg, iN_ix, iN_inb, iN_lt, iN_eq, iN_nneg, iN_nm, nm_iN, mI_neg, mI_nnn, ne_eq, not_true_eq_false, not_false_eq_true, true_and, and_true, bnd, Option.bind_some, ↓reduceIte, ltT, ltF, eqT, eqF, leT, leF]
    · rw [if_neg hp, itr_step (s' := iN (i + 1)), C_holdLoop h ht hn m (i + 1) k (by omega) (by omega)]
      have e : (enO (t.1 i) = iN n) = False := by
        refine propext ⟨fun q => hp ?_, False.elim⟩
        have := (enO_eq hn (fun m hm => (ht.1 i m hm).2)).mp q.symm
        exact this
      simp (disch := omega) only [fb_town_holderOf_2, he, e, nlit, onl, negone, iN_add, iN_mul, iN_sub, iN_pm, iN_addneg, iN_ix, iN_inb, iN_lt, iN_eq, iN_nneg, iN_nm, nm_iN, mI_neg, mI_nnn, ne_eq, not_true_eq_false, not_false_eq_true, true_and, and_true, bnd, Option.bind_some, ↓reduceIte, ltT, ltF, eqT, eqF, leT, leF]
theorem M_holdLoop {a d : Nat → Int32} {t : Tn} {P b : Nat} (hP : P ≤ 8) (h0 : a 0 = iN P) (h : MT d b t) (hb : b ≤ 525) (ht : TW t) {n : Nat} (hn : n < 8) : ∀ (m i k : Nat), i + m = P → m < k → itr (fb_m_holder_2 (iN b) a d (iN n)) k (iN i) = some (match hoS t n m i with
    | none => .inr ()
    | some j => .inl (iN j))
  | 0, i, k, hi, hk => by
    obtain ⟨k, rfl⟩ : ∃ z, k = z + 1 := ⟨k - 1, by omega⟩
    refine itr_end ?_
    simp (disch := omega) only [fb_m_holder_2, h0, nlit, onl, negone, iN_add, iN_mul, iN_sub, iN_pm, iN_addneg, iN_ix, iN_inb, iN_lt, iN_eq, iN_nneg, iN_nm, nm_iN, mI_neg, mI_nnn, ne_eq, not_true_eq_false, not_false_eq_true, true_and, and_true, bnd, Option.bind_some, ↓reduceIte, ltT, ltF, eqT, eqF, leT, leF, hoS]
  | m + 1, i, k, hi, hk => by
    obtain ⟨k, rfl⟩ : ∃ z, k = z + 1 := ⟨k - 1, by omega⟩
    have hi8 : i < 8 := by omega
    have he := h.nameAt hb hi8
    rw [hoS]
    by_cases hp : t.1 i = some n
    · rw [if_pos hp]
      refine itr_end ?_
      rw [hp, enO_some] at he
      simp (disch := omega) only [fb_m_holder_2, h0, he, nlit, onl, negone, iN_add, iN_mul, iN_sub, iN_pm, iN_addneg, iN_ix, iN_inb, iN_lt, iN_eq, iN_nneg, iN_nm, nm_iN, mI_neg, mI_nnn, ne_eq, not_true_eq_false, not_false_eq_true, true_and, and_true, bnd, Option.bind_some, ↓reduceIte, ltT, ltF, eqT, eqF, leT, leF]
    · rw [if_neg hp, itr_step (s' := iN (i + 1)), M_holdLoop hP h0 h hb ht hn m (i + 1) k (by omega) (by omega)]
      have e : (enO (t.1 i) = iN n) = False := by
        refine propext ⟨fun q => hp ?_, False.elim⟩
        exact (enO_eq hn (fun m hm => (ht.1 i m hm).2)).mp q.symm
      simp (disch := omega) only [fb_m_holder_2, h0, he, e, nlit, onl, negone, iN_add, iN_mul, iN_sub, iN_pm, iN_addneg, iN_ix, iN_inb, iN_lt, iN_eq, iN_nneg, iN_nm, nm_iN, mI_neg, mI_nnn, ne_eq, not_true_eq_false, not_false_eq_true, true_and, and_true, bnd, Option.bind_some, ↓reduceIte, ltT, ltF, eqT, eqF, leT, leF]
theorem hoS_more {t : Tn} {n P : Nat} (h : ∀ i, P ≤ i → t.1 i ≠ some n) : ∀ (m i k : Nat), i + m = P → hoS t n (m + k) i = hoS t n m i
  | 0, i, 0, _ => rfl
  | 0, i, k + 1, hi => by
    rw [show 0 + (k + 1) = k + 1 by omega]
    show (if t.1 i = some n then some i else hoS t n k (i + 1)) = none
    rw [if_neg (h i (by omega))]
    have := hoS_more (P := i + 1) (fun j hj => h j (by omega)) 0 (i + 1) k (by omega)
    rw [Nat.zero_add] at this
    exact this
  | m + 1, i, k, hi => by
    rw [show m + 1 + k = (m + k) + 1 by omega, hoS, hoS]
    split
    · rfl
    · exact hoS_more h m (i + 1) k (by omega)
theorem hoS_lt {t : Tn} {n : Nat} : ∀ (m i j : Nat), hoS t n m i = some j → j < i + m ∧ t.1 j = some n
  | 0, i, j, h => by cases h
  | m + 1, i, j, h => by
    rw [hoS] at h
    split at h
    · cases h; rename_i c; exact ⟨by omega, c⟩
    · have := hoS_lt m (i + 1) j h
      exact ⟨by omega, this.2⟩
theorem C_holder {nm sz : Nat → Int32} {hp : Nat → Nat → Int32} {t : Tn} (h : CT nm sz hp t) (ht : TW t) {n : Nat} (hn : n < 8) : f_town_holderOf nm (iN n) = some (enO (hoS t n 8 0)) := by
  have := C_holdLoop h ht hn 8 0 KF (by omega) (kf_lt (by omega))
  unfold f_town_holderOf
  rw [show (0 : Int32) = iN 0 from rfl, this]
  cases hoS t n 8 0 <;> rfl
theorem M_holder {a d : Nat → Int32} {t : Tn} {P b : Nat} (hP : P ≤ 8) (h0 : a 0 = iN P) (h : MT d b t) (hb : b ≤ 525) (ht : TW t) (hlt : ∀ i n, t.1 i = some n → i < P) {n : Nat} (hn : n < 8) : f_m_holder (iN b) a d (iN n) = some (enO (hoS t n 8 0)) := by
  have := M_holdLoop hP h0 h hb ht hn P 0 KF (by omega) (kf_lt (by omega))
  have e := hoS_more (t := t) (n := n) (P := P) (fun i hi q => by have := hlt i n q; omega) P 0 (8 - P) (by omega)
  rw [show P + (8 - P) = 8 by omega] at e
  rw [← e] at this
  unfold f_m_holder
  rw [show (0 : Int32) = iN 0 from rfl, this]
  cases hoS t n 8 0 <;> rfl
