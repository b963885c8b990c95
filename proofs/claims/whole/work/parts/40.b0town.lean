/-! ===== PURE: a town: who has which name, the heaps ===== -/
abbrev Tn : Type := (Nat → Option Nat) × (Nat → List Nat)
def enO : Option Nat → Int32
  | none => mI
  | some n => iN n
theorem enO_none : enO none = mI := rfl
theorem enO_some {n : Nat} : enO (some n) = iN n := rfl
def setF {α : Type} (f : Nat → α) (k : Nat) (x : α) : Nat → α := fun j => if j = k then x else f j
theorem setF_same {α : Type} {f : Nat → α} {k : Nat} {x : α} : setF f k x k = x := by unfold setF; rw [if_pos rfl]
theorem setF_ne {α : Type} {f : Nat → α} {k j : Nat} {x : α} (h : j ≠ k) : setF f k x j = f j := by unfold setF; rw [if_neg h]
def TW (t : Tn) : Prop := (∀ i n, t.1 i = some n → i < 8 ∧ n < 8) ∧ (∀ g n, n ∈ t.2 g → g < 3 ∧ n < 8) ∧ (∀ i j n, t.1 i = some n → t.1 j = some n → i = j) ∧ (∀ i n g, t.1 i = some n → n ∈ t.2 g → False) ∧ (∀ g h n, n ∈ t.2 g → n ∈ t.2 h → g = h) ∧ ∀ g, (t.2 g).Nodup
theorem nd_len : ∀ (n : Nat) (l : List Nat), l.Nodup → (∀ x ∈ l, x < n) → l.length ≤ n
  | 0, l, _, h => by
    cases l with
    | nil => exact Nat.le_refl _
    | cons x l => exact absurd (h x List.mem_cons_self) (Nat.not_lt_zero x)
  | n + 1, l, hd, h => by
    by_cases hm : n ∈ l
    · have h1 := nd_len n (l.erase n) (hd.erase n) (fun x hx => by
        have := (hd.mem_erase_iff).mp hx
        have h2 := h x this.2
        have h3 := this.1
        omega)
      rw [List.length_erase_of_mem hm] at h1
      omega
    · have h1 := nd_len n l hd (fun x hx => by
        have h2 := h x hx
        have h3 : x ≠ n := fun e => hm (e ▸ hx)
        omega)
      omega
theorem TW.len {t : Tn} (h : TW t) (g : Nat) : (t.2 g).length ≤ 8 := nd_len 8 _ (h.2.2.2.2.2 g) (fun x hx => (h.2.1 g x hx).2)
theorem TW.len7 {t : Tn} (h : TW t) {w n : Nat} (hw : t.1 w = some n) (g : Nat) : (t.2 g).length < 8 := by
  have h1 : (n :: t.2 g).Nodup := List.nodup_cons.mpr ⟨fun q => h.2.2.2.1 w n g hw q, h.2.2.2.2.2 g⟩
  have h2 := nd_len 8 _ h1 (fun x hx => by
    rcases List.mem_cons.mp hx with rfl | hx
    · exact (h.1 w x hw).2
    · exact (h.2.1 g x hx).2)
  rw [List.length_cons] at h2
  omega
def outT (t : Tn) (w g n : Nat) : Tn := (setF t.1 w none, setF t.2 g (t.2 g ++ [n]))
def inT (t : Tn) (w g k n : Nat) : Tn := (setF t.1 w (some n), setF t.2 g ((t.2 g).eraseIdx k))
theorem TW.out {t : Tn} (h : TW t) {w g n : Nat} (hw : t.1 w = some n) (hg : g < 3) : TW (outT t w g n) := by
  obtain ⟨h1, h2, h3, h4, h5, h6⟩ := h
  have e1 : ∀ i m, (outT t w g n).1 i = some m → t.1 i = some m ∧ i ≠ w := by
    intro i m hi
    by_cases q : i = w
    · subst q
      rw [show (outT t i g n).1 i = none from setF_same] at hi
      cases hi
    · rw [show (outT t w g n).1 i = t.1 i from setF_ne q] at hi
      exact ⟨hi, q⟩
  have e2 : ∀ j m, m ∈ (outT t w g n).2 j → m ∈ t.2 j ∨ (j = g ∧ m = n) := by
    intro j m hm
    by_cases q : j = g
    · subst q
      rw [show (outT t w j n).2 j = t.2 j ++ [n] from setF_same] at hm
      rcases List.mem_append.mp hm with hm | hm
      · exact Or.inl hm
      · exact Or.inr ⟨rfl, List.mem_singleton.mp hm⟩
    · rw [show (outT t w g n).2 j = t.2 j from setF_ne q] at hm
      exact Or.inl hm
  refine ⟨fun i m hi => h1 i m (e1 i m hi).1, fun j m hm => ?_, fun i j m hi hj => h3 i j m (e1 i m hi).1 (e1 j m hj).1, fun i m j hi hm => ?_, fun j k m hj hk => ?_, fun j => ?_⟩
  · rcases e2 j m hm with q | ⟨rfl, rfl⟩
    · exact h2 j m q
    · exact ⟨hg, (h1 w m hw).2⟩
  · obtain ⟨a, b⟩ := e1 i m hi
    rcases e2 j m hm with q | ⟨rfl, rfl⟩
    · exact h4 i m j a q
    · exact b (h3 i w m a hw)
  · rcases e2 j m hj with q | ⟨rfl, rfl⟩ <;> rcases e2 k m hk with r | ⟨rfl, e⟩
    · exact h5 j k m q r
    · subst e; exact (h4 w m j hw q).elim
    · exact (h4 w m k hw r).elim
    · rfl
  · by_cases q : j = g
    · subst q
      rw [show (outT t w j n).2 j = t.2 j ++ [n] from setF_same]
      rw [List.nodup_append]
      refine ⟨h6 j, List.nodup_cons.mpr ⟨List.not_mem_nil, List.nodup_nil⟩, fun a ha b hb => ?_⟩
      rw [List.mem_singleton] at hb
      subst hb
      intro e; subst e
      exact h4 w a j hw ha
    · rw [show (outT t w g n).2 j = t.2 j from setF_ne q]
      exact h6 j
theorem TW.in {t : Tn} (h : TW t) {w g k n : Nat} (hw : w < 8) (hn : t.1 w = none) (hk : (t.2 g)[k]? = some n) : TW (inT t w g k n) := by
  obtain ⟨h1, h2, h3, h4, h5, h6⟩ := h
  have hmem : n ∈ t.2 g := List.mem_of_getElem? hk
  have hlt : k < (t.2 g).length := (List.getElem?_eq_some_iff.mp hk).1
  have e1 : ∀ i m, (inT t w g k n).1 i = some m → (i = w ∧ m = n) ∨ (i ≠ w ∧ t.1 i = some m) := by
    intro i m hi
    by_cases q : i = w
    · subst q
      rw [show (inT t i g k n).1 i = some n from setF_same] at hi
      exact Or.inl ⟨rfl, (Option.some.inj hi).symm⟩
    · rw [show (inT t w g k n).1 i = t.1 i from setF_ne q] at hi
      exact Or.inr ⟨q, hi⟩
  have e2 : ∀ j m, m ∈ (inT t w g k n).2 j → m ∈ t.2 j ∧ m ≠ n := by
    intro j m hm
    by_cases q : j = g
    · subst q
      rw [show (inT t w j k n).2 j = (t.2 j).eraseIdx k from setF_same] at hm
      refine ⟨List.mem_of_mem_eraseIdx hm, fun e => ?_⟩
      subst e
      rw [List.mem_eraseIdx_iff_getElem?] at hm
      obtain ⟨i, hi, hm⟩ := hm
      exact hi ((List.getElem?_inj (List.getElem?_eq_some_iff.mp hm).1 (h6 j)).mp (hm.trans hk.symm))
    · rw [show (inT t w g k n).2 j = t.2 j from setF_ne q] at hm
      exact ⟨hm, fun e => q (h5 j g n (e ▸ hm) hmem)⟩
  refine ⟨fun i m hi => ?_, fun j m hm => h2 j m (e2 j m hm).1, fun i j m hi hj => ?_, fun i m j hi hm => ?_, fun j i m hj hk => h5 j i m (e2 j m hj).1 (e2 i m hk).1, fun j => ?_⟩
  · rcases e1 i m hi with ⟨rfl, rfl⟩ | ⟨_, q⟩
    · exact ⟨hw, (h2 g m hmem).2⟩
    · exact h1 i m q
  · rcases e1 i m hi with ⟨rfl, rfl⟩ | ⟨a, b⟩ <;> rcases e1 j m hj with ⟨rfl, e⟩ | ⟨c, d⟩
    · rfl
    · exact (h4 j m g d hmem).elim
    · subst e; exact (h4 i m g b hmem).elim
    · exact h3 i j m b d
  · obtain ⟨a, b⟩ := e2 j m hm
    rcases e1 i m hi with ⟨rfl, rfl⟩ | ⟨_, c⟩
    · exact b rfl
    · exact h4 i m j c a
  · by_cases q : j = g
    · subst q
      rw [show (inT t w j k n).2 j = (t.2 j).eraseIdx k from setF_same]
      exact (h6 j).sublist (List.eraseIdx_sublist (t.2 j) k)
    · rw [show (inT t w g k n).2 j = t.2 j from setF_ne q]
      exact h6 j
/-- the class's town -/
def CT (names sizes : Nat → Int32) (heaps : Nat → Nat → Int32) (t : Tn) : Prop := (∀ i, i < 8 → names i = enO (t.1 i)) ∧ (∀ g, g < 3 → sizes g = iN (t.2 g).length) ∧ ∀ g k n, g < 3 → (t.2 g)[k]? = some n → heaps g k = iN n
/-- the reference's town, from b on -/
def MT (d : Nat → Int32) (b : Nat) (t : Tn) : Prop := (∀ i, i < 8 → d (b + i) = enO (t.1 i)) ∧ (∀ g, g < 3 → d (b + 8 + g) = iN (t.2 g).length) ∧ ∀ g k n, g < 3 → (t.2 g)[k]? = some n → d (b + 11 + 8 * g + k) = iN n
section
variable {names sizes : Nat → Int32} {heaps : Nat → Nat → Int32} {t : Tn} {w g k n : Nat}
theorem CT.nameOf (h : CT names sizes heaps t) (hw : w < 8) : f_town_nameOf names (iN w) = some (enO (t.1 w)) := by
  simp (disch := omega) only [f_town_nameOf, nlit, onl, negone, iN_add, iN_mul, iN_sub, iN_pm, iN_addneg, iN_ix, iN_inb, iN_lt, iN_eq, iN_nneg, iN_nm, nm_iN, mI_neg, mI_nnn, ne_eq, not_true_eq_false, not_false_eq_true, true_and, and_true, bnd, Option.bind_some, ↓reduceIte, ltT, ltF, eqT, eqF, leT, leF, h.1 w hw]
theorem CT.sizeOf (h : CT names sizes heaps t) (hg : g < 3) : f_town_sizeOf sizes (iN g) = some (iN (t.2 g).length) := by
  simp (disch := omega) only [f_town_sizeOf, nlit, onl, negone, iN_add, iN_mul, iN_sub, iN_pm, iN_addneg, iN_ix, iN_inb, iN_lt, iN_eq, iN_nneg, iN_nm, nm_iN, mI_neg, mI_nnn, ne_eq, not_true_eq_false, not_false_eq_true, true_and, and_true, bnd, Option.bind_some, ↓reduceIte, ltT, ltF, eqT, eqF, leT, leF, h.2.1 g hg]
theorem CT.nameAt (h : CT names sizes heaps t) (ht : TW t) (hg : g < 3) (hk : (t.2 g)[k]? = some n) : f_town_nameAt sizes heaps (iN g) (iN k) = some (iN n) := by
  have h1 := ht.len g
  have h2 : k < (t.2 g).length := (List.getElem?_eq_some_iff.mp hk).1
  simp (disch := omega) only [f_town_nameAt, h.sizeOf hg, nlit, onl, negone, iN_add, iN_mul, iN_sub, iN_pm, iN_addneg, iN_ix, iN_inb, iN_lt, iN_eq, iN_nneg, iN_nm, nm_iN, mI_neg, mI_nnn, ne_eq, not_true_eq_false, not_false_eq_true, true_and, and_true, bnd, Option.bind_some, ↓reduceIte, ltT, ltF, eqT, eqF, leT, leF, h.2.2 g k n hg hk]
theorem CT.leave (h : CT names sizes heaps t) (ht : TW t) (hg : g < 3) (hw : t.1 w = some n) : ∃ names' sizes' heaps', f_town_leave names sizes heaps (iN w) (iN g) = some (iN n, names', sizes', heaps') ∧ CT names' sizes' heaps' (outT t w g n) := by
  have hw8 : w < 8 ∧ n < 8 := ht.1 w n hw
  have h7 := ht.len7 hw g
  refine ⟨upd names w mI, upd sizes g (iN ((t.2 g).length + 1)), setR heaps g (upd (heaps g) (t.2 g).length (iN n)), ?_, fun i hi => ?_, fun j hj => ?_, fun j k' m hj hm => ?_⟩
  · simp (disch := omega) only [f_town_leave, h.nameOf hw8.1, h.sizeOf hg, hw, enO_some, nlit, onl, negone, iN_add, iN_mul, iN_sub, iN_pm, iN_addneg, iN_ix, iN_inb, iN_lt, iN_eq, iN_nneg, iN_nm, nm_iN, mI_neg, mI_nnn, ne_eq, not_true_eq_false, not_false_eq_true, true_and, and_true, bnd, Option.bind_some, ↓reduceIte, ltT, ltF, eqT, eqF, leT, leF]
  · by_cases q : i = w
    · subst q
      rw [upd_same, show (outT t i g n).1 i = none from setF_same]; rfl
    · rw [upd_ne q, show (outT t w g n).1 i = t.1 i from setF_ne q]
      exact h.1 i hi
  · by_cases q : j = g
    · subst q
      rw [upd_same, show (outT t w j n).2 j = t.2 j ++ [n] from setF_same, List.length_append]; rfl
    · rw [upd_ne q, show (outT t w g n).2 j = t.2 j from setF_ne q]
      exact h.2.1 j hj
  · by_cases q : j = g
    · subst q
      rw [show (outT t w j n).2 j = t.2 j ++ [n] from setF_same] at hm
      rw [setR_same]
      by_cases r : k' = (t.2 j).length
      · subst r
        rw [List.getElem?_concat_length] at hm
        rw [upd_same, Option.some.inj hm]
      · have hl : k' < (t.2 j).length := by
          have := (List.getElem?_eq_some_iff.mp hm).1
          rw [List.length_append, List.length_singleton] at this
          omega
        rw [upd_ne r]
        rw [List.getElem?_append_left hl] at hm
        exact h.2.2 j k' m hj hm
    · rw [show (outT t w g n).2 j = t.2 j from setF_ne q] at hm
      rw [setR_ne q]
      exact h.2.2 j k' m hj hm
theorem CT.enter (h : CT names sizes heaps t) (ht : TW t) (hg : g < 3) (hw : w < 8) (hn : t.1 w = none) (hk : (t.2 g)[k]? = some n) : ∃ sizes' heaps' names', f_town_enter sizes heaps names (iN w) (iN g) (iN k) = some (iN n, sizes', heaps', names') ∧ CT names' sizes' heaps' (inT t w g k n) := by
  have h1 := ht.len g
  have h2 : k < (t.2 g).length := (List.getElem?_eq_some_iff.mp hk).1
  have hn8 : n < 8 := (ht.2.1 g n (List.mem_of_getElem? hk)).2
  have hit : itr (un2 (fb_town_enter_52 (iN g) (iN ((t.2 g).length - 1)))) KF (iN k, heaps) = some (setR heaps g (fun j => if k ≤ j ∧ j < (t.2 g).length - 1 then heaps g (j + 1) else heaps g j)) := by
    have := itr_seq (f := un2 (fb_town_enter_52 (iN g) (iN ((t.2 g).length - 1)))) (fun z => (iN (k + z), setR heaps g (fun j => if k ≤ j ∧ j < k + z then heaps g (j + 1) else heaps g j))) (e := setR heaps g (fun j => if k ≤ j ∧ j < (t.2 g).length - 1 then heaps g (j + 1) else heaps g j)) ((t.2 g).length - 1 - k) KF (fun z hz => ?_) ?_ (kf_lt (by omega))
    · rw [show (fun j => if k ≤ j ∧ j < k + 0 then heaps g (j + 1) else heaps g j) = heaps g from funext fun j => if_neg (by omega)] at this
      rw [show setR heaps g (heaps g) = heaps from funext fun i => by unfold setR; split <;> simp_all] at this
      exact this
    · have e : ∀ j, (upd (fun j => if k ≤ j ∧ j < k + z then heaps g (j + 1) else heaps g j) (k + z) (heaps g (k + z + 1))) j = (if k ≤ j ∧ j < k + (z + 1) then heaps g (j + 1) else heaps g j) := by
        intro j
        by_cases q : j = k + z
        · subst q; rw [upd_same, if_pos (by omega)]
        · rw [upd_ne q]
          by_cases r : k ≤ j ∧ j < k + z
          · rw [if_pos r, if_pos (by omega)]
          · rw [if_neg r, if_neg (by omega)]
      have e2 : setR (setR heaps g (fun j => if k ≤ j ∧ j < k + z then heaps g (j + 1) else heaps g j)) g (upd (fun j => if k ≤ j ∧ j < k + z then heaps g (j + 1) else heaps g j) (k + z) (heaps g (k + z + 1))) = setR heaps g (fun j => if k ≤ j ∧ j < k + (z + 1) then heaps g (j + 1) else heaps g j) := by
        funext i
        by_cases q : i = g
        · subst q; rw [setR_same, setR_same]; exact funext e
        · rw [setR_ne q, setR_ne q, setR_ne q]
      simp (disch := omega) only [un2, fb_town_enter_52, nlit, onl, negone, iN_add, iN_mul, iN_sub, iN_pm, iN_addneg, iN_ix, iN_inb, iN_lt, iN_eq, iN_nneg, iN_nm, nm_iN, mI_neg, mI_nnn, ne_eq, not_true_eq_false, not_false_eq_true, true_and, and_true, bnd, Option.bind_some, ↓reduceIte, ltT, ltF, eqT, eqF, leT, leF, setR_same, e2]
      rfl
    · simp (disch := omega) only [un2, fb_town_enter_52, nlit, onl, negone, iN_add, iN_mul, iN_sub, iN_pm, iN_addneg, iN_ix, iN_inb, iN_lt, iN_eq, iN_nneg, iN_nm, nm_iN, mI_neg, mI_nnn, ne_eq, not_true_eq_false, not_false_eq_true, true_and, and_true, bnd, Option.bind_some, ↓reduceIte, ltT, ltF, eqT, eqF, leT, leF]
      rw [show k + ((t.2 g).length - 1 - k) = (t.2 g).length - 1 by omega]
  refine ⟨upd sizes g (iN ((t.2 g).length - 1)), setR heaps g (fun j => if k ≤ j ∧ j < (t.2 g).length - 1 then heaps g (j + 1) else heaps g j), upd names w (iN n), ?_, fun i hi => ?_, fun j hj => ?_, fun j k' m hj hm => ?_⟩
  · simp (disch := omega) only [f_town_enter, h.nameAt ht hg hk, h.1 w hw, hn, enO_none, h.2.1 g hg, nlit, onl, negone, iN_add, iN_mul, iN_sub, iN_pm, iN_addneg, iN_ix, iN_inb, iN_lt, iN_eq, iN_nneg, iN_nm, nm_iN, mI_neg, mI_nnn, ne_eq, not_true_eq_false, not_false_eq_true, true_and, and_true, bnd, Option.bind_some, ↓reduceIte, ltT, ltF, eqT, eqF, leT, leF, hit]
  · by_cases q : i = w
    · subst q
      rw [upd_same, show (inT t i g k n).1 i = some n from setF_same]; rfl
    · rw [upd_ne q, show (inT t w g k n).1 i = t.1 i from setF_ne q]
      exact h.1 i hi
  · by_cases q : j = g
    · subst q
      rw [upd_same, show (inT t w j k n).2 j = (t.2 j).eraseIdx k from setF_same, List.length_eraseIdx, if_pos h2]
    · rw [upd_ne q, show (inT t w g k n).2 j = t.2 j from setF_ne q]
      exact h.2.1 j hj
  · by_cases q : j = g
    · subst q
      rw [show (inT t w j k n).2 j = (t.2 j).eraseIdx k from setF_same] at hm
      rw [setR_same]
      have hl := (List.getElem?_eq_some_iff.mp hm).1
      rw [List.length_eraseIdx, if_pos h2] at hl
      rw [List.getElem?_eraseIdx] at hm
      by_cases r : k' < k
      · rw [if_pos r] at hm
        rw [if_neg (by omega)]
        exact h.2.2 j k' m hj hm
      · rw [if_neg r] at hm
        rw [if_pos (by omega)]
        exact h.2.2 j (k' + 1) m hj hm
    · rw [show (inT t w g k n).2 j = t.2 j from setF_ne q] at hm
      rw [setR_ne q]
      exact h.2.2 j k' m hj hm
end
