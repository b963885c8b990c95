/-! ===== PURE: fewest: a state's number tells the state ===== -/
theorem nm_back {t : Tn} {n w : Nat} (hw : w < 8) (h : dG t 3 n = 1 + w) : t.1 w = some n := by
  rcases dG_in (t := t) (n := n) 3 with q | ⟨g, k, -, -, q⟩
  · have hne : d1 t 8 n ≠ 0 := by omega
    obtain ⟨w', -, e1, e2⟩ := d1_in 8 hne
    have : w' = w := by omega
    subst this; exact e1
  · omega
theorem hp_back {t : Tn} (ht : TW t) {n g k : Nat} (hk : k < 8) (h : dG t 3 n = 9 + g * 8 + k) : (t.2 g)[k]? = some n := by
  rcases dG_in (t := t) (n := n) 3 with q | ⟨g', k', -, e, q⟩
  · have hne : d1 t 8 n ≠ 0 := by omega
    obtain ⟨w', hw, e1, e2⟩ := d1_in 8 hne
    omega
  · have h1 := (List.getElem?_eq_some_iff.mp e).1
    have h2 := ht.len g'
    have eg : g' = g := by omega
    have ek : k' = k := by omega
    subst eg; subst ek; exact e
theorem pk_one {t t' : Tn} (ht : TW t) (ht' : TW t') (h : pkS t = pkS t') : (∀ w n, w < 8 → t.1 w = some n → t'.1 w = some n) ∧ ∀ (g k n : Nat), g < 3 → (t.2 g)[k]? = some n → (t'.2 g)[k]? = some n := by
  have hD : ∀ n, n < 8 → dG t 3 n = dG t' 3 n := by
    intro n hn
    have a1 := pkS_digs ht
    have a2 := pkS_digs ht'
    rw [h] at a1
    exact (a1.2 n hn).symm.trans (a2.2 n hn)
  refine ⟨fun w n hw e => ?_, fun g k n hg e => ?_⟩
  · have hn := (ht.1 w n e).2
    exact nm_back hw ((hD n hn).symm.trans (dG_name ht e))
  · have hn := (ht.2.1 g n (List.mem_of_getElem? e)).2
    have h1 := (List.getElem?_eq_some_iff.mp e).1
    have h2 := ht.len g
    exact hp_back ht' (by omega) ((hD n hn).symm.trans (dG_heap ht hg e))
theorem pk_same {t t' : Tn} (ht : TW t) (ht' : TW t') (h : pkS t = pkS t') : (∀ w, w < 8 → t.1 w = t'.1 w) ∧ ∀ g, g < 3 → t.2 g = t'.2 g := by
  obtain ⟨a1, a2⟩ := pk_one ht ht' h
  obtain ⟨b1, b2⟩ := pk_one ht' ht h.symm
  refine ⟨fun w hw => ?_, fun g hg => List.ext_getElem? (fun k => ?_)⟩
  · cases q : t.1 w with
    | some n => exact (a1 w n hw q).symm
    | none =>
      cases q' : t'.1 w with
      | none => rfl
      | some n => have := b1 w n hw q'; rw [q] at this; cases this
  · cases q : (t.2 g)[k]? with
    | some n => exact (a2 g k n hg q).symm
    | none =>
      cases q' : (t'.2 g)[k]? with
      | none => rfl
      | some n => have := b2 g k n hg q'; rw [q] at this; cases this
theorem tn_ext {t t' : Tn} (ht : TW t) (ht' : TW t') (h1 : ∀ w, w < 8 → t.1 w = t'.1 w) (h2 : ∀ g, g < 3 → t.2 g = t'.2 g) : t = t' := by
  obtain ⟨a, b⟩ := t
  obtain ⟨a', b'⟩ := t'
  congr 1
  · funext w
    by_cases c : w < 8
    · exact h1 w c
    · have e1 : a w = none := by
        cases q : a w with
        | none => rfl
        | some n => exact absurd (ht.1 w n q).1 c
      have e2 : a' w = none := by
        cases q : a' w with
        | none => rfl
        | some n => exact absurd (ht'.1 w n q).1 c
      rw [e1, e2]
  · funext g
    by_cases c : g < 3
    · exact h2 g c
    · have e1 : b g = [] := List.eq_nil_iff_forall_not_mem.mpr (fun n hn => c (ht.2.1 g n hn).1)
      have e2 : b' g = [] := List.eq_nil_iff_forall_not_mem.mpr (fun n hn => c (ht'.2.1 g n hn).1)
      rw [e1, e2]
theorem pkT_eq {t t' : Tn} (ht : TW t) (ht' : TW t') : pkS t = pkS t' ↔ t = t' := ⟨fun h => tn_ext ht ht' (pk_same ht ht' h).1 (pk_same ht ht' h).2, fun h => by rw [h]⟩
theorem pkT_lt {t : Tn} (ht : TW t) : pkS t < 9000000000000000000 := Nat.lt_trans (pkS_digs ht).1 (by decide)
/-! the reference: is it that state -/
theorem enO_ne {o q : Option Nat} (ho : ∀ m, o = some m → m < 8) (hq : ∀ m, q = some m → m < 8) (h : o ≠ q) : enO o ≠ enO q := fun e => h (of_eq_true ((enO_inj ho hq).symm.trans (eq_true e)))
theorem M_isStateN {d states : Nat → Int32} {b B : Nat} {t u : Tn} (hd : MT d b t) (hb : b ≤ 525) (ht : TW t) (hs : MT states B u) (hu : TW u) (hB : B ≤ 105000) : ∀ (m k n : Nat), k + m = 8 → m < n → (∀ w, w < k → u.1 w = t.1 w) → itr (fb_m_isState_7 (iN b) d states (iN B)) n (iN k) = some (.inr ()) ∧ (∀ w, w < 8 → u.1 w = t.1 w) ∨ itr (fb_m_isState_7 (iN b) d states (iN B)) n (iN k) = some (.inl ()) ∧ u ≠ t
  | 0, k, n, hk, hn, h => by
    obtain ⟨n, rfl⟩ : ∃ z, n = z + 1 := ⟨n - 1, by omega⟩
    refine Or.inl ⟨itr_end ?_, fun w hw => h w (by omega)⟩
    simp (disch := omega) only [fb_m_isState_7, nlit, iN_lt, ltF, ↓reduceIte]
  | m + 1, k, n, hk, hn, h => by
    obtain ⟨n, rfl⟩ : ∃ z, n = z + 1 := ⟨n - 1, by omega⟩
    have hN := hd.nameAt hb (show k < 8 by omega)
    have hS := hs.1 k (by omega)
    have hE := enO_inj (o := u.1 k) (q := t.1 k) (fun m hm => (hu.1 k m hm).2) (fun m hm => (ht.1 k m hm).2)
    by_cases q : u.1 k = t.1 k
    · have hE' : (enO (u.1 k) = enO (t.1 k)) = True := hE.trans (eq_true q)
      have st : fb_m_isState_7 (iN b) d states (iN B) (iN k) = some (.inl (iN (k + 1))) := by
        simp (disch := omega) only [fb_m_isState_7, nlit, iN_add, iN_lt, iN_inb, iN_ix, ltT, hS, hN, hE', Option.bind_some, ↓reduceIte]
      rw [itr_step st]
      refine M_isStateN hd hb ht hs hu hB m (k + 1) n (by omega) (by omega) (fun w hw => ?_)
      by_cases c : w = k
      · rw [c]; exact q
      · exact h w (by omega)
    · have hE' : (enO (u.1 k) = enO (t.1 k)) = False := hE.trans (eq_false q)
      refine Or.inr ⟨itr_end ?_, fun e => q (by rw [e])⟩
      simp (disch := omega) only [fb_m_isState_7, nlit, iN_add, iN_lt, iN_inb, iN_ix, ltT, hS, hN, hE', Option.bind_some, ↓reduceIte]
theorem M_isStateH {d states : Nat → Int32} {b B : Nat} {t u : Tn} (hd : MT d b t) (hb : b ≤ 525) (ht : TW t) (hs : MT states B u) (hu : TW u) (hB : B ≤ 105000) {g : Nat} (hg : g < 3) (hlen : (u.2 g).length = (t.2 g).length) : ∀ (m k n : Nat), k + m = (t.2 g).length → m < n → (∀ j, j < k → (u.2 g)[j]? = (t.2 g)[j]?) → itr (fb_m_isState_68 (iN b) d states (iN B) (iN g)) n (iN k) = some (.inr ()) ∧ u.2 g = t.2 g ∨ itr (fb_m_isState_68 (iN b) d states (iN B) (iN g)) n (iN k) = some (.inl ()) ∧ u ≠ t
  | 0, k, n, hk, hn, h => by
    obtain ⟨n, rfl⟩ : ∃ z, n = z + 1 := ⟨n - 1, by omega⟩
    have hH := hd.hung hb hg
    have hl := ht.len g
    refine Or.inl ⟨itr_end ?_, List.ext_getElem? (fun j => ?_)⟩
    · simp (disch := omega) only [fb_m_isState_68, nlit, hH, iN_lt, ltF, Option.bind_some, ↓reduceIte]
    · by_cases c : j < k
      · exact h j c
      · rw [List.getElem?_eq_none_iff.mpr (by omega), List.getElem?_eq_none_iff.mpr (by omega)]
  | m + 1, k, n, hk, hn, h => by
    obtain ⟨n, rfl⟩ : ∃ z, n = z + 1 := ⟨n - 1, by omega⟩
    have hH := hd.hung hb hg
    have hl := ht.len g
    have e1 : (t.2 g)[k]? = some ((t.2 g).getD k 0) := getD_lt (by omega)
    have e2 : (u.2 g)[k]? = some ((u.2 g).getD k 0) := getD_lt (by omega)
    have hA := hd.heapAt ht hb hg e1
    have hS := hs.2.2 g k _ hg e2
    have b1 := (ht.2.1 g _ (List.mem_of_getElem? e1)).2
    have b2 := (hu.2.1 g _ (List.mem_of_getElem? e2)).2
    by_cases q : (u.2 g).getD k 0 = (t.2 g).getD k 0
    · have st : fb_m_isState_68 (iN b) d states (iN B) (iN g) (iN k) = some (.inl (iN (k + 1))) := by
        simp (disch := omega) only [fb_m_isState_68, nlit, hH, iN_add, iN_mul, iN_lt, iN_inb, iN_ix, ltT, hS, hA, q, Option.bind_some, ↓reduceIte]
      rw [itr_step st]
      refine M_isStateH hd hb ht hs hu hB hg hlen m (k + 1) n (by omega) (by omega) (fun j hj => ?_)
      by_cases c : j = k
      · rw [c, e1, e2, q]
      · exact h j (by omega)
    · refine Or.inr ⟨itr_end ?_, fun e => q (by rw [e])⟩
      simp (disch := omega) only [fb_m_isState_68, nlit, hH, iN_add, iN_mul, iN_lt, iN_inb, iN_ix, iN_eq, eqF, ltT, hS, hA, Option.bind_some, ↓reduceIte]
