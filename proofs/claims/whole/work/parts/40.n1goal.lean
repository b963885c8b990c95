/-! ===== PURE: fewest: the reference's goals ===== -/
def W0 (p v : Nat) : Nat → Option Nat := fun k => if k = p then some v else none
def W1 (t0 : Tn) (p q : Nat) : Nat → Option Nat := fun k => if k = q then t0.1 p else if k = p then t0.1 q else none
def W2 (x : Cx) : Nat → Option Nat := fun k => if k < x.1 ∧ x.2.2.2.2.1 k = true then some k else none
section
variable {x : Cx} {a texts d : Nat → Int32} {b : Nat} {t t0 : Tn}
theorem M_goal0 (hd : MT d b t) (hb : b ≤ 525) (ht : TW t) {p v : Nat} (hp : p < 8) (hv : v < 8) : f_m_isGoal (iN b) a d (iN 0) (iN p) (iN v) = some (b01 (asW (W0 p v) t)) := by
  have hN := hd.nameAt hb hp
  have hE := enO_inj (o := t.1 p) (q := some v) (fun m hm => (ht.1 p m hm).2) (fun m hm => by cases hm; exact hv)
  by_cases e : t.1 p = some v
  · have hE' : (enO (t.1 p) = iN v) = True := hE.trans (eq_true e)
    have hw : asW (W0 p v) t = true := asW_iff.mpr (fun k hk m hm => by
      unfold W0 at hm
      by_cases c : k = p
      · rw [if_pos c] at hm; cases hm; rw [c]; exact e
      · rw [if_neg c] at hm; cases hm)
    rw [hw]
    simp only [f_m_isGoal, nlit, hN, hE', Option.bind_some, ↓reduceIte]; rfl
  · have hE' : (enO (t.1 p) = iN v) = False := hE.trans (eq_false e)
    have hw : asW (W0 p v) t = false := by
      cases z : asW (W0 p v) t with
      | false => rfl
      | true => exact absurd (asW_iff.mp z p hp v (by unfold W0; rw [if_pos rfl])) e
    rw [hw]
    simp only [f_m_isGoal, nlit, hN, hE', Option.bind_some, ↓reduceIte]; rfl
theorem M_goal1 (hd : MT d b t) (hb : b ≤ 525) (ht : TW t) (h0 : MT d 0 t0) (ht0 : TW t0) {p q n m : Nat} (hp : p < 8) (hq : q < 8) (hpq : p ≠ q) (hn : t0.1 p = some n) (hm : t0.1 q = some m) : f_m_isGoal (iN b) a d (iN 1) (iN p) (iN q) = some (b01 (asW (W1 t0 p q) t)) := by
  have hNp := hd.nameAt hb hp
  have hNq := hd.nameAt hb hq
  have hn8 := (ht0.1 p n hn).2
  have hm8 := (ht0.1 q m hm).2
  have dp : d p = iN n := by have := h0.1 p hp; rw [Nat.zero_add, hn] at this; exact this
  have dq : d q = iN m := by have := h0.1 q hq; rw [Nat.zero_add, hm] at this; exact this
  have e10 : (iN 1 = iN 0) = False := eq_false (by decide)
  have Ep := enO_inj (o := t.1 p) (q := some m) (fun z hz => (ht.1 p z hz).2) (fun z hz => by cases hz; exact hm8)
  have Eq' := enO_inj (o := t.1 q) (q := some n) (fun z hz => (ht.1 q z hz).2) (fun z hz => by cases hz; exact hn8)
  have wp : W1 t0 p q p = some m := by unfold W1; rw [if_neg hpq, if_pos rfl]; exact hm
  have wq : W1 t0 p q q = some n := by unfold W1; rw [if_pos rfl]; exact hn
  by_cases e1 : t.1 p = some m
  · have E1 : (enO (t.1 p) = iN m) = True := Ep.trans (eq_true e1)
    by_cases e2 : t.1 q = some n
    · have E2 : (enO (t.1 q) = iN n) = True := Eq'.trans (eq_true e2)
      have hw : asW (W1 t0 p q) t = true := asW_iff.mpr (fun k hk z hz => by
        by_cases c : k = q
        · rw [c, wq] at hz; cases hz; rw [c]; exact e2
        · by_cases c2 : k = p
          · rw [c2, wp] at hz; cases hz; rw [c2]; exact e1
          · unfold W1 at hz; rw [if_neg c, if_neg c2] at hz; cases hz)
      rw [hw]
      simp (disch := omega) only [f_m_isGoal, nlit, e10, hNp, hNq, iN_inb, iN_ix, ltT, dp, dq, E1, E2, Option.bind_some, ↓reduceIte]; rfl
    · have E2 : (enO (t.1 q) = iN n) = False := Eq'.trans (eq_false e2)
      have hw : asW (W1 t0 p q) t = false := by
        cases z : asW (W1 t0 p q) t with
        | false => rfl
        | true => exact absurd (asW_iff.mp z q hq n wq) e2
      rw [hw]
      simp (disch := omega) only [f_m_isGoal, nlit, e10, hNp, hNq, iN_inb, iN_ix, ltT, dp, dq, E1, E2, Option.bind_some, ↓reduceIte]; rfl
  · have E1 : (enO (t.1 p) = iN m) = False := Ep.trans (eq_false e1)
    have hw : asW (W1 t0 p q) t = false := by
      cases z : asW (W1 t0 p q) t with
      | false => rfl
      | true => exact absurd (asW_iff.mp z p hp m wp) e1
    rw [hw]
    simp (disch := omega) only [f_m_isGoal, nlit, e10, hNp, iN_inb, iN_ix, ltT, dq, E1, Option.bind_some, ↓reduceIte]; rfl
end
