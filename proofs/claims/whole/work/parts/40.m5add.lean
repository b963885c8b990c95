/-! ===== PURE: fewest: a state more, as the reference adds it ===== -/
theorem MT.off {states states' : Nat → Int32} {B : Nat} {t : Tn} (h : MT states B t) (ht : TW t) (he : ∀ k, k < 35 → states' (B + k) = states (B + k)) : MT states' B t := h.moved ht he
theorem M_put {d states : Nat → Int32} {b n : Nat} (hb : b ≤ 525) (hn : n ≤ 3000) : ∃ s', itr (un2 (fb_m_addState_3 (iN b) (iN n) d)) KF (iN 0, states) = some s' ∧ (∀ k, k < 35 → s' (35 * n + k) = d (b + k)) ∧ ∀ k, k < 35 * n → s' k = states k := by
  obtain ⟨e, e1, e2⟩ := itr_itF (f := un2 (fb_m_addState_3 (iN b) (iN n) d)) (α := Unit) (fun j s _ => ∃ f, s = (iN j, f) ∧ (∀ k, k < j → f (35 * n + k) = d (b + k)) ∧ ∀ k, k < 35 * n → f k = states k) (fun e _ => (∀ k, k < 35 → e (35 * n + k) = d (b + k)) ∧ ∀ k, k < 35 * n → e k = states k) (fun _ u => u) (N := 35) (fun j s _ hj hR => by
    obtain ⟨f, rfl, r1, r2⟩ := hR
    refine ⟨(iN (j + 1), upd f (35 * n + j) (d (b + j))), ?_, _, rfl, fun k hk => ?_, fun k hk => ?_⟩
    · simp (disch := omega) only [un2, fb_m_addState_3, nlit, bnd, iN_add, iN_mul, iN_lt, iN_inb, iN_ix, ltT, ↓reduceIte]
    · by_cases c : k = j
      · rw [c, upd_same]
      · rw [upd_ne (by omega)]; exact r1 k (by omega)
    · rw [upd_ne (by omega)]; exact r2 k hk) (fun s _ hR => by
    obtain ⟨f, rfl, r1, r2⟩ := hR
    exact ⟨f, by simp (disch := omega) only [un2, fb_m_addState_3, nlit, iN_lt, ltF, ↓reduceIte], r1, r2⟩) (s := (iN 0, states)) (a := ()) (n := KF) ⟨states, rfl, fun k hk => absurd hk (Nat.not_lt_zero _), fun _ _ => rfl⟩ (kf_lt (by omega))
  exact ⟨e, e1, e2.1, e2.2⟩
theorem get_snocT {L : List Tn} {S T : Tn} {i : Nat} (h : (L ++ [S])[i]? = some T) : L[i]? = some T ∨ (i = L.length ∧ T = S) := by
  by_cases c : i < L.length
  · rw [List.getElem?_append_left c] at h; exact Or.inl h
  · rw [List.getElem?_append_right (by omega)] at h
    by_cases e : i = L.length
    · subst e
      rw [Nat.sub_self] at h
      exact Or.inr ⟨rfl, (Option.some.inj h).symm⟩
    · have : ([S] : List Tn)[i - L.length]? = none := List.getElem?_eq_none_iff.mpr (by show 1 ≤ _; omega)
      rw [this] at h; cases h
section
variable {d states chain chains cf cb : Nat → Int32} {b : Nat} {t : Tn} {LT : List Tn}
theorem CH.snoc (hc : CH chain chains LT) : CH (upd chain LT.length (chains (smS t))) (upd chains (smS t) (iN LT.length)) (LT ++ [t]) := by
  have hlen : (LT ++ [t]).length = LT.length + 1 := by rw [List.length_append]; rfl
  have hq : ∀ h n, n ≤ LT.length → prv (qS (LT ++ [t])) h n = prv (qS LT) h n := fun h n hn => prv_cg n (fun i hi => qS_app (by omega))
  refine ⟨fun h hh => ?_, fun i hi => ?_⟩
  · rw [hlen]
    unfold prv
    rw [qS_new, hq h _ (Nat.le_refl _)]
    by_cases e : h = smS t
    · rw [if_pos e.symm, upd_eq e]; rfl
    · rw [if_neg (fun z => e z.symm), upd_ne e]; exact hc.1 h hh
  · by_cases e : i = LT.length
    · rw [e, upd_same, qS_new, hq _ _ (Nat.le_refl _)]; exact hc.1 _ (smS_lt t)
    · have hi' : i < LT.length := by omega
      rw [upd_ne e, qS_app hi', hq _ _ (by omega)]; exact hc.2 i hi'
theorem M_addState (hd : MT d b t) (hb : b ≤ 525) (ht : TW t) (hs : SR states LT) (hc : CH chain chains LT) (hL : LT.length ≤ 3000) (v w : Int32) : ∃ s' ch' cs', f_m_addState (iN b) (iN LT.length) d states cf cb chain chains (iN (smS t)) v w = some (iN (LT.length + 1), s', upd cf LT.length v, upd cb LT.length w, ch', cs') ∧ SR s' (LT ++ [t]) ∧ CH ch' cs' (LT ++ [t]) := by
  obtain ⟨s', e1, e2, e3⟩ := M_put (d := d) (states := states) (n := LT.length) hb hL
  have hh := smS_lt t
  have hi : inb (iN (smS t)) 4096 = True := by rw [iN_inb (by omega)]; exact eq_true hh
  have hx : ix (iN (smS t)) = smS t := iN_ix (by omega)
  have hi2 : inb (iN LT.length) 3001 = True := by rw [iN_inb (by omega)]; exact eq_true (by omega)
  have hx2 : ix (iN LT.length) = LT.length := iN_ix (by omega)
  refine ⟨s', upd chain LT.length (chains (smS t)), upd chains (smS t) (iN LT.length), ?_, fun i T hT => ?_, hc.snoc⟩
  · simp only [f_m_addState, nlit, e1, hi, hx, hi2, hx2, bnd, iN_add, Option.bind_some, ↓reduceIte]
  · rcases get_snocT hT with q | ⟨q1, q2⟩
    · obtain ⟨a1, a2⟩ := hs i T q
      have hil : i < LT.length := (List.getElem?_eq_some_iff.mp q).1
      exact ⟨a1.moved a2 (fun k hk => e3 _ (by omega)), a2⟩
    · subst q2
      refine ⟨hd.moved ht (fun k hk => ?_), ht⟩
      rw [q1]; exact e2 k hk
end
