/-! ===== PURE: fewest: the reference tells states apart, and sums them ===== -/
section
variable {d states : Nat → Int32} {b B : Nat} {t u : Tn}
theorem M_isStateG (hd : MT d b t) (hb : b ≤ 525) (ht : TW t) (hs : MT states B u) (hu : TW u) (hB : B ≤ 105000) : ∀ (m g n : Nat), g + m = 3 → m < n → (∀ j, j < g → u.2 j = t.2 j) → (itr (fb_m_isState_39 (iN b) d states (iN B)) n (iN g) = some (.inr (.inr ())) ∧ ∀ j, j < 3 → u.2 j = t.2 j) ∨ ((itr (fb_m_isState_39 (iN b) d states (iN B)) n (iN g) = some (.inr (.inl ())) ∨ itr (fb_m_isState_39 (iN b) d states (iN B)) n (iN g) = some (.inl ())) ∧ u ≠ t)
  | 0, g, n, hg, hn, h => by
    obtain ⟨n, rfl⟩ : ∃ z, n = z + 1 := ⟨n - 1, by omega⟩
    refine Or.inl ⟨itr_end ?_, fun j hj => h j (by omega)⟩
    simp (disch := omega) only [fb_m_isState_39, nlit, iN_lt, ltF, ↓reduceIte]
  | m + 1, g, n, hg, hn, h => by
    obtain ⟨n, rfl⟩ : ∃ z, n = z + 1 := ⟨n - 1, by omega⟩
    have hg3 : g < 3 := by omega
    have hH := hd.hung hb hg3
    have hl := ht.len g
    have hl2 := hu.len g
    have hS := hs.2.1 g hg3
    by_cases q : (u.2 g).length = (t.2 g).length
    · rcases M_isStateH hd hb ht hs hu hB hg3 q (t.2 g).length 0 KF (by omega) (kf_lt (by omega)) (fun j hj => absurd hj (Nat.not_lt_zero _)) with ⟨e1, e2⟩ | ⟨e1, e2⟩
      · have st : fb_m_isState_39 (iN b) d states (iN B) (iN g) = some (.inl (iN (g + 1))) := by
          simp (disch := omega) only [fb_m_isState_39, nlit, iN_add, iN_lt, iN_inb, iN_ix, ltT, hS, hH, q, e1, Sum.elim_inr, Option.bind_some, ↓reduceIte]
        rw [itr_step st]
        refine M_isStateG hd hb ht hs hu hB m (g + 1) n (by omega) (by omega) (fun j hj => ?_)
        by_cases c : j = g
        · rw [c]; exact e2
        · exact h j (by omega)
      · refine Or.inr ⟨Or.inl (itr_end ?_), e2⟩
        simp (disch := omega) only [fb_m_isState_39, nlit, iN_add, iN_lt, iN_inb, iN_ix, ltT, hS, hH, q, e1, Sum.elim_inl, Option.bind_some, ↓reduceIte]
    · refine Or.inr ⟨Or.inr (itr_end ?_), fun e => q (by rw [e])⟩
      simp (disch := omega) only [fb_m_isState_39, nlit, iN_add, iN_lt, iN_eq, eqF, iN_inb, iN_ix, ltT, hS, hH, Option.bind_some, ↓reduceIte]
theorem M_isState {l : Nat} (hd : MT d b t) (hb : b ≤ 525) (ht : TW t) (hs : MT states (35 * l) u) (hu : TW u) (hB : l ≤ 3000) : (f_m_isState (iN b) d states (iN l) = some (iN 1) ∧ u = t) ∨ (f_m_isState (iN b) d states (iN l) = some (iN 0) ∧ u ≠ t) := by
  have hl : iN 35 * iN l = iN (35 * l) := iN_mul
  rcases M_isStateN hd hb ht hs hu (by omega) 8 0 KF (by omega) (kf_lt (by omega)) (fun j hj => absurd hj (Nat.not_lt_zero _)) with ⟨e1, e2⟩ | ⟨e1, e2⟩
  · rcases M_isStateG hd hb ht hs hu (by omega) 3 0 KF (by omega) (kf_lt (by omega)) (fun j hj => absurd hj (Nat.not_lt_zero _)) with ⟨f1, f2⟩ | ⟨f1 | f1, f2⟩
    · refine Or.inl ⟨?_, tn_ext hu ht e2 f2⟩
      simp only [f_m_isState, nlit, hl, e1, f1, Sum.elim_inr, Option.bind_some]
    · refine Or.inr ⟨?_, f2⟩
      simp only [f_m_isState, nlit, hl, e1, f1, Sum.elim_inr, Sum.elim_inl, Option.bind_some]
    · refine Or.inr ⟨?_, f2⟩
      simp only [f_m_isState, nlit, hl, e1, f1, Sum.elim_inr, Sum.elim_inl, Option.bind_some]
  · refine Or.inr ⟨?_, e2⟩
    simp only [f_m_isState, nlit, hl, e1, Sum.elim_inl, Option.bind_some]
end
/-- the reference's sum of a state -/
def smI (t : Tn) : Int32 := itF (fun g v => itF (fun k v => v * iN 31 + iN ((t.2 g).getD k 0)) (t.2 g).length (v * iN 31 + iN (t.2 g).length)) 3 (itF (fun k v => v * iN 31 + enO (t.1 k) + iN 1) 8 (iN 7))
theorem low12 (x : Int32) : ∃ v, v < 4096 ∧ x &&& iN 4095 = iN v := by
  refine ⟨(x.toBitVec &&& 4095#32).toNat, ?_, ?_⟩
  · rw [BitVec.toNat_and]
    exact Nat.lt_of_le_of_lt Nat.and_le_right (by decide)
  · apply Int32.toBitVec_inj.mp
    show _ = BitVec.ofNat 32 _
    rw [BitVec.ofNat_toNat, BitVec.setWidth_eq]; rfl
theorem sm_ex : ∃ f : Tn → Nat, ∀ t, f t < 4096 ∧ smI t &&& iN 4095 = iN (f t) := ⟨fun t => Classical.choose (low12 (smI t)), fun t => Classical.choose_spec (low12 (smI t))⟩
noncomputable def smS : Tn → Nat := Classical.choose sm_ex
theorem smS_lt (t : Tn) : smS t < 4096 := (Classical.choose_spec sm_ex t).1
theorem smS_is (t : Tn) : smI t &&& iN 4095 = iN (smS t) := (Classical.choose_spec sm_ex t).2
theorem M_sumOf {d : Nat → Int32} {b : Nat} {t : Tn} (hd : MT d b t) (hb : b ≤ 525) (ht : TW t) : f_m_sumOf (iN b) d = some (iN (smS t)) := by
  obtain ⟨v1, e1, e2⟩ := itr_itF (f := un2 (fb_m_sumOf_5 (iN b) d)) (α := Int32) (fun k s v => s = (v, iN k)) (fun e v => e = v) (fun k v => v * iN 31 + enO (t.1 k) + iN 1) (N := 8) (fun k s v hk hR => by
    subst hR
    refine ⟨_, ?_, rfl⟩
    have hN := hd.nameAt hb hk
    simp (disch := omega) only [un2, fb_m_sumOf_5, nlit, hN, bnd, iN_add, iN_lt, ltT, Option.bind_some, ↓reduceIte]) (fun s v hR => by
    subst hR
    exact ⟨v, by simp (disch := omega) only [un2, fb_m_sumOf_5, nlit, iN_lt, ltF, ↓reduceIte], rfl⟩) (s := (iN 7, iN 0)) (a := iN 7) (n := KF) rfl (kf_lt (by omega))
  obtain ⟨v2, f1, f2⟩ := itr_itF (f := un2 (fb_m_sumOf_32 (iN b) d)) (α := Int32) (fun k s v => s = (v, iN k)) (fun e v => e = v) (fun g v => itF (fun k v => v * iN 31 + iN ((t.2 g).getD k 0)) (t.2 g).length (v * iN 31 + iN (t.2 g).length)) (N := 3) (fun g s v hg hR => by
    subst hR
    have hH := hd.hung hb hg
    have hl := ht.len g
    obtain ⟨v3, g1, g2⟩ := itr_itF (f := un2 (fb_m_sumOf_50 (iN b) d (iN g))) (α := Int32) (fun k s v => s = (v, iN k)) (fun e v => e = v) (fun k v => v * iN 31 + iN ((t.2 g).getD k 0)) (N := (t.2 g).length) (fun k s v hk hR => by
      subst hR
      refine ⟨_, ?_, rfl⟩
      have hA := hd.heapAt ht hb hg (getD_lt hk)
      simp (disch := omega) only [un2, fb_m_sumOf_50, nlit, hH, hA, iN_add, iN_lt, ltT, Option.bind_some, ↓reduceIte]) (fun s v hR => by
      subst hR
      exact ⟨v, by simp (disch := omega) only [un2, fb_m_sumOf_50, nlit, hH, iN_lt, ltF, Option.bind_some, ↓reduceIte], rfl⟩) (s := (v * iN 31 + iN (t.2 g).length, iN 0)) (a := v * iN 31 + iN (t.2 g).length) (n := KF) rfl (kf_lt (by omega))
    subst g2
    refine ⟨_, ?_, rfl⟩
    simp (disch := omega) only [un2, fb_m_sumOf_32, nlit, hH, g1, iN_add, iN_lt, ltT, Option.bind_some, ↓reduceIte]) (fun s v hR => by
    subst hR
    exact ⟨v, by simp (disch := omega) only [un2, fb_m_sumOf_32, nlit, iN_lt, ltF, ↓reduceIte], rfl⟩) (s := (v1, iN 0)) (a := v1) (n := KF) rfl (kf_lt (by omega))
  have hv : v2 = smI t := by rw [f2, e2]; rfl
  rw [hv] at f1
  simp only [f_m_sumOf, nlit, e1, f1, smS_is, Option.bind_some]
