/-! ===== PURE: fewest: the class's table of states ===== -/
theorem hs_eq (y : Int64) : (((y.toUInt64 >>> ((52 : Int32).toInt64.toUInt64 &&& Int64.toUInt64 63)).toInt64).toInt32 : Int32) = iN (y.toUInt64.toNat >>> 52) := by
  have e1 : y.toUInt64 >>> ((52 : Int32).toInt64.toUInt64 &&& Int64.toUInt64 63) = UInt64.ofNat (y.toUInt64.toNat >>> 52) := by
    apply UInt64.toNat_inj.mp
    have hu : ((52 : Int32).toInt64.toUInt64 &&& Int64.toUInt64 63).toNat % 64 = 52 := by decide
    rw [UInt64.toNat_shiftRight, hu, UInt64.toNat_ofNat']
    rw [Nat.mod_eq_of_lt]
    exact Nat.lt_of_le_of_lt (Nat.shiftRight_le _ 52) y.toUInt64.toNat_lt
  rw [e1, UInt64.toInt64_ofNat', Int64.toInt32_ofNat']
  rfl
theorem hs_ex : ∃ f : Nat → Nat, ∀ S, f S < 4096 ∧ ((((jN S * Int64.ofInt (-7046029254386353131)).toUInt64 >>> ((52 : Int32).toInt64.toUInt64 &&& Int64.toUInt64 63)).toInt64).toInt32 : Int32) = iN (f S) := by
  refine ⟨fun S => (jN S * Int64.ofInt (-7046029254386353131)).toUInt64.toNat >>> 52, fun S => ⟨?_, hs_eq _⟩⟩
  show (jN S * Int64.ofInt (-7046029254386353131)).toUInt64.toNat >>> 52 < 4096
  generalize (jN S * Int64.ofInt (-7046029254386353131)).toUInt64 = y
  rw [Nat.shiftRight_eq_div_pow]
  exact Nat.div_lt_of_lt_mul y.toNat_lt
noncomputable def hsS : Nat → Nat := Classical.choose hs_ex
theorem hsS_lt (S : Nat) : hsS S < 4096 := (Classical.choose_spec hs_ex S).1
theorem hsS_is (S : Nat) : ((((jN S * Int64.ofInt (-7046029254386353131)).toUInt64 >>> ((52 : Int32).toInt64.toUInt64 &&& Int64.toUInt64 63)).toInt64).toInt32 : Int32) = iN (hsS S) := (Classical.choose_spec hs_ex S).2
theorem wrap {p : Nat} (hp : p < 4096) : (iN p + 1) &&& 4095 = iN ((p + 1) % 4096) := by
  have e : iN p + 1 = iN (p + 1) := iN_add (a := p) (b := 1)
  rw [e]
  apply Int32.toBitVec_inj.mp
  show BitVec.ofNat 32 (p + 1) &&& BitVec.ofNat 32 4095 = BitVec.ofNat 32 ((p + 1) % 4096)
  apply BitVec.eq_of_toNat_eq
  rw [BitVec.toNat_and, BitVec.toNat_ofNat, BitVec.toNat_ofNat, BitVec.toNat_ofNat]
  have h2 := Nat.and_two_pow_sub_one_eq_mod (p + 1) 12
  have h3 : (p + 1) % 2 ^ 32 = p + 1 := Nat.mod_eq_of_lt (by omega)
  have h4 : 4095 % 2 ^ 32 = 2 ^ 12 - 1 := by decide
  rw [h3, h4, h2]
  show (p + 1) % 4096 = (p + 1) % 4096 % 2 ^ 32
  omega
theorem lg_jj {a b : Nat} (ha : a < 9000000000000000000) (hb : b < 9000000000000000000) : (lg_cmp (jN a) (jN b) = iN 0) = (a = b) := by
  have e : ∀ n : Nat, jN n = wI (n : Int) := fun n => Int64.ofInt_eq_ofNat.symm
  rw [e, e, lg_eq (by omega) (by omega) (by omega) (by omega)]
  exact propext ⟨fun h => by omega, fun h => by omega⟩
/-- the table holds each of the states, where a search finds it -/
def HT (tb : Nat → Int32) (L : List Nat) : Prop := (∀ p, p < 4096 → tb p = iN 0 ∨ ∃ i, i < L.length ∧ tb p = iN (i + 1)) ∧ (∀ (i S : Nat), L[i]? = some S → ∃ j, j < 4096 ∧ tb ((hsS S + j) % 4096) = iN (i + 1) ∧ ∀ j', j' < j → tb ((hsS S + j') % 4096) ≠ iN 0) ∧ ∀ p q, p < 4096 → q < 4096 → tb p = tb q → tb p ≠ iN 0 → p = q
theorem nodup_map_range {f : Nat → Nat} : ∀ n, (∀ i j, i < n → j < n → f i = f j → i = j) → ((List.range n).map f).Nodup := by
  intro n h
  refine List.pairwise_map.mpr (List.Pairwise.imp_of_mem (fun {a b} ha hb (hne : a ≠ b) => ?_) List.nodup_range)
  exact fun e => hne (h a b (List.mem_range.mp ha) (List.mem_range.mp hb) e)
theorem HT.free {tb : Nat → Int32} {L : List Nat} (h : HT tb L) (hL : L.length ≤ 3000) : ∃ p, p < 4096 ∧ tb p = iN 0 := by
  apply Classical.byContradiction
  intro no
  have full : ∀ p, p < 4096 → ∃ i, i < L.length ∧ tb p = iN (i + 1) := by
    intro p hp
    rcases h.1 p hp with z | z
    · exact absurd ⟨p, hp, z⟩ no
    · exact z
  have hf : ∀ p, p < 4096 → (tb p).toInt.toNat - 1 < L.length ∧ tb p = iN ((tb p).toInt.toNat - 1 + 1) := by
    intro p hp
    obtain ⟨i, hi, e⟩ := full p hp
    have e2 : (tb p).toInt.toNat - 1 = i := by rw [e, iN_toInt (by omega)]; omega
    rw [e2]; exact ⟨hi, e⟩
  have nd := nodup_map_range (f := fun p => (tb p).toInt.toNat - 1) 4096 (fun i j hi hj e => by
    have a1 := (hf i hi).2
    have a2 := (hf j hj).2
    have e' : (tb i).toInt.toNat - 1 = (tb j).toInt.toNat - 1 := e
    rw [e'] at a1
    refine h.2.2 i j hi hj (a1.trans a2.symm) (fun z => no ⟨i, hi, z⟩))
  have := nd_len L.length _ nd (fun y hy => by
    obtain ⟨p, hp, rfl⟩ := List.mem_map.mp hy
    exact (hf p (List.mem_range.mp hp)).1)
  rw [List.length_map, List.length_range] at this
  omega
section
variable {tb : Nat → Int32} {st : Nat → Int64} {L : List Nat} {S : Nat}
theorem C_slotLoop (hF : ∃ p, p < 4096 ∧ tb p = iN 0) (h1 : ∀ p, p < 4096 → tb p = iN 0 ∨ ∃ i, i < L.length ∧ tb p = iN (i + 1)) (hL : L.length ≤ 3000) (hst : ∀ i S, L[i]? = some S → st i = jN S ∧ S < 9000000000000000000) (hS : S < 9000000000000000000) {h0 : Nat} (hh : h0 < 4096) (hI : ∀ i, L[i]? = some S → ∃ j, j < 4096 ∧ tb ((h0 + j) % 4096) = iN (i + 1) ∧ ∀ j', j' < j → tb ((h0 + j') % 4096) ≠ iN 0) : ∀ m j n, j + m = 4096 → m < n → (∀ j', j' < j → tb ((h0 + j') % 4096) ≠ iN 0 ∧ ∀ i, L[i]? = some S → tb ((h0 + j') % 4096) ≠ iN (i + 1)) → ∃ j2, j2 < 4096 ∧ itr (un2 (fb_srch_slotOf_13 tb st (jN S))) n (iN ((h0 + j) % 4096), iN j) = some (.inl (iN ((h0 + j2) % 4096))) ∧ (∀ j', j' < j2 → tb ((h0 + j') % 4096) ≠ iN 0) ∧ ((S ∈ L ∧ tb ((h0 + j2) % 4096) ≠ iN 0) ∨ (S ∉ L ∧ tb ((h0 + j2) % 4096) = iN 0)) := by
  intro m
  induction m with
  | zero =>
    intro j n hj hn hno
    obtain ⟨p, hp, e⟩ := hF
    have := (hno ((p + 4096 - h0) % 4096) (by omega)).1
    rw [show (h0 + (p + 4096 - h0) % 4096) % 4096 = p by omega] at this
    exact absurd e this
  | succ m ih =>
    intro j n hj hn hno
    obtain ⟨n, rfl⟩ : ∃ z, n = z + 1 := ⟨n - 1, by omega⟩
    have hp : (h0 + j) % 4096 < 4096 := Nat.mod_lt _ (by decide)
    have hnx : (iN ((h0 + j) % 4096) + 1) &&& 4095 = iN ((h0 + (j + 1)) % 4096) := by
      rw [wrap hp]; congr 1; omega
    have hj1 : iN j + 1 = iN (j + 1) := iN_add (a := j) (b := 1)
    have hjl : (iN j < 4096) = True := by
      show (iN j < iN 4096) = True
      rw [iN_lt (by omega) (by omega)]; exact eq_true (by omega)
    have hin : inb (iN ((h0 + j) % 4096)) 4096 = True := by rw [iN_inb (by omega)]; exact eq_true hp
    have hix : ix (iN ((h0 + j) % 4096)) = (h0 + j) % 4096 := iN_ix (by omega)
    rcases h1 _ hp with z | ⟨i, hi, z⟩
    · refine ⟨j, by omega, itr_end ?_, fun j' hj' => (hno j' hj').1, Or.inr ⟨fun hm => ?_, z⟩⟩
      · have h00 : ((0 : Int32) < iN 0) = False := eq_false (by decide)
        simp only [un2, fb_srch_slotOf_13, hjl, hin, hix, z, h00, ↓reduceIte]
      · obtain ⟨i, hi⟩ := List.getElem?_of_mem hm
        obtain ⟨j0, q1, q2, q3⟩ := hI i hi
        rcases Nat.lt_trichotomy j0 j with c | c | c
        · exact (hno j0 c).2 i hi q2
        · rw [c, z] at q2
          have : i < L.length := (List.getElem?_eq_some_iff.mp hi).1
          have q4 : (iN 0 = iN (i + 1)) = (0 = i + 1) := iN_eq (by omega) (by omega)
          rw [q4] at q2; omega
        · exact q3 j c z
    · have hLi : L[i]? = some L[i] := List.getElem?_eq_getElem hi
      obtain ⟨s1, s2⟩ := hst i _ hLi
      have c0 : ((0 : Int32) < iN (i + 1)) = True := by
        show (iN 0 < iN (i + 1)) = True
        rw [iN_lt (by omega) (by omega)]; exact eq_true (by omega)
      have c1 : ((3000 : Int32) < iN (i + 1)) = False := by
        show (iN 3000 < iN (i + 1)) = False
        rw [iN_lt (by omega) (by omega)]; exact eq_false (by omega)
      have c2 : iN (i + 1) - 1 = iN i := iN_sub (a := i + 1) (b := 1) (by omega)
      have c3 : inb (iN i) 3000 = True := by rw [iN_inb (by omega)]; exact eq_true (by omega)
      have c4 : ix (iN i) = i := iN_ix (by omega)
      have c5 := lg_jj s2 hS
      have hz : tb ((h0 + j) % 4096) ≠ iN 0 := by
        rw [z]
        intro w
        have q4 : (iN (i + 1) = iN 0) = (i + 1 = 0) := iN_eq (by omega) (by omega)
        rw [q4] at w; omega
      by_cases q : L[i] = S
      · have c6 : (lg_cmp (jN L[i]) (jN S) = 0) = True := c5.trans (eq_true q)
        refine ⟨j, by omega, itr_end ?_, fun j' hj' => (hno j' hj').1, Or.inl ⟨q ▸ List.getElem_mem hi, hz⟩⟩
        simp only [un2, fb_srch_slotOf_13, hjl, hin, hix, z, c0, c1, c2, c3, c4, s1, c6, ↓reduceIte]
      · have c6 : (lg_cmp (jN L[i]) (jN S) = 0) = False := c5.trans (eq_false q)
        have stp : un2 (fb_srch_slotOf_13 tb st (jN S)) (iN ((h0 + j) % 4096), iN j) = some (.inl (iN ((h0 + (j + 1)) % 4096), iN (j + 1))) := by
          simp only [un2, fb_srch_slotOf_13, hjl, hin, hix, z, c0, c1, c2, c3, c4, s1, c6, hnx, hj1, ↓reduceIte]
        rw [itr_step stp]
        refine ih (j + 1) n (by omega) (by omega) (fun j' hj' => ?_)
        by_cases c : j' = j
        · subst c
          refine ⟨hz, fun i' hi' w => ?_⟩
          rw [z] at w
          have hi2 : i' < L.length := (List.getElem?_eq_some_iff.mp hi').1
          have q4 : (iN (i + 1) = iN (i' + 1)) = (i + 1 = i' + 1) := iN_eq (by omega) (by omega)
          rw [q4] at w
          have : i = i' := by omega
          subst this
          rw [hLi] at hi'
          exact q (Option.some.inj hi')
        · exact hno j' (by omega)
theorem C_slot (h : HT tb L) (hL : L.length ≤ 3000) (hst : ∀ i S, L[i]? = some S → st i = jN S ∧ S < 9000000000000000000) (hS : S < 9000000000000000000) : ∃ j, j < 4096 ∧ f_srch_slotOf tb st (jN S) = some (iN ((hsS S + j) % 4096)) ∧ (∀ j', j' < j → tb ((hsS S + j') % 4096) ≠ iN 0) ∧ ((S ∈ L ∧ tb ((hsS S + j) % 4096) ≠ iN 0) ∨ (S ∉ L ∧ tb ((hsS S + j) % 4096) = iN 0)) := by
  obtain ⟨j2, k1, k2, k3, k4⟩ := C_slotLoop (st := st) (h.free hL) h.1 hL hst hS (hsS_lt S) (fun i hi => h.2.1 i S hi) 4096 0 KF (by omega) (kf_lt (by omega)) (fun j' hj' => absurd hj' (Nat.not_lt_zero _))
  refine ⟨j2, k1, ?_, k3, k4⟩
  rw [Nat.add_zero, Nat.mod_eq_of_lt (hsS_lt S)] at k2
  unfold f_srch_slotOf
  rw [hsS_is]
  simp only [nlit] at k2 ⊢
  simp only [bnd, k2, Sum.elim_inl, Option.bind_some]
end
