/-! ===== PURE: chance: common measure, fractions ===== -/
theorem jN_rem {a b : Nat} (ha : a < 9000000000000000000) (hb : b < 9000000000000000000) : rem64 (jN a) (jN b) = jN (a % b) := by
  have e : ∀ n : Nat, jN n = wI (n : Int) := fun n => Int64.ofInt_eq_ofNat.symm
  rw [e, e, e, wI_rem (by omega) (by omega) (by omega) (by omega)]
  congr 1
  have h := Nat.div_add_mod a b
  have h2 : ((a : Int)).tdiv (b : Int) = ((a / b : Nat) : Int) := rfl
  rw [h2]
  have h3 : ((a / b : Nat) : Int) * (b : Int) = ((b * (a / b) : Nat) : Int) := by rw [Int.natCast_mul, Int.mul_comm]
  rw [h3]; omega
theorem lg_j {a : Nat} (ha : a < 9000000000000000000) : (lg_cmp (jN a) 0 = iN 0) = (a = 0) := by
  have e : jN a = wI (a : Int) := Int64.ofInt_eq_ofNat.symm
  rw [e, wl0, lg_eq (by omega) (by omega) (by omega) (by omega)]
  exact propext ⟨fun h => by omega, fun h => by omega⟩
theorem j_nz {a : Nat} (ha : a < 9000000000000000000) : (jN a = 0) = (a = 0) := by
  show (jN a = jN 0) = _
  exact jN_inj (by omega) (by decide)
theorem M_comLoop : ∀ (b a n : Nat), a < 9000000000000000000 → b < 9000000000000000000 → b < n → itr (un2 fb_m_common_6) n (jN a, jN b) = some (jN (Nat.gcd b a)) := by
  intro b
  induction b using Nat.strongRecOn with
  | _ b ih =>
    intro a n ha hb hn
    obtain ⟨n, rfl⟩ : ∃ z, n = z + 1 := ⟨n - 1, by omega⟩
    have hl := lg_j hb
    by_cases q : b = 0
    · subst q
      rw [Nat.gcd_zero_left]
      refine itr_end ?_
      have hl' : (lg_cmp (jN 0) 0 = iN 0) = True := hl.trans (eq_true rfl)
      simp only [un2, fb_m_common_6, nlit, hl', ↓reduceIte]
    · have hl' : (lg_cmp (jN b) 0 = iN 0) = False := hl.trans (eq_false q)
      have hz : (jN b = 0) = False := (j_nz hb).trans (eq_false q)
      have st : un2 fb_m_common_6 (jN a, jN b) = some (.inl (jN b, jN (a % b))) := by
        simp only [un2, fb_m_common_6, nlit, hl', hz, not_false_eq_true, jN_rem ha hb, ↓reduceIte]
      have hlt := Nat.mod_lt a (show b > 0 by omega)
      rw [itr_step st, ih (a % b) hlt b n hb (by omega) (by omega), ← Nat.gcd_rec]
theorem M_common {a b : Nat} (ha : a < 9000000000000000000) (hb : b < 9000000000000000000) : f_m_common (jN a) (jN b) = some (jN (Nat.gcd b a)) := by
  have e := M_comLoop b a KF ha hb (Nat.lt_trans hb (by decide))
  simp only [f_m_common, e, Option.bind_some]
theorem C_comLoop : ∀ (k r g i n : Nat), g < 9000000000000000000 → r < 9000000000000000000 → r < 2 ^ k → i + 2 * k < 200 → 2 * k < n → itr (un3 fb_odds_commonDivisor_9) n (jN g, jN r, iN i) = some (jN (Nat.gcd r g)) := by
  intro k
  induction k with
  | zero =>
    intro r g i n hg hr h2 hi hn
    obtain ⟨n, rfl⟩ : ∃ z, n = z + 1 := ⟨n - 1, by omega⟩
    have : r = 0 := by omega
    subst this
    rw [Nat.gcd_zero_left]
    refine itr_end ?_
    have hl' : (lg_cmp (jN 0) 0 = iN 0) = True := (lg_j hr).trans (eq_true rfl)
    simp (disch := omega) only [un3, fb_odds_commonDivisor_9, nlit, iN_lt, ltT, hl', ↓reduceIte]
  | succ k ih =>
    intro r g i n hg hr h2 hi hn
    obtain ⟨n, rfl⟩ : ∃ z, n = z + 2 := ⟨n - 2, by omega⟩
    have fin : ∀ g i n, i < 200 → itr (un3 fb_odds_commonDivisor_9) (n + 1) (jN g, jN 0, iN i) = some (jN g) := by
      intro g i n hi
      refine itr_end ?_
      have hl' : (lg_cmp (jN 0) 0 = iN 0) = True := (lg_j (by decide)).trans (eq_true rfl)
      simp (disch := omega) only [un3, fb_odds_commonDivisor_9, nlit, iN_lt, ltT, hl', ↓reduceIte]
    have step : ∀ g r i, g < 9000000000000000000 → r < 9000000000000000000 → i < 200 → r ≠ 0 → un3 fb_odds_commonDivisor_9 (jN g, jN r, iN i) = some (.inl (jN r, jN (g % r), iN (i + 1))) := by
      intro g r i hg hr hi h0
      have hl' : (lg_cmp (jN r) 0 = iN 0) = False := (lg_j hr).trans (eq_false h0)
      have hz : (jN r = 0) = False := (j_nz hr).trans (eq_false h0)
      simp (disch := omega) only [un3, fb_odds_commonDivisor_9, nlit, iN_lt, ltT, hl', hz, not_false_eq_true, jN_rem hg hr, iN_add, ↓reduceIte]
    by_cases q : r = 0
    · subst q
      rw [Nat.gcd_zero_left]; exact fin g i (n + 1) (by omega)
    · have hlt := Nat.mod_lt g (show r > 0 by omega)
      rw [itr_step (step g r i hg hr (by omega) q), Nat.gcd_rec]
      by_cases q2 : g % r = 0
      · rw [q2, Nat.gcd_zero_left]; exact fin r (i + 1) n (by omega)
      · have hlt2 := Nat.mod_lt r (show g % r > 0 by omega)
        have half : 2 * (r % (g % r)) < r := by
          by_cases c : 2 * (g % r) ≤ r
          · omega
          · have e : r % (g % r) = r - g % r := by
              rw [Nat.mod_eq_sub_mod (by omega)]
              exact Nat.mod_eq_of_lt (by omega)
            omega
        rw [itr_step (step r (g % r) (i + 1) hr (by omega) (by omega) q2), Nat.gcd_rec]
        rw [Nat.pow_succ] at h2
        exact ih (r % (g % r)) (g % r) (i + 1 + 1) n (by omega) (by omega) (by omega) (by omega) (by omega)
theorem C_common {a b : Nat} (ha : a < 576460752303423488) (hb : b < 9000000000000000000) : f_odds_commonDivisor (jN a) (jN b) = some (jN (Nat.gcd a b)) := by
  have e := C_comLoop 59 a b 0 KF hb (by omega) ha (by decide) (kf_lt (by decide))
  simp only [f_odds_commonDivisor, nlit, e, Option.bind_some]
/-- one end more, as the reference adds it -/
def adM (s : Nat) (f : Nat × Nat) : Nat × Nat :=
  ((f.1 * (s / Nat.gcd s f.2) + f.2 / Nat.gcd s f.2) / Nat.gcd ((f.2 / Nat.gcd s f.2) * s) (f.1 * (s / Nat.gcd s f.2) + f.2 / Nat.gcd s f.2), ((f.2 / Nat.gcd s f.2) * s) / Nat.gcd ((f.2 / Nat.gcd s f.2) * s) (f.1 * (s / Nat.gcd s f.2) + f.2 / Nat.gcd s f.2))
/-- S of oW parts is told as a fraction -/
def FI (S : Nat) (f : Nat × Nat) : Prop := 0 < f.2 ∧ f.2 ∣ oW ∧ f.1 * oW = S * f.2 ∧ Nat.gcd f.1 f.2 = 1 ∧ S ≤ oW
theorem oW_pos : 0 < oW := by decide
theorem FI.fin {S : Nat} {f : Nat × Nat} (h : FI S f) : f.1 = S / Nat.gcd S oW ∧ f.2 = oW / Nat.gcd S oW := by
  obtain ⟨h1, ⟨k, hk⟩, h3, h4, h5⟩ := h
  have hk0 : 0 < k := by
    rcases Nat.eq_zero_or_pos k with q | q
    · rw [q, Nat.mul_zero] at hk; exact absurd hk (by decide)
    · exact q
  have hS : S = f.1 * k := by
    rw [hk] at h3
    have : f.2 * S = f.2 * (f.1 * k) := by rw [Nat.mul_comm f.2 S, ← h3, Nat.mul_left_comm]
    exact Nat.eq_of_mul_eq_mul_left h1 this
  have hg : Nat.gcd S oW = k := by rw [hS, hk, Nat.gcd_mul_right, h4, Nat.one_mul]
  rw [hg]
  exact ⟨by rw [hS, Nat.mul_div_cancel _ hk0], by rw [hk, Nat.mul_div_cancel _ hk0]⟩
/-- what is true of the sum before it is made short -/
theorem FI.mid {S s : Nat} {f : Nat × Nat} (h : FI S f) (hs : s ∣ oW) (hle : S + oW / s ≤ oW) : 0 < (f.2 / Nat.gcd s f.2) * s ∧ (f.2 / Nat.gcd s f.2) * s ∣ oW ∧ (f.1 * (s / Nat.gcd s f.2) + f.2 / Nat.gcd s f.2) * oW = (S + oW / s) * ((f.2 / Nat.gcd s f.2) * s) ∧ f.1 * (s / Nat.gcd s f.2) + f.2 / Nat.gcd s f.2 ≤ (f.2 / Nat.gcd s f.2) * s := by
  obtain ⟨h1, h2, h3, h4, h5⟩ := h
  have hs0 : 0 < s := Nat.pos_of_dvd_of_pos hs oW_pos
  have hg0 : 0 < Nat.gcd s f.2 := Nat.gcd_pos_of_pos_left _ hs0
  have d1 := Nat.gcd_dvd_left s f.2
  have d2 := Nat.gcd_dvd_right s f.2
  generalize hg : Nat.gcd s f.2 = g at *
  obtain ⟨p, hp⟩ := d1
  obtain ⟨r, hr⟩ := d2
  have ep : s / g = p := by rw [hp, Nat.mul_div_cancel_left _ hg0]
  have er : f.2 / g = r := by rw [hr, Nat.mul_div_cancel_left _ hg0]
  rw [ep, er]
  have hr0 : 0 < r := by
    rcases Nat.eq_zero_or_pos r with q | q
    · rw [q, Nat.mul_zero] at hr; omega
    · exact q
  have hL : r * s = Nat.lcm s f.2 := by
    have e := Nat.gcd_mul_lcm s f.2
    rw [hg] at e
    refine Nat.eq_of_mul_eq_mul_left hg0 ?_
    rw [e, hr, Nat.mul_left_comm, ← Nat.mul_assoc, Nat.mul_comm g r, Nat.mul_comm s, ]
  have hd : r * s ∣ oW := by rw [hL]; exact Nat.lcm_dvd hs h2
  have hLv : p * f.2 = r * s := by rw [hr, hp, Nat.mul_left_comm, ← Nat.mul_assoc, Nat.mul_comm]
  have main : (f.1 * p + r) * oW = (S + oW / s) * (r * s) := by
    have A : f.1 * p * oW = S * (r * s) := by rw [Nat.mul_right_comm, h3, Nat.mul_assoc, Nat.mul_comm f.2 p, hLv]
    have B : r * oW = oW / s * (r * s) := by
      obtain ⟨z, hz⟩ := hs
      rw [hz, Nat.mul_div_cancel_left _ hs0, Nat.mul_left_comm z, Nat.mul_comm z s]
    rw [Nat.add_mul, Nat.add_mul, A, B]
  refine ⟨Nat.mul_pos hr0 hs0, hd, main, ?_⟩
  have : (f.1 * p + r) * oW ≤ (r * s) * oW := by
    rw [main, Nat.mul_comm (r * s) oW]; exact Nat.mul_le_mul_right _ hle
  exact Nat.le_of_mul_le_mul_right this oW_pos
theorem FI.add {S s : Nat} {f : Nat × Nat} (h : FI S f) (hs : s ∣ oW) (hle : S + oW / s ≤ oW) : FI (S + oW / s) (adM s f) := by
  obtain ⟨m1, m2, m3, m4⟩ := h.mid hs hle
  unfold adM
  generalize (f.2 / Nat.gcd s f.2) * s = L at *
  generalize f.1 * (s / Nat.gcd s f.2) + f.2 / Nat.gcd s f.2 = U at *
  have hr0 : 0 < Nat.gcd L U := Nat.gcd_pos_of_pos_left _ m1
  obtain ⟨v, hv⟩ := Nat.gcd_dvd_left L U
  obtain ⟨u, hu⟩ := Nat.gcd_dvd_right L U
  have co := Nat.gcd_div_gcd_div_gcd_of_pos_left (m := U) m1
  generalize Nat.gcd L U = r at *
  have ev : L / r = v := by rw [hv, Nat.mul_div_cancel_left _ hr0]
  have eu : U / r = u := by rw [hu, Nat.mul_div_cancel_left _ hr0]
  show 0 < L / r ∧ L / r ∣ oW ∧ U / r * oW = (S + oW / s) * (L / r) ∧ Nat.gcd (U / r) (L / r) = 1 ∧ _
  rw [ev, eu] at co ⊢
  refine ⟨?_, Nat.dvd_trans ⟨r, by rw [hv, Nat.mul_comm]⟩ m2, ?_, by rw [Nat.gcd_comm]; exact co, hle⟩
  · rcases Nat.eq_zero_or_pos v with q | q
    · rw [q, Nat.mul_zero] at hv; omega
    · exact q
  · refine Nat.eq_of_mul_eq_mul_left hr0 ?_
    rw [← Nat.mul_assoc, ← hu, m3, hv, Nat.mul_left_comm]
theorem M_add {S s : Nat} {f : Nat × Nat} (h : FI S f) (hs : s ∣ oW) (hle : S + oW / s ≤ oW) : f_m_add (jN f.1) (jN f.2) (jN s) = some (jN (adM s f).1, jN (adM s f).2) := by
  obtain ⟨m1, m2, m3, m4⟩ := h.mid hs hle
  have hW : oW = 351298031616000000 := rfl
  have hs0 : 0 < s := Nat.pos_of_dvd_of_pos hs oW_pos
  have hsl := Nat.le_of_dvd oW_pos hs
  have hfl := Nat.le_of_dvd oW_pos h.2.1
  have hLl := Nat.le_of_dvd oW_pos m2
  have c1 := M_common (a := f.2) (b := s) (by omega) (by omega)
  have hg0 : 0 < Nat.gcd s f.2 := Nat.gcd_pos_of_pos_left _ hs0
  have hgl : Nat.gcd s f.2 ≤ s := Nat.gcd_le_left _ hs0
  have z1 : (jN (Nat.gcd s f.2) = 0) = False := (j_nz (by omega)).trans (eq_false (by omega))
  have e1 : jN s / jN (Nat.gcd s f.2) = jN (s / Nat.gcd s f.2) := jN_div (by omega) (by omega)
  have e2 : jN f.2 / jN (Nat.gcd s f.2) = jN (f.2 / Nat.gcd s f.2) := jN_div (by omega) (by omega)
  unfold adM
  unfold f_m_add
  rw [c1]
  simp only [Option.bind_some, z1, not_false_eq_true, ↓reduceIte, bnd, e1, e2, jN_mul, jN_add]
  generalize (f.2 / Nat.gcd s f.2) * s = L at *
  generalize f.1 * (s / Nat.gcd s f.2) + f.2 / Nat.gcd s f.2 = U at *
  have c2 := M_common (a := U) (b := L) (by omega) (by omega)
  have hr0 : 0 < Nat.gcd L U := Nat.gcd_pos_of_pos_left _ m1
  have hrl : Nat.gcd L U ≤ L := Nat.gcd_le_left _ m1
  have z2 : (jN (Nat.gcd L U) = 0) = False := (j_nz (by omega)).trans (eq_false (by omega))
  have e3 : jN L / jN (Nat.gcd L U) = jN (L / Nat.gcd L U) := jN_div (by omega) (by omega)
  have e4 : jN U / jN (Nat.gcd L U) = jN (U / Nat.gcd L U) := jN_div (by omega) (by omega)
  rw [c2]
  simp only [Option.bind_some, z2, not_false_eq_true, ↓reduceIte, e3, e4]
