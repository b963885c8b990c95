/-! ===== PURE: text: the reference's tokens ===== -/
def pkL (l : List Nat) : Nat := l.foldl (fun a b => a * 256 + b) 0
def tkO (k : Nat) : Nat := if k = 0 then 0 else if k = 1 then 3 else if k = 2 then 1 else if k = 15 then 4 else if k = 16 then 5 else SG.getD (k - 3) 0
/-- what the reference has of a token -/
def MK (kd nu : Nat) (tk nb : Int32) (wd : Int64) : Prop := (kd < 17 ∧ tk = iN (tkO kd) ∧ (kd = 2 → ∃ m, nb = iN m ∧ m < 2000000 ∧ (nu ≤ 9999 → m = nu) ∧ (9999 < nu → 9999 < m))) ∨ (tk = iN 2 ∧ (kd = 1 ∨ (20 ≤ kd ∧ kd ≤ 35)) ∧ ∀ k, k < 16 → (lg_cmp wd (jN (pkL (WD.getD k []))) = iN 0) = (kd = 20 + k))
theorem pkL_snoc {l : List Nat} {b : Nat} : pkL (l ++ [b]) = pkL l * 256 + b := by unfold pkL; rw [List.foldl_append]; rfl
theorem pkL_inj : ∀ (n : Nat) (l m : List Nat), l.length ≤ n → (∀ x ∈ l, 0 < x ∧ x < 256) → (∀ x ∈ m, 0 < x ∧ x < 256) → pkL l = pkL m → l = m
  | n, l, m, hn, hl, hm, h => by
    rcases List.eq_nil_or_concat l with rfl | ⟨l', b, rfl⟩
    · rcases List.eq_nil_or_concat m with rfl | ⟨m', c, rfl⟩
      · rfl
      · rw [List.concat_eq_append] at h hm
        rw [pkL_snoc] at h
        have := (hm c (List.mem_append_right _ List.mem_cons_self)).1
        have h0 : pkL [] = 0 := rfl
        omega
    · rw [List.concat_eq_append] at h hl hn ⊢
      have hb := hl b (List.mem_append_right _ List.mem_cons_self)
      rw [pkL_snoc] at h
      rcases List.eq_nil_or_concat m with rfl | ⟨m', c, rfl⟩
      · have h0 : pkL [] = 0 := rfl
        omega
      · rw [List.concat_eq_append] at h hm ⊢
        have hc := hm c (List.mem_append_right _ List.mem_cons_self)
        rw [pkL_snoc] at h
        rw [List.length_append, List.length_singleton] at hn
        have e1 : b = c := by omega
        have e2 : pkL l' = pkL m' := by omega
        cases n with
        | zero => omega
        | succ n =>
          rw [pkL_inj n l' m' (by omega) (fun x hx => hl x (List.mem_append_left _ hx)) (fun x hx => hm x (List.mem_append_left _ hx)) e2, e1]
theorem pkL_lt : ∀ (n : Nat) (l : List Nat), l.length ≤ n → (∀ x ∈ l, x < 256) → pkL l < 256 ^ n
  | n, l, hn, hl => by
    rcases List.eq_nil_or_concat l with rfl | ⟨l', b, rfl⟩
    · exact Nat.pow_pos (by decide)
    · rw [List.concat_eq_append] at hl hn ⊢
      rw [List.length_append, List.length_singleton] at hn
      rw [pkL_snoc]
      cases n with
      | zero => omega
      | succ n =>
        have h1 := pkL_lt n l' (by omega) (fun x hx => hl x (List.mem_append_left _ hx))
        have h2 := hl b (List.mem_append_right _ List.mem_cons_self)
        rw [Nat.pow_succ]
        omega
theorem wdF_at : ∀ (ws : List (List Nat)) (l : List Nat) (k i : Nat), 1 < k → wdF l ws k = k + i → ws[i]? = some l
  | [], l, k, i, hk, h => by unfold wdF at h; omega
  | w :: ws, l, k, i, hk, h => by
    unfold wdF at h
    by_cases c : l = w
    · rw [if_pos c] at h
      have : i = 0 := by omega
      rw [this, c]; rfl
    · rw [if_neg c] at h
      cases i with
      | zero =>
        have : ∀ (ws : List (List Nat)) (k : Nat), 1 < k → wdF l ws (k + 1) ≠ k := by
          intro ws
          induction ws with
          | nil => intro k hk; unfold wdF; omega
          | cons v vs ih =>
            intro k hk
            unfold wdF
            by_cases c : l = v
            · rw [if_pos c]; omega
            · rw [if_neg c]
              have hge : ∀ (vs : List (List Nat)) (k : Nat), wdF l vs k = 1 ∨ k ≤ wdF l vs k := by
                intro vs
                induction vs with
                | nil => intro k; exact Or.inl rfl
                | cons u us ih2 =>
                  intro k
                  unfold wdF
                  by_cases c2 : l = u
                  · rw [if_pos c2]; exact Or.inr (Nat.le_refl _)
                  · rw [if_neg c2]
                    rcases ih2 (k + 1) with q | q
                    · exact Or.inl q
                    · exact Or.inr (by omega)
              rcases hge vs (k + 1 + 1) with q | q <;> omega
        exact absurd h (this ws k hk)
      | succ i =>
        rw [List.getElem?_cons_succ]
        exact wdF_at ws l (k + 1) i (by omega) (by omega)
theorem wdF_of : ∀ (ws : List (List Nat)) (l : List Nat) (k i : Nat), ws.Nodup → ws[i]? = some l → wdF l ws k = k + i
  | [], l, k, i, _, h => by rw [List.getElem?_nil] at h; cases h
  | w :: ws, l, k, i, hd, h => by
    obtain ⟨d1, d2⟩ := List.nodup_cons.mp hd
    unfold wdF
    cases i with
    | zero =>
      rw [List.getElem?_cons_zero] at h
      rw [if_pos (Option.some.inj h).symm]; rfl
    | succ i =>
      rw [List.getElem?_cons_succ] at h
      rw [if_neg (fun (e : l = w) => d1 (e ▸ List.mem_of_getElem? h)), wdF_of ws l (k + 1) i d2 h]
      omega
theorem wd_is {l : List Nat} {k : Nat} (hk : k < 16) : (wdF l WD 20 = 20 + k) = (l = WD.getD k []) := by
  have hg : WD[k]? = some (WD.getD k []) := by
    rw [List.getD_eq_getElem?_getD, List.getElem?_eq_getElem (show k < WD.length by exact hk)]; rfl
  refine propext ⟨fun h => ?_, fun h => ?_⟩
  · have := wdF_at WD l 20 k (by decide) h
    rw [hg] at this; exact (Option.some.inj this).symm
  · exact wdF_of WD l 20 k (by decide) (by rw [hg, h])
theorem wd_rng {l : List Nat} : wdF l WD 20 = 1 ∨ (20 ≤ wdF l WD 20 ∧ wdF l WD 20 ≤ 35) := by
  have h : ∀ (ws : List (List Nat)) (k : Nat), wdF l ws k = 1 ∨ (k ≤ wdF l ws k ∧ wdF l ws k < k + ws.length) := by
    intro ws
    induction ws with
    | nil => intro k; exact Or.inl rfl
    | cons u us ih =>
      intro k
      unfold wdF
      by_cases c : l = u
      · rw [if_pos c]; exact Or.inr ⟨Nat.le_refl _, by rw [List.length_cons]; omega⟩
      · rw [if_neg c]
        rcases ih (k + 1) with q | q
        · exact Or.inl q
        · exact Or.inr (by rw [List.length_cons]; omega)
  rcases h WD 20 with q | q
  · exact Or.inl q
  · have : WD.length = 16 := rfl
    exact Or.inr (by omega)
theorem wd_ok : ∀ k, k < 16 → (WD.getD k []).length ≤ 7 ∧ pkL (WD.getD k []) ≠ 0 ∧ ∀ x ∈ WD.getD k [], 0 < x ∧ x < 256 := by decide
/-- of letters -/
theorem MK.word {l : List Nat} {nu : Nat} {nb : Int32} {wd : Int64} (hl : ∀ x ∈ l, 0 < x ∧ x < 256) (hw : (l.length ≤ 7 ∧ wd = jN (pkL l)) ∨ (7 < l.length ∧ wd = jN 0)) : MK (wdF l WD 20) nu (iN 2) nb wd := by
  refine Or.inr ⟨rfl, wd_rng, fun k hk => ?_⟩
  obtain ⟨o1, o2, o3⟩ := wd_ok k hk
  have hb := pkL_lt 7 (WD.getD k []) o1 (fun x hx => (o3 x hx).2)
  rw [wd_is hk]
  rcases hw with ⟨h1, rfl⟩ | ⟨h1, rfl⟩
  · have ha := pkL_lt 7 l h1 (fun x hx => (hl x hx).2)
    rw [lg_jj (Nat.lt_trans ha (by decide)) (Nat.lt_trans hb (by decide))]
    exact propext ⟨fun h => pkL_inj 7 l _ h1 hl o3 h, fun h => by rw [h]⟩
  · rw [lg_jj (by decide) (Nat.lt_trans hb (by decide))]
    refine propext ⟨fun h => absurd h.symm o2, fun h => ?_⟩
    rw [h] at h1; omega
theorem sh8 {v b : Nat} (hv : v < 281474976710656) (hb : b < 256) : ((jN v <<< ((8 : Int32).toInt64 &&& 63)) ||| (iN b).toInt64 : Int64) = jN (v * 256 + b) := by
  have e1 : (iN b).toInt64 = jN b := iN_j (by omega)
  rw [e1]
  apply Int64.toBitVec_inj.mp
  have e2 : (jN v <<< ((8 : Int32).toInt64 &&& 63)).toBitVec = BitVec.ofNat 64 v <<< 8 := rfl
  rw [Int64.toBitVec_or, e2]
  show BitVec.ofNat 64 v <<< 8 ||| BitVec.ofNat 64 b = BitVec.ofNat 64 (v * 256 + b)
  apply BitVec.eq_of_toNat_eq
  rw [BitVec.toNat_or, BitVec.toNat_shiftLeft, BitVec.toNat_ofNat, BitVec.toNat_ofNat, BitVec.toNat_ofNat, Nat.mod_eq_of_lt (show v < 2 ^ 64 by omega), Nat.mod_eq_of_lt (show b < 2 ^ 64 by omega), Nat.mod_eq_of_lt (show v * 256 + b < 2 ^ 64 by omega), Nat.shiftLeft_eq, Nat.mod_eq_of_lt (show v * 2 ^ 8 < 2 ^ 64 by omega)]
  have := Nat.two_pow_add_eq_or_of_lt (i := 8) (b := b) (by omega) v
  rw [Nat.mul_comm v (2 ^ 8), ← this]
