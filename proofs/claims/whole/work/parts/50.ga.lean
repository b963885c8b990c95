/-! ===== multianewarray in AG; arrays of references ===== -/
theorem arrV_congr {c : ClassId} {N : Nat} {f g : Nat → Value} (h : ∀ j, j < N → f j = g j) : arrV c N f = arrV c N g := by
  unfold arrV
  congr 1
  exact congrArg (Array.ofFn (n := N)) (funext fun j => h j.val j.isLt)
def muN (n N K : Nat) : List va_E := .inr (104, (List.range N).map (fun j => .ref (n + 1 + j))) :: List.replicate N (.inl (0, K, .inl (fun _ => 0)))
theorem muN_len (n N K : Nat) : (muN n N K).length = N + 1 := by simp [muN]
theorem AG.mul {X : CXG} {cl sl pc idx nxt : Nat} {ls : List (Option Value)} {st : List Value} {h : List va_E} {n k : Int32} (N K cl' sl' : Nat) (h' : List va_E) (hd : decode X.1.2.1 pc = .ok (.multianewarray idx 2, 4)) (w1 : .classLink X.1.1.cls idx "[[I" ∈ ALLW) (hpr : ∀ ad0 E args s meth, X.Pr ad0 E args s meth → AOi E s) (hn0 : ¬ n < 0) (hk0 : ¬ k < 0) (hN : n.toNatClampNeg = N) (hK : k.toNatClampNeg = K) (hb1 : N * 4 ≤ 536870912) (hb2 : K * 4 ≤ 536870912) (hcl : cl + (1 + N) = cl') (hsl : sl + (N + N * K) = sl') (hcl2 : cl' ≤ X.R.cells) (hsl2 : sl' ≤ X.R.slots) (hn : pc + 4 = nxt) (hlt : h.length + (N + 1) < 1000) (hle : X.h0.length ≤ h.length) (hok : okA h.length ls st h = true) (e2 : h ++ muN h.length N K = h') (kk : AG X cl' sl' nxt ls (.ref h.length :: st) h') : AG X cl sl pc ls (.int k :: .int n :: st) h := by
  intro ad0 ad D E p l ev s m args below meth c H locs la hCF hag hLh hP hD hS
  obtain ⟨hx, hb, hr, hml, hlk, hown, hts, hK0, hN2, hSc⟩ := id hCF
  subst hn; subst hcl; subst hsl; subst e2
  unfold okA at hok
  rw [Bool.and_eq_true, Bool.and_eq_true] at hok
  obtain ⟨o1, o2, o3⟩ := hok
  obtain ⟨kA, hkA, hkindA⟩ := hpr _ _ _ _ _ hag.2
  obtain ⟨-, kr, hkr, ci, hkindr⟩ := (hK0.2 0 (E 0, .int) rfl).1 0 (fun _ => .null)
  have hfA : s.vm.findClass "[[I" = some (E 4) := (hK0.2 4 (E 4, .array .int) rfl).2
  refine W.mul hx hb hown (hts _ w1) hfA hkA hkindA hkr hkindr hd hn0 hk0 hN hK hb1 hb2 hcl2 hsl2 (fun H' z1 z2 z3 z4 => ?_)
  have hF1 : ∀ i : Nat, i < h.length ∨ 1000 ≤ i → ad2I ad (fun i => H.size + (i - 1)) h.length (N + 1) i = ad i := fun i hi => ad2_old (by omega) hi
  have hF2 : ∀ i : Nat, i < N + 1 → ad2I ad (fun i => H.size + (i - 1)) h.length (N + 1) (h.length + i) = H.size + i := by
    intro i hi
    unfold ad2I
    rw [if_pos (by omega)]
    show H.size + (h.length + i - h.length + 1 - 1) = H.size + i
    omega
  have hat : ∀ (j : Nat) (q : Nat × va_E), (conc (ad2I ad (fun i => H.size + (i - 1)) h.length (N + 1)) E (h ++ muN h.length N K))[j]? = some q → (j < h.length ∧ (conc ad E h)[j]? = some q) ∨ (∃ i, j = h.length + i ∧ q.1 = H.size + i ∧ va_at D vwCl q H') := by
    intro j q hq
    rw [conc_get] at hq
    by_cases hj : j < h.length
    · left
      rw [List.getElem?_append_left hj, List.getElem?_eq_getElem hj] at hq
      refine ⟨hj, ?_⟩
      rw [conc_get, List.getElem?_eq_getElem hj, ← Option.some.inj hq]
      show some (ad j, gE ad E h[j]) = some (ad2I ad _ h.length (N + 1) j, gE (ad2I ad _ h.length (N + 1)) E h[j])
      rw [hF1 j (Or.inl hj), gE_same hF1 (List.all_eq_true.mp o3 h[j] (List.getElem_mem hj))]
    · right
      have hj : h.length ≤ j := Nat.not_lt.mp hj
      obtain ⟨i, rfl⟩ : ∃ i, j = h.length + i := ⟨j - h.length, by omega⟩
      rw [List.getElem?_append_right hj, show h.length + i - h.length = i by omega] at hq
      refine ⟨i, rfl, ?_⟩
      cases i with
      | zero =>
        have hq : some (ad2I ad (fun i => H.size + (i - 1)) h.length (N + 1) h.length, gE (ad2I ad (fun i => H.size + (i - 1)) h.length (N + 1)) E (.inr (104, (List.range N).map (fun j => .ref (h.length + 1 + j))))) = some q := hq
        rw [← Option.some.inj hq]
        refine ⟨hF2 0 (by omega), ?_⟩
        show H'[ad2I ad (fun i => H.size + (i - 1)) h.length (N + 1) h.length]? = some (vp_cell (E 4) (((List.range N).map (fun j => Value.ref (h.length + 1 + j))).length, .inr (.inr (.inr (.inr (fun i => rfO (ad2I ad (fun i => H.size + (i - 1)) h.length (N + 1)) ((List.range N).map (fun j => Value.ref (h.length + 1 + j)))[i]?))))))
        have e0 : ad2I ad (fun i => H.size + (i - 1)) h.length (N + 1) h.length = H.size := hF2 0 (by omega)
        rw [e0, z2]
        have e1 : ((List.range N).map (fun j => Value.ref (h.length + 1 + j))).length = N := by simp
        rw [e1]
        congr 1
        show arrV (E 4) N (muF H.size N) = arrV (E 4) N (fun j => va_rf (rfO (ad2I ad (fun i => H.size + (i - 1)) h.length (N + 1)) ((List.range N).map (fun j => Value.ref (h.length + 1 + j)))[j]?))
        refine arrV_congr (fun j hj => ?_)
        rw [List.getElem?_map, List.getElem?_range hj]
        show (if j < N then Value.ref (H.size + 1 + j) else .null) = Value.ref (ad2I ad (fun i => H.size + (i - 1)) h.length (N + 1) (h.length + 1 + j))
        rw [if_pos hj, show h.length + 1 + j = h.length + (1 + j) by omega, hF2 (1 + j) (by omega), Nat.add_assoc]
      | succ i =>
        have hi : i < N := by
          rcases Nat.lt_or_ge i N with h9 | h9
          · exact h9
          · rw [List.getElem?_eq_none (by rw [muN_len]; omega)] at hq; cases hq
        have hg : (muN h.length N K)[i + 1]? = some (.inl (0, K, .inl (fun _ => 0))) := by
          show (List.replicate N _)[i]? = _
          rw [List.getElem?_replicate, if_pos hi]
        rw [hg] at hq
        rw [← Option.some.inj hq]
        refine ⟨hF2 (i + 1) (by omega), ?_⟩
        show H'[ad2I ad (fun i => H.size + (i - 1)) h.length (N + 1) (h.length + (i + 1))]? = some (arrV (E 0) K (fun _ => .int 0))
        rw [hF2 (i + 1) (by omega), show H.size + (i + 1) = H.size + 1 + i by omega]
        exact z4 i hi
  have hPn : va_P D vwCl (conc (ad2I ad (fun i => H.size + (i - 1)) h.length (N + 1)) E (h ++ muN h.length N K)) H' := by
    intro j q hq
    rcases hat j q hq with ⟨-, hq2⟩ | ⟨i, -, -, hq2⟩
    · exact (hP j q hq2).kept (z3 _ (hP j q hq2).lt)
    · exact hq2
  have hDn : va_D (va_A (conc ad0 E X.h0) s.heap.size) (conc (ad2I ad (fun i => H.size + (i - 1)) h.length (N + 1)) E (h ++ muN h.length N K)) := by
    refine ⟨fun i j a b hi hj hab => ?_, fun j q hq => ?_⟩
    · rcases hat i a hi with ⟨-, hi2⟩ | ⟨i', e1, e2, -⟩
      · rcases hat j b hj with ⟨-, hj2⟩ | ⟨j', e3, e4, -⟩
        · exact hD.1 i j a b hi2 hj2 hab
        · have h9 : a.1 < H.size := (hP i a hi2).lt
          rw [hab, e4] at h9
          omega
      · rcases hat j b hj with ⟨-, hj2⟩ | ⟨j', e3, e4, -⟩
        · have h9 : b.1 < H.size := (hP j b hj2).lt
          rw [← hab, e2] at h9
          omega
        · have h9 : H.size + i' = H.size + j' := by rw [← e2, ← e4]; exact hab
          omega
    · rcases hat j q hq with ⟨-, hq2⟩ | ⟨i, -, e2, -⟩
      · exact hD.2 j q hq2
      · rw [e2]; exact Or.inr (Nat.le_trans hS.1 (Nat.le_add_right _ _))
  have hSn : va_S (va_A (conc ad0 E X.h0) s.heap.size) s.heap H' (locs ++ (List.range N).map fun j => (⟨H.size, j⟩ : Loc)) := by
    refine ⟨Nat.le_trans hS.1 (by rw [z1]; omega), fun q h1 h2 => (z3 q (Nat.lt_of_lt_of_le h1 hS.1)).trans (hS.2.1 q h1 h2), fun q hq => ?_⟩
    rcases List.mem_append.mp hq with h9 | h9
    · exact hS.2.2 q h9
    · obtain ⟨j, -, rfl⟩ := List.mem_map.mp h9
      exact Or.inr hS.1
  have ha2 : agr X.h0.length ad0 (ad2I ad (fun i => H.size + (i - 1)) h.length (N + 1)) := fun i hi => (hF1 i (hi.imp (fun h => Nat.lt_of_lt_of_le h hle) id)).trans (hag.1 i hi)
  have k2 := kk ad0 (ad2I ad (fun i => H.size + (i - 1)) h.length (N + 1)) D E p l ev s m args below meth c H' _ la hCF ⟨ha2, hag.2⟩ (hLh.same hF1 o1) hPn hDn hSn
  have es : (Value.ref h.length :: st).map (gV (ad2I ad (fun i => H.size + (i - 1)) h.length (N + 1))) = .ref H.size :: st.map (gV ad) := by
    rw [List.map_cons, List.map_congr_left (fun v hv => gV_same hF1 (List.all_eq_true.mp o2 v hv))]
    show Value.ref (ad2I ad (fun i => H.size + (i - 1)) h.length (N + 1) h.length) :: _ = _
    rw [show ad2I ad (fun i => H.size + (i - 1)) h.length (N + 1) h.length = H.size from hF2 0 (by omega)]
  rw [es] at k2
  exact k2
