/-! ===== multianewarray: the whole, its row ===== -/
section
variable {E : CtlPost} {e : Env} {d : Bool} {acts : List Action} {s : State}
theorem mu_make {c r cc : ClassId} {k kr : Class} {n m : Int32} (hk : s.vm.classes[c]? = some k) (hkind : k.kind = .array r (.array .int)) (hkr : s.vm.classes[r]? = some kr) (hkindr : kr.kind = .array cc .int) (hn : ¬ n < 0) (hm : ¬ m < 0) (hl1 : n.toNatClampNeg ≤ e.platform.arrayLengthLimit) (hh1 : n.toNatClampNeg * 4 ≤ e.platform.maxHeapBytes) (hl2 : m.toNatClampNeg ≤ e.platform.arrayLengthLimit) (hh2 : m.toNatClampNeg * 4 ≤ e.platform.maxHeapBytes)
    (hc : s.heap.size + (1 + n.toNatClampNeg) ≤ e.platform.maxCells) (hs : s.slotsUsed + (n.toNatClampNeg + n.toNatClampNeg * m.toNatClampNeg) ≤ e.platform.maxSlots) {Q : Addr → Pre} (hq : ∀ d' acts', Q s.heap.size d' acts' (muS s c r n.toNatClampNeg m.toNatClampNeg n.toNatClampNeg)) : wp (Op.multianewarray.make c [n, m]) Q E e d acts s := by
  generalize hN : n.toNatClampNeg = N at *
  generalize hK : m.toNatClampNeg = K at *
  have hno : ([m].find? (· < 0)) = none := by simp [hm]
  unfold Op.multianewarray.make
  simp only [wp_bind', W.ite, hn, if_false, wp_pure', W.theClass, hk, hkind, Option.some.injEq, exists_eq_left', hN]
  refine mu_newA hk hkind rfl rfl hl1 hh1 (by omega) (by omega) ?_
  simp only [hno]
  rw [ite_self, wp_bind', Std.Legacy.Range.forIn_eq_forIn_range', show ([:N] : Std.Legacy.Range).size = N by simp [Std.Legacy.Range.size]]
  show wp (forIn (List.range' 0 N 1) PUnit.unit _) _ E e d acts _
  refine wp_forIn_inv (fun todo u => ∃ i, i + todo.length = N ∧ todo = List.range' i (N - i) ∧ u = muS s c r N K i) _ _ ⟨0, by simp, rfl, rfl⟩ ?_ ?_
  · rintro x todo u d' acts' Q' ⟨i, hi, ht, rfl⟩ hnext
    have hlt : i < N := by rw [List.length_cons] at hi; omega
    have hsp : List.range' i (N - i) = i :: List.range' (i + 1) (N - (i + 1)) := by
      rw [show N - i = N - (i + 1) + 1 by omega, List.range'_succ]
    rw [hsp] at ht
    obtain ⟨rfl, ht2⟩ := List.cons.inj ht
    obtain ⟨f1, f2, f3, f4, -, -⟩ := muS_facts s c r N K x
    have hmul : x * K + K ≤ N * K := by
      have := Nat.mul_le_mul_right K (show x + 1 ≤ N from hlt)
      rw [Nat.succ_mul] at this; exact this
    have hlt0 : s.heap.size < (muS s c r N K x).heap.size := by rw [f1]; omega
    simp only [wp_bind']
    refine mu_row (by rw [f3]; exact hkr) hkindr hm (by rw [hK]; exact hl2) (by rw [hK]; exact hh2) (by rw [f1]; omega) (by rw [f4, hK]; omega) ?_
    rw [hK]
    simp only [wp_bind', W.writeLoc, wp_pure']
    refine ⟨arrV c N (muF s.heap.size x), by rw [State.heap_pushCell_of_lt (h := hlt0)]; exact f2, by simp [arrV], by rw [arrV_size]; exact hlt, ?_, hnext _ _ _ ⟨x + 1, by rw [List.length_cons] at hi; omega, ht2, ?_⟩⟩
    · simp [State.fitsSlot, State.slotType?, arrV, f3, hk, hkind]
      rfl
    · rw [arrV_store, f1, muF_step]
      rfl
  · rintro u d' acts' ⟨i, hi, -, rfl⟩
    have hiN : i = N := hi
    subst hiN
    simp only [wp_pure']
    exact hq _ _
end
