/-! ===== calls of constructors ===== -/
def rnF (τ : Nat → Nat) : va_E → va_E
  | .inl x => .inl x
  | .inr (c, fs) => .inr (c, fs.map (gV τ))
theorem gE_rnF (ad τ : Nat → Nat) (E : Nat → ClassId) (e : va_E) : gE ad E (rnF τ e) = gE (fun i => ad (τ i)) E e := by
  rcases e with ⟨k, a⟩ | ⟨c, fs⟩
  · rfl
  · show (bif Nat.ble 100 c then Sum.inl (E (c - 100), (fs.map (gV τ)).length, Sum.inr (Sum.inr (Sum.inr (Sum.inr (fun i : Nat => rfO ad (fs.map (gV τ))[i]?))))) else Sum.inr (c, (fs.map (gV τ)).map (gV ad)) : va_E) = (bif Nat.ble 100 c then Sum.inl (E (c - 100), fs.length, Sum.inr (Sum.inr (Sum.inr (Sum.inr (fun i : Nat => rfO (fun i => ad (τ i)) fs[i]?))))) else Sum.inr (c, fs.map (gV (fun i => ad (τ i)))))
    have e1 : (fs.map (gV τ)).map (gV ad) = fs.map (gV (fun i => ad (τ i))) := by
      rw [List.map_map]
      apply List.map_congr_left
      intro v _
      exact gV_gV ad τ v
    have e2 : (fun i : Nat => rfO ad (fs.map (gV τ))[i]?) = (fun i : Nat => rfO (fun i => ad (τ i)) fs[i]?) := by
      funext i
      rw [List.getElem?_map]
      cases fs[i]? with
      | none => rfl
      | some v => cases v <;> rfl
    rw [e1, e2, List.length_map]
theorem gV_same {ad bd : Nat → Nat} {n : Nat} (hab : ∀ i : Nat, i < n ∨ 1000 ≤ i → ad i = bd i) {v : Value} (h : okV n v = true) : gV ad v = gV bd v := by
  cases v <;> try rfl
  rename_i i
  unfold okV at h
  rw [Bool.or_eq_true] at h
  have e : ad i = bd i := hab i (h.elim (fun h => Or.inl (Nat.le_of_ble_eq_true h)) (fun h => Or.inr (Nat.le_of_ble_eq_true h)))
  show Value.ref (ad i) = Value.ref (bd i)
  rw [e]
theorem gE_same {ad bd : Nat → Nat} {E : Nat → ClassId} {n : Nat} (hab : ∀ i : Nat, i < n ∨ 1000 ≤ i → ad i = bd i) {e : va_E} (h : okE n e = true) : gE ad E e = gE bd E e := by
  rcases e with ⟨k, a⟩ | ⟨c, fs⟩
  · rfl
  · have h : fs.all (okV n) = true := h
    have e1 : fs.map (gV ad) = fs.map (gV bd) := List.map_congr_left (fun v hv => gV_same hab (List.all_eq_true.mp h v hv))
    have e2 : (fun i : Nat => rfO ad fs[i]?) = (fun i : Nat => rfO bd fs[i]?) := by
      funext i
      cases hf : fs[i]? with
      | none => rfl
      | some v =>
        have hv := gV_same hab (List.all_eq_true.mp h v (List.mem_of_getElem? hf))
        cases v <;> try rfl
        rename_i j
        have e4 : Value.ref (ad j) = Value.ref (bd j) := hv
        show some (ad j) = some (bd j)
        rw [Value.ref.inj e4]
    show (bif Nat.ble 100 c then Sum.inl (E (c - 100), fs.length, Sum.inr (Sum.inr (Sum.inr (Sum.inr (fun i : Nat => rfO ad fs[i]?))))) else Sum.inr (c, fs.map (gV ad)) : va_E) = (bif Nat.ble 100 c then Sum.inl (E (c - 100), fs.length, Sum.inr (Sum.inr (Sum.inr (Sum.inr (fun i : Nat => rfO bd fs[i]?))))) else Sum.inr (c, fs.map (gV bd)))
    rw [e1, e2]
theorem Lh.same {ad bd : Nat → Nat} {la : Array Slot} {n k : Nat} {ls : List (Option Value)} (h : Lh bd la n ls) (hab : ∀ i : Nat, i < k ∨ 1000 ≤ i → ad i = bd i) (hl : ls.all (okO k) = true) : Lh ad la n ls := by
  refine ⟨h.1, h.2.1, fun i v hi => ?_⟩
  have hv : okV k v = true := List.all_eq_true.mp hl _ (List.mem_of_getElem? hi)
  rw [gV_same hab hv]
  exact h.2.2 i v hi
/-- ids of the one called, in the caller's: this, new ones, outside -/
def tauI (x n : Nat) (ε : List Nat) (i : Nat) : Nat := bif Nat.beq i 0 then x else bif Nat.blt i 1000 then n + (i - 1) else ε.getD (i - 1000) 0
theorem tau_new {x n i : Nat} {ε : List Nat} (h1 : 0 < i) (h2 : i < 1000) : tauI x n ε i = n + (i - 1) := by
  unfold tauI
  have e1 : Nat.beq i 0 = false := by
    cases i with
    | zero => omega
    | succ i => rfl
  have e2 : Nat.blt i 1000 = true := Nat.ble_eq_true_of_le h2
  rw [e1, e2]; rfl
theorem tau_out {x n i : Nat} {ε : List Nat} (h2 : 1000 ≤ i) : tauI x n ε i = ε.getD (i - 1000) 0 := by
  unfold tauI
  have e1 : Nat.beq i 0 = false := by
    cases i with
    | zero => omega
    | succ i => rfl
  have e2 : Nat.blt i 1000 = false := by
    cases hb : Nat.blt i 1000 with
    | false => rfl
    | true => exact absurd (Nat.le_of_ble_eq_true hb) (by omega)
  rw [e1, e2]; rfl
def MOKI (M : MI) (n : Nat) : Prop := (.code M.1 M.2.1 M.2.2.1 M.2.2.2 ∈ ALLW) ∧ (.initialized M.1.cls ∈ ALLW) ∧ (M.1.cls ≠ "java/lang/invoke/MethodHandle" ∧ M.1.cls ≠ "java/lang/invoke/VarHandle" ∧ (parseMethodDescriptor M.1.desc).map (fun d => d.parameters.length) = some n) ∧ (.instanceMethod M.1 ∈ ALLW) ∧ M.1.name = "<init>" ∧ M.2.2.2 = none
def mOKI (M : MI) (n pc pi p1 : Nat) : Bool := wdOK pc (.code M.1 M.2.1 M.2.2.1 M.2.2.2) && (wdOK pi (.initialized M.1.cls) && (decide (M.1.cls ≠ "java/lang/invoke/MethodHandle" ∧ M.1.cls ≠ "java/lang/invoke/VarHandle" ∧ (parseMethodDescriptor M.1.desc).map (fun d => d.parameters.length) = some n) && (wdOK p1 (.instanceMethod M.1) && (decide (M.1.name = "<init>") && decide (M.2.2.2 = none)))))
theorem mOKI_eq {M : MI} {n pc pi p1 : Nat} (h : mOKI M n pc pi p1 = true) : MOKI M n := by
  unfold mOKI at h
  simp only [Bool.and_eq_true, decide_eq_true_eq] at h
  exact ⟨wdOK_mem h.1, wdOK_mem h.2.1, h.2.2.1, wdOK_mem h.2.2.2.1, h.2.2.2.2.1, h.2.2.2.2.2⟩
theorem CinN_blind {D : va_G} {E : Nat → ClassId} {ws : va_W} {sz : Nat} {av : List Value} : FrameBlind (va_Pc av (CinN D E ws sz)) := by
  intro a U g mk q
  obtain ⟨q0, q1, q2, q3⟩ := q
  exact ⟨q0, (Cin_blind (av := av) a U g mk ⟨q0, q1⟩).2, va_AO.moved (u := U) (U := U.calling g mk a) (Vm.Alike.refl U.vm) q2, AOi.moved (u := U) (U := U.calling g mk a) (Vm.Alike.refl U.vm) q3⟩
