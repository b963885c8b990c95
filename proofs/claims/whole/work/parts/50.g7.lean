/-! ===== multianewarray of two counts, rows of int ===== -/
def muF (b i : Nat) : Nat → Value := fun j => if j < i then .ref (b + 1 + j) else .null
theorem muF_step (b i : Nat) : updV (muF b i) i (.ref (b + 1 + i)) = muF b (i + 1) := by
  funext j
  unfold updV muF
  by_cases h : j = i
  · subst h; rw [if_pos rfl, if_pos (Nat.lt_succ_self j)]
  · rw [if_neg h]
    by_cases h2 : j < i
    · rw [if_pos h2, if_pos (Nat.lt_succ_of_lt h2)]
    · rw [if_neg h2, if_neg (by omega)]
/-- the state once the array stands and i of its rows -/
def muS (T : State) (c r : ClassId) (N K : Nat) : Nat → State
  | 0 => T.pushCell (arrV c N (fun _ => .null))
  | i + 1 => ((muS T c r N K i).pushCell (arrV r K (fun _ => .int 0))).setCell T.heap.size (arrV c N (muF T.heap.size (i + 1)))
theorem muS_facts (T : State) (c r : ClassId) (N K : Nat) : ∀ i, (muS T c r N K i).heap.size = T.heap.size + 1 + i ∧ (muS T c r N K i).heap[T.heap.size]? = some (arrV c N (muF T.heap.size i)) ∧ (muS T c r N K i).vm = T.vm ∧ (muS T c r N K i).slotsUsed = T.slotsUsed + N + i * K ∧ (∀ a : Nat, a < T.heap.size → (muS T c r N K i).heap[a]? = T.heap[a]?) ∧ ∀ j, j < i → (muS T c r N K i).heap[T.heap.size + 1 + j]? = some (arrV r K (fun _ => .int 0))
  | 0 => by
    refine ⟨by simp [muS], ?_, rfl, by simp [muS, arrV_size], fun a ha => State.heap_pushCell_of_lt _ _ ha, fun j hj => absurd hj (Nat.not_lt_zero _)⟩
    have : muF T.heap.size 0 = fun _ => .null := by funext j; unfold muF; rw [if_neg (Nat.not_lt_zero _)]
    rw [this]
    exact State.heap_pushCell_size _ _
  | i + 1 => by
    obtain ⟨f1, f2, f3, f4, f5, f6⟩ := muS_facts T c r N K i
    have hlt : T.heap.size < (muS T c r N K i).heap.size := by rw [f1]; omega
    have hat : ((muS T c r N K i).pushCell (arrV r K (fun _ => .int 0))).heap[T.heap.size]? = some (arrV c N (muF T.heap.size i)) := by rw [State.heap_pushCell_of_lt (h := hlt)]; exact f2
    refine ⟨?_, State.heap_setCell_self hat, ?_, ?_, fun a ha => ?_, fun j hj => ?_⟩
    · simp [muS, State.setCell, f1]; omega
    · simp [muS, f3]
    · simp [muS, f4, arrV_size, Nat.succ_mul]; omega
    · show (((muS T c r N K i).pushCell _).setCell T.heap.size _).heap[a]? = _
      rw [State.heap_setCell_other (Nat.ne_of_gt ha), State.heap_pushCell_of_lt (h := Nat.lt_trans ha hlt)]
      exact f5 a ha
    · show (((muS T c r N K i).pushCell _).setCell T.heap.size _).heap[T.heap.size + 1 + j]? = _
      rw [State.heap_setCell_other (show T.heap.size ≠ T.heap.size + 1 + j by omega)]
      rcases Nat.lt_or_ge j i with h2 | h2
      · have hl2 : T.heap.size + 1 + j < (muS T c r N K i).heap.size := by rw [f1]; omega
        rw [State.heap_pushCell_of_lt (h := hl2)]
        exact f6 j h2
      · have e : j = i := by omega
        subst e
        rw [← f1]
        exact State.heap_pushCell_size _ _
theorem muS_top (T : State) (g : JFrame) (c r : ClassId) (N K : Nat) : ∀ i, muS (T.setTop g) c r N K i = (muS T c r N K i).setTop g
  | 0 => rfl
  | i + 1 => by
    have ih := muS_top T g c r N K i
    show ((muS (T.setTop g) c r N K i).pushCell _).setCell (T.setTop g).heap.size _ = (((muS T c r N K i).pushCell _).setCell T.heap.size _).setTop g
    rw [ih, State.heap_setTop, State.pushCell_setTop, State.setCell_setTop]
section
variable {p : Program} {l : Launch} {e : Env} {R : Room} {s : State} {m : MethodId} {args : Array Value} {below : List Frame} {meth : Method} {c : Code} {T : State} {locs : List Loc} {cells slots : Nat}
theorem muS_stand (X : Stand p l e R s m args below meth c T locs cells slots) (cA r : ClassId) (N K : Nat) : ∀ i, Stand p l e R s m args below meth c (muS T cA r N K i) (locs ++ (List.range i).map fun j => (⟨T.heap.size, j⟩ : Loc)) (cells + (1 + i)) (slots + (N + i * K))
  | 0 => by
    have h := X.pushed (arrV cA N (fun _ => .null))
    rw [arrV_size] at h
    simpa [muS] using h
  | i + 1 => by
    have Xi := muS_stand X cA r N K i
    obtain ⟨f1, f2, -, -, -, -⟩ := muS_facts T cA r N K i
    have hlt : T.heap.size < (muS T cA r N K i).heap.size := by rw [f1]; omega
    have hat : ((muS T cA r N K i).pushCell (arrV r K (fun _ => .int 0))).heap[T.heap.size]? = some (arrV cA N (muF T.heap.size i)) := by rw [State.heap_pushCell_of_lt (h := hlt)]; exact f2
    have h := (Xi.pushed (arrV r K (fun _ => .int 0))).stored hat i (.ref (T.heap.size + 1 + i))
    rw [arrV_store, muF_step, arrV_size] at h
    have e2 : (locs ++ (List.range (i + 1)).map fun j => (⟨T.heap.size, j⟩ : Loc)) = (locs ++ (List.range i).map fun j => (⟨T.heap.size, j⟩ : Loc)) ++ [⟨T.heap.size, i⟩] := by rw [List.range_succ, List.map_append, List.append_assoc]; rfl
    have e3 : slots + (N + (i + 1) * K) = slots + (N + i * K) + K := by rw [Nat.succ_mul]; omega
    rw [e2, e3]
    exact h
end
section
variable {E : CtlPost} {e : Env} {d : Bool} {acts : List Action} {s : State}
/-- newArray of default values, in the model's own words -/
theorem mu_newA {c comp : ClassId} {k : Class} {ty : FieldType} {n : Nat} {v : Value} (hk : s.vm.classes[c]? = some k) (hkind : k.kind = .array comp ty) (hfit : fits ty v = true) (hdef : v.isDefault = true) (hl : n ≤ e.platform.arrayLengthLimit) (hh : n * componentBytes ty ≤ e.platform.maxHeapBytes) (hc : s.heap.size < e.platform.maxCells) (hs : s.slotsUsed + n ≤ e.platform.maxSlots) {Q : Addr → Pre} (hq : Q s.heap.size d acts (s.pushCell (arrV c n (fun _ => v)))) : wp (Jvm.newArray c n v) Q E e d acts s := by
  rw [← arrV_new] at hq
  have hacts : allocActs (Array.replicate n v) s.heap.size acts = acts := by
    unfold allocActs
    rw [if_pos (by rw [Array.all_replicate]; split <;> simp [hdef])]
  simp only [Jvm.newArray, Jvm.arrayFits, wp_bind', W.ask, W.ite, Nat.not_lt.mpr hl, if_false, wp_pure', W.theClass, hk, hkind, Nat.not_lt.mpr hh, gt_iff_lt, W.alloc, W.stop, Option.some.injEq, exists_eq_left', Array.size_replicate, hacts]
  rw [if_neg (by omega)]
  refine ⟨hc, hs, fun i w hw => ?_, hq⟩
  rw [Array.getElem?_replicate] at hw
  split at hw
  · cases hw; simp [State.fitsSlot, State.slotType?, hk, hkind, hfit]
  · cases hw
/-- one row -/
theorem mu_row {r cc : ClassId} {k : Class} {m : Int32} (hk : s.vm.classes[r]? = some k) (hkind : k.kind = .array cc .int) (hm : ¬ m < 0) (hl : m.toNatClampNeg ≤ e.platform.arrayLengthLimit) (hh : m.toNatClampNeg * 4 ≤ e.platform.maxHeapBytes) (hc : s.heap.size < e.platform.maxCells) (hs : s.slotsUsed + m.toNatClampNeg ≤ e.platform.maxSlots) {Q : Addr → Pre} (hq : Q s.heap.size d acts (s.pushCell (arrV r m.toNatClampNeg (fun _ => .int 0)))) : wp (Op.multianewarray.make r [m]) Q E e d acts s := by
  unfold Op.multianewarray.make
  simp only [wp_bind', W.ite, hm, if_false, wp_pure', W.theClass, hk, hkind, Option.some.injEq, exists_eq_left']
  exact mu_newA hk hkind rfl rfl hl hh hc hs hq
end
