/-! ===== PURE: left: orders, one after another ===== -/
def fnd1 (l : List Nat) : Nat → Option Nat
  | 0 => none
  | k + 1 => if l.getD (k + 1) 0 < l.getD k 0 then fnd1 l k else some k
def fnd2 (l : List Nat) (v : Nat) : Nat → Nat
  | 0 => 0
  | k + 1 => if l.getD (k + 1) 0 < v then fnd2 l v k else k + 1
def plc2 (i j k : Nat) : Nat := if k = i then j else if k = j then i else k
def plc (n i j k : Nat) : Nat := plc2 i j (if i < k then n + i - k else k)
def nxtL (n : Nat) (l : List Nat) : Option (List Nat) := match fnd1 l (n - 1) with
  | none => none
  | some i => some ((List.range n).map (fun k => l.getD (plc n i (fnd2 l (l.getD i 0) (n - 1)) k) 0))
def allL (n : Nat) : Nat → List Nat → List (List Nat)
  | 0, _ => []
  | f + 1, l => l :: match nxtL n l with
    | none => []
    | some l' => allL n f l'
def lexL : Nat → List Nat → List (List Nat)
  | 0, _ => [[]]
  | f + 1, os => if os.isEmpty = true then [[]] else os.flatMap (fun o => (lexL f (os.filter (fun z => !(z == o)))).map (fun p => o :: p))
theorem chain6 : ∀ n, n < 7 → allL n 721 (List.range n) = lexL n (List.range n) := by decide +kernel
theorem fm_cg {α β : Type} {F G : α → List β} : ∀ {l : List α}, (∀ a ∈ l, F a = G a) → l.flatMap F = l.flatMap G
  | [], _ => rfl
  | a :: l, h => by rw [List.flatMap_cons, List.flatMap_cons, h a List.mem_cons_self, fm_cg (fun b hb => h b (List.mem_cons_of_mem _ hb))]
section
variable {φ : Nat → Nat} {n : Nat}
theorem getD_map {l : List Nat} {k : Nat} (h : k < l.length) : (l.map φ).getD k 0 = φ (l.getD k 0) := by
  rw [List.getD_eq_getElem?_getD, List.getD_eq_getElem?_getD, List.getElem?_map, List.getElem?_eq_getElem h]; rfl
theorem getD_in {l : List Nat} {k : Nat} (h : k < l.length) : l.getD k 0 ∈ l := by
  rw [List.getD_eq_getElem?_getD, List.getElem?_eq_getElem h]; exact List.getElem_mem h
theorem fnd1_map {l : List Nat} (hφ : ∀ a b, a < n → b < n → (φ a < φ b ↔ a < b)) (hl : ∀ a ∈ l, a < n) : ∀ k, k < l.length → fnd1 (l.map φ) k = fnd1 l k
  | 0, _ => rfl
  | k + 1, h => by
    have c := hφ _ _ (hl _ (getD_in h)) (hl _ (getD_in (show k < l.length by omega)))
    unfold fnd1
    rw [getD_map h, getD_map (show k < l.length by omega)]
    by_cases q : l.getD (k + 1) 0 < l.getD k 0
    · rw [if_pos q, if_pos (c.mpr q)]; exact fnd1_map hφ hl k (by omega)
    · rw [if_neg q, if_neg (fun z => q (c.mp z))]
theorem fnd2_map {l : List Nat} {v : Nat} (hφ : ∀ a b, a < n → b < n → (φ a < φ b ↔ a < b)) (hl : ∀ a ∈ l, a < n) (hv : v < n) : ∀ k, k < l.length → fnd2 (l.map φ) (φ v) k = fnd2 l v k
  | 0, _ => rfl
  | k + 1, h => by
    have c := hφ _ _ (hl _ (getD_in h)) hv
    unfold fnd2
    rw [getD_map h]
    by_cases q : l.getD (k + 1) 0 < v
    · rw [if_pos q, if_pos (c.mpr q)]; exact fnd2_map hφ hl hv k (by omega)
    · rw [if_neg q, if_neg (fun z => q (c.mp z))]
theorem fnd1_lt {l : List Nat} : ∀ {k i : Nat}, fnd1 l k = some i → i < k
  | 0, i, h => by cases h
  | k + 1, i, h => by
    unfold fnd1 at h
    by_cases q : l.getD (k + 1) 0 < l.getD k 0
    · rw [if_pos q] at h; have := fnd1_lt h; omega
    · rw [if_neg q] at h; cases h; omega
theorem fnd2_le {l : List Nat} {v : Nat} : ∀ k, fnd2 l v k ≤ k
  | 0 => Nat.le_refl _
  | k + 1 => by
    unfold fnd2
    by_cases q : l.getD (k + 1) 0 < v
    · rw [if_pos q]; have := fnd2_le (l := l) (v := v) k; omega
    · rw [if_neg q]; exact Nat.le_refl _
theorem plc_lt {i j k : Nat} (hi : i < n) (hj : j < n) (hk : k < n) : plc n i j k < n := by
  unfold plc plc2
  by_cases q : i < k
  · rw [if_pos q]
    split
    · exact hj
    · split <;> omega
  · rw [if_neg q]
    split
    · exact hj
    · split <;> omega
theorem nxtL_len {l l' : List Nat} (h : nxtL n l = some l') : l'.length = n := by
  unfold nxtL at h
  cases q : fnd1 l (n - 1) with
  | none => rw [q] at h; cases h
  | some i => rw [q] at h; cases h; rw [List.length_map, List.length_range]
theorem nxtL_mem {l l' : List Nat} (hn : l.length = n) (hl : ∀ a ∈ l, a < n) (h : nxtL n l = some l') : ∀ a ∈ l', a < n := by
  unfold nxtL at h
  cases q : fnd1 l (n - 1) with
  | none => rw [q] at h; cases h
  | some i =>
    rw [q] at h; cases h
    have hi := fnd1_lt q
    have hj := fnd2_le (l := l) (v := l.getD i 0) (n - 1)
    intro a ha
    obtain ⟨k, hk, rfl⟩ := List.mem_map.mp ha
    rw [List.mem_range] at hk
    exact hl _ (getD_in (by rw [hn]; exact plc_lt (by omega) (by omega) hk))
theorem nxtL_map {l : List Nat} (hφ : ∀ a b, a < n → b < n → (φ a < φ b ↔ a < b)) (hn : l.length = n) (hl : ∀ a ∈ l, a < n) : nxtL n (l.map φ) = (nxtL n l).map (List.map φ) := by
  by_cases n0 : n = 0
  · subst n0; rfl
  unfold nxtL
  rw [fnd1_map hφ hl (n - 1) (by omega)]
  cases q : fnd1 l (n - 1) with
  | none => rfl
  | some i =>
    have hi := fnd1_lt q
    have hj := fnd2_le (l := l) (v := l.getD i 0) (n - 1)
    show some _ = some (List.map φ _)
    rw [getD_map (show i < l.length by omega), fnd2_map hφ hl (hl _ (getD_in (by omega))) (n - 1) (by omega), List.map_map]
    congr 1
    refine List.map_congr_left (fun k hk => ?_)
    rw [List.mem_range] at hk
    exact getD_map (by rw [hn]; exact plc_lt (by omega) (by omega) hk)
theorem allL_map (hφ : ∀ a b, a < n → b < n → (φ a < φ b ↔ a < b)) : ∀ (f : Nat) (l : List Nat), l.length = n → (∀ a ∈ l, a < n) → allL n f (l.map φ) = (allL n f l).map (List.map φ)
  | 0, _, _, _ => rfl
  | f + 1, l, hn, hl => by
    unfold allL
    rw [nxtL_map hφ hn hl, List.map_cons]
    cases q : nxtL n l with
    | none => rfl
    | some l' =>
      show _ :: allL n f (l'.map φ) = _ :: _
      rw [allL_map hφ f l' (nxtL_len q) (nxtL_mem hn hl q)]
theorem lexL_map (hφ : ∀ a b, a < n → b < n → φ a = φ b → a = b) : ∀ (f : Nat) (os : List Nat), (∀ a ∈ os, a < n) → lexL f (os.map φ) = (lexL f os).map (List.map φ)
  | 0, _, _ => rfl
  | f + 1, os, hl => by
    unfold lexL
    cases os with
    | nil => rfl
    | cons o r =>
      rw [if_neg (by simp), if_neg (by simp), List.flatMap_map, List.map_flatMap]
      refine fm_cg (fun z hz => ?_)
      have hz' := hl z hz
      have e : ((o :: r).map φ).filter (fun y => !(y == φ z)) = ((o :: r).filter (fun y => !(y == z))).map φ := by
        rw [List.filter_map]
        congr 1
        refine List.filter_congr (fun y hy => ?_)
        show (!(φ y == φ z)) = !(y == z)
        congr 1
        by_cases q : y = z
        · rw [q, beq_self_eq_true, beq_self_eq_true]
        · rw [beq_eq_false_iff_ne.mpr q, beq_eq_false_iff_ne.mpr (fun w => q (hφ _ _ (hl y hy) hz' w))]
      rw [e, lexL_map hφ f _ (fun a ha => hl a ((List.mem_filter.mp ha).1)), List.map_map, List.map_map]
      rfl
end
theorem chainL {os : List Nat} (h6 : os.length ≤ 6) (hs : ∀ i j, i < j → j < os.length → os.getD i 0 < os.getD j 0) : allL os.length 721 os = lexL os.length os := by
  have hφ : ∀ a b, a < os.length → b < os.length → (os.getD a 0 < os.getD b 0 ↔ a < b) := by
    intro a b ha hb
    constructor
    · intro h
      rcases Nat.lt_trichotomy a b with q | q | q
      · exact q
      · rw [q] at h; omega
      · have := hs b a q ha; omega
    · intro h; exact hs a b h hb
  have hi : ∀ a b, a < os.length → b < os.length → os.getD a 0 = os.getD b 0 → a = b := by
    intro a b ha hb h
    rcases Nat.lt_trichotomy a b with q | q | q
    · have := hs a b q hb; omega
    · exact q
    · have := hs b a q ha; omega
  have e : os = (List.range os.length).map (fun i => os.getD i 0) := by
    refine List.ext_getElem (by rw [List.length_map, List.length_range]) (fun i h1 h2 => ?_)
    rw [List.getElem_map, List.getElem_range, List.getD_eq_getElem?_getD, List.getElem?_eq_getElem h1]; rfl
  have a1 := allL_map hφ 721 (List.range os.length) List.length_range (fun a ha => List.mem_range.mp ha)
  have a2 := lexL_map hi os.length (List.range os.length) (fun a ha => List.mem_range.mp ha)
  rw [← e] at a1 a2
  rw [a1, a2, chain6 os.length (by omega)]
