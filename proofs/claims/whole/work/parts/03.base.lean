/-! ===== THE ABSTRACT MACHINE: words ===== -/
def ALLW : List Jvm.Cond := lw_tbl.filter goodWord
theorem allw_good {w : Jvm.Cond} (h : w ∈ ALLW) : (w.onTables && w.keeps) = true ∨ ∃ ty, w = .arrayClass ty := good_of_word (List.mem_filter.mp h).2
theorem allw_in {w : Jvm.Cond} (h : w ∈ ALLW) : w ∈ lw_tbl := (List.mem_filter.mp h).1
/-- the words by two numbers: the list, and the place in it -/
def wtabs : List (List Jvm.Cond) := [k2_sels lw_privs, tables_1_1, tables_1_2, tables_1_3, tables_1_4, tables_1_5, tables_1_6, tables_1_7, tables_1_8]
def wtab (i : Nat) : Option Jvm.Cond := match wtabs[i / 1000]? with
  | some l => l[i % 1000]?
  | none => none
theorem wtab_mem {i : Nat} {w : Jvm.Cond} (h : wtab i = some w) : w ∈ lw_tbl := by
  unfold wtab at h
  split at h
  · rename_i l hl
    have hw := List.mem_of_getElem? h
    have hl := List.mem_of_getElem? hl
    unfold lw_tbl tables_1
    simp only [wtabs, List.mem_cons, List.not_mem_nil, or_false] at hl
    simp only [List.mem_append]
    rcases hl with rfl | rfl | rfl | rfl | rfl | rfl | rfl | rfl | rfl
    · exact Or.inl hw
    · exact Or.inr (Or.inl hw)
    · exact Or.inr (Or.inr (Or.inl hw))
    · exact Or.inr (Or.inr (Or.inr (Or.inl hw)))
    · exact Or.inr (Or.inr (Or.inr (Or.inr (Or.inl hw))))
    · exact Or.inr (Or.inr (Or.inr (Or.inr (Or.inr (Or.inl hw)))))
    · exact Or.inr (Or.inr (Or.inr (Or.inr (Or.inr (Or.inr (Or.inl hw))))))
    · exact Or.inr (Or.inr (Or.inr (Or.inr (Or.inr (Or.inr (Or.inr (Or.inl hw)))))))
    · exact Or.inr (Or.inr (Or.inr (Or.inr (Or.inr (Or.inr (Or.inr (Or.inr hw)))))))
  · cases h
def wdOK (i : Nat) (w : Jvm.Cond) : Bool := decide (wtab i = some w) && goodWord w
theorem wdOK_mem {i : Nat} {w : Jvm.Cond} (h : wdOK i w = true) : w ∈ ALLW := by
  unfold wdOK at h
  rw [Bool.and_eq_true, decide_eq_true_eq] at h
  exact List.mem_filter.mpr ⟨wtab_mem h.1, h.2⟩
def isNest : Jvm.Cond → Bool
  | .fieldLinkNest .. => true
  | .methodLinkNest .. => true
  | _ => false
def NESTW : List Jvm.Cond := lw_tbl.filter isNest
def nwOK (i : Nat) (w : Jvm.Cond) : Bool := decide (wtab i = some w) && isNest w
theorem nwOK_mem {i : Nat} {w : Jvm.Cond} (h : nwOK i w = true) : w ∈ NESTW := by
  unfold nwOK at h
  rw [Bool.and_eq_true, decide_eq_true_eq] at h
  exact List.mem_filter.mpr ⟨wtab_mem h.1, h.2⟩
theorem nest_warm {s U : State} (hW : s.WarmedH U.vm) {w : Jvm.Cond} (hw : isNest w = true) (h : va_Nw w s) : va_Nw w U := by
  cases w <;> first | (cases hw; done) | exact va_Nw.warmF hW h | exact va_Nw.warmM hW h
theorem nest_tab {w : Jvm.Cond} (hw : isNest w = true) : w.onTables = true := by
  cases w <;> first | (cases hw; done) | rfl
abbrev MI : Type := MethodName × ByteArray × Nat × Option FieldType
def wOf (M : MI) : List Jvm.Cond := .code M.1 M.2.1 M.2.2.1 M.2.2.2 :: ALLW
def rmD (d : Nat) : Room := { frames := d, cells := 0, slots := 0, locals := 40 * d }
/-! ===== ids and places ===== -/
def gV (ad : Nat → Nat) : Value → Value
  | .ref i => .ref (ad i)
  | v => v
/-- arrays of references stand as objects of a class number from 100 on -/
def rfO (ad : Nat → Nat) : Option Value → Option Nat
  | some (.ref a) => some (ad a)
  | _ => none
def gE (ad : Nat → Nat) (E : Nat → ClassId) : va_E → va_E
  | .inl (k, a) => .inl (E k, a)
  | .inr (c, fs) => bif Nat.ble 100 c then .inl (E (c - 100), fs.length, .inr (.inr (.inr (.inr (fun i => rfO ad fs[i]?))))) else .inr (c, fs.map (gV ad))
theorem gE_obj {ad : Nat → Nat} {E : Nat → ClassId} {c : Nat} {fs : List Value} (h : c < 100) : gE ad E (.inr (c, fs)) = .inr (c, fs.map (gV ad)) := by
  have e : Nat.ble 100 c = false := by
    cases hb : Nat.ble 100 c with
    | false => rfl
    | true => exact absurd (Nat.le_of_ble_eq_true hb) (Nat.not_le.mpr h)
  show (bif Nat.ble 100 c then _ else _) = _
  rw [e]; rfl
theorem vwCl_lt {k : Nat} {c : vw_C} (h : vwCl[k]? = some c) : k < 100 := by
  have := (List.getElem?_eq_some_iff.mp h).1
  have e : vwCl.length = 13 := rfl
  omega
def conc (ad : Nat → Nat) (E : Nat → ClassId) (h : List va_E) : va_W := h.mapIdx (fun i e => (ad i, gE ad E e))
theorem conc_get {ad : Nat → Nat} {E : Nat → ClassId} {h : List va_E} {i : Nat} : (conc ad E h)[i]? = (h[i]?).map (fun e => (ad i, gE ad E e)) := by
  unfold conc
  rw [List.getElem?_mapIdx]
theorem conc_at {ad : Nat → Nat} {E : Nat → ClassId} {h : List va_E} {i : Nat} {e : va_E} (hi : h[i]? = some e) : (conc ad E h)[i]? = some (ad i, gE ad E e) := by
  rw [conc_get, hi]; rfl
theorem conc_set {ad : Nat → Nat} {E : Nat → ClassId} {h : List va_E} {i : Nat} {e : va_E} : (conc ad E h).set i (ad i, gE ad E e) = conc ad E (h.set i e) := by
  apply List.ext_getElem?
  intro j
  rw [conc_get, List.getElem?_set, List.getElem?_set]
  by_cases hij : i = j
  · subst hij
    simp only [if_true]
    have hl : (conc ad E h).length = h.length := by simp [conc]
    rw [hl]
    by_cases hi : i < h.length <;> simp [hi]
  · simp only [hij, if_false]
    rw [conc_get]
theorem conc_len {ad : Nat → Nat} {E : Nat → ClassId} {h : List va_E} : (conc ad E h).length = h.length := by simp [conc]
theorem gV_cat (ad : Nat → Nat) (v : Value) : (gV ad v).category = v.category := by cases v <;> rfl
def tysOf (E : Nat → ClassId) : List (ClassId × FieldType) := [(E 0, .int), (E 1, .long), (E 2, .boolean), (E 3, .object "LastName$Law"), (E 4, .array .int)]
/-! ===== locals ===== -/
def setL : List (Option Value) → Nat → Option Value → List (Option Value)
  | [], 0, v => [v]
  | [], n + 1, v => none :: setL [] n v
  | _ :: t, 0, v => v :: t
  | x :: t, n + 1, v => x :: setL t n v
theorem setL_get : ∀ (ls : List (Option Value)) (i : Nat) (o : Option Value) (j : Nat) (w : Value), (setL ls i o)[j]? = some (some w) → (j = i ∧ o = some w) ∨ (j ≠ i ∧ ls[j]? = some (some w))
  | [], 0, o, j, w, h => by
    cases j with
    | zero => left; simpa [setL] using h
    | succ j => simp [setL] at h
  | [], n + 1, o, j, w, h => by
    cases j with
    | zero => simp [setL] at h
    | succ j =>
      have h' : (setL [] n o)[j]? = some (some w) := by simpa [setL] using h
      rcases setL_get [] n o j w h' with ⟨a, b⟩ | ⟨a, b⟩
      · left; exact ⟨by omega, b⟩
      · simp at b
  | x :: t, 0, o, j, w, h => by
    cases j with
    | zero => left; simpa [setL] using h
    | succ j => right; exact ⟨by omega, by simpa [setL] using h⟩
  | x :: t, n + 1, o, j, w, h => by
    cases j with
    | zero => right; exact ⟨by omega, by simpa [setL] using h⟩
    | succ j =>
      have h' : (setL t n o)[j]? = some (some w) := by simpa [setL] using h
      rcases setL_get t n o j w h' with ⟨a, b⟩ | ⟨a, b⟩
      · left; exact ⟨by omega, b⟩
      · right; exact ⟨by omega, by simpa using b⟩
def isC2 : Option (Option Value) → Bool
  | some (some (.long _)) => true
  | some (some (.double _)) => true
  | _ => false
def killL (ls : List (Option Value)) : Nat → List (Option Value)
  | 0 => ls
  | j + 1 => bif isC2 ls[j]? then setL ls j none else ls
def sto1 (ls : List (Option Value)) (i : Nat) (v : Value) : List (Option Value) := setL (killL ls i) i (some v)
def sto2 (ls : List (Option Value)) (i : Nat) (v : Value) : List (Option Value) := setL (setL (killL ls i) (i + 1) none) i (some v)
def Lh (ad : Nat → Nat) (a : Array Slot) (n : Nat) (ls : List (Option Value)) : Prop := a.size = n ∧ lv_wf a ∧ ∀ (i : Nat) (v : Value), ls[i]? = some (some v) → a[i]? = some (.val (gV ad v))
def toLv (ad : Nat → Nat) : Nat → List (Option Value) → List (Nat × Value)
  | _, [] => []
  | k, none :: t => toLv ad (k + 1) t
  | k, some v :: t => (k, gV ad v) :: toLv ad (k + 1) t
theorem toLv_mem (ad : Nat → Nat) : ∀ (ls : List (Option Value)) (k : Nat) (q : Nat × Value), q ∈ toLv ad k ls ↔ ∃ (j : Nat) (v : Value), ls[j]? = some (some v) ∧ q = (k + j, gV ad v)
  | [], k, q => by simp [toLv]
  | none :: t, k, q => by
    rw [toLv, toLv_mem ad t (k + 1) q]
    constructor
    · rintro ⟨j, v, h1, h2⟩
      exact ⟨j + 1, v, by simpa using h1, by rw [h2]; congr 1; omega⟩
    · rintro ⟨j, v, h1, h2⟩
      cases j with
      | zero => simp at h1
      | succ j => exact ⟨j, v, by simpa using h1, by rw [h2]; congr 1; omega⟩
  | some w :: t, k, q => by
    rw [toLv, List.mem_cons, toLv_mem ad t (k + 1) q]
    constructor
    · rintro (h | ⟨j, v, h1, h2⟩)
      · exact ⟨0, w, by simp, by rw [h]; congr 1⟩
      · exact ⟨j + 1, v, by simpa using h1, by rw [h2]; congr 1; omega⟩
    · rintro ⟨j, v, h1, h2⟩
      cases j with
      | zero =>
        left
        have : w = v := by simpa using h1
        subst this
        exact h2
      | succ j => right; exact ⟨j, v, by simpa using h1, by rw [h2]; congr 1; omega⟩
theorem Lh.has {ad : Nat → Nat} {a : Array Slot} {n : Nat} {ls : List (Option Value)} (h : Lh ad a n ls) : lv_has a n (toLv ad 0 ls) := by
  refine ⟨h.1, h.2.1, fun q hq => ?_⟩
  obtain ⟨j, v, h1, h2⟩ := (toLv_mem ad ls 0 q).mp hq
  rw [h2]
  show a[0 + j]? = _
  rw [Nat.zero_add]
  exact h.2.2 j v h1
theorem killL_get {ls : List (Option Value)} {i j : Nat} {w : Value} (h : (killL ls i)[j]? = some (some w)) : ls[j]? = some (some w) ∧ (j + 1 = i → w.category = 1) := by
  cases i with
  | zero => exact ⟨h, fun e => by omega⟩
  | succ i =>
    have h2 : (bif isC2 ls[i]? then setL ls i none else ls)[j]? = some (some w) := h
    cases hc : isC2 ls[i]? with
    | true =>
      rw [hc] at h2
      dsimp only [cond_true] at h2
      rcases setL_get _ _ _ _ _ h2 with ⟨_, b⟩ | ⟨a, b⟩
      · cases b
      · exact ⟨b, fun e => absurd (by omega) a⟩
    | false =>
      rw [hc] at h2
      dsimp only [cond_false] at h2
      refine ⟨h2, fun e => ?_⟩
      have e2 : j = i := by omega
      subst e2
      rw [h2] at hc
      cases w <;> first | rfl | (simp [isC2] at hc)
theorem Lh.sto1 {ad : Nat → Nat} {a a' : Array Slot} {n i : Nat} {ls : List (Option Value)} {v : Value} (h : Lh ad a n ls) (h' : lv_has a' n ((i, gV ad v) :: (toLv ad 0 ls).filter (fun q => !(q.1 == i) && !(q.1 + 1 == i && q.2.category == 2)))) : Lh ad a' n (sto1 ls i v) := by
  refine ⟨h'.1, h'.2.1, fun j w hj => ?_⟩
  rcases setL_get _ _ _ _ _ hj with ⟨e1, e2⟩ | ⟨e1, e2⟩
  · subst e1
    have : v = w := Option.some.inj e2
    subst this
    exact h'.2.2 _ List.mem_cons_self
  · obtain ⟨e3, e4⟩ := killL_get e2
    refine h'.2.2 (j, gV ad w) (List.mem_cons_of_mem _ (List.mem_filter.mpr ⟨(toLv_mem ad ls 0 _).mpr ⟨j, w, e3, by rw [Nat.zero_add]⟩, ?_⟩))
    simp only [Bool.and_eq_true, Bool.not_eq_true', beq_eq_false_iff_ne, Bool.and_eq_false_iff, gV_cat]
    refine ⟨e1, ?_⟩
    by_cases hq : j + 1 = i
    · right; rw [e4 hq]; decide
    · left; exact hq
theorem Lh.sto2 {ad : Nat → Nat} {a a' : Array Slot} {n i : Nat} {ls : List (Option Value)} {v : Value} (h : Lh ad a n ls) (h' : lv_has a' n ((i, gV ad v) :: (toLv ad 0 ls).filter (fun q => !(q.1 == i) && (!(q.1 == i + 1) && !(q.1 + 1 == i && q.2.category == 2))))) : Lh ad a' n (sto2 ls i v) := by
  refine ⟨h'.1, h'.2.1, fun j w hj => ?_⟩
  rcases setL_get _ _ _ _ _ hj with ⟨e1, e2⟩ | ⟨e1, e2⟩
  · subst e1
    have : v = w := Option.some.inj e2
    subst this
    exact h'.2.2 _ List.mem_cons_self
  · rcases setL_get _ _ _ _ _ e2 with ⟨_, b⟩ | ⟨e5, e6⟩
    · cases b
    · obtain ⟨e3, e4⟩ := killL_get e6
      refine h'.2.2 (j, gV ad w) (List.mem_cons_of_mem _ (List.mem_filter.mpr ⟨(toLv_mem ad ls 0 _).mpr ⟨j, w, e3, by rw [Nat.zero_add]⟩, ?_⟩))
      simp only [Bool.and_eq_true, Bool.not_eq_true', beq_eq_false_iff_ne, Bool.and_eq_false_iff, gV_cat]
      refine ⟨e1, e5, ?_⟩
      by_cases hq : j + 1 = i
      · right; rw [e4 hq]; decide
      · left; exact hq
def entL : List Value → List (Option Value)
  | [] => []
  | .long v :: vs => some (.long v) :: none :: entL vs
  | .double v :: vs => some (.double v) :: none :: entL vs
  | .int v :: vs => some (.int v) :: entL vs
  | .ref v :: vs => some (.ref v) :: entL vs
  | .null :: vs => some .null :: entL vs
  | .float v :: vs => some (.float v) :: entL vs
  | .retAddr v :: vs => some (.retAddr v) :: entL vs
theorem entL_mem (ad : Nat → Nat) : ∀ (vs : List Value) (k i : Nat) (v : Value), (entL vs)[i]? = some (some v) → (k + i, gV ad v) ∈ lv_args k (vs.map (gV ad))
  | [], k, i, v, h => by simp [entL] at h
  | .long x :: vs, k, i, v, h => by
    match i, h with
    | 0, h =>
      have h : Value.long x = v := by simpa [entL] using h
      subst h; exact List.mem_cons_self
    | 1, h => simp [entL] at h
    | i + 2, h =>
      have h' : (entL vs)[i]? = some (some v) := by simpa [entL] using h
      have := entL_mem ad vs (k + 2) i v h'
      refine List.mem_cons_of_mem _ ?_
      rw [show k + (i + 2) = k + 2 + i by omega]
      exact this
  | .double x :: vs, k, i, v, h => by
    match i, h with
    | 0, h =>
      have h : Value.double x = v := by simpa [entL] using h
      subst h; exact List.mem_cons_self
    | 1, h => simp [entL] at h
    | i + 2, h =>
      have h' : (entL vs)[i]? = some (some v) := by simpa [entL] using h
      have := entL_mem ad vs (k + 2) i v h'
      refine List.mem_cons_of_mem _ ?_
      rw [show k + (i + 2) = k + 2 + i by omega]
      exact this
  | .int x :: vs, k, i, v, h => by
    match i, h with
    | 0, h =>
      have h : Value.int x = v := by simpa [entL] using h
      subst h; exact List.mem_cons_self
    | i + 1, h =>
      have h' : (entL vs)[i]? = some (some v) := by simpa [entL] using h
      have := entL_mem ad vs (k + 1) i v h'
      refine List.mem_cons_of_mem _ ?_
      rw [show k + (i + 1) = k + 1 + i by omega]
      exact this
  | .ref x :: vs, k, i, v, h => by
    match i, h with
    | 0, h =>
      have h : Value.ref x = v := by simpa [entL] using h
      subst h; exact List.mem_cons_self
    | i + 1, h =>
      have h' : (entL vs)[i]? = some (some v) := by simpa [entL] using h
      have := entL_mem ad vs (k + 1) i v h'
      refine List.mem_cons_of_mem _ ?_
      rw [show k + (i + 1) = k + 1 + i by omega]
      exact this
  | .null :: vs, k, i, v, h => by
    match i, h with
    | 0, h =>
      have h : Value.null = v := by simpa [entL] using h
      subst h; exact List.mem_cons_self
    | i + 1, h =>
      have h' : (entL vs)[i]? = some (some v) := by simpa [entL] using h
      have := entL_mem ad vs (k + 1) i v h'
      refine List.mem_cons_of_mem _ ?_
      rw [show k + (i + 1) = k + 1 + i by omega]
      exact this
  | .float x :: vs, k, i, v, h => by
    match i, h with
    | 0, h =>
      have h : Value.float x = v := by simpa [entL] using h
      subst h; exact List.mem_cons_self
    | i + 1, h =>
      have h' : (entL vs)[i]? = some (some v) := by simpa [entL] using h
      have := entL_mem ad vs (k + 1) i v h'
      refine List.mem_cons_of_mem _ ?_
      rw [show k + (i + 1) = k + 1 + i by omega]
      exact this
  | .retAddr x :: vs, k, i, v, h => by
    match i, h with
    | 0, h =>
      have h : Value.retAddr x = v := by simpa [entL] using h
      subst h; exact List.mem_cons_self
    | i + 1, h =>
      have h' : (entL vs)[i]? = some (some v) := by simpa [entL] using h
      have := entL_mem ad vs (k + 1) i v h'
      refine List.mem_cons_of_mem _ ?_
      rw [show k + (i + 1) = k + 1 + i by omega]
      exact this
theorem Lh.entry (ad : Nat → Nat) (vs : List Value) {n : Nat} (h : (lg_sl (vs.map (gV ad))).length ≤ n) : Lh ad ((lg_sl (vs.map (gV ad)) ++ List.replicate (n - (lg_sl (vs.map (gV ad))).length) Slot.unset).toArray) n (entL vs) := by
  have hl := lv_entry (vs.map (gV ad)) h
  refine ⟨hl.1, hl.2.1, fun i v hi => ?_⟩
  have := hl.2.2 _ (entL_mem ad vs 0 i v hi)
  rw [Nat.zero_add] at this
  exact this
/-! ===== the two String constants and the static that String's methods read ===== -/
def scL : List Nat := [68, 12]
def scB : List (List Int32) := [[116, 97, 107, 101, 32, 102, 101, 101, 32, 98, 97, 114, 115, 32, 103, 111, 32, 98, 121, 32, 111, 114, 32, 97, 110, 100, 32, 110, 111, 116, 32, 112, 108, 97, 99, 101, 32, 110, 97, 109, 101, 32, 111, 119, 110, 32, 119, 104, 111, 32, 103, 97, 116, 101, 32, 115, 105, 122, 101, 32, 104, 111, 117, 114, 32, 105, 110, 32], [60, 62, 61, 35, 43, 45, 42, 47, 37, 40, 41, 59]]
def Sc (A : Nat → Prop) (U : State) : Prop := ∃ adK adV : Nat → Nat, vk_S 2 scL scB adK adV A U U.heap ∧ vk_R "LastName$Reader" 115 "take fee bars go by or and not place name own who gate size hour in " (adK 0) U ∧ vk_R "LastName$Reader" 108 "<>=#+-*/%();" (adK 1) U ∧ va_Z "java/lang/String" "COMPACT_STRINGS" "Z" (.int 1) A U U.heap ∧ ∃ fv : Value, (fv = .null ∨ ∃ fm : Nat, fv = .ref fm) ∧ va_Z "jdk/internal/util/Preconditions" "SIOOBE_FORMATTER" "Ljava/util/function/BiFunction;" fv A U U.heap
theorem Sc.call {A B : Nat → Prop} {s U : State} {H : Heap} {locs : List Loc} (h : Sc A s) (hAB : ∀ q, B q → A q) (hS : va_S A s.heap H locs) (hU : U.heap = H) (hW : s.WarmedH U.vm) : Sc B U := by
  obtain ⟨adK, adV, h1, h2, h3, h4, fv, hfv, h5⟩ := h
  subst hU
  exact ⟨adK, adV, (vk_S.moved hW.alike (h1.kept hS.2.1)).narrow hAB, h2.warm hW, h3.warm hW, (va_Z.moved hW.alike (h4.kept hS.2.1)).narrow hAB, fv, hfv, (va_Z.moved hW.alike (h5.kept hS.2.1)).narrow hAB⟩
theorem Sc.calling {A : Nat → Prop} {U : State} {g : JFrame} {mk : MethodId} {a : Array Value} (h : Sc A U) : Sc A (U.calling g mk a) := by
  obtain ⟨adK, adV, h1, h2, h3, h4, fv, hfv, h5⟩ := h
  exact ⟨adK, adV, vk_S.moved (u := U) (U := U.calling g mk a) (Vm.Alike.refl U.vm) h1, vk_R.same (u := U) (U := U.calling g mk a) rfl h2, vk_R.same (u := U) (U := U.calling g mk a) rfl h3, va_Z.moved (u := U) (U := U.calling g mk a) (Vm.Alike.refl U.vm) h4, fv, hfv, va_Z.moved (u := U) (U := U.calling g mk a) (Vm.Alike.refl U.vm) h5⟩
/-! ===== the judgement ===== -/
def Cin (D : va_G) (E : Nat → ClassId) (ws : va_W) (sz : Nat) (U : State) : Prop := U.heap.size = sz ∧ va_P D vwCl ws U.heap ∧ va_K D vwCl (tysOf E) U ∧ va_D (fun _ => True) ws ∧ (∀ w ∈ NESTW, va_Nw w U) ∧ Sc (va_A ws sz) U
def Cout (D : va_G) (E : Nat → ClassId) (ws ws' : va_W) (sz : Nat) (r : Option Value) : Array Value → State → Outcome → State → Prop := fun _ st oc t => (oc = .returned r ∧ va_P D vwCl ws' t.heap ∧ va_K D vwCl (tysOf E) t ∧ va_D (va_A ws sz) ws') ∧ va_F (va_A ws sz) st t
def Ctr (d : Nat) (M : MI) (args : List Value) (h : List va_E) (r : Option Value) (h' : List va_E) : Prop :=
  ∀ (ad : Nat → Nat) (D : va_G) (E : Nat → ClassId) (l : Launch) (sz : Nat), Met l M.1 (wOf M) (rmD d) (va_Pc (args.map (gV ad)) (Cin D E (conc ad E h) sz)) (Cout D E (conc ad E h) (conc ad E h') sz (r.map (gV ad))) 0 0 (va_A (conc ad E h) sz)
abbrev CXT : Type := MI × Nat × Option Value × List va_E × List va_E
def CF (M : MI) (D : va_G) (E : Nat → ClassId) (A : Nat → Prop) (p : Program) (s : State) (m : MethodId) (args : Array Value) (meth : Method) (c : Code) : Prop :=
  p.tables.exec = Jvm.exec ∧ c.code = M.2.1 ∧ meth.sig.returnType = M.2.2.2 ∧ c.maxLocals = M.2.2.1 ∧ meth.locks = false ∧ s.vm.findClass M.1.cls = some m.cls ∧ (∀ w ∈ ALLW, w.before args s = true) ∧ va_K D vwCl (tysOf E) s ∧ (∀ w ∈ NESTW, va_Nw w s) ∧ Sc A s
def AJ (x : CXT) (pc : Nat) (ls : List (Option Value)) (st : List Value) (h : List va_E) : Prop :=
  ∀ (ad : Nat → Nat) (D : va_G) (E : Nat → ClassId) (p : Program) (l : Launch) (e : Env) (s : State) (m : MethodId) (args : Array Value) (below : List Frame) (meth : Method) (c : Code) (H : Heap) (locs : List Loc) (la : Array Slot),
    CF x.1 D E (va_A (conc ad E x.2.2.2.1) s.heap.size) p s m args meth c → Lh ad la x.1.2.2.1 ls → va_P D vwCl (conc ad E h) H → va_D (va_A (conc ad E x.2.2.2.1) s.heap.size) (conc ad E h) → va_S (va_A (conc ad E x.2.2.2.1) s.heap.size) s.heap H locs →
    W p l e (rmD x.2.1) s m args below meth c H locs 0 0 (MQ below (Cout D E (conc ad E x.2.2.2.1) (conc ad E x.2.2.2.2) s.heap.size (x.2.2.1.map (gV ad))) args s 0 0 (va_A (conc ad E x.2.2.2.1) s.heap.size)) (F0 m pc la (st.map (gV ad)))
theorem Ctr.intro {d : Nat} {M : MI} {args : List Value} {h : List va_E} {r : Option Value} {h' : List va_E} (hp : plainFor M.1 = true) (hl : (args.map Value.category).sum ≤ M.2.2.1) (k : AJ (M, d, r, h, h') 0 (entL args) [] h) : Ctr d M args h r h' := by
  intro ad D E l sz
  refine va_MetF (cc := M.2.1) (maxL := M.2.2.1) (ret := M.2.2.2) hp rfl ?_
  intro p e s m args' below meth c s₁ B hml hv
  obtain ⟨rfl, hsz, hP, hK, hD0, hN, hSc⟩ := hv
  have hts := atoms_spec (ws := wOf M) B.pre
  have hown : s.vm.findClass M.1.cls = some m.cls := findClass_of_methodNamed B.named
  subst hsz
  have hlen : ∀ vs : List Value, (lg_sl (vs.map (gV ad))).length = (vs.map Value.category).sum := by
    intro vs
    induction vs with
    | nil => rfl
    | cons v vs ih =>
      have e1 : lg_sl ((v :: vs).map (gV ad)) = (if (gV ad v).category = 2 then [Slot.val (gV ad v), .second] else [.val (gV ad v)]) ++ lg_sl (vs.map (gV ad)) := by
        simp [lg_sl]
      rw [e1, List.length_append, ih, List.map_cons, List.sum_cons]
      congr 1
      cases v <;> rfl
  have hlh := Lh.entry ad args (n := M.2.2.1) (by rw [hlen]; exact hl)
  rw [lg_entry_eq]
  exact k ad D E p l e s m _ below meth c s.heap [] _ ⟨B.exec, B.bytes, B.returns, hml, B.notSynchronized, hown, fun w hw => hts w (List.mem_cons_of_mem _ hw), hK, hN, hSc⟩ hlh hP (hD0.self (sz := s.heap.size)) va_S.rf
