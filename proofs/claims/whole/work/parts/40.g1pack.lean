section
variable {nm sz : Nat → Int32} {hp : Nat → Nat → Int32} {t : Tn}
theorem d1_zero {n w : Nat} (ht : TW t) (h : t.1 w = some n) : d1 t w n = 0 := by
  by_cases q : d1 t w n = 0
  · exact q
  · obtain ⟨w', h1, h2, -⟩ := d1_in w q
    have := ht.2.2.1 w w' n h h2
    omega
theorem C_pack1 (h : CT nm sz hp t) (ht : TW t) : ∀ (m w k S : Nat), w + m = 8 → m < k → digs S (d1 t w) → ∃ S', itr (un2 (fb_town_packed_4 nm)) k (jN S, iN w) = some (jN S') ∧ digs S' (d1 t 8)
  | 0, w, k, S, hw, hk, hS => by
    obtain ⟨k, rfl⟩ : ∃ z, k = z + 1 := ⟨k - 1, by omega⟩
    have hw : w = 8 := hw
    subst hw
    refine ⟨S, itr_end ?_, hS⟩
    simp (disch := omega) only [un2, fb_town_packed_4, nlit, onl, negone, iN_add, iN_mul, iN_sub, iN_pm, iN_addneg, iN_ix, iN_inb, iN_lt, iN_eq, iN_nneg, iN_nm, nm_iN, mI_neg, mI_nnn, ne_eq, not_true_eq_false, not_false_eq_true, true_and, and_true, bnd, Option.bind_some, ↓reduceIte, ltT, ltF, eqT, eqF, leT, leF]
  | m + 1, w, k, S, hw, hk, hS => by
    obtain ⟨k, rfl⟩ : ∃ z, k = z + 1 := ⟨k - 1, by omega⟩
    have hw8 : w < 8 := by omega
    have hn := h.1 w hw8
    cases q : t.1 w with
    | none =>
      rw [q, enO_none] at hn
      have e : d1 t (w + 1) = d1 t w := by conv => lhs; unfold d1; rw [q]
      obtain ⟨S', g1, g2⟩ := C_pack1 h ht m (w + 1) k S (by omega) (by omega) (by rw [e]; exact hS)
      refine ⟨S', ?_, g2⟩
      rw [itr_step (s' := (jN S, iN (w + 1))), g1]
      simp (disch := omega) only [un2, fb_town_packed_4, hn, nlit, onl, negone, iN_add, iN_mul, iN_sub, iN_pm, iN_addneg, iN_ix, iN_inb, iN_lt, iN_eq, iN_nneg, iN_nm, nm_iN, mI_neg, mI_nnn, ne_eq, not_true_eq_false, not_false_eq_true, true_and, and_true, bnd, Option.bind_some, ↓reduceIte, ltT, ltF, eqT, eqF, leT, leF]
    | some n =>
      rw [q, enO_some] at hn
      have hn8 := (ht.1 w n q).2
      have e : d1 t (w + 1) = setF (d1 t w) n (1 + w) := by conv => lhs; unfold d1; rw [q]
      have hS2 := digs_or hS hn8 (show 1 + w < 64 by omega) (d1_zero ht q)
      rw [← e] at hS2
      obtain ⟨S', g1, g2⟩ := C_pack1 h ht m (w + 1) k _ (by omega) (by omega) hS2
      refine ⟨S', ?_, g2⟩
      rw [itr_step (s' := (jN (S ||| ((1 + w) <<< (6 * n))), iN (w + 1))), g1]
      simp (disch := omega) only [un2, fb_town_packed_4, hn, nlit, onl, negone, iN_add, iN_mul, iN_sub, iN_pm, iN_addneg, iN_ix, iN_inb, iN_lt, iN_eq, iN_nneg, iN_nm, nm_iN, mI_neg, mI_nnn, ne_eq, not_true_eq_false, not_false_eq_true, true_and, and_true, bnd, Option.bind_some, ↓reduceIte, ltT, ltF, eqT, eqF, leT, leF, iN_j, sh_j, jN_or]
theorem d2_zero {g k : Nat} {D : Nat → Nat} (hd : (t.2 g).Nodup) (hk : k < (t.2 g).length) (hD : ∀ n, n ∈ t.2 g → D n = 0) : d2 (t.2 g) g D k ((t.2 g).getD k 0) = 0 := by
  have hg : (t.2 g)[k]? = some ((t.2 g).getD k 0) := by rw [List.getD_eq_getElem?_getD, List.getElem?_eq_getElem hk]; rfl
  rcases d2_in (l := t.2 g) (g := g) (D := D) (n := (t.2 g).getD k 0) k (by omega) with h | ⟨k', h1, h2, -⟩
  · rw [h]; exact hD _ (List.mem_of_getElem? hg)
  · have := (List.getElem?_inj (List.getElem?_eq_some_iff.mp h2).1 hd).mp (h2.trans hg.symm)
    omega
theorem C_pack3 (h : CT nm sz hp t) (ht : TW t) {g : Nat} (hg : g < 3) {D : Nat → Nat} (hD : ∀ n, n ∈ t.2 g → D n = 0) : ∀ (m p k S : Nat), p + m = (t.2 g).length → m < k → digs S (d2 (t.2 g) g D p) → ∃ S', itr (un2 (fb_town_packed_53 sz hp (iN g))) k (jN S, iN p) = some (jN S') ∧ digs S' (d2 (t.2 g) g D (t.2 g).length)
  | 0, p, k, S, hp', hk, hS => by
    obtain ⟨k, rfl⟩ : ∃ z, k = z + 1 := ⟨k - 1, by omega⟩
    have hl := ht.len g
    have hp' : p = (t.2 g).length := hp'
    subst hp'
    refine ⟨S, itr_end ?_, hS⟩
    simp (disch := omega) only [un2, fb_town_packed_53, h.2.1 g hg, nlit, onl, negone, iN_add, iN_mul, iN_sub, iN_pm, iN_addneg, iN_ix, iN_inb, iN_lt, iN_eq, iN_nneg, iN_nm, nm_iN, mI_neg, mI_nnn, ne_eq, not_true_eq_false, not_false_eq_true, true_and, and_true, bnd, Option.bind_some, ↓reduceIte, ltT, ltF, eqT, eqF, leT, leF]
  | m + 1, p, k, S, hp', hk, hS => by
    obtain ⟨k, rfl⟩ : ∃ z, k = z + 1 := ⟨k - 1, by omega⟩
    have hl := ht.len g
    have hlt : p < (t.2 g).length := by omega
    have hgp : (t.2 g)[p]? = some ((t.2 g).getD p 0) := by rw [List.getD_eq_getElem?_getD, List.getElem?_eq_getElem hlt]; rfl
    have hn8 := (ht.2.1 g _ (List.mem_of_getElem? hgp)).2
    have hh := h.2.2 g p _ hg hgp
    have hS2 := digs_or hS hn8 (show 9 + g * 8 + p < 64 by omega) (d2_zero (ht.2.2.2.2.2 g) hlt hD)
    obtain ⟨S', g1, g2⟩ := C_pack3 h ht hg hD m (p + 1) k _ (by omega) (by omega) hS2
    refine ⟨S', ?_, g2⟩
    rw [itr_step (s' := (jN (S ||| ((9 + g * 8 + p) <<< (6 * (t.2 g).getD p 0))), iN (p + 1))), g1]
    simp (disch := omega) only [un2, fb_town_packed_53, h.2.1 g hg, hh, nlit, onl, negone, iN_add, iN_mul, iN_sub, iN_pm, iN_addneg, iN_ix, iN_inb, iN_lt, iN_eq, iN_nneg, iN_nm, nm_iN, mI_neg, mI_nnn, ne_eq, not_true_eq_false, not_false_eq_true, true_and, and_true, bnd, Option.bind_some, ↓reduceIte, ltT, ltF, eqT, eqF, leT, leF, iN_j, sh_j, jN_or]
theorem dG_zero (ht : TW t) {g n : Nat} (hn : n ∈ t.2 g) : dG t g n = 0 := by
  rcases dG_in (t := t) (n := n) g with h | ⟨g', k, h1, h2, -⟩
  · rw [h]
    by_cases q : d1 t 8 n = 0
    · exact q
    · obtain ⟨w', -, h2, -⟩ := d1_in 8 q
      exact (ht.2.2.2.1 w' n g h2 hn).elim
  · have := ht.2.2.2.2.1 g' g n (List.mem_of_getElem? h2) hn
    omega
theorem C_pack2 (h : CT nm sz hp t) (ht : TW t) : ∀ (m g k S : Nat), g + m = 3 → m < k → digs S (dG t g) → ∃ S', itr (un2 (fb_town_packed_45 sz hp)) k (jN S, iN g) = some (jN S') ∧ digs S' (dG t 3)
  | 0, g, k, S, hg, hk, hS => by
    obtain ⟨k, rfl⟩ : ∃ z, k = z + 1 := ⟨k - 1, by omega⟩
    have hg : g = 3 := hg
    subst hg
    refine ⟨S, itr_end ?_, hS⟩
    simp (disch := omega) only [un2, fb_town_packed_45, nlit, onl, negone, iN_add, iN_mul, iN_sub, iN_pm, iN_addneg, iN_ix, iN_inb, iN_lt, iN_eq, iN_nneg, iN_nm, nm_iN, mI_neg, mI_nnn, ne_eq, not_true_eq_false, not_false_eq_true, true_and, and_true, bnd, Option.bind_some, ↓reduceIte, ltT, ltF, eqT, eqF, leT, leF]
  | m + 1, g, k, S, hg, hk, hS => by
    obtain ⟨k, rfl⟩ : ∃ z, k = z + 1 := ⟨k - 1, by omega⟩
    have hl := ht.len g
    obtain ⟨S1, e1, e2⟩ := C_pack3 h ht (show g < 3 by omega) (D := dG t g) (fun n hn => dG_zero ht hn) (t.2 g).length 0 KF S (by omega) (kf_lt (by omega)) hS
    obtain ⟨S', g1, g2⟩ := C_pack2 h ht m (g + 1) k S1 (by omega) (by omega) e2
    refine ⟨S', ?_, g2⟩
    rw [itr_step (s' := (jN S1, iN (g + 1))), g1]
    simp (disch := omega) only [un2, fb_town_packed_45, nlit, onl, negone, iN_add, iN_mul, iN_sub, iN_pm, iN_addneg, iN_ix, iN_inb, iN_lt, iN_eq, iN_nneg, iN_nm, nm_iN, mI_neg, mI_nnn, ne_eq, not_true_eq_false, not_false_eq_true, true_and, and_true, bnd, Option.bind_some, ↓reduceIte, ltT, ltF, eqT, eqF, leT, leF, e1]
theorem C_packed (h : CT nm sz hp t) (ht : TW t) : f_town_packed sz hp nm = some (jN (pkS t)) := by
  obtain ⟨S1, e1, e2⟩ := C_pack1 h ht 8 0 KF 0 (by omega) (kf_lt (by omega)) digs_zero
  obtain ⟨S2, e3, e4⟩ := C_pack2 h ht 3 0 KF S1 (by omega) (kf_lt (by omega)) e2
  have e := digs_inj e4 (pkS_digs ht)
  subst e
  unfold f_town_packed
  rw [show ((0 : Int64), (0 : Int32)) = (jN 0, iN 0) from rfl, e1, Option.bind_some, show (jN S1, (0 : Int32)) = (jN S1, iN 0) from rfl, e3, Option.bind_some]
/-- how many of the names below n are in l -/
def cnS (l : List Nat) : Nat → Nat
  | 0 => 0
  | n + 1 => cnS l n + if n ∈ l then 1 else 0
theorem cnS_erase {l : List Nat} (hd : l.Nodup) {x : Nat} : ∀ n, n ≤ x → cnS (l.erase x) n = cnS l n
  | 0, _ => rfl
  | n + 1, h => by
    unfold cnS
    rw [cnS_erase hd n (by omega)]
    congr 1
    have : (n ∈ l.erase x) = (n ∈ l) := by
      apply propext
      rw [hd.mem_erase_iff]
      exact ⟨fun q => q.2, fun q => ⟨by omega, q⟩⟩
    simp only [this]
theorem cnS_len : ∀ (n : Nat) (l : List Nat), l.Nodup → (∀ x ∈ l, x < n) → cnS l n = l.length
  | 0, l, _, h => by
    cases l with
    | nil => rfl
    | cons x l => exact absurd (h x List.mem_cons_self) (Nat.not_lt_zero x)
  | n + 1, l, hd, h => by
    unfold cnS
    by_cases hm : n ∈ l
    · rw [if_pos hm, ← cnS_erase hd (x := n) n (Nat.le_refl _), cnS_len n (l.erase n) (hd.erase n) (fun x hx => by
        have := (hd.mem_erase_iff).mp hx
        have h2 := h x this.2
        have h3 := this.1
        omega), List.length_erase_of_mem hm]
      have := List.length_pos_of_mem hm
      omega
    · rw [if_neg hm, cnS_len n l hd (fun x hx => by
        have h2 := h x hx
        have h3 : x ≠ n := fun e => hm (e ▸ hx)
        omega)]
      rfl
theorem un_n {S n : Nat} (hS : S < 281474976710656) (hn : n < 8) : ((((jN S).toUInt64 >>> ((iN (6 * n) : Int32).toInt64.toUInt64 &&& Int64.toUInt64 63)).toInt64).toInt32) &&& (iN 63) = iN (dig S n) := by
  have key : ∀ (u : UInt64) (k : Nat), u.toNat % 64 = k → ((((jN S).toUInt64 >>> u).toInt64).toInt32) &&& (iN 63) = iN ((S >>> k) % 64) := by
    intro u k hu
    have e1 : (jN S).toUInt64 >>> u = UInt64.ofNat (S >>> k) := by
      apply UInt64.toNat_inj.mp
      rw [UInt64.toNat_shiftRight, hu]
      show (UInt64.ofNat S).toNat >>> k = _
      rw [UInt64.toNat_ofNat', UInt64.toNat_ofNat', Nat.mod_eq_of_lt (show S < 2 ^ 64 by omega)]
      rw [Nat.mod_eq_of_lt]
      exact Nat.lt_of_le_of_lt (Nat.shiftRight_le S k) (by omega)
    rw [e1, UInt64.toInt64_ofNat', Int64.toInt32_ofNat']
    show (⟨⟨BitVec.ofNat 32 (S >>> k) &&& BitVec.ofNat 32 63⟩⟩ : Int32) = ⟨⟨BitVec.ofNat 32 ((S >>> k) % 64)⟩⟩
    rw [← BitVec.ofNat_and, show 63 = 2 ^ 6 - 1 from rfl, Nat.and_two_pow_sub_one_eq_mod]
  unfold dig
  match n, hn with
  | 0, _ => exact key _ 0 (by decide)
  | 1, _ => exact key _ 6 (by decide)
  | 2, _ => exact key _ 12 (by decide)
  | 3, _ => exact key _ 18 (by decide)
  | 4, _ => exact key _ 24 (by decide)
  | 5, _ => exact key _ 30 (by decide)
  | 6, _ => exact key _ 36 (by decide)
  | 7, _ => exact key _ 42 (by decide)
theorem C_fill {n : Nat} {f : Nat → Int32} {v : Int32} (hn : n < 100000) : ∃ f', f_arr_fill_II n f v = some f' ∧ (∀ k, k < n → f' k = v) ∧ ∀ k, n ≤ k → f' k = f k := by
  let D : Nat → Nat → Int32 := fun z k => if k < z then v else f k
  have hS : ∀ z, upd (D z) z v = D (z + 1) := by
    intro z; funext k
    show upd (D z) _ _ k = if _ then _ else _
    by_cases q : k = z
    · subst q; rw [upd_same, if_pos (by omega)]
    · rw [upd_ne q]
      show (if _ then _ else _) = _
      by_cases r : k < z
      · rw [if_pos r, if_pos (by omega)]
      · rw [if_neg r, if_neg (by omega)]
  have := itr_seq (f := un2 (fb_arr_fill_II_5 n v (iN n))) (fun z => (iN z, D z)) (e := D n) n KF (fun z hz => by simp (disch := omega) only [un2, fb_arr_fill_II_5, nlit, onl, negone, iN_add, iN_mul, iN_sub, iN_pm, iN_addneg, iN_ix, iN_inb, iN_lt, iN_eq, iN_nneg, iN_nm, nm_iN, mI_neg, mI_nnn, ne_eq, not_true_eq_false, not_false_eq_true, true_and, and_true, bnd, Option.bind_some, ↓reduceIte, ltT, ltF, eqT, eqF, leT, leF, hS]) (by simp (disch := omega) only [un2, fb_arr_fill_II_5, nlit, onl, negone, iN_add, iN_mul, iN_sub, iN_pm, iN_addneg, iN_ix, iN_inb, iN_lt, iN_eq, iN_nneg, iN_nm, nm_iN, mI_neg, mI_nnn, ne_eq, not_true_eq_false, not_false_eq_true, true_and, and_true, bnd, Option.bind_some, ↓reduceIte, ltT, ltF, eqT, eqF, leT, leF]) (kf_lt (by omega))
  have e : D 0 = f := funext fun k => if_neg (by omega)
  rw [e] at this
  refine ⟨D n, ?_, fun k hk => if_pos hk, fun k hk => if_neg (by omega)⟩
  simp only [f_arr_fill_II, onl, nlit, this, Option.bind_some]
theorem C_unLoop (ht : TW t) {S : Nat} (hS : digs S (dG t 3)) : ∀ (m n k : Nat) (nm sz : Nat → Int32) (hp : Nat → Nat → Int32), n + m = 8 → m < k → (∀ i, i < 8 → nm i = (match t.1 i with
      | none => mI
      | some x => if x < n then iN x else mI)) → (∀ g, g < 3 → sz g = iN (cnS (t.2 g) n)) → (∀ g k x, g < 3 → (t.2 g)[k]? = some x → x < n → hp g k = iN x) → ∃ n' s' h', itr (un4 (fb_town_unpack_18 (jN S))) k (iN n, nm, sz, hp) = some (n', s', h') ∧ CT n' s' h' t
  | 0, n, k, nm, sz, hp, hn, hk, h1, h2, h3 => by
    obtain ⟨k, rfl⟩ : ∃ z, k = z + 1 := ⟨k - 1, by omega⟩
    have hn : n = 8 := hn
    subst hn
    refine ⟨nm, sz, hp, itr_end ?_, fun i hi => ?_, fun g hg => ?_, fun g k x hg hk => h3 g k x hg hk (ht.2.1 g x (List.mem_of_getElem? hk)).2⟩
    · simp (disch := omega) only [un4, fb_town_unpack_18, nlit, onl, negone, iN_add, iN_mul, iN_sub, iN_pm, iN_addneg, iN_ix, iN_inb, iN_lt, iN_eq, iN_nneg, iN_nm, nm_iN, mI_neg, mI_nnn, ne_eq, not_true_eq_false, not_false_eq_true, true_and, and_true, bnd, Option.bind_some, ↓reduceIte, ltT, ltF, eqT, eqF, leT, leF]
    · rw [h1 i hi]
      cases q : t.1 i with
      | none => rfl
      | some x => show (if x < 8 then iN x else mI) = _; rw [if_pos (ht.1 i x q).2]; rfl
    · rw [h2 g hg, cnS_len 8 _ (ht.2.2.2.2.2 g) (fun x hx => (ht.2.1 g x hx).2)]
  | m + 1, n, k, nm, sz, hp, hn, hk, h1, h2, h3 => by
    obtain ⟨k, rfl⟩ : ∃ z, k = z + 1 := ⟨k - 1, by omega⟩
    have hn8 : n < 8 := by omega
    have hd := hS.2 n hn8
    have hun := un_n hS.1 hn8
    rw [hd] at hun
    by_cases hw : ∃ w, t.1 w = some n
    · obtain ⟨w, hw⟩ := hw
      have hw8 := (ht.1 w n hw).1
      rw [dG_name ht hw] at hun
      obtain ⟨n', s', h', g1, g2⟩ := C_unLoop ht hS m (n + 1) k (upd nm w (iN n)) sz hp (by omega) (by omega) (fun i hi => by
        by_cases q : i = w
        · subst q; rw [upd_same, hw]; show _ = if n < n + 1 then _ else _; rw [if_pos (by omega)]
        · rw [upd_ne q, h1 i hi]
          cases r : t.1 i with
          | none => rfl
          | some x =>
            have hxn : x ≠ n := fun z => q (ht.2.2.1 i w n (z ▸ r) hw)
            show (if x < n then _ else _) = if x < n + 1 then _ else _
            by_cases z : x < n
            · rw [if_pos z, if_pos (by omega)]
            · rw [if_neg z, if_neg (by omega)]) (fun g hg => by
        rw [h2 g hg]; conv => rhs; unfold cnS
        rw [if_neg (fun z => ht.2.2.2.1 w n g hw z)]; rfl) (fun g k x hg hk hx => by
        have hxn : x ≠ n := fun z => ht.2.2.2.1 w n g hw (z ▸ List.mem_of_getElem? hk)
        exact h3 g k x hg hk (by omega))
      refine ⟨n', s', h', ?_, g2⟩
      rw [itr_step (s' := (iN (n + 1), upd nm w (iN n), sz, hp)), g1]
      have e3 : 1 + w - 1 = w := by omega
      simp (disch := omega) only [un4, fb_town_unpack_18, fj_town_unpack_91_18, nlit, onl, negone, iN_add, iN_mul, iN_sub, iN_pm, iN_addneg, iN_ix, iN_inb, iN_lt, iN_eq, iN_nneg, iN_nm, nm_iN, mI_neg, mI_nnn, ne_eq, not_true_eq_false, not_false_eq_true, true_and, and_true, bnd, Option.bind_some, ↓reduceIte, ltT, ltF, eqT, eqF, leT, leF, hun, e3]
    · by_cases hg : ∃ (g : Nat) (p : Nat), g < 3 ∧ (t.2 g)[p]? = some n
      · obtain ⟨g, p, hg3, hp'⟩ := hg
        rw [dG_heap ht hg3 hp'] at hun
        have hl := ht.len g
        have hpl := (List.getElem?_eq_some_iff.mp hp').1
        have e3 : (9 + g * 8 + p - 9) / 8 = g := by omega
        have e4 : (9 + g * 8 + p - 9) % 8 = p := by omega
        obtain ⟨n', s', h', g1, g2⟩ := C_unLoop ht hS m (n + 1) k nm (upd sz g (iN (cnS (t.2 g) n + 1))) (setR hp g (upd (hp g) p (iN n))) (by omega) (by omega) (fun i hi => by
          rw [h1 i hi]
          cases r : t.1 i with
          | none => rfl
          | some x =>
            have hxn : x ≠ n := fun z => hw ⟨i, z ▸ r⟩
            show (if x < n then _ else _) = if x < n + 1 then _ else _
            by_cases z : x < n
            · rw [if_pos z, if_pos (by omega)]
            · rw [if_neg z, if_neg (by omega)]) (fun g' hg' => by
          by_cases q : g' = g
          · subst q; rw [upd_same]; conv => rhs; unfold cnS
            rw [if_pos (List.mem_of_getElem? hp')]
          · rw [upd_ne q, h2 g' hg']; conv => rhs; unfold cnS
            rw [if_neg (fun z => q (ht.2.2.2.2.1 g' g n z (List.mem_of_getElem? hp')))]; rfl) (fun g' k' x hg' hk' hx => by
          by_cases q : g' = g
          · subst q
            rw [setR_same]
            by_cases r : k' = p
            · subst r
              rw [upd_same]
              rw [hp'] at hk'; rw [Option.some.inj hk']
            · rw [upd_ne r]
              have hxn : x ≠ n := by
                intro z
                rw [z] at hk'
                exact r ((List.getElem?_inj (List.getElem?_eq_some_iff.mp hk').1 (ht.2.2.2.2.2 g')).mp (hk'.trans hp'.symm))
              exact h3 g' k' x hg' hk' (by omega)
          · rw [setR_ne q]
            have hxn : x ≠ n := fun z => q (ht.2.2.2.2.1 g' g n (z ▸ List.mem_of_getElem? hk') (List.mem_of_getElem? hp'))
            exact h3 g' k' x hg' hk' (by omega))
        refine ⟨n', s', h', ?_, g2⟩
        rw [itr_step (s' := (iN (n + 1), nm, upd sz g (iN (cnS (t.2 g) n + 1)), setR hp g (upd (hp g) p (iN n)))), g1]
        simp (disch := omega) only [un4, fb_town_unpack_18, nlit, onl, negone, iN_add, iN_mul, iN_sub, iN_pm, iN_addneg, iN_ix, iN_inb, iN_lt, iN_eq, iN_nneg, iN_nm, nm_iN, mI_neg, mI_nnn, ne_eq, not_true_eq_false, not_false_eq_true, true_and, and_true, bnd, Option.bind_some, ↓reduceIte, ltT, ltF, eqT, eqF, leT, leF, hun, iN_div, iN_rem, e3, e4, h2 g hg3]
      · rw [dG_none (fun w z => hw ⟨w, z⟩) (fun g z => by
          obtain ⟨p, hp'⟩ := List.getElem?_of_mem z
          exact hg ⟨g, p, (ht.2.1 g n z).1, hp'⟩)] at hun
        obtain ⟨n', s', h', g1, g2⟩ := C_unLoop ht hS m (n + 1) k nm sz hp (by omega) (by omega) (fun i hi => by
          rw [h1 i hi]
          cases r : t.1 i with
          | none => rfl
          | some x =>
            have hxn : x ≠ n := fun z => hw ⟨i, z ▸ r⟩
            show (if x < n then _ else _) = if x < n + 1 then _ else _
            by_cases z : x < n
            · rw [if_pos z, if_pos (by omega)]
            · rw [if_neg z, if_neg (by omega)]) (fun g' hg' => by
          rw [h2 g' hg']; conv => rhs; unfold cnS
          rw [if_neg (fun z => by
            obtain ⟨p, hp'⟩ := List.getElem?_of_mem z
            exact hg ⟨g', p, hg', hp'⟩)]; rfl) (fun g' k' x hg' hk' hx => by
          have hxn : x ≠ n := fun z => hg ⟨g', k', hg', z ▸ hk'⟩
          exact h3 g' k' x hg' hk' (by omega))
        refine ⟨n', s', h', ?_, g2⟩
        rw [itr_step (s' := (iN (n + 1), nm, sz, hp)), g1]
        simp (disch := omega) only [un4, fb_town_unpack_18, fj_town_unpack_91_18, nlit, onl, negone, iN_add, iN_mul, iN_sub, iN_pm, iN_addneg, iN_ix, iN_inb, iN_lt, iN_eq, iN_nneg, iN_nm, nm_iN, mI_neg, mI_nnn, ne_eq, not_true_eq_false, not_false_eq_true, true_and, and_true, bnd, Option.bind_some, ↓reduceIte, ltT, ltF, eqT, eqF, leT, leF, hun]
theorem C_unpack (ht : TW t) : ∃ n' s' h', f_town_unpack nm sz hp (jN (pkS t)) = some (n', s', h') ∧ CT n' s' h' t := by
  obtain ⟨n1, e1, e2, -⟩ := C_fill (n := 8) (f := nm) (v := mI) (by decide)
  obtain ⟨s1, e3, e4, -⟩ := C_fill (n := 3) (f := sz) (v := iN 0) (by decide)
  obtain ⟨n', s', h', g1, g2⟩ := C_unLoop ht (pkS_digs ht) 8 0 KF n1 s1 hp (by omega) (kf_lt (by omega)) (fun i hi => by
    rw [e2 i hi]
    cases t.1 i <;> rfl) (fun g hg => e4 g hg) (fun g k x _ _ hx => absurd hx (Nat.not_lt_zero x))
  refine ⟨n', s', h', ?_, g2⟩
  simp only [f_town_unpack, nlit, negone, e1, e3, g1, un3, Option.bind_some]
end
