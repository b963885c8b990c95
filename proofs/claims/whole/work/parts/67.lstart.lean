/-! ===== the law from its entry ===== -/
theorem aoA_spec {A : Array Value} {s : State} (h : (Jvm.Cond.arrayOver (.array .int)).before A s = true) : ∃ comp c k, s.vm.findClass (FieldType.array .int).toString = some comp ∧ s.vm.classes[c]? = some k ∧ k.kind = .array comp (.array .int) ∧ s.vm.findClass ("[" ++ (FieldType.array .int).toString) = some c := by
  simp only [Cond.before, Cond.holds, Cond.value, beq_iff_eq] at h
  cases hc : s.vm.findClass (FieldType.array .int).toString with
  | none => simp [hc] at h
  | some comp =>
    simp only [hc, Option.bind_some, Option.bind_eq_some_iff, Option.map_eq_some_iff] at h
    obtain ⟨c, hi, k, hk, hb⟩ := h
    obtain ⟨hlt, hp, -⟩ := Array.findIdx?_eq_some_iff_getElem.mp hi
    have hkk : s.vm.classes[c] = k := (Array.getElem?_eq_some_iff.mp hk).2
    rw [hkk] at hp
    cases hkind : k.kind with
    | array component ty =>
      rw [hkind] at hb hp
      simp at hb hp
      exact ⟨comp, c, k, rfl, hk, by rw [hkind, hp, hb.1], hb.2⟩
    | _ => rw [hkind] at hb; simp at hb
def instW (c : vw_C) : Prop := Jvm.Cond.instantiable c.1 c.2.2 ∈ ALLW
theorem inst_ok : ∀ (k : Nat) (c : vw_C), vwCl[k]? = some c → instW c := by
  intro k c h
  match k, h with
  | 0, h => cases h; exact wdOK_mem (i := 2145) (by decide +kernel)
  | 1, h => cases h; exact wdOK_mem (i := 2013) (by decide +kernel)
  | 2, h => cases h; exact wdOK_mem (i := 1170) (by decide +kernel)
  | 3, h => cases h; exact wdOK_mem (i := 2049) (by decide +kernel)
  | 4, h => cases h; exact wdOK_mem (i := 1164) (by decide +kernel)
  | 5, h => cases h; exact wdOK_mem (i := 2111) (by decide +kernel)
  | 6, h => cases h; exact wdOK_mem (i := 2019) (by decide +kernel)
  | 7, h => cases h; exact wdOK_mem (i := 1037) (by decide +kernel)
  | 8, h => cases h; exact wdOK_mem (i := 1060) (by decide +kernel)
  | 9, h => cases h; exact wdOK_mem (i := 2081) (by decide +kernel)
  | 10, h => cases h; exact wdOK_mem (i := 1031) (by decide +kernel)
  | 11, h => cases h; exact wdOK_mem (i := 1023) (by decide +kernel)
  | 12, h => cases h; exact wdOK_mem (i := 5214) (by decide +kernel)
  | k + 13, h => simp [vwCl] at h
theorem wa_int : Jvm.Cond.arrayClass .int ∈ lw_tbl := allw_in (wdOK_mem (i := 1058) (by decide +kernel))
theorem wa_bool : Jvm.Cond.arrayClass .boolean ∈ lw_tbl := allw_in (wdOK_mem (i := 1057) (by decide +kernel))
theorem wa_long : Jvm.Cond.arrayClass .long ∈ lw_tbl := allw_in (wdOK_mem (i := 2143) (by decide +kernel))
theorem wo_law : Jvm.Cond.arrayOver (.object "LastName$Law") ∈ lw_tbl := wtab_mem (i := 1162) (by decide +kernel)
theorem wo_int : Jvm.Cond.arrayOver (.array .int) ∈ lw_tbl := wtab_mem (i := 1043) (by decide +kernel)
theorem law_K {s : State} {args : Array Value} (hts : ∀ w ∈ lw_tbl, w.before args s = true) : ∃ (D : va_G) (E : Nat → ClassId), va_K D vwCl (tysOf E) s ∧ AOi E s := by
  have hall : ∀ w ∈ ALLW, w.before args s = true := fun w hw => hts w (allw_in hw)
  have hD : ∀ k : Nat, ∃ p : ClassId × (Nat → Nat), ∀ q : vw_C, vwCl[k]? = some q → u_Kn s q.1 q.2.1 q.2.2 p.1 p.2 := by
    intro k
    cases hq : vwCl[k]? with
    | none => exact ⟨(0, fun _ => 0), fun q h => by cases h⟩
    | some c =>
      obtain ⟨cC, iS, h⟩ := u_known (C := c.1) (T := c.2.1) (N := c.2.2) (n := c.2.2) hall (cls_ok k c hq).1 (hall _ (inst_ok k c hq))
      exact ⟨(cC, iS), fun q e => by cases e; exact h⟩
  obtain ⟨f, hf⟩ := Classical.axiomOfChoice hD
  obtain ⟨c0, k0, p0, a1, a2, a3⟩ := Cond.arrayClass_spec (hts _ wa_int)
  obtain ⟨c1, k1, p1, b1, b2, b3⟩ := Cond.arrayClass_spec (hts _ wa_long)
  obtain ⟨c2, k2, p2, d1, d2, d3⟩ := Cond.arrayClass_spec (hts _ wa_bool)
  obtain ⟨m3, c3, k3, e1, e2, e3, e4, e5⟩ := Cond.arrayOver_spec (hts _ wo_law)
  obtain ⟨m4, c4, k4, g1, g2, g3, g4⟩ := aoA_spec (hts _ wo_int)
  have hm : m4 = c0 := by
    have : (FieldType.array .int).toString = "[" ++ FieldType.int.toString := by decide +kernel
    rw [this, a1] at g1
    exact (Option.some.inj g1).symm
  subst hm
  refine ⟨(fun k => (f k).1, fun k => (f k).2), fun k => [m4, c1, c2, c3, c4].getD k 0, ⟨fun c q hq => hf c q hq, fun k q hk => ?_⟩, k4, g2, g3⟩
  match k, hk with
  | 0, hk => cases hk; exact ⟨fun N z => ⟨(fun k h => by cases h), k0, a2, p0, a3⟩, a1⟩
  | 1, hk => cases hk; exact ⟨fun N z => ⟨(fun k h => by cases h), k1, b2, p1, b3⟩, b1⟩
  | 2, hk => cases hk; exact ⟨fun N z => ⟨(fun k h => by cases h), k2, d2, p2, d3⟩, d1⟩
  | 3, hk => cases hk; exact ⟨fun N z => ⟨(fun k h => by cases h), k3, e3, m3, e4⟩, ⟨k3, m3, e3, e4, e1, e5⟩⟩
  | 4, hk => cases hk; exact ⟨fun N z => ⟨(fun k h => by cases h), k4, g2, m4, g3⟩, g4⟩
  | k + 5, hk => simp [tysOf] at hk
/-! ===== the two String constants ===== -/
def tmS (i : Nat) : Jvm.Term := bif Nat.beq i 0 then .string "LastName$Reader" 115 else .string "LastName$Reader" 108
def elW (i j : Nat) : Jvm.Cond := .eq (.elem (.field (tmS i) "java/lang/String" "value" "[B") (.int (Int32.ofNat j))) (.int ((scB.getD i []).getD j 0))
def inFl (c : Jvm.Cond) : Bool := decide (c ∈ flatC (Jvm.Cond.and given_1 narrow_1))
set_option maxRecDepth 100000 in
theorem elW_ok : ((List.range 2).all fun i => (List.range (scL.getD i 0)).all fun j => inFl (elW i j)) = true := by decide +kernel
theorem elW_in {i j : Nat} (hi : i < 2) (hj : j < scL.getD i 0) : elW i j ∈ flatC (Jvm.Cond.and given_1 narrow_1) := by
  have h := List.all_eq_true.mp elW_ok i (List.mem_range.mpr hi)
  have h2 := List.all_eq_true.mp h j (List.mem_range.mpr hj)
  exact of_decide_eq_true h2
theorem two {P : Nat → Prop} (h0 : P 0) (h1 : P 1) : ∀ i, i < 2 → P i := by
  intro i hi
  rcases (show i = 0 ∨ i = 1 by omega) with rfl | rfl
  · exact h0
  · exact h1
theorem ws_115 : Jvm.Cond.stringRef "LastName$Reader" 115 "take fee bars go by or and not place name own who gate size hour in " ∈ lw_tbl := wtab_mem (i := 3032) (by decide +kernel)
theorem ws_108 : Jvm.Cond.stringRef "LastName$Reader" 108 "<>=#+-*/%();" ∈ lw_tbl := wtab_mem (i := 3085) (by decide +kernel)
theorem wz_cs : Jvm.Cond.laysStatic "java/lang/String" "COMPACT_STRINGS" "Z" ∈ lw_tbl := wtab_mem (i := 3042) (by decide +kernel)
theorem wz_fm : Jvm.Cond.laysStatic "jdk/internal/util/Preconditions" "SIOOBE_FORMATTER" "Ljava/util/function/BiFunction;" ∈ lw_tbl := wtab_mem (i := 3058) (by decide +kernel)
theorem wn_st : Jvm.Cond.initialized "java/lang/String" ∈ lw_tbl := wtab_mem (i := 1016) (by decide +kernel)
theorem wn_pc : Jvm.Cond.initialized "jdk/internal/util/Preconditions" ∈ lw_tbl := wtab_mem (i := 1018) (by decide +kernel)
set_option maxRecDepth 100000 in
theorem law_Sc {s : State} {args : Array Value} {A : Nat → Prop} (hts : ∀ w ∈ lw_tbl, w.before args s = true) (hg : (Jvm.Cond.and given_1 narrow_1).before args s = true) (hA : ∀ a : Nat, a < s.heap.size → ¬ A a) : Sc A s := by
  have hs := flat_of_before _ hg
  obtain ⟨adK, adV, h1, h2⟩ := vk_Sof (args := args) (s := s) (N := 2) (tm := tmS) (len := scL) (byt := scB) (A := A) (two (by decide) (by decide))
    (two (hs _ (by decide +kernel)) (hs _ (by decide +kernel))) (two (hs _ (by decide +kernel)) (hs _ (by decide +kernel))) (two (hs _ (by decide +kernel)) (hs _ (by decide +kernel))) (two (hs _ (by decide +kernel)) (hs _ (by decide +kernel)))
    (fun i hi j hj => hs _ (elW_in hi hj))
    (fun i j hi hj hij => by
      rcases (show i = 0 ∧ j = 1 ∨ i = 1 ∧ j = 0 by omega) with ⟨rfl, rfl⟩ | ⟨rfl, rfl⟩
      · exact Or.inl (hs _ (by decide +kernel))
      · exact Or.inr (hs _ (by decide +kernel))) hA
  obtain ⟨v, hv1, hv2⟩ := Cond.isRef_spec (hs (Jvm.Cond.isRef (Jvm.Term.static "jdk/internal/util/Preconditions" "SIOOBE_FORMATTER" "Ljava/util/function/BiFunction;")) (by decide +kernel))
  have hfm : v = .null ∨ ∃ fm : Nat, v = .ref fm := by
    cases v <;> first | (cases hv2; done) | exact Or.inl rfl | exact Or.inr ⟨_, rfl⟩
  exact ⟨adK, adV, h1, vk_R.of (hts _ ws_115) (h2 0 (by decide)), vk_R.of (hts _ ws_108) (h2 1 (by decide)), va_Zof (hts _ wz_cs) (hts _ wn_st) (va_eqi (hs _ (by decide +kernel))) hA, v, hfm, va_Zof (hts _ wz_fm) (hts _ wn_pc) hv1 hA⟩
theorem whole_start {p : Program} {e : Env} {s : State} {m : MethodId} {below : List Frame} {meth : Method} {c : Code} (l : Launch) {b L : Nat} {xs : Nat → Int32} (hL : L ≤ 3072) (C0 : lw_At p s m meth c b L xs) : W p l e room_1 s m #[Value.ref b] below meth c s.heap [] 0 0 (lw_Z below #[Value.ref b] s) (entryFrame m ([Value.ref b] : List Value).toArray 4) := by
  obtain ⟨hx, hb, hr, hml, hown, hts, hX, hbl, hlocks, hgv⟩ := id C0
  obtain ⟨D, E, hK, hAO⟩ := law_K hts
  have hlh := Lh.entry (fun _ => b) [.ref 1000] (n := 4) (Nat.le_of_ble_eq_true rfl)
  rw [lg_entry_eq]
  have hA : ∀ a : Nat, a < s.heap.size → ¬ va_A (conc (fun _ => b) E []) s.heap.size a := by
    rintro a ha (⟨j, z, hj⟩ | hj)
    · rw [conc_get] at hj
      simp at hj
    · exact absurd ha (Nat.not_lt.mpr hj)
  exact law_all hL (fun _ => b) (fun _ => b) D E p l e s m _ below meth c s.heap [] _ ⟨hx, hb, hr, hml, hlocks, hown, fun w hw => hts w (allw_in hw), hK, fun w hw => va_Nw.of (nest_tab (List.mem_filter.mp hw).2) (hts w (List.mem_filter.mp hw).1), law_Sc hts hgv hA⟩ ⟨fun _ _ => rfl, rfl, hX, hbl, rfl, va_AO.of (hts _ wo_law), hAO⟩ hlh (fun k q h => by simp [conc] at h) ⟨fun i j p q h => by simp [conc] at h, fun k q h => by simp [conc] at h⟩ va_S.rf
