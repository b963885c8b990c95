/-! ===== the law: its context and its own rules ===== -/
def M_l : MI := (x, code, 4, ret)
def XL (b L : Nat) (xs : Nat → Int32) : CXG := (M_l, room_1, [], (fun ad0 E args s _ => args = #[Value.ref b] ∧ va_X b L xs s s.heap ∧ b < s.heap.size ∧ ad0 1000 = b ∧ va_AO "LastName$Law" s ∧ AOi E s), (fun _ _ _ below args s => lw_Z below args s))
section
variable {b L cl sl : Nat} {xs : Nat → Int32}
theorem AL.bb {ad0 ad : Nat → Nat} {E : Nat → ClassId} {args : Array Value} {s : State} {meth : Method} (h : agr (XL b L xs).h0.length ad0 ad ∧ (XL b L xs).Pr ad0 E args s meth) : args = #[Value.ref b] ∧ va_X b L xs s s.heap ∧ b < s.heap.size ∧ ad 1000 = b ∧ ¬ va_A (conc ad0 E (XL b L xs).h0) s.heap.size b := by
  obtain ⟨h1, h2, h3, h4, h5, -⟩ := h
  refine ⟨h2, h3, h4, (h1 1000 (Or.inr (Nat.le_refl _))).trans h5, ?_⟩
  rintro (⟨j, e, hq⟩ | hq)
  · have hq : (conc ad0 E [])[j]? = some (b, e) := hq
    rw [conc_get] at hq
    simp at hq
  · exact absurd h4 (Nat.not_lt.mpr hq)
theorem AL.sld {pc nxt : Nat} {j v : Int32} {ls : List (Option Value)} {st : List Value} {h : List va_E} (hd : decode M_l.2.1 pc = .ok (.iaload, 1)) (hj : inb j L) (hv : xs (ix j) = v) (hn : pc + 1 = nxt) (k : AG (XL b L xs) cl sl nxt ls (.int v :: st) h) : AG (XL b L xs) cl sl pc ls (.int j :: .ref 1000 :: st) h := by
  intro ad0 ad D E p l ev s m args below meth c H locs la hCF hag hLh hP hD hS
  obtain ⟨hx, hb, hr, hml, hlk, hown, hts, hK, hN, hSc⟩ := id hCF
  obtain ⟨ha, hX, hbl, hb1, hbA⟩ := AL.bb hag
  subst hn; subst hv
  show W _ _ _ _ _ _ _ _ _ _ _ _ _ _ _ (F0 m pc la (.int j :: .ref (ad 1000) :: st.map (gV ad)))
  rw [hb1]
  exact va_sld hx hb hX hbl hbA hS (inb_vp hj) hd (k ad0 ad D E p l ev s m args below meth c H locs la hCF hag hLh hP hD hS)
theorem AL.slen {pc nxt : Nat} {ls : List (Option Value)} {st : List Value} {h : List va_E} (hd : decode M_l.2.1 pc = .ok (.arraylength, 1)) (hn : pc + 1 = nxt) (k : AG (XL b L xs) cl sl nxt ls (.int (Int32.ofNat L) :: st) h) : AG (XL b L xs) cl sl pc ls (.ref 1000 :: st) h := by
  intro ad0 ad D E p l ev s m args below meth c H locs la hCF hag hLh hP hD hS
  obtain ⟨hx, hb, hr, hml, hlk, hown, hts, hK, hN, hSc⟩ := id hCF
  obtain ⟨ha, hX, hbl, hb1, hbA⟩ := AL.bb hag
  subst hn
  show W _ _ _ _ _ _ _ _ _ _ _ _ _ _ _ (F0 m pc la (.ref (ad 1000) :: st.map (gV ad)))
  rw [hb1]
  exact va_slen hx hb hX hbl hbA hS hd (k ad0 ad D E p l ev s m args below meth c H locs la hCF hag hLh hP hD hS)
theorem AL.ts {pc tgt : Nat} {ls : List (Option Value)} {r : List Value} {h : List va_E} {v : Int32} {dflt lo hi : Int} {offs : Array Int} {len : Nat} {off : Int} (hd : decode M_l.2.1 pc = .ok (.tableswitch dflt lo hi offs, len)) (h1 : ¬ v.toInt < lo) (h2 : ¬ hi < v.toInt) (ho : offs[(v.toInt - lo).toNat]? = some off) (ht : (pc : Int) + off = (tgt : Int)) (k : AG (XL b L xs) cl sl tgt ls r h) : AG (XL b L xs) cl sl pc ls (.int v :: r) h := by
  intro ad0 ad D E p l ev s m args below meth c H locs la hCF hag hLh hP hD hS
  obtain ⟨hx, hb, hr, hml, hlk, hown, hts, hK, hN, hSc⟩ := id hCF
  exact lv_tableIn hx hb hd h1 h2 ho ht (k ad0 ad D E p l ev s m args below meth c H locs la hCF hag hLh hP hD hS)
theorem AL.ret {pc : Nat} {ls : List (Option Value)} {h : List va_E} (hd : decode M_l.2.1 pc = .ok (.ireturn, 1)) (hcl : cl ≤ 600000) (hsl : sl ≤ 7302250) : AG (XL b L xs) cl sl pc ls [.int 1] h := by
  intro ad0 ad D E p l ev s m args below meth c H locs la hCF hag hLh hP hD hS
  obtain ⟨hx, hb, hr, hml, hlk, hown, hts, hK, hN, hSc⟩ := id hCF
  obtain ⟨ha, -⟩ := AL.bb hag
  subst ha
  refine va_forget (fun q hq => ?_) (W.widen (k := 600000) (n := 7302250) hcl hsl (lw_ret hx hb hr hlk hd))
  rcases hS.2.2 q hq with ⟨j, e, hq⟩ | hq
  · have hq : (conc ad0 E [])[j]? = some (q.base, e) := hq
    rw [conc_get] at hq
    simp at hq
  · exact hq
end
