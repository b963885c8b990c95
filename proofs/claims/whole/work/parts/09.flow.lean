/-! ===== the pieces of the pure functions ===== -/
def bnd {α β : Type} (a : α) (f : α → β) : β := f a
def itr {σ ε : Type} (f : σ → Option (σ ⊕ ε)) : Nat → σ → Option ε
  | 0, _ => none
  | n + 1, s => (f s).bind fun x => Sum.elim (itr f n) some x
def KF : Nat := 1606938044258990275541962092341162602522202993782792835301376
theorem k_ite {α : Type} {c : Prop} [Decidable c] {a b : Option α} {r : α} {G : Prop} (h : (if c then a else b) = some r) (k1 : c → a = some r → G) (k2 : ¬ c → b = some r → G) : G := by
  by_cases hc : c
  · rw [if_pos hc] at h; exact k1 hc h
  · rw [if_neg hc] at h; exact k2 hc h
theorem k_grd {α : Type} {c : Prop} [Decidable c] {a : Option α} {r : α} {G : Prop} (h : (if c then a else none) = some r) (k : c → a = some r → G) : G := by
  by_cases hc : c
  · rw [if_pos hc] at h; exact k hc h
  · rw [if_neg hc] at h; cases h
theorem k_bind {α β : Type} {o : Option α} {f : α → Option β} {r : β} {G : Prop} (h : o.bind f = some r) (k : ∀ x, o = some x → f x = some r → G) : G := by
  cases o with
  | none => cases h
  | some x => exact k x rfl h
theorem k_bnd {α β : Type} {a : α} {f : α → Option β} {r : β} (h : bnd a f = some r) : f a = some r := h
theorem itr_ok {σ ε : Type} (f : σ → Option (σ ⊕ ε)) (P : σ → Prop) (Q : ε → Prop) (hb : ∀ s x, f s = some x → Sum.elim P Q x → P s) : ∀ (n : Nat) (s : σ) (e : ε), itr f n s = some e → Q e → P s
  | 0, s, e, h, _ => by cases h
  | n + 1, s, e, h, q => by
    unfold itr at h
    refine k_bind h (fun x hx hr => ?_)
    cases x with
    | inl s' => exact hb s _ hx (itr_ok f P Q hb n s' e hr q)
    | inr e' =>
      cases hr
      exact hb s _ hx q
theorem sk_sub {own : String} {cc : ByteArray} {tbl : List (Nat × ENT)} (h : segOK own cc tbl = true) (a n : Nat) : segOK own cc ((tbl.drop a).take n) = true := by
  unfold segOK at h ⊢
  rw [List.all_eq_true] at h ⊢
  intro x hx
  exact h x (List.mem_of_mem_drop (List.mem_of_mem_take hx))
theorem sk_at {own : String} {cc : ByteArray} {tbl : List (Nat × ENT)} (h : segOK own cc tbl = true) (k : Nat) {e : Nat × ENT} (he : tbl[k]? = some e) : segOK own cc [e] = true := by
  unfold segOK at h ⊢
  rw [List.all_eq_true] at h
  rw [List.all_cons, List.all_nil, Bool.and_true]
  exact h e (List.mem_of_getElem? he)
theorem AJ.go {X : CXT} {tbl : List (Nat × ENT)} (hs : segOK X.1.1.cls X.1.2.1 tbl = true) (a n : Nat) {pc : Nat} {ls : List (Option Value)} {st : List Value} {h : List va_E} (C : Prop) (pc' : Nat) (ls' : List (Option Value)) (st' : List Value) (h' : List va_E) (hr : prun X.1.2.2.1 ((tbl.drop a).take n) (pc, ls, st, h) = some (C, pc', ls', st', h')) (hC : C) (k : AJ X pc' ls' st' h') : AJ X pc ls st h := AJ.run _ (sk_sub hs a n) hr hC k
/-! ===== switches ===== -/
theorem AJ.tsIn {X : CXT} {pc tgt : Nat} {ls : List (Option Value)} {r : List Value} {h : List va_E} {x : Int32} {dflt lo hi : Int} {offs : Array Int} {len : Nat} {off : Int} (hd : decode X.1.2.1 pc = .ok (.tableswitch dflt lo hi offs, len)) (h1 : ¬ x.toInt < lo) (h2 : ¬ hi < x.toInt) (ho : offs[(x.toInt - lo).toNat]? = some off) (ht : (pc : Int) + off = (tgt : Int)) (k : AJ X tgt ls r h) : AJ X pc ls (.int x :: r) h := by
  intro ad D E p l ev s m args below meth c H locs la hCF hLh hP hD hS
  obtain ⟨hx, hb, hr, hml, hlk, hown, hts, hK, hN, hSc⟩ := id hCF
  exact lv_tableIn hx hb hd h1 h2 ho ht (k ad D E p l ev s m args below meth c H locs la hCF hLh hP hD hS)
theorem AJ.tsOut {X : CXT} {pc tgt : Nat} {ls : List (Option Value)} {r : List Value} {h : List va_E} {x : Int32} {dflt lo hi : Int} {offs : Array Int} {len : Nat} (hd : decode X.1.2.1 pc = .ok (.tableswitch dflt lo hi offs, len)) (ho : x.toInt < lo ∨ hi < x.toInt) (ht : (pc : Int) + dflt = (tgt : Int)) (k : AJ X tgt ls r h) : AJ X pc ls (.int x :: r) h := by
  intro ad D E p l ev s m args below meth c H locs la hCF hLh hP hD hS
  obtain ⟨hx, hb, hr, hml, hlk, hown, hts, hK, hN, hSc⟩ := id hCF
  exact lv_tableOut hx hb hd ho ht (k ad D E p l ev s m args below meth c H locs la hCF hLh hP hD hS)
theorem ne_toInt {x : Int32} {j : Int32} (h : ¬ x = j) : x.toInt ≠ j.toInt := fun q => h (Int32.toInt_inj.mp q)
