/-! ===== PURE: text: the row of tokens ===== -/
/-- (kind, number, start, behind) -/
abbrev Tk : Type := Nat × Nat × Nat × Nat
def tkR (B : Nat → Nat) (n : Nat) : Nat → Nat → List Tk
  | 0, _ => []
  | f + 1, s => if s < n then (if isBn (B s) = true then tkR B n f (s + 1) else (tkN B n s, tnN B n s, s, teN B n s) :: tkR B n f (teN B n s)) else []
theorem tkR_fuel {B : Nat → Nat} {n : Nat} : ∀ (f g s : Nat), n ≤ s + f → n ≤ s + g → tkR B n f s = tkR B n g s
  | 0, 0, s, _, _ => rfl
  | 0, g + 1, s, h1, h2 => by unfold tkR; rw [if_neg (by omega)]
  | f + 1, 0, s, h1, h2 => by
    show tkR B n (f + 1) s = []
    unfold tkR; rw [if_neg (by omega)]
  | f + 1, g + 1, s, h1, h2 => by
    unfold tkR
    by_cases c : s < n
    · rw [if_pos c, if_pos c]
      have := teN_gt (B := B) c
      rw [tkR_fuel f g (s + 1) (by omega) (by omega), tkR_fuel f g (teN B n s) (by omega) (by omega)]
    · rw [if_neg c, if_neg c]
def tkL (B : Nat → Nat) (n s : Nat) : List Tk := tkR B n (n - s) s
theorem tkL_end {B : Nat → Nat} {n s : Nat} (h : n ≤ s) : tkL B n s = [] := by
  unfold tkL; rw [show n - s = 0 by omega]; rfl
theorem tkL_blank {B : Nat → Nat} {n s : Nat} (h : s < n) (hb : isBn (B s) = true) : tkL B n s = tkL B n (s + 1) := by
  unfold tkL
  obtain ⟨f, hf⟩ : ∃ f, n - s = f + 1 := ⟨n - s - 1, by omega⟩
  rw [hf]
  show (if s < n then _ else _) = _
  rw [if_pos h, if_pos hb]
  exact tkR_fuel _ _ _ (by omega) (by omega)
theorem tkL_tok {B : Nat → Nat} {n s : Nat} (h : s < n) (hb : isBn (B s) = false) : tkL B n s = (tkN B n s, tnN B n s, s, teN B n s) :: tkL B n (teN B n s) := by
  unfold tkL
  obtain ⟨f, hf⟩ : ∃ f, n - s = f + 1 := ⟨n - s - 1, by omega⟩
  rw [hf]
  show (if s < n then _ else _) = _
  have := teN_gt (B := B) h
  rw [if_pos h, if_neg (by rw [hb]; decide)]
  congr 1
  exact tkR_fuel _ _ _ (by omega) (by omega)
theorem tkL_len {B : Nat → Nat} {n : Nat} : ∀ (f s : Nat), n - s ≤ f → (tkL B n s).length ≤ n - s
  | 0, s, h => by rw [tkL_end (by omega)]; exact Nat.zero_le _
  | f + 1, s, h => by
    by_cases c : s < n
    · cases q : isBn (B s) with
      | true => rw [tkL_blank c q]; have := tkL_len (B := B) (n := n) f (s + 1) (by omega); omega
      | false =>
        have := teN_gt (B := B) c
        rw [tkL_tok c q, List.length_cons]
        have := tkL_len (B := B) (n := n) f (teN B n s) (by omega)
        omega
    · rw [tkL_end (by omega)]; exact Nat.zero_le _
/-- rows of tokens, as the class has them: those of l from k on -/
def RT (kd st nu : Nat → Int32) (k : Nat) (l : List Tk) : Prop := ∀ (j : Nat) (t : Tk), l[j]? = some t → kd (k + j) = iN t.1 ∧ st (k + j) = iN t.2.2.1 ∧ nu (k + j) = iN t.2.1
section
variable {by_ tp : Nat → Int32} {n : Nat} {B : Nat → Nat}
theorem wdF_le : ∀ (ws : List (List Nat)) (l : List Nat) (k : Nat), wdF l ws k ≤ k + ws.length + 1
  | [], l, k => by unfold wdF; omega
  | w :: ws, l, k => by
    unfold wdF
    rw [List.length_cons]
    by_cases c : l = w
    · rw [if_pos c]; omega
    · rw [if_neg c]; have := wdF_le ws l (k + 1); omega
theorem C_addTok {kd st nu : Nat → Int32} {k : Nat} (hk : k ≤ 300) (a b c : Int32) : f_rd_addToken (iN k) kd st nu a b c = some (iN (k + 1), upd kd k a, upd st k b, upd nu k c) := by
  simp (disch := omega) only [f_rd_addToken, nlit, bnd, iN_add, iN_lt, iN_inb, iN_ix, ltT, ↓reduceIte]
theorem C_splitLoop (h : TB by_ tp n B) : ∀ (f s i k z : Nat) (kd st nu : Nat → Int32), n - s ≤ f → s ≤ n → i ≤ s → k ≤ s → f < z → ∃ kd' st' nu', itr (un6 (fb_rd_split_9 (iN n) by_)) z (iN s, iN i, iN k, kd, st, nu) = some (iN (k + (tkL B n s).length), kd', st', nu') ∧ RT kd' st' nu' k (tkL B n s) ∧ ∀ j, j < k → kd' j = kd j ∧ st' j = st j ∧ nu' j = nu j
  | f, s, i, k, 0, kd, st, nu, hf, hs, hi, hk, hz => absurd hz (Nat.not_lt_zero _)
  | f, s, i, k, z + 1, kd, st, nu, hf, hs, hi, hk, hz => by
    have h1 := h.1
    by_cases c : s < n
    · obtain ⟨f, rfl⟩ : ∃ g, f = g + 1 := ⟨f - 1, by omega⟩
      have hb := (h.2 s c).1
      have e1 := C_byteIn h c
      have e2 := C_isBlank hb
      have hl1 : (iN i < iN 300) = True := by rw [iN_lt (by omega) (by omega)]; exact eq_true (by omega)
      have hl2 : (iN s < iN n) = True := by rw [iN_lt (by omega) (by omega)]; exact eq_true c
      cases q : isBn (B s) with
      | true =>
        rw [q] at e2
        obtain ⟨kd', st', nu', w1, w2, w3⟩ := C_splitLoop h f (s + 1) (i + 1) k z kd st nu (by omega) (by omega) (by omega) (by omega) (by omega)
        rw [tkL_blank c q]
        refine ⟨kd', st', nu', ?_, w2, w3⟩
        rw [← w1]
        refine itr_step ?_
        simp only [un6, fb_rd_split_9, nlit, hl1, hl2, e1, e2, bT0, iN_add, Option.bind_some, ↓reduceIte]
      | false =>
        rw [q] at e2
        have hg := teN_gt (B := B) c
        have e3 := C_endOf h c
        have e4 := C_kindOf h c
        have e5 := C_isDigit hb
        obtain ⟨kd', st', nu', w1, w2, w3⟩ := C_splitLoop h f (teN B n s) (i + 1) (k + 1) z (upd kd k (iN (tkN B n s))) (upd st k (iN s)) (upd nu k (iN (tnN B n s))) (by omega) (by omega) (by omega) (by omega) (by omega)
        rw [tkL_tok c q, List.length_cons]
        have ea := C_addTok (kd := kd) (st := st) (nu := nu) (k := k) (by omega) (iN (tkN B n s)) (iN s) (iN (tnN B n s))
        refine ⟨kd', st', nu', ?_, fun j t ht => ?_, fun j hj => ?_⟩
        · rw [show k + ((tkL B n (teN B n s)).length + 1) = k + 1 + (tkL B n (teN B n s)).length by omega, ← w1]
          refine itr_step ?_
          unfold tnN at ea ⊢
          cases q2 : isDn (B s) with
          | false =>
            rw [q2] at e5 ea
            rw [if_neg (by decide)] at ea ⊢
            simp only [un6, fb_rd_split_9, fj_rd_split_77_9, nlit, hl1, hl2, e1, e2, e3, e4, e5, bF0, ea, un4, iN_add, Option.bind_some, ↓reduceIte]
          | true =>
            rw [q2] at e5 ea
            rw [if_pos rfl] at ea ⊢
            have hall : ∀ k, s ≤ k → k < teN B n s → isDn (B k) = true := by
              intro k h1 h2
              by_cases ek : k = s
              · rw [ek]; exact q2
              · have hnl : isLn (B s) = false := by
                  unfold isDn at q2
                  have := of_decide_eq_true q2
                  unfold isLn
                  exact decide_eq_false (by omega)
                unfold teN at h2
                rw [if_neg (by rw [hnl]; decide), if_pos q2] at h2
                exact spn_in _ _ k (by omega) h2
            have e6 := C_numLoop h hg.2 (teN B n s - s) s 0 KF (by omega) (kf_lt (by omega)) (by omega) hall
            have e7 : f_rd_numberOf (iN n) by_ (iN s) (iN (teN B n s)) = some (iN (nuF B (teN B n s - s) s 0)) := by
              simp only [f_rd_numberOf, nlit, e6, Option.bind_some]
            simp only [un6, fb_rd_split_9, fj_rd_split_77_9, nlit, hl1, hl2, e1, e2, e3, e4, e5, e7, bF0, bT0, ea, un4, iN_add, Option.bind_some, ↓reduceIte]
        · cases j with
          | zero =>
            rw [List.getElem?_cons_zero] at ht
            cases ht
            obtain ⟨y1, y2, y3⟩ := w3 k (by omega)
            rw [Nat.add_zero, y1, y2, y3, upd_same, upd_same, upd_same]
            exact ⟨rfl, rfl, rfl⟩
          | succ j =>
            rw [List.getElem?_cons_succ] at ht
            rw [show k + (j + 1) = k + 1 + j by omega]
            exact w2 j t ht
        · obtain ⟨y1, y2, y3⟩ := w3 j (by omega)
          rw [y1, y2, y3, upd_ne (by omega), upd_ne (by omega), upd_ne (by omega)]
          exact ⟨rfl, rfl, rfl⟩
    · rw [tkL_end (by omega)]
      refine ⟨kd, st, nu, itr_end ?_, (fun j t ht => by rw [List.getElem?_nil] at ht; cases ht), fun _ _ => ⟨rfl, rfl, rfl⟩⟩
      have hl2 : (iN s < iN n) = False := by rw [iN_lt (by omega) (by omega)]; exact eq_false c
      by_cases ci : i < 300
      · have hl1 : (iN i < iN 300) = True := by rw [iN_lt (by omega) (by omega)]; exact eq_true ci
        simp only [un6, fb_rd_split_9, nlit, hl1, hl2, List.length_nil, Nat.add_zero, ↓reduceIte]
      · have hl1 : (iN i < iN 300) = False := by rw [iN_lt (by omega) (by omega)]; exact eq_false ci
        simp only [un6, fb_rd_split_9, nlit, hl1, List.length_nil, Nat.add_zero, ↓reduceIte]
/-- all of them, the end behind -/
def RTE (kd st nu : Nat → Int32) (n : Nat) (L : List Tk) : Prop := RT kd st nu 0 L ∧ kd L.length = iN 0 ∧ st L.length = iN n ∧ nu L.length = iN 0
theorem C_split (h : TB by_ tp n B) {tk0 : Int32} {kd st nu : Nat → Int32} : ∃ kd' st' nu', f_rd_split (iN n) tk0 kd st nu by_ = some (iN ((tkL B n 0).length + 1), kd', st', nu') ∧ RTE kd' st' nu' n (tkL B n 0) := by
  have h1 := h.1
  obtain ⟨kd', st', nu', w1, w2, -⟩ := C_splitLoop h n 0 0 0 KF kd st nu (by omega) (by omega) (by omega) (by omega) (kf_lt (by omega))
  have hlen := tkL_len (B := B) (n := n) n 0 (by omega)
  rw [Nat.zero_add] at w1
  have ea := C_addTok (kd := kd') (st := st') (nu := nu') (k := (tkL B n 0).length) (by omega) (iN 0) (iN n) (iN 0)
  refine ⟨upd kd' (tkL B n 0).length (iN 0), upd st' (tkL B n 0).length (iN n), upd nu' (tkL B n 0).length (iN 0), ?_, ⟨fun j t ht => ?_, upd_same, upd_same, upd_same⟩⟩
  · simp only [f_rd_split, fj_rd_split_89, nlit, w1, un4, ea, Option.bind_some]
  · have hj : j < (tkL B n 0).length := (List.getElem?_eq_some_iff.mp ht).1
    have := w2 j t ht
    rw [Nat.zero_add] at this ⊢
    rw [upd_ne (by omega), upd_ne (by omega), upd_ne (by omega)]
    exact this
end
