theorem dnI_up {p : Nat} : dnI p + iN 1 = iN p := by
  unfold dnI
  by_cases h : p = 0
  · subst h; rfl
  · rw [if_neg h, iN_add]; congr 1; omega
theorem dnI_lt {p : Nat} (hp : p < 1000) : (dnI p < iN 191) = (p < 192) := by
  unfold dnI
  by_cases h : p = 0
  · subst h; exact propext ⟨fun _ => by decide, fun _ => by decide⟩
  · rw [if_neg h, iN_lt (by omega) (by omega)]; exact propext ⟨fun _ => by omega, fun _ => by omega⟩
section
variable {x : Cx} {a texts : Nat → Int32} {book : List (Option (Bool × Nat × Nat))}
theorem M_stepBook (hx : CxOK x) (hm : MX a texts x) (hk1 : ∀ k, book[k]? = some none → a (125 + 3 * k + 1) = mI) (hk2 : ∀ (k : Nat) (q : Bool × Nat × Nat), book[k]? = some (some q) → a (125 + 3 * k) = b01 q.1 ∧ a (125 + 3 * k + 1) = iN q.2.1 ∧ a (125 + 3 * k + 2) = iN q.2.2) (hlen : book.length ≤ 6) (hq8 : ∀ q ∈ book, ∀ z, q = some z → z.2.1 < 8 ∧ z.2.2 < x.2.1) {k : Nat} {q : Option (Bool × Nat × Nat)} (hk : book[k]? = some q) {t : Tn} (ht : TW t) : ∀ (m p n : Nat) (b0 : Int32) (d named truth tried : Nat → Int32) (values : Nat → Int64), p + m = 192 → m < n → tried k = dnI p → MT d (35 * (2 + k)) t →
    ∃ b' d' n' v' t1 tr, (∀ j, j < 35 * (3 + k) → d' j = d j) ∧ (∀ j, j ≠ k → tr j = tried j) ∧
      ((itr (un6 (fb_m_stepBook_0 a texts (iN k))) n (b0, d, named, values, truth, tried) = some (.inr (b', d', n', v', t1, tr)) ∧ ∀ j, p ≤ j → j < 192 → nxW x q t (j / 24) (j / 8 % 3) (j % 8) = none) ∨
      ∃ p' t', p ≤ p' ∧ p' < 192 ∧ itr (un6 (fb_m_stepBook_0 a texts (iN k))) n (b0, d, named, values, truth, tried) = some (.inl (b', d', n', v', t1, tr)) ∧ (∀ j, p ≤ j → j < p' → nxW x q t (j / 24) (j / 8 % 3) (j % 8) = none) ∧ nxW x q t (p' / 24) (p' / 8 % 3) (p' % 8) = some t' ∧ tr k = dnI (p' + 1) ∧ MT d' (35 * (3 + k)) t')
  | 0, p, n, b0, d, named, truth, tried, values, hp, hn, htr, hd => by
    have hkl := (List.getElem?_eq_some_iff.mp hk).1
    obtain ⟨n, rfl⟩ : ∃ z, n = z + 1 := ⟨n - 1, by omega⟩
    refine ⟨b0, d, named, values, truth, tried, fun _ _ => rfl, fun _ _ => rfl, Or.inl ⟨itr_end ?_, fun j h1 h2 => by omega⟩⟩
    simp (disch := omega) only [un6, fb_m_stepBook_0, htr, dnI_lt, nlit, onl, negone, iN_add, iN_mul, iN_sub, iN_pm, iN_addneg, iN_ix, iN_inb, iN_lt, iN_eq, iN_nneg, iN_nm, nm_iN, mI_neg, mI_nnn, ne_eq, not_true_eq_false, not_false_eq_true, true_and, and_true, bnd, Option.bind_some, ↓reduceIte, ltT, ltF, eqT, eqF, leT, leF]
  | m + 1, p, n, b0, d, named, truth, tried, values, hp, hn, htr, hd => by
    have hkl := (List.getElem?_eq_some_iff.mp hk).1
    obtain ⟨n, rfl⟩ : ∃ z, n = z + 1 := ⟨n - 1, by omega⟩
    obtain ⟨d1, c1, c2, c3⟩ := M_copyT (i := 2 + k) (j := 3 + k) hd ht (by omega) (by omega) (by omega)
    obtain ⟨d2, n2, v2, t2, e1, e2, e3⟩ := M_isSo (named := named) (values := values) (truth := truth) (w := p / 24) (g := p / 8 % 3) (i := p % 8) hx hm hk1 hk2 hlen hq8 hk c2 (by omega) ht (by omega) (by omega) (by omega)
    have hfr : ∀ j, j < 35 * (3 + k) → d2 j = d j := fun j hj => (e3 j (Or.inl hj)).trans (c3 j (Or.inl hj))
    have hd2 : MT d2 (35 * (2 + k)) t := hd.moved ht (fun j hj => by rw [hfr _ (by omega)])
    have body : ∀ (rr : Int32), f_m_isSo (iN (35 * (3 + k))) a d1 texts named values truth (iN k) (iN (p / 24)) (iN (p / 8 % 3)) (iN (p % 8)) = some (rr, d2, n2, v2, t2) → un6 (fb_m_stepBook_0 a texts (iN k)) (b0, d, named, values, truth, tried) = if rr = iN 0 then some (.inl (iN (35 * (3 + k)), d2, n2, v2, t2, upd tried k (iN p))) else some (.inr (.inl (iN (35 * (3 + k)), d2, n2, v2, t2, upd tried k (iN p)))) := by
      intro rr hrr
      simp (disch := omega) only [un6, fb_m_stepBook_0, htr, dnI_lt, dnI_up, upd_same, f_m_tries, iN_div, iN_rem, c1, hrr, un5, nlit, onl, negone, iN_add, iN_mul, iN_sub, iN_pm, iN_addneg, iN_ix, iN_inb, iN_lt, iN_eq, iN_nneg, iN_nm, nm_iN, mI_neg, mI_nnn, ne_eq, not_true_eq_false, not_false_eq_true, true_and, and_true, bnd, Option.bind_some, ↓reduceIte, ltT, ltF, eqT, eqF, leT, leF]
    have hb := body _ e1
    cases hnx : nxW x q t (p / 24) (p / 8 % 3) (p % 8) with
    | none =>
      rw [hnx, Option.isSome_none, if_pos (show b01 false = iN 0 from rfl)] at hb
      obtain ⟨b', d', n', v', t1, tr, f1, f2, f3⟩ := M_stepBook hx hm hk1 hk2 hlen hq8 hk ht m (p + 1) n (iN (35 * (3 + k))) d2 n2 t2 (upd tried k (iN p)) v2 (by omega) (by omega) (by rw [upd_same]; exact dnI_S.symm) hd2
      refine ⟨b', d', n', v', t1, tr, fun j hj => (f1 j hj).trans (hfr j hj), fun j hj => by rw [f2 j hj, upd_ne hj], ?_⟩
      rw [itr_step hb]
      rcases f3 with ⟨g1, g2⟩ | ⟨p', t', g1, g2, g3, g4, g5⟩
      · refine Or.inl ⟨g1, fun j h1 h2 => ?_⟩
        by_cases hj : j = p
        · rw [hj]; exact hnx
        · exact g2 j (by omega) h2
      · refine Or.inr ⟨p', t', by omega, g2, g3, fun j h1 h2 => ?_, g5⟩
        by_cases hj : j = p
        · rw [hj]; exact hnx
        · exact g4 j (by omega) h2
    | some t' =>
      rw [hnx, Option.isSome_some, if_neg (show ¬ b01 true = iN 0 by decide)] at hb
      rw [hnx] at e2
      exact ⟨_, d2, n2, v2, t2, _, hfr, fun j hj => upd_ne hj, Or.inr ⟨p, t', Nat.le_refl _, by omega, itr_end hb, fun j h1 h2 => by omega, hnx, by rw [upd_same]; exact dnI_S.symm, e2⟩⟩
def stF (x : Cx) (q : Option (Bool × Nat × Nat)) (r : List (Option (Bool × Nat × Nat))) (t : Tn) : Nat → Ac → Ac := fun k ac => match nxW x q t (k / 24) (k / 8 % 3) (k % 8) with
  | none => ac
  | some t' => wyF x r t' ac
def NBs : Nat → Nat
  | 0 => 1
  | r + 1 => 193 * (NBs r + 2)
theorem M_walk (hx : CxOK x) (hm : MX a texts x) (h7 : a 7 = iN book.length) (hk1 : ∀ k, book[k]? = some none → a (125 + 3 * k + 1) = mI) (hk2 : ∀ (k : Nat) (q : Bool × Nat × Nat), book[k]? = some (some q) → a (125 + 3 * k) = b01 q.1 ∧ a (125 + 3 * k + 1) = iN q.2.1 ∧ a (125 + 3 * k + 2) = iN q.2.2) (hlen : book.length ≤ 6) (hq8 : ∀ q ∈ book, ∀ z, q = some z → z.2.1 < 8 ∧ z.2.2 < x.2.1) : ∀ (r k : Nat), k + r = book.length → ∀ (b0 c : Int32) (d named truth tried my pa : Nat → Int32) (values : Nat → Int64) (t : Tn) (ac : Ac), tried k = dnI 0 → MT d (35 * (2 + k)) t → TW t → MAc c my pa ac →
    ∃ N b' c' d' n' v' t1 tr my' pa', 0 < N ∧ N ≤ NBs r ∧ stps (un10 (fb_m_findWays_62 a texts)) N (iN k, b0, c, d, named, values, truth, tried, my, pa) (iN k + mI, b', c', d', n', v', t1, tr, my', pa') ∧ MAc c' my' pa' (wyF x (book.drop k) t ac) ∧ (∀ j, j < 35 * (3 + k) → d' j = d j) ∧ ∀ j, j < k → tr j = tried j
  | 0, k, hkr, b0, c, d, named, truth, tried, my, pa, values, t, ac, htr, hd, ht, hac => by
    have hk : k = book.length := hkr
    obtain ⟨c', my', pa', e1, e2⟩ := M_count (b := 35 * (2 + k)) hx hm.1 hm.2.1 hac hd (by omega) ht
    refine ⟨1, iN (35 * (2 + k)), c', d, named, values, truth, tried, my', pa', by decide, by decide, stps_one ?_, ?_, fun _ _ => rfl, fun _ _ => rfl⟩
    · have h7' : (iN k = a 7) = True := by rw [h7, hk]; exact eq_true rfl
      have h0 : (iN k < iN 0) = False := iN_nneg (by omega)
      have e1' : f_m_count (iN 35 * (iN 2 + iN k)) c a d my pa = some (c', my', pa') := by rw [iN_add, iN_mul]; exact e1
      simp only [un10, fb_m_findWays_62, h0, h7', f_m_tries, nlit, negone, e1', un3, Option.bind_some, ↓reduceIte, iN_add, iN_mul]
      rw [e1]; rfl
    · rw [hk, List.drop_length]; exact e2
  | r + 1, k, hkr, b0, c, d, named, truth, tried, my, pa, values, t, ac, htr, hd, ht, hac => by
    have hlt : k < book.length := by omega
    have hk : book[k]? = some book[k] := List.getElem?_eq_getElem hlt
    have hdr : book.drop k = book[k] :: book.drop (k + 1) := List.drop_eq_getElem_cons hlt
    have h0 : (iN k < iN 0) = False := iN_nneg (by omega)
    have h7' : (iN k = a 7) = False := by rw [h7, iN_eq (by omega) (by omega)]; exact eq_false (by omega)
    rw [hdr]
    have inner : ∀ (m p : Nat), p + m = 192 → ∀ (b0 c : Int32) (d named truth tried my pa : Nat → Int32) (values : Nat → Int64) (ac : Ac), tried k = dnI p → MT d (35 * (2 + k)) t → MAc c my pa ac → ∃ N b' c' d' n' v' t1 tr my' pa', 0 < N ∧ N ≤ (m + 1) * (NBs r + 2) ∧ stps (un10 (fb_m_findWays_62 a texts)) N (iN k, b0, c, d, named, values, truth, tried, my, pa) (iN k + mI, b', c', d', n', v', t1, tr, my', pa') ∧ MAc c' my' pa' (itF (fun j => stF x book[k] (book.drop (k + 1)) t (p + j)) m ac) ∧ (∀ j, j < 35 * (3 + k) → d' j = d j) ∧ ∀ j, j < k → tr j = tried j := by
      intro m
      induction m using Nat.strongRecOn with
      | _ m ihm =>
        intro p hp b0 c d named truth tried my pa values ac htr hd hac
        obtain ⟨b1, d1, n1, v1, t1, tr1, s1, s2, s3⟩ := M_stepBook hx hm hk1 hk2 hlen hq8 hk ht m p KF b0 d named truth tried values hp (kf_lt (by omega)) htr hd
        rcases s3 with ⟨g1, g2⟩ | ⟨p', t', g1, g2, g3, g4, g5, g6, g7⟩
        · have hsb : f_m_stepBook b0 a d texts named values truth tried (iN k) = some (iN 0, b1, d1, n1, v1, t1, tr1) := by
            unfold f_m_stepBook; rw [g1]; rfl
          refine ⟨1, b1, c, d1, n1, v1, t1, tr1, my, pa, by decide, ?_, stps_one ?_, ?_, s1, fun j hj => s2 j (by omega)⟩
          · have : 1 * 2 ≤ (m + 1) * (NBs r + 2) := Nat.mul_le_mul (by omega) (by omega)
            omega
          · simp only [un10, fb_m_findWays_62, h0, h7', hsb, un7, nlit, negone, Option.bind_some, ↓reduceIte]
          · rw [itF_id m ac (fun j hj b => by
              show (match nxW x book[k] t ((p + j) / 24) ((p + j) / 8 % 3) ((p + j) % 8) with
                | none => b
                | some t' => wyF x (book.drop (k + 1)) t' b) = b
              rw [g2 (p + j) (by omega) (by omega)])]
            exact hac
        · have hsb : f_m_stepBook b0 a d texts named values truth tried (iN k) = some (iN 1, b1, d1, n1, v1, t1, tr1) := by
            unfold f_m_stepBook; rw [g3]; rfl
          have e10 : (iN 1 = iN 0) = False := eq_false (by decide)
          have step : un10 (fb_m_findWays_62 a texts) (iN k, b0, c, d, named, values, truth, tried, my, pa) = some (.inl (iN (k + 1), b1, c, d1, n1, v1, t1, upd tr1 (k + 1) mI, my, pa)) := by
            simp (disch := omega) only [un10, fb_m_findWays_62, h0, h7', hsb, un7, nlit, negone, e10, iN_add, iN_inb, iN_ix, ltT, bnd, Option.bind_some, ↓reduceIte]
          have hT' := nxW_TW hx ht g5
          obtain ⟨N1, b2, c2, d2, n2, v2, t2, tr2, my2, pa2, f0, f1, f2, f3, f4, f5⟩ := M_walk hx hm h7 hk1 hk2 hlen hq8 r (k + 1) (by omega) b1 c d1 n1 t1 (upd tr1 (k + 1) mI) my pa v1 t' ac upd_same (by rw [show 2 + (k + 1) = 3 + k by omega]; exact g7) hT' hac
          have htr2 : tr2 k = dnI (p' + 1) := by rw [f5 k (by omega), upd_ne (by omega)]; exact g6
          have hd2 : MT d2 (35 * (2 + k)) t := hd.moved ht (fun j hj => by rw [f4 _ (by omega), s1 _ (by omega)])
          obtain ⟨N2, b3, c3, d3, n3, v3, t3, tr3, my3, pa3, w0, w1, w2, w3, w4, w5⟩ := ihm (192 - (p' + 1)) (by omega) (p' + 1) (by omega) b2 c2 d2 n2 t2 tr2 my2 pa2 v2 _ htr2 hd2 f3
          have e3 : iN (k + 1) + mI = iN k := by rw [iN_pm (by omega), Nat.add_sub_cancel]
          rw [e3] at f2
          refine ⟨1 + (N1 + N2), b3, c3, d3, n3, v3, t3, tr3, my3, pa3, by omega, ?_, stps_trans 1 (N1 + N2) _ _ _ (stps_one step) (stps_trans N1 N2 _ _ _ f2 w2), ?_, fun j hj => by rw [w4 j hj, f4 j (by omega), s1 j hj], fun j hj => by rw [w5 j hj, f5 j (by omega), upd_ne (by omega), s2 j (by omega)]⟩
          · have : (192 - (p' + 1) + 1) * (NBs r + 2) ≤ m * (NBs r + 2) := Nat.mul_le_mul_right _ (by omega)
            rw [Nat.succ_mul]
            omega
          · have e4 : m = (p' - p) + (1 + (192 - (p' + 1))) := by omega
            have e5 : itF (fun j => stF x book[k] (book.drop (k + 1)) t (p + j)) m ac = itF (fun j => stF x book[k] (book.drop (k + 1)) t (p' + 1 + j)) (192 - (p' + 1)) (wyF x (book.drop (k + 1)) t' ac) := by
              rw [e4, itF_add, itF_add]
              rw [itF_id (p' - p) ac (fun j hj b => by
                show (match nxW x book[k] t ((p + j) / 24) ((p + j) / 8 % 3) ((p + j) % 8) with
                  | none => b
                  | some t' => wyF x (book.drop (k + 1)) t' b) = b
                rw [g4 (p + j) (by omega) (by omega)])]
              have e6 : itF (fun j => stF x book[k] (book.drop (k + 1)) t (p + (p' - p + j))) 1 ac = wyF x (book.drop (k + 1)) t' ac := by
                show stF x book[k] (book.drop (k + 1)) t (p + (p' - p + 0)) ac = _
                rw [show p + (p' - p + 0) = p' by omega]
                unfold stF
                rw [g5]
              rw [e6]
              refine itF_cg _ _ (fun j _ b => ?_)
              show stF x book[k] (book.drop (k + 1)) t (p + (p' - p + (1 + j))) b = stF x book[k] (book.drop (k + 1)) t (p' + 1 + j) b
              rw [show p + (p' - p + (1 + j)) = p' + 1 + j by omega]
            rw [e5]; exact w3
    obtain ⟨N, b', c', d', n', v', t1, tr, my', pa', w0, w1, w2, w3, w4, w5⟩ := inner 192 0 (by omega) b0 c d named truth tried my pa values ac htr hd hac
    refine ⟨N, b', c', d', n', v', t1, tr, my', pa', w0, w1, w2, ?_, w4, w5⟩
    have e : itF (fun j => stF x book[k] (book.drop (k + 1)) t (0 + j)) 192 ac = wyF x (book[k] :: book.drop (k + 1)) t ac := by
      show _ = itF (stF x book[k] (book.drop (k + 1)) t) 192 ac
      exact itF_cg _ _ (fun j _ b => by rw [Nat.zero_add])
    rw [← e]; exact w3
end
