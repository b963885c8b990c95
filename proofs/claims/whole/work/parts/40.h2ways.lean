section
variable {x : Cx} {pe ga hr rl cL sz tk fe kz : Int32} {lot born cd kd fr to kc : Nat → Int32} {ru : Nat} {book : List (Option (Bool × Nat × Nat))}
def PF (x : Cx) (pe ga hr rl cL sz tk kz : Int32) (lot born cd kd fr to kc : Nat → Int32) (ru : Nat) (book : List (Option (Bool × Nat × Nat))) (n line : Nat) : Prop := ∀ (c : Int32) (pl : Nat → Int32) (pa : Nat → Nat → Int32) (names sizes values stack : Nat → Int32) (heaps : Nat → Nat → Int32) (t : Tn) (ac : Ac), CAc c pl pa ac → CT names sizes heaps t → TW t → ∃ c' pl' pa' s' h' n' v' st', (FG_ways_follow n).1 c pe ga hr rl pl pa kz sizes heaps names ru lot born kc values cL sz tk stack kd to fr cd (iN line) = some (c', pl', pa', s', h', n', v', st') ∧ CAc c' pl' pa' (wyF x (book.drop line) t ac) ∧ CT n' s' h' t
theorem C_followIn (hx : CxOK x) (hb : CK kz kc book) (hlen : book.length ≤ 6) (hq8 : ∀ q ∈ book, ∀ z, q = some z → z.2.1 < 8 ∧ z.2.2 < x.2.1) {n line : Nat} {q : Option (Bool × Nat × Nat)} (hk : book[line]? = some q) (H : PF x pe ga hr rl cL sz tk kz lot born cd kd fr to kc ru book n (line + 1)) {c : Int32} {pl : Nat → Int32} {pa : Nat → Nat → Int32} {names sizes values stack : Nat → Int32} {heaps : Nat → Nat → Int32} {t : Tn} {ac : Ac} (hac : CAc c pl pa ac) (hd : CT names sizes heaps t) (ht : TW t) {w g k m : Nat} (hw : w < 8) (hg : g < 3) (hn : t.1 w = none) (hm : (t.2 g)[k]? = some m) : ∃ c' pl' pa' s' h' n' v' st', (FG_ways_follow (n + 1)).2.2 c pe ga hr rl pl pa sizes heaps kz names ru lot born kc values cL sz tk stack kd to fr cd (iN line) (iN w) (iN g) (iN k) = some (c', pl', pa', s', h', n', v', st') ∧ CAc c' pl' pa' (if nOK q m = true then wyF x (book.drop (line + 1)) (inT t w g k m) ac else ac) ∧ CT n' s' h' t := by
  have hkl := (List.getElem?_eq_some_iff.mp hk).1
  have hl := C_isLost hb hlen hq8 hk
  have hnm := hd.nameAt ht hg hm
  have hm8 := (ht.2.1 g m (List.mem_of_getElem? hm)).2
  have h1 := hb.1
  obtain ⟨z1, h1', n1, e1, e2⟩ := hd.enter ht hg hw hn hm
  obtain ⟨c2, pl2, pa2, z2, h2, n2, v2, st2, f1, f2, f3⟩ := H c pl pa n1 z1 values stack h1' (inT t w g k m) ac hac e2 (ht.in hw hn hm)
  obtain ⟨n3, z3, h3, u1, u2⟩ := C_unpack (nm := n2) (sz := z2) (hp := h2) ht
  have hpk := C_packed hd ht
  have body : fj_ways_followIn_37 (FG_ways_follow n).1 (FG_ways_follow n).2.1 (FG_ways_follow n).2.2 c pe ga hr rl pl pa sizes heaps kz names ru lot born kc values cL sz tk stack kd to fr cd (iN line) (iN w) (iN g) (iN k) = some (c2, pl2, pa2, z3, h3, n3, v2, st2) := by
    simp only [fj_ways_followIn_37, hpk, e1, un4, nlit, iN_add, f1, un8, u1, un3, Option.bind_some]
  show ∃ c' pl' pa' s' h' n' v' st', fR_ways_followIn (FG_ways_follow n).1 (FG_ways_follow n).2.1 (FG_ways_follow n).2.2 c pe ga hr rl pl pa sizes heaps kz names ru lot born kc values cL sz tk stack kd to fr cd (iN line) (iN w) (iN g) (iN k) = _ ∧ _
  unfold fR_ways_followIn
  rw [hnm, Option.bind_some, hl, Option.bind_some]
  cases q with
  | none =>
    refine ⟨c2, pl2, pa2, z3, h3, n3, v2, st2, ?_, ?_, u2⟩
    · simp only [Option.isNone_none, nlit, bT0, ↓reduceIte, body]
    · rw [show nOK none m = true from rfl, if_pos rfl]; exact f2
  | some z =>
    have a1 : f_tri_at kz 18 kc (iN line) (iN 1) = some (iN z.2.1) := by rw [h1, tri_at hkl (by omega) (by omega) (by omega), (hb.2.2 line z hk).2.1]
    have hz := (hq8 _ (List.mem_of_getElem? hk) z rfl).1
    by_cases e : m = z.2.1
    · have e' : nOK (some z) m = true := by show (z.2.1 == m) = true; rw [e]; exact beq_self_eq_true _
      refine ⟨c2, pl2, pa2, z3, h3, n3, v2, st2, ?_, ?_, u2⟩
      · subst e
        simp only [Option.isNone_some, nlit, bF0, a1, ↓reduceIte, Option.bind_some, body]
      · rw [e', if_pos rfl]; exact f2
    · have e' : nOK (some z) m = false := by show (z.2.1 == m) = false; rw [beq_eq_false_iff_ne]; exact fun q => e q.symm
      refine ⟨c, pl, pa, sizes, heaps, names, values, stack, ?_, ?_, hd⟩
      · simp (disch := omega) only [Option.isNone_some, nlit, bF0, a1, iN_eq, eqF, ↓reduceIte, Option.bind_some]
      · rw [e', if_neg (by decide)]; exact hac
theorem C_followGoing (hx : CxOK x) (hcx : CX pe ga hr rl lot born ru cL sz tk fe cd kd fr to x) (hb : CK kz kc book) (hlen : book.length ≤ 6) (hq8 : ∀ q ∈ book, ∀ z, q = some z → z.2.1 < 8 ∧ z.2.2 < x.2.1) {N n line : Nat} {q : Option (Bool × Nat × Nat)} (hk : book[line]? = some q) (H : ∀ n, N ≤ n → PF x pe ga hr rl cL sz tk kz lot born cd kd fr to kc ru book n (line + 1)) (hNn : N ≤ n) {c : Int32} {pl : Nat → Int32} {pa : Nat → Nat → Int32} {names sizes values stack : Nat → Int32} {heaps : Nat → Nat → Int32} {t : Tn} {ac : Ac} (hac : CAc c pl pa ac) (hd : CT names sizes heaps t) (ht : TW t) {w g : Nat} (hw : w < x.1) (hg : g < x.2.1) (hgq : gOK q g = true) : ∃ c' pl' pa' n' s' h' v' st', (FG_ways_follow (n + 2)).2.1 c pe ga hr rl pl pa names kz ru sizes lot heaps born kc values cL sz tk stack kd to fr cd (iN line) (iN w) (iN g) = some (c', pl', pa', n', s', h', v', st') ∧ CAc c' pl' pa' (itF (goF x q (book.drop (line + 1)) t w g) 8 ac) ∧ CT n' s' h' t := by
  have hkl := (List.getElem?_eq_some_iff.mp hk).1
  have hw8 : w < 8 := by have := hx.1; omega
  have hg3 : g < 3 := by have := hx.2.1; omega
  have hmb := C_mayBeOf hb hlen hq8 hk hd ht hw8
  obtain ⟨v1, s1, e1⟩ := C_can (values := values) (stack := stack) hx hcx hd ht hw hg
  have hcond : w < x.1 ∧ g < x.2.1 ∧ gOK q g = true := ⟨hw, hg, hgq⟩
  have hl8 := ht.len g
  show ∃ c' pl' pa' n' s' h' v' st', fR_ways_followGoing (FG_ways_follow (n + 1)).1 (FG_ways_follow (n + 1)).2.1 (FG_ways_follow (n + 1)).2.2 c pe ga hr rl pl pa names kz ru sizes lot heaps born kc values cL sz tk stack kd to fr cd (iN line) (iN w) (iN g) = _ ∧ _
  unfold fR_ways_followGoing
  rw [hmb, Option.bind_some]
  -- nothing comes of it
  have idc : (∀ i, nxW x q t w g i = none) → itF (goF x q (book.drop (line + 1)) t w g) 8 ac = ac := fun h => itF_id 8 ac (fun i _ b => by unfold goF; rw [h i])
  cases hn : t.1 w with
  | some m =>
    have hm8 := (ht.1 w m hn).2
    have hnx : ∀ i, nxW x q t w g i = if i = 0 ∧ iOK q false = true ∧ nOK q m = true ∧ canS x t w g = true then some (outT t w g m) else none := by
      intro i; unfold nxW; rw [if_pos hcond, hn]
    cases hi : (iOK q false && nOK q m) with
    | false =>
      refine ⟨c, pl, pa, names, sizes, heaps, values, stack, by simp only [hi, nlit, bF0, ↓reduceIte], ?_, hd⟩
      rw [idc (fun i => by rw [hnx, if_neg (fun z => by rw [z.2.1, z.2.2.1] at hi; cases hi)])]
      exact hac
    | true =>
      rw [Bool.and_eq_true] at hi
      cases hc : canS x t w g with
      | false =>
        rw [hc] at e1
        refine ⟨c, pl, pa, names, sizes, heaps, v1, s1, by simp only [hi.1, hi.2, Bool.and_true, nlit, bT0, e1, un3, bF0, Option.bind_some, ↓reduceIte], ?_, hd⟩
        rw [idc (fun i => by rw [hnx, if_neg (fun z => by rw [hc] at z; exact absurd z.2.2.2 (by decide))])]
        exact hac
      | true =>
        rw [hc] at e1
        obtain ⟨n1, z1, h1, l1, l2⟩ := hd.leave ht hg3 hn
        obtain ⟨c2, pl2, pa2, z2, h2, n2, v2, st2, f1, f2, f3⟩ := H (n + 1) (by omega) c pl pa n1 z1 v1 s1 h1 (outT t w g m) ac hac l2 (ht.out hn hg3)
        obtain ⟨n3, z3, h3, u1, u2⟩ := C_unpack (nm := n2) (sz := z2) (hp := h2) ht
        have hpk := C_packed hd ht
        have hna := hd.nameOf hw8
        rw [hn, enO_some] at hna
        refine ⟨c2, pl2, pa2, n3, z3, h3, v2, st2, ?_, ?_, u2⟩
        · simp (disch := omega) only [hi.1, hi.2, Bool.and_true, nlit, negone, bT0, e1, un3, hna, iN_nm, hpk, l1, un4, iN_add, f1, un8, u1, Option.bind_some, ↓reduceIte]
        · have e : itF (goF x q (book.drop (line + 1)) t w g) 8 ac = goF x q (book.drop (line + 1)) t w g 0 ac := itF_less (n := 1) (by decide) ac (fun i hi _ b => by
            unfold goF
            rw [hnx, if_neg (fun z => by omega)])
          rw [e]
          unfold goF
          rw [hnx, if_pos ⟨rfl, hi.1, hi.2, hc⟩]
          exact f2
  | none =>
    have hna := hd.nameOf hw8
    rw [hn, enO_none] at hna
    have hnx : ∀ i, nxW x q t w g i = if x.2.2.2.1 g = true then (if i < (t.2 g).length ∧ iOK q true = true ∧ canS x t w g = true ∧ nOK q ((t.2 g).getD i 0) = true then some (inT t w g i ((t.2 g).getD i 0)) else none) else (if i = 0 ∧ iOK q true = true ∧ canS x t w g = true ∧ nOK q ((t.2 g).getD (pickS x t w g) 0) = true then some (inT t w g (pickS x t w g) ((t.2 g).getD (pickS x t w g) 0)) else none) := by
      intro i; unfold nxW; rw [if_pos hcond, hn]
    cases hi : iOK q true with
    | false =>
      refine ⟨c, pl, pa, names, sizes, heaps, values, stack, by simp only [hi, nlit, bF0, ↓reduceIte], ?_, hd⟩
      rw [idc (fun i => by
        rw [hnx]
        split
        · rw [if_neg (fun z => by rw [hi] at z; exact absurd z.2.1 (by decide))]
        · rw [if_neg (fun z => by rw [hi] at z; exact absurd z.2.1 (by decide))])]
      exact hac
    | true =>
      cases hc : canS x t w g with
      | false =>
        rw [hc] at e1
        refine ⟨c, pl, pa, names, sizes, heaps, v1, s1, by simp only [hi, nlit, bT0, e1, un3, bF0, Option.bind_some, ↓reduceIte], ?_, hd⟩
        rw [idc (fun i => by
          rw [hnx]
          split
          · rw [if_neg (fun z => by rw [hc] at z; exact absurd z.2.2.1 (by decide))]
          · rw [if_neg (fun z => by rw [hc] at z; exact absurd z.2.2.1 (by decide))])]
        exact hac
      | true =>
        rw [hc] at e1
        have hne := can_ne hc hn
        have hlt := hcx.2.2.2.1 g hg3
        cases hlot : x.2.2.2.1 g with
        | false =>
          rw [hlot] at hlt
          obtain ⟨v2, s2, p1⟩ := C_pick (values := v1) (stack := s1) hx hcx hd ht hw8 hg3 hne
          obtain ⟨c2, pl2, pa2, z2, h2, n2, v3, st2, f1, f2, f3⟩ := C_followIn hx hb hlen hq8 hk (H n hNn) (values := v2) (stack := s2) hac hd ht hw8 hg3 hn (pick_at (x := x) (w := w) hne)
          refine ⟨c2, pl2, pa2, n2, z2, h2, v3, st2, ?_, ?_, f3⟩
          · simp (disch := omega) only [hi, nlit, negone, bT0, bF0, e1, un3, hna, hlt, iN_inb, iN_ix, ltT, p1, f1, un8, Option.bind_some, ↓reduceIte]
          · have e : itF (goF x q (book.drop (line + 1)) t w g) 8 ac = goF x q (book.drop (line + 1)) t w g 0 ac := itF_less (n := 1) (by decide) ac (fun i hi _ b => by
              unfold goF
              rw [hnx, if_neg (by rw [hlot]; decide), if_neg (fun z => by omega)])
            rw [e]
            unfold goF
            rw [hnx, if_neg (by rw [hlot]; decide)]
            by_cases hq : nOK q ((t.2 g).getD (pickS x t w g) 0) = true
            · rw [if_pos ⟨rfl, hi, hc, hq⟩]
              rw [if_pos hq] at f2; exact f2
            · rw [if_neg (fun z => hq z.2.2.2)]
              rw [if_neg hq] at f2; exact f2
        | true =>
          rw [hlot] at hlt
          obtain ⟨e, g1, g2⟩ := itr_itF (f := un9 (fb_ways_followGoing_101 (FG_ways_follow (n + 1)).1 (FG_ways_follow (n + 1)).2.1 (FG_ways_follow (n + 1)).2.2 pe ga hr rl kz ru lot born kc cL sz tk kd to fr cd (iN line) (iN w) (iN g) (iN (t.2 g).length))) (fun k s ac' => ∃ c pl pa nm sz' hp v st, s = (iN k, c, pl, pa, nm, sz', hp, v, st) ∧ CAc c pl pa ac' ∧ CT nm sz' hp t) (fun e ac' => CAc e.1 e.2.1 e.2.2.1 ac' ∧ CT e.2.2.2.1 e.2.2.2.2.1 e.2.2.2.2.2.1 t) (goF x q (book.drop (line + 1)) t w g) (N := (t.2 g).length) (fun k s ac' hkk hR => by
            obtain ⟨c, pl, pa, nm, sz', hp, v, st, rfl, q1, q2⟩ := hR
            have hkm : (t.2 g)[k]? = some ((t.2 g).getD k 0) := by rw [List.getD_eq_getElem?_getD, List.getElem?_eq_getElem hkk]; rfl
            obtain ⟨c2, pl2, pa2, z2, h2, n2, v3, st2, f1, f2, f3⟩ := C_followIn hx hb hlen hq8 hk (H n hNn) (values := v) (stack := st) q1 q2 ht hw8 hg3 hn hkm
            refine ⟨(iN (k + 1), c2, pl2, pa2, n2, z2, h2, v3, st2), ?_, c2, pl2, pa2, n2, z2, h2, v3, st2, rfl, ?_, f3⟩
            · simp (disch := omega) only [un9, fb_ways_followGoing_101, iN_lt, ltT, f1, un8, nlit, iN_add, Option.bind_some, ↓reduceIte]
            · unfold goF
              rw [hnx, if_pos hlot]
              by_cases hq : nOK q ((t.2 g).getD k 0) = true
              · rw [if_pos ⟨hkk, hi, hc, hq⟩]
                rw [if_pos hq] at f2; exact f2
              · rw [if_neg (fun z => hq z.2.2.2)]
                rw [if_neg hq] at f2; exact f2) (fun s ac' hR => by
            obtain ⟨c, pl, pa, nm, sz', hp, v, st, rfl, q1, q2⟩ := hR
            refine ⟨(c, pl, pa, nm, sz', hp, v, st), ?_, q1, q2⟩
            simp (disch := omega) only [un9, fb_ways_followGoing_101, iN_lt, ltF, ↓reduceIte]) (s := (iN 0, c, pl, pa, names, sizes, heaps, v1, s1)) (a := ac) (n := KF) ⟨c, pl, pa, names, sizes, heaps, v1, s1, rfl, hac, hd⟩ (kf_lt (by omega))
          obtain ⟨c2, pl2, pa2, n2, z2, h2, v3, st2⟩ := e
          refine ⟨c2, pl2, pa2, n2, z2, h2, v3, st2, ?_, ?_, g2.2⟩
          · simp (disch := omega) only [hi, nlit, negone, bT0, e1, un3, hna, hlt, hd.sizeOf hg3, iN_inb, iN_ix, ltT, g1, un8, Option.bind_some, ↓reduceIte]
          · rw [itF_less (n := (t.2 g).length) hl8 ac (fun i hi2 _ b => by
              unfold goF
              rw [hnx, if_pos hlot, if_neg (fun z => by omega)])]
            exact g2.1
theorem C_follow (hx : CxOK x) (hcx : CX pe ga hr rl lot born ru cL sz tk fe cd kd fr to x) (hb : CK kz kc book) (hlen : book.length ≤ 6) (hq8 : ∀ q ∈ book, ∀ z, q = some z → z.2.1 < 8 ∧ z.2.2 < x.2.1) : ∀ (m line : Nat), line + m = book.length → ∀ n, 1 + 3 * m ≤ n → PF x pe ga hr rl cL sz tk kz lot born cd kd fr to kc ru book n line
  | 0, line, hl, n, hn => by
    intro c pl pa names sizes values stack heaps t ac hac hd ht
    obtain ⟨n, rfl⟩ : ∃ z, n = z + 1 := ⟨n - 1, by omega⟩
    obtain ⟨c', pl', pa', e1, e2⟩ := C_tellEnd (pe := pe) (ga := ga) hx hcx.1 hcx.2.1 hac hd ht
    refine ⟨c', pl', pa', sizes, heaps, names, values, stack, ?_, ?_, hd⟩
    · show fR_ways_follow (FG_ways_follow n).1 (FG_ways_follow n).2.1 (FG_ways_follow n).2.2 _ _ _ _ _ _ _ _ _ _ _ _ _ _ _ _ _ _ _ _ _ _ _ _ _ = _
      rw [hb.1]
      have hl : line = book.length := hl
      simp (disch := omega) only [fR_ways_follow, fj_ways_follow_20, iN_lt, ltF, ↓reduceIte, e1, un3, Option.bind_some]
    · rw [List.drop_eq_nil_of_le (by omega)]; exact e2
  | m + 1, line, hl, n, hn => by
    intro c pl pa names sizes values stack heaps t ac hac hd ht
    obtain ⟨n, rfl⟩ : ∃ z, n = z + 3 := ⟨n - 3, by omega⟩
    have H := C_follow hx hcx hb hlen hq8 m (line + 1) (by omega)
    have hlt : line < book.length := by omega
    have hk : book[line]? = some book[line] := List.getElem?_eq_getElem hlt
    have hdr : book.drop line = book[line] :: book.drop (line + 1) := List.drop_eq_getElem_cons hlt
    have hls := C_isLost hb hlen hq8 hk
    have hx1 := hx.1
    have hx2 := hx.2.1
    rw [hdr, wyF_cons hx]
    obtain ⟨e, g1, g2⟩ := itr_itF (f := un9 (fb_ways_follow_27 (FG_ways_follow (n + 2)).1 (FG_ways_follow (n + 2)).2.1 (FG_ways_follow (n + 2)).2.2 pe ga hr rl kz ru lot born kc cL sz tk kd to fr cd (iN line))) (fun k s ac' => ∃ c pl pa sz' hp nm v st, s = (iN k, c, pl, pa, sz', hp, nm, v, st) ∧ CAc c pl pa ac' ∧ CT nm sz' hp t) (fun e ac' => CAc e.1 e.2.1 e.2.2.1 ac' ∧ CT e.2.2.2.2.2.1 e.2.2.2.1 e.2.2.2.2.1 t) (fun w => itF (fun g => itF (goF x book[line] (book.drop (line + 1)) t w g) 8) x.2.1) (N := x.1) (fun w s ac' hw hR => by
      obtain ⟨c, pl, pa, sz', hp, nm, v, st, rfl, q1, q2⟩ := hR
      obtain ⟨e, f1, f2⟩ := itr_itF (f := un9 (fb_ways_follow_40 (FG_ways_follow (n + 2)).1 (FG_ways_follow (n + 2)).2.1 (FG_ways_follow (n + 2)).2.2 pe ga hr rl kz ru lot born kc cL sz tk kd to fr cd (iN line) (iN w))) (fun k s ac' => ∃ c pl pa sz' hp nm v st, s = (iN k, c, pl, pa, sz', hp, nm, v, st) ∧ CAc c pl pa ac' ∧ CT nm sz' hp t) (fun e ac' => CAc e.1 e.2.1 e.2.2.1 ac' ∧ CT e.2.2.2.2.2.1 e.2.2.2.1 e.2.2.2.2.1 t) (fun g => itF (goF x book[line] (book.drop (line + 1)) t w g) 8) (N := x.2.1) (fun g s ac' hg hR => by
        obtain ⟨c, pl, pa, sz', hp, nm, v, st, rfl, q1, q2⟩ := hR
        have hlg : (iN g < ga) = True := by rw [hcx.2.1, iN_lt (by omega) (by omega)]; exact eq_true hg
        have go : gOK book[line] g = true → ∃ s', fj_ways_follow_75_40 (FG_ways_follow (n + 2)).1 (FG_ways_follow (n + 2)).2.1 (FG_ways_follow (n + 2)).2.2 c pe ga hr rl pl pa kz sz' hp nm ru lot born kc v cL sz tk st kd to fr cd (iN line) (iN w) (iN g) = some (.inl s') ∧ ∃ c pl pa sz' hp nm v st, s' = (iN (g + 1), c, pl, pa, sz', hp, nm, v, st) ∧ CAc c pl pa (itF (goF x book[line] (book.drop (line + 1)) t w g) 8 ac') ∧ CT nm sz' hp t := by
          intro hgo
          obtain ⟨c2, pl2, pa2, n2, z2, h2, v2, st2, k1, k2, k3⟩ := C_followGoing (N := 1 + 3 * m) hx hcx hb hlen hq8 hk H (show 1 + 3 * m ≤ n by omega) (values := v) (stack := st) q1 q2 ht hw hg hgo
          refine ⟨(iN (g + 1), c2, pl2, pa2, z2, h2, n2, v2, st2), ?_, c2, pl2, pa2, z2, h2, n2, v2, st2, rfl, k2, k3⟩
          simp only [fj_ways_follow_75_40, k1, un8, nlit, iN_add, Option.bind_some]
        cases hq : book[line] with
        | none =>
          rw [hq] at hls go
          obtain ⟨s', k1, k2⟩ := go rfl
          refine ⟨s', ?_, k2⟩
          simp only [un9, fb_ways_follow_40, hlg, hls, Option.isNone_none, nlit, bT0, k1, Option.bind_some, ↓reduceIte]
        | some z =>
          rw [hq] at hls go hk
          have hz := (hq8 _ (List.mem_of_getElem? hk) z rfl).2
          have a2 : f_tri_at kz 18 kc (iN line) (iN 2) = some (iN z.2.2) := by rw [hb.1, tri_at hlt (by omega) (by omega) (by omega), (hb.2.2 line z hk).2.2]
          by_cases e : g = z.2.2
          · obtain ⟨s', k1, k2⟩ := go (by show (z.2.2 == g) = true; rw [e]; exact beq_self_eq_true _)
            refine ⟨s', ?_, k2⟩
            have eg : (iN g = iN z.2.2) = True := by rw [e]; exact eq_true rfl
            simp only [un9, fb_ways_follow_40, hlg, hls, Option.isNone_some, nlit, bF0, a2, eg, k1, Option.bind_some, ↓reduceIte]
          · refine ⟨(iN (g + 1), c, pl, pa, sz', hp, nm, v, st), ?_, c, pl, pa, sz', hp, nm, v, st, rfl, ?_, q2⟩
            · simp (disch := omega) only [un9, fb_ways_follow_40, hlg, hls, Option.isNone_some, nlit, bF0, a2, iN_eq, eqF, iN_add, Option.bind_some, ↓reduceIte]
            · rw [itF_id 8 ac' (fun i _ b => by
                unfold goF nxW
                rw [if_neg (fun z' => e (beq_iff_eq.mp z'.2.2).symm)])]
              exact q1) (fun s ac' hR => by
        obtain ⟨c, pl, pa, sz', hp, nm, v, st, rfl, q1, q2⟩ := hR
        refine ⟨(c, pl, pa, sz', hp, nm, v, st), ?_, q1, q2⟩
        have hlg : (iN x.2.1 < ga) = False := by rw [hcx.2.1, iN_lt (by omega) (by omega)]; exact eq_false (Nat.lt_irrefl _)
        simp only [un9, fb_ways_follow_40, hlg, ↓reduceIte]) (s := (iN 0, c, pl, pa, sz', hp, nm, v, st)) (a := ac') (n := KF) ⟨c, pl, pa, sz', hp, nm, v, st, rfl, q1, q2⟩ (kf_lt (by omega))
      obtain ⟨c2, pl2, pa2, z2, h2, n2, v2, st2⟩ := e
      refine ⟨(iN (w + 1), c2, pl2, pa2, z2, h2, n2, v2, st2), ?_, c2, pl2, pa2, z2, h2, n2, v2, st2, rfl, f2.1, f2.2⟩
      have hlw : (iN w < pe) = True := by rw [hcx.1, iN_lt (by omega) (by omega)]; exact eq_true hw
      simp only [un9, fb_ways_follow_27, hlw, nlit, f1, un8, iN_add, Option.bind_some, ↓reduceIte]) (fun s ac' hR => by
      obtain ⟨c, pl, pa, sz', hp, nm, v, st, rfl, q1, q2⟩ := hR
      refine ⟨(c, pl, pa, sz', hp, nm, v, st), ?_, q1, q2⟩
      have hlw : (iN x.1 < pe) = False := by rw [hcx.1, iN_lt (by omega) (by omega)]; exact eq_false (Nat.lt_irrefl _)
      simp only [un9, fb_ways_follow_27, hlw, ↓reduceIte]) (s := (iN 0, c, pl, pa, sizes, heaps, names, values, stack)) (a := ac) (n := KF) ⟨c, pl, pa, sizes, heaps, names, values, stack, rfl, hac, hd⟩ (kf_lt (by omega))
    obtain ⟨c2, pl2, pa2, z2, h2, n2, v2, st2⟩ := e
    refine ⟨c2, pl2, pa2, z2, h2, n2, v2, st2, ?_, g2.1, g2.2⟩
    show fR_ways_follow (FG_ways_follow (n + 2)).1 (FG_ways_follow (n + 2)).2.1 (FG_ways_follow (n + 2)).2.2 _ _ _ _ _ _ _ _ _ _ _ _ _ _ _ _ _ _ _ _ _ _ _ _ _ = _
    have hlz : (iN line < kz) = True := by rw [hb.1, iN_lt (by omega) (by omega)]; exact eq_true hlt
    have hl6 : (iN line < iN 6) = True := by rw [iN_lt (by omega) (by omega)]; exact eq_true (by omega)
    simp only [fR_ways_follow, hlz, nlit, hl6, g1, un8, Option.bind_some, ↓reduceIte]
end
