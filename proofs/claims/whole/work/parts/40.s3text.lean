/-! ===== PURE: text ===== -/
theorem ML.off {tx tx' : Nat → Int32} {k : Nat} {lw : Lw} (h : ML tx k lw) (hl : lw.length ≤ 20) (he : ∀ j, 680 * k ≤ j → j < 680 * k + 680 → tx' j = tx j) : ML tx' k lw := by
  refine ⟨by rw [he _ (by omega) (by omega)]; exact h.1, fun i c hc => ?_⟩
  have hi : i < lw.length := (List.getElem?_eq_some_iff.mp hc).1
  obtain ⟨a1, a2, a3⟩ := h.2 i c hc
  rw [he _ (by omega) (by omega), he _ (by omega) (by omega), he _ (by omega) (by omega)]
  refine ⟨a1, fun hn => ?_, a3⟩
  obtain ⟨s, b1, b2, b3, b4⟩ := a2 hn
  refine ⟨s, b1, b2, b3, fun j o hj => ?_⟩
  have hj2 : j < c.2.1.length := (List.getElem?_eq_some_iff.mp hj).1
  rw [he _ (by omega) (by omega), he _ (by omega) (by omega)]
  exact b4 j o hj
theorem MLs.off {tx tx' : Nat → Int32} {m T : Nat} {laws : Nat → Lw} (h : MLs tx m laws) (hT : m ≤ T) (ho : OT tx tx' T) : MLs tx' m laws := fun k hk => ⟨(h k hk).1.off (h k hk).2.1 (fun j h1 h2 => ho j (by omega)), (h k hk).2⟩
/-- a text more -/
def spText (s : Wd) : Wd := ((s.1.1, s.1.2.1, s.1.2.2.1, s.1.2.2.2.1 + 1, s.1.2.2.2.2.1, s.1.2.2.2.2.2), s.2)
theorem WOK.text {s : Wd} (h : WOK s) (h4 : s.1.2.2.2.1 < 4) : WOK (spText s) := by
  obtain ⟨⟨k1, k2, k3, k4, k5, k6⟩, k7⟩ := h
  exact ⟨⟨k1, k2, k3, by show s.1.2.2.2.1 + 1 ≤ 4; omega, fun r hr => by have := k5 r hr; show r < s.1.2.2.2.1 + 1; omega, k6⟩, k7⟩
theorem CL.copy {cL sz tk fe : Int32} {cd kd fr to cd0 kd0 fr0 to0 : Nat → Int32} {lw : Lw} (h : CL cL sz tk fe cd kd fr to lw) (hl : lw.length ≤ 20) : CL cL sz tk fe (va_cpy cd cd0 0 0 300) (va_cpy kd kd0 0 0 20) (va_cpy fr fr0 0 0 20) (va_cpy to to0 0 0 20) lw := by
  obtain ⟨h1, h2, h3, L, h4, h5, h6⟩ := h
  refine ⟨h1, h2, h3, L, h4, h5, fun i c hc => ?_⟩
  have hi : i < lw.length := (List.getElem?_eq_some_iff.mp hc).1
  obtain ⟨a1, a2, a3⟩ := h6 i c hc
  rw [cpy_in (show i < 20 by omega), cpy_in (show i < 20 by omega), cpy_in (show i < 20 by omega)]
  refine ⟨a1, fun hn => ?_, a3⟩
  obtain ⟨s, b1, b2, b3, b4⟩ := a2 hn
  refine ⟨s, b1, b2, b3, fun j o hj => ?_⟩
  have hj2 : j < c.2.1.length := (List.getElem?_eq_some_iff.mp hj).1
  rw [cpy_in (show s + j < 300 by omega)]
  exact b4 j o hj
section
variable {pe ga hr tx rl xx dz rz kz : Int32} {bo lo pa dn nm sz dc rc kc a : Nat → Int32} {hp : Nat → Nat → Int32} {s : Wd} {laws : Nat → Lw} {texts : Nat → Int32} {lcL llz ltk lfe : Int32} {lcd lkd lfr lto : Nat → Int32}
theorem J_text (hC : CW pe ga hr tx rl xx bo lo pa dn nm sz hp dz dc rz rc kz kc s) (hM : MA a s) (hok : WOK s) (hml : MLs texts s.1.2.2.2.1 laws) {ln td : Int32} {by_ tp : Nat → Int32} {n : Nat} (hTP : TP ln by_ td tp n) {hrd fa pl mf mp : Int32} (hFP : FP hrd fa pl mf mp) {ru : Nat} (hru : s.1.2.2.2.1 < 4 → ru = s.1.2.2.2.1) {tok at0 k0 al0 dcl dsz dtk dfe : Int32} {kinds starts numbers dcode dkinds dfrom dto pile : Nat → Int32} {a0 p0 t0 b0 x0 wr0 pi0 op0 wh0 so0 on0 : Int32} {wd0 : Int64} :
    ∃ r tx' ln' tok' hrd' fa' pl' at' k' al' kinds' starts' numbers' dcl' dsz' dtk' dfe' lcL' llz' ltk' lfe' dcode' dkinds' dfrom' dto' lcd' lkd' lfr' lto' td' mf' mp' a1 p1 t1 b1 wd1 x1 wr1 pi1 op1 wh1 so1 on1 a' texts' pile' n' s' laws', f_x_text tx ru ln tok hrd fa pl at0 k0 al0 kinds starts numbers by_ dcl dsz dtk dfe lcL llz ltk lfe dcode dkinds dfrom dto lcd lkd lfr lto = some (r, tx', ln', tok', hrd', fa', pl', at', k', al', kinds', starts', numbers', dcl', dsz', dtk', dfe', lcL', llz', ltk', lfe', dcode', dkinds', dfrom', dto', lcd', lkd', lfr', lto') ∧ f_m_text td mf mp a0 p0 t0 b0 wd0 x0 wr0 pi0 op0 wh0 so0 on0 a texts tp pile = some (r, td', mf', mp', a1, p1, t1, b1, wd1, x1, wr1, pi1, op1, wh1, so1, on1, a', texts', pile') ∧ TP ln' by_ td' tp n' ∧ FP hrd' fa' pl' mf' mp' ∧ CW pe ga hr tx' rl xx bo lo pa dn nm sz hp dz dc rz rc kz kc s' ∧ MA a' s' ∧ WOK s' ∧ s'.2.2.1 = s.2.2.1 ∧ MLs texts' s'.1.2.2.2.1 laws' ∧ s.1.2.2.2.1 ≤ s'.1.2.2.2.1 ∧ (∀ k, k < s.1.2.2.2.1 → laws' k = laws k) ∧
      ((s'.1.2.2.2.1 = s.1.2.2.2.1 ∧ lcL' = lcL ∧ llz' = llz ∧ ltk' = ltk ∧ lfe' = lfe ∧ lcd' = lcd ∧ lkd' = lkd ∧ lfr' = lfr ∧ lto' = lto) ∨ (s.1.2.2.2.1 < 4 ∧ s'.1.2.2.2.1 = s.1.2.2.2.1 + 1 ∧ CL lcL' llz' ltk' lfe' lcd' lkd' lfr' lto' (laws' s.1.2.2.2.1))) := by
  obtain ⟨⟨c1, c2, c3, c4, c5, c6⟩, cA, cT, cD, cR, cK⟩ := id hC
  obtain ⟨⟨m1, m2, m3, m4, m5, m6⟩, ⟨m7, m8, m9, m10⟩, ⟨m11, m12⟩, ⟨m13, m14⟩, ⟨m15, m16, m17⟩⟩ := id hM
  have h4 := hok.1.2.2.2.1
  have t0' : (tx < iN 0) = False := by rw [c4]; exact iN_nneg (by omega)
  by_cases c : s.1.2.2.2.1 < 4
  · have hTl : (tx < iN 4) = True := by rw [c4, iN_lt (by omega) (by omega)]; exact eq_true c
    have ha4 : (a 3 = iN 4) = False := by rw [m4, iN_eq (by omega) (by omega)]; exact eq_false (by omega)
    rcases J_tape (tok := tok) (hr := hrd) (fa := fa) (pl := pl) (at0 := at0) (k0 := k0) (al0 := al0) (dcl := dcl) (dsz := dsz) (dtk := dtk) (dfe := dfe) (kinds := kinds) (starts := starts) (numbers := numbers) (dcode := dcode) (dkinds := dkinds) (dfrom := dfrom) (dto := dto) (tx := texts) (pile := pile) (a0 := a0) (p0 := p0) (t0 := t0) (b0 := b0) (x0 := x0) (wr0 := wr0) (pi0 := pi0) (op0 := op0) (wh0 := wh0) (so0 := so0) (on0 := on0) (wd0 := wd0) hTP c m4 with ⟨lw, tok', at', k', al', cl', kinds', starts', numbers', code', kds', frs', tos', a1, p1, t1, b1, wd1, wr1, pi1, op1, wh1, so1, on1, tx1, pile1, r1, r2, r3, r4, r5, r6⟩ | ⟨f, q, tok', at', k', al', kinds', starts', numbers', cl', sz', tk', fe', code', kds', frs', tos', a1, t1, b1, wd1, wr1, pi1, op1, wh1, so1, on1, tx1, pile1, r1, r2, r3, r4, r5⟩
    · have h10 : (iN 1 = iN 0) = False := eq_false (by decide)
      have hin : inb tx 4 = True := by rw [c4, iN_inb (by omega)]; exact eq_true c
      have hix : (ix tx = ru) = True := by rw [c4, iN_ix (by omega)]; exact eq_true (hru c).symm
      have htx1 : tx + iN 1 = iN (s.1.2.2.2.1 + 1) := by rw [c4]; exact iN_add
      have ha1 : a 3 + iN 1 = iN (s.1.2.2.2.1 + 1) := by rw [m4]; exact iN_add
      have hsub : iN (s.1.2.2.2.1 + 1) - iN 1 = iN s.1.2.2.2.1 := by rw [iN_sub (by omega)]; congr 1
      refine ⟨iN s.1.2.2.2.1, iN (s.1.2.2.2.1 + 1), iN 0, tok', iN 1, iN 0, mI, at', k', al', kinds', starts', numbers', cl', iN lw.length, enO (lw.findIdx? (fun c => c.1 == 0)), enO (lw.findIdx? (fun c => c.1 == 1)), cl', iN lw.length, enO (lw.findIdx? (fun c => c.1 == 0)), enO (lw.findIdx? (fun c => c.1 == 1)), code', kds', frs', tos', va_cpy code' lcd 0 0 300, va_cpy kds' lkd 0 0 20, va_cpy frs' lfr 0 0 20, va_cpy tos' lto 0 0 20, iN 0, iN 0, mI, a1, p1, t1, b1, wd1, iN (680 * s.1.2.2.2.1), wr1, pi1, op1, wh1, so1, on1, upd a 3 (iN (s.1.2.2.2.1 + 1)), tx1, pile1, 0, spText s, setF laws s.1.2.2.2.1 lw, ?_, ?_, ?_, ?_, ?_, ?_, hok.text c, rfl, ?_, ?_, ?_, Or.inr ⟨c, rfl, ?_⟩⟩
      · simp only [f_x_text, nlit, t0', hTl, r1, un20, h10, hin, hix, f_law_copyFrom, bnd, un8, htx1, Option.bind_some, ↓reduceIte]
        rw [c4]
      · simp only [f_m_text, nlit, ha4, r3, un15, fj_m_text_36, bnd, negone, upd_same, ha1, hsub, Option.bind_some, ↓reduceIte]
      · exact ⟨rfl, rfl, by decide, fun k hk => absurd hk (Nat.not_lt_zero _)⟩
      · exact Or.inr ⟨rfl, rfl, rfl⟩
      · exact ⟨⟨c1, c2, c3, rfl, c5, c6⟩, cA, cT, cD, cR, cK⟩
      · refine ⟨⟨?_, ?_, ?_, upd_same, ?_, ?_⟩, ⟨fun i hi => ?_, fun g hg => ?_, fun i hi => ?_, fun i hi => ?_⟩, ⟨?_, fun k q hq => ?_⟩, ⟨?_, fun k q hq => ?_⟩, ⟨?_, fun k hk => ?_, fun k q hq => ?_⟩⟩
        · rw [upd_ne (by omega)]; exact m1
        · rw [upd_ne (by omega)]; exact m2
        · rw [upd_ne (by omega)]; exact m3
        · rw [upd_ne (by omega)]; exact m5
        · rw [upd_ne (by omega)]; exact m6
        · rw [upd_ne (by omega)]; exact m7 i hi
        · rw [upd_ne (by omega)]; exact m8 g hg
        · rw [upd_ne (by omega)]; exact m9 i hi
        · rw [upd_ne (by omega)]; exact m10 i hi
        · rw [upd_ne (by omega)]; exact m11
        · rw [upd_ne (by omega), upd_ne (by omega), upd_ne (by omega)]; exact m12 k q hq
        · rw [upd_ne (by omega)]; exact m13
        · rw [upd_ne (by omega), upd_ne (by omega)]; exact m14 k q hq
        · rw [upd_ne (by omega)]; exact m15
        · rw [upd_ne (by omega)]; exact m16 k hk
        · rw [upd_ne (by omega), upd_ne (by omega), upd_ne (by omega)]; exact m17 k q hq
      · intro k hk
        have hk : k < s.1.2.2.2.1 + 1 := hk
        by_cases e : k = s.1.2.2.2.1
        · rw [e, setF_same]; exact ⟨r4, r5⟩
        · rw [setF_ne e]; exact (hml.off (Nat.le_refl _) r6) k (by omega)
      · show s.1.2.2.2.1 ≤ s.1.2.2.2.1 + 1; omega
      · intro k hk; exact setF_ne (by omega)
      · rw [setF_same]; exact r2.copy r5.1
    · have hf0 : (iN f = iN 0) = False := by rw [iN_eq (by omega) (by omega)]; exact eq_false r2
      refine ⟨mI, tx, iN 0, tok', iN 1, iN f, iN q, at', k', al', kinds', starts', numbers', cl', sz', tk', fe', lcL, llz, ltk, lfe, code', kds', frs', tos', lcd, lkd, lfr, lto, iN 0, iN f, iN q, a1, iN q, t1, b1, wd1, iN (680 * s.1.2.2.2.1), wr1, pi1, op1, wh1, so1, on1, a, tx1, pile1, 0, s, laws, ?_, ?_, ?_, ?_, hC, hM, hok, rfl, hml.off (Nat.le_refl _) r5, Nat.le_refl _, fun _ _ => rfl, Or.inl ⟨rfl, rfl, rfl, rfl, rfl, rfl, rfl, rfl, rfl⟩⟩
      · simp only [f_x_text, nlit, negone, t0', hTl, r1, un20, Option.bind_some, ↓reduceIte]
      · simp only [f_m_text, nlit, negone, ha4, r4, un15, hf0, fj_m_text_36, Option.bind_some, ↓reduceIte]
      · exact ⟨rfl, rfl, by decide, fun k hk => absurd hk (Nat.not_lt_zero _)⟩
      · exact Or.inr ⟨rfl, rfl, rfl⟩
  · have hTl : (tx < iN 4) = False := by rw [c4, iN_lt (by omega) (by omega)]; exact eq_false c
    have ha4 : (a 3 = iN 4) = True := by rw [m4]; exact eq_true (by rw [show s.1.2.2.2.1 = 4 by omega])
    refine ⟨mI, tx, ln, tok, hrd, fa, pl, at0, k0, al0, kinds, starts, numbers, dcl, dsz, dtk, dfe, lcL, llz, ltk, lfe, dcode, dkinds, dfrom, dto, lcd, lkd, lfr, lto, td, mf, mp, a0, p0, t0, b0, wd0, x0, wr0, pi0, op0, wh0, so0, on0, a, texts, pile, n, s, laws, ?_, ?_, hTP, hFP, hC, hM, hok, rfl, hml, Nat.le_refl _, fun _ _ => rfl, Or.inl ⟨rfl, rfl, rfl, rfl, rfl, rfl, rfl, rfl, rfl⟩⟩
    · simp only [f_x_text, nlit, negone, t0', hTl, ↓reduceIte]
    · simp only [f_m_text, nlit, negone, ha4, ↓reduceIte]
end
