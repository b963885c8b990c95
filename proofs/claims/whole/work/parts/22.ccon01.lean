theorem sK_rd_addToken : SK M_rd_addToken q_rd_addToken := sk_rd_addToken
set_option maxRecDepth 100000 in
set_option maxHeartbeats 4000000 in
theorem c_rd_addToken {d : Nat} {length_ : Int32} {tokens_ : Int32} {hasRead_ : Int32} {fault_ : Int32} {place_ : Int32} {at_ : Int32} {kind_ : Int32} {allowedNames_ : Int32} {kinds_ : Nat → Int32} {starts_ : Nat → Int32} {numbers_ : Nat → Int32} {l1 : Int32} {l2 : Int32} {l3 : Int32} {tokens_Z : Int32} {kinds_Z : Nat → Int32} {starts_Z : Nat → Int32} {numbers_Z : Nat → Int32} (hr : f_rd_addToken tokens_ kinds_ starts_ numbers_ l1 l2 l3 = some (tokens_Z, kinds_Z, starts_Z, numbers_Z)) : Ctr (d + 1) M_rd_addToken [.ref 0, .int l1, .int l2, .int l3] (h_rd_addToken length_ tokens_ hasRead_ fault_ place_ at_ kind_ allowedNames_ kinds_ starts_ numbers_) none (h_rd_addToken length_ tokens_Z hasRead_ fault_ place_ at_ kind_ allowedNames_ kinds_Z starts_Z numbers_Z) := by
  refine Ctr.start pn_rd [some (.ref 0), some (.int l1), some (.int l2), some (.int l3)] (Nat.le_of_ble_eq_true rfl) rfl ?_
  unfold f_rd_addToken at hr
  refine AJ.g sK_rd_addToken 0 5 (True) 9 [some (.ref 0), some (.int l1), some (.int l2), some (.int l3)] [.int 301, .int tokens_] (h_rd_addToken length_ tokens_ hasRead_ fault_ place_ at_ kind_ allowedNames_ kinds_ starts_ numbers_) rfl trivial ?_
  refine AJ.iF hr (SK.at sK_rd_addToken 5 rfl) 52 12 rfl rfl rfl (fun hr => ?_) (fun hr => ?_)
  · refine k_grd hr (fun g1 hr => ?_)
    refine AJ.g sK_rd_addToken 6 6 (inb tokens_ 301 ∧ True) 22 [some (.ref 0), some (.int l1), some (.int l2), some (.int l3)] [] (h_rd_addToken length_ tokens_ hasRead_ fault_ place_ at_ kind_ allowedNames_ (upd kinds_ (ix tokens_) l1) starts_ numbers_) rfl ⟨g1, trivial⟩ ?_
    replace hr := k_bnd hr
    generalize (upd kinds_ (ix tokens_) l1 : Nat → Int32) = kinds_2 at hr ⊢
    refine k_grd hr (fun g3 hr => ?_)
    refine AJ.g sK_rd_addToken 12 6 (inb tokens_ 301 ∧ True) 32 [some (.ref 0), some (.int l1), some (.int l2), some (.int l3)] [] (h_rd_addToken length_ tokens_ hasRead_ fault_ place_ at_ kind_ allowedNames_ kinds_2 (upd starts_ (ix tokens_) l2) numbers_) rfl ⟨g3, trivial⟩ ?_
    replace hr := k_bnd hr
    generalize (upd starts_ (ix tokens_) l2 : Nat → Int32) = starts_4 at hr ⊢
    refine k_grd hr (fun g5 hr => ?_)
    refine AJ.g sK_rd_addToken 18 6 (inb tokens_ 301 ∧ True) 42 [some (.ref 0), some (.int l1), some (.int l2), some (.int l3)] [] (h_rd_addToken length_ tokens_ hasRead_ fault_ place_ at_ kind_ allowedNames_ kinds_2 starts_4 (upd numbers_ (ix tokens_) l3)) rfl ⟨g5, trivial⟩ ?_
    replace hr := k_bnd hr
    generalize (upd numbers_ (ix tokens_) l3 : Nat → Int32) = numbers_6 at hr ⊢
    refine AJ.g sK_rd_addToken 24 6 (True) 52 [some (.ref 0), some (.int l1), some (.int l2), some (.int l3)] [] (h_rd_addToken length_ (tokens_ + 1) hasRead_ fault_ place_ at_ kind_ allowedNames_ kinds_2 starts_4 numbers_6) rfl trivial ?_
    cases hr
    exact AJ.xv (SK.at sK_rd_addToken 30 rfl) rfl
  · cases hr
    exact AJ.xv (SK.at sK_rd_addToken 30 rfl) rfl
theorem sK_rd_split : SK M_rd_split q_rd_split := sk_rd_split
set_option maxRecDepth 100000 in
set_option maxHeartbeats 4000000 in
theorem jt_rd_split_77_9 {d : Nat} {length_ : Int32} {tokens_ : Int32} {hasRead_ : Int32} {fault_ : Int32} {place_ : Int32} {at_ : Int32} {kind_ : Int32} {allowedNames_ : Int32} {kinds_ : Nat → Int32} {starts_ : Nat → Int32} {numbers_ : Nat → Int32} {bytes_ : Nat → Int32} {l2 : Int32} {l4 : Int32} {s0 : Int32} {s1 : Int32} {s2 : Int32} {rr : Option Value} {h0 hF : List va_E} {x : (Int32 × Int32 × Int32 × (Nat → Int32) × (Nat → Int32) × (Nat → Int32)) ⊕ (Int32 × (Nat → Int32) × (Nat → Int32) × (Nat → Int32))} (hr : fj_rd_split_77_9 length_ tokens_ kinds_ starts_ numbers_ bytes_ l2 l4 s0 s1 s2 = some x) (hx : Sum.elim (fun s : (Int32 × Int32 × Int32 × (Nat → Int32) × (Nat → Int32) × (Nat → Int32)) => AJ (M_rd_split, d + 7, rr, h0, hF) 9 [some (.ref 0), some (.int s.1), some (.int s.2.1)] [] (h_rd_split length_ s.2.2.1 hasRead_ fault_ place_ at_ kind_ allowedNames_ s.2.2.2.1 s.2.2.2.2.1 s.2.2.2.2.2 bytes_)) (fun s : (Int32 × (Nat → Int32) × (Nat → Int32) × (Nat → Int32)) => AJ (M_rd_split, d + 7, rr, h0, hF) 89 [some (.ref 0)] [] (h_rd_split length_ s.1 hasRead_ fault_ place_ at_ kind_ allowedNames_ s.2.1 s.2.2.1 s.2.2.2 bytes_)) x) : AJ (M_rd_split, d + 7, rr, h0, hF) 77 [some (.ref 0), none, some (.int l2), none, some (.int l4)] [.int s2, .int s1, .int s0, .ref 0] (h_rd_split length_ tokens_ hasRead_ fault_ place_ at_ kind_ allowedNames_ kinds_ starts_ numbers_ bytes_) := by
  unfold fj_rd_split_77_9 at hr
  refine k_b4 hr (fun tokens_6 kinds_7 starts_8 numbers_9 e10 hr => ?_)
  refine AJ.eV mk_rd_addToken (SK.at sK_rd_split 42 rfl) lk_4_98 (c_rd_addToken (length_ := length_) (tokens_ := tokens_) (hasRead_ := hasRead_) (fault_ := fault_) (place_ := place_) (at_ := at_) (kind_ := kind_) (allowedNames_ := allowedNames_) (kinds_ := kinds_) (starts_ := starts_) (numbers_ := numbers_) e10) [0, 1, 2, 3] [4, 5] [0, 1, 2, 3] [] 80 [] (h_rd_split length_ tokens_6 hasRead_ fault_ place_ at_ kind_ allowedNames_ kinds_7 starts_8 numbers_9 bytes_) rfl rfl rfl rfl rfl (by decide +kernel) rfl rfl rfl rfl rfl (Nat.le_of_ble_eq_true rfl) rfl rfl rfl ?_
  refine AJ.g sK_rd_split 43 2 (True) 83 [some (.ref 0), some (.int l4), some (.int l2), none, some (.int l4)] [] (h_rd_split length_ tokens_6 hasRead_ fault_ place_ at_ kind_ allowedNames_ kinds_7 starts_8 numbers_9 bytes_) rfl trivial ?_
  refine AJ.g sK_rd_split 45 2 (True) 9 [some (.ref 0), some (.int l4), some (.int (l2 + 1)), none, some (.int l4)] [] (h_rd_split length_ tokens_6 hasRead_ fault_ place_ at_ kind_ allowedNames_ kinds_7 starts_8 numbers_9 bytes_) rfl trivial ?_
  cases hr
  refine AJ.fg [true, true, true] [some (.ref 0), some (.int l4), some (.int (l2 + 1))] rfl ?_
  exact hx
set_option maxRecDepth 100000 in
set_option maxHeartbeats 4000000 in
theorem bt_rd_split_9 {d : Nat} {rr : Option Value} {h0 hF : List va_E} {length_ : Int32} {tokens_ : Int32} {hasRead_ : Int32} {fault_ : Int32} {place_ : Int32} {at_ : Int32} {kind_ : Int32} {allowedNames_ : Int32} {kinds_ : Nat → Int32} {starts_ : Nat → Int32} {numbers_ : Nat → Int32} {bytes_ : Nat → Int32} {l1 : Int32} {l2 : Int32} {x : (Int32 × Int32 × Int32 × (Nat → Int32) × (Nat → Int32) × (Nat → Int32)) ⊕ (Int32 × (Nat → Int32) × (Nat → Int32) × (Nat → Int32))} (hr : fb_rd_split_9 length_ bytes_ l1 l2 tokens_ kinds_ starts_ numbers_ = some x) (hx : Sum.elim (fun s : (Int32 × Int32 × Int32 × (Nat → Int32) × (Nat → Int32) × (Nat → Int32)) => AJ (M_rd_split, d + 7, rr, h0, hF) 9 [some (.ref 0), some (.int s.1), some (.int s.2.1)] [] (h_rd_split length_ s.2.2.1 hasRead_ fault_ place_ at_ kind_ allowedNames_ s.2.2.2.1 s.2.2.2.2.1 s.2.2.2.2.2 bytes_)) (fun s : (Int32 × (Nat → Int32) × (Nat → Int32) × (Nat → Int32)) => AJ (M_rd_split, d + 7, rr, h0, hF) 89 [some (.ref 0)] [] (h_rd_split length_ s.1 hasRead_ fault_ place_ at_ kind_ allowedNames_ s.2.1 s.2.2.1 s.2.2.2 bytes_)) x) : AJ (M_rd_split, d + 7, rr, h0, hF) 9 [some (.ref 0), some (.int l1), some (.int l2)] [] (h_rd_split length_ tokens_ hasRead_ fault_ place_ at_ kind_ allowedNames_ kinds_ starts_ numbers_ bytes_) := by
  unfold fb_rd_split_9 at hr
  refine AJ.g sK_rd_split 7 2 (True) 13 [some (.ref 0), some (.int l1), some (.int l2)] [.int 300, .int l2] (h_rd_split length_ tokens_ hasRead_ fault_ place_ at_ kind_ allowedNames_ kinds_ starts_ numbers_ bytes_) rfl trivial ?_
  refine AJ.iF hr (SK.at sK_rd_split 9 rfl) 89 16 rfl rfl rfl (fun hr => ?_) (fun hr => ?_)
  · refine AJ.g sK_rd_split 10 3 (True) 21 [some (.ref 0), some (.int l1), some (.int l2)] [.int length_, .int l1] (h_rd_split length_ tokens_ hasRead_ fault_ place_ at_ kind_ allowedNames_ kinds_ starts_ numbers_ bytes_) rfl trivial ?_
    refine AJ.iF hr (SK.at sK_rd_split 13 rfl) 89 24 rfl rfl rfl (fun hr => ?_) (fun hr => ?_)
    · refine AJ.g sK_rd_split 14 2 (True) 26 [some (.ref 0), some (.int l1), some (.int l2)] [.int l1, .ref 0] (h_rd_split length_ tokens_ hasRead_ fault_ place_ at_ kind_ allowedNames_ kinds_ starts_ numbers_ bytes_) rfl trivial ?_
      refine k_b1 hr (fun r1 e17 hr => ?_)
      refine AJ.eV mk_rd_byteAt (SK.at sK_rd_split 16 rfl) lk_4_77 (c_rd_byteAt (length_ := length_) (tokens_ := tokens_) (hasRead_ := hasRead_) (fault_ := fault_) (place_ := place_) (at_ := at_) (kind_ := kind_) (allowedNames_ := allowedNames_) (bytes_ := bytes_) e17) [0, 4] [1, 2, 3, 5] [] [] 29 [.int r1] (h_rd_split length_ tokens_ hasRead_ fault_ place_ at_ kind_ allowedNames_ kinds_ starts_ numbers_ bytes_) rfl rfl rfl rfl rfl (by decide +kernel) rfl rfl rfl rfl rfl (Nat.le_of_ble_eq_true rfl) rfl rfl rfl ?_
      refine AJ.g sK_rd_split 17 2 (True) 31 [some (.ref 0), some (.int l1), some (.int l2), some (.int r1)] [.int r1] (h_rd_split length_ tokens_ hasRead_ fault_ place_ at_ kind_ allowedNames_ kinds_ starts_ numbers_ bytes_) rfl trivial ?_
      refine k_b1 hr (fun r2 e16 hr => ?_)
      refine AJ.eS mk_rd_isBlank (SK.at sK_rd_split 19 rfl) lk_4_81 (c_rd_isBlank  e16) [] [] [] [] 34 [.int r2] (h_rd_split length_ tokens_ hasRead_ fault_ place_ at_ kind_ allowedNames_ kinds_ starts_ numbers_ bytes_) rfl rfl (by decide +kernel) rfl rfl rfl rfl rfl (Nat.le_of_ble_eq_true rfl) rfl rfl rfl ?_
      refine AJ.iT hr (SK.at sK_rd_split 20 rfl) 43 37 rfl rfl rfl (fun hr => ?_) (fun hr => ?_)
      · refine AJ.g sK_rd_split 23 2 (True) 45 [some (.ref 0), some (.int l1), some (.int l2), some (.int r1)] [.int l1, .ref 0] (h_rd_split length_ tokens_ hasRead_ fault_ place_ at_ kind_ allowedNames_ kinds_ starts_ numbers_ bytes_) rfl trivial ?_
        refine k_b1 hr (fun r3 e15 hr => ?_)
        refine AJ.eV mk_rd_endOfToken (SK.at sK_rd_split 25 rfl) lk_4_85 (c_rd_endOfToken (length_ := length_) (tokens_ := tokens_) (hasRead_ := hasRead_) (fault_ := fault_) (place_ := place_) (at_ := at_) (kind_ := kind_) (allowedNames_ := allowedNames_) (bytes_ := bytes_) e15) [0, 4] [1, 2, 3, 5] [] [] 48 [.int r3] (h_rd_split length_ tokens_ hasRead_ fault_ place_ at_ kind_ allowedNames_ kinds_ starts_ numbers_ bytes_) rfl rfl rfl rfl rfl (by decide +kernel) rfl rfl rfl rfl rfl (Nat.le_of_ble_eq_true rfl) rfl rfl rfl ?_
        refine AJ.g sK_rd_split 26 5 (True) 55 [some (.ref 0), some (.int l1), some (.int l2), some (.int r1), some (.int r3)] [.int r3, .int l1, .ref 0, .ref 0] (h_rd_split length_ tokens_ hasRead_ fault_ place_ at_ kind_ allowedNames_ kinds_ starts_ numbers_ bytes_) rfl trivial ?_
        refine k_b1 hr (fun r4 e14 hr => ?_)
        refine AJ.eV mk_rd_kindOfToken (SK.at sK_rd_split 31 rfl) lk_4_88 (c_rd_kindOfToken (length_ := length_) (tokens_ := tokens_) (hasRead_ := hasRead_) (fault_ := fault_) (place_ := place_) (at_ := at_) (kind_ := kind_) (allowedNames_ := allowedNames_) (bytes_ := bytes_) e14) [0, 4] [1, 2, 3, 5] [] [.ref 0] 58 [.int r4, .ref 0] (h_rd_split length_ tokens_ hasRead_ fault_ place_ at_ kind_ allowedNames_ kinds_ starts_ numbers_ bytes_) rfl rfl rfl rfl rfl (by decide +kernel) rfl rfl rfl rfl rfl (Nat.le_of_ble_eq_true rfl) rfl rfl rfl ?_
        refine AJ.g sK_rd_split 32 2 (True) 60 [some (.ref 0), some (.int l1), some (.int l2), some (.int r1), some (.int r3)] [.int r1, .int l1, .int r4, .ref 0] (h_rd_split length_ tokens_ hasRead_ fault_ place_ at_ kind_ allowedNames_ kinds_ starts_ numbers_ bytes_) rfl trivial ?_
        refine k_b1 hr (fun r5 e13 hr => ?_)
        refine AJ.eS mk_rd_isDigit (SK.at sK_rd_split 34 rfl) lk_4_92 (c_rd_isDigit  e13) [] [] [] [.int l1, .int r4, .ref 0] 63 [.int r5, .int l1, .int r4, .ref 0] (h_rd_split length_ tokens_ hasRead_ fault_ place_ at_ kind_ allowedNames_ kinds_ starts_ numbers_ bytes_) rfl rfl (by decide +kernel) rfl rfl rfl rfl rfl (Nat.le_of_ble_eq_true rfl) rfl rfl rfl ?_
        refine AJ.iT hr (SK.at sK_rd_split 35 rfl) 76 66 rfl rfl rfl (fun hr => ?_) (fun hr => ?_)
        · refine AJ.g sK_rd_split 41 1 (True) 77 [some (.ref 0), some (.int l1), some (.int l2), some (.int r1), some (.int r3)] [.int 0, .int l1, .int r4, .ref 0] (h_rd_split length_ tokens_ hasRead_ fault_ place_ at_ kind_ allowedNames_ kinds_ starts_ numbers_ bytes_) rfl trivial ?_
          refine AJ.fg [true, false, true, false, true] [some (.ref 0), none, some (.int l2), none, some (.int r3)] rfl ?_
          exact jt_rd_split_77_9 hr hx
        · refine AJ.g sK_rd_split 36 3 (True) 70 [some (.ref 0), some (.int l1), some (.int l2), some (.int r1), some (.int r3)] [.int r3, .int l1, .ref 0, .int l1, .int r4, .ref 0] (h_rd_split length_ tokens_ hasRead_ fault_ place_ at_ kind_ allowedNames_ kinds_ starts_ numbers_ bytes_) rfl trivial ?_
          refine k_b1 hr (fun r11 e12 hr => ?_)
          refine AJ.eV mk_rd_numberOf (SK.at sK_rd_split 39 rfl) lk_4_95 (c_rd_numberOf (length_ := length_) (tokens_ := tokens_) (hasRead_ := hasRead_) (fault_ := fault_) (place_ := place_) (at_ := at_) (kind_ := kind_) (allowedNames_ := allowedNames_) (bytes_ := bytes_) e12) [0, 4] [1, 2, 3, 5] [] [.int l1, .int r4, .ref 0] 73 [.int r11, .int l1, .int r4, .ref 0] (h_rd_split length_ tokens_ hasRead_ fault_ place_ at_ kind_ allowedNames_ kinds_ starts_ numbers_ bytes_) rfl rfl rfl rfl rfl (by decide +kernel) rfl rfl rfl rfl rfl (Nat.le_of_ble_eq_true rfl) rfl rfl rfl ?_
          refine AJ.g sK_rd_split 40 1 (True) 77 [some (.ref 0), some (.int l1), some (.int l2), some (.int r1), some (.int r3)] [.int r11, .int l1, .int r4, .ref 0] (h_rd_split length_ tokens_ hasRead_ fault_ place_ at_ kind_ allowedNames_ kinds_ starts_ numbers_ bytes_) rfl trivial ?_
          refine AJ.fg [true, false, true, false, true] [some (.ref 0), none, some (.int l2), none, some (.int r3)] rfl ?_
          exact jt_rd_split_77_9 hr hx
      · refine AJ.g sK_rd_split 21 2 (True) 83 [some (.ref 0), some (.int (l1 + 1)), some (.int l2), some (.int r1)] [] (h_rd_split length_ tokens_ hasRead_ fault_ place_ at_ kind_ allowedNames_ kinds_ starts_ numbers_ bytes_) rfl trivial ?_
        refine AJ.g sK_rd_split 45 2 (True) 9 [some (.ref 0), some (.int (l1 + 1)), some (.int (l2 + 1)), some (.int r1)] [] (h_rd_split length_ tokens_ hasRead_ fault_ place_ at_ kind_ allowedNames_ kinds_ starts_ numbers_ bytes_) rfl trivial ?_
        cases hr
        refine AJ.fg [true, true, true] [some (.ref 0), some (.int (l1 + 1)), some (.int (l2 + 1))] rfl ?_
        exact hx
    · cases hr
      refine AJ.fg [true] [some (.ref 0)] rfl ?_
      exact hx
  · cases hr
    refine AJ.fg [true] [some (.ref 0)] rfl ?_
    exact hx
set_option maxRecDepth 100000 in
set_option maxHeartbeats 4000000 in
theorem jt_rd_split_89 {d : Nat} {length_ : Int32} {tokens_ : Int32} {hasRead_ : Int32} {fault_ : Int32} {place_ : Int32} {at_ : Int32} {kind_ : Int32} {allowedNames_ : Int32} {kinds_ : Nat → Int32} {starts_ : Nat → Int32} {numbers_ : Nat → Int32} {bytes_ : Nat → Int32}   {h0 : List va_E} {tokens_Z : Int32} {kinds_Z : Nat → Int32} {starts_Z : Nat → Int32} {numbers_Z : Nat → Int32} (hr : fj_rd_split_89 length_ tokens_ kinds_ starts_ numbers_ = some (tokens_Z, kinds_Z, starts_Z, numbers_Z)) : AJ (M_rd_split, d + 7, none, h0, (h_rd_split length_ tokens_Z hasRead_ fault_ place_ at_ kind_ allowedNames_ kinds_Z starts_Z numbers_Z bytes_)) 89 [some (.ref 0)] [] (h_rd_split length_ tokens_ hasRead_ fault_ place_ at_ kind_ allowedNames_ kinds_ starts_ numbers_ bytes_) := by
  unfold fj_rd_split_89 at hr
  refine AJ.g sK_rd_split 47 5 (True) 96 [some (.ref 0)] [.int 0, .int length_, .int 0, .ref 0] (h_rd_split length_ tokens_ hasRead_ fault_ place_ at_ kind_ allowedNames_ kinds_ starts_ numbers_ bytes_) rfl trivial ?_
  refine k_b4 hr (fun tokens_22 kinds_23 starts_24 numbers_25 e26 hr => ?_)
  refine AJ.eV mk_rd_addToken (SK.at sK_rd_split 52 rfl) lk_4_98 (c_rd_addToken (length_ := length_) (tokens_ := tokens_) (hasRead_ := hasRead_) (fault_ := fault_) (place_ := place_) (at_ := at_) (kind_ := kind_) (allowedNames_ := allowedNames_) (kinds_ := kinds_) (starts_ := starts_) (numbers_ := numbers_) e26) [0, 1, 2, 3] [4, 5] [0, 1, 2, 3] [] 99 [] (h_rd_split length_ tokens_22 hasRead_ fault_ place_ at_ kind_ allowedNames_ kinds_23 starts_24 numbers_25 bytes_) rfl rfl rfl rfl rfl (by decide +kernel) rfl rfl rfl rfl rfl (Nat.le_of_ble_eq_true rfl) rfl rfl rfl ?_
  cases hr
  exact AJ.xv (SK.at sK_rd_split 53 rfl) rfl
set_option maxRecDepth 100000 in
set_option maxHeartbeats 4000000 in
theorem c_rd_split {d : Nat} {length_ : Int32} {tokens_ : Int32} {hasRead_ : Int32} {fault_ : Int32} {place_ : Int32} {at_ : Int32} {kind_ : Int32} {allowedNames_ : Int32} {kinds_ : Nat → Int32} {starts_ : Nat → Int32} {numbers_ : Nat → Int32} {bytes_ : Nat → Int32}  {tokens_Z : Int32} {kinds_Z : Nat → Int32} {starts_Z : Nat → Int32} {numbers_Z : Nat → Int32} (hr : f_rd_split length_ tokens_ kinds_ starts_ numbers_ bytes_ = some (tokens_Z, kinds_Z, starts_Z, numbers_Z)) : Ctr (d + 7) M_rd_split [.ref 0] (h_rd_split length_ tokens_ hasRead_ fault_ place_ at_ kind_ allowedNames_ kinds_ starts_ numbers_ bytes_) none (h_rd_split length_ tokens_Z hasRead_ fault_ place_ at_ kind_ allowedNames_ kinds_Z starts_Z numbers_Z bytes_) := by
  refine Ctr.start pn_rd [some (.ref 0)] (Nat.le_of_ble_eq_true rfl) rfl ?_
  unfold f_rd_split at hr
  refine AJ.g sK_rd_split 0 7 (True) 9 [some (.ref 0), some (.int 0), some (.int 0)] [] (h_rd_split length_ 0 hasRead_ fault_ place_ at_ kind_ allowedNames_ kinds_ starts_ numbers_ bytes_) rfl trivial ?_
  refine k_b4 hr (fun tokens_18 kinds_19 starts_20 numbers_21 he hr => ?_)
  refine AJ.fg [true, true, true] [some (.ref 0), some (.int 0), some (.int 0)] rfl ?_
  refine itr_ok (un6 (fb_rd_split_9 length_ bytes_)) (fun s : (Int32 × Int32 × Int32 × (Nat → Int32) × (Nat → Int32) × (Nat → Int32)) => AJ _ 9 [some (.ref 0), some (.int s.1), some (.int s.2.1)] [] (h_rd_split length_ s.2.2.1 hasRead_ fault_ place_ at_ kind_ allowedNames_ s.2.2.2.1 s.2.2.2.2.1 s.2.2.2.2.2 bytes_)) (fun s : (Int32 × (Nat → Int32) × (Nat → Int32) × (Nat → Int32)) => AJ _ 89 [some (.ref 0)] [] (h_rd_split length_ s.1 hasRead_ fault_ place_ at_ kind_ allowedNames_ s.2.1 s.2.2.1 s.2.2.2 bytes_)) (fun s x hb hx => bt_rd_split_9 hb hx) KF (0, 0, 0, kinds_, starts_, numbers_) (tokens_18, kinds_19, starts_20, numbers_21) he (show AJ _ 89 [some (.ref 0)] [] (h_rd_split length_ tokens_18 hasRead_ fault_ place_ at_ kind_ allowedNames_ kinds_19 starts_20 numbers_21 bytes_) from ?_)
  refine AJ.fg [true] [some (.ref 0)] rfl ?_
  exact jt_rd_split_89 hr
theorem sK_law_clear : SK M_law_clear q_law_clear := sk_law_clear
set_option maxRecDepth 100000 in
set_option maxHeartbeats 4000000 in
theorem c_law_clear {d : Nat} {codeLength_ : Int32} {size_ : Int32} {take_ : Int32} {fee_ : Int32}  {codeLength_Z : Int32} {size_Z : Int32} {take_Z : Int32} {fee_Z : Int32} (hr : f_law_clear codeLength_ size_ take_ fee_ = some (codeLength_Z, size_Z, take_Z, fee_Z)) : Ctr (d + 1) M_law_clear [.ref 0] (h_law_clear codeLength_ size_ take_ fee_) none (h_law_clear codeLength_Z size_Z take_Z fee_Z) := by
  refine Ctr.start pn_law [some (.ref 0)] (Nat.le_of_ble_eq_true rfl) rfl ?_
  unfold f_law_clear at hr
  refine AJ.g sK_law_clear 0 12 (True) 20 [some (.ref 0)] [] (h_law_clear 0 0 (-1) (-1)) rfl trivial ?_
  cases hr
  exact AJ.xv (SK.at sK_law_clear 12 rfl) rfl
theorem sK_law_hasAlready : SK M_law_hasAlready q_law_hasAlready := sk_law_hasAlready
set_option maxRecDepth 100000 in
set_option maxHeartbeats 4000000 in
theorem jt_law_hasAlready_14 {d : Nat} {codeLength_ : Int32} {size_ : Int32} {take_ : Int32} {fee_ : Int32} {l1 : Int32}  {h0 : List va_E} {r0 : Int32} (hr : fj_law_hasAlready_14 fee_ l1 = some r0) : AJ (M_law_hasAlready, d + 1, (some (.int r0)), h0, (h_law_hasAlready codeLength_ size_ take_ fee_)) 14 [some (.ref 0), some (.int l1)] [] (h_law_hasAlready codeLength_ size_ take_ fee_) := by
  unfold fj_law_hasAlready_14 at hr
  refine AJ.g sK_law_hasAlready 7 2 (True) 17 [some (.ref 0), some (.int l1)] [.int 21, .int l1] (h_law_hasAlready codeLength_ size_ take_ fee_) rfl trivial ?_
  refine AJ.iF hr (SK.at sK_law_hasAlready 9 rfl) 32 20 rfl rfl rfl (fun hr => ?_) (fun hr => ?_)
  · refine AJ.g sK_law_hasAlready 10 3 (True) 25 [some (.ref 0), some (.int l1)] [.int (-1), .int fee_] (h_law_hasAlready codeLength_ size_ take_ fee_) rfl trivial ?_
    refine AJ.iT hr (SK.at sK_law_hasAlready 13 rfl) 32 28 rfl rfl rfl (fun hr => ?_) (fun hr => ?_)
    · refine AJ.g sK_law_hasAlready 16 1 (True) 33 [some (.ref 0), some (.int l1)] [.int 0] (h_law_hasAlready codeLength_ size_ take_ fee_) rfl trivial ?_
      cases hr
      exact AJ.xz (by decide) (SK.at sK_law_hasAlready 17 rfl) rfl
    · refine AJ.g sK_law_hasAlready 14 2 (True) 33 [some (.ref 0), some (.int l1)] [.int 1] (h_law_hasAlready codeLength_ size_ take_ fee_) rfl trivial ?_
      cases hr
      exact AJ.xz (by decide) (SK.at sK_law_hasAlready 17 rfl) rfl
  · refine AJ.g sK_law_hasAlready 16 1 (True) 33 [some (.ref 0), some (.int l1)] [.int 0] (h_law_hasAlready codeLength_ size_ take_ fee_) rfl trivial ?_
    cases hr
    exact AJ.xz (by decide) (SK.at sK_law_hasAlready 17 rfl) rfl
set_option maxRecDepth 100000 in
set_option maxHeartbeats 4000000 in
theorem c_law_hasAlready {d : Nat} {codeLength_ : Int32} {size_ : Int32} {take_ : Int32} {fee_ : Int32} {l1 : Int32} {r0 : Int32} (hr : f_law_hasAlready take_ fee_ l1 = some r0) : Ctr (d + 1) M_law_hasAlready [.ref 0, .int l1] (h_law_hasAlready codeLength_ size_ take_ fee_) (some (.int r0)) (h_law_hasAlready codeLength_ size_ take_ fee_) := by
  refine Ctr.start pn_law [some (.ref 0), some (.int l1)] (Nat.le_of_ble_eq_true rfl) rfl ?_
  unfold f_law_hasAlready at hr
  refine AJ.g sK_law_hasAlready 0 2 (True) 3 [some (.ref 0), some (.int l1)] [.int 20, .int l1] (h_law_hasAlready codeLength_ size_ take_ fee_) rfl trivial ?_
  refine AJ.iF hr (SK.at sK_law_hasAlready 2 rfl) 14 6 rfl rfl rfl (fun hr => ?_) (fun hr => ?_)
  · refine AJ.g sK_law_hasAlready 3 3 (True) 11 [some (.ref 0), some (.int l1)] [.int (-1), .int take_] (h_law_hasAlready codeLength_ size_ take_ fee_) rfl trivial ?_
    refine AJ.iF hr (SK.at sK_law_hasAlready 6 rfl) 28 14 rfl rfl rfl (fun hr => ?_) (fun hr => ?_)
    · refine AJ.fg [true, true] [some (.ref 0), some (.int l1)] rfl ?_
      exact jt_law_hasAlready_14 hr
    · refine AJ.g sK_law_hasAlready 14 2 (True) 33 [some (.ref 0), some (.int l1)] [.int 1] (h_law_hasAlready codeLength_ size_ take_ fee_) rfl trivial ?_
      cases hr
      exact AJ.xz (by decide) (SK.at sK_law_hasAlready 17 rfl) rfl
  · refine AJ.fg [true, true] [some (.ref 0), some (.int l1)] rfl ?_
    exact jt_law_hasAlready_14 hr
theorem sK_rd_faultOfClause : SK M_rd_faultOfClause q_rd_faultOfClause := sk_rd_faultOfClause
set_option maxRecDepth 100000 in
set_option maxHeartbeats 4000000 in
theorem c_rd_faultOfClause {d : Nat} {length_ : Int32} {tokens_ : Int32} {hasRead_ : Int32} {fault_ : Int32} {place_ : Int32} {at_ : Int32} {kind_ : Int32} {allowedNames_ : Int32} {draft_codeLength_ : Int32} {draft_size_ : Int32} {draft_take_ : Int32} {draft_fee_ : Int32}  {r0 : Int32} (hr : f_rd_faultOfClause kind_ draft_size_ draft_take_ draft_fee_ = some r0) : Ctr (d + 2) M_rd_faultOfClause [.ref 0] (h_rd_faultOfClause length_ tokens_ hasRead_ fault_ place_ at_ kind_ allowedNames_ draft_codeLength_ draft_size_ draft_take_ draft_fee_) (some (.int r0)) (h_rd_faultOfClause length_ tokens_ hasRead_ fault_ place_ at_ kind_ allowedNames_ draft_codeLength_ draft_size_ draft_take_ draft_fee_) := by
  refine Ctr.start pn_rd [some (.ref 0)] (Nat.le_of_ble_eq_true rfl) rfl ?_
  unfold f_rd_faultOfClause at hr
  refine AJ.g sK_rd_faultOfClause 0 3 (True) 6 [some (.ref 0)] [.int 20, .int kind_] (h_rd_faultOfClause length_ tokens_ hasRead_ fault_ place_ at_ kind_ allowedNames_ draft_codeLength_ draft_size_ draft_take_ draft_fee_) rfl trivial ?_
  refine AJ.iT hr (SK.at sK_rd_faultOfClause 3 rfl) 18 9 rfl rfl rfl (fun hr => ?_) (fun hr => ?_)
  · refine AJ.g sK_rd_faultOfClause 8 1 (True) 19 [some (.ref 0)] [.int 1] (h_rd_faultOfClause length_ tokens_ hasRead_ fault_ place_ at_ kind_ allowedNames_ draft_codeLength_ draft_size_ draft_take_ draft_fee_) rfl trivial ?_
    cases hr
    exact AJ.xi (SK.at sK_rd_faultOfClause 9 rfl) rfl
  · refine AJ.g sK_rd_faultOfClause 4 3 (True) 15 [some (.ref 0)] [.int 23, .int kind_] (h_rd_faultOfClause length_ tokens_ hasRead_ fault_ place_ at_ kind_ allowedNames_ draft_codeLength_ draft_size_ draft_take_ draft_fee_) rfl trivial ?_
    refine AJ.iF hr (SK.at sK_rd_faultOfClause 7 rfl) 20 18 rfl rfl rfl (fun hr => ?_) (fun hr => ?_)
    · refine AJ.g sK_rd_faultOfClause 8 1 (True) 19 [some (.ref 0)] [.int 1] (h_rd_faultOfClause length_ tokens_ hasRead_ fault_ place_ at_ kind_ allowedNames_ draft_codeLength_ draft_size_ draft_take_ draft_fee_) rfl trivial ?_
      cases hr
      exact AJ.xi (SK.at sK_rd_faultOfClause 9 rfl) rfl
    · refine AJ.g sK_rd_faultOfClause 10 4 (True) 28 [some (.ref 0)] [.int kind_, .ref 1] (h_rd_faultOfClause length_ tokens_ hasRead_ fault_ place_ at_ kind_ allowedNames_ draft_codeLength_ draft_size_ draft_take_ draft_fee_) rfl trivial ?_
      refine k_b1 hr (fun r1 e2 hr => ?_)
      refine AJ.eV mk_law_hasAlready (SK.at sK_rd_faultOfClause 14 rfl) lk_4_132 (c_law_hasAlready (codeLength_ := draft_codeLength_) (size_ := draft_size_) (take_ := draft_take_) (fee_ := draft_fee_) e2) [1] [6, 7, 8, 9] [] [] 31 [.int r1] (h_rd_faultOfClause length_ tokens_ hasRead_ fault_ place_ at_ kind_ allowedNames_ draft_codeLength_ draft_size_ draft_take_ draft_fee_) rfl rfl rfl rfl rfl (by decide +kernel) rfl rfl rfl rfl rfl (Nat.le_of_ble_eq_true rfl) rfl rfl rfl ?_
      refine AJ.iT hr (SK.at sK_rd_faultOfClause 15 rfl) 36 34 rfl rfl rfl (fun hr => ?_) (fun hr => ?_)
      · refine AJ.g sK_rd_faultOfClause 18 4 (True) 45 [some (.ref 0)] [.int 20, .int draft_size_] (h_rd_faultOfClause length_ tokens_ hasRead_ fault_ place_ at_ kind_ allowedNames_ draft_codeLength_ draft_size_ draft_take_ draft_fee_) rfl trivial ?_
        refine AJ.iT hr (SK.at sK_rd_faultOfClause 22 rfl) 53 48 rfl rfl rfl (fun hr => ?_) (fun hr => ?_)
        · refine AJ.g sK_rd_faultOfClause 25 1 (True) 54 [some (.ref 0)] [.int 0] (h_rd_faultOfClause length_ tokens_ hasRead_ fault_ place_ at_ kind_ allowedNames_ draft_codeLength_ draft_size_ draft_take_ draft_fee_) rfl trivial ?_
          cases hr
          exact AJ.xi (SK.at sK_rd_faultOfClause 26 rfl) rfl
        · refine AJ.g sK_rd_faultOfClause 23 2 (True) 54 [some (.ref 0)] [.int 6] (h_rd_faultOfClause length_ tokens_ hasRead_ fault_ place_ at_ kind_ allowedNames_ draft_codeLength_ draft_size_ draft_take_ draft_fee_) rfl trivial ?_
          cases hr
          exact AJ.xi (SK.at sK_rd_faultOfClause 26 rfl) rfl
      · refine AJ.g sK_rd_faultOfClause 16 1 (True) 35 [some (.ref 0)] [.int 4] (h_rd_faultOfClause length_ tokens_ hasRead_ fault_ place_ at_ kind_ allowedNames_ draft_codeLength_ draft_size_ draft_take_ draft_fee_) rfl trivial ?_
        cases hr
        exact AJ.xi (SK.at sK_rd_faultOfClause 17 rfl) rfl
theorem sK_rd_fail : SK M_rd_fail q_rd_fail := sk_rd_fail
set_option maxRecDepth 100000 in
set_option maxHeartbeats 4000000 in
theorem c_rd_fail {d : Nat} {length_ : Int32} {tokens_ : Int32} {hasRead_ : Int32} {fault_ : Int32} {place_ : Int32} {at_ : Int32} {kind_ : Int32} {allowedNames_ : Int32} {starts_ : Nat → Int32} {l1 : Int32} {fault_Z : Int32} {place_Z : Int32} (hr : f_rd_fail fault_ place_ at_ starts_ l1 = some (fault_Z, place_Z)) : Ctr (d + 1) M_rd_fail [.ref 0, .int l1] (h_rd_fail length_ tokens_ hasRead_ fault_ place_ at_ kind_ allowedNames_ starts_) none (h_rd_fail length_ tokens_ hasRead_ fault_Z place_Z at_ kind_ allowedNames_ starts_) := by
  refine Ctr.start pn_rd [some (.ref 0), some (.int l1)] (Nat.le_of_ble_eq_true rfl) rfl ?_
  unfold f_rd_fail at hr
  refine AJ.g sK_rd_fail 0 2 (True) 4 [some (.ref 0), some (.int l1)] [.int fault_] (h_rd_fail length_ tokens_ hasRead_ fault_ place_ at_ kind_ allowedNames_ starts_) rfl trivial ?_
  refine AJ.iF hr (SK.at sK_rd_fail 2 rfl) 25 7 rfl rfl rfl (fun hr => ?_) (fun hr => ?_)
  · refine k_grd hr (fun g1 hr => ?_)
    refine AJ.g sK_rd_fail 3 10 (inb at_ 301 ∧ True) 25 [some (.ref 0), some (.int l1)] [] (h_rd_fail length_ tokens_ hasRead_ l1 (starts_ (ix at_)) at_ kind_ allowedNames_ starts_) rfl ⟨g1, trivial⟩ ?_
    cases hr
    exact AJ.xv (SK.at sK_rd_fail 13 rfl) rfl
  · cases hr
    exact AJ.xv (SK.at sK_rd_fail 13 rfl) rfl
theorem sK_rd_step : SK M_rd_step q_rd_step := sk_rd_step
set_option maxRecDepth 100000 in
set_option maxHeartbeats 4000000 in
theorem c_rd_step {d : Nat} {length_ : Int32} {tokens_ : Int32} {hasRead_ : Int32} {fault_ : Int32} {place_ : Int32} {at_ : Int32} {kind_ : Int32} {allowedNames_ : Int32} {kinds_ : Nat → Int32}  {at_Z : Int32} {kind_Z : Int32} (hr : f_rd_step tokens_ fault_ at_ kind_ kinds_ = some (at_Z, kind_Z)) : Ctr (d + 1) M_rd_step [.ref 0] (h_rd_step length_ tokens_ hasRead_ fault_ place_ at_ kind_ allowedNames_ kinds_) none (h_rd_step length_ tokens_ hasRead_ fault_ place_ at_Z kind_Z allowedNames_ kinds_) := by
  refine Ctr.start pn_rd [some (.ref 0)] (Nat.le_of_ble_eq_true rfl) rfl ?_
  unfold f_rd_step at hr
  refine AJ.g sK_rd_step 0 2 (True) 4 [some (.ref 0)] [.int fault_] (h_rd_step length_ tokens_ hasRead_ fault_ place_ at_ kind_ allowedNames_ kinds_) rfl trivial ?_
  refine AJ.iF hr (SK.at sK_rd_step 2 rfl) 43 7 rfl rfl rfl (fun hr => ?_) (fun hr => ?_)
  · refine AJ.g sK_rd_step 3 6 (True) 17 [some (.ref 0)] [.int tokens_, .int (at_ + 1)] (h_rd_step length_ tokens_ hasRead_ fault_ place_ at_ kind_ allowedNames_ kinds_) rfl trivial ?_
    refine AJ.iF hr (SK.at sK_rd_step 9 rfl) 43 20 rfl rfl rfl (fun hr => ?_) (fun hr => ?_)
    · refine k_grd hr (fun g1 hr => ?_)
      refine AJ.g sK_rd_step 10 13 (inb (at_ + 1) 301 ∧ True) 43 [some (.ref 0)] [] (h_rd_step length_ tokens_ hasRead_ fault_ place_ (at_ + 1) (kinds_ (ix (at_ + 1))) allowedNames_ kinds_) rfl ⟨g1, trivial⟩ ?_
      cases hr
      exact AJ.xv (SK.at sK_rd_step 23 rfl) rfl
    · cases hr
      exact AJ.xv (SK.at sK_rd_step 23 rfl) rfl
  · cases hr
    exact AJ.xv (SK.at sK_rd_step 23 rfl) rfl
theorem sK_rd_readNumber : SK M_rd_readNumber q_rd_readNumber := sk_rd_readNumber
set_option maxRecDepth 100000 in
set_option maxHeartbeats 4000000 in
theorem jt_rd_readNumber_36 {d : Nat} {length_ : Int32} {tokens_ : Int32} {hasRead_ : Int32} {fault_ : Int32} {place_ : Int32} {at_ : Int32} {kind_ : Int32} {allowedNames_ : Int32} {numbers_ : Nat → Int32} {kinds_ : Nat → Int32} {starts_ : Nat → Int32} {l2 : Int32}  {h0 : List va_E} {r0 : Int32} {fault_Z : Int32} {place_Z : Int32} {at_Z : Int32} {kind_Z : Int32} (hr : fj_rd_readNumber_36 tokens_ fault_ place_ at_ kind_ kinds_ l2 = some (r0, fault_Z, place_Z, at_Z, kind_Z)) : AJ (M_rd_readNumber, d + 2, (some (.int r0)), h0, (h_rd_readNumber length_ tokens_ hasRead_ fault_Z place_Z at_Z kind_Z allowedNames_ numbers_ kinds_ starts_)) 36 [some (.ref 0), none, some (.int l2)] [] (h_rd_readNumber length_ tokens_ hasRead_ fault_ place_ at_ kind_ allowedNames_ numbers_ kinds_ starts_) := by
  unfold fj_rd_readNumber_36 at hr
  refine AJ.g sK_rd_readNumber 20 1 (True) 37 [some (.ref 0), none, some (.int l2)] [.ref 0] (h_rd_readNumber length_ tokens_ hasRead_ fault_ place_ at_ kind_ allowedNames_ numbers_ kinds_ starts_) rfl trivial ?_
  refine k_b2 hr (fun at_2 kind_3 e4 hr => ?_)
  refine AJ.eV mk_rd_step (SK.at sK_rd_readNumber 21 rfl) lk_4_138 (c_rd_step (length_ := length_) (tokens_ := tokens_) (hasRead_ := hasRead_) (fault_ := fault_) (place_ := place_) (at_ := at_) (kind_ := kind_) (allowedNames_ := allowedNames_) (kinds_ := kinds_) e4) [0, 2] [4, 3, 1, 5] [0] [] 40 [] (h_rd_readNumber length_ tokens_ hasRead_ fault_ place_ at_2 kind_3 allowedNames_ numbers_ kinds_ starts_) rfl rfl rfl rfl rfl (by decide +kernel) rfl rfl rfl rfl rfl (Nat.le_of_ble_eq_true rfl) rfl rfl rfl ?_
  refine AJ.g sK_rd_readNumber 22 1 (True) 41 [some (.ref 0), none, some (.int l2)] [.int l2] (h_rd_readNumber length_ tokens_ hasRead_ fault_ place_ at_2 kind_3 allowedNames_ numbers_ kinds_ starts_) rfl trivial ?_
  cases hr
  exact AJ.xi (SK.at sK_rd_readNumber 23 rfl) rfl
set_option maxRecDepth 100000 in
set_option maxHeartbeats 4000000 in
theorem c_rd_readNumber {d : Nat} {length_ : Int32} {tokens_ : Int32} {hasRead_ : Int32} {fault_ : Int32} {place_ : Int32} {at_ : Int32} {kind_ : Int32} {allowedNames_ : Int32} {numbers_ : Nat → Int32} {kinds_ : Nat → Int32} {starts_ : Nat → Int32} {l1 : Int32} {r0 : Int32} {fault_Z : Int32} {place_Z : Int32} {at_Z : Int32} {kind_Z : Int32} (hr : f_rd_readNumber tokens_ fault_ place_ at_ kind_ numbers_ kinds_ starts_ l1 = some (r0, fault_Z, place_Z, at_Z, kind_Z)) : Ctr (d + 2) M_rd_readNumber [.ref 0, .int l1] (h_rd_readNumber length_ tokens_ hasRead_ fault_ place_ at_ kind_ allowedNames_ numbers_ kinds_ starts_) (some (.int r0)) (h_rd_readNumber length_ tokens_ hasRead_ fault_Z place_Z at_Z kind_Z allowedNames_ numbers_ kinds_ starts_) := by
  refine Ctr.start pn_rd [some (.ref 0), some (.int l1)] (Nat.le_of_ble_eq_true rfl) rfl ?_
  unfold f_rd_readNumber at hr
  refine k_grd hr (fun g1 hr => ?_)
  refine AJ.g sK_rd_readNumber 0 9 (inb at_ 301 ∧ True) 15 [some (.ref 0), some (.int l1), some (.int (numbers_ (ix at_)))] [.int 2, .int kind_] (h_rd_readNumber length_ tokens_ hasRead_ fault_ place_ at_ kind_ allowedNames_ numbers_ kinds_ starts_) rfl ⟨g1, trivial⟩ ?_
  refine AJ.iT hr (SK.at sK_rd_readNumber 9 rfl) 26 18 rfl rfl rfl (fun hr => ?_) (fun hr => ?_)
  · refine AJ.g sK_rd_readNumber 14 2 (True) 28 [some (.ref 0), some (.int l1), some (.int (numbers_ (ix at_)))] [.int l1, .int (numbers_ (ix at_))] (h_rd_readNumber length_ tokens_ hasRead_ fault_ place_ at_ kind_ allowedNames_ numbers_ kinds_ starts_) rfl trivial ?_
    refine AJ.iF hr (SK.at sK_rd_readNumber 16 rfl) 36 31 rfl rfl rfl (fun hr => ?_) (fun hr => ?_)
    · refine AJ.g sK_rd_readNumber 17 2 (True) 33 [some (.ref 0), some (.int l1), some (.int (numbers_ (ix at_)))] [.int 2, .ref 0] (h_rd_readNumber length_ tokens_ hasRead_ fault_ place_ at_ kind_ allowedNames_ numbers_ kinds_ starts_) rfl trivial ?_
      refine k_b2 hr (fun fault_5 place_6 e7 hr => ?_)
      refine AJ.eV mk_rd_fail (SK.at sK_rd_readNumber 19 rfl) lk_4_67 (c_rd_fail (length_ := length_) (tokens_ := tokens_) (hasRead_ := hasRead_) (fault_ := fault_) (place_ := place_) (at_ := at_) (kind_ := kind_) (allowedNames_ := allowedNames_) (starts_ := starts_) e7) [0, 3] [4, 2, 1, 5] [0] [] 36 [] (h_rd_readNumber length_ tokens_ hasRead_ fault_5 place_6 at_ kind_ allowedNames_ numbers_ kinds_ starts_) rfl rfl rfl rfl rfl (by decide +kernel) rfl rfl rfl rfl rfl (Nat.le_of_ble_eq_true rfl) rfl rfl rfl ?_
      refine AJ.fg [true, false, true] [some (.ref 0), none, some (.int (numbers_ (ix at_)))] rfl ?_
      exact jt_rd_readNumber_36 hr
    · refine AJ.fg [true, false, true] [some (.ref 0), none, some (.int (numbers_ (ix at_)))] rfl ?_
      exact jt_rd_readNumber_36 hr
  · refine AJ.g sK_rd_readNumber 10 2 (True) 20 [some (.ref 0), some (.int l1), some (.int (numbers_ (ix at_)))] [.int 1, .ref 0] (h_rd_readNumber length_ tokens_ hasRead_ fault_ place_ at_ kind_ allowedNames_ numbers_ kinds_ starts_) rfl trivial ?_
    refine k_b2 hr (fun fault_8 place_9 e10 hr => ?_)
    refine AJ.eV mk_rd_fail (SK.at sK_rd_readNumber 12 rfl) lk_4_67 (c_rd_fail (length_ := length_) (tokens_ := tokens_) (hasRead_ := hasRead_) (fault_ := fault_) (place_ := place_) (at_ := at_) (kind_ := kind_) (allowedNames_ := allowedNames_) (starts_ := starts_) e10) [0, 3] [4, 2, 1, 5] [0] [] 23 [] (h_rd_readNumber length_ tokens_ hasRead_ fault_8 place_9 at_ kind_ allowedNames_ numbers_ kinds_ starts_) rfl rfl rfl rfl rfl (by decide +kernel) rfl rfl rfl rfl rfl (Nat.le_of_ble_eq_true rfl) rfl rfl rfl ?_
    refine AJ.g sK_rd_readNumber 13 1 (True) 36 [some (.ref 0), some (.int l1), some (.int (numbers_ (ix at_)))] [] (h_rd_readNumber length_ tokens_ hasRead_ fault_8 place_9 at_ kind_ allowedNames_ numbers_ kinds_ starts_) rfl trivial ?_
    refine AJ.fg [true, false, true] [some (.ref 0), none, some (.int (numbers_ (ix at_)))] rfl ?_
    exact jt_rd_readNumber_36 hr
theorem sK_rd_expect : SK M_rd_expect q_rd_expect := sk_rd_expect
set_option maxRecDepth 100000 in
set_option maxHeartbeats 4000000 in
theorem jt_rd_expect_13 {d : Nat} {length_ : Int32} {tokens_ : Int32} {hasRead_ : Int32} {fault_ : Int32} {place_ : Int32} {at_ : Int32} {kind_ : Int32} {allowedNames_ : Int32} {kinds_ : Nat → Int32} {starts_ : Nat → Int32}   {h0 : List va_E} {fault_Z : Int32} {place_Z : Int32} {at_Z : Int32} {kind_Z : Int32} (hr : fj_rd_expect_13 tokens_ fault_ place_ at_ kind_ kinds_ = some (fault_Z, place_Z, at_Z, kind_Z)) : AJ (M_rd_expect, d + 2, none, h0, (h_rd_expect length_ tokens_ hasRead_ fault_Z place_Z at_Z kind_Z allowedNames_ kinds_ starts_)) 13 [some (.ref 0)] [] (h_rd_expect length_ tokens_ hasRead_ fault_ place_ at_ kind_ allowedNames_ kinds_ starts_) := by
  unfold fj_rd_expect_13 at hr
  refine AJ.g sK_rd_expect 7 1 (True) 14 [some (.ref 0)] [.ref 0] (h_rd_expect length_ tokens_ hasRead_ fault_ place_ at_ kind_ allowedNames_ kinds_ starts_) rfl trivial ?_
  refine k_b2 hr (fun at_1 kind_2 e3 hr => ?_)
  refine AJ.eV mk_rd_step (SK.at sK_rd_expect 8 rfl) lk_4_138 (c_rd_step (length_ := length_) (tokens_ := tokens_) (hasRead_ := hasRead_) (fault_ := fault_) (place_ := place_) (at_ := at_) (kind_ := kind_) (allowedNames_ := allowedNames_) (kinds_ := kinds_) e3) [0, 1] [3, 2, 4, 5] [0] [] 17 [] (h_rd_expect length_ tokens_ hasRead_ fault_ place_ at_1 kind_2 allowedNames_ kinds_ starts_) rfl rfl rfl rfl rfl (by decide +kernel) rfl rfl rfl rfl rfl (Nat.le_of_ble_eq_true rfl) rfl rfl rfl ?_
  cases hr
  exact AJ.xv (SK.at sK_rd_expect 9 rfl) rfl
set_option maxRecDepth 100000 in
set_option maxHeartbeats 4000000 in
theorem c_rd_expect {d : Nat} {length_ : Int32} {tokens_ : Int32} {hasRead_ : Int32} {fault_ : Int32} {place_ : Int32} {at_ : Int32} {kind_ : Int32} {allowedNames_ : Int32} {kinds_ : Nat → Int32} {starts_ : Nat → Int32} {l1 : Int32} {fault_Z : Int32} {place_Z : Int32} {at_Z : Int32} {kind_Z : Int32} (hr : f_rd_expect tokens_ fault_ place_ at_ kind_ kinds_ starts_ l1 = some (fault_Z, place_Z, at_Z, kind_Z)) : Ctr (d + 2) M_rd_expect [.ref 0, .int l1] (h_rd_expect length_ tokens_ hasRead_ fault_ place_ at_ kind_ allowedNames_ kinds_ starts_) none (h_rd_expect length_ tokens_ hasRead_ fault_Z place_Z at_Z kind_Z allowedNames_ kinds_ starts_) := by
  refine Ctr.start pn_rd [some (.ref 0), some (.int l1)] (Nat.le_of_ble_eq_true rfl) rfl ?_
  unfold f_rd_expect at hr
  refine AJ.g sK_rd_expect 0 3 (True) 5 [some (.ref 0), some (.int l1)] [.int l1, .int kind_] (h_rd_expect length_ tokens_ hasRead_ fault_ place_ at_ kind_ allowedNames_ kinds_ starts_) rfl trivial ?_
  refine AJ.iT hr (SK.at sK_rd_expect 3 rfl) 13 8 rfl rfl rfl (fun hr => ?_) (fun hr => ?_)
  · refine AJ.fg [true] [some (.ref 0)] rfl ?_
    exact jt_rd_expect_13 hr
  · refine AJ.g sK_rd_expect 4 2 (True) 10 [some (.ref 0), some (.int l1)] [.int 1, .ref 0] (h_rd_expect length_ tokens_ hasRead_ fault_ place_ at_ kind_ allowedNames_ kinds_ starts_) rfl trivial ?_
    refine k_b2 hr (fun fault_4 place_5 e6 hr => ?_)
    refine AJ.eV mk_rd_fail (SK.at sK_rd_expect 6 rfl) lk_4_67 (c_rd_fail (length_ := length_) (tokens_ := tokens_) (hasRead_ := hasRead_) (fault_ := fault_) (place_ := place_) (at_ := at_) (kind_ := kind_) (allowedNames_ := allowedNames_) (starts_ := starts_) e6) [0, 2] [3, 1, 4, 5] [0] [] 13 [] (h_rd_expect length_ tokens_ hasRead_ fault_4 place_5 at_ kind_ allowedNames_ kinds_ starts_) rfl rfl rfl rfl rfl (by decide +kernel) rfl rfl rfl rfl rfl (Nat.le_of_ble_eq_true rfl) rfl rfl rfl ?_
    refine AJ.fg [true] [some (.ref 0)] rfl ?_
    exact jt_rd_expect_13 hr
theorem sK_law_addClause : SK M_law_addClause q_law_addClause := sk_law_addClause
set_option maxRecDepth 100000 in
set_option maxHeartbeats 4000000 in
theorem c_law_addClause {d : Nat} {codeLength_ : Int32} {size_ : Int32} {take_ : Int32} {fee_ : Int32} {kinds_ : Nat → Int32} {from_ : Nat → Int32} {to_ : Nat → Int32} {l1 : Int32} {l2 : Int32} {l3 : Int32} {size_Z : Int32} {take_Z : Int32} {fee_Z : Int32} {kinds_Z : Nat → Int32} {from_Z : Nat → Int32} {to_Z : Nat → Int32} (hr : f_law_addClause size_ take_ fee_ kinds_ from_ to_ l1 l2 l3 = some (size_Z, take_Z, fee_Z, kinds_Z, from_Z, to_Z)) : Ctr (d + 1) M_law_addClause [.ref 0, .int l1, .int l2, .int l3] (h_law_addClause codeLength_ size_ take_ fee_ kinds_ from_ to_) none (h_law_addClause codeLength_ size_Z take_Z fee_Z kinds_Z from_Z to_Z) := by
  refine Ctr.start pn_law [some (.ref 0), some (.int l1), some (.int l2), some (.int l3)] (Nat.le_of_ble_eq_true rfl) rfl ?_
  unfold f_law_addClause at hr
  refine AJ.g sK_law_addClause 0 3 (True) 6 [some (.ref 0), some (.int l1), some (.int l2), some (.int l3)] [.int 20, .int size_] (h_law_addClause codeLength_ size_ take_ fee_ kinds_ from_ to_) rfl trivial ?_
  refine AJ.iT hr (SK.at sK_law_addClause 3 rfl) 10 9 rfl rfl rfl (fun hr => ?_) (fun hr => ?_)
  · refine k_grd hr (fun g1 hr => ?_)
    refine AJ.g sK_law_addClause 5 6 (inb size_ 20 ∧ True) 20 [some (.ref 0), some (.int l1), some (.int l2), some (.int l3)] [] (h_law_addClause codeLength_ size_ take_ fee_ (upd kinds_ (ix size_) l1) from_ to_) rfl ⟨g1, trivial⟩ ?_
    replace hr := k_bnd hr
    generalize (upd kinds_ (ix size_) l1 : Nat → Int32) = kinds_2 at hr ⊢
    refine k_grd hr (fun g3 hr => ?_)
    refine AJ.g sK_law_addClause 11 6 (inb size_ 20 ∧ True) 30 [some (.ref 0), some (.int l1), some (.int l2), some (.int l3)] [] (h_law_addClause codeLength_ size_ take_ fee_ kinds_2 (upd from_ (ix size_) l2) to_) rfl ⟨g3, trivial⟩ ?_
    replace hr := k_bnd hr
    generalize (upd from_ (ix size_) l2 : Nat → Int32) = from_4 at hr ⊢
    refine k_grd hr (fun g5 hr => ?_)
    refine AJ.g sK_law_addClause 17 6 (inb size_ 20 ∧ True) 40 [some (.ref 0), some (.int l1), some (.int l2), some (.int l3)] [] (h_law_addClause codeLength_ size_ take_ fee_ kinds_2 from_4 (upd to_ (ix size_) l3)) rfl ⟨g5, trivial⟩ ?_
    replace hr := k_bnd hr
    generalize (upd to_ (ix size_) l3 : Nat → Int32) = to_6 at hr ⊢
    refine AJ.g sK_law_addClause 23 2 (True) 43 [some (.ref 0), some (.int l1), some (.int l2), some (.int l3)] [.int 20, .int l1] (h_law_addClause codeLength_ size_ take_ fee_ kinds_2 from_4 to_6) rfl trivial ?_
    refine AJ.iF hr (SK.at sK_law_addClause 25 rfl) 57 46 rfl rfl rfl (fun hr => ?_) (fun hr => ?_)
    · refine AJ.g sK_law_addClause 26 5 (True) 71 [some (.ref 0), some (.int l1), some (.int l2), some (.int l3)] [] (h_law_addClause codeLength_ size_ size_ fee_ kinds_2 from_4 to_6) rfl trivial ?_
      refine AJ.g sK_law_addClause 38 6 (True) 81 [some (.ref 0), some (.int l1), some (.int l2), some (.int l3)] [] (h_law_addClause codeLength_ (size_ + 1) size_ fee_ kinds_2 from_4 to_6) rfl trivial ?_
      cases hr
      exact AJ.xv (SK.at sK_law_addClause 44 rfl) rfl
    · refine AJ.g sK_law_addClause 31 2 (True) 60 [some (.ref 0), some (.int l1), some (.int l2), some (.int l3)] [.int 21, .int l1] (h_law_addClause codeLength_ size_ take_ fee_ kinds_2 from_4 to_6) rfl trivial ?_
      refine AJ.iF hr (SK.at sK_law_addClause 33 rfl) 71 63 rfl rfl rfl (fun hr => ?_) (fun hr => ?_)
      · refine AJ.g sK_law_addClause 34 4 (True) 71 [some (.ref 0), some (.int l1), some (.int l2), some (.int l3)] [] (h_law_addClause codeLength_ size_ take_ size_ kinds_2 from_4 to_6) rfl trivial ?_
        refine AJ.g sK_law_addClause 38 6 (True) 81 [some (.ref 0), some (.int l1), some (.int l2), some (.int l3)] [] (h_law_addClause codeLength_ (size_ + 1) take_ size_ kinds_2 from_4 to_6) rfl trivial ?_
        cases hr
        exact AJ.xv (SK.at sK_law_addClause 44 rfl) rfl
      · refine AJ.g sK_law_addClause 38 6 (True) 81 [some (.ref 0), some (.int l1), some (.int l2), some (.int l3)] [] (h_law_addClause codeLength_ (size_ + 1) take_ fee_ kinds_2 from_4 to_6) rfl trivial ?_
        cases hr
        exact AJ.xv (SK.at sK_law_addClause 44 rfl) rfl
  · cases hr
    exact AJ.xv (SK.at sK_law_addClause 4 rfl) rfl
theorem sK_rd_readGo : SK M_rd_readGo q_rd_readGo := sk_rd_readGo
set_option maxRecDepth 100000 in
set_option maxHeartbeats 4000000 in
theorem c_rd_readGo {d : Nat} {length_ : Int32} {tokens_ : Int32} {hasRead_ : Int32} {fault_ : Int32} {place_ : Int32} {at_ : Int32} {kind_ : Int32} {allowedNames_ : Int32} {kinds_ : Nat → Int32} {numbers_ : Nat → Int32} {starts_ : Nat → Int32} {draft_codeLength_ : Int32} {draft_size_ : Int32} {draft_take_ : Int32} {draft_fee_ : Int32} {draft_kinds_ : Nat → Int32} {draft_from_ : Nat → Int32} {draft_to_ : Nat → Int32}  {fault_Z : Int32} {place_Z : Int32} {at_Z : Int32} {kind_Z : Int32} {draft_size_Z : Int32} {draft_take_Z : Int32} {draft_fee_Z : Int32} {draft_kinds_Z : Nat → Int32} {draft_from_Z : Nat → Int32} {draft_to_Z : Nat → Int32} (hr : f_rd_readGo tokens_ fault_ place_ at_ kind_ kinds_ numbers_ starts_ draft_size_ draft_take_ draft_fee_ draft_kinds_ draft_from_ draft_to_ = some (fault_Z, place_Z, at_Z, kind_Z, draft_size_Z, draft_take_Z, draft_fee_Z, draft_kinds_Z, draft_from_Z, draft_to_Z)) : Ctr (d + 3) M_rd_readGo [.ref 0] (h_rd_readGo length_ tokens_ hasRead_ fault_ place_ at_ kind_ allowedNames_ kinds_ numbers_ starts_ draft_codeLength_ draft_size_ draft_take_ draft_fee_ draft_kinds_ draft_from_ draft_to_) none (h_rd_readGo length_ tokens_ hasRead_ fault_Z place_Z at_Z kind_Z allowedNames_ kinds_ numbers_ starts_ draft_codeLength_ draft_size_Z draft_take_Z draft_fee_Z draft_kinds_Z draft_from_Z draft_to_Z) := by
  refine Ctr.start pn_rd [some (.ref 0)] (Nat.le_of_ble_eq_true rfl) rfl ?_
  unfold f_rd_readGo at hr
  refine AJ.g sK_rd_readGo 0 1 (True) 1 [some (.ref 0)] [.ref 0] (h_rd_readGo length_ tokens_ hasRead_ fault_ place_ at_ kind_ allowedNames_ kinds_ numbers_ starts_ draft_codeLength_ draft_size_ draft_take_ draft_fee_ draft_kinds_ draft_from_ draft_to_) rfl trivial ?_
  refine k_b2 hr (fun at_1 kind_2 e32 hr => ?_)
  refine AJ.eV mk_rd_step (SK.at sK_rd_readGo 1 rfl) lk_4_138 (c_rd_step (length_ := length_) (tokens_ := tokens_) (hasRead_ := hasRead_) (fault_ := fault_) (place_ := place_) (at_ := at_) (kind_ := kind_) (allowedNames_ := allowedNames_) (kinds_ := kinds_) e32) [0, 1] [8, 3, 2, 4] [0] [] 4 [] (h_rd_readGo length_ tokens_ hasRead_ fault_ place_ at_1 kind_2 allowedNames_ kinds_ numbers_ starts_ draft_codeLength_ draft_size_ draft_take_ draft_fee_ draft_kinds_ draft_from_ draft_to_) rfl rfl rfl rfl rfl (by decide +kernel) rfl rfl rfl rfl rfl (Nat.le_of_ble_eq_true rfl) rfl rfl rfl ?_
  refine AJ.g sK_rd_readGo 2 2 (True) 7 [some (.ref 0)] [.int 7, .ref 0] (h_rd_readGo length_ tokens_ hasRead_ fault_ place_ at_1 kind_2 allowedNames_ kinds_ numbers_ starts_ draft_codeLength_ draft_size_ draft_take_ draft_fee_ draft_kinds_ draft_from_ draft_to_) rfl trivial ?_
  refine k_b5 hr (fun r3 fault_4 place_5 at_6 kind_7 e31 hr => ?_)
  refine AJ.eV mk_rd_readNumber (SK.at sK_rd_readGo 4 rfl) lk_4_141 (c_rd_readNumber (length_ := length_) (tokens_ := tokens_) (hasRead_ := hasRead_) (fault_ := fault_) (place_ := place_) (at_ := at_1) (kind_ := kind_2) (allowedNames_ := allowedNames_) (numbers_ := numbers_) (kinds_ := kinds_) (starts_ := starts_) e31) [0, 2, 1, 3] [8, 4] [0] [] 10 [.int r3] (h_rd_readGo length_ tokens_ hasRead_ fault_4 place_5 at_6 kind_7 allowedNames_ kinds_ numbers_ starts_ draft_codeLength_ draft_size_ draft_take_ draft_fee_ draft_kinds_ draft_from_ draft_to_) rfl rfl rfl rfl rfl (by decide +kernel) rfl rfl rfl rfl rfl (Nat.le_of_ble_eq_true rfl) rfl rfl rfl ?_
  refine AJ.g sK_rd_readGo 5 3 (True) 14 [some (.ref 0), some (.int r3)] [.int 24, .ref 0] (h_rd_readGo length_ tokens_ hasRead_ fault_4 place_5 at_6 kind_7 allowedNames_ kinds_ numbers_ starts_ draft_codeLength_ draft_size_ draft_take_ draft_fee_ draft_kinds_ draft_from_ draft_to_) rfl trivial ?_
  refine k_b4 hr (fun fault_8 place_9 at_10 kind_11 e30 hr => ?_)
  refine AJ.eV mk_rd_expect (SK.at sK_rd_readGo 8 rfl) lk_4_144 (c_rd_expect (length_ := length_) (tokens_ := tokens_) (hasRead_ := hasRead_) (fault_ := fault_4) (place_ := place_5) (at_ := at_6) (kind_ := kind_7) (allowedNames_ := allowedNames_) (kinds_ := kinds_) (starts_ := starts_) e30) [0, 1, 3] [8, 2, 4] [0] [] 17 [] (h_rd_readGo length_ tokens_ hasRead_ fault_8 place_9 at_10 kind_11 allowedNames_ kinds_ numbers_ starts_ draft_codeLength_ draft_size_ draft_take_ draft_fee_ draft_kinds_ draft_from_ draft_to_) rfl rfl rfl rfl rfl (by decide +kernel) rfl rfl rfl rfl rfl (Nat.le_of_ble_eq_true rfl) rfl rfl rfl ?_
  refine AJ.g sK_rd_readGo 9 2 (True) 19 [some (.ref 0), some (.int r3)] [.int 2, .ref 0] (h_rd_readGo length_ tokens_ hasRead_ fault_8 place_9 at_10 kind_11 allowedNames_ kinds_ numbers_ starts_ draft_codeLength_ draft_size_ draft_take_ draft_fee_ draft_kinds_ draft_from_ draft_to_) rfl trivial ?_
  refine k_b5 hr (fun r12 fault_13 place_14 at_15 kind_16 e29 hr => ?_)
  refine AJ.eV mk_rd_readNumber (SK.at sK_rd_readGo 11 rfl) lk_4_141 (c_rd_readNumber (length_ := length_) (tokens_ := tokens_) (hasRead_ := hasRead_) (fault_ := fault_8) (place_ := place_9) (at_ := at_10) (kind_ := kind_11) (allowedNames_ := allowedNames_) (numbers_ := numbers_) (kinds_ := kinds_) (starts_ := starts_) e29) [0, 2, 1, 3] [8, 4] [0] [] 22 [.int r12] (h_rd_readGo length_ tokens_ hasRead_ fault_13 place_14 at_15 kind_16 allowedNames_ kinds_ numbers_ starts_ draft_codeLength_ draft_size_ draft_take_ draft_fee_ draft_kinds_ draft_from_ draft_to_) rfl rfl rfl rfl rfl (by decide +kernel) rfl rfl rfl rfl rfl (Nat.le_of_ble_eq_true rfl) rfl rfl rfl ?_
  refine AJ.g sK_rd_readGo 12 3 (True) 26 [some (.ref 0), some (.int r3), some (.int r12)] [.int 14, .ref 0] (h_rd_readGo length_ tokens_ hasRead_ fault_13 place_14 at_15 kind_16 allowedNames_ kinds_ numbers_ starts_ draft_codeLength_ draft_size_ draft_take_ draft_fee_ draft_kinds_ draft_from_ draft_to_) rfl trivial ?_
  refine k_b4 hr (fun fault_17 place_18 at_19 kind_20 e28 hr => ?_)
  refine AJ.eV mk_rd_expect (SK.at sK_rd_readGo 15 rfl) lk_4_144 (c_rd_expect (length_ := length_) (tokens_ := tokens_) (hasRead_ := hasRead_) (fault_ := fault_13) (place_ := place_14) (at_ := at_15) (kind_ := kind_16) (allowedNames_ := allowedNames_) (kinds_ := kinds_) (starts_ := starts_) e28) [0, 1, 3] [8, 2, 4] [0] [] 29 [] (h_rd_readGo length_ tokens_ hasRead_ fault_17 place_18 at_19 kind_20 allowedNames_ kinds_ numbers_ starts_ draft_codeLength_ draft_size_ draft_take_ draft_fee_ draft_kinds_ draft_from_ draft_to_) rfl rfl rfl rfl rfl (by decide +kernel) rfl rfl rfl rfl rfl (Nat.le_of_ble_eq_true rfl) rfl rfl rfl ?_
  refine AJ.g sK_rd_readGo 16 5 (True) 37 [some (.ref 0), some (.int r3), some (.int r12)] [.int r12, .int r3, .int 23, .ref 4] (h_rd_readGo length_ tokens_ hasRead_ fault_17 place_18 at_19 kind_20 allowedNames_ kinds_ numbers_ starts_ draft_codeLength_ draft_size_ draft_take_ draft_fee_ draft_kinds_ draft_from_ draft_to_) rfl trivial ?_
  refine k_b6 hr (fun draft_size_21 draft_take_22 draft_fee_23 draft_kinds_24 draft_from_25 draft_to_26 e27 hr => ?_)
  refine AJ.eV mk_law_addClause (SK.at sK_rd_readGo 21 rfl) lk_4_147 (c_law_addClause (codeLength_ := draft_codeLength_) (size_ := draft_size_) (take_ := draft_take_) (fee_ := draft_fee_) (kinds_ := draft_kinds_) (from_ := draft_from_) (to_ := draft_to_) e27) [4, 5, 6, 7] [9] [0, 1, 2, 3] [] 40 [] (h_rd_readGo length_ tokens_ hasRead_ fault_17 place_18 at_19 kind_20 allowedNames_ kinds_ numbers_ starts_ draft_codeLength_ draft_size_21 draft_take_22 draft_fee_23 draft_kinds_24 draft_from_25 draft_to_26) rfl rfl rfl rfl rfl (by decide +kernel) rfl rfl rfl rfl rfl (Nat.le_of_ble_eq_true rfl) rfl rfl rfl ?_
  cases hr
  exact AJ.xv (SK.at sK_rd_readGo 22 rfl) rfl
theorem sK_rd_opens : SK M_rd_opens q_rd_opens := sk_rd_opens
set_option maxRecDepth 100000 in
set_option maxHeartbeats 4000000 in
theorem jt_rd_opens_11 {d : Nat} {length_ : Int32} {tokens_ : Int32} {hasRead_ : Int32} {fault_ : Int32} {place_ : Int32} {at_ : Int32} {kind_ : Int32} {allowedNames_ : Int32} {kinds_ : Nat → Int32} {starts_ : Nat → Int32}   {h0 : List va_E} {r0 : Int32} {fault_Z : Int32} {place_Z : Int32} {at_Z : Int32} {kind_Z : Int32} (hr : fj_rd_opens_11 tokens_ fault_ place_ at_ kind_ kinds_ = some (r0, fault_Z, place_Z, at_Z, kind_Z)) : AJ (M_rd_opens, d + 2, (some (.int r0)), h0, (h_rd_opens length_ tokens_ hasRead_ fault_Z place_Z at_Z kind_Z allowedNames_ kinds_ starts_)) 11 [some (.ref 0)] [] (h_rd_opens length_ tokens_ hasRead_ fault_ place_ at_ kind_ allowedNames_ kinds_ starts_) := by
  unfold fj_rd_opens_11 at hr
  refine AJ.g sK_rd_opens 6 1 (True) 12 [some (.ref 0)] [.ref 0] (h_rd_opens length_ tokens_ hasRead_ fault_ place_ at_ kind_ allowedNames_ kinds_ starts_) rfl trivial ?_
  refine k_b2 hr (fun at_1 kind_2 e3 hr => ?_)
  refine AJ.eV mk_rd_step (SK.at sK_rd_opens 7 rfl) lk_4_138 (c_rd_step (length_ := length_) (tokens_ := tokens_) (hasRead_ := hasRead_) (fault_ := fault_) (place_ := place_) (at_ := at_) (kind_ := kind_) (allowedNames_ := allowedNames_) (kinds_ := kinds_) e3) [0, 1] [3, 2, 4, 5] [0] [] 15 [] (h_rd_opens length_ tokens_ hasRead_ fault_ place_ at_1 kind_2 allowedNames_ kinds_ starts_) rfl rfl rfl rfl rfl (by decide +kernel) rfl rfl rfl rfl rfl (Nat.le_of_ble_eq_true rfl) rfl rfl rfl ?_
  refine AJ.g sK_rd_opens 8 2 (True) 19 [some (.ref 0)] [.int fault_] (h_rd_opens length_ tokens_ hasRead_ fault_ place_ at_1 kind_2 allowedNames_ kinds_ starts_) rfl trivial ?_
  refine AJ.iF hr (SK.at sK_rd_opens 10 rfl) 26 22 rfl rfl rfl (fun hr => ?_) (fun hr => ?_)
  · refine AJ.g sK_rd_opens 11 2 (True) 27 [some (.ref 0)] [.int 1] (h_rd_opens length_ tokens_ hasRead_ fault_ place_ at_1 kind_2 allowedNames_ kinds_ starts_) rfl trivial ?_
    cases hr
    exact AJ.xz (by decide) (SK.at sK_rd_opens 14 rfl) rfl
  · refine AJ.g sK_rd_opens 13 1 (True) 27 [some (.ref 0)] [.int 0] (h_rd_opens length_ tokens_ hasRead_ fault_ place_ at_1 kind_2 allowedNames_ kinds_ starts_) rfl trivial ?_
    cases hr
    exact AJ.xz (by decide) (SK.at sK_rd_opens 14 rfl) rfl
set_option maxRecDepth 100000 in
set_option maxHeartbeats 4000000 in
theorem c_rd_opens {d : Nat} {length_ : Int32} {tokens_ : Int32} {hasRead_ : Int32} {fault_ : Int32} {place_ : Int32} {at_ : Int32} {kind_ : Int32} {allowedNames_ : Int32} {kinds_ : Nat → Int32} {starts_ : Nat → Int32} {l1 : Int32} {r0 : Int32} {fault_Z : Int32} {place_Z : Int32} {at_Z : Int32} {kind_Z : Int32} (hr : f_rd_opens tokens_ fault_ place_ at_ kind_ kinds_ starts_ l1 = some (r0, fault_Z, place_Z, at_Z, kind_Z)) : Ctr (d + 2) M_rd_opens [.ref 0, .int l1] (h_rd_opens length_ tokens_ hasRead_ fault_ place_ at_ kind_ allowedNames_ kinds_ starts_) (some (.int r0)) (h_rd_opens length_ tokens_ hasRead_ fault_Z place_Z at_Z kind_Z allowedNames_ kinds_ starts_) := by
  refine Ctr.start pn_rd [some (.ref 0), some (.int l1)] (Nat.le_of_ble_eq_true rfl) rfl ?_
  unfold f_rd_opens at hr
  refine AJ.g sK_rd_opens 0 2 (True) 3 [some (.ref 0), some (.int l1)] [.int 8, .int l1] (h_rd_opens length_ tokens_ hasRead_ fault_ place_ at_ kind_ allowedNames_ kinds_ starts_) rfl trivial ?_
  refine AJ.iT hr (SK.at sK_rd_opens 2 rfl) 11 6 rfl rfl rfl (fun hr => ?_) (fun hr => ?_)
  · refine AJ.fg [true] [some (.ref 0)] rfl ?_
    exact jt_rd_opens_11 hr
  · refine AJ.g sK_rd_opens 3 2 (True) 8 [some (.ref 0), some (.int l1)] [.int 3, .ref 0] (h_rd_opens length_ tokens_ hasRead_ fault_ place_ at_ kind_ allowedNames_ kinds_ starts_) rfl trivial ?_
    refine k_b2 hr (fun fault_4 place_5 e6 hr => ?_)
    refine AJ.eV mk_rd_fail (SK.at sK_rd_opens 5 rfl) lk_4_67 (c_rd_fail (length_ := length_) (tokens_ := tokens_) (hasRead_ := hasRead_) (fault_ := fault_) (place_ := place_) (at_ := at_) (kind_ := kind_) (allowedNames_ := allowedNames_) (starts_ := starts_) e6) [0, 2] [3, 1, 4, 5] [0] [] 11 [] (h_rd_opens length_ tokens_ hasRead_ fault_4 place_5 at_ kind_ allowedNames_ kinds_ starts_) rfl rfl rfl rfl rfl (by decide +kernel) rfl rfl rfl rfl rfl (Nat.le_of_ble_eq_true rfl) rfl rfl rfl ?_
    refine AJ.fg [true] [some (.ref 0)] rfl ?_
    exact jt_rd_opens_11 hr
theorem sK_law_emit : SK M_law_emit q_law_emit := sk_law_emit
set_option maxRecDepth 100000 in
set_option maxHeartbeats 4000000 in
theorem c_law_emit {d : Nat} {codeLength_ : Int32} {size_ : Int32} {take_ : Int32} {fee_ : Int32} {code_ : Nat → Int32} {l1 : Int32} {codeLength_Z : Int32} {code_Z : Nat → Int32} (hr : f_law_emit codeLength_ code_ l1 = some (codeLength_Z, code_Z)) : Ctr (d + 1) M_law_emit [.ref 0, .int l1] (h_law_emit codeLength_ size_ take_ fee_ code_) none (h_law_emit codeLength_Z size_ take_ fee_ code_Z) := by
  refine Ctr.start pn_law [some (.ref 0), some (.int l1)] (Nat.le_of_ble_eq_true rfl) rfl ?_
  unfold f_law_emit at hr
  refine AJ.g sK_law_emit 0 5 (True) 9 [some (.ref 0), some (.int l1)] [.int 300, .int codeLength_] (h_law_emit codeLength_ size_ take_ fee_ code_) rfl trivial ?_
  refine AJ.iF hr (SK.at sK_law_emit 5 rfl) 32 12 rfl rfl rfl (fun hr => ?_) (fun hr => ?_)
  · refine k_grd hr (fun g1 hr => ?_)
    refine AJ.g sK_law_emit 6 6 (inb codeLength_ 300 ∧ True) 22 [some (.ref 0), some (.int l1)] [] (h_law_emit codeLength_ size_ take_ fee_ (upd code_ (ix codeLength_) l1)) rfl ⟨g1, trivial⟩ ?_
    replace hr := k_bnd hr
    generalize (upd code_ (ix codeLength_) l1 : Nat → Int32) = code_2 at hr ⊢
    refine AJ.g sK_law_emit 12 6 (True) 32 [some (.ref 0), some (.int l1)] [] (h_law_emit (codeLength_ + 1) size_ take_ fee_ code_2) rfl trivial ?_
    cases hr
    exact AJ.xv (SK.at sK_law_emit 18 rfl) rfl
  · cases hr
    exact AJ.xv (SK.at sK_law_emit 18 rfl) rfl
theorem sK_rd_readName : SK M_rd_readName q_rd_readName := sk_rd_readName
set_option maxRecDepth 100000 in
set_option maxHeartbeats 4000000 in
theorem jt_rd_readName_48 {d : Nat} {length_ : Int32} {tokens_ : Int32} {hasRead_ : Int32} {fault_ : Int32} {place_ : Int32} {at_ : Int32} {kind_ : Int32} {allowedNames_ : Int32} {starts_ : Nat → Int32} {draft_codeLength_ : Int32} {draft_size_ : Int32} {draft_take_ : Int32} {draft_fee_ : Int32} {kinds_ : Nat → Int32} {draft_code_ : Nat → Int32}   {h0 : List va_E} {fault_Z : Int32} {place_Z : Int32} {at_Z : Int32} {kind_Z : Int32} {draft_codeLength_Z : Int32} {draft_code_Z : Nat → Int32} (hr : fj_rd_readName_48 tokens_ fault_ place_ at_ kind_ draft_codeLength_ kinds_ draft_code_ = some (fault_Z, place_Z, at_Z, kind_Z, draft_codeLength_Z, draft_code_Z)) : AJ (M_rd_readName, d + 2, none, h0, (h_rd_readName length_ tokens_ hasRead_ fault_Z place_Z at_Z kind_Z allowedNames_ starts_ draft_codeLength_Z draft_size_ draft_take_ draft_fee_ kinds_ draft_code_Z)) 48 [some (.ref 0)] [] (h_rd_readName length_ tokens_ hasRead_ fault_ place_ at_ kind_ allowedNames_ starts_ draft_codeLength_ draft_size_ draft_take_ draft_fee_ kinds_ draft_code_) := by
  unfold fj_rd_readName_48 at hr
  refine AJ.g sK_rd_readName 25 6 (True) 60 [some (.ref 0)] [.int (20000 + kind_), .ref 2] (h_rd_readName length_ tokens_ hasRead_ fault_ place_ at_ kind_ allowedNames_ starts_ draft_codeLength_ draft_size_ draft_take_ draft_fee_ kinds_ draft_code_) rfl trivial ?_
  refine k_b2 hr (fun draft_codeLength_3 draft_code_4 e8 hr => ?_)
  refine AJ.eV mk_law_emit (SK.at sK_rd_readName 31 rfl) lk_4_162 (c_law_emit (codeLength_ := draft_codeLength_) (size_ := draft_size_) (take_ := draft_take_) (fee_ := draft_fee_) (code_ := draft_code_) e8) [2, 4] [7, 8, 9] [0, 1] [] 63 [] (h_rd_readName length_ tokens_ hasRead_ fault_ place_ at_ kind_ allowedNames_ starts_ draft_codeLength_3 draft_size_ draft_take_ draft_fee_ kinds_ draft_code_4) rfl rfl rfl rfl rfl (by decide +kernel) rfl rfl rfl rfl rfl (Nat.le_of_ble_eq_true rfl) rfl rfl rfl ?_
  refine AJ.g sK_rd_readName 32 1 (True) 64 [some (.ref 0)] [.ref 0] (h_rd_readName length_ tokens_ hasRead_ fault_ place_ at_ kind_ allowedNames_ starts_ draft_codeLength_3 draft_size_ draft_take_ draft_fee_ kinds_ draft_code_4) rfl trivial ?_
  refine k_b2 hr (fun at_5 kind_6 e7 hr => ?_)
  refine AJ.eV mk_rd_step (SK.at sK_rd_readName 33 rfl) lk_4_138 (c_rd_step (length_ := length_) (tokens_ := tokens_) (hasRead_ := hasRead_) (fault_ := fault_) (place_ := place_) (at_ := at_) (kind_ := kind_) (allowedNames_ := allowedNames_) (kinds_ := kinds_) e7) [0, 3] [5, 1, 6, 2] [0] [] 67 [] (h_rd_readName length_ tokens_ hasRead_ fault_ place_ at_5 kind_6 allowedNames_ starts_ draft_codeLength_3 draft_size_ draft_take_ draft_fee_ kinds_ draft_code_4) rfl rfl rfl rfl rfl (by decide +kernel) rfl rfl rfl rfl rfl (Nat.le_of_ble_eq_true rfl) rfl rfl rfl ?_
  cases hr
  exact AJ.xv (SK.at sK_rd_readName 34 rfl) rfl
set_option maxRecDepth 100000 in
set_option maxHeartbeats 4000000 in
theorem jt_rd_readName_18 {d : Nat} {length_ : Int32} {tokens_ : Int32} {hasRead_ : Int32} {fault_ : Int32} {place_ : Int32} {at_ : Int32} {kind_ : Int32} {allowedNames_ : Int32} {starts_ : Nat → Int32} {draft_codeLength_ : Int32} {draft_size_ : Int32} {draft_take_ : Int32} {draft_fee_ : Int32} {kinds_ : Nat → Int32} {draft_code_ : Nat → Int32}   {h0 : List va_E} {fault_Z : Int32} {place_Z : Int32} {at_Z : Int32} {kind_Z : Int32} {draft_codeLength_Z : Int32} {draft_code_Z : Nat → Int32} (hr : fj_rd_readName_18 tokens_ fault_ place_ at_ kind_ starts_ draft_codeLength_ kinds_ draft_code_ = some (fault_Z, place_Z, at_Z, kind_Z, draft_codeLength_Z, draft_code_Z)) : AJ (M_rd_readName, d + 2, none, h0, (h_rd_readName length_ tokens_ hasRead_ fault_Z place_Z at_Z kind_Z allowedNames_ starts_ draft_codeLength_Z draft_size_ draft_take_ draft_fee_ kinds_ draft_code_Z)) 18 [some (.ref 0)] [] (h_rd_readName length_ tokens_ hasRead_ fault_ place_ at_ kind_ allowedNames_ starts_ draft_codeLength_ draft_size_ draft_take_ draft_fee_ kinds_ draft_code_) := by
  unfold fj_rd_readName_18 at hr
  refine AJ.g sK_rd_readName 8 2 (True) 20 [some (.ref 0)] [.int 1, .ref 0] (h_rd_readName length_ tokens_ hasRead_ fault_ place_ at_ kind_ allowedNames_ starts_ draft_codeLength_ draft_size_ draft_take_ draft_fee_ kinds_ draft_code_) rfl trivial ?_
  refine k_b2 hr (fun fault_1 place_2 e9 hr => ?_)
  refine AJ.eV mk_rd_fail (SK.at sK_rd_readName 10 rfl) lk_4_67 (c_rd_fail (length_ := length_) (tokens_ := tokens_) (hasRead_ := hasRead_) (fault_ := fault_) (place_ := place_) (at_ := at_) (kind_ := kind_) (allowedNames_ := allowedNames_) (starts_ := starts_) e9) [0, 1] [5, 3, 6, 2] [0] [] 23 [] (h_rd_readName length_ tokens_ hasRead_ fault_1 place_2 at_ kind_ allowedNames_ starts_ draft_codeLength_ draft_size_ draft_take_ draft_fee_ kinds_ draft_code_) rfl rfl rfl rfl rfl (by decide +kernel) rfl rfl rfl rfl rfl (Nat.le_of_ble_eq_true rfl) rfl rfl rfl ?_
  refine AJ.g sK_rd_readName 11 1 (True) 48 [some (.ref 0)] [] (h_rd_readName length_ tokens_ hasRead_ fault_1 place_2 at_ kind_ allowedNames_ starts_ draft_codeLength_ draft_size_ draft_take_ draft_fee_ kinds_ draft_code_) rfl trivial ?_
  refine AJ.fg [true] [some (.ref 0)] rfl ?_
  exact jt_rd_readName_48 hr
set_option maxRecDepth 100000 in
set_option maxHeartbeats 4000000 in
theorem c_rd_readName {d : Nat} {length_ : Int32} {tokens_ : Int32} {hasRead_ : Int32} {fault_ : Int32} {place_ : Int32} {at_ : Int32} {kind_ : Int32} {allowedNames_ : Int32} {starts_ : Nat → Int32} {draft_codeLength_ : Int32} {draft_size_ : Int32} {draft_take_ : Int32} {draft_fee_ : Int32} {kinds_ : Nat → Int32} {draft_code_ : Nat → Int32}  {fault_Z : Int32} {place_Z : Int32} {at_Z : Int32} {kind_Z : Int32} {draft_codeLength_Z : Int32} {draft_code_Z : Nat → Int32} (hr : f_rd_readName tokens_ fault_ place_ at_ kind_ allowedNames_ starts_ draft_codeLength_ kinds_ draft_code_ = some (fault_Z, place_Z, at_Z, kind_Z, draft_codeLength_Z, draft_code_Z)) : Ctr (d + 2) M_rd_readName [.ref 0] (h_rd_readName length_ tokens_ hasRead_ fault_ place_ at_ kind_ allowedNames_ starts_ draft_codeLength_ draft_size_ draft_take_ draft_fee_ kinds_ draft_code_) none (h_rd_readName length_ tokens_ hasRead_ fault_Z place_Z at_Z kind_Z allowedNames_ starts_ draft_codeLength_Z draft_size_ draft_take_ draft_fee_ kinds_ draft_code_Z) := by
  refine Ctr.start pn_rd [some (.ref 0)] (Nat.le_of_ble_eq_true rfl) rfl ?_
  unfold f_rd_readName at hr
  refine AJ.g sK_rd_readName 0 3 (True) 6 [some (.ref 0)] [.int 28, .int kind_] (h_rd_readName length_ tokens_ hasRead_ fault_ place_ at_ kind_ allowedNames_ starts_ draft_codeLength_ draft_size_ draft_take_ draft_fee_ kinds_ draft_code_) rfl trivial ?_
  refine AJ.iT hr (SK.at sK_rd_readName 3 rfl) 18 9 rfl rfl rfl (fun hr => ?_) (fun hr => ?_)
  · refine AJ.fg [true] [some (.ref 0)] rfl ?_
    exact jt_rd_readName_18 hr
  · refine AJ.g sK_rd_readName 4 3 (True) 15 [some (.ref 0)] [.int 35, .int kind_] (h_rd_readName length_ tokens_ hasRead_ fault_ place_ at_ kind_ allowedNames_ starts_ draft_codeLength_ draft_size_ draft_take_ draft_fee_ kinds_ draft_code_) rfl trivial ?_
    refine AJ.iF hr (SK.at sK_rd_readName 7 rfl) 26 18 rfl rfl rfl (fun hr => ?_) (fun hr => ?_)
    · refine AJ.fg [true] [some (.ref 0)] rfl ?_
      exact jt_rd_readName_18 hr
    · refine AJ.g sK_rd_readName 12 9 (True) 40 [some (.ref 0)] [.int ((allowedNames_ >>> ((kind_ - 28) &&& 31)) &&& 1)] (h_rd_readName length_ tokens_ hasRead_ fault_ place_ at_ kind_ allowedNames_ starts_ draft_codeLength_ draft_size_ draft_take_ draft_fee_ kinds_ draft_code_) rfl trivial ?_
      refine AJ.iF hr (SK.at sK_rd_readName 21 rfl) 48 43 rfl rfl rfl (fun hr => ?_) (fun hr => ?_)
      · refine AJ.g sK_rd_readName 22 2 (True) 45 [some (.ref 0)] [.int 5, .ref 0] (h_rd_readName length_ tokens_ hasRead_ fault_ place_ at_ kind_ allowedNames_ starts_ draft_codeLength_ draft_size_ draft_take_ draft_fee_ kinds_ draft_code_) rfl trivial ?_
        refine k_b2 hr (fun fault_10 place_11 e12 hr => ?_)
        refine AJ.eV mk_rd_fail (SK.at sK_rd_readName 24 rfl) lk_4_67 (c_rd_fail (length_ := length_) (tokens_ := tokens_) (hasRead_ := hasRead_) (fault_ := fault_) (place_ := place_) (at_ := at_) (kind_ := kind_) (allowedNames_ := allowedNames_) (starts_ := starts_) e12) [0, 1] [5, 3, 6, 2] [0] [] 48 [] (h_rd_readName length_ tokens_ hasRead_ fault_10 place_11 at_ kind_ allowedNames_ starts_ draft_codeLength_ draft_size_ draft_take_ draft_fee_ kinds_ draft_code_) rfl rfl rfl rfl rfl (by decide +kernel) rfl rfl rfl rfl rfl (Nat.le_of_ble_eq_true rfl) rfl rfl rfl ?_
        refine AJ.fg [true] [some (.ref 0)] rfl ?_
        exact jt_rd_readName_48 hr
      · refine AJ.fg [true] [some (.ref 0)] rfl ?_
        exact jt_rd_readName_48 hr
