theorem sK_m_clip : SK M_m_clip q_m_clip := sk_m_clip
set_option maxRecDepth 100000 in
set_option maxHeartbeats 4000000 in
theorem c_m_clip {d : Nat}  {l0 : Int64} {r0 : Int64} (hr : f_m_clip l0 = some r0) : Ctr (d + 1) M_m_clip [.long l0] [] (some (.long r0)) [] := by
  refine Ctr.start pn_m [some (.long l0), none] (Nat.le_of_ble_eq_true rfl) rfl ?_
  unfold f_m_clip at hr
  refine AJ.g sK_m_clip 0 3 (True) 5 [some (.long l0), none] [.int (lg_cmp l0 (Int64.ofInt 1000000))] [] rfl trivial ?_
  refine AJ.iF hr (SK.at sK_m_clip 3 rfl) 14 8 rfl rfl rfl (fun hr => ?_) (fun hr => ?_)
  · refine AJ.g sK_m_clip 4 2 (True) 29 [some (.long l0), none] [.long (Int64.ofInt 1000000)] [] rfl trivial ?_
    cases hr
    exact AJ.xl (SK.at sK_m_clip 13 rfl) rfl
  · refine AJ.g sK_m_clip 6 3 (True) 19 [some (.long l0), none] [.int (lg_cmp l0 (Int64.ofInt (-1000000)))] [] rfl trivial ?_
    refine AJ.iF hr (SK.at sK_m_clip 9 rfl) 28 22 rfl rfl rfl (fun hr => ?_) (fun hr => ?_)
    · refine AJ.g sK_m_clip 10 2 (True) 29 [some (.long l0), none] [.long (Int64.ofInt (-1000000))] [] rfl trivial ?_
      cases hr
      exact AJ.xl (SK.at sK_m_clip 13 rfl) rfl
    · refine AJ.g sK_m_clip 12 1 (True) 29 [some (.long l0), none] [.long l0] [] rfl trivial ?_
      cases hr
      exact AJ.xl (SK.at sK_m_clip 13 rfl) rfl
theorem sK_m_two : SK M_m_two q_m_two := sk_m_two
set_option maxRecDepth 100000 in
set_option maxHeartbeats 4000000 in
theorem c_m_two {d : Nat}  {l0 : Int32} {l1 : Int64} {l3 : Int64} {r0 : Int64} (hr : f_m_two l0 l1 l3 = some r0) : Ctr (d + 2) M_m_two [.int l0, .long l1, .long l3] [] (some (.long r0)) [] := by
  refine Ctr.start pn_m [some (.int l0), some (.long l1), none, some (.long l3), none] (Nat.le_of_ble_eq_true rfl) rfl ?_
  unfold f_m_two at hr
  refine AJ.g sK_m_two 0 1 (True) 1 [some (.int l0), some (.long l1), none, some (.long l3), none] [.int l0] [] rfl trivial ?_
  refine k_ite hr (fun hc hr => ?_) (fun n3 hr => ?_)
  · refine AJ.tsIn sw_m_two_1 (by rw [hc]; decide) (by rw [hc]; decide) (by rw [hc]; rfl) rfl ?_
    refine AJ.g sK_m_two 1 3 (True) 39 [some (.int l0), some (.long l1), none, some (.long l3), none] [.long (l1 + l3)] [] rfl trivial ?_
    refine k_b1 hr (fun r12 e13 hr => ?_)
    refine AJ.dS mk_m_clip (SK.at sK_m_two 4 rfl) lk_12_248 (c_m_clip e13) [] [] [] 42 [.long r12] [] rfl rfl rfl rfl rfl rfl rfl (Nat.le_of_ble_eq_true rfl) rfl rfl rfl ?_
    cases hr
    exact AJ.xl (SK.at sK_m_two 5 rfl) rfl
  · refine k_ite hr (fun hc hr => ?_) (fun n4 hr => ?_)
    · refine AJ.tsIn sw_m_two_1 (by rw [hc]; decide) (by rw [hc]; decide) (by rw [hc]; rfl) rfl ?_
      refine AJ.g sK_m_two 6 3 (True) 46 [some (.int l0), some (.long l1), none, some (.long l3), none] [.long (l1 - l3)] [] rfl trivial ?_
      refine k_b1 hr (fun r10 e11 hr => ?_)
      refine AJ.dS mk_m_clip (SK.at sK_m_two 9 rfl) lk_12_248 (c_m_clip e11) [] [] [] 49 [.long r10] [] rfl rfl rfl rfl rfl rfl rfl (Nat.le_of_ble_eq_true rfl) rfl rfl rfl ?_
      cases hr
      exact AJ.xl (SK.at sK_m_two 10 rfl) rfl
    · refine k_ite hr (fun hc hr => ?_) (fun n5 hr => ?_)
      · refine AJ.tsIn sw_m_two_1 (by rw [hc]; decide) (by rw [hc]; decide) (by rw [hc]; rfl) rfl ?_
        refine AJ.g sK_m_two 11 3 (True) 53 [some (.int l0), some (.long l1), none, some (.long l3), none] [.long (l1 * l3)] [] rfl trivial ?_
        refine k_b1 hr (fun r8 e9 hr => ?_)
        refine AJ.dS mk_m_clip (SK.at sK_m_two 14 rfl) lk_12_248 (c_m_clip e9) [] [] [] 56 [.long r8] [] rfl rfl rfl rfl rfl rfl rfl (Nat.le_of_ble_eq_true rfl) rfl rfl rfl ?_
        cases hr
        exact AJ.xl (SK.at sK_m_two 15 rfl) rfl
      · refine k_ite hr (fun hc hr => ?_) (fun n6 hr => ?_)
        · refine AJ.tsIn sw_m_two_1 (by rw [hc]; decide) (by rw [hc]; decide) (by rw [hc]; rfl) rfl ?_
          refine AJ.g sK_m_two 26 3 (True) 74 [some (.int l0), some (.long l1), none, some (.long l3), none] [.int (lg_cmp l3 0)] [] rfl trivial ?_
          refine AJ.iF hr (SK.at sK_m_two 29 rfl) 81 77 rfl rfl rfl (fun hr => ?_) (fun hr => ?_)
          · refine AJ.g sK_m_two 30 2 (True) 87 [some (.int l0), some (.long l1), none, some (.long l3), none] [.long 0] [] rfl trivial ?_
            cases hr
            exact AJ.xl (SK.at sK_m_two 36 rfl) rfl
          · refine k_grd hr (fun g5 hr => ?_)
            refine AJ.g sK_m_two 32 3 (¬ l3 = 0 ∧ True) 84 [some (.int l0), some (.long l1), none, some (.long l3), none] [.long (l1 / l3)] [] rfl ⟨g5, trivial⟩ ?_
            refine k_b1 hr (fun r6 e7 hr => ?_)
            refine AJ.dS mk_m_clip (SK.at sK_m_two 35 rfl) lk_12_248 (c_m_clip e7) [] [] [] 87 [.long r6] [] rfl rfl rfl rfl rfl rfl rfl (Nat.le_of_ble_eq_true rfl) rfl rfl rfl ?_
            cases hr
            exact AJ.xl (SK.at sK_m_two 36 rfl) rfl
        · refine k_ite hr (fun hc hr => ?_) (fun n7 hr => ?_)
          · refine AJ.tsIn sw_m_two_1 (by rw [hc]; decide) (by rw [hc]; decide) (by rw [hc]; rfl) rfl ?_
            refine AJ.g sK_m_two 16 3 (True) 60 [some (.int l0), some (.long l1), none, some (.long l3), none] [.int (lg_cmp l3 0)] [] rfl trivial ?_
            refine AJ.iF hr (SK.at sK_m_two 19 rfl) 67 63 rfl rfl rfl (fun hr => ?_) (fun hr => ?_)
            · refine AJ.g sK_m_two 20 2 (True) 70 [some (.int l0), some (.long l1), none, some (.long l3), none] [.long 0] [] rfl trivial ?_
              cases hr
              exact AJ.xl (SK.at sK_m_two 25 rfl) rfl
            · refine k_grd hr (fun g4 hr => ?_)
              refine AJ.g sK_m_two 22 3 (¬ l3 = 0 ∧ True) 70 [some (.int l0), some (.long l1), none, some (.long l3), none] [.long (rem64 l1 l3)] [] rfl ⟨g4, trivial⟩ ?_
              cases hr
              exact AJ.xl (SK.at sK_m_two 25 rfl) rfl
          · refine AJ.tsOut sw_m_two_1 (by have w0 : (l0 : Int32).toInt ≠ 3 := ne_toInt n3; have w1 : (l0 : Int32).toInt ≠ 4 := ne_toInt n4; have w2 : (l0 : Int32).toInt ≠ 5 := ne_toInt n5; have w3 : (l0 : Int32).toInt ≠ 6 := ne_toInt n6; have w4 : (l0 : Int32).toInt ≠ 7 := ne_toInt n7; omega) rfl ?_
            refine AJ.g sK_m_two 26 3 (True) 74 [some (.int l0), some (.long l1), none, some (.long l3), none] [.int (lg_cmp l3 0)] [] rfl trivial ?_
            refine AJ.iF hr (SK.at sK_m_two 29 rfl) 81 77 rfl rfl rfl (fun hr => ?_) (fun hr => ?_)
            · refine AJ.g sK_m_two 30 2 (True) 87 [some (.int l0), some (.long l1), none, some (.long l3), none] [.long 0] [] rfl trivial ?_
              cases hr
              exact AJ.xl (SK.at sK_m_two 36 rfl) rfl
            · refine k_grd hr (fun g1 hr => ?_)
              refine AJ.g sK_m_two 32 3 (¬ l3 = 0 ∧ True) 84 [some (.int l0), some (.long l1), none, some (.long l3), none] [.long (l1 / l3)] [] rfl ⟨g1, trivial⟩ ?_
              refine k_b1 hr (fun r2 e3 hr => ?_)
              refine AJ.dS mk_m_clip (SK.at sK_m_two 35 rfl) lk_12_248 (c_m_clip e3) [] [] [] 87 [.long r2] [] rfl rfl rfl rfl rfl rfl rfl (Nat.le_of_ble_eq_true rfl) rfl rfl rfl ?_
              cases hr
              exact AJ.xl (SK.at sK_m_two 36 rfl) rfl
theorem sK_m_isAsked : SK M_m_isAsked q_m_isAsked := sk_m_isAsked
set_option maxRecDepth 100000 in
set_option maxHeartbeats 4000000 in
theorem c_m_isAsked {d : Nat}  {l0 : Int32} {l1 : Int64} {l3 : Int64} {r0 : Int32} (hr : f_m_isAsked l0 l1 l3 = some r0) : Ctr (d + 1) M_m_isAsked [.int l0, .long l1, .long l3] [] (some (.int r0)) [] := by
  refine Ctr.start pn_m [some (.int l0), some (.long l1), none, some (.long l3), none] (Nat.le_of_ble_eq_true rfl) rfl ?_
  unfold f_m_isAsked at hr
  refine AJ.g sK_m_isAsked 0 2 (True) 3 [some (.int l0), some (.long l1), none, some (.long l3), none] [.int 10, .int l0] [] rfl trivial ?_
  refine AJ.iF hr (SK.at sK_m_isAsked 2 rfl) 20 6 rfl rfl rfl (fun hr => ?_) (fun hr => ?_)
  · refine AJ.g sK_m_isAsked 3 3 (True) 9 [some (.int l0), some (.long l1), none, some (.long l3), none] [.int (lg_cmp l1 l3)] [] rfl trivial ?_
    refine AJ.iF hr (SK.at sK_m_isAsked 6 rfl) 16 12 rfl rfl rfl (fun hr => ?_) (fun hr => ?_)
    · refine AJ.g sK_m_isAsked 7 2 (True) 111 [some (.int l0), some (.long l1), none, some (.long l3), none] [.int 1] [] rfl trivial ?_
      cases hr
      exact AJ.xz (by decide) (SK.at sK_m_isAsked 62 rfl) rfl
    · refine AJ.g sK_m_isAsked 9 2 (True) 111 [some (.int l0), some (.long l1), none, some (.long l3), none] [.int 0] [] rfl trivial ?_
      cases hr
      exact AJ.xz (by decide) (SK.at sK_m_isAsked 62 rfl) rfl
  · refine AJ.g sK_m_isAsked 11 2 (True) 23 [some (.int l0), some (.long l1), none, some (.long l3), none] [.int 11, .int l0] [] rfl trivial ?_
    refine AJ.iF hr (SK.at sK_m_isAsked 13 rfl) 40 26 rfl rfl rfl (fun hr => ?_) (fun hr => ?_)
    · refine AJ.g sK_m_isAsked 14 3 (True) 29 [some (.int l0), some (.long l1), none, some (.long l3), none] [.int (lg_cmp l1 l3)] [] rfl trivial ?_
      refine AJ.iT hr (SK.at sK_m_isAsked 17 rfl) 36 32 rfl rfl rfl (fun hr => ?_) (fun hr => ?_)
      · refine AJ.g sK_m_isAsked 20 2 (True) 111 [some (.int l0), some (.long l1), none, some (.long l3), none] [.int 0] [] rfl trivial ?_
        cases hr
        exact AJ.xz (by decide) (SK.at sK_m_isAsked 62 rfl) rfl
      · refine AJ.g sK_m_isAsked 18 2 (True) 111 [some (.int l0), some (.long l1), none, some (.long l3), none] [.int 1] [] rfl trivial ?_
        cases hr
        exact AJ.xz (by decide) (SK.at sK_m_isAsked 62 rfl) rfl
    · refine AJ.g sK_m_isAsked 22 2 (True) 43 [some (.int l0), some (.long l1), none, some (.long l3), none] [.int 12, .int l0] [] rfl trivial ?_
      refine AJ.iF hr (SK.at sK_m_isAsked 24 rfl) 60 46 rfl rfl rfl (fun hr => ?_) (fun hr => ?_)
      · refine AJ.g sK_m_isAsked 25 3 (True) 49 [some (.int l0), some (.long l1), none, some (.long l3), none] [.int (lg_cmp l1 l3)] [] rfl trivial ?_
        refine AJ.iF hr (SK.at sK_m_isAsked 28 rfl) 56 52 rfl rfl rfl (fun hr => ?_) (fun hr => ?_)
        · refine AJ.g sK_m_isAsked 29 2 (True) 111 [some (.int l0), some (.long l1), none, some (.long l3), none] [.int 1] [] rfl trivial ?_
          cases hr
          exact AJ.xz (by decide) (SK.at sK_m_isAsked 62 rfl) rfl
        · refine AJ.g sK_m_isAsked 31 2 (True) 111 [some (.int l0), some (.long l1), none, some (.long l3), none] [.int 0] [] rfl trivial ?_
          cases hr
          exact AJ.xz (by decide) (SK.at sK_m_isAsked 62 rfl) rfl
      · refine AJ.g sK_m_isAsked 33 2 (True) 63 [some (.int l0), some (.long l1), none, some (.long l3), none] [.int 13, .int l0] [] rfl trivial ?_
        refine AJ.iF hr (SK.at sK_m_isAsked 35 rfl) 80 66 rfl rfl rfl (fun hr => ?_) (fun hr => ?_)
        · refine AJ.g sK_m_isAsked 36 3 (True) 69 [some (.int l0), some (.long l1), none, some (.long l3), none] [.int (lg_cmp l1 l3)] [] rfl trivial ?_
          refine AJ.iT hr (SK.at sK_m_isAsked 39 rfl) 76 72 rfl rfl rfl (fun hr => ?_) (fun hr => ?_)
          · refine AJ.g sK_m_isAsked 42 2 (True) 111 [some (.int l0), some (.long l1), none, some (.long l3), none] [.int 0] [] rfl trivial ?_
            cases hr
            exact AJ.xz (by decide) (SK.at sK_m_isAsked 62 rfl) rfl
          · refine AJ.g sK_m_isAsked 40 2 (True) 111 [some (.int l0), some (.long l1), none, some (.long l3), none] [.int 1] [] rfl trivial ?_
            cases hr
            exact AJ.xz (by decide) (SK.at sK_m_isAsked 62 rfl) rfl
        · refine AJ.g sK_m_isAsked 44 2 (True) 83 [some (.int l0), some (.long l1), none, some (.long l3), none] [.int 14, .int l0] [] rfl trivial ?_
          refine AJ.iF hr (SK.at sK_m_isAsked 46 rfl) 100 86 rfl rfl rfl (fun hr => ?_) (fun hr => ?_)
          · refine AJ.g sK_m_isAsked 47 3 (True) 89 [some (.int l0), some (.long l1), none, some (.long l3), none] [.int (lg_cmp l1 l3)] [] rfl trivial ?_
            refine AJ.iF hr (SK.at sK_m_isAsked 50 rfl) 96 92 rfl rfl rfl (fun hr => ?_) (fun hr => ?_)
            · refine AJ.g sK_m_isAsked 51 2 (True) 111 [some (.int l0), some (.long l1), none, some (.long l3), none] [.int 1] [] rfl trivial ?_
              cases hr
              exact AJ.xz (by decide) (SK.at sK_m_isAsked 62 rfl) rfl
            · refine AJ.g sK_m_isAsked 53 2 (True) 111 [some (.int l0), some (.long l1), none, some (.long l3), none] [.int 0] [] rfl trivial ?_
              cases hr
              exact AJ.xz (by decide) (SK.at sK_m_isAsked 62 rfl) rfl
          · refine AJ.g sK_m_isAsked 55 3 (True) 103 [some (.int l0), some (.long l1), none, some (.long l3), none] [.int (lg_cmp l1 l3)] [] rfl trivial ?_
            refine AJ.iT hr (SK.at sK_m_isAsked 58 rfl) 110 106 rfl rfl rfl (fun hr => ?_) (fun hr => ?_)
            · refine AJ.g sK_m_isAsked 61 1 (True) 111 [some (.int l0), some (.long l1), none, some (.long l3), none] [.int 0] [] rfl trivial ?_
              cases hr
              exact AJ.xz (by decide) (SK.at sK_m_isAsked 62 rfl) rfl
            · refine AJ.g sK_m_isAsked 59 2 (True) 111 [some (.int l0), some (.long l1), none, some (.long l3), none] [.int 1] [] rfl trivial ?_
              cases hr
              exact AJ.xz (by decide) (SK.at sK_m_isAsked 62 rfl) rfl
theorem sK_m_work : SK M_m_work q_m_work := sk_m_work
set_option maxRecDepth 100000 in
set_option maxHeartbeats 4000000 in
theorem bt_m_work_47 {d : Nat} {rr : Option Value} {h0 hF : List va_E} {b_ : Int32} {taped_ : Int32} {fault_ : Int32} {faultPlace_ : Int32} {at_ : Int32} {place_ : Int32} {token_ : Int32} {number_ : Int32} {word_ : Int64} {text0_ : Int32} {clauses_ : Int32} {written_ : Int32} {came_ : Int32} {piled_ : Int32} {opens_ : Int32} {isWhole_ : Int32} {sort0_ : Int32} {once_ : Int32} {upper_ : Int64} {under_ : Int64} {wayMany_ : Int32} {stateMany_ : Int32} {a_ : Nat → Int32} {image_ : Nat → Int32} {d_ : Nat → Int32} {texts_ : Nat → Int32} {tape_ : Nat → Int32} {pile_ : Nat → Int32} {named_ : Nat → Int32} {values_ : Nat → Int64} {truth_ : Nat → Int32} {lots_ : Nat → Int32} {shares_ : Nat → Int64} {tried_ : Nat → Int32} {mays_ : Nat → Int32} {parts_ : Nat → Int32} {states_ : Nat → Int32} {camesFrom_ : Nat → Int32} {cameBy_ : Nat → Int32} {chain_ : Nat → Int32} {chains_ : Nat → Int32} {path_ : Nat → Int32} {order_ : Nat → Int32} {l2 : Int32} {l3 : Int32} {l4 : Int32} {l5 : Int32} {l6 : Int32} {x : (Int32 × Int32 × Int32 × (Nat → Int64) × (Nat → Int32)) ⊕ ((Nat → Int64) × (Nat → Int32))} (hr : fb_m_work_47 texts_ named_ l2 l3 l4 l5 l6 values_ truth_ = some x) (hx : Sum.elim (fun s : (Int32 × Int32 × Int32 × (Nat → Int64) × (Nat → Int32)) => AJ (M_m_work, d + 3, rr, h0, hF) 47 [some (.ref 0), none, some (.int l2), some (.int l3), some (.int s.1), some (.int s.2.1), some (.int s.2.2.1)] [] (hM b_ taped_ fault_ faultPlace_ at_ place_ token_ number_ word_ text0_ clauses_ written_ came_ piled_ opens_ isWhole_ sort0_ once_ upper_ under_ wayMany_ stateMany_ a_ image_ d_ texts_ tape_ pile_ named_ s.2.2.2.1 s.2.2.2.2 lots_ shares_ tried_ mays_ parts_ states_ camesFrom_ cameBy_ chain_ chains_ path_ order_)) (fun s : ((Nat → Int64) × (Nat → Int32)) => AJ (M_m_work, d + 3, rr, h0, hF) 359 [] [] (hM b_ taped_ fault_ faultPlace_ at_ place_ token_ number_ word_ text0_ clauses_ written_ came_ piled_ opens_ isWhole_ sort0_ once_ upper_ under_ wayMany_ stateMany_ a_ image_ d_ texts_ tape_ pile_ named_ s.1 s.2 lots_ shares_ tried_ mays_ parts_ states_ camesFrom_ cameBy_ chain_ chains_ path_ order_)) x) : AJ (M_m_work, d + 3, rr, h0, hF) 47 [some (.ref 0), none, some (.int l2), some (.int l3), some (.int l4), some (.int l5), some (.int l6)] [] (hM b_ taped_ fault_ faultPlace_ at_ place_ token_ number_ word_ text0_ clauses_ written_ came_ piled_ opens_ isWhole_ sort0_ once_ upper_ under_ wayMany_ stateMany_ a_ image_ d_ texts_ tape_ pile_ named_ values_ truth_ lots_ shares_ tried_ mays_ parts_ states_ camesFrom_ cameBy_ chain_ chains_ path_ order_) := by
  unfold fb_m_work_47 at hr
  refine k_grd hr (fun g4 hr => ?_)
  refine AJ.g sK_m_work 33 7 (inb (l2 + 2) 2720 ∧ True) 57 [some (.ref 0), none, some (.int l2), some (.int l3), some (.int l4), some (.int l5), some (.int l6)] [.int (texts_ (ix (l2 + 2))), .int l6] (hM b_ taped_ fault_ faultPlace_ at_ place_ token_ number_ word_ text0_ clauses_ written_ came_ piled_ opens_ isWhole_ sort0_ once_ upper_ under_ wayMany_ stateMany_ a_ image_ d_ texts_ tape_ pile_ named_ values_ truth_ lots_ shares_ tried_ mays_ parts_ states_ camesFrom_ cameBy_ chain_ chains_ path_ order_) rfl ⟨g4, trivial⟩ ?_
  refine AJ.iF hr (SK.at sK_m_work 40 rfl) 359 60 rfl rfl rfl (fun hr => ?_) (fun hr => ?_)
  · refine k_grd hr (fun g5 hr => ?_)
    refine AJ.g sK_m_work 41 9 (inb (l3 + (2 * l6)) 2720 ∧ True) 73 [some (.ref 0), none, some (.int l2), some (.int l3), some (.int l4), some (.int l5), some (.int l6), some (.int (texts_ (ix (l3 + (2 * l6)))))] [] (hM b_ taped_ fault_ faultPlace_ at_ place_ token_ number_ word_ text0_ clauses_ written_ came_ piled_ opens_ isWhole_ sort0_ once_ upper_ under_ wayMany_ stateMany_ a_ image_ d_ texts_ tape_ pile_ named_ values_ truth_ lots_ shares_ tried_ mays_ parts_ states_ camesFrom_ cameBy_ chain_ chains_ path_ order_) rfl ⟨g5, trivial⟩ ?_
    replace hr := k_bnd hr
    generalize (texts_ (ix (l3 + (2 * l6))) : Int32) = t6 at hr ⊢
    refine k_grd hr (fun g7 hr => ?_)
    refine AJ.g sK_m_work 50 11 (inb ((l3 + (2 * l6)) + 1) 2720 ∧ True) 88 [some (.ref 0), none, some (.int l2), some (.int l3), some (.int l4), some (.int l5), some (.int l6), some (.int t6), some (.int (texts_ (ix ((l3 + (2 * l6)) + 1))))] [] (hM b_ taped_ fault_ faultPlace_ at_ place_ token_ number_ word_ text0_ clauses_ written_ came_ piled_ opens_ isWhole_ sort0_ once_ upper_ under_ wayMany_ stateMany_ a_ image_ d_ texts_ tape_ pile_ named_ values_ truth_ lots_ shares_ tried_ mays_ parts_ states_ camesFrom_ cameBy_ chain_ chains_ path_ order_) rfl ⟨g7, trivial⟩ ?_
    replace hr := k_bnd hr
    generalize (texts_ (ix ((l3 + (2 * l6)) + 1)) : Int32) = t8 at hr ⊢
    refine AJ.g sK_m_work 61 2 (True) 91 [some (.ref 0), none, some (.int l2), some (.int l3), some (.int l4), some (.int l5), some (.int l6), some (.int t6), some (.int t8)] [.int 1, .int t6] (hM b_ taped_ fault_ faultPlace_ at_ place_ token_ number_ word_ text0_ clauses_ written_ came_ piled_ opens_ isWhole_ sort0_ once_ upper_ under_ wayMany_ stateMany_ a_ image_ d_ texts_ tape_ pile_ named_ values_ truth_ lots_ shares_ tried_ mays_ parts_ states_ camesFrom_ cameBy_ chain_ chains_ path_ order_) rfl trivial ?_
    refine AJ.iT hr (SK.at sK_m_work 63 rfl) 126 94 rfl rfl rfl (fun hr => ?_) (fun hr => ?_)
    · refine AJ.g sK_m_work 80 2 (True) 129 [some (.ref 0), none, some (.int l2), some (.int l3), some (.int l4), some (.int l5), some (.int l6), some (.int t6), some (.int t8)] [.int 2, .int t6] (hM b_ taped_ fault_ faultPlace_ at_ place_ token_ number_ word_ text0_ clauses_ written_ came_ piled_ opens_ isWhole_ sort0_ once_ upper_ under_ wayMany_ stateMany_ a_ image_ d_ texts_ tape_ pile_ named_ values_ truth_ lots_ shares_ tried_ mays_ parts_ states_ camesFrom_ cameBy_ chain_ chains_ path_ order_) rfl trivial ?_
      refine AJ.iF hr (SK.at sK_m_work 82 rfl) 154 132 rfl rfl rfl (fun hr => ?_) (fun hr => ?_)
      · refine k_grd hr (fun g42 hr => ?_)
        refine k_grd hr (fun g43 hr => ?_)
        refine AJ.g sK_m_work 83 13 (inb (l4 - 1) 330 ∧ inb (l4 - 1) 330 ∧ True) 151 [some (.ref 0), none, some (.int l2), some (.int l3), some (.int l4), some (.int l5), some (.int l6), some (.int t6), some (.int t8)] [] (hM b_ taped_ fault_ faultPlace_ at_ place_ token_ number_ word_ text0_ clauses_ written_ came_ piled_ opens_ isWhole_ sort0_ once_ upper_ under_ wayMany_ stateMany_ a_ image_ d_ texts_ tape_ pile_ named_ (vp_updL values_ (ix (l4 - 1)) (-(values_ (ix (l4 - 1))))) truth_ lots_ shares_ tried_ mays_ parts_ states_ camesFrom_ cameBy_ chain_ chains_ path_ order_) rfl ⟨g42, g43, trivial⟩ ?_
        replace hr := k_bnd hr
        generalize (vp_updL values_ (ix (l4 - 1)) (-(values_ (ix (l4 - 1)))) : Nat → Int64) = values_44 at hr ⊢
        refine AJ.g sK_m_work 96 1 (True) 353 [some (.ref 0), none, some (.int l2), some (.int l3), some (.int l4), some (.int l5), some (.int l6), some (.int t6), some (.int t8)] [] (hM b_ taped_ fault_ faultPlace_ at_ place_ token_ number_ word_ text0_ clauses_ written_ came_ piled_ opens_ isWhole_ sort0_ once_ upper_ under_ wayMany_ stateMany_ a_ image_ d_ texts_ tape_ pile_ named_ values_44 truth_ lots_ shares_ tried_ mays_ parts_ states_ camesFrom_ cameBy_ chain_ chains_ path_ order_) rfl trivial ?_
        refine AJ.g sK_m_work 203 2 (True) 47 [some (.ref 0), none, some (.int l2), some (.int l3), some (.int l4), some (.int l5), some (.int (l6 + 1)), some (.int t6), some (.int t8)] [] (hM b_ taped_ fault_ faultPlace_ at_ place_ token_ number_ word_ text0_ clauses_ written_ came_ piled_ opens_ isWhole_ sort0_ once_ upper_ under_ wayMany_ stateMany_ a_ image_ d_ texts_ tape_ pile_ named_ values_44 truth_ lots_ shares_ tried_ mays_ parts_ states_ camesFrom_ cameBy_ chain_ chains_ path_ order_) rfl trivial ?_
        cases hr
        refine AJ.fg [true, false, true, true, true, true, true] [some (.ref 0), none, some (.int l2), some (.int l3), some (.int l4), some (.int l5), some (.int (l6 + 1))] rfl ?_
        exact hx
      · refine AJ.g sK_m_work 97 2 (True) 158 [some (.ref 0), none, some (.int l2), some (.int l3), some (.int l4), some (.int l5), some (.int l6), some (.int t6), some (.int t8)] [.int 10, .int t6] (hM b_ taped_ fault_ faultPlace_ at_ place_ token_ number_ word_ text0_ clauses_ written_ came_ piled_ opens_ isWhole_ sort0_ once_ upper_ under_ wayMany_ stateMany_ a_ image_ d_ texts_ tape_ pile_ named_ values_ truth_ lots_ shares_ tried_ mays_ parts_ states_ camesFrom_ cameBy_ chain_ chains_ path_ order_) rfl trivial ?_
        refine AJ.iF hr (SK.at sK_m_work 99 rfl) 197 161 rfl rfl rfl (fun hr => ?_) (fun hr => ?_)
        · refine k_grd hr (fun g36 hr => ?_)
          refine k_grd hr (fun g37 hr => ?_)
          refine AJ.g sK_m_work 100 17 (inb ((l4 + (-1)) - 1) 330 ∧ inb (l4 + (-1)) 330 ∧ True) 190 [some (.ref 0), none, some (.int l2), some (.int l3), some (.int (l4 + (-1))), some (.int l5), some (.int l6), some (.int t6), some (.int t8)] [.long (values_ (ix (l4 + (-1)))), .long (values_ (ix ((l4 + (-1)) - 1))), .int t6, .int ((l4 + (-1)) - 1), .ref 8] (hM b_ taped_ fault_ faultPlace_ at_ place_ token_ number_ word_ text0_ clauses_ written_ came_ piled_ opens_ isWhole_ sort0_ once_ upper_ under_ wayMany_ stateMany_ a_ image_ d_ texts_ tape_ pile_ named_ values_ truth_ lots_ shares_ tried_ mays_ parts_ states_ camesFrom_ cameBy_ chain_ chains_ path_ order_) rfl ⟨g36, g37, trivial⟩ ?_
          refine k_b1 hr (fun r38 e41 hr => ?_)
          refine AJ.dS mk_m_two (SK.at sK_m_work 117 rfl) lk_12_252 (c_m_two e41) [] [] [.int ((l4 + (-1)) - 1), .ref 8] 193 [.long r38, .int ((l4 + (-1)) - 1), .ref 8] (hM b_ taped_ fault_ faultPlace_ at_ place_ token_ number_ word_ text0_ clauses_ written_ came_ piled_ opens_ isWhole_ sort0_ once_ upper_ under_ wayMany_ stateMany_ a_ image_ d_ texts_ tape_ pile_ named_ values_ truth_ lots_ shares_ tried_ mays_ parts_ states_ camesFrom_ cameBy_ chain_ chains_ path_ order_) rfl rfl rfl rfl rfl rfl rfl (Nat.le_of_ble_eq_true rfl) rfl rfl rfl ?_
          refine k_grd hr (fun g39 hr => ?_)
          refine AJ.g sK_m_work 118 1 (inb ((l4 + (-1)) - 1) 330 ∧ True) 194 [some (.ref 0), none, some (.int l2), some (.int l3), some (.int (l4 + (-1))), some (.int l5), some (.int l6), some (.int t6), some (.int t8)] [] (hM b_ taped_ fault_ faultPlace_ at_ place_ token_ number_ word_ text0_ clauses_ written_ came_ piled_ opens_ isWhole_ sort0_ once_ upper_ under_ wayMany_ stateMany_ a_ image_ d_ texts_ tape_ pile_ named_ (vp_updL values_ (ix ((l4 + (-1)) - 1)) r38) truth_ lots_ shares_ tried_ mays_ parts_ states_ camesFrom_ cameBy_ chain_ chains_ path_ order_) rfl ⟨g39, trivial⟩ ?_
          replace hr := k_bnd hr
          generalize (vp_updL values_ (ix ((l4 + (-1)) - 1)) r38 : Nat → Int64) = values_40 at hr ⊢
          refine AJ.g sK_m_work 119 1 (True) 353 [some (.ref 0), none, some (.int l2), some (.int l3), some (.int (l4 + (-1))), some (.int l5), some (.int l6), some (.int t6), some (.int t8)] [] (hM b_ taped_ fault_ faultPlace_ at_ place_ token_ number_ word_ text0_ clauses_ written_ came_ piled_ opens_ isWhole_ sort0_ once_ upper_ under_ wayMany_ stateMany_ a_ image_ d_ texts_ tape_ pile_ named_ values_40 truth_ lots_ shares_ tried_ mays_ parts_ states_ camesFrom_ cameBy_ chain_ chains_ path_ order_) rfl trivial ?_
          refine AJ.g sK_m_work 203 2 (True) 47 [some (.ref 0), none, some (.int l2), some (.int l3), some (.int (l4 + (-1))), some (.int l5), some (.int (l6 + 1)), some (.int t6), some (.int t8)] [] (hM b_ taped_ fault_ faultPlace_ at_ place_ token_ number_ word_ text0_ clauses_ written_ came_ piled_ opens_ isWhole_ sort0_ once_ upper_ under_ wayMany_ stateMany_ a_ image_ d_ texts_ tape_ pile_ named_ values_40 truth_ lots_ shares_ tried_ mays_ parts_ states_ camesFrom_ cameBy_ chain_ chains_ path_ order_) rfl trivial ?_
          cases hr
          refine AJ.fg [true, false, true, true, true, true, true] [some (.ref 0), none, some (.int l2), some (.int l3), some (.int (l4 + (-1))), some (.int l5), some (.int (l6 + 1))] rfl ?_
          exact hx
        · refine AJ.g sK_m_work 120 2 (True) 201 [some (.ref 0), none, some (.int l2), some (.int l3), some (.int l4), some (.int l5), some (.int l6), some (.int t6), some (.int t8)] [.int 20, .int t6] (hM b_ taped_ fault_ faultPlace_ at_ place_ token_ number_ word_ text0_ clauses_ written_ came_ piled_ opens_ isWhole_ sort0_ once_ upper_ under_ wayMany_ stateMany_ a_ image_ d_ texts_ tape_ pile_ named_ values_ truth_ lots_ shares_ tried_ mays_ parts_ states_ camesFrom_ cameBy_ chain_ chains_ path_ order_) rfl trivial ?_
          refine AJ.iF hr (SK.at sK_m_work 122 rfl) 241 204 rfl rfl rfl (fun hr => ?_) (fun hr => ?_)
          · refine k_grd hr (fun g30 hr => ?_)
            refine k_grd hr (fun g31 hr => ?_)
            refine AJ.g sK_m_work 123 15 (inb (l4 + (-2)) 330 ∧ inb ((l4 + (-2)) + 1) 330 ∧ True) 231 [some (.ref 0), none, some (.int l2), some (.int l3), some (.int (l4 + (-2))), some (.int l5), some (.int l6), some (.int t6), some (.int t8)] [.long (values_ (ix ((l4 + (-2)) + 1))), .long (values_ (ix (l4 + (-2)))), .int t6, .int l5, .ref 9] (hM b_ taped_ fault_ faultPlace_ at_ place_ token_ number_ word_ text0_ clauses_ written_ came_ piled_ opens_ isWhole_ sort0_ once_ upper_ under_ wayMany_ stateMany_ a_ image_ d_ texts_ tape_ pile_ named_ values_ truth_ lots_ shares_ tried_ mays_ parts_ states_ camesFrom_ cameBy_ chain_ chains_ path_ order_) rfl ⟨g30, g31, trivial⟩ ?_
            refine k_b1 hr (fun r32 e35 hr => ?_)
            refine AJ.dS mk_m_isAsked (SK.at sK_m_work 138 rfl) lk_12_256 (c_m_isAsked e35) [] [] [.int l5, .ref 9] 234 [.int r32, .int l5, .ref 9] (hM b_ taped_ fault_ faultPlace_ at_ place_ token_ number_ word_ text0_ clauses_ written_ came_ piled_ opens_ isWhole_ sort0_ once_ upper_ under_ wayMany_ stateMany_ a_ image_ d_ texts_ tape_ pile_ named_ values_ truth_ lots_ shares_ tried_ mays_ parts_ states_ camesFrom_ cameBy_ chain_ chains_ path_ order_) rfl rfl rfl rfl rfl rfl rfl (Nat.le_of_ble_eq_true rfl) rfl rfl rfl ?_
            refine k_grd hr (fun g33 hr => ?_)
            refine AJ.g sK_m_work 139 1 (inb l5 330 ∧ True) 235 [some (.ref 0), none, some (.int l2), some (.int l3), some (.int (l4 + (-2))), some (.int l5), some (.int l6), some (.int t6), some (.int t8)] [] (hM b_ taped_ fault_ faultPlace_ at_ place_ token_ number_ word_ text0_ clauses_ written_ came_ piled_ opens_ isWhole_ sort0_ once_ upper_ under_ wayMany_ stateMany_ a_ image_ d_ texts_ tape_ pile_ named_ values_ (upd truth_ (ix l5) (vp_nar .boolean r32)) lots_ shares_ tried_ mays_ parts_ states_ camesFrom_ cameBy_ chain_ chains_ path_ order_) rfl ⟨g33, trivial⟩ ?_
            replace hr := k_bnd hr
            generalize (upd truth_ (ix l5) (vp_nar .boolean r32) : Nat → Int32) = truth_34 at hr ⊢
            refine AJ.g sK_m_work 140 2 (True) 353 [some (.ref 0), none, some (.int l2), some (.int l3), some (.int (l4 + (-2))), some (.int (l5 + 1)), some (.int l6), some (.int t6), some (.int t8)] [] (hM b_ taped_ fault_ faultPlace_ at_ place_ token_ number_ word_ text0_ clauses_ written_ came_ piled_ opens_ isWhole_ sort0_ once_ upper_ under_ wayMany_ stateMany_ a_ image_ d_ texts_ tape_ pile_ named_ values_ truth_34 lots_ shares_ tried_ mays_ parts_ states_ camesFrom_ cameBy_ chain_ chains_ path_ order_) rfl trivial ?_
            refine AJ.g sK_m_work 203 2 (True) 47 [some (.ref 0), none, some (.int l2), some (.int l3), some (.int (l4 + (-2))), some (.int (l5 + 1)), some (.int (l6 + 1)), some (.int t6), some (.int t8)] [] (hM b_ taped_ fault_ faultPlace_ at_ place_ token_ number_ word_ text0_ clauses_ written_ came_ piled_ opens_ isWhole_ sort0_ once_ upper_ under_ wayMany_ stateMany_ a_ image_ d_ texts_ tape_ pile_ named_ values_ truth_34 lots_ shares_ tried_ mays_ parts_ states_ camesFrom_ cameBy_ chain_ chains_ path_ order_) rfl trivial ?_
            cases hr
            refine AJ.fg [true, false, true, true, true, true, true] [some (.ref 0), none, some (.int l2), some (.int l3), some (.int (l4 + (-2))), some (.int (l5 + 1)), some (.int (l6 + 1))] rfl ?_
            exact hx
          · refine AJ.g sK_m_work 142 2 (True) 245 [some (.ref 0), none, some (.int l2), some (.int l3), some (.int l4), some (.int l5), some (.int l6), some (.int t6), some (.int t8)] [.int 20, .int t6] (hM b_ taped_ fault_ faultPlace_ at_ place_ token_ number_ word_ text0_ clauses_ written_ came_ piled_ opens_ isWhole_ sort0_ once_ upper_ under_ wayMany_ stateMany_ a_ image_ d_ texts_ tape_ pile_ named_ values_ truth_ lots_ shares_ tried_ mays_ parts_ states_ camesFrom_ cameBy_ chain_ chains_ path_ order_) rfl trivial ?_
            refine AJ.iF hr (SK.at sK_m_work 144 rfl) 277 248 rfl rfl rfl (fun hr => ?_) (fun hr => ?_)
            · refine k_grd hr (fun g25 hr => ?_)
              refine AJ.g sK_m_work 145 11 (inb (l5 - 1) 330 ∧ True) 265 [some (.ref 0), none, some (.int l2), some (.int l3), some (.int l4), some (.int l5), some (.int l6), some (.int t6), some (.int t8)] [.int (truth_ (ix (l5 - 1))), .int (l5 - 1), .ref 9] (hM b_ taped_ fault_ faultPlace_ at_ place_ token_ number_ word_ text0_ clauses_ written_ came_ piled_ opens_ isWhole_ sort0_ once_ upper_ under_ wayMany_ stateMany_ a_ image_ d_ texts_ tape_ pile_ named_ values_ truth_ lots_ shares_ tried_ mays_ parts_ states_ camesFrom_ cameBy_ chain_ chains_ path_ order_) rfl ⟨g25, trivial⟩ ?_
              refine AJ.iF hr (SK.at sK_m_work 156 rfl) 272 268 rfl rfl rfl (fun hr => ?_) (fun hr => ?_)
              · refine AJ.g sK_m_work 157 2 (True) 273 [some (.ref 0), none, some (.int l2), some (.int l3), some (.int l4), some (.int l5), some (.int l6), some (.int t6), some (.int t8)] [.int 1, .int (l5 - 1), .ref 9] (hM b_ taped_ fault_ faultPlace_ at_ place_ token_ number_ word_ text0_ clauses_ written_ came_ piled_ opens_ isWhole_ sort0_ once_ upper_ under_ wayMany_ stateMany_ a_ image_ d_ texts_ tape_ pile_ named_ values_ truth_ lots_ shares_ tried_ mays_ parts_ states_ camesFrom_ cameBy_ chain_ chains_ path_ order_) rfl trivial ?_
                refine k_grd hr (fun g28 hr => ?_)
                refine AJ.g sK_m_work 160 1 (inb (l5 - 1) 330 ∧ True) 274 [some (.ref 0), none, some (.int l2), some (.int l3), some (.int l4), some (.int l5), some (.int l6), some (.int t6), some (.int t8)] [] (hM b_ taped_ fault_ faultPlace_ at_ place_ token_ number_ word_ text0_ clauses_ written_ came_ piled_ opens_ isWhole_ sort0_ once_ upper_ under_ wayMany_ stateMany_ a_ image_ d_ texts_ tape_ pile_ named_ values_ (upd truth_ (ix (l5 - 1)) 1) lots_ shares_ tried_ mays_ parts_ states_ camesFrom_ cameBy_ chain_ chains_ path_ order_) rfl ⟨g28, trivial⟩ ?_
                replace hr := k_bnd hr
                generalize (upd truth_ (ix (l5 - 1)) 1 : Nat → Int32) = truth_29 at hr ⊢
                refine AJ.g sK_m_work 161 1 (True) 353 [some (.ref 0), none, some (.int l2), some (.int l3), some (.int l4), some (.int l5), some (.int l6), some (.int t6), some (.int t8)] [] (hM b_ taped_ fault_ faultPlace_ at_ place_ token_ number_ word_ text0_ clauses_ written_ came_ piled_ opens_ isWhole_ sort0_ once_ upper_ under_ wayMany_ stateMany_ a_ image_ d_ texts_ tape_ pile_ named_ values_ truth_29 lots_ shares_ tried_ mays_ parts_ states_ camesFrom_ cameBy_ chain_ chains_ path_ order_) rfl trivial ?_
                refine AJ.g sK_m_work 203 2 (True) 47 [some (.ref 0), none, some (.int l2), some (.int l3), some (.int l4), some (.int l5), some (.int (l6 + 1)), some (.int t6), some (.int t8)] [] (hM b_ taped_ fault_ faultPlace_ at_ place_ token_ number_ word_ text0_ clauses_ written_ came_ piled_ opens_ isWhole_ sort0_ once_ upper_ under_ wayMany_ stateMany_ a_ image_ d_ texts_ tape_ pile_ named_ values_ truth_29 lots_ shares_ tried_ mays_ parts_ states_ camesFrom_ cameBy_ chain_ chains_ path_ order_) rfl trivial ?_
                cases hr
                refine AJ.fg [true, false, true, true, true, true, true] [some (.ref 0), none, some (.int l2), some (.int l3), some (.int l4), some (.int l5), some (.int (l6 + 1))] rfl ?_
                exact hx
              · refine AJ.g sK_m_work 159 1 (True) 273 [some (.ref 0), none, some (.int l2), some (.int l3), some (.int l4), some (.int l5), some (.int l6), some (.int t6), some (.int t8)] [.int 0, .int (l5 - 1), .ref 9] (hM b_ taped_ fault_ faultPlace_ at_ place_ token_ number_ word_ text0_ clauses_ written_ came_ piled_ opens_ isWhole_ sort0_ once_ upper_ under_ wayMany_ stateMany_ a_ image_ d_ texts_ tape_ pile_ named_ values_ truth_ lots_ shares_ tried_ mays_ parts_ states_ camesFrom_ cameBy_ chain_ chains_ path_ order_) rfl trivial ?_
                refine k_grd hr (fun g26 hr => ?_)
                refine AJ.g sK_m_work 160 1 (inb (l5 - 1) 330 ∧ True) 274 [some (.ref 0), none, some (.int l2), some (.int l3), some (.int l4), some (.int l5), some (.int l6), some (.int t6), some (.int t8)] [] (hM b_ taped_ fault_ faultPlace_ at_ place_ token_ number_ word_ text0_ clauses_ written_ came_ piled_ opens_ isWhole_ sort0_ once_ upper_ under_ wayMany_ stateMany_ a_ image_ d_ texts_ tape_ pile_ named_ values_ (upd truth_ (ix (l5 - 1)) 0) lots_ shares_ tried_ mays_ parts_ states_ camesFrom_ cameBy_ chain_ chains_ path_ order_) rfl ⟨g26, trivial⟩ ?_
                replace hr := k_bnd hr
                generalize (upd truth_ (ix (l5 - 1)) 0 : Nat → Int32) = truth_27 at hr ⊢
                refine AJ.g sK_m_work 161 1 (True) 353 [some (.ref 0), none, some (.int l2), some (.int l3), some (.int l4), some (.int l5), some (.int l6), some (.int t6), some (.int t8)] [] (hM b_ taped_ fault_ faultPlace_ at_ place_ token_ number_ word_ text0_ clauses_ written_ came_ piled_ opens_ isWhole_ sort0_ once_ upper_ under_ wayMany_ stateMany_ a_ image_ d_ texts_ tape_ pile_ named_ values_ truth_27 lots_ shares_ tried_ mays_ parts_ states_ camesFrom_ cameBy_ chain_ chains_ path_ order_) rfl trivial ?_
                refine AJ.g sK_m_work 203 2 (True) 47 [some (.ref 0), none, some (.int l2), some (.int l3), some (.int l4), some (.int l5), some (.int (l6 + 1)), some (.int t6), some (.int t8)] [] (hM b_ taped_ fault_ faultPlace_ at_ place_ token_ number_ word_ text0_ clauses_ written_ came_ piled_ opens_ isWhole_ sort0_ once_ upper_ under_ wayMany_ stateMany_ a_ image_ d_ texts_ tape_ pile_ named_ values_ truth_27 lots_ shares_ tried_ mays_ parts_ states_ camesFrom_ cameBy_ chain_ chains_ path_ order_) rfl trivial ?_
                cases hr
                refine AJ.fg [true, false, true, true, true, true, true] [some (.ref 0), none, some (.int l2), some (.int l3), some (.int l4), some (.int l5), some (.int (l6 + 1))] rfl ?_
                exact hx
            · refine AJ.g sK_m_work 162 8 (True) 292 [some (.ref 0), none, some (.int l2), some (.int l3), some (.int l4), some (.int (l5 + (-1))), some (.int l6), some (.int t6), some (.int t8)] [.int 21, .int t6, .int ((l5 + (-1)) - 1), .ref 9] (hM b_ taped_ fault_ faultPlace_ at_ place_ token_ number_ word_ text0_ clauses_ written_ came_ piled_ opens_ isWhole_ sort0_ once_ upper_ under_ wayMany_ stateMany_ a_ image_ d_ texts_ tape_ pile_ named_ values_ truth_ lots_ shares_ tried_ mays_ parts_ states_ camesFrom_ cameBy_ chain_ chains_ path_ order_) rfl trivial ?_
              refine AJ.iF hr (SK.at sK_m_work 170 rfl) 325 295 rfl rfl rfl (fun hr => ?_) (fun hr => ?_)
              · refine k_grd hr (fun g17 hr => ?_)
                refine AJ.g sK_m_work 171 6 (inb ((l5 + (-1)) - 1) 330 ∧ True) 304 [some (.ref 0), none, some (.int l2), some (.int l3), some (.int l4), some (.int (l5 + (-1))), some (.int l6), some (.int t6), some (.int t8)] [.int (truth_ (ix ((l5 + (-1)) - 1))), .int ((l5 + (-1)) - 1), .ref 9] (hM b_ taped_ fault_ faultPlace_ at_ place_ token_ number_ word_ text0_ clauses_ written_ came_ piled_ opens_ isWhole_ sort0_ once_ upper_ under_ wayMany_ stateMany_ a_ image_ d_ texts_ tape_ pile_ named_ values_ truth_ lots_ shares_ tried_ mays_ parts_ states_ camesFrom_ cameBy_ chain_ chains_ path_ order_) rfl ⟨g17, trivial⟩ ?_
                refine AJ.iT hr (SK.at sK_m_work 177 rfl) 321 307 rfl rfl rfl (fun hr => ?_) (fun hr => ?_)
                · refine AJ.g sK_m_work 185 2 (True) 352 [some (.ref 0), none, some (.int l2), some (.int l3), some (.int l4), some (.int (l5 + (-1))), some (.int l6), some (.int t6), some (.int t8)] [.int 0, .int ((l5 + (-1)) - 1), .ref 9] (hM b_ taped_ fault_ faultPlace_ at_ place_ token_ number_ word_ text0_ clauses_ written_ came_ piled_ opens_ isWhole_ sort0_ once_ upper_ under_ wayMany_ stateMany_ a_ image_ d_ texts_ tape_ pile_ named_ values_ truth_ lots_ shares_ tried_ mays_ parts_ states_ camesFrom_ cameBy_ chain_ chains_ path_ order_) rfl trivial ?_
                  refine k_grd hr (fun g18 hr => ?_)
                  refine AJ.g sK_m_work 202 1 (inb ((l5 + (-1)) - 1) 330 ∧ True) 353 [some (.ref 0), none, some (.int l2), some (.int l3), some (.int l4), some (.int (l5 + (-1))), some (.int l6), some (.int t6), some (.int t8)] [] (hM b_ taped_ fault_ faultPlace_ at_ place_ token_ number_ word_ text0_ clauses_ written_ came_ piled_ opens_ isWhole_ sort0_ once_ upper_ under_ wayMany_ stateMany_ a_ image_ d_ texts_ tape_ pile_ named_ values_ (upd truth_ (ix ((l5 + (-1)) - 1)) 0) lots_ shares_ tried_ mays_ parts_ states_ camesFrom_ cameBy_ chain_ chains_ path_ order_) rfl ⟨g18, trivial⟩ ?_
                  replace hr := k_bnd hr
                  generalize (upd truth_ (ix ((l5 + (-1)) - 1)) 0 : Nat → Int32) = truth_19 at hr ⊢
                  refine AJ.g sK_m_work 203 2 (True) 47 [some (.ref 0), none, some (.int l2), some (.int l3), some (.int l4), some (.int (l5 + (-1))), some (.int (l6 + 1)), some (.int t6), some (.int t8)] [] (hM b_ taped_ fault_ faultPlace_ at_ place_ token_ number_ word_ text0_ clauses_ written_ came_ piled_ opens_ isWhole_ sort0_ once_ upper_ under_ wayMany_ stateMany_ a_ image_ d_ texts_ tape_ pile_ named_ values_ truth_19 lots_ shares_ tried_ mays_ parts_ states_ camesFrom_ cameBy_ chain_ chains_ path_ order_) rfl trivial ?_
                  cases hr
                  refine AJ.fg [true, false, true, true, true, true, true] [some (.ref 0), none, some (.int l2), some (.int l3), some (.int l4), some (.int (l5 + (-1))), some (.int (l6 + 1))] rfl ?_
                  exact hx
                · refine k_grd hr (fun g20 hr => ?_)
                  refine AJ.g sK_m_work 178 4 (inb (l5 + (-1)) 330 ∧ True) 314 [some (.ref 0), none, some (.int l2), some (.int l3), some (.int l4), some (.int (l5 + (-1))), some (.int l6), some (.int t6), some (.int t8)] [.int (truth_ (ix (l5 + (-1)))), .int ((l5 + (-1)) - 1), .ref 9] (hM b_ taped_ fault_ faultPlace_ at_ place_ token_ number_ word_ text0_ clauses_ written_ came_ piled_ opens_ isWhole_ sort0_ once_ upper_ under_ wayMany_ stateMany_ a_ image_ d_ texts_ tape_ pile_ named_ values_ truth_ lots_ shares_ tried_ mays_ parts_ states_ camesFrom_ cameBy_ chain_ chains_ path_ order_) rfl ⟨g20, trivial⟩ ?_
                  refine AJ.iT hr (SK.at sK_m_work 182 rfl) 321 317 rfl rfl rfl (fun hr => ?_) (fun hr => ?_)
                  · refine AJ.g sK_m_work 185 2 (True) 352 [some (.ref 0), none, some (.int l2), some (.int l3), some (.int l4), some (.int (l5 + (-1))), some (.int l6), some (.int t6), some (.int t8)] [.int 0, .int ((l5 + (-1)) - 1), .ref 9] (hM b_ taped_ fault_ faultPlace_ at_ place_ token_ number_ word_ text0_ clauses_ written_ came_ piled_ opens_ isWhole_ sort0_ once_ upper_ under_ wayMany_ stateMany_ a_ image_ d_ texts_ tape_ pile_ named_ values_ truth_ lots_ shares_ tried_ mays_ parts_ states_ camesFrom_ cameBy_ chain_ chains_ path_ order_) rfl trivial ?_
                    refine k_grd hr (fun g21 hr => ?_)
                    refine AJ.g sK_m_work 202 1 (inb ((l5 + (-1)) - 1) 330 ∧ True) 353 [some (.ref 0), none, some (.int l2), some (.int l3), some (.int l4), some (.int (l5 + (-1))), some (.int l6), some (.int t6), some (.int t8)] [] (hM b_ taped_ fault_ faultPlace_ at_ place_ token_ number_ word_ text0_ clauses_ written_ came_ piled_ opens_ isWhole_ sort0_ once_ upper_ under_ wayMany_ stateMany_ a_ image_ d_ texts_ tape_ pile_ named_ values_ (upd truth_ (ix ((l5 + (-1)) - 1)) 0) lots_ shares_ tried_ mays_ parts_ states_ camesFrom_ cameBy_ chain_ chains_ path_ order_) rfl ⟨g21, trivial⟩ ?_
                    replace hr := k_bnd hr
                    generalize (upd truth_ (ix ((l5 + (-1)) - 1)) 0 : Nat → Int32) = truth_22 at hr ⊢
                    refine AJ.g sK_m_work 203 2 (True) 47 [some (.ref 0), none, some (.int l2), some (.int l3), some (.int l4), some (.int (l5 + (-1))), some (.int (l6 + 1)), some (.int t6), some (.int t8)] [] (hM b_ taped_ fault_ faultPlace_ at_ place_ token_ number_ word_ text0_ clauses_ written_ came_ piled_ opens_ isWhole_ sort0_ once_ upper_ under_ wayMany_ stateMany_ a_ image_ d_ texts_ tape_ pile_ named_ values_ truth_22 lots_ shares_ tried_ mays_ parts_ states_ camesFrom_ cameBy_ chain_ chains_ path_ order_) rfl trivial ?_
                    cases hr
                    refine AJ.fg [true, false, true, true, true, true, true] [some (.ref 0), none, some (.int l2), some (.int l3), some (.int l4), some (.int (l5 + (-1))), some (.int (l6 + 1))] rfl ?_
                    exact hx
                  · refine AJ.g sK_m_work 183 2 (True) 352 [some (.ref 0), none, some (.int l2), some (.int l3), some (.int l4), some (.int (l5 + (-1))), some (.int l6), some (.int t6), some (.int t8)] [.int 1, .int ((l5 + (-1)) - 1), .ref 9] (hM b_ taped_ fault_ faultPlace_ at_ place_ token_ number_ word_ text0_ clauses_ written_ came_ piled_ opens_ isWhole_ sort0_ once_ upper_ under_ wayMany_ stateMany_ a_ image_ d_ texts_ tape_ pile_ named_ values_ truth_ lots_ shares_ tried_ mays_ parts_ states_ camesFrom_ cameBy_ chain_ chains_ path_ order_) rfl trivial ?_
                    refine k_grd hr (fun g23 hr => ?_)
                    refine AJ.g sK_m_work 202 1 (inb ((l5 + (-1)) - 1) 330 ∧ True) 353 [some (.ref 0), none, some (.int l2), some (.int l3), some (.int l4), some (.int (l5 + (-1))), some (.int l6), some (.int t6), some (.int t8)] [] (hM b_ taped_ fault_ faultPlace_ at_ place_ token_ number_ word_ text0_ clauses_ written_ came_ piled_ opens_ isWhole_ sort0_ once_ upper_ under_ wayMany_ stateMany_ a_ image_ d_ texts_ tape_ pile_ named_ values_ (upd truth_ (ix ((l5 + (-1)) - 1)) 1) lots_ shares_ tried_ mays_ parts_ states_ camesFrom_ cameBy_ chain_ chains_ path_ order_) rfl ⟨g23, trivial⟩ ?_
                    replace hr := k_bnd hr
                    generalize (upd truth_ (ix ((l5 + (-1)) - 1)) 1 : Nat → Int32) = truth_24 at hr ⊢
                    refine AJ.g sK_m_work 203 2 (True) 47 [some (.ref 0), none, some (.int l2), some (.int l3), some (.int l4), some (.int (l5 + (-1))), some (.int (l6 + 1)), some (.int t6), some (.int t8)] [] (hM b_ taped_ fault_ faultPlace_ at_ place_ token_ number_ word_ text0_ clauses_ written_ came_ piled_ opens_ isWhole_ sort0_ once_ upper_ under_ wayMany_ stateMany_ a_ image_ d_ texts_ tape_ pile_ named_ values_ truth_24 lots_ shares_ tried_ mays_ parts_ states_ camesFrom_ cameBy_ chain_ chains_ path_ order_) rfl trivial ?_
                    cases hr
                    refine AJ.fg [true, false, true, true, true, true, true] [some (.ref 0), none, some (.int l2), some (.int l3), some (.int l4), some (.int (l5 + (-1))), some (.int (l6 + 1))] rfl ?_
                    exact hx
              · refine k_grd hr (fun g9 hr => ?_)
                refine AJ.g sK_m_work 187 6 (inb ((l5 + (-1)) - 1) 330 ∧ True) 334 [some (.ref 0), none, some (.int l2), some (.int l3), some (.int l4), some (.int (l5 + (-1))), some (.int l6), some (.int t6), some (.int t8)] [.int (truth_ (ix ((l5 + (-1)) - 1))), .int ((l5 + (-1)) - 1), .ref 9] (hM b_ taped_ fault_ faultPlace_ at_ place_ token_ number_ word_ text0_ clauses_ written_ came_ piled_ opens_ isWhole_ sort0_ once_ upper_ under_ wayMany_ stateMany_ a_ image_ d_ texts_ tape_ pile_ named_ values_ truth_ lots_ shares_ tried_ mays_ parts_ states_ camesFrom_ cameBy_ chain_ chains_ path_ order_) rfl ⟨g9, trivial⟩ ?_
                refine AJ.iF hr (SK.at sK_m_work 193 rfl) 347 337 rfl rfl rfl (fun hr => ?_) (fun hr => ?_)
                · refine k_grd hr (fun g12 hr => ?_)
                  refine AJ.g sK_m_work 194 4 (inb (l5 + (-1)) 330 ∧ True) 344 [some (.ref 0), none, some (.int l2), some (.int l3), some (.int l4), some (.int (l5 + (-1))), some (.int l6), some (.int t6), some (.int t8)] [.int (truth_ (ix (l5 + (-1)))), .int ((l5 + (-1)) - 1), .ref 9] (hM b_ taped_ fault_ faultPlace_ at_ place_ token_ number_ word_ text0_ clauses_ written_ came_ piled_ opens_ isWhole_ sort0_ once_ upper_ under_ wayMany_ stateMany_ a_ image_ d_ texts_ tape_ pile_ named_ values_ truth_ lots_ shares_ tried_ mays_ parts_ states_ camesFrom_ cameBy_ chain_ chains_ path_ order_) rfl ⟨g12, trivial⟩ ?_
                  refine AJ.iT hr (SK.at sK_m_work 198 rfl) 351 347 rfl rfl rfl (fun hr => ?_) (fun hr => ?_)
                  · refine AJ.g sK_m_work 201 1 (True) 352 [some (.ref 0), none, some (.int l2), some (.int l3), some (.int l4), some (.int (l5 + (-1))), some (.int l6), some (.int t6), some (.int t8)] [.int 0, .int ((l5 + (-1)) - 1), .ref 9] (hM b_ taped_ fault_ faultPlace_ at_ place_ token_ number_ word_ text0_ clauses_ written_ came_ piled_ opens_ isWhole_ sort0_ once_ upper_ under_ wayMany_ stateMany_ a_ image_ d_ texts_ tape_ pile_ named_ values_ truth_ lots_ shares_ tried_ mays_ parts_ states_ camesFrom_ cameBy_ chain_ chains_ path_ order_) rfl trivial ?_
                    refine k_grd hr (fun g13 hr => ?_)
                    refine AJ.g sK_m_work 202 1 (inb ((l5 + (-1)) - 1) 330 ∧ True) 353 [some (.ref 0), none, some (.int l2), some (.int l3), some (.int l4), some (.int (l5 + (-1))), some (.int l6), some (.int t6), some (.int t8)] [] (hM b_ taped_ fault_ faultPlace_ at_ place_ token_ number_ word_ text0_ clauses_ written_ came_ piled_ opens_ isWhole_ sort0_ once_ upper_ under_ wayMany_ stateMany_ a_ image_ d_ texts_ tape_ pile_ named_ values_ (upd truth_ (ix ((l5 + (-1)) - 1)) 0) lots_ shares_ tried_ mays_ parts_ states_ camesFrom_ cameBy_ chain_ chains_ path_ order_) rfl ⟨g13, trivial⟩ ?_
                    replace hr := k_bnd hr
                    generalize (upd truth_ (ix ((l5 + (-1)) - 1)) 0 : Nat → Int32) = truth_14 at hr ⊢
                    refine AJ.g sK_m_work 203 2 (True) 47 [some (.ref 0), none, some (.int l2), some (.int l3), some (.int l4), some (.int (l5 + (-1))), some (.int (l6 + 1)), some (.int t6), some (.int t8)] [] (hM b_ taped_ fault_ faultPlace_ at_ place_ token_ number_ word_ text0_ clauses_ written_ came_ piled_ opens_ isWhole_ sort0_ once_ upper_ under_ wayMany_ stateMany_ a_ image_ d_ texts_ tape_ pile_ named_ values_ truth_14 lots_ shares_ tried_ mays_ parts_ states_ camesFrom_ cameBy_ chain_ chains_ path_ order_) rfl trivial ?_
                    cases hr
                    refine AJ.fg [true, false, true, true, true, true, true] [some (.ref 0), none, some (.int l2), some (.int l3), some (.int l4), some (.int (l5 + (-1))), some (.int (l6 + 1))] rfl ?_
                    exact hx
                  · refine AJ.g sK_m_work 199 2 (True) 352 [some (.ref 0), none, some (.int l2), some (.int l3), some (.int l4), some (.int (l5 + (-1))), some (.int l6), some (.int t6), some (.int t8)] [.int 1, .int ((l5 + (-1)) - 1), .ref 9] (hM b_ taped_ fault_ faultPlace_ at_ place_ token_ number_ word_ text0_ clauses_ written_ came_ piled_ opens_ isWhole_ sort0_ once_ upper_ under_ wayMany_ stateMany_ a_ image_ d_ texts_ tape_ pile_ named_ values_ truth_ lots_ shares_ tried_ mays_ parts_ states_ camesFrom_ cameBy_ chain_ chains_ path_ order_) rfl trivial ?_
                    refine k_grd hr (fun g15 hr => ?_)
                    refine AJ.g sK_m_work 202 1 (inb ((l5 + (-1)) - 1) 330 ∧ True) 353 [some (.ref 0), none, some (.int l2), some (.int l3), some (.int l4), some (.int (l5 + (-1))), some (.int l6), some (.int t6), some (.int t8)] [] (hM b_ taped_ fault_ faultPlace_ at_ place_ token_ number_ word_ text0_ clauses_ written_ came_ piled_ opens_ isWhole_ sort0_ once_ upper_ under_ wayMany_ stateMany_ a_ image_ d_ texts_ tape_ pile_ named_ values_ (upd truth_ (ix ((l5 + (-1)) - 1)) 1) lots_ shares_ tried_ mays_ parts_ states_ camesFrom_ cameBy_ chain_ chains_ path_ order_) rfl ⟨g15, trivial⟩ ?_
                    replace hr := k_bnd hr
                    generalize (upd truth_ (ix ((l5 + (-1)) - 1)) 1 : Nat → Int32) = truth_16 at hr ⊢
                    refine AJ.g sK_m_work 203 2 (True) 47 [some (.ref 0), none, some (.int l2), some (.int l3), some (.int l4), some (.int (l5 + (-1))), some (.int (l6 + 1)), some (.int t6), some (.int t8)] [] (hM b_ taped_ fault_ faultPlace_ at_ place_ token_ number_ word_ text0_ clauses_ written_ came_ piled_ opens_ isWhole_ sort0_ once_ upper_ under_ wayMany_ stateMany_ a_ image_ d_ texts_ tape_ pile_ named_ values_ truth_16 lots_ shares_ tried_ mays_ parts_ states_ camesFrom_ cameBy_ chain_ chains_ path_ order_) rfl trivial ?_
                    cases hr
                    refine AJ.fg [true, false, true, true, true, true, true] [some (.ref 0), none, some (.int l2), some (.int l3), some (.int l4), some (.int (l5 + (-1))), some (.int (l6 + 1))] rfl ?_
                    exact hx
                · refine AJ.g sK_m_work 199 2 (True) 352 [some (.ref 0), none, some (.int l2), some (.int l3), some (.int l4), some (.int (l5 + (-1))), some (.int l6), some (.int t6), some (.int t8)] [.int 1, .int ((l5 + (-1)) - 1), .ref 9] (hM b_ taped_ fault_ faultPlace_ at_ place_ token_ number_ word_ text0_ clauses_ written_ came_ piled_ opens_ isWhole_ sort0_ once_ upper_ under_ wayMany_ stateMany_ a_ image_ d_ texts_ tape_ pile_ named_ values_ truth_ lots_ shares_ tried_ mays_ parts_ states_ camesFrom_ cameBy_ chain_ chains_ path_ order_) rfl trivial ?_
                  refine k_grd hr (fun g10 hr => ?_)
                  refine AJ.g sK_m_work 202 1 (inb ((l5 + (-1)) - 1) 330 ∧ True) 353 [some (.ref 0), none, some (.int l2), some (.int l3), some (.int l4), some (.int (l5 + (-1))), some (.int l6), some (.int t6), some (.int t8)] [] (hM b_ taped_ fault_ faultPlace_ at_ place_ token_ number_ word_ text0_ clauses_ written_ came_ piled_ opens_ isWhole_ sort0_ once_ upper_ under_ wayMany_ stateMany_ a_ image_ d_ texts_ tape_ pile_ named_ values_ (upd truth_ (ix ((l5 + (-1)) - 1)) 1) lots_ shares_ tried_ mays_ parts_ states_ camesFrom_ cameBy_ chain_ chains_ path_ order_) rfl ⟨g10, trivial⟩ ?_
                  replace hr := k_bnd hr
                  generalize (upd truth_ (ix ((l5 + (-1)) - 1)) 1 : Nat → Int32) = truth_11 at hr ⊢
                  refine AJ.g sK_m_work 203 2 (True) 47 [some (.ref 0), none, some (.int l2), some (.int l3), some (.int l4), some (.int (l5 + (-1))), some (.int (l6 + 1)), some (.int t6), some (.int t8)] [] (hM b_ taped_ fault_ faultPlace_ at_ place_ token_ number_ word_ text0_ clauses_ written_ came_ piled_ opens_ isWhole_ sort0_ once_ upper_ under_ wayMany_ stateMany_ a_ image_ d_ texts_ tape_ pile_ named_ values_ truth_11 lots_ shares_ tried_ mays_ parts_ states_ camesFrom_ cameBy_ chain_ chains_ path_ order_) rfl trivial ?_
                  cases hr
                  refine AJ.fg [true, false, true, true, true, true, true] [some (.ref 0), none, some (.int l2), some (.int l3), some (.int l4), some (.int (l5 + (-1))), some (.int (l6 + 1))] rfl ?_
                  exact hx
    · refine AJ.g sK_m_work 64 4 (True) 102 [some (.ref 0), none, some (.int l2), some (.int l3), some (.int l4), some (.int l5), some (.int l6), some (.int t6), some (.int t8)] [.int t6, .int l4, .ref 8] (hM b_ taped_ fault_ faultPlace_ at_ place_ token_ number_ word_ text0_ clauses_ written_ came_ piled_ opens_ isWhole_ sort0_ once_ upper_ under_ wayMany_ stateMany_ a_ image_ d_ texts_ tape_ pile_ named_ values_ truth_ lots_ shares_ tried_ mays_ parts_ states_ camesFrom_ cameBy_ chain_ chains_ path_ order_) rfl trivial ?_
      refine AJ.iF hr (SK.at sK_m_work 68 rfl) 111 105 rfl rfl rfl (fun hr => ?_) (fun hr => ?_)
      · refine AJ.g sK_m_work 69 3 (True) 119 [some (.ref 0), none, some (.int l2), some (.int l3), some (.int l4), some (.int l5), some (.int l6), some (.int t6), some (.int t8)] [.long t8.toInt64, .int l4, .ref 8] (hM b_ taped_ fault_ faultPlace_ at_ place_ token_ number_ word_ text0_ clauses_ written_ came_ piled_ opens_ isWhole_ sort0_ once_ upper_ under_ wayMany_ stateMany_ a_ image_ d_ texts_ tape_ pile_ named_ values_ truth_ lots_ shares_ tried_ mays_ parts_ states_ camesFrom_ cameBy_ chain_ chains_ path_ order_) rfl trivial ?_
        refine k_grd hr (fun g48 hr => ?_)
        refine AJ.g sK_m_work 77 1 (inb l4 330 ∧ True) 120 [some (.ref 0), none, some (.int l2), some (.int l3), some (.int l4), some (.int l5), some (.int l6), some (.int t6), some (.int t8)] [] (hM b_ taped_ fault_ faultPlace_ at_ place_ token_ number_ word_ text0_ clauses_ written_ came_ piled_ opens_ isWhole_ sort0_ once_ upper_ under_ wayMany_ stateMany_ a_ image_ d_ texts_ tape_ pile_ named_ (vp_updL values_ (ix l4) t8.toInt64) truth_ lots_ shares_ tried_ mays_ parts_ states_ camesFrom_ cameBy_ chain_ chains_ path_ order_) rfl ⟨g48, trivial⟩ ?_
        replace hr := k_bnd hr
        generalize (vp_updL values_ (ix l4) t8.toInt64 : Nat → Int64) = values_49 at hr ⊢
        refine AJ.g sK_m_work 78 2 (True) 353 [some (.ref 0), none, some (.int l2), some (.int l3), some (.int (l4 + 1)), some (.int l5), some (.int l6), some (.int t6), some (.int t8)] [] (hM b_ taped_ fault_ faultPlace_ at_ place_ token_ number_ word_ text0_ clauses_ written_ came_ piled_ opens_ isWhole_ sort0_ once_ upper_ under_ wayMany_ stateMany_ a_ image_ d_ texts_ tape_ pile_ named_ values_49 truth_ lots_ shares_ tried_ mays_ parts_ states_ camesFrom_ cameBy_ chain_ chains_ path_ order_) rfl trivial ?_
        refine AJ.g sK_m_work 203 2 (True) 47 [some (.ref 0), none, some (.int l2), some (.int l3), some (.int (l4 + 1)), some (.int l5), some (.int (l6 + 1)), some (.int t6), some (.int t8)] [] (hM b_ taped_ fault_ faultPlace_ at_ place_ token_ number_ word_ text0_ clauses_ written_ came_ piled_ opens_ isWhole_ sort0_ once_ upper_ under_ wayMany_ stateMany_ a_ image_ d_ texts_ tape_ pile_ named_ values_49 truth_ lots_ shares_ tried_ mays_ parts_ states_ camesFrom_ cameBy_ chain_ chains_ path_ order_) rfl trivial ?_
        cases hr
        refine AJ.fg [true, false, true, true, true, true, true] [some (.ref 0), none, some (.int l2), some (.int l3), some (.int (l4 + 1)), some (.int l5), some (.int (l6 + 1))] rfl ?_
        exact hx
      · refine k_grd hr (fun g45 hr => ?_)
        refine AJ.g sK_m_work 72 5 (inb t8 8 ∧ True) 119 [some (.ref 0), none, some (.int l2), some (.int l3), some (.int l4), some (.int l5), some (.int l6), some (.int t6), some (.int t8)] [.long ((named_ (ix t8)).toInt64), .int l4, .ref 8] (hM b_ taped_ fault_ faultPlace_ at_ place_ token_ number_ word_ text0_ clauses_ written_ came_ piled_ opens_ isWhole_ sort0_ once_ upper_ under_ wayMany_ stateMany_ a_ image_ d_ texts_ tape_ pile_ named_ values_ truth_ lots_ shares_ tried_ mays_ parts_ states_ camesFrom_ cameBy_ chain_ chains_ path_ order_) rfl ⟨g45, trivial⟩ ?_
        refine k_grd hr (fun g46 hr => ?_)
        refine AJ.g sK_m_work 77 1 (inb l4 330 ∧ True) 120 [some (.ref 0), none, some (.int l2), some (.int l3), some (.int l4), some (.int l5), some (.int l6), some (.int t6), some (.int t8)] [] (hM b_ taped_ fault_ faultPlace_ at_ place_ token_ number_ word_ text0_ clauses_ written_ came_ piled_ opens_ isWhole_ sort0_ once_ upper_ under_ wayMany_ stateMany_ a_ image_ d_ texts_ tape_ pile_ named_ (vp_updL values_ (ix l4) ((named_ (ix t8)).toInt64)) truth_ lots_ shares_ tried_ mays_ parts_ states_ camesFrom_ cameBy_ chain_ chains_ path_ order_) rfl ⟨g46, trivial⟩ ?_
        replace hr := k_bnd hr
        generalize (vp_updL values_ (ix l4) ((named_ (ix t8)).toInt64) : Nat → Int64) = values_47 at hr ⊢
        refine AJ.g sK_m_work 78 2 (True) 353 [some (.ref 0), none, some (.int l2), some (.int l3), some (.int (l4 + 1)), some (.int l5), some (.int l6), some (.int t6), some (.int t8)] [] (hM b_ taped_ fault_ faultPlace_ at_ place_ token_ number_ word_ text0_ clauses_ written_ came_ piled_ opens_ isWhole_ sort0_ once_ upper_ under_ wayMany_ stateMany_ a_ image_ d_ texts_ tape_ pile_ named_ values_47 truth_ lots_ shares_ tried_ mays_ parts_ states_ camesFrom_ cameBy_ chain_ chains_ path_ order_) rfl trivial ?_
        refine AJ.g sK_m_work 203 2 (True) 47 [some (.ref 0), none, some (.int l2), some (.int l3), some (.int (l4 + 1)), some (.int l5), some (.int (l6 + 1)), some (.int t6), some (.int t8)] [] (hM b_ taped_ fault_ faultPlace_ at_ place_ token_ number_ word_ text0_ clauses_ written_ came_ piled_ opens_ isWhole_ sort0_ once_ upper_ under_ wayMany_ stateMany_ a_ image_ d_ texts_ tape_ pile_ named_ values_47 truth_ lots_ shares_ tried_ mays_ parts_ states_ camesFrom_ cameBy_ chain_ chains_ path_ order_) rfl trivial ?_
        cases hr
        refine AJ.fg [true, false, true, true, true, true, true] [some (.ref 0), none, some (.int l2), some (.int l3), some (.int (l4 + 1)), some (.int l5), some (.int (l6 + 1))] rfl ?_
        exact hx
  · cases hr
    refine AJ.fg [] [] rfl ?_
    exact hx
set_option maxRecDepth 100000 in
set_option maxHeartbeats 4000000 in
theorem c_m_work {d : Nat} {b_ : Int32} {taped_ : Int32} {fault_ : Int32} {faultPlace_ : Int32} {at_ : Int32} {place_ : Int32} {token_ : Int32} {number_ : Int32} {word_ : Int64} {text0_ : Int32} {clauses_ : Int32} {written_ : Int32} {came_ : Int32} {piled_ : Int32} {opens_ : Int32} {isWhole_ : Int32} {sort0_ : Int32} {once_ : Int32} {upper_ : Int64} {under_ : Int64} {wayMany_ : Int32} {stateMany_ : Int32} {a_ : Nat → Int32} {image_ : Nat → Int32} {d_ : Nat → Int32} {texts_ : Nat → Int32} {tape_ : Nat → Int32} {pile_ : Nat → Int32} {named_ : Nat → Int32} {values_ : Nat → Int64} {truth_ : Nat → Int32} {lots_ : Nat → Int32} {shares_ : Nat → Int64} {tried_ : Nat → Int32} {mays_ : Nat → Int32} {parts_ : Nat → Int32} {states_ : Nat → Int32} {camesFrom_ : Nat → Int32} {cameBy_ : Nat → Int32} {chain_ : Nat → Int32} {chains_ : Nat → Int32} {path_ : Nat → Int32} {order_ : Nat → Int32} {l1 : Int32} {values_Z : Nat → Int64} {truth_Z : Nat → Int32} (hr : f_m_work a_ texts_ named_ values_ truth_ l1 = some (values_Z, truth_Z)) : Ctr (d + 3) M_m_work [.ref 0, .int l1] (hM b_ taped_ fault_ faultPlace_ at_ place_ token_ number_ word_ text0_ clauses_ written_ came_ piled_ opens_ isWhole_ sort0_ once_ upper_ under_ wayMany_ stateMany_ a_ image_ d_ texts_ tape_ pile_ named_ values_ truth_ lots_ shares_ tried_ mays_ parts_ states_ camesFrom_ cameBy_ chain_ chains_ path_ order_) none (hM b_ taped_ fault_ faultPlace_ at_ place_ token_ number_ word_ text0_ clauses_ written_ came_ piled_ opens_ isWhole_ sort0_ once_ upper_ under_ wayMany_ stateMany_ a_ image_ d_ texts_ tape_ pile_ named_ values_Z truth_Z lots_ shares_ tried_ mays_ parts_ states_ camesFrom_ cameBy_ chain_ chains_ path_ order_) := by
  refine Ctr.start pn_m [some (.ref 0), some (.int l1)] (Nat.le_of_ble_eq_true rfl) rfl ?_
  unfold f_m_work at hr
  refine AJ.g sK_m_work 0 13 (inb 4 145 ∧ True) 17 [some (.ref 0), some (.int l1), some (.int (((680 * (a_ 4)) + 1) + (3 * l1)))] [] (hM b_ taped_ fault_ faultPlace_ at_ place_ token_ number_ word_ text0_ clauses_ written_ came_ piled_ opens_ isWhole_ sort0_ once_ upper_ under_ wayMany_ stateMany_ a_ image_ d_ texts_ tape_ pile_ named_ values_ truth_ lots_ shares_ tried_ mays_ parts_ states_ camesFrom_ cameBy_ chain_ chains_ path_ order_) rfl ⟨by decide, trivial⟩ ?_
  replace hr := k_bnd hr
  generalize (((680 * (a_ 4)) + 1) + (3 * l1) : Int32) = t1 at hr ⊢
  refine AJ.g sK_m_work 13 9 (inb 4 145 ∧ True) 31 [some (.ref 0), some (.int l1), some (.int t1), some (.int ((680 * (a_ 4)) + 70))] [] (hM b_ taped_ fault_ faultPlace_ at_ place_ token_ number_ word_ text0_ clauses_ written_ came_ piled_ opens_ isWhole_ sort0_ once_ upper_ under_ wayMany_ stateMany_ a_ image_ d_ texts_ tape_ pile_ named_ values_ truth_ lots_ shares_ tried_ mays_ parts_ states_ camesFrom_ cameBy_ chain_ chains_ path_ order_) rfl ⟨by decide, trivial⟩ ?_
  replace hr := k_bnd hr
  generalize ((680 * (a_ 4)) + 70 : Int32) = t2 at hr ⊢
  refine k_grd hr (fun g3 hr => ?_)
  refine AJ.g sK_m_work 22 11 (inb (t1 + 1) 2720 ∧ True) 47 [some (.ref 0), some (.int l1), some (.int t1), some (.int t2), some (.int 0), some (.int 0), some (.int (texts_ (ix (t1 + 1))))] [] (hM b_ taped_ fault_ faultPlace_ at_ place_ token_ number_ word_ text0_ clauses_ written_ came_ piled_ opens_ isWhole_ sort0_ once_ upper_ under_ wayMany_ stateMany_ a_ image_ d_ texts_ tape_ pile_ named_ values_ truth_ lots_ shares_ tried_ mays_ parts_ states_ camesFrom_ cameBy_ chain_ chains_ path_ order_) rfl ⟨g3, trivial⟩ ?_
  refine k_b2 hr (fun values_50 truth_51 he hr => ?_)
  refine AJ.fg [true, false, true, true, true, true, true] [some (.ref 0), none, some (.int t1), some (.int t2), some (.int 0), some (.int 0), some (.int (texts_ (ix (t1 + 1))))] rfl ?_
  refine itr_ok (un5 (fb_m_work_47 texts_ named_ t1 t2)) (fun s : (Int32 × Int32 × Int32 × (Nat → Int64) × (Nat → Int32)) => AJ _ 47 [some (.ref 0), none, some (.int t1), some (.int t2), some (.int s.1), some (.int s.2.1), some (.int s.2.2.1)] [] (hM b_ taped_ fault_ faultPlace_ at_ place_ token_ number_ word_ text0_ clauses_ written_ came_ piled_ opens_ isWhole_ sort0_ once_ upper_ under_ wayMany_ stateMany_ a_ image_ d_ texts_ tape_ pile_ named_ s.2.2.2.1 s.2.2.2.2 lots_ shares_ tried_ mays_ parts_ states_ camesFrom_ cameBy_ chain_ chains_ path_ order_)) (fun s : ((Nat → Int64) × (Nat → Int32)) => AJ _ 359 [] [] (hM b_ taped_ fault_ faultPlace_ at_ place_ token_ number_ word_ text0_ clauses_ written_ came_ piled_ opens_ isWhole_ sort0_ once_ upper_ under_ wayMany_ stateMany_ a_ image_ d_ texts_ tape_ pile_ named_ s.1 s.2 lots_ shares_ tried_ mays_ parts_ states_ camesFrom_ cameBy_ chain_ chains_ path_ order_)) (fun s x hb hx => bt_m_work_47 hb hx) KF (0, 0, texts_ (ix (t1 + 1)), values_, truth_) (values_50, truth_51) he (show AJ _ 359 [] [] (hM b_ taped_ fault_ faultPlace_ at_ place_ token_ number_ word_ text0_ clauses_ written_ came_ piled_ opens_ isWhole_ sort0_ once_ upper_ under_ wayMany_ stateMany_ a_ image_ d_ texts_ tape_ pile_ named_ values_50 truth_51 lots_ shares_ tried_ mays_ parts_ states_ camesFrom_ cameBy_ chain_ chains_ path_ order_) from ?_)
  cases hr
  exact AJ.xv (SK.at sK_m_work 205 rfl) rfl
theorem sK_m_can : SK M_m_can q_m_can := sk_m_can
set_option maxRecDepth 100000 in
set_option maxHeartbeats 4000000 in
theorem bt_m_can_26 {d : Nat} {rr : Option Value} {h0 hF : List va_E} {b_ : Int32} {taped_ : Int32} {fault_ : Int32} {faultPlace_ : Int32} {at_ : Int32} {place_ : Int32} {token_ : Int32} {number_ : Int32} {word_ : Int64} {text0_ : Int32} {clauses_ : Int32} {written_ : Int32} {came_ : Int32} {piled_ : Int32} {opens_ : Int32} {isWhole_ : Int32} {sort0_ : Int32} {once_ : Int32} {upper_ : Int64} {under_ : Int64} {wayMany_ : Int32} {stateMany_ : Int32} {a_ : Nat → Int32} {image_ : Nat → Int32} {d_ : Nat → Int32} {texts_ : Nat → Int32} {tape_ : Nat → Int32} {pile_ : Nat → Int32} {named_ : Nat → Int32} {values_ : Nat → Int64} {truth_ : Nat → Int32} {lots_ : Nat → Int32} {shares_ : Nat → Int64} {tried_ : Nat → Int32} {mays_ : Nat → Int32} {parts_ : Nat → Int32} {states_ : Nat → Int32} {camesFrom_ : Nat → Int32} {cameBy_ : Nat → Int32} {chain_ : Nat → Int32} {chains_ : Nat → Int32} {path_ : Nat → Int32} {order_ : Nat → Int32} {l3 : Int32} {x : (Int32 × (Nat → Int64) × (Nat → Int32)) ⊕ (((Nat → Int64) × (Nat → Int32)) ⊕ ((Nat → Int64) × (Nat → Int32)))} (hr : fb_m_can_26 a_ texts_ named_ l3 values_ truth_ = some x) (hx : Sum.elim (fun s : (Int32 × (Nat → Int64) × (Nat → Int32)) => AJ (M_m_can, d + 4, rr, h0, hF) 26 [some (.ref 0), none, none, some (.int s.1)] [] (hM b_ taped_ fault_ faultPlace_ at_ place_ token_ number_ word_ text0_ clauses_ written_ came_ piled_ opens_ isWhole_ sort0_ once_ upper_ under_ wayMany_ stateMany_ a_ image_ d_ texts_ tape_ pile_ named_ s.2.1 s.2.2 lots_ shares_ tried_ mays_ parts_ states_ camesFrom_ cameBy_ chain_ chains_ path_ order_)) (Sum.elim (fun s : ((Nat → Int64) × (Nat → Int32)) => AJ (M_m_can, d + 4, rr, h0, hF) 60 [] [] (hM b_ taped_ fault_ faultPlace_ at_ place_ token_ number_ word_ text0_ clauses_ written_ came_ piled_ opens_ isWhole_ sort0_ once_ upper_ under_ wayMany_ stateMany_ a_ image_ d_ texts_ tape_ pile_ named_ s.1 s.2 lots_ shares_ tried_ mays_ parts_ states_ camesFrom_ cameBy_ chain_ chains_ path_ order_)) (fun s : ((Nat → Int64) × (Nat → Int32)) => AJ (M_m_can, d + 4, rr, h0, hF) 68 [] [] (hM b_ taped_ fault_ faultPlace_ at_ place_ token_ number_ word_ text0_ clauses_ written_ came_ piled_ opens_ isWhole_ sort0_ once_ upper_ under_ wayMany_ stateMany_ a_ image_ d_ texts_ tape_ pile_ named_ s.1 s.2 lots_ shares_ tried_ mays_ parts_ states_ camesFrom_ cameBy_ chain_ chains_ path_ order_))) x) : AJ (M_m_can, d + 4, rr, h0, hF) 26 [some (.ref 0), none, none, some (.int l3)] [] (hM b_ taped_ fault_ faultPlace_ at_ place_ token_ number_ word_ text0_ clauses_ written_ came_ piled_ opens_ isWhole_ sort0_ once_ upper_ under_ wayMany_ stateMany_ a_ image_ d_ texts_ tape_ pile_ named_ values_ truth_ lots_ shares_ tried_ mays_ parts_ states_ camesFrom_ cameBy_ chain_ chains_ path_ order_) := by
  unfold fb_m_can_26 at hr
  refine AJ.g sK_m_can 16 2 (True) 28 [some (.ref 0), none, none, some (.int l3)] [.ref 0, .int l3] (hM b_ taped_ fault_ faultPlace_ at_ place_ token_ number_ word_ text0_ clauses_ written_ came_ piled_ opens_ isWhole_ sort0_ once_ upper_ under_ wayMany_ stateMany_ a_ image_ d_ texts_ tape_ pile_ named_ values_ truth_ lots_ shares_ tried_ mays_ parts_ states_ camesFrom_ cameBy_ chain_ chains_ path_ order_) rfl trivial ?_
  refine k_b1 hr (fun r3 e9 hr => ?_)
  refine AJ.dI mk_m_clauses (SK.at sK_m_can 18 rfl) lk_12_260 (c_m_clauses e9) [.int l3] 31 [.int r3, .int l3] rfl rfl rfl rfl rfl rfl rfl (Nat.le_of_ble_eq_true rfl) rfl rfl ?_
  refine AJ.iF hr (SK.at sK_m_can 19 rfl) 68 34 rfl rfl rfl (fun hr => ?_) (fun hr => ?_)
  · refine AJ.g sK_m_can 20 2 (True) 36 [some (.ref 0), none, none, some (.int l3)] [.int l3, .ref 0] (hM b_ taped_ fault_ faultPlace_ at_ place_ token_ number_ word_ text0_ clauses_ written_ came_ piled_ opens_ isWhole_ sort0_ once_ upper_ under_ wayMany_ stateMany_ a_ image_ d_ texts_ tape_ pile_ named_ values_ truth_ lots_ shares_ tried_ mays_ parts_ states_ camesFrom_ cameBy_ chain_ chains_ path_ order_) rfl trivial ?_
    refine k_b1 hr (fun r4 e8 hr => ?_)
    refine AJ.dI mk_m_sortAt (SK.at sK_m_can 22 rfl) lk_12_263 (c_m_sortAt e8) [] 39 [.int r4] rfl rfl rfl rfl rfl rfl rfl (Nat.le_of_ble_eq_true rfl) rfl rfl ?_
    refine AJ.g sK_m_can 23 1 (True) 40 [some (.ref 0), none, none, some (.int l3)] [.int 2, .int r4] (hM b_ taped_ fault_ faultPlace_ at_ place_ token_ number_ word_ text0_ clauses_ written_ came_ piled_ opens_ isWhole_ sort0_ once_ upper_ under_ wayMany_ stateMany_ a_ image_ d_ texts_ tape_ pile_ named_ values_ truth_ lots_ shares_ tried_ mays_ parts_ states_ camesFrom_ cameBy_ chain_ chains_ path_ order_) rfl trivial ?_
    refine AJ.iT hr (SK.at sK_m_can 24 rfl) 46 43 rfl rfl rfl (fun hr => ?_) (fun hr => ?_)
    · refine AJ.g sK_m_can 26 2 (True) 48 [some (.ref 0), none, none, some (.int l3)] [.int l3, .ref 0] (hM b_ taped_ fault_ faultPlace_ at_ place_ token_ number_ word_ text0_ clauses_ written_ came_ piled_ opens_ isWhole_ sort0_ once_ upper_ under_ wayMany_ stateMany_ a_ image_ d_ texts_ tape_ pile_ named_ values_ truth_ lots_ shares_ tried_ mays_ parts_ states_ camesFrom_ cameBy_ chain_ chains_ path_ order_) rfl trivial ?_
      refine k_b2 hr (fun values_5 truth_6 e7 hr => ?_)
      refine AJ.dI mk_m_work (SK.at sK_m_can 28 rfl) lk_12_275 (c_m_work e7) [] 51 [] rfl rfl rfl rfl rfl rfl rfl (Nat.le_of_ble_eq_true rfl) rfl rfl ?_
      refine AJ.g sK_m_can 29 4 (inb 0 330 ∧ True) 57 [some (.ref 0), none, none, some (.int l3)] [.int (truth_6 0)] (hM b_ taped_ fault_ faultPlace_ at_ place_ token_ number_ word_ text0_ clauses_ written_ came_ piled_ opens_ isWhole_ sort0_ once_ upper_ under_ wayMany_ stateMany_ a_ image_ d_ texts_ tape_ pile_ named_ values_5 truth_6 lots_ shares_ tried_ mays_ parts_ states_ camesFrom_ cameBy_ chain_ chains_ path_ order_) rfl ⟨by decide, trivial⟩ ?_
      refine AJ.iT hr (SK.at sK_m_can 33 rfl) 62 60 rfl rfl rfl (fun hr => ?_) (fun hr => ?_)
      · refine AJ.g sK_m_can 36 2 (True) 26 [some (.ref 0), none, none, some (.int (l3 + 1))] [] (hM b_ taped_ fault_ faultPlace_ at_ place_ token_ number_ word_ text0_ clauses_ written_ came_ piled_ opens_ isWhole_ sort0_ once_ upper_ under_ wayMany_ stateMany_ a_ image_ d_ texts_ tape_ pile_ named_ values_5 truth_6 lots_ shares_ tried_ mays_ parts_ states_ camesFrom_ cameBy_ chain_ chains_ path_ order_) rfl trivial ?_
        cases hr
        refine AJ.fg [true, false, false, true] [some (.ref 0), none, none, some (.int (l3 + 1))] rfl ?_
        exact hx
      · cases hr
        refine AJ.fg [] [] rfl ?_
        exact hx
    · refine AJ.g sK_m_can 25 1 (True) 62 [some (.ref 0), none, none, some (.int l3)] [] (hM b_ taped_ fault_ faultPlace_ at_ place_ token_ number_ word_ text0_ clauses_ written_ came_ piled_ opens_ isWhole_ sort0_ once_ upper_ under_ wayMany_ stateMany_ a_ image_ d_ texts_ tape_ pile_ named_ values_ truth_ lots_ shares_ tried_ mays_ parts_ states_ camesFrom_ cameBy_ chain_ chains_ path_ order_) rfl trivial ?_
      refine AJ.g sK_m_can 36 2 (True) 26 [some (.ref 0), none, none, some (.int (l3 + 1))] [] (hM b_ taped_ fault_ faultPlace_ at_ place_ token_ number_ word_ text0_ clauses_ written_ came_ piled_ opens_ isWhole_ sort0_ once_ upper_ under_ wayMany_ stateMany_ a_ image_ d_ texts_ tape_ pile_ named_ values_ truth_ lots_ shares_ tried_ mays_ parts_ states_ camesFrom_ cameBy_ chain_ chains_ path_ order_) rfl trivial ?_
      cases hr
      refine AJ.fg [true, false, false, true] [some (.ref 0), none, none, some (.int (l3 + 1))] rfl ?_
      exact hx
  · cases hr
    refine AJ.fg [] [] rfl ?_
    exact hx
set_option maxRecDepth 100000 in
set_option maxHeartbeats 4000000 in
theorem jt_m_can_18 {d : Nat} {b_ : Int32} {taped_ : Int32} {fault_ : Int32} {faultPlace_ : Int32} {at_ : Int32} {place_ : Int32} {token_ : Int32} {number_ : Int32} {word_ : Int64} {text0_ : Int32} {clauses_ : Int32} {written_ : Int32} {came_ : Int32} {piled_ : Int32} {opens_ : Int32} {isWhole_ : Int32} {sort0_ : Int32} {once_ : Int32} {upper_ : Int64} {under_ : Int64} {wayMany_ : Int32} {stateMany_ : Int32} {a_ : Nat → Int32} {image_ : Nat → Int32} {d_ : Nat → Int32} {texts_ : Nat → Int32} {tape_ : Nat → Int32} {pile_ : Nat → Int32} {named_ : Nat → Int32} {values_ : Nat → Int64} {truth_ : Nat → Int32} {lots_ : Nat → Int32} {shares_ : Nat → Int64} {tried_ : Nat → Int32} {mays_ : Nat → Int32} {parts_ : Nat → Int32} {states_ : Nat → Int32} {camesFrom_ : Nat → Int32} {cameBy_ : Nat → Int32} {chain_ : Nat → Int32} {chains_ : Nat → Int32} {path_ : Nat → Int32} {order_ : Nat → Int32} {l1 : Int32} {l2 : Int32}  {h0 : List va_E} {r0 : Int32} {named_Z : Nat → Int32} {values_Z : Nat → Int64} {truth_Z : Nat → Int32} (hr : fj_m_can_18 b_ a_ d_ texts_ named_ values_ truth_ l1 l2 = some (r0, named_Z, values_Z, truth_Z)) : AJ (M_m_can, d + 4, (some (.int r0)), h0, (hM b_ taped_ fault_ faultPlace_ at_ place_ token_ number_ word_ text0_ clauses_ written_ came_ piled_ opens_ isWhole_ sort0_ once_ upper_ under_ wayMany_ stateMany_ a_ image_ d_ texts_ tape_ pile_ named_Z values_Z truth_Z lots_ shares_ tried_ mays_ parts_ states_ camesFrom_ cameBy_ chain_ chains_ path_ order_)) 18 [some (.ref 0), some (.int l1), some (.int l2)] [] (hM b_ taped_ fault_ faultPlace_ at_ place_ token_ number_ word_ text0_ clauses_ written_ came_ piled_ opens_ isWhole_ sort0_ once_ upper_ under_ wayMany_ stateMany_ a_ image_ d_ texts_ tape_ pile_ named_ values_ truth_ lots_ shares_ tried_ mays_ parts_ states_ camesFrom_ cameBy_ chain_ chains_ path_ order_) := by
  unfold fj_m_can_18 at hr
  refine AJ.g sK_m_can 10 3 (True) 21 [some (.ref 0), some (.int l1), some (.int l2)] [.int l2, .int l1, .ref 0] (hM b_ taped_ fault_ faultPlace_ at_ place_ token_ number_ word_ text0_ clauses_ written_ came_ piled_ opens_ isWhole_ sort0_ once_ upper_ under_ wayMany_ stateMany_ a_ image_ d_ texts_ tape_ pile_ named_ values_ truth_ lots_ shares_ tried_ mays_ parts_ states_ camesFrom_ cameBy_ chain_ chains_ path_ order_) rfl trivial ?_
  refine k_b1 hr (fun named_2 e14 hr => ?_)
  refine AJ.dI mk_m_nameAll (SK.at sK_m_can 13 rfl) lk_12_272 (c_m_nameAll e14) [] 24 [] rfl rfl rfl rfl rfl rfl rfl (Nat.le_of_ble_eq_true rfl) rfl rfl ?_
  refine AJ.g sK_m_can 14 2 (True) 26 [some (.ref 0), some (.int l1), some (.int l2), some (.int 0)] [] (hM b_ taped_ fault_ faultPlace_ at_ place_ token_ number_ word_ text0_ clauses_ written_ came_ piled_ opens_ isWhole_ sort0_ once_ upper_ under_ wayMany_ stateMany_ a_ image_ d_ texts_ tape_ pile_ named_2 values_ truth_ lots_ shares_ tried_ mays_ parts_ states_ camesFrom_ cameBy_ chain_ chains_ path_ order_) rfl trivial ?_
  refine k_bs hr (fun z he hr => ?_) (fun z he hr => ?_)
  · obtain ⟨values_10, truth_11⟩ := z
    replace hr := k_un2 hr
    refine AJ.fg [true, false, false, true] [some (.ref 0), none, none, some (.int 0)] rfl ?_
    refine itr_ok (un3 (fb_m_can_26 a_ texts_ named_2)) (fun s : (Int32 × (Nat → Int64) × (Nat → Int32)) => AJ _ 26 [some (.ref 0), none, none, some (.int s.1)] [] (hM b_ taped_ fault_ faultPlace_ at_ place_ token_ number_ word_ text0_ clauses_ written_ came_ piled_ opens_ isWhole_ sort0_ once_ upper_ under_ wayMany_ stateMany_ a_ image_ d_ texts_ tape_ pile_ named_2 s.2.1 s.2.2 lots_ shares_ tried_ mays_ parts_ states_ camesFrom_ cameBy_ chain_ chains_ path_ order_)) (Sum.elim (fun s : ((Nat → Int64) × (Nat → Int32)) => AJ _ 60 [] [] (hM b_ taped_ fault_ faultPlace_ at_ place_ token_ number_ word_ text0_ clauses_ written_ came_ piled_ opens_ isWhole_ sort0_ once_ upper_ under_ wayMany_ stateMany_ a_ image_ d_ texts_ tape_ pile_ named_2 s.1 s.2 lots_ shares_ tried_ mays_ parts_ states_ camesFrom_ cameBy_ chain_ chains_ path_ order_)) (fun s : ((Nat → Int64) × (Nat → Int32)) => AJ _ 68 [] [] (hM b_ taped_ fault_ faultPlace_ at_ place_ token_ number_ word_ text0_ clauses_ written_ came_ piled_ opens_ isWhole_ sort0_ once_ upper_ under_ wayMany_ stateMany_ a_ image_ d_ texts_ tape_ pile_ named_2 s.1 s.2 lots_ shares_ tried_ mays_ parts_ states_ camesFrom_ cameBy_ chain_ chains_ path_ order_))) (fun s x hb hx => bt_m_can_26 hb hx) KF (0, values_, truth_) (.inl (values_10, truth_11)) he (show AJ _ 60 [] [] (hM b_ taped_ fault_ faultPlace_ at_ place_ token_ number_ word_ text0_ clauses_ written_ came_ piled_ opens_ isWhole_ sort0_ once_ upper_ under_ wayMany_ stateMany_ a_ image_ d_ texts_ tape_ pile_ named_2 values_10 truth_11 lots_ shares_ tried_ mays_ parts_ states_ camesFrom_ cameBy_ chain_ chains_ path_ order_) from ?_)
    refine AJ.g sK_m_can 34 1 (True) 61 [] [.int 0] (hM b_ taped_ fault_ faultPlace_ at_ place_ token_ number_ word_ text0_ clauses_ written_ came_ piled_ opens_ isWhole_ sort0_ once_ upper_ under_ wayMany_ stateMany_ a_ image_ d_ texts_ tape_ pile_ named_2 values_10 truth_11 lots_ shares_ tried_ mays_ parts_ states_ camesFrom_ cameBy_ chain_ chains_ path_ order_) rfl trivial ?_
    cases hr
    exact AJ.xz (by decide) (SK.at sK_m_can 35 rfl) rfl
  · obtain ⟨values_12, truth_13⟩ := z
    replace hr := k_un2 hr
    refine AJ.fg [true, false, false, true] [some (.ref 0), none, none, some (.int 0)] rfl ?_
    refine itr_ok (un3 (fb_m_can_26 a_ texts_ named_2)) (fun s : (Int32 × (Nat → Int64) × (Nat → Int32)) => AJ _ 26 [some (.ref 0), none, none, some (.int s.1)] [] (hM b_ taped_ fault_ faultPlace_ at_ place_ token_ number_ word_ text0_ clauses_ written_ came_ piled_ opens_ isWhole_ sort0_ once_ upper_ under_ wayMany_ stateMany_ a_ image_ d_ texts_ tape_ pile_ named_2 s.2.1 s.2.2 lots_ shares_ tried_ mays_ parts_ states_ camesFrom_ cameBy_ chain_ chains_ path_ order_)) (Sum.elim (fun s : ((Nat → Int64) × (Nat → Int32)) => AJ _ 60 [] [] (hM b_ taped_ fault_ faultPlace_ at_ place_ token_ number_ word_ text0_ clauses_ written_ came_ piled_ opens_ isWhole_ sort0_ once_ upper_ under_ wayMany_ stateMany_ a_ image_ d_ texts_ tape_ pile_ named_2 s.1 s.2 lots_ shares_ tried_ mays_ parts_ states_ camesFrom_ cameBy_ chain_ chains_ path_ order_)) (fun s : ((Nat → Int64) × (Nat → Int32)) => AJ _ 68 [] [] (hM b_ taped_ fault_ faultPlace_ at_ place_ token_ number_ word_ text0_ clauses_ written_ came_ piled_ opens_ isWhole_ sort0_ once_ upper_ under_ wayMany_ stateMany_ a_ image_ d_ texts_ tape_ pile_ named_2 s.1 s.2 lots_ shares_ tried_ mays_ parts_ states_ camesFrom_ cameBy_ chain_ chains_ path_ order_))) (fun s x hb hx => bt_m_can_26 hb hx) KF (0, values_, truth_) (.inr ((values_12, truth_13))) he (show AJ _ 68 [] [] (hM b_ taped_ fault_ faultPlace_ at_ place_ token_ number_ word_ text0_ clauses_ written_ came_ piled_ opens_ isWhole_ sort0_ once_ upper_ under_ wayMany_ stateMany_ a_ image_ d_ texts_ tape_ pile_ named_2 values_12 truth_13 lots_ shares_ tried_ mays_ parts_ states_ camesFrom_ cameBy_ chain_ chains_ path_ order_) from ?_)
    refine AJ.g sK_m_can 38 1 (True) 69 [] [.int 1] (hM b_ taped_ fault_ faultPlace_ at_ place_ token_ number_ word_ text0_ clauses_ written_ came_ piled_ opens_ isWhole_ sort0_ once_ upper_ under_ wayMany_ stateMany_ a_ image_ d_ texts_ tape_ pile_ named_2 values_12 truth_13 lots_ shares_ tried_ mays_ parts_ states_ camesFrom_ cameBy_ chain_ chains_ path_ order_) rfl trivial ?_
    cases hr
    exact AJ.xz (by decide) (SK.at sK_m_can 39 rfl) rfl
set_option maxRecDepth 100000 in
set_option maxHeartbeats 4000000 in
theorem c_m_can {d : Nat} {b_ : Int32} {taped_ : Int32} {fault_ : Int32} {faultPlace_ : Int32} {at_ : Int32} {place_ : Int32} {token_ : Int32} {number_ : Int32} {word_ : Int64} {text0_ : Int32} {clauses_ : Int32} {written_ : Int32} {came_ : Int32} {piled_ : Int32} {opens_ : Int32} {isWhole_ : Int32} {sort0_ : Int32} {once_ : Int32} {upper_ : Int64} {under_ : Int64} {wayMany_ : Int32} {stateMany_ : Int32} {a_ : Nat → Int32} {image_ : Nat → Int32} {d_ : Nat → Int32} {texts_ : Nat → Int32} {tape_ : Nat → Int32} {pile_ : Nat → Int32} {named_ : Nat → Int32} {values_ : Nat → Int64} {truth_ : Nat → Int32} {lots_ : Nat → Int32} {shares_ : Nat → Int64} {tried_ : Nat → Int32} {mays_ : Nat → Int32} {parts_ : Nat → Int32} {states_ : Nat → Int32} {camesFrom_ : Nat → Int32} {cameBy_ : Nat → Int32} {chain_ : Nat → Int32} {chains_ : Nat → Int32} {path_ : Nat → Int32} {order_ : Nat → Int32} {l1 : Int32} {l2 : Int32} {r0 : Int32} {named_Z : Nat → Int32} {values_Z : Nat → Int64} {truth_Z : Nat → Int32} (hr : f_m_can b_ a_ d_ texts_ named_ values_ truth_ l1 l2 = some (r0, named_Z, values_Z, truth_Z)) : Ctr (d + 4) M_m_can [.ref 0, .int l1, .int l2] (hM b_ taped_ fault_ faultPlace_ at_ place_ token_ number_ word_ text0_ clauses_ written_ came_ piled_ opens_ isWhole_ sort0_ once_ upper_ under_ wayMany_ stateMany_ a_ image_ d_ texts_ tape_ pile_ named_ values_ truth_ lots_ shares_ tried_ mays_ parts_ states_ camesFrom_ cameBy_ chain_ chains_ path_ order_) (some (.int r0)) (hM b_ taped_ fault_ faultPlace_ at_ place_ token_ number_ word_ text0_ clauses_ written_ came_ piled_ opens_ isWhole_ sort0_ once_ upper_ under_ wayMany_ stateMany_ a_ image_ d_ texts_ tape_ pile_ named_Z values_Z truth_Z lots_ shares_ tried_ mays_ parts_ states_ camesFrom_ cameBy_ chain_ chains_ path_ order_) := by
  refine Ctr.start pn_m [some (.ref 0), some (.int l1), some (.int l2)] (Nat.le_of_ble_eq_true rfl) rfl ?_
  unfold f_m_can at hr
  refine AJ.g sK_m_can 0 2 (True) 2 [some (.ref 0), some (.int l1), some (.int l2)] [.int l1, .ref 0] (hM b_ taped_ fault_ faultPlace_ at_ place_ token_ number_ word_ text0_ clauses_ written_ came_ piled_ opens_ isWhole_ sort0_ once_ upper_ under_ wayMany_ stateMany_ a_ image_ d_ texts_ tape_ pile_ named_ values_ truth_ lots_ shares_ tried_ mays_ parts_ states_ camesFrom_ cameBy_ chain_ chains_ path_ order_) rfl trivial ?_
  refine k_b1 hr (fun r1 e17 hr => ?_)
  refine AJ.dI mk_m_nameAt (SK.at sK_m_can 2 rfl) lk_12_269 (c_m_nameAt e17) [] 5 [.int r1] rfl rfl rfl rfl rfl rfl rfl (Nat.le_of_ble_eq_true rfl) rfl rfl ?_
  refine AJ.iF hr (SK.at sK_m_can 3 rfl) 18 8 rfl rfl rfl (fun hr => ?_) (fun hr => ?_)
  · refine AJ.g sK_m_can 4 2 (True) 10 [some (.ref 0), some (.int l1), some (.int l2)] [.int l2, .ref 0] (hM b_ taped_ fault_ faultPlace_ at_ place_ token_ number_ word_ text0_ clauses_ written_ came_ piled_ opens_ isWhole_ sort0_ once_ upper_ under_ wayMany_ stateMany_ a_ image_ d_ texts_ tape_ pile_ named_ values_ truth_ lots_ shares_ tried_ mays_ parts_ states_ camesFrom_ cameBy_ chain_ chains_ path_ order_) rfl trivial ?_
    refine k_b1 hr (fun r15 e16 hr => ?_)
    refine AJ.dI mk_m_hung (SK.at sK_m_can 6 rfl) lk_12_266 (c_m_hung e16) [] 13 [.int r15] rfl rfl rfl rfl rfl rfl rfl (Nat.le_of_ble_eq_true rfl) rfl rfl ?_
    refine AJ.iF hr (SK.at sK_m_can 7 rfl) 18 16 rfl rfl rfl (fun hr => ?_) (fun hr => ?_)
    · refine AJ.g sK_m_can 8 1 (True) 17 [some (.ref 0), some (.int l1), some (.int l2)] [.int 0] (hM b_ taped_ fault_ faultPlace_ at_ place_ token_ number_ word_ text0_ clauses_ written_ came_ piled_ opens_ isWhole_ sort0_ once_ upper_ under_ wayMany_ stateMany_ a_ image_ d_ texts_ tape_ pile_ named_ values_ truth_ lots_ shares_ tried_ mays_ parts_ states_ camesFrom_ cameBy_ chain_ chains_ path_ order_) rfl trivial ?_
      cases hr
      exact AJ.xz (by decide) (SK.at sK_m_can 9 rfl) rfl
    · refine AJ.fg [true, true, true] [some (.ref 0), some (.int l1), some (.int l2)] rfl ?_
      exact jt_m_can_18 hr
  · refine AJ.fg [true, true, true] [some (.ref 0), some (.int l1), some (.int l2)] rfl ?_
    exact jt_m_can_18 hr
