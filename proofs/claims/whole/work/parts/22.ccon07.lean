theorem sK_x_of : SK M_x_of q_x_of := sk_x_of
set_option maxRecDepth 100000 in
set_option maxHeartbeats 4000000 in
theorem c_x_of {d : Nat} {now_people_ : Int32} {now_gates_ : Int32} {now_hour_ : Int32} {now_texts_ : Int32} {now_ruling_ : Int32} {now_x_ : Int32} {now_born_ : Nat → Int32} {now_deeds_size_ : Int32} {now_done_ : Nat → Int32} {now_paid_ : Nat → Int32} {now_deeds_cells_ : Nat → Int32} {now_town_names_ : Nat → Int32} {l1 : Int32} {l2 : Int32} {r0 : Int32} (hr : f_x_of now_people_ now_born_ now_deeds_size_ now_done_ now_paid_ now_deeds_cells_ now_town_names_ l1 l2 = some r0) : Ctr (d + 4) M_x_of [.ref 0, .int l1, .int l2] (h_x_of now_people_ now_gates_ now_hour_ now_texts_ now_ruling_ now_x_ now_born_ now_deeds_size_ now_done_ now_paid_ now_deeds_cells_ now_town_names_) (some (.int r0)) (h_x_of now_people_ now_gates_ now_hour_ now_texts_ now_ruling_ now_x_ now_born_ now_deeds_size_ now_done_ now_paid_ now_deeds_cells_ now_town_names_) := by
  refine Ctr.start pn_x [some (.ref 0), some (.int l1), some (.int l2)] (Nat.le_of_ble_eq_true rfl) rfl ?_
  unfold f_x_of at hr
  refine AJ.g sK_x_of 0 3 (True) 5 [some (.ref 0), some (.int l1), some (.int l2)] [.int l1, .ref 1] (h_x_of now_people_ now_gates_ now_hour_ now_texts_ now_ruling_ now_x_ now_born_ now_deeds_size_ now_done_ now_paid_ now_deeds_cells_ now_town_names_) rfl trivial ?_
  refine k_b1 hr (fun r1 e13 hr => ?_)
  refine AJ.dV mk_world_hasPerson (SK.at sK_x_of 3 rfl) lk_11_135 (c_world_hasPerson (people_ := now_people_) (gates_ := now_gates_) (hour_ := now_hour_) (texts_ := now_texts_) (ruling_ := now_ruling_) (x_ := now_x_) e13) [1] [2, 17, 6, 5, 4, 3, 18, 19] [] 8 [.int r1] (h_x_of now_people_ now_gates_ now_hour_ now_texts_ now_ruling_ now_x_ now_born_ now_deeds_size_ now_done_ now_paid_ now_deeds_cells_ now_town_names_) rfl rfl rfl rfl rfl (by decide +kernel) rfl rfl rfl rfl (Nat.le_of_ble_eq_true rfl) rfl rfl rfl ?_
  refine AJ.iF hr (SK.at sK_x_of 4 rfl) 14 11 rfl rfl rfl (fun hr => ?_) (fun hr => ?_)
  · refine AJ.g sK_x_of 5 1 (True) 13 [some (.ref 0), some (.int l1), some (.int l2)] [.int (-2)] (h_x_of now_people_ now_gates_ now_hour_ now_texts_ now_ruling_ now_x_ now_born_ now_deeds_size_ now_done_ now_paid_ now_deeds_cells_ now_town_names_) rfl trivial ?_
    cases hr
    exact AJ.xi (SK.at sK_x_of 6 rfl) rfl
  · refine AJ.g sK_x_of 7 1 (True) 15 [some (.ref 0), some (.int l1), some (.int l2)] [.int l2] (h_x_of now_people_ now_gates_ now_hour_ now_texts_ now_ruling_ now_x_ now_born_ now_deeds_size_ now_done_ now_paid_ now_deeds_cells_ now_town_names_) rfl trivial ?_
    refine k_ite hr (fun hc hr => ?_) (fun n0 hr => ?_)
    · refine AJ.tsIn sw_x_of_15 (by rw [hc]; decide) (by rw [hc]; decide) (by rw [hc]; rfl) rfl ?_
      refine AJ.g sK_x_of 8 4 (True) 60 [some (.ref 0), some (.int l1), some (.int l2)] [.int l1, .ref 4] (h_x_of now_people_ now_gates_ now_hour_ now_texts_ now_ruling_ now_x_ now_born_ now_deeds_size_ now_done_ now_paid_ now_deeds_cells_ now_town_names_) rfl trivial ?_
      refine k_b1 hr (fun r11 e12 hr => ?_)
      refine AJ.dV mk_town_nameOf (SK.at sK_x_of 12 rfl) lk_11_143 (c_town_nameOf (names_ := now_town_names_) e12) [4, 8] [20, 21] [] 63 [.int r11] (h_x_of now_people_ now_gates_ now_hour_ now_texts_ now_ruling_ now_x_ now_born_ now_deeds_size_ now_done_ now_paid_ now_deeds_cells_ now_town_names_) rfl rfl rfl rfl rfl (by decide +kernel) rfl rfl rfl rfl (Nat.le_of_ble_eq_true rfl) rfl rfl rfl ?_
      cases hr
      exact AJ.xi (SK.at sK_x_of 13 rfl) rfl
    · refine k_ite hr (fun hc hr => ?_) (fun n1 hr => ?_)
      · refine AJ.tsIn sw_x_of_15 (by rw [hc]; decide) (by rw [hc]; decide) (by rw [hc]; rfl) rfl ?_
        refine k_grd hr (fun g10 hr => ?_)
        refine AJ.g sK_x_of 14 5 (inb l1 8 ∧ True) 73 [some (.ref 0), some (.int l1), some (.int l2)] [.int (now_paid_ (ix l1))] (h_x_of now_people_ now_gates_ now_hour_ now_texts_ now_ruling_ now_x_ now_born_ now_deeds_size_ now_done_ now_paid_ now_deeds_cells_ now_town_names_) rfl ⟨g10, trivial⟩ ?_
        cases hr
        exact AJ.xi (SK.at sK_x_of 19 rfl) rfl
      · refine k_ite hr (fun hc hr => ?_) (fun n2 hr => ?_)
        · refine AJ.tsIn sw_x_of_15 (by rw [hc]; decide) (by rw [hc]; decide) (by rw [hc]; rfl) rfl ?_
          refine k_grd hr (fun g9 hr => ?_)
          refine AJ.g sK_x_of 20 5 (inb l1 8 ∧ True) 83 [some (.ref 0), some (.int l1), some (.int l2)] [.int (now_done_ (ix l1))] (h_x_of now_people_ now_gates_ now_hour_ now_texts_ now_ruling_ now_x_ now_born_ now_deeds_size_ now_done_ now_paid_ now_deeds_cells_ now_town_names_) rfl ⟨g9, trivial⟩ ?_
          cases hr
          exact AJ.xi (SK.at sK_x_of 25 rfl) rfl
        · refine k_ite hr (fun hc hr => ?_) (fun n3 hr => ?_)
          · refine AJ.tsIn sw_x_of_15 (by rw [hc]; decide) (by rw [hc]; decide) (by rw [hc]; rfl) rfl ?_
            refine AJ.g sK_x_of 26 6 (True) 96 [some (.ref 0), some (.int l1), some (.int l2)] [.int l1, .ref 4, .ref 1] (h_x_of now_people_ now_gates_ now_hour_ now_texts_ now_ruling_ now_x_ now_born_ now_deeds_size_ now_done_ now_paid_ now_deeds_cells_ now_town_names_) rfl trivial ?_
            refine k_b1 hr (fun r5 e8 hr => ?_)
            refine AJ.dV mk_town_nameOf (SK.at sK_x_of 32 rfl) lk_11_143 (c_town_nameOf (names_ := now_town_names_) e8) [4, 8] [20, 21] [.ref 1] 99 [.int r5, .ref 1] (h_x_of now_people_ now_gates_ now_hour_ now_texts_ now_ruling_ now_x_ now_born_ now_deeds_size_ now_done_ now_paid_ now_deeds_cells_ now_town_names_) rfl rfl rfl rfl rfl (by decide +kernel) rfl rfl rfl rfl (Nat.le_of_ble_eq_true rfl) rfl rfl rfl ?_
            refine k_b1 hr (fun r6 e7 hr => ?_)
            refine AJ.dV mk_world_owedUnder (SK.at sK_x_of 33 rfl) lk_11_155 (c_world_owedUnder (people_ := now_people_) (gates_ := now_gates_) (hour_ := now_hour_) (texts_ := now_texts_) (ruling_ := now_ruling_) (x_ := now_x_) (deeds_size_ := now_deeds_size_) (deeds_cells_ := now_deeds_cells_) e7) [1, 3, 7] [2, 17, 6, 5, 4, 18, 19] [] 102 [.int r6] (h_x_of now_people_ now_gates_ now_hour_ now_texts_ now_ruling_ now_x_ now_born_ now_deeds_size_ now_done_ now_paid_ now_deeds_cells_ now_town_names_) rfl rfl rfl rfl rfl (by decide +kernel) rfl rfl rfl rfl (Nat.le_of_ble_eq_true rfl) rfl rfl rfl ?_
            cases hr
            exact AJ.xi (SK.at sK_x_of 34 rfl) rfl
          · refine k_ite hr (fun hc hr => ?_) (fun n4 hr => ?_)
            · refine AJ.tsIn sw_x_of_15 (by rw [hc]; decide) (by rw [hc]; decide) (by rw [hc]; rfl) rfl ?_
              refine AJ.g sK_x_of 35 3 (True) 108 [some (.ref 0), some (.int l1), some (.int l2)] [.int l1, .ref 1] (h_x_of now_people_ now_gates_ now_hour_ now_texts_ now_ruling_ now_x_ now_born_ now_deeds_size_ now_done_ now_paid_ now_deeds_cells_ now_town_names_) rfl trivial ?_
              refine k_b1 hr (fun r3 e4 hr => ?_)
              refine AJ.dV mk_world_didBy (SK.at sK_x_of 38 rfl) lk_11_158 (c_world_didBy (people_ := now_people_) (gates_ := now_gates_) (hour_ := now_hour_) (texts_ := now_texts_) (ruling_ := now_ruling_) (x_ := now_x_) (deeds_size_ := now_deeds_size_) (deeds_cells_ := now_deeds_cells_) e4) [1, 3, 7] [2, 17, 6, 5, 4, 18, 19] [] 111 [.int r3] (h_x_of now_people_ now_gates_ now_hour_ now_texts_ now_ruling_ now_x_ now_born_ now_deeds_size_ now_done_ now_paid_ now_deeds_cells_ now_town_names_) rfl rfl rfl rfl rfl (by decide +kernel) rfl rfl rfl rfl (Nat.le_of_ble_eq_true rfl) rfl rfl rfl ?_
              cases hr
              exact AJ.xi (SK.at sK_x_of 39 rfl) rfl
            · refine k_ite hr (fun hc hr => ?_) (fun n5 hr => ?_)
              · refine AJ.tsIn sw_x_of_15 (by rw [hc]; decide) (by rw [hc]; decide) (by rw [hc]; rfl) rfl ?_
                refine k_grd hr (fun g2 hr => ?_)
                refine AJ.g sK_x_of 40 5 (inb l1 8 ∧ True) 121 [some (.ref 0), some (.int l1), some (.int l2)] [.int (now_born_ (ix l1))] (h_x_of now_people_ now_gates_ now_hour_ now_texts_ now_ruling_ now_x_ now_born_ now_deeds_size_ now_done_ now_paid_ now_deeds_cells_ now_town_names_) rfl ⟨g2, trivial⟩ ?_
                refine AJ.iT hr (SK.at sK_x_of 45 rfl) 128 124 rfl rfl rfl (fun hr => ?_) (fun hr => ?_)
                · refine AJ.g sK_x_of 48 1 (True) 129 [some (.ref 0), some (.int l1), some (.int l2)] [.int 0] (h_x_of now_people_ now_gates_ now_hour_ now_texts_ now_ruling_ now_x_ now_born_ now_deeds_size_ now_done_ now_paid_ now_deeds_cells_ now_town_names_) rfl trivial ?_
                  cases hr
                  exact AJ.xi (SK.at sK_x_of 49 rfl) rfl
                · refine AJ.g sK_x_of 46 2 (True) 129 [some (.ref 0), some (.int l1), some (.int l2)] [.int 1] (h_x_of now_people_ now_gates_ now_hour_ now_texts_ now_ruling_ now_x_ now_born_ now_deeds_size_ now_done_ now_paid_ now_deeds_cells_ now_town_names_) rfl trivial ?_
                  cases hr
                  exact AJ.xi (SK.at sK_x_of 49 rfl) rfl
              · refine AJ.tsOut sw_x_of_15 (by have w0 : (l2 : Int32).toInt ≠ 0 := ne_toInt n0; have w1 : (l2 : Int32).toInt ≠ 1 := ne_toInt n1; have w2 : (l2 : Int32).toInt ≠ 2 := ne_toInt n2; have w3 : (l2 : Int32).toInt ≠ 3 := ne_toInt n3; have w4 : (l2 : Int32).toInt ≠ 4 := ne_toInt n4; have w5 : (l2 : Int32).toInt ≠ 5 := ne_toInt n5; omega) rfl ?_
                refine AJ.g sK_x_of 50 1 (True) 132 [some (.ref 0), some (.int l1), some (.int l2)] [.int (-2)] (h_x_of now_people_ now_gates_ now_hour_ now_texts_ now_ruling_ now_x_ now_born_ now_deeds_size_ now_done_ now_paid_ now_deeds_cells_ now_town_names_) rfl trivial ?_
                cases hr
                exact AJ.xi (SK.at sK_x_of 51 rfl) rfl
theorem sK_x_isName : SK M_x_isName q_x_isName := sk_x_isName
set_option maxRecDepth 100000 in
set_option maxHeartbeats 4000000 in
theorem c_x_isName {d : Nat}  {l0 : Int32} {r0 : Int32} (hr : f_x_isName l0 = some r0) : Ctr (d + 1) M_x_isName [.int l0] [] (some (.int r0)) [] := by
  refine Ctr.start pn_x [some (.int l0)] (Nat.le_of_ble_eq_true rfl) rfl ?_
  unfold f_x_isName at hr
  refine AJ.g sK_x_isName 0 1 (True) 1 [some (.int l0)] [.int l0] [] rfl trivial ?_
  refine AJ.iT hr (SK.at sK_x_isName 1 rfl) 14 4 rfl rfl rfl (fun hr => ?_) (fun hr => ?_)
  · refine AJ.g sK_x_isName 7 1 (True) 15 [some (.int l0)] [.int 0] [] rfl trivial ?_
    cases hr
    exact AJ.xz (by decide) (SK.at sK_x_isName 8 rfl) rfl
  · refine AJ.g sK_x_isName 2 2 (True) 7 [some (.int l0)] [.int 8, .int l0] [] rfl trivial ?_
    refine AJ.iF hr (SK.at sK_x_isName 4 rfl) 14 10 rfl rfl rfl (fun hr => ?_) (fun hr => ?_)
    · refine AJ.g sK_x_isName 5 2 (True) 15 [some (.int l0)] [.int 1] [] rfl trivial ?_
      cases hr
      exact AJ.xz (by decide) (SK.at sK_x_isName 8 rfl) rfl
    · refine AJ.g sK_x_isName 7 1 (True) 15 [some (.int l0)] [.int 0] [] rfl trivial ?_
      cases hr
      exact AJ.xz (by decide) (SK.at sK_x_isName 8 rfl) rfl
theorem sK_town_holderOf : SK M_town_holderOf q_town_holderOf := sk_town_holderOf
set_option maxRecDepth 100000 in
set_option maxHeartbeats 4000000 in
theorem bt_town_holderOf_2 {d : Nat} {rr : Option Value} {h0 hF : List va_E} {names_ : Nat → Int32} {l1 : Int32} {l2 : Int32} {x : Int32 ⊕ (Int32 ⊕ Unit)} (hr : fb_town_holderOf_2 names_ l1 l2 = some x) (hx : Sum.elim (fun s : Int32 => AJ (M_town_holderOf, d + 1, rr, h0, hF) 2 [some (.ref 0), some (.int l1), some (.int s)] [] (h_town_holderOf names_)) (Sum.elim (fun s : Int32 => AJ (M_town_holderOf, d + 1, rr, h0, hF) 21 [none, none, some (.int s)] [] (h_town_holderOf names_)) (fun s : Unit => AJ (M_town_holderOf, d + 1, rr, h0, hF) 29 [] [] (h_town_holderOf names_))) x) : AJ (M_town_holderOf, d + 1, rr, h0, hF) 2 [some (.ref 0), some (.int l1), some (.int l2)] [] (h_town_holderOf names_) := by
  unfold fb_town_holderOf_2 at hr
  refine AJ.g sK_town_holderOf 2 4 (True) 8 [some (.ref 0), some (.int l1), some (.int l2)] [.int 8, .int l2] (h_town_holderOf names_) rfl trivial ?_
  refine AJ.iF hr (SK.at sK_town_holderOf 6 rfl) 29 11 rfl rfl rfl (fun hr => ?_) (fun hr => ?_)
  · refine k_grd hr (fun g1 hr => ?_)
    refine AJ.g sK_town_holderOf 7 5 (inb l2 8 ∧ True) 18 [some (.ref 0), some (.int l1), some (.int l2)] [.int l1, .int (names_ (ix l2))] (h_town_holderOf names_) rfl ⟨g1, trivial⟩ ?_
    refine AJ.iF hr (SK.at sK_town_holderOf 12 rfl) 23 21 rfl rfl rfl (fun hr => ?_) (fun hr => ?_)
    · cases hr
      refine AJ.fg [false, false, true] [none, none, some (.int l2)] rfl ?_
      exact hx
    · refine AJ.g sK_town_holderOf 15 2 (True) 2 [some (.ref 0), some (.int l1), some (.int (l2 + 1))] [] (h_town_holderOf names_) rfl trivial ?_
      cases hr
      refine AJ.fg [true, true, true] [some (.ref 0), some (.int l1), some (.int (l2 + 1))] rfl ?_
      exact hx
  · cases hr
    refine AJ.fg [] [] rfl ?_
    exact hx
set_option maxRecDepth 100000 in
set_option maxHeartbeats 4000000 in
theorem c_town_holderOf {d : Nat} {names_ : Nat → Int32} {l1 : Int32} {r0 : Int32} (hr : f_town_holderOf names_ l1 = some r0) : Ctr (d + 1) M_town_holderOf [.ref 0, .int l1] (h_town_holderOf names_) (some (.int r0)) (h_town_holderOf names_) := by
  refine Ctr.start pn_town [some (.ref 0), some (.int l1)] (Nat.le_of_ble_eq_true rfl) rfl ?_
  unfold f_town_holderOf at hr
  refine AJ.g sK_town_holderOf 0 2 (True) 2 [some (.ref 0), some (.int l1), some (.int 0)] [] (h_town_holderOf names_) rfl trivial ?_
  refine k_bs hr (fun z he hr => ?_) (fun z he hr => ?_)
  · obtain ⟨l2_2, rfl⟩ : ∃ w, w = z := ⟨_, rfl⟩
    refine AJ.fg [true, true, true] [some (.ref 0), some (.int l1), some (.int 0)] rfl ?_
    refine itr_ok (fb_town_holderOf_2 names_ l1) (fun s : Int32 => AJ _ 2 [some (.ref 0), some (.int l1), some (.int s)] [] (h_town_holderOf names_)) (Sum.elim (fun s : Int32 => AJ _ 21 [none, none, some (.int s)] [] (h_town_holderOf names_)) (fun s : Unit => AJ _ 29 [] [] (h_town_holderOf names_))) (fun s x hb hx => bt_town_holderOf_2 hb hx) KF 0 (.inl l2_2) he (show AJ _ 21 [none, none, some (.int l2_2)] [] (h_town_holderOf names_) from ?_)
    refine AJ.g sK_town_holderOf 13 1 (True) 22 [none, none, some (.int l2_2)] [.int l2_2] (h_town_holderOf names_) rfl trivial ?_
    cases hr
    exact AJ.xi (SK.at sK_town_holderOf 14 rfl) rfl
  · refine AJ.fg [true, true, true] [some (.ref 0), some (.int l1), some (.int 0)] rfl ?_
    refine itr_ok (fb_town_holderOf_2 names_ l1) (fun s : Int32 => AJ _ 2 [some (.ref 0), some (.int l1), some (.int s)] [] (h_town_holderOf names_)) (Sum.elim (fun s : Int32 => AJ _ 21 [none, none, some (.int s)] [] (h_town_holderOf names_)) (fun s : Unit => AJ _ 29 [] [] (h_town_holderOf names_))) (fun s x hb hx => bt_town_holderOf_2 hb hx) KF 0 (.inr (())) he (show AJ _ 29 [] [] (h_town_holderOf names_) from ?_)
    refine AJ.g sK_town_holderOf 17 1 (True) 30 [] [.int (-1)] (h_town_holderOf names_) rfl trivial ?_
    cases hr
    exact AJ.xi (SK.at sK_town_holderOf 18 rfl) rfl
theorem sK_x_called : SK M_x_called q_x_called := sk_x_called
set_option maxRecDepth 100000 in
set_option maxHeartbeats 4000000 in
theorem c_x_called {d : Nat} {now_people_ : Int32} {now_gates_ : Int32} {now_hour_ : Int32} {now_texts_ : Int32} {now_ruling_ : Int32} {now_x_ : Int32} {now_town_names_ : Nat → Int32} {l1 : Int32} {r0 : Int32} (hr : f_x_called now_town_names_ l1 = some r0) : Ctr (d + 2) M_x_called [.ref 0, .int l1] (h_x_called now_people_ now_gates_ now_hour_ now_texts_ now_ruling_ now_x_ now_town_names_) (some (.int r0)) (h_x_called now_people_ now_gates_ now_hour_ now_texts_ now_ruling_ now_x_ now_town_names_) := by
  refine Ctr.start pn_x [some (.ref 0), some (.int l1)] (Nat.le_of_ble_eq_true rfl) rfl ?_
  unfold f_x_called at hr
  refine AJ.g sK_x_called 0 1 (True) 1 [some (.ref 0), some (.int l1)] [.int l1] (h_x_called now_people_ now_gates_ now_hour_ now_texts_ now_ruling_ now_x_ now_town_names_) rfl trivial ?_
  refine k_b1 hr (fun r1 e4 hr => ?_)
  refine AJ.dS mk_x_isName (SK.at sK_x_called 1 rfl) lk_11_165 (c_x_isName  e4) [] [] [] 4 [.int r1] (h_x_called now_people_ now_gates_ now_hour_ now_texts_ now_ruling_ now_x_ now_town_names_) rfl rfl (by decide +kernel) rfl rfl rfl rfl (Nat.le_of_ble_eq_true rfl) rfl rfl rfl ?_
  refine AJ.iT hr (SK.at sK_x_called 2 rfl) 21 7 rfl rfl rfl (fun hr => ?_) (fun hr => ?_)
  · refine AJ.g sK_x_called 9 1 (True) 22 [some (.ref 0), some (.int l1)] [.int (-1)] (h_x_called now_people_ now_gates_ now_hour_ now_texts_ now_ruling_ now_x_ now_town_names_) rfl trivial ?_
    cases hr
    exact AJ.xi (SK.at sK_x_called 10 rfl) rfl
  · refine AJ.g sK_x_called 3 4 (True) 15 [some (.ref 0), some (.int l1)] [.int l1, .ref 2] (h_x_called now_people_ now_gates_ now_hour_ now_texts_ now_ruling_ now_x_ now_town_names_) rfl trivial ?_
    refine k_b1 hr (fun r2 e3 hr => ?_)
    refine AJ.dV mk_town_holderOf (SK.at sK_x_called 7 rfl) lk_11_168 (c_town_holderOf (names_ := now_town_names_) e3) [2, 3] [19, 20] [] 18 [.int r2] (h_x_called now_people_ now_gates_ now_hour_ now_texts_ now_ruling_ now_x_ now_town_names_) rfl rfl rfl rfl rfl (by decide +kernel) rfl rfl rfl rfl (Nat.le_of_ble_eq_true rfl) rfl rfl rfl ?_
    refine AJ.g sK_x_called 8 1 (True) 22 [some (.ref 0), some (.int l1)] [.int r2] (h_x_called now_people_ now_gates_ now_hour_ now_texts_ now_ruling_ now_x_ now_town_names_) rfl trivial ?_
    cases hr
    exact AJ.xi (SK.at sK_x_called 10 rfl) rfl
theorem sK_x_heap : SK M_x_heap q_x_heap := sk_x_heap
set_option maxRecDepth 100000 in
set_option maxHeartbeats 4000000 in
theorem c_x_heap {d : Nat} {now_people_ : Int32} {now_gates_ : Int32} {now_hour_ : Int32} {now_texts_ : Int32} {now_ruling_ : Int32} {now_x_ : Int32} {now_town_sizes_ : Nat → Int32} {now_town_heaps_ : Nat → Nat → Int32} {l1 : Int32} {l2 : Int32} {r0 : Int32} (hr : f_x_heap now_gates_ now_town_sizes_ now_town_heaps_ l1 l2 = some r0) : Ctr (d + 3) M_x_heap [.ref 0, .int l1, .int l2] (h_x_heap now_people_ now_gates_ now_hour_ now_texts_ now_ruling_ now_x_ now_town_sizes_ now_town_heaps_) (some (.int r0)) (h_x_heap now_people_ now_gates_ now_hour_ now_texts_ now_ruling_ now_x_ now_town_sizes_ now_town_heaps_) := by
  refine Ctr.start pn_x [some (.ref 0), some (.int l1), some (.int l2)] (Nat.le_of_ble_eq_true rfl) rfl ?_
  unfold f_x_heap at hr
  refine AJ.g sK_x_heap 0 3 (True) 5 [some (.ref 0), some (.int l1), some (.int l2)] [.int l1, .ref 1] (h_x_heap now_people_ now_gates_ now_hour_ now_texts_ now_ruling_ now_x_ now_town_sizes_ now_town_heaps_) rfl trivial ?_
  refine k_b1 hr (fun r1 e6 hr => ?_)
  refine AJ.dV mk_world_hasGate (SK.at sK_x_heap 3 rfl) lk_11_171 (c_world_hasGate (people_ := now_people_) (gates_ := now_gates_) (hour_ := now_hour_) (texts_ := now_texts_) (ruling_ := now_ruling_) (x_ := now_x_) e6) [1] [16, 17, 18, 19, 2, 20, 21, 22] [] 8 [.int r1] (h_x_heap now_people_ now_gates_ now_hour_ now_texts_ now_ruling_ now_x_ now_town_sizes_ now_town_heaps_) rfl rfl rfl rfl rfl (by decide +kernel) rfl rfl rfl rfl (Nat.le_of_ble_eq_true rfl) rfl rfl rfl ?_
  refine AJ.iF hr (SK.at sK_x_heap 4 rfl) 13 11 rfl rfl rfl (fun hr => ?_) (fun hr => ?_)
  · refine AJ.g sK_x_heap 5 1 (True) 12 [some (.ref 0), some (.int l1), some (.int l2)] [.int (-1)] (h_x_heap now_people_ now_gates_ now_hour_ now_texts_ now_ruling_ now_x_ now_town_sizes_ now_town_heaps_) rfl trivial ?_
    cases hr
    exact AJ.xi (SK.at sK_x_heap 6 rfl) rfl
  · refine AJ.g sK_x_heap 7 2 (True) 15 [some (.ref 0), some (.int l1), some (.int l2)] [.int (-1), .int l2] (h_x_heap now_people_ now_gates_ now_hour_ now_texts_ now_ruling_ now_x_ now_town_sizes_ now_town_heaps_) rfl trivial ?_
    refine AJ.iF hr (SK.at sK_x_heap 9 rfl) 32 18 rfl rfl rfl (fun hr => ?_) (fun hr => ?_)
    · refine AJ.g sK_x_heap 10 4 (True) 26 [some (.ref 0), some (.int l1), some (.int l2)] [.int l1, .ref 2] (h_x_heap now_people_ now_gates_ now_hour_ now_texts_ now_ruling_ now_x_ now_town_sizes_ now_town_heaps_) rfl trivial ?_
      refine k_b1 hr (fun r4 e5 hr => ?_)
      refine AJ.dV mk_town_sizeOf (SK.at sK_x_heap 14 rfl) lk_11_174 (c_town_sizeOf (sizes_ := now_town_sizes_) e5) [2, 3] [23, 4] [] 29 [.int r4] (h_x_heap now_people_ now_gates_ now_hour_ now_texts_ now_ruling_ now_x_ now_town_sizes_ now_town_heaps_) rfl rfl rfl rfl rfl (by decide +kernel) rfl rfl rfl rfl (Nat.le_of_ble_eq_true rfl) rfl rfl rfl ?_
      refine AJ.g sK_x_heap 15 1 (True) 44 [some (.ref 0), some (.int l1), some (.int l2)] [.int r4] (h_x_heap now_people_ now_gates_ now_hour_ now_texts_ now_ruling_ now_x_ now_town_sizes_ now_town_heaps_) rfl trivial ?_
      cases hr
      exact AJ.xi (SK.at sK_x_heap 22 rfl) rfl
    · refine AJ.g sK_x_heap 16 5 (True) 41 [some (.ref 0), some (.int l1), some (.int l2)] [.int l2, .int l1, .ref 2] (h_x_heap now_people_ now_gates_ now_hour_ now_texts_ now_ruling_ now_x_ now_town_sizes_ now_town_heaps_) rfl trivial ?_
      refine k_b1 hr (fun r2 e3 hr => ?_)
      refine AJ.dV mk_town_nameAt (SK.at sK_x_heap 21 rfl) lk_11_177 (c_town_nameAt (sizes_ := now_town_sizes_) (heaps_ := now_town_heaps_) e3) [2, 3, 4, 5, 6, 7] [23] [] 44 [.int r2] (h_x_heap now_people_ now_gates_ now_hour_ now_texts_ now_ruling_ now_x_ now_town_sizes_ now_town_heaps_) rfl rfl rfl rfl rfl (by decide +kernel) rfl rfl rfl rfl (Nat.le_of_ble_eq_true rfl) rfl rfl rfl ?_
      cases hr
      exact AJ.xi (SK.at sK_x_heap 22 rfl) rfl
theorem sK_tri_add : SK M_tri_add q_tri_add := sk_tri_add
set_option maxRecDepth 100000 in
set_option maxHeartbeats 4000000 in
theorem c_tri_add {d : Nat} {size_ : Int32} {cells_n : Nat} {cells_ : Nat → Int32} {l1 : Int32} {l2 : Int32} {l3 : Int32} {r0 : Int32} {size_Z : Int32} {cells_Z : Nat → Int32} (hr : f_tri_add size_ cells_n cells_ l1 l2 l3 = some (r0, size_Z, cells_Z)) : Ctr (d + 1) M_tri_add [.ref 0, .int l1, .int l2, .int l3] (h_tri_add size_ cells_n cells_) (some (.int r0)) (h_tri_add size_Z cells_n cells_Z) := by
  refine Ctr.start pn_tri [some (.ref 0), some (.int l1), some (.int l2), some (.int l3)] (Nat.le_of_ble_eq_true rfl) rfl ?_
  unfold f_tri_add at hr
  refine AJ.g sK_tri_add 0 6 (True) 10 [some (.ref 0), some (.int l1), some (.int l2), some (.int l3), some (.int (size_ * 3))] [.int (size_ * 3)] (h_tri_add size_ cells_n cells_) rfl trivial ?_
  refine AJ.iT hr (SK.at sK_tri_add 6 rfl) 25 13 rfl rfl rfl (fun hr => ?_) (fun hr => ?_)
  · refine AJ.g sK_tri_add 14 1 (True) 26 [some (.ref 0), some (.int l1), some (.int l2), some (.int l3), some (.int (size_ * 3))] [.int (-1)] (h_tri_add size_ cells_n cells_) rfl trivial ?_
    cases hr
    exact AJ.xi (SK.at sK_tri_add 15 rfl) rfl
  · refine AJ.g sK_tri_add 7 6 (True) 22 [some (.ref 0), some (.int l1), some (.int l2), some (.int l3), some (.int (size_ * 3))] [.int (Int32.ofNat cells_n), .int ((size_ * 3) + 3)] (h_tri_add size_ cells_n cells_) rfl trivial ?_
    refine AJ.iF hr (SK.at sK_tri_add 13 rfl) 27 25 rfl rfl rfl (fun hr => ?_) (fun hr => ?_)
    · refine AJ.g sK_tri_add 14 1 (True) 26 [some (.ref 0), some (.int l1), some (.int l2), some (.int l3), some (.int (size_ * 3))] [.int (-1)] (h_tri_add size_ cells_n cells_) rfl trivial ?_
      cases hr
      exact AJ.xi (SK.at sK_tri_add 15 rfl) rfl
    · refine k_grd hr (fun g1 hr => ?_)
      refine AJ.g sK_tri_add 16 5 (inb (size_ * 3) cells_n ∧ True) 35 [some (.ref 0), some (.int l1), some (.int l2), some (.int l3), some (.int (size_ * 3))] [] (h_tri_add size_ cells_n (upd cells_ (ix (size_ * 3)) l1)) rfl ⟨g1, trivial⟩ ?_
      replace hr := k_bnd hr
      generalize (upd cells_ (ix (size_ * 3)) l1 : Nat → Int32) = cells_2 at hr ⊢
      refine k_grd hr (fun g3 hr => ?_)
      refine AJ.g sK_tri_add 21 7 (inb ((size_ * 3) + 1) cells_n ∧ True) 45 [some (.ref 0), some (.int l1), some (.int l2), some (.int l3), some (.int (size_ * 3))] [] (h_tri_add size_ cells_n (upd cells_2 (ix ((size_ * 3) + 1)) l2)) rfl ⟨g3, trivial⟩ ?_
      replace hr := k_bnd hr
      generalize (upd cells_2 (ix ((size_ * 3) + 1)) l2 : Nat → Int32) = cells_4 at hr ⊢
      refine k_grd hr (fun g5 hr => ?_)
      refine AJ.g sK_tri_add 28 7 (inb ((size_ * 3) + 2) cells_n ∧ True) 55 [some (.ref 0), some (.int l1), some (.int l2), some (.int l3), some (.int (size_ * 3))] [] (h_tri_add size_ cells_n (upd cells_4 (ix ((size_ * 3) + 2)) l3)) rfl ⟨g5, trivial⟩ ?_
      replace hr := k_bnd hr
      generalize (upd cells_4 (ix ((size_ * 3) + 2)) l3 : Nat → Int32) = cells_6 at hr ⊢
      refine AJ.g sK_tri_add 35 8 (True) 69 [some (.ref 0), some (.int l1), some (.int l2), some (.int l3), some (.int (size_ * 3))] [.int (size_ + 1)] (h_tri_add (size_ + 1) cells_n cells_6) rfl trivial ?_
      cases hr
      exact AJ.xi (SK.at sK_tri_add 43 rfl) rfl
theorem sK_x_deed : SK M_x_deed q_x_deed := sk_x_deed
set_option maxRecDepth 100000 in
set_option maxHeartbeats 4000000 in
theorem c_x_deed {d : Nat} {now_people_ : Int32} {now_gates_ : Int32} {now_hour_ : Int32} {now_texts_ : Int32} {now_ruling_ : Int32} {now_x_ : Int32} {now_deeds_size_ : Int32} {now_town_names_ : Nat → Int32} {now_deeds_cells_ : Nat → Int32} {l1 : Int32} {l2 : Int32} {r0 : Int32} {now_deeds_size_Z : Int32} {now_deeds_cells_Z : Nat → Int32} (hr : f_x_deed now_deeds_size_ now_town_names_ now_deeds_cells_ l1 l2 = some (r0, now_deeds_size_Z, now_deeds_cells_Z)) : Ctr (d + 2) M_x_deed [.ref 0, .int l1, .int l2] (h_x_deed now_people_ now_gates_ now_hour_ now_texts_ now_ruling_ now_x_ now_deeds_size_ now_town_names_ now_deeds_cells_) (some (.int r0)) (h_x_deed now_people_ now_gates_ now_hour_ now_texts_ now_ruling_ now_x_ now_deeds_size_Z now_town_names_ now_deeds_cells_Z) := by
  refine Ctr.start pn_x [some (.ref 0), some (.int l1), some (.int l2)] (Nat.le_of_ble_eq_true rfl) rfl ?_
  unfold f_x_deed at hr
  refine AJ.g sK_x_deed 0 1 (True) 1 [some (.ref 0), some (.int l1), some (.int l2)] [.int l1] (h_x_deed now_people_ now_gates_ now_hour_ now_texts_ now_ruling_ now_x_ now_deeds_size_ now_town_names_ now_deeds_cells_) rfl trivial ?_
  refine k_b1 hr (fun r1 e8 hr => ?_)
  refine AJ.dS mk_x_isName (SK.at sK_x_deed 1 rfl) lk_11_165 (c_x_isName  e8) [] [] [] 4 [.int r1] (h_x_deed now_people_ now_gates_ now_hour_ now_texts_ now_ruling_ now_x_ now_deeds_size_ now_town_names_ now_deeds_cells_) rfl rfl (by decide +kernel) rfl rfl rfl rfl (Nat.le_of_ble_eq_true rfl) rfl rfl rfl ?_
  refine AJ.iT hr (SK.at sK_x_deed 2 rfl) 19 7 rfl rfl rfl (fun hr => ?_) (fun hr => ?_)
  · refine AJ.g sK_x_deed 9 1 (True) 20 [some (.ref 0), some (.int l1), some (.int l2)] [.int (-1)] (h_x_deed now_people_ now_gates_ now_hour_ now_texts_ now_ruling_ now_x_ now_deeds_size_ now_town_names_ now_deeds_cells_) rfl trivial ?_
    cases hr
    exact AJ.xi (SK.at sK_x_deed 10 rfl) rfl
  · refine AJ.g sK_x_deed 3 2 (True) 9 [some (.ref 0), some (.int l1), some (.int l2)] [.int 1, .int l2] (h_x_deed now_people_ now_gates_ now_hour_ now_texts_ now_ruling_ now_x_ now_deeds_size_ now_town_names_ now_deeds_cells_) rfl trivial ?_
    refine AJ.iT hr (SK.at sK_x_deed 5 rfl) 19 12 rfl rfl rfl (fun hr => ?_) (fun hr => ?_)
    · refine AJ.g sK_x_deed 9 1 (True) 20 [some (.ref 0), some (.int l1), some (.int l2)] [.int (-1)] (h_x_deed now_people_ now_gates_ now_hour_ now_texts_ now_ruling_ now_x_ now_deeds_size_ now_town_names_ now_deeds_cells_) rfl trivial ?_
      cases hr
      exact AJ.xi (SK.at sK_x_deed 10 rfl) rfl
    · refine AJ.g sK_x_deed 6 2 (True) 16 [some (.ref 0), some (.int l1), some (.int l2)] [.int 999, .int l2] (h_x_deed now_people_ now_gates_ now_hour_ now_texts_ now_ruling_ now_x_ now_deeds_size_ now_town_names_ now_deeds_cells_) rfl trivial ?_
      refine AJ.iF hr (SK.at sK_x_deed 8 rfl) 21 19 rfl rfl rfl (fun hr => ?_) (fun hr => ?_)
      · refine AJ.g sK_x_deed 9 1 (True) 20 [some (.ref 0), some (.int l1), some (.int l2)] [.int (-1)] (h_x_deed now_people_ now_gates_ now_hour_ now_texts_ now_ruling_ now_x_ now_deeds_size_ now_town_names_ now_deeds_cells_) rfl trivial ?_
        cases hr
        exact AJ.xi (SK.at sK_x_deed 10 rfl) rfl
      · refine AJ.g sK_x_deed 11 4 (True) 29 [some (.ref 0), some (.int l1), some (.int l2)] [.int l1, .ref 2] (h_x_deed now_people_ now_gates_ now_hour_ now_texts_ now_ruling_ now_x_ now_deeds_size_ now_town_names_ now_deeds_cells_) rfl trivial ?_
        refine k_b1 hr (fun r2 e7 hr => ?_)
        refine AJ.dV mk_town_holderOf (SK.at sK_x_deed 15 rfl) lk_11_168 (c_town_holderOf (names_ := now_town_names_) e7) [2, 4] [20, 21] [] 32 [.int r2] (h_x_deed now_people_ now_gates_ now_hour_ now_texts_ now_ruling_ now_x_ now_deeds_size_ now_town_names_ now_deeds_cells_) rfl rfl rfl rfl rfl (by decide +kernel) rfl rfl rfl rfl (Nat.le_of_ble_eq_true rfl) rfl rfl rfl ?_
        refine AJ.g sK_x_deed 16 3 (True) 35 [some (.ref 0), some (.int l1), some (.int l2), some (.int r2)] [.int (-1), .int r2] (h_x_deed now_people_ now_gates_ now_hour_ now_texts_ now_ruling_ now_x_ now_deeds_size_ now_town_names_ now_deeds_cells_) rfl trivial ?_
        refine AJ.iF hr (SK.at sK_x_deed 19 rfl) 42 38 rfl rfl rfl (fun hr => ?_) (fun hr => ?_)
        · refine AJ.g sK_x_deed 20 2 (True) 55 [some (.ref 0), some (.int l1), some (.int l2), some (.int r2)] [.int (-1)] (h_x_deed now_people_ now_gates_ now_hour_ now_texts_ now_ruling_ now_x_ now_deeds_size_ now_town_names_ now_deeds_cells_) rfl trivial ?_
          cases hr
          exact AJ.xi (SK.at sK_x_deed 29 rfl) rfl
        · refine AJ.g sK_x_deed 22 6 (True) 52 [some (.ref 0), some (.int l1), some (.int l2), some (.int r2)] [.int r2, .int l2, .int l1, .ref 3] (h_x_deed now_people_ now_gates_ now_hour_ now_texts_ now_ruling_ now_x_ now_deeds_size_ now_town_names_ now_deeds_cells_) rfl trivial ?_
          refine k_b3 hr (fun r3 now_deeds_size_4 now_deeds_cells_5 e6 hr => ?_)
          refine AJ.dV mk_tri_add (SK.at sK_x_deed 28 rfl) lk_11_184 (c_tri_add (size_ := now_deeds_size_) (cells_n := 60) (cells_ := now_deeds_cells_) e6) [3, 5] [] [] 55 [.int r3] (h_x_deed now_people_ now_gates_ now_hour_ now_texts_ now_ruling_ now_x_ now_deeds_size_4 now_town_names_ now_deeds_cells_5) rfl rfl rfl rfl rfl (by decide +kernel) rfl rfl rfl rfl (Nat.le_of_ble_eq_true rfl) rfl rfl rfl ?_
          cases hr
          exact AJ.xi (SK.at sK_x_deed 29 rfl) rfl
theorem sK_x_owes : SK M_x_owes q_x_owes := sk_x_owes
set_option maxRecDepth 100000 in
set_option maxHeartbeats 4000000 in
theorem c_x_owes {d : Nat} {now_people_ : Int32} {now_gates_ : Int32} {now_hour_ : Int32} {now_texts_ : Int32} {now_ruling_ : Int32} {now_x_ : Int32} {now_deeds_size_ : Int32} {now_deeds_cells_ : Nat → Int32} {l1 : Int32} {r0 : Int32} (hr : f_x_owes now_deeds_size_ now_deeds_cells_ l1 = some r0) : Ctr (d + 4) M_x_owes [.ref 0, .int l1] (h_x_owes now_people_ now_gates_ now_hour_ now_texts_ now_ruling_ now_x_ now_deeds_size_ now_deeds_cells_) (some (.int r0)) (h_x_owes now_people_ now_gates_ now_hour_ now_texts_ now_ruling_ now_x_ now_deeds_size_ now_deeds_cells_) := by
  refine Ctr.start pn_x [some (.ref 0), some (.int l1)] (Nat.le_of_ble_eq_true rfl) rfl ?_
  unfold f_x_owes at hr
  refine AJ.g sK_x_owes 0 1 (True) 1 [some (.ref 0), some (.int l1)] [.int l1] (h_x_owes now_people_ now_gates_ now_hour_ now_texts_ now_ruling_ now_x_ now_deeds_size_ now_deeds_cells_) rfl trivial ?_
  refine k_b1 hr (fun r1 e4 hr => ?_)
  refine AJ.dS mk_x_isName (SK.at sK_x_owes 1 rfl) lk_11_165 (c_x_isName  e4) [] [] [] 4 [.int r1] (h_x_owes now_people_ now_gates_ now_hour_ now_texts_ now_ruling_ now_x_ now_deeds_size_ now_deeds_cells_) rfl rfl (by decide +kernel) rfl rfl rfl rfl (Nat.le_of_ble_eq_true rfl) rfl rfl rfl ?_
  refine AJ.iT hr (SK.at sK_x_owes 2 rfl) 18 7 rfl rfl rfl (fun hr => ?_) (fun hr => ?_)
  · refine AJ.g sK_x_owes 8 1 (True) 19 [some (.ref 0), some (.int l1)] [.int (-1)] (h_x_owes now_people_ now_gates_ now_hour_ now_texts_ now_ruling_ now_x_ now_deeds_size_ now_deeds_cells_) rfl trivial ?_
    cases hr
    exact AJ.xi (SK.at sK_x_owes 9 rfl) rfl
  · refine AJ.g sK_x_owes 3 3 (True) 12 [some (.ref 0), some (.int l1)] [.int l1, .ref 1] (h_x_owes now_people_ now_gates_ now_hour_ now_texts_ now_ruling_ now_x_ now_deeds_size_ now_deeds_cells_) rfl trivial ?_
    refine k_b1 hr (fun r2 e3 hr => ?_)
    refine AJ.dV mk_world_owedUnder (SK.at sK_x_owes 6 rfl) lk_11_155 (c_world_owedUnder (people_ := now_people_) (gates_ := now_gates_) (hour_ := now_hour_) (texts_ := now_texts_) (ruling_ := now_ruling_) (x_ := now_x_) (deeds_size_ := now_deeds_size_) (deeds_cells_ := now_deeds_cells_) e3) [1, 2, 3] [12, 13, 14, 15, 16, 17, 18] [] 15 [.int r2] (h_x_owes now_people_ now_gates_ now_hour_ now_texts_ now_ruling_ now_x_ now_deeds_size_ now_deeds_cells_) rfl rfl rfl rfl rfl (by decide +kernel) rfl rfl rfl rfl (Nat.le_of_ble_eq_true rfl) rfl rfl rfl ?_
    refine AJ.g sK_x_owes 7 1 (True) 19 [some (.ref 0), some (.int l1)] [.int r2] (h_x_owes now_people_ now_gates_ now_hour_ now_texts_ now_ruling_ now_x_ now_deeds_size_ now_deeds_cells_) rfl trivial ?_
    cases hr
    exact AJ.xi (SK.at sK_x_owes 9 rfl) rfl
theorem sK_x_row : SK M_x_row q_x_row := sk_x_row
set_option maxRecDepth 100000 in
set_option maxHeartbeats 4000000 in
theorem c_x_row {d : Nat} {now_people_ : Int32} {now_gates_ : Int32} {now_hour_ : Int32} {now_texts_ : Int32} {now_ruling_ : Int32} {now_x_ : Int32} {now_row_size_ : Int32} {now_row_cells_ : Nat → Int32} {l1 : Int32} {l2 : Int32} {r0 : Int32} {now_row_size_Z : Int32} {now_row_cells_Z : Nat → Int32} (hr : f_x_row now_people_ now_gates_ now_row_size_ now_row_cells_ l1 l2 = some (r0, now_row_size_Z, now_row_cells_Z)) : Ctr (d + 2) M_x_row [.ref 0, .int l1, .int l2] (h_x_row now_people_ now_gates_ now_hour_ now_texts_ now_ruling_ now_x_ now_row_size_ now_row_cells_) (some (.int r0)) (h_x_row now_people_ now_gates_ now_hour_ now_texts_ now_ruling_ now_x_ now_row_size_Z now_row_cells_Z) := by
  refine Ctr.start pn_x [some (.ref 0), some (.int l1), some (.int l2)] (Nat.le_of_ble_eq_true rfl) rfl ?_
  unfold f_x_row at hr
  refine AJ.g sK_x_row 0 2 (True) 2 [some (.ref 0), some (.int l1), some (.int l2)] [.int (-1), .int l1] (h_x_row now_people_ now_gates_ now_hour_ now_texts_ now_ruling_ now_x_ now_row_size_ now_row_cells_) rfl trivial ?_
  refine AJ.iF hr (SK.at sK_x_row 2 rfl) 18 5 rfl rfl rfl (fun hr => ?_) (fun hr => ?_)
  · refine AJ.g sK_x_row 3 6 (True) 17 [some (.ref 0), some (.int l1), some (.int l2)] [.int 0] (h_x_row now_people_ now_gates_ now_hour_ now_texts_ now_ruling_ now_x_ 0 now_row_cells_) rfl trivial ?_
    cases hr
    exact AJ.xi (SK.at sK_x_row 9 rfl) rfl
  · refine AJ.g sK_x_row 10 3 (True) 23 [some (.ref 0), some (.int l1), some (.int l2)] [.int l1, .ref 1] (h_x_row now_people_ now_gates_ now_hour_ now_texts_ now_ruling_ now_x_ now_row_size_ now_row_cells_) rfl trivial ?_
    refine k_b1 hr (fun r1 e8 hr => ?_)
    refine AJ.dV mk_world_hasPerson (SK.at sK_x_row 13 rfl) lk_11_135 (c_world_hasPerson (people_ := now_people_) (gates_ := now_gates_) (hour_ := now_hour_) (texts_ := now_texts_) (ruling_ := now_ruling_) (x_ := now_x_) e8) [1] [12, 13, 14, 15, 16, 17, 2, 18] [] 26 [.int r1] (h_x_row now_people_ now_gates_ now_hour_ now_texts_ now_ruling_ now_x_ now_row_size_ now_row_cells_) rfl rfl rfl rfl rfl (by decide +kernel) rfl rfl rfl rfl (Nat.le_of_ble_eq_true rfl) rfl rfl rfl ?_
    refine AJ.iT hr (SK.at sK_x_row 14 rfl) 40 29 rfl rfl rfl (fun hr => ?_) (fun hr => ?_)
    · refine AJ.g sK_x_row 20 1 (True) 41 [some (.ref 0), some (.int l1), some (.int l2)] [.int (-1)] (h_x_row now_people_ now_gates_ now_hour_ now_texts_ now_ruling_ now_x_ now_row_size_ now_row_cells_) rfl trivial ?_
      cases hr
      exact AJ.xi (SK.at sK_x_row 21 rfl) rfl
    · refine AJ.g sK_x_row 15 3 (True) 34 [some (.ref 0), some (.int l1), some (.int l2)] [.int l2, .ref 1] (h_x_row now_people_ now_gates_ now_hour_ now_texts_ now_ruling_ now_x_ now_row_size_ now_row_cells_) rfl trivial ?_
      refine k_b1 hr (fun r2 e7 hr => ?_)
      refine AJ.dV mk_world_hasGate (SK.at sK_x_row 18 rfl) lk_11_171 (c_world_hasGate (people_ := now_people_) (gates_ := now_gates_) (hour_ := now_hour_) (texts_ := now_texts_) (ruling_ := now_ruling_) (x_ := now_x_) e7) [1] [12, 13, 14, 15, 16, 17, 2, 18] [] 37 [.int r2] (h_x_row now_people_ now_gates_ now_hour_ now_texts_ now_ruling_ now_x_ now_row_size_ now_row_cells_) rfl rfl rfl rfl rfl (by decide +kernel) rfl rfl rfl rfl (Nat.le_of_ble_eq_true rfl) rfl rfl rfl ?_
      refine AJ.iF hr (SK.at sK_x_row 19 rfl) 42 40 rfl rfl rfl (fun hr => ?_) (fun hr => ?_)
      · refine AJ.g sK_x_row 20 1 (True) 41 [some (.ref 0), some (.int l1), some (.int l2)] [.int (-1)] (h_x_row now_people_ now_gates_ now_hour_ now_texts_ now_ruling_ now_x_ now_row_size_ now_row_cells_) rfl trivial ?_
        cases hr
        exact AJ.xi (SK.at sK_x_row 21 rfl) rfl
      · refine AJ.g sK_x_row 22 6 (True) 52 [some (.ref 0), some (.int l1), some (.int l2)] [.int 0, .int l2, .int l1, .ref 2] (h_x_row now_people_ now_gates_ now_hour_ now_texts_ now_ruling_ now_x_ now_row_size_ now_row_cells_) rfl trivial ?_
        refine k_b3 hr (fun r3 now_row_size_4 now_row_cells_5 e6 hr => ?_)
        refine AJ.dV mk_tri_add (SK.at sK_x_row 28 rfl) lk_11_184 (c_tri_add (size_ := now_row_size_) (cells_n := 36) (cells_ := now_row_cells_) e6) [2, 3] [] [] 55 [.int r3] (h_x_row now_people_ now_gates_ now_hour_ now_texts_ now_ruling_ now_x_ now_row_size_4 now_row_cells_5) rfl rfl rfl rfl rfl (by decide +kernel) rfl rfl rfl rfl (Nat.le_of_ble_eq_true rfl) rfl rfl rfl ?_
        cases hr
        exact AJ.xi (SK.at sK_x_row 29 rfl) rfl
theorem sK_town_copyFrom : SK M_town_copyFrom q_town_copyFrom := sk_town_copyFrom
set_option maxRecDepth 100000 in
set_option maxHeartbeats 4000000 in
theorem bt_town_copyFrom_31 {d : Nat} {rr : Option Value} {h0 hF : List va_E} {names_ : Nat → Int32} {sizes_ : Nat → Int32} {heaps_ : Nat → Nat → Int32} {p1_names_ : Nat → Int32} {p1_sizes_ : Nat → Int32} {p1_heaps_ : Nat → Nat → Int32} {l2 : Int32} {x : (Int32 × (Nat → Nat → Int32)) ⊕ (Nat → Nat → Int32)} (hr : fb_town_copyFrom_31 p1_heaps_ l2 heaps_ = some x) (hx : Sum.elim (fun s : (Int32 × (Nat → Nat → Int32)) => AJ (M_town_copyFrom, d + 4, rr, h0, hF) 31 [some (.ref 0), some (.ref 7), some (.int s.1)] [] (h_town_copyFrom names_ sizes_ s.2 p1_names_ p1_sizes_ p1_heaps_)) (fun s : Nat → Nat → Int32 => AJ (M_town_copyFrom, d + 4, rr, h0, hF) 61 [] [] (h_town_copyFrom names_ sizes_ s p1_names_ p1_sizes_ p1_heaps_)) x) : AJ (M_town_copyFrom, d + 4, rr, h0, hF) 31 [some (.ref 0), some (.ref 7), some (.int l2)] [] (h_town_copyFrom names_ sizes_ heaps_ p1_names_ p1_sizes_ p1_heaps_) := by
  unfold fb_town_copyFrom_31 at hr
  refine AJ.g sK_town_copyFrom 18 2 (True) 33 [some (.ref 0), some (.ref 7), some (.int l2)] [.int 3, .int l2] (h_town_copyFrom names_ sizes_ heaps_ p1_names_ p1_sizes_ p1_heaps_) rfl trivial ?_
  refine AJ.iF hr (SK.at sK_town_copyFrom 20 rfl) 61 36 rfl rfl rfl (fun hr => ?_) (fun hr => ?_)
  · refine AJ.g sK_town_copyFrom 21 3 (True) 41 [some (.ref 0), some (.ref 7), some (.int l2)] [.int l2, .ref 10] (h_town_copyFrom names_ sizes_ heaps_ p1_names_ p1_sizes_ p1_heaps_) rfl trivial ?_
    refine k_grd hr (fun g3 hr => ?_)
    refine AJ.aal (c := 104) (x := rowp 11 l2) (fs := [.ref 11, .ref 12, .ref 13]) (SK.at sK_town_copyFrom 24 rfl) rfl (Or.inr rfl) g3 (cs3 (k := ix l2) (P := fun k => ([.ref 11, .ref 12, .ref 13] : List Value)[k]? = some (.ref (11 + k))) g3.2 rfl rfl rfl) ?_
    refine AJ.g sK_town_copyFrom 25 4 (True) 48 [some (.ref 0), some (.ref 7), some (.int l2)] [.int l2, .ref 3, .int 0, .ref (rowp 11 l2)] (h_town_copyFrom names_ sizes_ heaps_ p1_names_ p1_sizes_ p1_heaps_) rfl trivial ?_
    refine k_grd hr (fun g4 hr => ?_)
    refine AJ.aal (c := 104) (x := rowp 4 l2) (fs := [.ref 4, .ref 5, .ref 6]) (SK.at sK_town_copyFrom 29 rfl) rfl (Or.inr rfl) g4 (cs3 (k := ix l2) (P := fun k => ([.ref 4, .ref 5, .ref 6] : List Value)[k]? = some (.ref (4 + k))) g4.2 rfl rfl rfl) ?_
    refine AJ.g sK_town_copyFrom 30 2 (True) 52 [some (.ref 0), some (.ref 7), some (.int l2)] [.int 8, .int 0, .ref (rowp 4 l2), .int 0, .ref (rowp 11 l2)] (h_town_copyFrom names_ sizes_ heaps_ p1_names_ p1_sizes_ p1_heaps_) rfl trivial ?_
    refine AJ.acp cpW_ok (SK.at sK_town_copyFrom 32 rfl) lc_7_29 rfl rfl (Or.inl rfl) (cs3 (k := ix l2) (P := fun k => ((h_town_copyFrom names_ sizes_ heaps_ p1_names_ p1_sizes_ p1_heaps_))[11 + k]? = some (.inl (0, 8, .inl (p1_heaps_ k)))) (g3).2 rfl rfl rfl) (cs3 (k := ix l2) (P := fun k => ((h_town_copyFrom names_ sizes_ heaps_ p1_names_ p1_sizes_ p1_heaps_))[4 + k]? = some (.inl (0, 8, .inl (heaps_ k)))) (g4).2 rfl rfl rfl) (by decide) (by decide) (by decide) (by decide) (by decide) (fun h => by cases h) (Nat.le_of_ble_eq_true rfl) 55 rfl (h_town_copyFrom names_ sizes_ (setR heaps_ (ix l2) (va_cpy (p1_heaps_ (ix l2)) (heaps_ (ix l2)) 0 0 8)) p1_names_ p1_sizes_ p1_heaps_) (cs3 (k := ix l2) (P := fun k => ((h_town_copyFrom names_ sizes_ heaps_ p1_names_ p1_sizes_ p1_heaps_)).set (4 + k) (.inl (0, 8, .inl (va_cpy (p1_heaps_ (ix l2)) (heaps_ k) 0 0 8))) = (h_town_copyFrom names_ sizes_ (setR heaps_ k (va_cpy (p1_heaps_ (ix l2)) (heaps_ k) 0 0 8)) p1_names_ p1_sizes_ p1_heaps_)) (g4).2 rfl rfl rfl) ?_
    replace hr := k_bnd hr
    generalize (setR heaps_ (ix l2) (va_cpy (p1_heaps_ (ix l2)) (heaps_ (ix l2)) 0 0 8) : Nat → Nat → Int32) = heaps_5 at hr ⊢
    refine AJ.g sK_town_copyFrom 33 2 (True) 31 [some (.ref 0), some (.ref 7), some (.int (l2 + 1))] [] (h_town_copyFrom names_ sizes_ heaps_5 p1_names_ p1_sizes_ p1_heaps_) rfl trivial ?_
    cases hr
    refine AJ.fg [true, true, true] [some (.ref 0), some (.ref 7), some (.int (l2 + 1))] rfl ?_
    exact hx
  · cases hr
    refine AJ.fg [] [] rfl ?_
    exact hx
set_option maxRecDepth 100000 in
set_option maxHeartbeats 4000000 in
theorem c_town_copyFrom {d : Nat} {names_ : Nat → Int32} {sizes_ : Nat → Int32} {heaps_ : Nat → Nat → Int32} {p1_names_ : Nat → Int32} {p1_sizes_ : Nat → Int32} {p1_heaps_ : Nat → Nat → Int32}  {names_Z : Nat → Int32} {sizes_Z : Nat → Int32} {heaps_Z : Nat → Nat → Int32} (hr : f_town_copyFrom names_ sizes_ heaps_ p1_names_ p1_sizes_ p1_heaps_ = some (names_Z, sizes_Z, heaps_Z)) : Ctr (d + 4) M_town_copyFrom [.ref 0, .ref 7] (h_town_copyFrom names_ sizes_ heaps_ p1_names_ p1_sizes_ p1_heaps_) none (h_town_copyFrom names_Z sizes_Z heaps_Z p1_names_ p1_sizes_ p1_heaps_) := by
  refine Ctr.start pn_town [some (.ref 0), some (.ref 7)] (Nat.le_of_ble_eq_true rfl) rfl ?_
  unfold f_town_copyFrom at hr
  refine AJ.g sK_town_copyFrom 0 7 (True) 12 [some (.ref 0), some (.ref 7)] [.int 8, .int 0, .ref 1, .int 0, .ref 8] (h_town_copyFrom names_ sizes_ heaps_ p1_names_ p1_sizes_ p1_heaps_) rfl trivial ?_
  refine AJ.acp cpW_ok (SK.at sK_town_copyFrom 7 rfl) lc_7_29 rfl rfl (Or.inl rfl) rfl rfl (by decide) (by decide) (by decide) (by decide) (by decide) (fun h => by cases h) (Nat.le_of_ble_eq_true rfl) 15 rfl (h_town_copyFrom (va_cpy p1_names_ names_ 0 0 8) sizes_ heaps_ p1_names_ p1_sizes_ p1_heaps_) rfl ?_
  replace hr := k_bnd hr
  generalize (va_cpy p1_names_ names_ 0 0 8 : Nat → Int32) = names_1 at hr ⊢
  refine AJ.g sK_town_copyFrom 8 7 (True) 26 [some (.ref 0), some (.ref 7)] [.int 3, .int 0, .ref 2, .int 0, .ref 9] (h_town_copyFrom names_1 sizes_ heaps_ p1_names_ p1_sizes_ p1_heaps_) rfl trivial ?_
  refine AJ.acp cpW_ok (SK.at sK_town_copyFrom 15 rfl) lc_7_29 rfl rfl (Or.inl rfl) rfl rfl (by decide) (by decide) (by decide) (by decide) (by decide) (fun h => by cases h) (Nat.le_of_ble_eq_true rfl) 29 rfl (h_town_copyFrom names_1 (va_cpy p1_sizes_ sizes_ 0 0 3) heaps_ p1_names_ p1_sizes_ p1_heaps_) rfl ?_
  replace hr := k_bnd hr
  generalize (va_cpy p1_sizes_ sizes_ 0 0 3 : Nat → Int32) = sizes_2 at hr ⊢
  refine AJ.g sK_town_copyFrom 16 2 (True) 31 [some (.ref 0), some (.ref 7), some (.int 0)] [] (h_town_copyFrom names_1 sizes_2 heaps_ p1_names_ p1_sizes_ p1_heaps_) rfl trivial ?_
  refine k_b1 hr (fun heaps_6 he hr => ?_)
  refine AJ.fg [true, true, true] [some (.ref 0), some (.ref 7), some (.int 0)] rfl ?_
  refine itr_ok (un2 (fb_town_copyFrom_31 p1_heaps_)) (fun s : (Int32 × (Nat → Nat → Int32)) => AJ _ 31 [some (.ref 0), some (.ref 7), some (.int s.1)] [] (h_town_copyFrom names_1 sizes_2 s.2 p1_names_ p1_sizes_ p1_heaps_)) (fun s : Nat → Nat → Int32 => AJ _ 61 [] [] (h_town_copyFrom names_1 sizes_2 s p1_names_ p1_sizes_ p1_heaps_)) (fun s x hb hx => bt_town_copyFrom_31 hb hx) KF (0, heaps_) heaps_6 he (show AJ _ 61 [] [] (h_town_copyFrom names_1 sizes_2 heaps_6 p1_names_ p1_sizes_ p1_heaps_) from ?_)
  cases hr
  exact AJ.xv (SK.at sK_town_copyFrom 35 rfl) rfl
theorem sK_go_doTried : SK M_go_doTried q_go_doTried := sk_go_doTried
set_option maxRecDepth 100000 in
set_option maxHeartbeats 4000000 in
theorem c_go_doTried {d : Nat} {world_people_ : Int32} {world_gates_ : Int32} {world_hour_ : Int32} {world_texts_ : Int32} {world_ruling_ : Int32} {world_x_ : Int32} {laws_ru : Nat} {sums_values_ : Nat → Int32} {lawsL_codeLength_ : Int32} {lawsL_size_ : Int32} {lawsL_take_ : Int32} {lawsL_fee_ : Int32} {sums_stack_ : Nat → Int32} {world_lot_ : Nat → Int32} {world_born_ : Nat → Int32} {lawsL_kinds_ : Nat → Int32} {lawsL_to_ : Nat → Int32} {lawsL_from_ : Nat → Int32} {lawsL_code_ : Nat → Int32} {p1_names_ : Nat → Int32} {p1_sizes_ : Nat → Int32} {p1_heaps_ : Nat → Nat → Int32} {l2 : Int32} {l3 : Int32} {r0 : Int32} {sums_values_Z : Nat → Int32} {sums_stack_Z : Nat → Int32} {p1_names_Z : Nat → Int32} {p1_sizes_Z : Nat → Int32} {p1_heaps_Z : Nat → Nat → Int32} (hru : laws_ru = 0 ∨ laws_ru = 1 ∨ laws_ru = 2 ∨ laws_ru = 3) (hr : f_go_doTried world_people_ world_gates_ world_hour_ world_ruling_ laws_ru sums_values_ lawsL_codeLength_ lawsL_size_ lawsL_take_ sums_stack_ world_lot_ world_born_ lawsL_kinds_ lawsL_to_ lawsL_from_ lawsL_code_ p1_names_ p1_sizes_ p1_heaps_ l2 l3 = some (r0, sums_values_Z, sums_stack_Z, p1_names_Z, p1_sizes_Z, p1_heaps_Z)) : Ctr (d + 5) M_go_doTried [.ref 0, .ref 13, .int l2, .int l3] (h_go_doTried world_people_ world_gates_ world_hour_ world_texts_ world_ruling_ world_x_ laws_ru sums_values_ lawsL_codeLength_ lawsL_size_ lawsL_take_ lawsL_fee_ sums_stack_ world_lot_ world_born_ lawsL_kinds_ lawsL_to_ lawsL_from_ lawsL_code_ p1_names_ p1_sizes_ p1_heaps_) (some (.int r0)) (h_go_doTried world_people_ world_gates_ world_hour_ world_texts_ world_ruling_ world_x_ laws_ru sums_values_Z lawsL_codeLength_ lawsL_size_ lawsL_take_ lawsL_fee_ sums_stack_Z world_lot_ world_born_ lawsL_kinds_ lawsL_to_ lawsL_from_ lawsL_code_ p1_names_Z p1_sizes_Z p1_heaps_Z) := by
  refine Ctr.start pn_go [some (.ref 0), some (.ref 13), some (.int l2), some (.int l3)] (Nat.le_of_ble_eq_true rfl) rfl ?_
  unfold f_go_doTried at hr
  refine AJ.g sK_go_doTried 0 4 (True) 4 [some (.ref 0), some (.ref 13), some (.int l2), some (.int l3)] [.int l3, .int l2, .ref 13, .ref 0] (h_go_doTried world_people_ world_gates_ world_hour_ world_texts_ world_ruling_ world_x_ laws_ru sums_values_ lawsL_codeLength_ lawsL_size_ lawsL_take_ lawsL_fee_ sums_stack_ world_lot_ world_born_ lawsL_kinds_ lawsL_to_ lawsL_from_ lawsL_code_ p1_names_ p1_sizes_ p1_heaps_) rfl trivial ?_
  refine k_b3 hr (fun r1 sums_values_2 sums_stack_3 e21 hr => ?_)
  refine AJ.dV mk_go_canBe (SK.at sK_go_doTried 4 rfl) lk_1_108 (c_go_canBe (world_people_ := world_people_) (world_gates_ := world_gates_) (world_hour_ := world_hour_) (world_texts_ := world_texts_) (world_ruling_ := world_ruling_) (world_x_ := world_x_) (laws_ru := laws_ru) (sums_values_ := sums_values_) (lawsL_codeLength_ := lawsL_codeLength_) (lawsL_size_ := lawsL_size_) (lawsL_take_ := lawsL_take_) (lawsL_fee_ := lawsL_fee_) (sums_stack_ := sums_stack_) (lawsL_kinds_ := lawsL_kinds_) (lawsL_to_ := lawsL_to_) (lawsL_from_ := lawsL_from_) (lawsL_code_ := lawsL_code_) (p1_names_ := p1_names_) (p1_sizes_ := p1_sizes_) hru e21) [0, 1, 2, 3, 4, 5, 6, 9, 10, 11, 12, 13, 14, 15] [20, 8, 7, 21, 22, 23, 24, 25, 26, 27, 28, 29, 30, 16] [] 7 [.int r1] (h_go_doTried world_people_ world_gates_ world_hour_ world_texts_ world_ruling_ world_x_ laws_ru sums_values_2 lawsL_codeLength_ lawsL_size_ lawsL_take_ lawsL_fee_ sums_stack_3 world_lot_ world_born_ lawsL_kinds_ lawsL_to_ lawsL_from_ lawsL_code_ p1_names_ p1_sizes_ p1_heaps_) rfl rfl rfl rfl rfl (by decide +kernel) (by rcases hru with rfl | rfl | rfl | rfl <;> rfl) rfl rfl rfl (Nat.le_of_ble_eq_true rfl) rfl rfl (by rcases hru with rfl | rfl | rfl | rfl <;> rfl) ?_
  refine AJ.iF hr (SK.at sK_go_doTried 5 rfl) 12 10 rfl rfl rfl (fun hr => ?_) (fun hr => ?_)
  · refine AJ.g sK_go_doTried 6 1 (True) 11 [some (.ref 0), some (.ref 13), some (.int l2), some (.int l3)] [.int (-1)] (h_go_doTried world_people_ world_gates_ world_hour_ world_texts_ world_ruling_ world_x_ laws_ru sums_values_2 lawsL_codeLength_ lawsL_size_ lawsL_take_ lawsL_fee_ sums_stack_3 world_lot_ world_born_ lawsL_kinds_ lawsL_to_ lawsL_from_ lawsL_code_ p1_names_ p1_sizes_ p1_heaps_) rfl trivial ?_
    cases hr
    exact AJ.xi (SK.at sK_go_doTried 7 rfl) rfl
  · refine AJ.g sK_go_doTried 8 2 (True) 14 [some (.ref 0), some (.ref 13), some (.int l2), some (.int l3)] [.int l2, .ref 13] (h_go_doTried world_people_ world_gates_ world_hour_ world_texts_ world_ruling_ world_x_ laws_ru sums_values_2 lawsL_codeLength_ lawsL_size_ lawsL_take_ lawsL_fee_ sums_stack_3 world_lot_ world_born_ lawsL_kinds_ lawsL_to_ lawsL_from_ lawsL_code_ p1_names_ p1_sizes_ p1_heaps_) rfl trivial ?_
    refine k_b1 hr (fun r4 e20 hr => ?_)
    refine AJ.dV mk_town_nameOf (SK.at sK_go_doTried 10 rfl) lk_1_46 (c_town_nameOf (names_ := p1_names_) e20) [13, 14] [15, 16] [] 17 [.int r4] (h_go_doTried world_people_ world_gates_ world_hour_ world_texts_ world_ruling_ world_x_ laws_ru sums_values_2 lawsL_codeLength_ lawsL_size_ lawsL_take_ lawsL_fee_ sums_stack_3 world_lot_ world_born_ lawsL_kinds_ lawsL_to_ lawsL_from_ lawsL_code_ p1_names_ p1_sizes_ p1_heaps_) rfl rfl rfl rfl rfl (by decide +kernel) rfl rfl rfl rfl (Nat.le_of_ble_eq_true rfl) rfl rfl rfl ?_
    refine AJ.g sK_go_doTried 11 1 (True) 18 [some (.ref 0), some (.ref 13), some (.int l2), some (.int l3)] [.int (-1), .int r4] (h_go_doTried world_people_ world_gates_ world_hour_ world_texts_ world_ruling_ world_x_ laws_ru sums_values_2 lawsL_codeLength_ lawsL_size_ lawsL_take_ lawsL_fee_ sums_stack_3 world_lot_ world_born_ lawsL_kinds_ lawsL_to_ lawsL_from_ lawsL_code_ p1_names_ p1_sizes_ p1_heaps_) rfl trivial ?_
    refine AJ.iT hr (SK.at sK_go_doTried 12 rfl) 28 21 rfl rfl rfl (fun hr => ?_) (fun hr => ?_)
    · refine k_grd hr (fun g5 hr => ?_)
      refine AJ.g sK_go_doTried 18 5 (inb l3 3 ∧ True) 37 [some (.ref 0), some (.ref 13), some (.int l2), some (.int l3)] [.int (world_lot_ (ix l3))] (h_go_doTried world_people_ world_gates_ world_hour_ world_texts_ world_ruling_ world_x_ laws_ru sums_values_2 lawsL_codeLength_ lawsL_size_ lawsL_take_ lawsL_fee_ sums_stack_3 world_lot_ world_born_ lawsL_kinds_ lawsL_to_ lawsL_from_ lawsL_code_ p1_names_ p1_sizes_ p1_heaps_) rfl ⟨g5, trivial⟩ ?_
      refine AJ.iT hr (SK.at sK_go_doTried 23 rfl) 44 40 rfl rfl rfl (fun hr => ?_) (fun hr => ?_)
      · refine AJ.g sK_go_doTried 26 7 (True) 51 [some (.ref 0), some (.ref 13), some (.int l2), some (.int l3)] [.int l3, .int l2, .ref 13, .ref 0, .int l3, .int l2, .ref 13] (h_go_doTried world_people_ world_gates_ world_hour_ world_texts_ world_ruling_ world_x_ laws_ru sums_values_2 lawsL_codeLength_ lawsL_size_ lawsL_take_ lawsL_fee_ sums_stack_3 world_lot_ world_born_ lawsL_kinds_ lawsL_to_ lawsL_from_ lawsL_code_ p1_names_ p1_sizes_ p1_heaps_) rfl trivial ?_
        refine k_b3 hr (fun r6 sums_values_7 sums_stack_8 e14 hr => ?_)
        refine AJ.dV mk_go_placeFor (SK.at sK_go_doTried 33 rfl) lk_1_130 (c_go_placeFor (world_people_ := world_people_) (world_gates_ := world_gates_) (world_hour_ := world_hour_) (world_texts_ := world_texts_) (world_ruling_ := world_ruling_) (world_x_ := world_x_) (laws_ru := laws_ru) (lawsL_codeLength_ := lawsL_codeLength_) (lawsL_size_ := lawsL_size_) (lawsL_take_ := lawsL_take_) (lawsL_fee_ := lawsL_fee_) (sums_values_ := sums_values_2) (sums_stack_ := sums_stack_3) (world_born_ := world_born_) (lawsL_to_ := lawsL_to_) (lawsL_from_ := lawsL_from_) (lawsL_code_ := lawsL_code_) (p1_sizes_ := p1_sizes_) (p1_names_ := p1_names_) (p1_heaps_ := p1_heaps_) hru e14) [0, 1, 2, 3, 5, 4, 6, 8, 10, 11, 12, 13, 15, 14, 16, 17, 18, 19] [20, 7, 21, 22, 23, 24, 25, 26, 27, 28, 29, 30, 9] [.int l3, .int l2, .ref 13] 54 [.int r6, .int l3, .int l2, .ref 13] (h_go_doTried world_people_ world_gates_ world_hour_ world_texts_ world_ruling_ world_x_ laws_ru sums_values_7 lawsL_codeLength_ lawsL_size_ lawsL_take_ lawsL_fee_ sums_stack_8 world_lot_ world_born_ lawsL_kinds_ lawsL_to_ lawsL_from_ lawsL_code_ p1_names_ p1_sizes_ p1_heaps_) rfl rfl rfl rfl rfl (by decide +kernel) (by rcases hru with rfl | rfl | rfl | rfl <;> rfl) rfl rfl rfl (Nat.le_of_ble_eq_true rfl) rfl rfl (by rcases hru with rfl | rfl | rfl | rfl <;> rfl) ?_
        refine k_b4 hr (fun r9 p1_sizes_10 p1_heaps_11 p1_names_12 e13 hr => ?_)
        refine AJ.dV mk_town_enter (SK.at sK_go_doTried 34 rfl) lk_1_133 (c_town_enter (sizes_ := p1_sizes_) (heaps_ := p1_heaps_) (names_ := p1_names_) e13) [13, 15, 16, 17, 18, 19, 14] [] [] 57 [.int r9] (h_go_doTried world_people_ world_gates_ world_hour_ world_texts_ world_ruling_ world_x_ laws_ru sums_values_7 lawsL_codeLength_ lawsL_size_ lawsL_take_ lawsL_fee_ sums_stack_8 world_lot_ world_born_ lawsL_kinds_ lawsL_to_ lawsL_from_ lawsL_code_ p1_names_12 p1_sizes_10 p1_heaps_11) rfl rfl rfl rfl rfl (by decide +kernel) rfl rfl rfl rfl (Nat.le_of_ble_eq_true rfl) rfl rfl rfl ?_
        cases hr
        exact AJ.xi (SK.at sK_go_doTried 35 rfl) rfl
      · refine AJ.g sK_go_doTried 24 2 (True) 57 [some (.ref 0), some (.ref 13), some (.int l2), some (.int l3)] [.int (-1)] (h_go_doTried world_people_ world_gates_ world_hour_ world_texts_ world_ruling_ world_x_ laws_ru sums_values_2 lawsL_codeLength_ lawsL_size_ lawsL_take_ lawsL_fee_ sums_stack_3 world_lot_ world_born_ lawsL_kinds_ lawsL_to_ lawsL_from_ lawsL_code_ p1_names_ p1_sizes_ p1_heaps_) rfl trivial ?_
        cases hr
        exact AJ.xi (SK.at sK_go_doTried 35 rfl) rfl
    · refine AJ.g sK_go_doTried 13 3 (True) 24 [some (.ref 0), some (.ref 13), some (.int l2), some (.int l3)] [.int l3, .int l2, .ref 13] (h_go_doTried world_people_ world_gates_ world_hour_ world_texts_ world_ruling_ world_x_ laws_ru sums_values_2 lawsL_codeLength_ lawsL_size_ lawsL_take_ lawsL_fee_ sums_stack_3 world_lot_ world_born_ lawsL_kinds_ lawsL_to_ lawsL_from_ lawsL_code_ p1_names_ p1_sizes_ p1_heaps_) rfl trivial ?_
      refine k_b4 hr (fun r15 p1_names_16 p1_sizes_17 p1_heaps_18 e19 hr => ?_)
      refine AJ.dV mk_town_leave (SK.at sK_go_doTried 16 rfl) lk_1_121 (c_town_leave (names_ := p1_names_) (sizes_ := p1_sizes_) (heaps_ := p1_heaps_) e19) [13, 14, 15, 16, 17, 18, 19] [] [] 27 [.int r15] (h_go_doTried world_people_ world_gates_ world_hour_ world_texts_ world_ruling_ world_x_ laws_ru sums_values_2 lawsL_codeLength_ lawsL_size_ lawsL_take_ lawsL_fee_ sums_stack_3 world_lot_ world_born_ lawsL_kinds_ lawsL_to_ lawsL_from_ lawsL_code_ p1_names_16 p1_sizes_17 p1_heaps_18) rfl rfl rfl rfl rfl (by decide +kernel) rfl rfl rfl rfl (Nat.le_of_ble_eq_true rfl) rfl rfl rfl ?_
      cases hr
      exact AJ.xi (SK.at sK_go_doTried 17 rfl) rfl
theorem sK_go_judgeRow : SK M_go_judgeRow q_go_judgeRow := sk_go_judgeRow
set_option maxRecDepth 100000 in
set_option maxHeartbeats 4000000 in
theorem bt_go_judgeRow_16 {d : Nat} {rr : Option Value} {h0 hF : List va_E} {world_people_ : Int32} {world_gates_ : Int32} {world_hour_ : Int32} {world_texts_ : Int32} {world_ruling_ : Int32} {world_x_ : Int32} {laws_ru : Nat} {tried_names_ : Nat → Int32} {tried_sizes_ : Nat → Int32} {tried_heaps_ : Nat → Nat → Int32} {world_row_size_ : Int32} {sums_values_ : Nat → Int32} {lawsL_codeLength_ : Int32} {lawsL_size_ : Int32} {lawsL_take_ : Int32} {lawsL_fee_ : Int32} {sums_stack_ : Nat → Int32} {world_lot_ : Nat → Int32} {world_born_ : Nat → Int32} {world_town_names_ : Nat → Int32} {world_town_sizes_ : Nat → Int32} {world_town_heaps_ : Nat → Nat → Int32} {world_row_cells_ : Nat → Int32} {lawsL_kinds_ : Nat → Int32} {lawsL_to_ : Nat → Int32} {lawsL_from_ : Nat → Int32} {lawsL_code_ : Nat → Int32} {l1 : Int32} {x : (Int32 × (Nat → Int32) × (Nat → Int32) × (Nat → Nat → Int32) × (Nat → Int32) × (Nat → Int32)) ⊕ ((Int32 × (Nat → Int32) × (Nat → Int32) × (Nat → Nat → Int32) × (Nat → Int32) × (Nat → Int32)) ⊕ ((Nat → Int32) × (Nat → Int32) × (Nat → Nat → Int32) × (Nat → Int32) × (Nat → Int32)))} (hru : laws_ru = 0 ∨ laws_ru = 1 ∨ laws_ru = 2 ∨ laws_ru = 3) (hr : fb_go_judgeRow_16 world_people_ world_gates_ world_hour_ world_ruling_ laws_ru world_row_size_ lawsL_codeLength_ lawsL_size_ lawsL_take_ world_lot_ world_born_ world_row_cells_ lawsL_kinds_ lawsL_to_ lawsL_from_ lawsL_code_ l1 tried_names_ tried_sizes_ tried_heaps_ sums_values_ sums_stack_ = some x) (hx : Sum.elim (fun s : (Int32 × (Nat → Int32) × (Nat → Int32) × (Nat → Nat → Int32) × (Nat → Int32) × (Nat → Int32)) => AJ (M_go_judgeRow, d + 6, rr, h0, hF) 16 [some (.ref 0), some (.int s.1)] [] (h_go_judgeRow world_people_ world_gates_ world_hour_ world_texts_ world_ruling_ world_x_ laws_ru s.2.1 s.2.2.1 s.2.2.2.1 world_row_size_ s.2.2.2.2.1 lawsL_codeLength_ lawsL_size_ lawsL_take_ lawsL_fee_ s.2.2.2.2.2 world_lot_ world_born_ world_town_names_ world_town_sizes_ world_town_heaps_ world_row_cells_ lawsL_kinds_ lawsL_to_ lawsL_from_ lawsL_code_)) (Sum.elim (fun s : (Int32 × (Nat → Int32) × (Nat → Int32) × (Nat → Nat → Int32) × (Nat → Int32) × (Nat → Int32)) => AJ (M_go_judgeRow, d + 6, rr, h0, hF) 66 [none, some (.int s.1)] [] (h_go_judgeRow world_people_ world_gates_ world_hour_ world_texts_ world_ruling_ world_x_ laws_ru s.2.1 s.2.2.1 s.2.2.2.1 world_row_size_ s.2.2.2.2.1 lawsL_codeLength_ lawsL_size_ lawsL_take_ lawsL_fee_ s.2.2.2.2.2 world_lot_ world_born_ world_town_names_ world_town_sizes_ world_town_heaps_ world_row_cells_ lawsL_kinds_ lawsL_to_ lawsL_from_ lawsL_code_)) (fun s : ((Nat → Int32) × (Nat → Int32) × (Nat → Nat → Int32) × (Nat → Int32) × (Nat → Int32)) => AJ (M_go_judgeRow, d + 6, rr, h0, hF) 74 [] [] (h_go_judgeRow world_people_ world_gates_ world_hour_ world_texts_ world_ruling_ world_x_ laws_ru s.1 s.2.1 s.2.2.1 world_row_size_ s.2.2.2.1 lawsL_codeLength_ lawsL_size_ lawsL_take_ lawsL_fee_ s.2.2.2.2 world_lot_ world_born_ world_town_names_ world_town_sizes_ world_town_heaps_ world_row_cells_ lawsL_kinds_ lawsL_to_ lawsL_from_ lawsL_code_))) x) : AJ (M_go_judgeRow, d + 6, rr, h0, hF) 16 [some (.ref 0), some (.int l1)] [] (h_go_judgeRow world_people_ world_gates_ world_hour_ world_texts_ world_ruling_ world_x_ laws_ru tried_names_ tried_sizes_ tried_heaps_ world_row_size_ sums_values_ lawsL_codeLength_ lawsL_size_ lawsL_take_ lawsL_fee_ sums_stack_ world_lot_ world_born_ world_town_names_ world_town_sizes_ world_town_heaps_ world_row_cells_ lawsL_kinds_ lawsL_to_ lawsL_from_ lawsL_code_) := by
  unfold fb_go_judgeRow_16 at hr
  refine AJ.g sK_go_judgeRow 8 5 (True) 27 [some (.ref 0), some (.int l1)] [.int world_row_size_, .int l1] (h_go_judgeRow world_people_ world_gates_ world_hour_ world_texts_ world_ruling_ world_x_ laws_ru tried_names_ tried_sizes_ tried_heaps_ world_row_size_ sums_values_ lawsL_codeLength_ lawsL_size_ lawsL_take_ lawsL_fee_ sums_stack_ world_lot_ world_born_ world_town_names_ world_town_sizes_ world_town_heaps_ world_row_cells_ lawsL_kinds_ lawsL_to_ lawsL_from_ lawsL_code_) rfl trivial ?_
  refine AJ.iF hr (SK.at sK_go_judgeRow 13 rfl) 74 30 rfl rfl rfl (fun hr => ?_) (fun hr => ?_)
  · refine AJ.g sK_go_judgeRow 14 8 (True) 44 [some (.ref 0), some (.int l1)] [.int 0, .int l1, .ref 12, .ref 2, .ref 0] (h_go_judgeRow world_people_ world_gates_ world_hour_ world_texts_ world_ruling_ world_x_ laws_ru tried_names_ tried_sizes_ tried_heaps_ world_row_size_ sums_values_ lawsL_codeLength_ lawsL_size_ lawsL_take_ lawsL_fee_ sums_stack_ world_lot_ world_born_ world_town_names_ world_town_sizes_ world_town_heaps_ world_row_cells_ lawsL_kinds_ lawsL_to_ lawsL_from_ lawsL_code_) rfl trivial ?_
    refine k_b1 hr (fun r4 e14 hr => ?_)
    refine AJ.dV mk_tri_at (SK.at sK_go_judgeRow 22 rfl) lk_1_148 (c_tri_at (size_ := world_row_size_) (cells_n := 36) (cells_ := world_row_cells_) e14) [12, 24] [] [.ref 2, .ref 0] 47 [.int r4, .ref 2, .ref 0] (h_go_judgeRow world_people_ world_gates_ world_hour_ world_texts_ world_ruling_ world_x_ laws_ru tried_names_ tried_sizes_ tried_heaps_ world_row_size_ sums_values_ lawsL_codeLength_ lawsL_size_ lawsL_take_ lawsL_fee_ sums_stack_ world_lot_ world_born_ world_town_names_ world_town_sizes_ world_town_heaps_ world_row_cells_ lawsL_kinds_ lawsL_to_ lawsL_from_ lawsL_code_) rfl rfl rfl rfl rfl (by decide +kernel) rfl rfl rfl rfl (Nat.le_of_ble_eq_true rfl) rfl rfl rfl ?_
    refine AJ.g sK_go_judgeRow 23 5 (True) 56 [some (.ref 0), some (.int l1)] [.int 1, .int l1, .ref 12, .int r4, .ref 2, .ref 0] (h_go_judgeRow world_people_ world_gates_ world_hour_ world_texts_ world_ruling_ world_x_ laws_ru tried_names_ tried_sizes_ tried_heaps_ world_row_size_ sums_values_ lawsL_codeLength_ lawsL_size_ lawsL_take_ lawsL_fee_ sums_stack_ world_lot_ world_born_ world_town_names_ world_town_sizes_ world_town_heaps_ world_row_cells_ lawsL_kinds_ lawsL_to_ lawsL_from_ lawsL_code_) rfl trivial ?_
    refine k_b1 hr (fun r5 e13 hr => ?_)
    refine AJ.dV mk_tri_at (SK.at sK_go_judgeRow 28 rfl) lk_1_148 (c_tri_at (size_ := world_row_size_) (cells_n := 36) (cells_ := world_row_cells_) e13) [12, 24] [] [.int r4, .ref 2, .ref 0] 59 [.int r5, .int r4, .ref 2, .ref 0] (h_go_judgeRow world_people_ world_gates_ world_hour_ world_texts_ world_ruling_ world_x_ laws_ru tried_names_ tried_sizes_ tried_heaps_ world_row_size_ sums_values_ lawsL_codeLength_ lawsL_size_ lawsL_take_ lawsL_fee_ sums_stack_ world_lot_ world_born_ world_town_names_ world_town_sizes_ world_town_heaps_ world_row_cells_ lawsL_kinds_ lawsL_to_ lawsL_from_ lawsL_code_) rfl rfl rfl rfl rfl (by decide +kernel) rfl rfl rfl rfl (Nat.le_of_ble_eq_true rfl) rfl rfl rfl ?_
    refine k_b6 hr (fun r6 sums_values_7 sums_stack_8 tried_names_9 tried_sizes_10 tried_heaps_11 e12 hr => ?_)
    refine AJ.dV mk_go_doTried (SK.at sK_go_judgeRow 29 rfl) lk_1_151 (c_go_doTried (world_people_ := world_people_) (world_gates_ := world_gates_) (world_hour_ := world_hour_) (world_texts_ := world_texts_) (world_ruling_ := world_ruling_) (world_x_ := world_x_) (laws_ru := laws_ru) (sums_values_ := sums_values_) (lawsL_codeLength_ := lawsL_codeLength_) (lawsL_size_ := lawsL_size_) (lawsL_take_ := lawsL_take_) (lawsL_fee_ := lawsL_fee_) (sums_stack_ := sums_stack_) (world_lot_ := world_lot_) (world_born_ := world_born_) (lawsL_kinds_ := lawsL_kinds_) (lawsL_to_ := lawsL_to_) (lawsL_from_ := lawsL_from_) (lawsL_code_ := lawsL_code_) (p1_names_ := tried_names_) (p1_sizes_ := tried_sizes_) (p1_heaps_ := tried_heaps_) hru e12) [0, 1, 3, 4, 13, 14, 15, 16, 17, 25, 26, 27, 28, 2, 6, 7, 8, 9, 10, 11] [2, 29, 30, 5, 31, 12, 32, 33, 34, 35, 36] [] 62 [.int r6] (h_go_judgeRow world_people_ world_gates_ world_hour_ world_texts_ world_ruling_ world_x_ laws_ru tried_names_9 tried_sizes_10 tried_heaps_11 world_row_size_ sums_values_7 lawsL_codeLength_ lawsL_size_ lawsL_take_ lawsL_fee_ sums_stack_8 world_lot_ world_born_ world_town_names_ world_town_sizes_ world_town_heaps_ world_row_cells_ lawsL_kinds_ lawsL_to_ lawsL_from_ lawsL_code_) rfl rfl rfl rfl rfl (by decide +kernel) (by rcases hru with rfl | rfl | rfl | rfl <;> rfl) rfl rfl rfl (Nat.le_of_ble_eq_true rfl) rfl rfl (by rcases hru with rfl | rfl | rfl | rfl <;> rfl) ?_
    refine AJ.g sK_go_judgeRow 30 1 (True) 63 [some (.ref 0), some (.int l1)] [.int (-1), .int r6] (h_go_judgeRow world_people_ world_gates_ world_hour_ world_texts_ world_ruling_ world_x_ laws_ru tried_names_9 tried_sizes_10 tried_heaps_11 world_row_size_ sums_values_7 lawsL_codeLength_ lawsL_size_ lawsL_take_ lawsL_fee_ sums_stack_8 world_lot_ world_born_ world_town_names_ world_town_sizes_ world_town_heaps_ world_row_cells_ lawsL_kinds_ lawsL_to_ lawsL_from_ lawsL_code_) rfl trivial ?_
    refine AJ.iF hr (SK.at sK_go_judgeRow 31 rfl) 68 66 rfl rfl rfl (fun hr => ?_) (fun hr => ?_)
    · cases hr
      refine AJ.fg [false, true] [none, some (.int l1)] rfl ?_
      exact hx
    · refine AJ.g sK_go_judgeRow 34 2 (True) 16 [some (.ref 0), some (.int (l1 + 1))] [] (h_go_judgeRow world_people_ world_gates_ world_hour_ world_texts_ world_ruling_ world_x_ laws_ru tried_names_9 tried_sizes_10 tried_heaps_11 world_row_size_ sums_values_7 lawsL_codeLength_ lawsL_size_ lawsL_take_ lawsL_fee_ sums_stack_8 world_lot_ world_born_ world_town_names_ world_town_sizes_ world_town_heaps_ world_row_cells_ lawsL_kinds_ lawsL_to_ lawsL_from_ lawsL_code_) rfl trivial ?_
      cases hr
      refine AJ.fg [true, true] [some (.ref 0), some (.int (l1 + 1))] rfl ?_
      exact hx
  · cases hr
    refine AJ.fg [] [] rfl ?_
    exact hx
set_option maxRecDepth 100000 in
set_option maxHeartbeats 4000000 in
theorem c_go_judgeRow {d : Nat} {world_people_ : Int32} {world_gates_ : Int32} {world_hour_ : Int32} {world_texts_ : Int32} {world_ruling_ : Int32} {world_x_ : Int32} {laws_ru : Nat} {tried_names_ : Nat → Int32} {tried_sizes_ : Nat → Int32} {tried_heaps_ : Nat → Nat → Int32} {world_row_size_ : Int32} {sums_values_ : Nat → Int32} {lawsL_codeLength_ : Int32} {lawsL_size_ : Int32} {lawsL_take_ : Int32} {lawsL_fee_ : Int32} {sums_stack_ : Nat → Int32} {world_lot_ : Nat → Int32} {world_born_ : Nat → Int32} {world_town_names_ : Nat → Int32} {world_town_sizes_ : Nat → Int32} {world_town_heaps_ : Nat → Nat → Int32} {world_row_cells_ : Nat → Int32} {lawsL_kinds_ : Nat → Int32} {lawsL_to_ : Nat → Int32} {lawsL_from_ : Nat → Int32} {lawsL_code_ : Nat → Int32}  {r0 : Int32} {tried_names_Z : Nat → Int32} {tried_sizes_Z : Nat → Int32} {tried_heaps_Z : Nat → Nat → Int32} {sums_values_Z : Nat → Int32} {sums_stack_Z : Nat → Int32} (hru : laws_ru = 0 ∨ laws_ru = 1 ∨ laws_ru = 2 ∨ laws_ru = 3) (hr : f_go_judgeRow world_people_ world_gates_ world_hour_ world_ruling_ laws_ru tried_names_ tried_sizes_ tried_heaps_ world_row_size_ sums_values_ lawsL_codeLength_ lawsL_size_ lawsL_take_ sums_stack_ world_lot_ world_born_ world_town_names_ world_town_sizes_ world_town_heaps_ world_row_cells_ lawsL_kinds_ lawsL_to_ lawsL_from_ lawsL_code_ = some (r0, tried_names_Z, tried_sizes_Z, tried_heaps_Z, sums_values_Z, sums_stack_Z)) : Ctr (d + 6) M_go_judgeRow [.ref 0] (h_go_judgeRow world_people_ world_gates_ world_hour_ world_texts_ world_ruling_ world_x_ laws_ru tried_names_ tried_sizes_ tried_heaps_ world_row_size_ sums_values_ lawsL_codeLength_ lawsL_size_ lawsL_take_ lawsL_fee_ sums_stack_ world_lot_ world_born_ world_town_names_ world_town_sizes_ world_town_heaps_ world_row_cells_ lawsL_kinds_ lawsL_to_ lawsL_from_ lawsL_code_) (some (.int r0)) (h_go_judgeRow world_people_ world_gates_ world_hour_ world_texts_ world_ruling_ world_x_ laws_ru tried_names_Z tried_sizes_Z tried_heaps_Z world_row_size_ sums_values_Z lawsL_codeLength_ lawsL_size_ lawsL_take_ lawsL_fee_ sums_stack_Z world_lot_ world_born_ world_town_names_ world_town_sizes_ world_town_heaps_ world_row_cells_ lawsL_kinds_ lawsL_to_ lawsL_from_ lawsL_code_) := by
  refine Ctr.start pn_go [some (.ref 0)] (Nat.le_of_ble_eq_true rfl) rfl ?_
  unfold f_go_judgeRow at hr
  refine AJ.g sK_go_judgeRow 0 5 (True) 11 [some (.ref 0)] [.ref 5, .ref 2] (h_go_judgeRow world_people_ world_gates_ world_hour_ world_texts_ world_ruling_ world_x_ laws_ru tried_names_ tried_sizes_ tried_heaps_ world_row_size_ sums_values_ lawsL_codeLength_ lawsL_size_ lawsL_take_ lawsL_fee_ sums_stack_ world_lot_ world_born_ world_town_names_ world_town_sizes_ world_town_heaps_ world_row_cells_ lawsL_kinds_ lawsL_to_ lawsL_from_ lawsL_code_) rfl trivial ?_
  refine k_b3 hr (fun tried_names_1 tried_sizes_2 tried_heaps_3 e26 hr => ?_)
  refine AJ.dV mk_town_copyFrom (SK.at sK_go_judgeRow 5 rfl) lk_1_137 (c_town_copyFrom (names_ := tried_names_) (sizes_ := tried_sizes_) (heaps_ := tried_heaps_) (p1_names_ := world_town_names_) (p1_sizes_ := world_town_sizes_) (p1_heaps_ := world_town_heaps_) e26) [2, 6, 7, 8, 9, 10, 11, 5, 18, 19, 20, 21, 22, 23] [] [] 14 [] (h_go_judgeRow world_people_ world_gates_ world_hour_ world_texts_ world_ruling_ world_x_ laws_ru tried_names_1 tried_sizes_2 tried_heaps_3 world_row_size_ sums_values_ lawsL_codeLength_ lawsL_size_ lawsL_take_ lawsL_fee_ sums_stack_ world_lot_ world_born_ world_town_names_ world_town_sizes_ world_town_heaps_ world_row_cells_ lawsL_kinds_ lawsL_to_ lawsL_from_ lawsL_code_) rfl rfl rfl rfl rfl (by decide +kernel) rfl rfl rfl rfl (Nat.le_of_ble_eq_true rfl) rfl rfl rfl ?_
  refine AJ.g sK_go_judgeRow 6 2 (True) 16 [some (.ref 0), some (.int 0)] [] (h_go_judgeRow world_people_ world_gates_ world_hour_ world_texts_ world_ruling_ world_x_ laws_ru tried_names_1 tried_sizes_2 tried_heaps_3 world_row_size_ sums_values_ lawsL_codeLength_ lawsL_size_ lawsL_take_ lawsL_fee_ sums_stack_ world_lot_ world_born_ world_town_names_ world_town_sizes_ world_town_heaps_ world_row_cells_ lawsL_kinds_ lawsL_to_ lawsL_from_ lawsL_code_) rfl trivial ?_
  refine k_bs hr (fun z he hr => ?_) (fun z he hr => ?_)
  · obtain ⟨l1_15, tried_names_16, tried_sizes_17, tried_heaps_18, sums_values_19, sums_stack_20⟩ := z
    replace hr := k_un6 hr
    refine AJ.fg [true, true] [some (.ref 0), some (.int 0)] rfl ?_
    refine itr_ok (un6 (fb_go_judgeRow_16 world_people_ world_gates_ world_hour_ world_ruling_ laws_ru world_row_size_ lawsL_codeLength_ lawsL_size_ lawsL_take_ world_lot_ world_born_ world_row_cells_ lawsL_kinds_ lawsL_to_ lawsL_from_ lawsL_code_)) (fun s : (Int32 × (Nat → Int32) × (Nat → Int32) × (Nat → Nat → Int32) × (Nat → Int32) × (Nat → Int32)) => AJ _ 16 [some (.ref 0), some (.int s.1)] [] (h_go_judgeRow world_people_ world_gates_ world_hour_ world_texts_ world_ruling_ world_x_ laws_ru s.2.1 s.2.2.1 s.2.2.2.1 world_row_size_ s.2.2.2.2.1 lawsL_codeLength_ lawsL_size_ lawsL_take_ lawsL_fee_ s.2.2.2.2.2 world_lot_ world_born_ world_town_names_ world_town_sizes_ world_town_heaps_ world_row_cells_ lawsL_kinds_ lawsL_to_ lawsL_from_ lawsL_code_)) (Sum.elim (fun s : (Int32 × (Nat → Int32) × (Nat → Int32) × (Nat → Nat → Int32) × (Nat → Int32) × (Nat → Int32)) => AJ _ 66 [none, some (.int s.1)] [] (h_go_judgeRow world_people_ world_gates_ world_hour_ world_texts_ world_ruling_ world_x_ laws_ru s.2.1 s.2.2.1 s.2.2.2.1 world_row_size_ s.2.2.2.2.1 lawsL_codeLength_ lawsL_size_ lawsL_take_ lawsL_fee_ s.2.2.2.2.2 world_lot_ world_born_ world_town_names_ world_town_sizes_ world_town_heaps_ world_row_cells_ lawsL_kinds_ lawsL_to_ lawsL_from_ lawsL_code_)) (fun s : ((Nat → Int32) × (Nat → Int32) × (Nat → Nat → Int32) × (Nat → Int32) × (Nat → Int32)) => AJ _ 74 [] [] (h_go_judgeRow world_people_ world_gates_ world_hour_ world_texts_ world_ruling_ world_x_ laws_ru s.1 s.2.1 s.2.2.1 world_row_size_ s.2.2.2.1 lawsL_codeLength_ lawsL_size_ lawsL_take_ lawsL_fee_ s.2.2.2.2 world_lot_ world_born_ world_town_names_ world_town_sizes_ world_town_heaps_ world_row_cells_ lawsL_kinds_ lawsL_to_ lawsL_from_ lawsL_code_))) (fun s x hb hx => bt_go_judgeRow_16 hru hb hx) KF (0, tried_names_1, tried_sizes_2, tried_heaps_3, sums_values_, sums_stack_) (.inl (l1_15, tried_names_16, tried_sizes_17, tried_heaps_18, sums_values_19, sums_stack_20)) he (show AJ _ 66 [none, some (.int l1_15)] [] (h_go_judgeRow world_people_ world_gates_ world_hour_ world_texts_ world_ruling_ world_x_ laws_ru tried_names_16 tried_sizes_17 tried_heaps_18 world_row_size_ sums_values_19 lawsL_codeLength_ lawsL_size_ lawsL_take_ lawsL_fee_ sums_stack_20 world_lot_ world_born_ world_town_names_ world_town_sizes_ world_town_heaps_ world_row_cells_ lawsL_kinds_ lawsL_to_ lawsL_from_ lawsL_code_) from ?_)
    refine AJ.g sK_go_judgeRow 32 1 (True) 67 [none, some (.int l1_15)] [.int l1_15] (h_go_judgeRow world_people_ world_gates_ world_hour_ world_texts_ world_ruling_ world_x_ laws_ru tried_names_16 tried_sizes_17 tried_heaps_18 world_row_size_ sums_values_19 lawsL_codeLength_ lawsL_size_ lawsL_take_ lawsL_fee_ sums_stack_20 world_lot_ world_born_ world_town_names_ world_town_sizes_ world_town_heaps_ world_row_cells_ lawsL_kinds_ lawsL_to_ lawsL_from_ lawsL_code_) rfl trivial ?_
    cases hr
    exact AJ.xi (SK.at sK_go_judgeRow 33 rfl) rfl
  · obtain ⟨tried_names_21, tried_sizes_22, tried_heaps_23, sums_values_24, sums_stack_25⟩ := z
    replace hr := k_un5 hr
    refine AJ.fg [true, true] [some (.ref 0), some (.int 0)] rfl ?_
    refine itr_ok (un6 (fb_go_judgeRow_16 world_people_ world_gates_ world_hour_ world_ruling_ laws_ru world_row_size_ lawsL_codeLength_ lawsL_size_ lawsL_take_ world_lot_ world_born_ world_row_cells_ lawsL_kinds_ lawsL_to_ lawsL_from_ lawsL_code_)) (fun s : (Int32 × (Nat → Int32) × (Nat → Int32) × (Nat → Nat → Int32) × (Nat → Int32) × (Nat → Int32)) => AJ _ 16 [some (.ref 0), some (.int s.1)] [] (h_go_judgeRow world_people_ world_gates_ world_hour_ world_texts_ world_ruling_ world_x_ laws_ru s.2.1 s.2.2.1 s.2.2.2.1 world_row_size_ s.2.2.2.2.1 lawsL_codeLength_ lawsL_size_ lawsL_take_ lawsL_fee_ s.2.2.2.2.2 world_lot_ world_born_ world_town_names_ world_town_sizes_ world_town_heaps_ world_row_cells_ lawsL_kinds_ lawsL_to_ lawsL_from_ lawsL_code_)) (Sum.elim (fun s : (Int32 × (Nat → Int32) × (Nat → Int32) × (Nat → Nat → Int32) × (Nat → Int32) × (Nat → Int32)) => AJ _ 66 [none, some (.int s.1)] [] (h_go_judgeRow world_people_ world_gates_ world_hour_ world_texts_ world_ruling_ world_x_ laws_ru s.2.1 s.2.2.1 s.2.2.2.1 world_row_size_ s.2.2.2.2.1 lawsL_codeLength_ lawsL_size_ lawsL_take_ lawsL_fee_ s.2.2.2.2.2 world_lot_ world_born_ world_town_names_ world_town_sizes_ world_town_heaps_ world_row_cells_ lawsL_kinds_ lawsL_to_ lawsL_from_ lawsL_code_)) (fun s : ((Nat → Int32) × (Nat → Int32) × (Nat → Nat → Int32) × (Nat → Int32) × (Nat → Int32)) => AJ _ 74 [] [] (h_go_judgeRow world_people_ world_gates_ world_hour_ world_texts_ world_ruling_ world_x_ laws_ru s.1 s.2.1 s.2.2.1 world_row_size_ s.2.2.2.1 lawsL_codeLength_ lawsL_size_ lawsL_take_ lawsL_fee_ s.2.2.2.2 world_lot_ world_born_ world_town_names_ world_town_sizes_ world_town_heaps_ world_row_cells_ lawsL_kinds_ lawsL_to_ lawsL_from_ lawsL_code_))) (fun s x hb hx => bt_go_judgeRow_16 hru hb hx) KF (0, tried_names_1, tried_sizes_2, tried_heaps_3, sums_values_, sums_stack_) (.inr ((tried_names_21, tried_sizes_22, tried_heaps_23, sums_values_24, sums_stack_25))) he (show AJ _ 74 [] [] (h_go_judgeRow world_people_ world_gates_ world_hour_ world_texts_ world_ruling_ world_x_ laws_ru tried_names_21 tried_sizes_22 tried_heaps_23 world_row_size_ sums_values_24 lawsL_codeLength_ lawsL_size_ lawsL_take_ lawsL_fee_ sums_stack_25 world_lot_ world_born_ world_town_names_ world_town_sizes_ world_town_heaps_ world_row_cells_ lawsL_kinds_ lawsL_to_ lawsL_from_ lawsL_code_) from ?_)
    refine AJ.g sK_go_judgeRow 36 1 (True) 75 [] [.int (-1)] (h_go_judgeRow world_people_ world_gates_ world_hour_ world_texts_ world_ruling_ world_x_ laws_ru tried_names_21 tried_sizes_22 tried_heaps_23 world_row_size_ sums_values_24 lawsL_codeLength_ lawsL_size_ lawsL_take_ lawsL_fee_ sums_stack_25 world_lot_ world_born_ world_town_names_ world_town_sizes_ world_town_heaps_ world_row_cells_ lawsL_kinds_ lawsL_to_ lawsL_from_ lawsL_code_) rfl trivial ?_
    cases hr
    exact AJ.xi (SK.at sK_go_judgeRow 37 rfl) rfl
theorem sK_x_judge : SK M_x_judge q_x_judge := sk_x_judge
set_option maxRecDepth 100000 in
set_option maxHeartbeats 4000000 in
theorem c_x_judge {d : Nat} {now_people_ : Int32} {now_gates_ : Int32} {now_hour_ : Int32} {now_texts_ : Int32} {now_ruling_ : Int32} {now_x_ : Int32} {laws_ru : Nat} {now_row_size_ : Int32} {lawsL_codeLength_ : Int32} {lawsL_size_ : Int32} {lawsL_take_ : Int32} {lawsL_fee_ : Int32} {now_lot_ : Nat → Int32} {now_born_ : Nat → Int32} {now_town_names_ : Nat → Int32} {goings_tried_names_ : Nat → Int32} {now_town_sizes_ : Nat → Int32} {goings_tried_sizes_ : Nat → Int32} {now_town_heaps_ : Nat → Nat → Int32} {goings_tried_heaps_ : Nat → Nat → Int32} {now_row_cells_ : Nat → Int32} {goings_sums_values_ : Nat → Int32} {lawsL_kinds_ : Nat → Int32} {lawsL_to_ : Nat → Int32} {lawsL_from_ : Nat → Int32} {goings_sums_stack_ : Nat → Int32} {lawsL_code_ : Nat → Int32}  {r0 : Int32} {goings_tried_names_Z : Nat → Int32} {goings_tried_sizes_Z : Nat → Int32} {goings_tried_heaps_Z : Nat → Nat → Int32} {goings_sums_values_Z : Nat → Int32} {goings_sums_stack_Z : Nat → Int32} (hru : laws_ru = 0 ∨ laws_ru = 1 ∨ laws_ru = 2 ∨ laws_ru = 3) (hr : f_x_judge now_people_ now_gates_ now_hour_ now_ruling_ laws_ru now_row_size_ lawsL_codeLength_ lawsL_size_ lawsL_take_ now_lot_ now_born_ now_town_names_ goings_tried_names_ now_town_sizes_ goings_tried_sizes_ now_town_heaps_ goings_tried_heaps_ now_row_cells_ goings_sums_values_ lawsL_kinds_ lawsL_to_ lawsL_from_ goings_sums_stack_ lawsL_code_ = some (r0, goings_tried_names_Z, goings_tried_sizes_Z, goings_tried_heaps_Z, goings_sums_values_Z, goings_sums_stack_Z)) : Ctr (d + 7) M_x_judge [.ref 0] (h_x_judge now_people_ now_gates_ now_hour_ now_texts_ now_ruling_ now_x_ laws_ru now_row_size_ lawsL_codeLength_ lawsL_size_ lawsL_take_ lawsL_fee_ now_lot_ now_born_ now_town_names_ goings_tried_names_ now_town_sizes_ goings_tried_sizes_ now_town_heaps_ goings_tried_heaps_ now_row_cells_ goings_sums_values_ lawsL_kinds_ lawsL_to_ lawsL_from_ goings_sums_stack_ lawsL_code_) (some (.int r0)) (h_x_judge now_people_ now_gates_ now_hour_ now_texts_ now_ruling_ now_x_ laws_ru now_row_size_ lawsL_codeLength_ lawsL_size_ lawsL_take_ lawsL_fee_ now_lot_ now_born_ now_town_names_ goings_tried_names_Z now_town_sizes_ goings_tried_sizes_Z now_town_heaps_ goings_tried_heaps_Z now_row_cells_ goings_sums_values_Z lawsL_kinds_ lawsL_to_ lawsL_from_ goings_sums_stack_Z lawsL_code_) := by
  refine Ctr.start pn_x [some (.ref 0)] (Nat.le_of_ble_eq_true rfl) rfl ?_
  unfold f_x_judge at hr
  refine AJ.g sK_x_judge 0 2 (True) 4 [some (.ref 0)] [.ref 1] (h_x_judge now_people_ now_gates_ now_hour_ now_texts_ now_ruling_ now_x_ laws_ru now_row_size_ lawsL_codeLength_ lawsL_size_ lawsL_take_ lawsL_fee_ now_lot_ now_born_ now_town_names_ goings_tried_names_ now_town_sizes_ goings_tried_sizes_ now_town_heaps_ goings_tried_heaps_ now_row_cells_ goings_sums_values_ lawsL_kinds_ lawsL_to_ lawsL_from_ goings_sums_stack_ lawsL_code_) rfl trivial ?_
  refine k_b6 hr (fun r1 goings_tried_names_2 goings_tried_sizes_3 goings_tried_heaps_4 goings_sums_values_5 goings_sums_stack_6 e7 hr => ?_)
  refine AJ.dV mk_go_judgeRow (SK.at sK_x_judge 2 rfl) lk_11_194 (c_go_judgeRow (world_people_ := now_people_) (world_gates_ := now_gates_) (world_hour_ := now_hour_) (world_texts_ := now_texts_) (world_ruling_ := now_ruling_) (world_x_ := now_x_) (laws_ru := laws_ru) (tried_names_ := goings_tried_names_) (tried_sizes_ := goings_tried_sizes_) (tried_heaps_ := goings_tried_heaps_) (world_row_size_ := now_row_size_) (sums_values_ := goings_sums_values_) (lawsL_codeLength_ := lawsL_codeLength_) (lawsL_size_ := lawsL_size_) (lawsL_take_ := lawsL_take_) (lawsL_fee_ := lawsL_fee_) (sums_stack_ := goings_sums_stack_) (world_lot_ := now_lot_) (world_born_ := now_born_) (world_town_names_ := now_town_names_) (world_town_sizes_ := now_town_sizes_) (world_town_heaps_ := now_town_heaps_) (world_row_cells_ := now_row_cells_) (lawsL_kinds_ := lawsL_kinds_) (lawsL_to_ := lawsL_to_) (lawsL_from_ := lawsL_from_) (lawsL_code_ := lawsL_code_) hru e7) [1, 2, 5, 3, 7, 4, 12, 14, 19, 20, 21, 22, 6, 24, 8, 28, 9, 10, 11, 13, 15, 16, 17, 18, 23, 25, 26, 27, 29] [36, 37, 38, 39, 40, 41, 42, 43] [] 7 [.int r1] (h_x_judge now_people_ now_gates_ now_hour_ now_texts_ now_ruling_ now_x_ laws_ru now_row_size_ lawsL_codeLength_ lawsL_size_ lawsL_take_ lawsL_fee_ now_lot_ now_born_ now_town_names_ goings_tried_names_2 now_town_sizes_ goings_tried_sizes_3 now_town_heaps_ goings_tried_heaps_4 now_row_cells_ goings_sums_values_5 lawsL_kinds_ lawsL_to_ lawsL_from_ goings_sums_stack_6 lawsL_code_) rfl rfl rfl rfl rfl (by decide +kernel) (by rcases hru with rfl | rfl | rfl | rfl <;> rfl) rfl rfl rfl (Nat.le_of_ble_eq_true rfl) rfl rfl (by rcases hru with rfl | rfl | rfl | rfl <;> rfl) ?_
  cases hr
  exact AJ.xi (SK.at sK_x_judge 3 rfl) rfl
theorem sK_x_then : SK M_x_then q_x_then := sk_x_then
set_option maxRecDepth 100000 in
set_option maxHeartbeats 4000000 in
theorem c_x_then {d : Nat} {now_people_ : Int32} {now_gates_ : Int32} {now_hour_ : Int32} {now_texts_ : Int32} {now_ruling_ : Int32} {now_x_ : Int32} {laws_ru : Nat} {now_row_size_ : Int32} {lawsL_codeLength_ : Int32} {lawsL_size_ : Int32} {lawsL_take_ : Int32} {lawsL_fee_ : Int32} {now_lot_ : Nat → Int32} {now_born_ : Nat → Int32} {now_town_names_ : Nat → Int32} {goings_tried_names_ : Nat → Int32} {now_town_sizes_ : Nat → Int32} {goings_tried_sizes_ : Nat → Int32} {now_town_heaps_ : Nat → Nat → Int32} {goings_tried_heaps_ : Nat → Nat → Int32} {now_row_cells_ : Nat → Int32} {goings_sums_values_ : Nat → Int32} {lawsL_kinds_ : Nat → Int32} {lawsL_to_ : Nat → Int32} {lawsL_from_ : Nat → Int32} {goings_sums_stack_ : Nat → Int32} {lawsL_code_ : Nat → Int32} {l1 : Int32} {r0 : Int32} {goings_tried_names_Z : Nat → Int32} {goings_tried_sizes_Z : Nat → Int32} {goings_tried_heaps_Z : Nat → Nat → Int32} {goings_sums_values_Z : Nat → Int32} {goings_sums_stack_Z : Nat → Int32} (hru : laws_ru = 0 ∨ laws_ru = 1 ∨ laws_ru = 2 ∨ laws_ru = 3) (hr : f_x_then now_people_ now_gates_ now_hour_ now_ruling_ laws_ru now_row_size_ lawsL_codeLength_ lawsL_size_ lawsL_take_ now_lot_ now_born_ now_town_names_ goings_tried_names_ now_town_sizes_ goings_tried_sizes_ now_town_heaps_ goings_tried_heaps_ now_row_cells_ goings_sums_values_ lawsL_kinds_ lawsL_to_ lawsL_from_ goings_sums_stack_ lawsL_code_ l1 = some (r0, goings_tried_names_Z, goings_tried_sizes_Z, goings_tried_heaps_Z, goings_sums_values_Z, goings_sums_stack_Z)) : Ctr (d + 7) M_x_then [.ref 0, .int l1] (h_x_then now_people_ now_gates_ now_hour_ now_texts_ now_ruling_ now_x_ laws_ru now_row_size_ lawsL_codeLength_ lawsL_size_ lawsL_take_ lawsL_fee_ now_lot_ now_born_ now_town_names_ goings_tried_names_ now_town_sizes_ goings_tried_sizes_ now_town_heaps_ goings_tried_heaps_ now_row_cells_ goings_sums_values_ lawsL_kinds_ lawsL_to_ lawsL_from_ goings_sums_stack_ lawsL_code_) (some (.int r0)) (h_x_then now_people_ now_gates_ now_hour_ now_texts_ now_ruling_ now_x_ laws_ru now_row_size_ lawsL_codeLength_ lawsL_size_ lawsL_take_ lawsL_fee_ now_lot_ now_born_ now_town_names_ goings_tried_names_Z now_town_sizes_ goings_tried_sizes_Z now_town_heaps_ goings_tried_heaps_Z now_row_cells_ goings_sums_values_Z lawsL_kinds_ lawsL_to_ lawsL_from_ goings_sums_stack_Z lawsL_code_) := by
  refine Ctr.start pn_x [some (.ref 0), some (.int l1)] (Nat.le_of_ble_eq_true rfl) rfl ?_
  unfold f_x_then at hr
  refine AJ.g sK_x_then 0 3 (True) 5 [some (.ref 0), some (.int l1)] [.int l1, .ref 1] (h_x_then now_people_ now_gates_ now_hour_ now_texts_ now_ruling_ now_x_ laws_ru now_row_size_ lawsL_codeLength_ lawsL_size_ lawsL_take_ lawsL_fee_ now_lot_ now_born_ now_town_names_ goings_tried_names_ now_town_sizes_ goings_tried_sizes_ now_town_heaps_ goings_tried_heaps_ now_row_cells_ goings_sums_values_ lawsL_kinds_ lawsL_to_ lawsL_from_ goings_sums_stack_ lawsL_code_) rfl trivial ?_
  refine k_b1 hr (fun r1 e11 hr => ?_)
  refine AJ.dV mk_world_hasPerson (SK.at sK_x_then 3 rfl) lk_11_135 (c_world_hasPerson (people_ := now_people_) (gates_ := now_gates_) (hour_ := now_hour_) (texts_ := now_texts_) (ruling_ := now_ruling_) (x_ := now_x_) e11) [1] [10, 9, 36, 37, 4, 38, 6, 39] [] 8 [.int r1] (h_x_then now_people_ now_gates_ now_hour_ now_texts_ now_ruling_ now_x_ laws_ru now_row_size_ lawsL_codeLength_ lawsL_size_ lawsL_take_ lawsL_fee_ now_lot_ now_born_ now_town_names_ goings_tried_names_ now_town_sizes_ goings_tried_sizes_ now_town_heaps_ goings_tried_heaps_ now_row_cells_ goings_sums_values_ lawsL_kinds_ lawsL_to_ lawsL_from_ goings_sums_stack_ lawsL_code_) rfl rfl rfl rfl rfl (by decide +kernel) rfl rfl rfl rfl (Nat.le_of_ble_eq_true rfl) rfl rfl rfl ?_
  refine AJ.iT hr (SK.at sK_x_then 4 rfl) 22 11 rfl rfl rfl (fun hr => ?_) (fun hr => ?_)
  · refine AJ.g sK_x_then 10 1 (True) 24 [some (.ref 0), some (.int l1)] [.int (-2)] (h_x_then now_people_ now_gates_ now_hour_ now_texts_ now_ruling_ now_x_ laws_ru now_row_size_ lawsL_codeLength_ lawsL_size_ lawsL_take_ lawsL_fee_ now_lot_ now_born_ now_town_names_ goings_tried_names_ now_town_sizes_ goings_tried_sizes_ now_town_heaps_ goings_tried_heaps_ now_row_cells_ goings_sums_values_ lawsL_kinds_ lawsL_to_ lawsL_from_ goings_sums_stack_ lawsL_code_) rfl trivial ?_
    cases hr
    exact AJ.xi (SK.at sK_x_then 11 rfl) rfl
  · refine AJ.g sK_x_then 5 2 (True) 15 [some (.ref 0), some (.int l1)] [.ref 2] (h_x_then now_people_ now_gates_ now_hour_ now_texts_ now_ruling_ now_x_ laws_ru now_row_size_ lawsL_codeLength_ lawsL_size_ lawsL_take_ lawsL_fee_ now_lot_ now_born_ now_town_names_ goings_tried_names_ now_town_sizes_ goings_tried_sizes_ now_town_heaps_ goings_tried_heaps_ now_row_cells_ goings_sums_values_ lawsL_kinds_ lawsL_to_ lawsL_from_ goings_sums_stack_ lawsL_code_) rfl trivial ?_
    refine k_b6 hr (fun r2 goings_tried_names_3 goings_tried_sizes_4 goings_tried_heaps_5 goings_sums_values_6 goings_sums_stack_7 e10 hr => ?_)
    refine AJ.dV mk_go_judgeRow (SK.at sK_x_then 7 rfl) lk_11_194 (c_go_judgeRow (world_people_ := now_people_) (world_gates_ := now_gates_) (world_hour_ := now_hour_) (world_texts_ := now_texts_) (world_ruling_ := now_ruling_) (world_x_ := now_x_) (laws_ru := laws_ru) (tried_names_ := goings_tried_names_) (tried_sizes_ := goings_tried_sizes_) (tried_heaps_ := goings_tried_heaps_) (world_row_size_ := now_row_size_) (sums_values_ := goings_sums_values_) (lawsL_codeLength_ := lawsL_codeLength_) (lawsL_size_ := lawsL_size_) (lawsL_take_ := lawsL_take_) (lawsL_fee_ := lawsL_fee_) (sums_stack_ := goings_sums_stack_) (world_lot_ := now_lot_) (world_born_ := now_born_) (world_town_names_ := now_town_names_) (world_town_sizes_ := now_town_sizes_) (world_town_heaps_ := now_town_heaps_) (world_row_cells_ := now_row_cells_) (lawsL_kinds_ := lawsL_kinds_) (lawsL_to_ := lawsL_to_) (lawsL_from_ := lawsL_from_) (lawsL_code_ := lawsL_code_) hru e10) [2, 1, 5, 3, 7, 4, 12, 14, 19, 20, 21, 22, 6, 24, 8, 28, 9, 10, 11, 13, 15, 16, 17, 18, 23, 25, 26, 27, 29] [36, 37, 38, 39, 40, 41, 42, 43] [] 18 [.int r2] (h_x_then now_people_ now_gates_ now_hour_ now_texts_ now_ruling_ now_x_ laws_ru now_row_size_ lawsL_codeLength_ lawsL_size_ lawsL_take_ lawsL_fee_ now_lot_ now_born_ now_town_names_ goings_tried_names_3 now_town_sizes_ goings_tried_sizes_4 now_town_heaps_ goings_tried_heaps_5 now_row_cells_ goings_sums_values_6 lawsL_kinds_ lawsL_to_ lawsL_from_ goings_sums_stack_7 lawsL_code_) rfl rfl rfl rfl rfl (by decide +kernel) (by rcases hru with rfl | rfl | rfl | rfl <;> rfl) rfl rfl rfl (Nat.le_of_ble_eq_true rfl) rfl rfl (by rcases hru with rfl | rfl | rfl | rfl <;> rfl) ?_
    refine AJ.g sK_x_then 8 1 (True) 19 [some (.ref 0), some (.int l1)] [.int (-1), .int r2] (h_x_then now_people_ now_gates_ now_hour_ now_texts_ now_ruling_ now_x_ laws_ru now_row_size_ lawsL_codeLength_ lawsL_size_ lawsL_take_ lawsL_fee_ now_lot_ now_born_ now_town_names_ goings_tried_names_3 now_town_sizes_ goings_tried_sizes_4 now_town_heaps_ goings_tried_heaps_5 now_row_cells_ goings_sums_values_6 lawsL_kinds_ lawsL_to_ lawsL_from_ goings_sums_stack_7 lawsL_code_) rfl trivial ?_
    refine AJ.iT hr (SK.at sK_x_then 9 rfl) 25 22 rfl rfl rfl (fun hr => ?_) (fun hr => ?_)
    · refine AJ.g sK_x_then 12 4 (True) 33 [some (.ref 0), some (.int l1)] [.int l1, .ref 5] (h_x_then now_people_ now_gates_ now_hour_ now_texts_ now_ruling_ now_x_ laws_ru now_row_size_ lawsL_codeLength_ lawsL_size_ lawsL_take_ lawsL_fee_ now_lot_ now_born_ now_town_names_ goings_tried_names_3 now_town_sizes_ goings_tried_sizes_4 now_town_heaps_ goings_tried_heaps_5 now_row_cells_ goings_sums_values_6 lawsL_kinds_ lawsL_to_ lawsL_from_ goings_sums_stack_7 lawsL_code_) rfl trivial ?_
      refine k_b1 hr (fun r8 e9 hr => ?_)
      refine AJ.dV mk_town_nameOf (SK.at sK_x_then 16 rfl) lk_11_143 (c_town_nameOf (names_ := goings_tried_names_3) e9) [5, 12] [14, 19] [] 36 [.int r8] (h_x_then now_people_ now_gates_ now_hour_ now_texts_ now_ruling_ now_x_ laws_ru now_row_size_ lawsL_codeLength_ lawsL_size_ lawsL_take_ lawsL_fee_ now_lot_ now_born_ now_town_names_ goings_tried_names_3 now_town_sizes_ goings_tried_sizes_4 now_town_heaps_ goings_tried_heaps_5 now_row_cells_ goings_sums_values_6 lawsL_kinds_ lawsL_to_ lawsL_from_ goings_sums_stack_7 lawsL_code_) rfl rfl rfl rfl rfl (by decide +kernel) rfl rfl rfl rfl (Nat.le_of_ble_eq_true rfl) rfl rfl rfl ?_
      cases hr
      exact AJ.xi (SK.at sK_x_then 17 rfl) rfl
    · refine AJ.g sK_x_then 10 1 (True) 24 [some (.ref 0), some (.int l1)] [.int (-2)] (h_x_then now_people_ now_gates_ now_hour_ now_texts_ now_ruling_ now_x_ laws_ru now_row_size_ lawsL_codeLength_ lawsL_size_ lawsL_take_ lawsL_fee_ now_lot_ now_born_ now_town_names_ goings_tried_names_3 now_town_sizes_ goings_tried_sizes_4 now_town_heaps_ goings_tried_heaps_5 now_row_cells_ goings_sums_values_6 lawsL_kinds_ lawsL_to_ lawsL_from_ goings_sums_stack_7 lawsL_code_) rfl trivial ?_
      cases hr
      exact AJ.xi (SK.at sK_x_then 11 rfl) rfl
