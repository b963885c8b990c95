theorem sK_arr_fill_II : SK M_arr_fill_II q_arr_fill_II := sk_arr_fill_II
set_option maxRecDepth 100000 in
set_option maxHeartbeats 4000000 in
theorem bt_arr_fill_II_5 {d : Nat} {rr : Option Value} {h0 hF : List va_E} {p0_n : Nat} {p0_ : Nat → Int32} {l1 : Int32} {l2 : Int32} {l3 : Int32} {x : (Int32 × (Nat → Int32)) ⊕ (Nat → Int32)} (hr : fb_arr_fill_II_5 p0_n l1 l3 l2 p0_ = some x) (hx : Sum.elim (fun s : (Int32 × (Nat → Int32)) => AJ (M_arr_fill_II, d + 1, rr, h0, hF) 5 [some (.ref 0), some (.int l1), some (.int s.1), some (.int l3)] [] (h_arr_fill_II p0_n s.2)) (fun s : Nat → Int32 => AJ (M_arr_fill_II, d + 1, rr, h0, hF) 20 [] [] (h_arr_fill_II p0_n s)) x) : AJ (M_arr_fill_II, d + 1, rr, h0, hF) 5 [some (.ref 0), some (.int l1), some (.int l2), some (.int l3)] [] (h_arr_fill_II p0_n p0_) := by
  unfold fb_arr_fill_II_5 at hr
  refine AJ.g sK_arr_fill_II 5 2 (True) 7 [some (.ref 0), some (.int l1), some (.int l2), some (.int l3)] [.int l3, .int l2] (h_arr_fill_II p0_n p0_) rfl trivial ?_
  refine AJ.iF hr (SK.at sK_arr_fill_II 7 rfl) 20 10 rfl rfl rfl (fun hr => ?_) (fun hr => ?_)
  · refine k_grd hr (fun g1 hr => ?_)
    refine AJ.g sK_arr_fill_II 8 4 (inb l2 p0_n ∧ True) 14 [some (.ref 0), some (.int l1), some (.int l2), some (.int l3)] [] (h_arr_fill_II p0_n (upd p0_ (ix l2) l1)) rfl ⟨g1, trivial⟩ ?_
    replace hr := k_bnd hr
    generalize (upd p0_ (ix l2) l1 : Nat → Int32) = p0_2 at hr ⊢
    refine AJ.g sK_arr_fill_II 12 2 (True) 5 [some (.ref 0), some (.int l1), some (.int (l2 + 1)), some (.int l3)] [] (h_arr_fill_II p0_n p0_2) rfl trivial ?_
    cases hr
    refine AJ.fg [true, true, true, true] [some (.ref 0), some (.int l1), some (.int (l2 + 1)), some (.int l3)] rfl ?_
    exact hx
  · cases hr
    refine AJ.fg [] [] rfl ?_
    exact hx
set_option maxRecDepth 100000 in
set_option maxHeartbeats 4000000 in
theorem c_arr_fill_II {d : Nat} {p0_n : Nat} {p0_ : Nat → Int32} {l1 : Int32} {p0_Z : Nat → Int32} (hr : f_arr_fill_II p0_n p0_ l1 = some p0_Z) : Ctr (d + 1) M_arr_fill_II [.ref 0, .int l1] (h_arr_fill_II p0_n p0_) none (h_arr_fill_II p0_n p0_Z) := by
  refine Ctr.start pn_arr [some (.ref 0), some (.int l1)] (Nat.le_of_ble_eq_true rfl) rfl ?_
  unfold f_arr_fill_II at hr
  refine AJ.g sK_arr_fill_II 0 5 (True) 5 [some (.ref 0), some (.int l1), some (.int 0), some (.int (Int32.ofNat p0_n))] [] (h_arr_fill_II p0_n p0_) rfl trivial ?_
  refine k_b1 hr (fun p0_3 he hr => ?_)
  refine AJ.fg [true, true, true, true] [some (.ref 0), some (.int l1), some (.int 0), some (.int (Int32.ofNat p0_n))] rfl ?_
  refine itr_ok (un2 (fb_arr_fill_II_5 p0_n l1 (Int32.ofNat p0_n))) (fun s : (Int32 × (Nat → Int32)) => AJ _ 5 [some (.ref 0), some (.int l1), some (.int s.1), some (.int (Int32.ofNat p0_n))] [] (h_arr_fill_II p0_n s.2)) (fun s : Nat → Int32 => AJ _ 20 [] [] (h_arr_fill_II p0_n s)) (fun s x hb hx => bt_arr_fill_II_5 hb hx) KF (0, p0_) p0_3 he (show AJ _ 20 [] [] (h_arr_fill_II p0_n p0_3) from ?_)
  cases hr
  exact AJ.xv (SK.at sK_arr_fill_II 14 rfl) rfl
theorem sK_math_max_II : SK M_math_max_II q_math_max_II := sk_math_max_II
set_option maxRecDepth 100000 in
set_option maxHeartbeats 4000000 in
theorem c_math_max_II {d : Nat}  {l0 : Int32} {l1 : Int32} {r0 : Int32} (hr : f_math_max_II l0 l1 = some r0) : Ctr (d + 1) M_math_max_II [.int l0, .int l1] [] (some (.int r0)) [] := by
  refine Ctr.startF pf_math_max_II [some (.int l0), some (.int l1)] (Nat.le_of_ble_eq_true rfl) rfl ?_
  unfold f_math_max_II at hr
  refine AJ.g sK_math_max_II 0 2 (True) 2 [some (.int l0), some (.int l1)] [.int l1, .int l0] [] rfl trivial ?_
  refine AJ.iT hr (SK.at sK_math_max_II 2 rfl) 9 5 rfl rfl rfl (fun hr => ?_) (fun hr => ?_)
  · refine AJ.g sK_math_max_II 5 1 (True) 10 [some (.int l0), some (.int l1)] [.int l1] [] rfl trivial ?_
    cases hr
    exact AJ.xi (SK.at sK_math_max_II 6 rfl) rfl
  · refine AJ.g sK_math_max_II 3 2 (True) 10 [some (.int l0), some (.int l1)] [.int l0] [] rfl trivial ?_
    cases hr
    exact AJ.xi (SK.at sK_math_max_II 6 rfl) rfl
theorem sK_math_max_JJ : SK M_math_max_JJ q_math_max_JJ := sk_math_max_JJ
set_option maxRecDepth 100000 in
set_option maxHeartbeats 4000000 in
theorem c_math_max_JJ {d : Nat}  {l0 : Int64} {l2 : Int64} {r0 : Int64} (hr : f_math_max_JJ l0 l2 = some r0) : Ctr (d + 1) M_math_max_JJ [.long l0, .long l2] [] (some (.long r0)) [] := by
  refine Ctr.startF pf_math_max_JJ [some (.long l0), none, some (.long l2), none] (Nat.le_of_ble_eq_true rfl) rfl ?_
  unfold f_math_max_JJ at hr
  refine AJ.g sK_math_max_JJ 0 3 (True) 3 [some (.long l0), none, some (.long l2), none] [.int (lg_cmp l0 l2)] [] rfl trivial ?_
  refine AJ.iT hr (SK.at sK_math_max_JJ 3 rfl) 10 6 rfl rfl rfl (fun hr => ?_) (fun hr => ?_)
  · refine AJ.g sK_math_max_JJ 6 1 (True) 11 [some (.long l0), none, some (.long l2), none] [.long l2] [] rfl trivial ?_
    cases hr
    exact AJ.xl (SK.at sK_math_max_JJ 7 rfl) rfl
  · refine AJ.g sK_math_max_JJ 4 2 (True) 11 [some (.long l0), none, some (.long l2), none] [.long l0] [] rfl trivial ?_
    cases hr
    exact AJ.xl (SK.at sK_math_max_JJ 7 rfl) rfl
theorem sK_math_min_II : SK M_math_min_II q_math_min_II := sk_math_min_II
set_option maxRecDepth 100000 in
set_option maxHeartbeats 4000000 in
theorem c_math_min_II {d : Nat}  {l0 : Int32} {l1 : Int32} {r0 : Int32} (hr : f_math_min_II l0 l1 = some r0) : Ctr (d + 1) M_math_min_II [.int l0, .int l1] [] (some (.int r0)) [] := by
  refine Ctr.startF pf_math_min_II [some (.int l0), some (.int l1)] (Nat.le_of_ble_eq_true rfl) rfl ?_
  unfold f_math_min_II at hr
  refine AJ.g sK_math_min_II 0 2 (True) 2 [some (.int l0), some (.int l1)] [.int l1, .int l0] [] rfl trivial ?_
  refine AJ.iT hr (SK.at sK_math_min_II 2 rfl) 9 5 rfl rfl rfl (fun hr => ?_) (fun hr => ?_)
  · refine AJ.g sK_math_min_II 5 1 (True) 10 [some (.int l0), some (.int l1)] [.int l1] [] rfl trivial ?_
    cases hr
    exact AJ.xi (SK.at sK_math_min_II 6 rfl) rfl
  · refine AJ.g sK_math_min_II 3 2 (True) 10 [some (.int l0), some (.int l1)] [.int l0] [] rfl trivial ?_
    cases hr
    exact AJ.xi (SK.at sK_math_min_II 6 rfl) rfl
theorem sK_math_min_JJ : SK M_math_min_JJ q_math_min_JJ := sk_math_min_JJ
set_option maxRecDepth 100000 in
set_option maxHeartbeats 4000000 in
theorem c_math_min_JJ {d : Nat}  {l0 : Int64} {l2 : Int64} {r0 : Int64} (hr : f_math_min_JJ l0 l2 = some r0) : Ctr (d + 1) M_math_min_JJ [.long l0, .long l2] [] (some (.long r0)) [] := by
  refine Ctr.startF pf_math_min_JJ [some (.long l0), none, some (.long l2), none] (Nat.le_of_ble_eq_true rfl) rfl ?_
  unfold f_math_min_JJ at hr
  refine AJ.g sK_math_min_JJ 0 3 (True) 3 [some (.long l0), none, some (.long l2), none] [.int (lg_cmp l0 l2)] [] rfl trivial ?_
  refine AJ.iT hr (SK.at sK_math_min_JJ 3 rfl) 10 6 rfl rfl rfl (fun hr => ?_) (fun hr => ?_)
  · refine AJ.g sK_math_min_JJ 6 1 (True) 11 [some (.long l0), none, some (.long l2), none] [.long l2] [] rfl trivial ?_
    cases hr
    exact AJ.xl (SK.at sK_math_min_JJ 7 rfl) rfl
  · refine AJ.g sK_math_min_JJ 4 2 (True) 11 [some (.long l0), none, some (.long l2), none] [.long l0] [] rfl trivial ?_
    cases hr
    exact AJ.xl (SK.at sK_math_min_JJ 7 rfl) rfl
theorem sK_town_nameAtBirth : SK M_town_nameAtBirth q_town_nameAtBirth := sk_town_nameAtBirth
set_option maxRecDepth 100000 in
set_option maxHeartbeats 4000000 in
theorem c_town_nameAtBirth {d : Nat} {names_ : Nat → Int32} {l1 : Int32} {l2 : Int32} {names_Z : Nat → Int32} (hr : f_town_nameAtBirth names_ l1 l2 = some names_Z) : Ctr (d + 1) M_town_nameAtBirth [.ref 0, .int l1, .int l2] (h_town_nameAtBirth names_) none (h_town_nameAtBirth names_Z) := by
  refine Ctr.start pn_town [some (.ref 0), some (.int l1), some (.int l2)] (Nat.le_of_ble_eq_true rfl) rfl ?_
  unfold f_town_nameAtBirth at hr
  refine AJ.g sK_town_nameAtBirth 0 1 (True) 1 [some (.ref 0), some (.int l1), some (.int l2)] [.int l1] (h_town_nameAtBirth names_) rfl trivial ?_
  refine AJ.iT hr (SK.at sK_town_nameAtBirth 1 rfl) 20 4 rfl rfl rfl (fun hr => ?_) (fun hr => ?_)
  · cases hr
    exact AJ.xv (SK.at sK_town_nameAtBirth 12 rfl) rfl
  · refine AJ.g sK_town_nameAtBirth 2 4 (True) 10 [some (.ref 0), some (.int l1), some (.int l2)] [.int 8, .int l1] (h_town_nameAtBirth names_) rfl trivial ?_
    refine AJ.iF hr (SK.at sK_town_nameAtBirth 6 rfl) 20 13 rfl rfl rfl (fun hr => ?_) (fun hr => ?_)
    · refine k_grd hr (fun g1 hr => ?_)
      refine AJ.g sK_town_nameAtBirth 7 5 (inb l1 8 ∧ True) 20 [some (.ref 0), some (.int l1), some (.int l2)] [] (h_town_nameAtBirth (upd names_ (ix l1) l2)) rfl ⟨g1, trivial⟩ ?_
      replace hr := k_bnd hr
      generalize (upd names_ (ix l1) l2 : Nat → Int32) = names_2 at hr ⊢
      cases hr
      exact AJ.xv (SK.at sK_town_nameAtBirth 12 rfl) rfl
    · cases hr
      exact AJ.xv (SK.at sK_town_nameAtBirth 12 rfl) rfl
theorem sK_world_addPerson : SK M_world_addPerson q_world_addPerson := sk_world_addPerson
set_option maxRecDepth 100000 in
set_option maxHeartbeats 4000000 in
theorem jt_world_addPerson_51 {d : Nat} {people_ : Int32} {gates_ : Int32} {hour_ : Int32} {texts_ : Int32} {ruling_ : Int32} {x_ : Int32} {born_ : Nat → Int32} {paid_ : Nat → Int32} {done_ : Nat → Int32} {town_names_ : Nat → Int32} {l2 : Int32} {s0 : Int32} {s1 : Int32} {h0 : List va_E} {r0 : Int32} {people_Z : Int32} {born_Z : Nat → Int32} {paid_Z : Nat → Int32} {done_Z : Nat → Int32} {town_names_Z : Nat → Int32} (hr : fj_world_addPerson_51 people_ born_ paid_ done_ town_names_ l2 s0 s1 = some (r0, people_Z, born_Z, paid_Z, done_Z, town_names_Z)) : AJ (M_world_addPerson, d + 2, (some (.int r0)), h0, (h_world_addPerson people_Z gates_ hour_ texts_ ruling_ x_ born_Z paid_Z done_Z town_names_Z)) 51 [some (.ref 0), none, some (.int l2)] [.int s1, .int s0, .ref 4] (h_world_addPerson people_ gates_ hour_ texts_ ruling_ x_ born_ paid_ done_ town_names_) := by
  unfold fj_world_addPerson_51 at hr
  refine k_b1 hr (fun town_names_7 e8 hr => ?_)
  refine AJ.eV mk_town_nameAtBirth (SK.at sK_world_addPerson 32 rfl) lk_10_79 (c_town_nameAtBirth (names_ := town_names_) e8) [4, 5] [10, 11] [1] [] 54 [] (h_world_addPerson people_ gates_ hour_ texts_ ruling_ x_ born_ paid_ done_ town_names_7) rfl rfl rfl rfl rfl (by decide +kernel) rfl rfl rfl rfl rfl (Nat.le_of_ble_eq_true rfl) rfl rfl rfl ?_
  refine AJ.g sK_world_addPerson 33 7 (True) 65 [some (.ref 0), none, some (.int l2)] [.int l2] (h_world_addPerson (people_ + 1) gates_ hour_ texts_ ruling_ x_ born_ paid_ done_ town_names_7) rfl trivial ?_
  cases hr
  exact AJ.xi (SK.at sK_world_addPerson 40 rfl) rfl
set_option maxRecDepth 100000 in
set_option maxHeartbeats 4000000 in
theorem c_world_addPerson {d : Nat} {people_ : Int32} {gates_ : Int32} {hour_ : Int32} {texts_ : Int32} {ruling_ : Int32} {x_ : Int32} {born_ : Nat → Int32} {paid_ : Nat → Int32} {done_ : Nat → Int32} {town_names_ : Nat → Int32} {l1 : Int32} {r0 : Int32} {people_Z : Int32} {born_Z : Nat → Int32} {paid_Z : Nat → Int32} {done_Z : Nat → Int32} {town_names_Z : Nat → Int32} (hr : f_world_addPerson people_ born_ paid_ done_ town_names_ l1 = some (r0, people_Z, born_Z, paid_Z, done_Z, town_names_Z)) : Ctr (d + 2) M_world_addPerson [.ref 0, .int l1] (h_world_addPerson people_ gates_ hour_ texts_ ruling_ x_ born_ paid_ done_ town_names_) (some (.int r0)) (h_world_addPerson people_Z gates_ hour_ texts_ ruling_ x_ born_Z paid_Z done_Z town_names_Z) := by
  refine Ctr.start pn_world [some (.ref 0), some (.int l1)] (Nat.le_of_ble_eq_true rfl) rfl ?_
  unfold f_world_addPerson at hr
  refine AJ.g sK_world_addPerson 0 3 (True) 6 [some (.ref 0), some (.int l1)] [.int 8, .int people_] (h_world_addPerson people_ gates_ hour_ texts_ ruling_ x_ born_ paid_ done_ town_names_) rfl trivial ?_
  refine AJ.iT hr (SK.at sK_world_addPerson 3 rfl) 11 9 rfl rfl rfl (fun hr => ?_) (fun hr => ?_)
  · refine k_grd hr (fun g1 hr => ?_)
    refine AJ.g sK_world_addPerson 6 8 (inb people_ 8 ∧ True) 23 [some (.ref 0), some (.int l1), some (.int people_)] [] (h_world_addPerson people_ gates_ hour_ texts_ ruling_ x_ (upd born_ (ix people_) (vp_nar .boolean l1)) paid_ done_ town_names_) rfl ⟨g1, trivial⟩ ?_
    replace hr := k_bnd hr
    generalize (upd born_ (ix people_) (vp_nar .boolean l1) : Nat → Int32) = born_2 at hr ⊢
    refine k_grd hr (fun g3 hr => ?_)
    refine AJ.g sK_world_addPerson 14 5 (inb people_ 8 ∧ True) 30 [some (.ref 0), some (.int l1), some (.int people_)] [] (h_world_addPerson people_ gates_ hour_ texts_ ruling_ x_ born_2 (upd paid_ (ix people_) 0) done_ town_names_) rfl ⟨g3, trivial⟩ ?_
    replace hr := k_bnd hr
    generalize (upd paid_ (ix people_) 0 : Nat → Int32) = paid_4 at hr ⊢
    refine k_grd hr (fun g5 hr => ?_)
    refine AJ.g sK_world_addPerson 19 5 (inb people_ 8 ∧ True) 37 [some (.ref 0), some (.int l1), some (.int people_)] [] (h_world_addPerson people_ gates_ hour_ texts_ ruling_ x_ born_2 paid_4 (upd done_ (ix people_) 0) town_names_) rfl ⟨g5, trivial⟩ ?_
    replace hr := k_bnd hr
    generalize (upd done_ (ix people_) 0 : Nat → Int32) = done_6 at hr ⊢
    refine AJ.g sK_world_addPerson 24 4 (True) 43 [some (.ref 0), some (.int l1), some (.int people_)] [.int l1, .int people_, .ref 4] (h_world_addPerson people_ gates_ hour_ texts_ ruling_ x_ born_2 paid_4 done_6 town_names_) rfl trivial ?_
    refine AJ.iT hr (SK.at sK_world_addPerson 28 rfl) 50 46 rfl rfl rfl (fun hr => ?_) (fun hr => ?_)
    · refine AJ.g sK_world_addPerson 31 1 (True) 51 [some (.ref 0), some (.int l1), some (.int people_)] [.int (-1), .int people_, .ref 4] (h_world_addPerson people_ gates_ hour_ texts_ ruling_ x_ born_2 paid_4 done_6 town_names_) rfl trivial ?_
      refine AJ.fg [true, false, true] [some (.ref 0), none, some (.int people_)] rfl ?_
      exact jt_world_addPerson_51 hr
    · refine AJ.g sK_world_addPerson 29 2 (True) 51 [some (.ref 0), some (.int l1), some (.int people_)] [.int people_, .int people_, .ref 4] (h_world_addPerson people_ gates_ hour_ texts_ ruling_ x_ born_2 paid_4 done_6 town_names_) rfl trivial ?_
      refine AJ.fg [true, false, true] [some (.ref 0), none, some (.int people_)] rfl ?_
      exact jt_world_addPerson_51 hr
  · refine AJ.g sK_world_addPerson 4 1 (True) 10 [some (.ref 0), some (.int l1)] [.int (-1)] (h_world_addPerson people_ gates_ hour_ texts_ ruling_ x_ born_ paid_ done_ town_names_) rfl trivial ?_
    cases hr
    exact AJ.xi (SK.at sK_world_addPerson 5 rfl) rfl
theorem sK_x_person : SK M_x_person q_x_person := sk_x_person
set_option maxRecDepth 100000 in
set_option maxHeartbeats 4000000 in
theorem c_x_person {d : Nat} {now_people_ : Int32} {now_gates_ : Int32} {now_hour_ : Int32} {now_texts_ : Int32} {now_ruling_ : Int32} {now_x_ : Int32} {now_born_ : Nat → Int32} {now_paid_ : Nat → Int32} {now_done_ : Nat → Int32} {now_town_names_ : Nat → Int32} {l1 : Int32} {r0 : Int32} {now_people_Z : Int32} {now_born_Z : Nat → Int32} {now_paid_Z : Nat → Int32} {now_done_Z : Nat → Int32} {now_town_names_Z : Nat → Int32} (hr : f_x_person now_people_ now_born_ now_paid_ now_done_ now_town_names_ l1 = some (r0, now_people_Z, now_born_Z, now_paid_Z, now_done_Z, now_town_names_Z)) : Ctr (d + 3) M_x_person [.ref 0, .int l1] (h_x_person now_people_ now_gates_ now_hour_ now_texts_ now_ruling_ now_x_ now_born_ now_paid_ now_done_ now_town_names_) (some (.int r0)) (h_x_person now_people_Z now_gates_ now_hour_ now_texts_ now_ruling_ now_x_ now_born_Z now_paid_Z now_done_Z now_town_names_Z) := by
  refine Ctr.start pn_x [some (.ref 0), some (.int l1)] (Nat.le_of_ble_eq_true rfl) rfl ?_
  unfold f_x_person at hr
  refine AJ.g sK_x_person 0 3 (True) 5 [some (.ref 0), some (.int l1)] [.int l1, .ref 1] (h_x_person now_people_ now_gates_ now_hour_ now_texts_ now_ruling_ now_x_ now_born_ now_paid_ now_done_ now_town_names_) rfl trivial ?_
  refine k_b6 hr (fun r1 now_people_2 now_born_3 now_paid_4 now_done_5 now_town_names_6 e7 hr => ?_)
  refine AJ.eV mk_world_addPerson (SK.at sK_x_person 3 rfl) lk_11_72 (c_world_addPerson (people_ := now_people_) (gates_ := now_gates_) (hour_ := now_hour_) (texts_ := now_texts_) (ruling_ := now_ruling_) (x_ := now_x_) (born_ := now_born_) (paid_ := now_paid_) (done_ := now_done_) (town_names_ := now_town_names_) e7) [1, 2, 3, 4, 5, 6] [15, 16, 17, 18, 19, 20] [0, 1, 2, 3, 5] [] 8 [.int r1] (h_x_person now_people_2 now_gates_ now_hour_ now_texts_ now_ruling_ now_x_ now_born_3 now_paid_4 now_done_5 now_town_names_6) rfl rfl rfl rfl rfl (by decide +kernel) rfl rfl rfl rfl rfl (Nat.le_of_ble_eq_true rfl) rfl rfl rfl ?_
  cases hr
  exact AJ.xi (SK.at sK_x_person 4 rfl) rfl
theorem sK_world_addGate : SK M_world_addGate q_world_addGate := sk_world_addGate
set_option maxRecDepth 100000 in
set_option maxHeartbeats 4000000 in
theorem c_world_addGate {d : Nat} {people_ : Int32} {gates_ : Int32} {hour_ : Int32} {texts_ : Int32} {ruling_ : Int32} {x_ : Int32} {lot_ : Nat → Int32} {l1 : Int32} {r0 : Int32} {gates_Z : Int32} {lot_Z : Nat → Int32} (hr : f_world_addGate gates_ lot_ l1 = some (r0, gates_Z, lot_Z)) : Ctr (d + 1) M_world_addGate [.ref 0, .int l1] (h_world_addGate people_ gates_ hour_ texts_ ruling_ x_ lot_) (some (.int r0)) (h_world_addGate people_ gates_Z hour_ texts_ ruling_ x_ lot_Z) := by
  refine Ctr.start pn_world [some (.ref 0), some (.int l1)] (Nat.le_of_ble_eq_true rfl) rfl ?_
  unfold f_world_addGate at hr
  refine AJ.g sK_world_addGate 0 3 (True) 5 [some (.ref 0), some (.int l1)] [.int 3, .int gates_] (h_world_addGate people_ gates_ hour_ texts_ ruling_ x_ lot_) rfl trivial ?_
  refine AJ.iT hr (SK.at sK_world_addGate 3 rfl) 10 8 rfl rfl rfl (fun hr => ?_) (fun hr => ?_)
  · refine k_grd hr (fun g1 hr => ?_)
    refine AJ.g sK_world_addGate 6 6 (inb gates_ 3 ∧ True) 20 [some (.ref 0), some (.int l1)] [] (h_world_addGate people_ gates_ hour_ texts_ ruling_ x_ (upd lot_ (ix gates_) (vp_nar .boolean l1))) rfl ⟨g1, trivial⟩ ?_
    replace hr := k_bnd hr
    generalize (upd lot_ (ix gates_) (vp_nar .boolean l1) : Nat → Int32) = lot_2 at hr ⊢
    refine AJ.g sK_world_addGate 12 10 (True) 36 [some (.ref 0), some (.int l1)] [.int ((gates_ + 1) - 1)] (h_world_addGate people_ (gates_ + 1) hour_ texts_ ruling_ x_ lot_2) rfl trivial ?_
    cases hr
    exact AJ.xi (SK.at sK_world_addGate 22 rfl) rfl
  · refine AJ.g sK_world_addGate 4 1 (True) 9 [some (.ref 0), some (.int l1)] [.int (-1)] (h_world_addGate people_ gates_ hour_ texts_ ruling_ x_ lot_) rfl trivial ?_
    cases hr
    exact AJ.xi (SK.at sK_world_addGate 5 rfl) rfl
theorem sK_x_gate : SK M_x_gate q_x_gate := sk_x_gate
set_option maxRecDepth 100000 in
set_option maxHeartbeats 4000000 in
theorem c_x_gate {d : Nat} {now_people_ : Int32} {now_gates_ : Int32} {now_hour_ : Int32} {now_texts_ : Int32} {now_ruling_ : Int32} {now_x_ : Int32} {now_lot_ : Nat → Int32} {l1 : Int32} {r0 : Int32} {now_gates_Z : Int32} {now_lot_Z : Nat → Int32} (hr : f_x_gate now_gates_ now_lot_ l1 = some (r0, now_gates_Z, now_lot_Z)) : Ctr (d + 2) M_x_gate [.ref 0, .int l1] (h_x_gate now_people_ now_gates_ now_hour_ now_texts_ now_ruling_ now_x_ now_lot_) (some (.int r0)) (h_x_gate now_people_ now_gates_Z now_hour_ now_texts_ now_ruling_ now_x_ now_lot_Z) := by
  refine Ctr.start pn_x [some (.ref 0), some (.int l1)] (Nat.le_of_ble_eq_true rfl) rfl ?_
  unfold f_x_gate at hr
  refine AJ.g sK_x_gate 0 3 (True) 5 [some (.ref 0), some (.int l1)] [.int l1, .ref 1] (h_x_gate now_people_ now_gates_ now_hour_ now_texts_ now_ruling_ now_x_ now_lot_) rfl trivial ?_
  refine k_b3 hr (fun r1 now_gates_2 now_lot_3 e4 hr => ?_)
  refine AJ.eV mk_world_addGate (SK.at sK_x_gate 3 rfl) lk_11_76 (c_world_addGate (people_ := now_people_) (gates_ := now_gates_) (hour_ := now_hour_) (texts_ := now_texts_) (ruling_ := now_ruling_) (x_ := now_x_) (lot_ := now_lot_) e4) [1, 2] [11, 12, 13, 14, 15, 16, 17] [0, 1] [] 8 [.int r1] (h_x_gate now_people_ now_gates_2 now_hour_ now_texts_ now_ruling_ now_x_ now_lot_3) rfl rfl rfl rfl rfl (by decide +kernel) rfl rfl rfl rfl rfl (Nat.le_of_ble_eq_true rfl) rfl rfl rfl ?_
  cases hr
  exact AJ.xi (SK.at sK_x_gate 4 rfl) rfl
theorem sK_x_hour : SK M_x_hour q_x_hour := sk_x_hour
set_option maxRecDepth 100000 in
set_option maxHeartbeats 4000000 in
theorem c_x_hour {d : Nat} {now_people_ : Int32} {now_gates_ : Int32} {now_hour_ : Int32} {now_texts_ : Int32} {now_ruling_ : Int32} {now_x_ : Int32} {l1 : Int32} {r0 : Int32} {now_hour_Z : Int32} (hr : f_x_hour now_hour_ l1 = some (r0, now_hour_Z)) : Ctr (d + 1) M_x_hour [.ref 0, .int l1] (h_x_hour now_people_ now_gates_ now_hour_ now_texts_ now_ruling_ now_x_) (some (.int r0)) (h_x_hour now_people_ now_gates_ now_hour_Z now_texts_ now_ruling_ now_x_) := by
  refine Ctr.start pn_x [some (.ref 0), some (.int l1)] (Nat.le_of_ble_eq_true rfl) rfl ?_
  unfold f_x_hour at hr
  refine AJ.g sK_x_hour 0 1 (True) 1 [some (.ref 0), some (.int l1)] [.int l1] (h_x_hour now_people_ now_gates_ now_hour_ now_texts_ now_ruling_ now_x_) rfl trivial ?_
  refine AJ.iT hr (SK.at sK_x_hour 1 rfl) 10 4 rfl rfl rfl (fun hr => ?_) (fun hr => ?_)
  · refine AJ.g sK_x_hour 5 1 (True) 11 [some (.ref 0), some (.int l1)] [.int 0] (h_x_hour now_people_ now_gates_ now_hour_ now_texts_ now_ruling_ now_x_) rfl trivial ?_
    cases hr
    exact AJ.xz (by decide) (SK.at sK_x_hour 6 rfl) rfl
  · refine AJ.g sK_x_hour 2 2 (True) 7 [some (.ref 0), some (.int l1)] [.int 24, .int l1] (h_x_hour now_people_ now_gates_ now_hour_ now_texts_ now_ruling_ now_x_) rfl trivial ?_
    refine AJ.iT hr (SK.at sK_x_hour 4 rfl) 12 10 rfl rfl rfl (fun hr => ?_) (fun hr => ?_)
    · refine AJ.g sK_x_hour 7 5 (True) 21 [some (.ref 0), some (.int l1)] [.int 1] (h_x_hour now_people_ now_gates_ l1 now_texts_ now_ruling_ now_x_) rfl trivial ?_
      cases hr
      exact AJ.xz (by decide) (SK.at sK_x_hour 12 rfl) rfl
    · refine AJ.g sK_x_hour 5 1 (True) 11 [some (.ref 0), some (.int l1)] [.int 0] (h_x_hour now_people_ now_gates_ now_hour_ now_texts_ now_ruling_ now_x_) rfl trivial ?_
      cases hr
      exact AJ.xz (by decide) (SK.at sK_x_hour 6 rfl) rfl
theorem sK_rd_addFour : SK M_rd_addFour q_rd_addFour := sk_rd_addFour
set_option maxRecDepth 100000 in
set_option maxHeartbeats 4000000 in
theorem bt_rd_addFour_3 {d : Nat} {rr : Option Value} {h0 hF : List va_E} {length_ : Int32} {tokens_ : Int32} {hasRead_ : Int32} {fault_ : Int32} {place_ : Int32} {at_ : Int32} {kind_ : Int32} {allowedNames_ : Int32} {bytes_ : Nat → Int32} {l1 : Int32} {l2 : Int32} {x : (Int32 × Int32 × (Nat → Int32)) ⊕ (Int32 × (Nat → Int32))} (hr : fb_rd_addFour_3 l1 l2 length_ bytes_ = some x) (hx : Sum.elim (fun s : (Int32 × Int32 × (Nat → Int32)) => AJ (M_rd_addFour, d + 1, rr, h0, hF) 3 [some (.ref 0), some (.int l1), some (.int s.1)] [] (h_rd_addFour s.2.1 tokens_ hasRead_ fault_ place_ at_ kind_ allowedNames_ s.2.2)) (fun s : (Int32 × (Nat → Int32)) => AJ (M_rd_addFour, d + 1, rr, h0, hF) 51 [] [] (h_rd_addFour s.1 tokens_ hasRead_ fault_ place_ at_ kind_ allowedNames_ s.2)) x) : AJ (M_rd_addFour, d + 1, rr, h0, hF) 3 [some (.ref 0), some (.int l1), some (.int l2)] [] (h_rd_addFour length_ tokens_ hasRead_ fault_ place_ at_ kind_ allowedNames_ bytes_) := by
  unfold fb_rd_addFour_3 at hr
  refine AJ.g sK_rd_addFour 2 1 (True) 4 [some (.ref 0), some (.int l1), some (.int l2)] [.int l2] (h_rd_addFour length_ tokens_ hasRead_ fault_ place_ at_ kind_ allowedNames_ bytes_) rfl trivial ?_
  refine AJ.iT hr (SK.at sK_rd_addFour 3 rfl) 51 7 rfl rfl rfl (fun hr => ?_) (fun hr => ?_)
  · cases hr
    refine AJ.fg [] [] rfl ?_
    exact hx
  · refine AJ.g sK_rd_addFour 4 5 (True) 16 [some (.ref 0), some (.int l1), some (.int l2)] [.int 300, .int length_] (h_rd_addFour length_ tokens_ hasRead_ fault_ place_ at_ kind_ allowedNames_ bytes_) rfl trivial ?_
    refine AJ.iF hr (SK.at sK_rd_addFour 9 rfl) 45 19 rfl rfl rfl (fun hr => ?_) (fun hr => ?_)
    · refine k_grd hr (fun g1 hr => ?_)
      refine AJ.g sK_rd_addFour 10 10 (inb length_ 300 ∧ True) 35 [some (.ref 0), some (.int l1), some (.int l2)] [] (h_rd_addFour length_ tokens_ hasRead_ fault_ place_ at_ kind_ allowedNames_ (upd bytes_ (ix length_) (((l1.toUInt32 >>> ((l2 : Int32).toUInt32 &&& Int32.toUInt32 31)).toInt32) &&& 255))) rfl ⟨g1, trivial⟩ ?_
      replace hr := k_bnd hr
      generalize (upd bytes_ (ix length_) (((l1.toUInt32 >>> ((l2 : Int32).toUInt32 &&& Int32.toUInt32 31)).toInt32) &&& 255) : Nat → Int32) = bytes_2 at hr ⊢
      refine AJ.g sK_rd_addFour 20 6 (True) 45 [some (.ref 0), some (.int l1), some (.int l2)] [] (h_rd_addFour (length_ + 1) tokens_ hasRead_ fault_ place_ at_ kind_ allowedNames_ bytes_2) rfl trivial ?_
      refine AJ.g sK_rd_addFour 26 2 (True) 3 [some (.ref 0), some (.int l1), some (.int (l2 + (-8)))] [] (h_rd_addFour (length_ + 1) tokens_ hasRead_ fault_ place_ at_ kind_ allowedNames_ bytes_2) rfl trivial ?_
      cases hr
      refine AJ.fg [true, true, true] [some (.ref 0), some (.int l1), some (.int (l2 + (-8)))] rfl ?_
      exact hx
    · refine AJ.g sK_rd_addFour 26 2 (True) 3 [some (.ref 0), some (.int l1), some (.int (l2 + (-8)))] [] (h_rd_addFour length_ tokens_ hasRead_ fault_ place_ at_ kind_ allowedNames_ bytes_) rfl trivial ?_
      cases hr
      refine AJ.fg [true, true, true] [some (.ref 0), some (.int l1), some (.int (l2 + (-8)))] rfl ?_
      exact hx
set_option maxRecDepth 100000 in
set_option maxHeartbeats 4000000 in
theorem c_rd_addFour {d : Nat} {length_ : Int32} {tokens_ : Int32} {hasRead_ : Int32} {fault_ : Int32} {place_ : Int32} {at_ : Int32} {kind_ : Int32} {allowedNames_ : Int32} {bytes_ : Nat → Int32} {l1 : Int32} {length_Z : Int32} {bytes_Z : Nat → Int32} (hr : f_rd_addFour length_ bytes_ l1 = some (length_Z, bytes_Z)) : Ctr (d + 1) M_rd_addFour [.ref 0, .int l1] (h_rd_addFour length_ tokens_ hasRead_ fault_ place_ at_ kind_ allowedNames_ bytes_) none (h_rd_addFour length_Z tokens_ hasRead_ fault_ place_ at_ kind_ allowedNames_ bytes_Z) := by
  refine Ctr.start pn_rd [some (.ref 0), some (.int l1)] (Nat.le_of_ble_eq_true rfl) rfl ?_
  unfold f_rd_addFour at hr
  refine AJ.g sK_rd_addFour 0 2 (True) 3 [some (.ref 0), some (.int l1), some (.int 24)] [] (h_rd_addFour length_ tokens_ hasRead_ fault_ place_ at_ kind_ allowedNames_ bytes_) rfl trivial ?_
  refine k_b2 hr (fun length_3 bytes_4 he hr => ?_)
  refine AJ.fg [true, true, true] [some (.ref 0), some (.int l1), some (.int 24)] rfl ?_
  refine itr_ok (un3 (fb_rd_addFour_3 l1)) (fun s : (Int32 × Int32 × (Nat → Int32)) => AJ _ 3 [some (.ref 0), some (.int l1), some (.int s.1)] [] (h_rd_addFour s.2.1 tokens_ hasRead_ fault_ place_ at_ kind_ allowedNames_ s.2.2)) (fun s : (Int32 × (Nat → Int32)) => AJ _ 51 [] [] (h_rd_addFour s.1 tokens_ hasRead_ fault_ place_ at_ kind_ allowedNames_ s.2)) (fun s x hb hx => bt_rd_addFour_3 hb hx) KF (24, length_, bytes_) (length_3, bytes_4) he (show AJ _ 51 [] [] (h_rd_addFour length_3 tokens_ hasRead_ fault_ place_ at_ kind_ allowedNames_ bytes_4) from ?_)
  cases hr
  exact AJ.xv (SK.at sK_rd_addFour 28 rfl) rfl
theorem sK_x_feed : SK M_x_feed q_x_feed := sk_x_feed
set_option maxRecDepth 100000 in
set_option maxHeartbeats 4000000 in
theorem c_x_feed {d : Nat} {reader_length_ : Int32} {reader_tokens_ : Int32} {reader_hasRead_ : Int32} {reader_fault_ : Int32} {reader_place_ : Int32} {reader_at_ : Int32} {reader_kind_ : Int32} {reader_allowedNames_ : Int32} {reader_bytes_ : Nat → Int32} {l1 : Int32} {l2 : Int32} {l3 : Int32} {l4 : Int32} {l5 : Int32} {r0 : Int32} {reader_length_Z : Int32} {reader_bytes_Z : Nat → Int32} (hr : f_x_feed reader_length_ reader_bytes_ l1 l2 l3 l4 l5 = some (r0, reader_length_Z, reader_bytes_Z)) : Ctr (d + 2) M_x_feed [.ref 0, .int l1, .int l2, .int l3, .int l4, .int l5] (h_x_feed reader_length_ reader_tokens_ reader_hasRead_ reader_fault_ reader_place_ reader_at_ reader_kind_ reader_allowedNames_ reader_bytes_) (some (.int r0)) (h_x_feed reader_length_Z reader_tokens_ reader_hasRead_ reader_fault_ reader_place_ reader_at_ reader_kind_ reader_allowedNames_ reader_bytes_Z) := by
  refine Ctr.start pn_x [some (.ref 0), some (.int l1), some (.int l2), some (.int l3), some (.int l4), some (.int l5)] (Nat.le_of_ble_eq_true rfl) rfl ?_
  unfold f_x_feed at hr
  refine AJ.g sK_x_feed 0 6 (True) 13 [some (.ref 0), some (.int l1), some (.int l2), some (.int l3), some (.int l4), some (.int l5)] [.int 300, .int (reader_length_ + 20)] (h_x_feed reader_length_ reader_tokens_ reader_hasRead_ reader_fault_ reader_place_ reader_at_ reader_kind_ reader_allowedNames_ reader_bytes_) rfl trivial ?_
  refine AJ.iF hr (SK.at sK_x_feed 6 rfl) 18 16 rfl rfl rfl (fun hr => ?_) (fun hr => ?_)
  · refine AJ.g sK_x_feed 7 1 (True) 17 [some (.ref 0), some (.int l1), some (.int l2), some (.int l3), some (.int l4), some (.int l5)] [.int (-1)] (h_x_feed reader_length_ reader_tokens_ reader_hasRead_ reader_fault_ reader_place_ reader_at_ reader_kind_ reader_allowedNames_ reader_bytes_) rfl trivial ?_
    cases hr
    exact AJ.xi (SK.at sK_x_feed 8 rfl) rfl
  · refine AJ.g sK_x_feed 9 3 (True) 23 [some (.ref 0), some (.int l1), some (.int l2), some (.int l3), some (.int l4), some (.int l5)] [.int l1, .ref 1] (h_x_feed reader_length_ reader_tokens_ reader_hasRead_ reader_fault_ reader_place_ reader_at_ reader_kind_ reader_allowedNames_ reader_bytes_) rfl trivial ?_
    refine k_b2 hr (fun reader_length_1 reader_bytes_2 e15 hr => ?_)
    refine AJ.eV mk_rd_addFour (SK.at sK_x_feed 12 rfl) lk_11_86 (c_rd_addFour (length_ := reader_length_) (tokens_ := reader_tokens_) (hasRead_ := reader_hasRead_) (fault_ := reader_fault_) (place_ := reader_place_) (at_ := reader_at_) (kind_ := reader_kind_) (allowedNames_ := reader_allowedNames_) (bytes_ := reader_bytes_) e15) [1, 2] [11, 12, 13, 14] [0, 1] [] 26 [] (h_x_feed reader_length_1 reader_tokens_ reader_hasRead_ reader_fault_ reader_place_ reader_at_ reader_kind_ reader_allowedNames_ reader_bytes_2) rfl rfl rfl rfl rfl (by decide +kernel) rfl rfl rfl rfl rfl (Nat.le_of_ble_eq_true rfl) rfl rfl rfl ?_
    refine AJ.g sK_x_feed 13 3 (True) 31 [some (.ref 0), some (.int l1), some (.int l2), some (.int l3), some (.int l4), some (.int l5)] [.int l2, .ref 1] (h_x_feed reader_length_1 reader_tokens_ reader_hasRead_ reader_fault_ reader_place_ reader_at_ reader_kind_ reader_allowedNames_ reader_bytes_2) rfl trivial ?_
    refine k_b2 hr (fun reader_length_3 reader_bytes_4 e14 hr => ?_)
    refine AJ.eV mk_rd_addFour (SK.at sK_x_feed 16 rfl) lk_11_86 (c_rd_addFour (length_ := reader_length_1) (tokens_ := reader_tokens_) (hasRead_ := reader_hasRead_) (fault_ := reader_fault_) (place_ := reader_place_) (at_ := reader_at_) (kind_ := reader_kind_) (allowedNames_ := reader_allowedNames_) (bytes_ := reader_bytes_2) e14) [1, 2] [11, 12, 13, 14] [0, 1] [] 34 [] (h_x_feed reader_length_3 reader_tokens_ reader_hasRead_ reader_fault_ reader_place_ reader_at_ reader_kind_ reader_allowedNames_ reader_bytes_4) rfl rfl rfl rfl rfl (by decide +kernel) rfl rfl rfl rfl rfl (Nat.le_of_ble_eq_true rfl) rfl rfl rfl ?_
    refine AJ.g sK_x_feed 17 3 (True) 39 [some (.ref 0), some (.int l1), some (.int l2), some (.int l3), some (.int l4), some (.int l5)] [.int l3, .ref 1] (h_x_feed reader_length_3 reader_tokens_ reader_hasRead_ reader_fault_ reader_place_ reader_at_ reader_kind_ reader_allowedNames_ reader_bytes_4) rfl trivial ?_
    refine k_b2 hr (fun reader_length_5 reader_bytes_6 e13 hr => ?_)
    refine AJ.eV mk_rd_addFour (SK.at sK_x_feed 20 rfl) lk_11_86 (c_rd_addFour (length_ := reader_length_3) (tokens_ := reader_tokens_) (hasRead_ := reader_hasRead_) (fault_ := reader_fault_) (place_ := reader_place_) (at_ := reader_at_) (kind_ := reader_kind_) (allowedNames_ := reader_allowedNames_) (bytes_ := reader_bytes_4) e13) [1, 2] [11, 12, 13, 14] [0, 1] [] 42 [] (h_x_feed reader_length_5 reader_tokens_ reader_hasRead_ reader_fault_ reader_place_ reader_at_ reader_kind_ reader_allowedNames_ reader_bytes_6) rfl rfl rfl rfl rfl (by decide +kernel) rfl rfl rfl rfl rfl (Nat.le_of_ble_eq_true rfl) rfl rfl rfl ?_
    refine AJ.g sK_x_feed 21 3 (True) 48 [some (.ref 0), some (.int l1), some (.int l2), some (.int l3), some (.int l4), some (.int l5)] [.int l4, .ref 1] (h_x_feed reader_length_5 reader_tokens_ reader_hasRead_ reader_fault_ reader_place_ reader_at_ reader_kind_ reader_allowedNames_ reader_bytes_6) rfl trivial ?_
    refine k_b2 hr (fun reader_length_7 reader_bytes_8 e12 hr => ?_)
    refine AJ.eV mk_rd_addFour (SK.at sK_x_feed 24 rfl) lk_11_86 (c_rd_addFour (length_ := reader_length_5) (tokens_ := reader_tokens_) (hasRead_ := reader_hasRead_) (fault_ := reader_fault_) (place_ := reader_place_) (at_ := reader_at_) (kind_ := reader_kind_) (allowedNames_ := reader_allowedNames_) (bytes_ := reader_bytes_6) e12) [1, 2] [11, 12, 13, 14] [0, 1] [] 51 [] (h_x_feed reader_length_7 reader_tokens_ reader_hasRead_ reader_fault_ reader_place_ reader_at_ reader_kind_ reader_allowedNames_ reader_bytes_8) rfl rfl rfl rfl rfl (by decide +kernel) rfl rfl rfl rfl rfl (Nat.le_of_ble_eq_true rfl) rfl rfl rfl ?_
    refine AJ.g sK_x_feed 25 3 (True) 57 [some (.ref 0), some (.int l1), some (.int l2), some (.int l3), some (.int l4), some (.int l5)] [.int l5, .ref 1] (h_x_feed reader_length_7 reader_tokens_ reader_hasRead_ reader_fault_ reader_place_ reader_at_ reader_kind_ reader_allowedNames_ reader_bytes_8) rfl trivial ?_
    refine k_b2 hr (fun reader_length_9 reader_bytes_10 e11 hr => ?_)
    refine AJ.eV mk_rd_addFour (SK.at sK_x_feed 28 rfl) lk_11_86 (c_rd_addFour (length_ := reader_length_7) (tokens_ := reader_tokens_) (hasRead_ := reader_hasRead_) (fault_ := reader_fault_) (place_ := reader_place_) (at_ := reader_at_) (kind_ := reader_kind_) (allowedNames_ := reader_allowedNames_) (bytes_ := reader_bytes_8) e11) [1, 2] [11, 12, 13, 14] [0, 1] [] 60 [] (h_x_feed reader_length_9 reader_tokens_ reader_hasRead_ reader_fault_ reader_place_ reader_at_ reader_kind_ reader_allowedNames_ reader_bytes_10) rfl rfl rfl rfl rfl (by decide +kernel) rfl rfl rfl rfl rfl (Nat.le_of_ble_eq_true rfl) rfl rfl rfl ?_
    refine AJ.g sK_x_feed 29 3 (True) 67 [some (.ref 0), some (.int l1), some (.int l2), some (.int l3), some (.int l4), some (.int l5)] [.int reader_length_9] (h_x_feed reader_length_9 reader_tokens_ reader_hasRead_ reader_fault_ reader_place_ reader_at_ reader_kind_ reader_allowedNames_ reader_bytes_10) rfl trivial ?_
    cases hr
    exact AJ.xi (SK.at sK_x_feed 32 rfl) rfl
theorem sK_x_end : SK M_x_end q_x_end := sk_x_end
set_option maxRecDepth 100000 in
set_option maxHeartbeats 4000000 in
theorem c_x_end {d : Nat} {reader_length_ : Int32} {reader_tokens_ : Int32} {reader_hasRead_ : Int32} {reader_fault_ : Int32} {reader_place_ : Int32} {reader_at_ : Int32} {reader_kind_ : Int32} {reader_allowedNames_ : Int32} {l1 : Int32} {r0 : Int32} {reader_length_Z : Int32} (hr : f_x_end reader_length_ l1 = some (r0, reader_length_Z)) : Ctr (d + 1) M_x_end [.ref 0, .int l1] (h_x_end reader_length_ reader_tokens_ reader_hasRead_ reader_fault_ reader_place_ reader_at_ reader_kind_ reader_allowedNames_) (some (.int r0)) (h_x_end reader_length_Z reader_tokens_ reader_hasRead_ reader_fault_ reader_place_ reader_at_ reader_kind_ reader_allowedNames_) := by
  refine Ctr.start pn_x [some (.ref 0), some (.int l1)] (Nat.le_of_ble_eq_true rfl) rfl ?_
  unfold f_x_end at hr
  refine AJ.g sK_x_end 0 1 (True) 1 [some (.ref 0), some (.int l1)] [.int l1] (h_x_end reader_length_ reader_tokens_ reader_hasRead_ reader_fault_ reader_place_ reader_at_ reader_kind_ reader_allowedNames_) rfl trivial ?_
  refine AJ.iT hr (SK.at sK_x_end 1 rfl) 15 4 rfl rfl rfl (fun hr => ?_) (fun hr => ?_)
  · refine AJ.g sK_x_end 7 1 (True) 16 [some (.ref 0), some (.int l1)] [.int (-1)] (h_x_end reader_length_ reader_tokens_ reader_hasRead_ reader_fault_ reader_place_ reader_at_ reader_kind_ reader_allowedNames_) rfl trivial ?_
    cases hr
    exact AJ.xi (SK.at sK_x_end 8 rfl) rfl
  · refine AJ.g sK_x_end 2 4 (True) 12 [some (.ref 0), some (.int l1)] [.int reader_length_, .int l1] (h_x_end reader_length_ reader_tokens_ reader_hasRead_ reader_fault_ reader_place_ reader_at_ reader_kind_ reader_allowedNames_) rfl trivial ?_
    refine AJ.iF hr (SK.at sK_x_end 6 rfl) 17 15 rfl rfl rfl (fun hr => ?_) (fun hr => ?_)
    · refine AJ.g sK_x_end 7 1 (True) 16 [some (.ref 0), some (.int l1)] [.int (-1)] (h_x_end reader_length_ reader_tokens_ reader_hasRead_ reader_fault_ reader_place_ reader_at_ reader_kind_ reader_allowedNames_) rfl trivial ?_
      cases hr
      exact AJ.xi (SK.at sK_x_end 8 rfl) rfl
    · refine AJ.g sK_x_end 9 5 (True) 26 [some (.ref 0), some (.int l1)] [.int l1] (h_x_end l1 reader_tokens_ reader_hasRead_ reader_fault_ reader_place_ reader_at_ reader_kind_ reader_allowedNames_) rfl trivial ?_
      cases hr
      exact AJ.xi (SK.at sK_x_end 14 rfl) rfl
theorem sK_rd_byteAt : SK M_rd_byteAt q_rd_byteAt := sk_rd_byteAt
set_option maxRecDepth 100000 in
set_option maxHeartbeats 4000000 in
theorem c_rd_byteAt {d : Nat} {length_ : Int32} {tokens_ : Int32} {hasRead_ : Int32} {fault_ : Int32} {place_ : Int32} {at_ : Int32} {kind_ : Int32} {allowedNames_ : Int32} {bytes_ : Nat → Int32} {l1 : Int32} {r0 : Int32} (hr : f_rd_byteAt length_ bytes_ l1 = some r0) : Ctr (d + 1) M_rd_byteAt [.ref 0, .int l1] (h_rd_byteAt length_ tokens_ hasRead_ fault_ place_ at_ kind_ allowedNames_ bytes_) (some (.int r0)) (h_rd_byteAt length_ tokens_ hasRead_ fault_ place_ at_ kind_ allowedNames_ bytes_) := by
  refine Ctr.start pn_rd [some (.ref 0), some (.int l1)] (Nat.le_of_ble_eq_true rfl) rfl ?_
  unfold f_rd_byteAt at hr
  refine AJ.g sK_rd_byteAt 0 1 (True) 1 [some (.ref 0), some (.int l1)] [.int l1] (h_rd_byteAt length_ tokens_ hasRead_ fault_ place_ at_ kind_ allowedNames_ bytes_) rfl trivial ?_
  refine AJ.iT hr (SK.at sK_rd_byteAt 1 rfl) 21 4 rfl rfl rfl (fun hr => ?_) (fun hr => ?_)
  · refine AJ.g sK_rd_byteAt 11 1 (True) 22 [some (.ref 0), some (.int l1)] [.int 0] (h_rd_byteAt length_ tokens_ hasRead_ fault_ place_ at_ kind_ allowedNames_ bytes_) rfl trivial ?_
    cases hr
    exact AJ.xi (SK.at sK_rd_byteAt 12 rfl) rfl
  · refine AJ.g sK_rd_byteAt 2 3 (True) 9 [some (.ref 0), some (.int l1)] [.int length_, .int l1] (h_rd_byteAt length_ tokens_ hasRead_ fault_ place_ at_ kind_ allowedNames_ bytes_) rfl trivial ?_
    refine AJ.iF hr (SK.at sK_rd_byteAt 5 rfl) 21 12 rfl rfl rfl (fun hr => ?_) (fun hr => ?_)
    · refine k_grd hr (fun g1 hr => ?_)
      refine AJ.g sK_rd_byteAt 6 5 (inb l1 300 ∧ True) 22 [some (.ref 0), some (.int l1)] [.int (bytes_ (ix l1))] (h_rd_byteAt length_ tokens_ hasRead_ fault_ place_ at_ kind_ allowedNames_ bytes_) rfl ⟨g1, trivial⟩ ?_
      cases hr
      exact AJ.xi (SK.at sK_rd_byteAt 12 rfl) rfl
    · refine AJ.g sK_rd_byteAt 11 1 (True) 22 [some (.ref 0), some (.int l1)] [.int 0] (h_rd_byteAt length_ tokens_ hasRead_ fault_ place_ at_ kind_ allowedNames_ bytes_) rfl trivial ?_
      cases hr
      exact AJ.xi (SK.at sK_rd_byteAt 12 rfl) rfl
theorem sK_rd_isBlank : SK M_rd_isBlank q_rd_isBlank := sk_rd_isBlank
set_option maxRecDepth 100000 in
set_option maxHeartbeats 4000000 in
theorem c_rd_isBlank {d : Nat}  {l0 : Int32} {r0 : Int32} (hr : f_rd_isBlank l0 = some r0) : Ctr (d + 1) M_rd_isBlank [.int l0] [] (some (.int r0)) [] := by
  refine Ctr.start pn_rd [some (.int l0)] (Nat.le_of_ble_eq_true rfl) rfl ?_
  unfold f_rd_isBlank at hr
  refine AJ.g sK_rd_isBlank 0 2 (True) 3 [some (.int l0)] [.int 32, .int l0] [] rfl trivial ?_
  refine AJ.iT hr (SK.at sK_rd_isBlank 2 rfl) 12 6 rfl rfl rfl (fun hr => ?_) (fun hr => ?_)
  · refine AJ.g sK_rd_isBlank 6 2 (True) 17 [some (.int l0)] [.int 1] [] rfl trivial ?_
    cases hr
    exact AJ.xz (by decide) (SK.at sK_rd_isBlank 9 rfl) rfl
  · refine AJ.g sK_rd_isBlank 3 2 (True) 9 [some (.int l0)] [.int 10, .int l0] [] rfl trivial ?_
    refine AJ.iF hr (SK.at sK_rd_isBlank 5 rfl) 16 12 rfl rfl rfl (fun hr => ?_) (fun hr => ?_)
    · refine AJ.g sK_rd_isBlank 6 2 (True) 17 [some (.int l0)] [.int 1] [] rfl trivial ?_
      cases hr
      exact AJ.xz (by decide) (SK.at sK_rd_isBlank 9 rfl) rfl
    · refine AJ.g sK_rd_isBlank 8 1 (True) 17 [some (.int l0)] [.int 0] [] rfl trivial ?_
      cases hr
      exact AJ.xz (by decide) (SK.at sK_rd_isBlank 9 rfl) rfl
theorem sK_rd_isLetter : SK M_rd_isLetter q_rd_isLetter := sk_rd_isLetter
set_option maxRecDepth 100000 in
set_option maxHeartbeats 4000000 in
theorem jt_rd_isLetter_12 {d : Nat}  {l0 : Int32}  {h0 : List va_E} {r0 : Int32} (hr : fj_rd_isLetter_12 l0 = some r0) : AJ (M_rd_isLetter, d + 1, (some (.int r0)), h0, []) 12 [some (.int l0)] [] [] := by
  unfold fj_rd_isLetter_12 at hr
  refine AJ.g sK_rd_isLetter 6 2 (True) 15 [some (.int l0)] [.int 65, .int l0] [] rfl trivial ?_
  refine AJ.iT hr (SK.at sK_rd_isLetter 8 rfl) 28 18 rfl rfl rfl (fun hr => ?_) (fun hr => ?_)
  · refine AJ.g sK_rd_isLetter 14 1 (True) 29 [some (.int l0)] [.int 0] [] rfl trivial ?_
    cases hr
    exact AJ.xz (by decide) (SK.at sK_rd_isLetter 15 rfl) rfl
  · refine AJ.g sK_rd_isLetter 9 2 (True) 21 [some (.int l0)] [.int 90, .int l0] [] rfl trivial ?_
    refine AJ.iT hr (SK.at sK_rd_isLetter 11 rfl) 28 24 rfl rfl rfl (fun hr => ?_) (fun hr => ?_)
    · refine AJ.g sK_rd_isLetter 14 1 (True) 29 [some (.int l0)] [.int 0] [] rfl trivial ?_
      cases hr
      exact AJ.xz (by decide) (SK.at sK_rd_isLetter 15 rfl) rfl
    · refine AJ.g sK_rd_isLetter 12 2 (True) 29 [some (.int l0)] [.int 1] [] rfl trivial ?_
      cases hr
      exact AJ.xz (by decide) (SK.at sK_rd_isLetter 15 rfl) rfl
set_option maxRecDepth 100000 in
set_option maxHeartbeats 4000000 in
theorem c_rd_isLetter {d : Nat}  {l0 : Int32} {r0 : Int32} (hr : f_rd_isLetter l0 = some r0) : Ctr (d + 1) M_rd_isLetter [.int l0] [] (some (.int r0)) [] := by
  refine Ctr.start pn_rd [some (.int l0)] (Nat.le_of_ble_eq_true rfl) rfl ?_
  unfold f_rd_isLetter at hr
  refine AJ.g sK_rd_isLetter 0 2 (True) 3 [some (.int l0)] [.int 97, .int l0] [] rfl trivial ?_
  refine AJ.iT hr (SK.at sK_rd_isLetter 2 rfl) 12 6 rfl rfl rfl (fun hr => ?_) (fun hr => ?_)
  · refine AJ.fg [true] [some (.int l0)] rfl ?_
    exact jt_rd_isLetter_12 hr
  · refine AJ.g sK_rd_isLetter 3 2 (True) 9 [some (.int l0)] [.int 122, .int l0] [] rfl trivial ?_
    refine AJ.iF hr (SK.at sK_rd_isLetter 5 rfl) 24 12 rfl rfl rfl (fun hr => ?_) (fun hr => ?_)
    · refine AJ.fg [true] [some (.int l0)] rfl ?_
      exact jt_rd_isLetter_12 hr
    · refine AJ.g sK_rd_isLetter 12 2 (True) 29 [some (.int l0)] [.int 1] [] rfl trivial ?_
      cases hr
      exact AJ.xz (by decide) (SK.at sK_rd_isLetter 15 rfl) rfl
theorem sK_rd_isDigit : SK M_rd_isDigit q_rd_isDigit := sk_rd_isDigit
set_option maxRecDepth 100000 in
set_option maxHeartbeats 4000000 in
theorem c_rd_isDigit {d : Nat}  {l0 : Int32} {r0 : Int32} (hr : f_rd_isDigit l0 = some r0) : Ctr (d + 1) M_rd_isDigit [.int l0] [] (some (.int r0)) [] := by
  refine Ctr.start pn_rd [some (.int l0)] (Nat.le_of_ble_eq_true rfl) rfl ?_
  unfold f_rd_isDigit at hr
  refine AJ.g sK_rd_isDigit 0 2 (True) 3 [some (.int l0)] [.int 48, .int l0] [] rfl trivial ?_
  refine AJ.iT hr (SK.at sK_rd_isDigit 2 rfl) 16 6 rfl rfl rfl (fun hr => ?_) (fun hr => ?_)
  · refine AJ.g sK_rd_isDigit 8 1 (True) 17 [some (.int l0)] [.int 0] [] rfl trivial ?_
    cases hr
    exact AJ.xz (by decide) (SK.at sK_rd_isDigit 9 rfl) rfl
  · refine AJ.g sK_rd_isDigit 3 2 (True) 9 [some (.int l0)] [.int 57, .int l0] [] rfl trivial ?_
    refine AJ.iT hr (SK.at sK_rd_isDigit 5 rfl) 16 12 rfl rfl rfl (fun hr => ?_) (fun hr => ?_)
    · refine AJ.g sK_rd_isDigit 8 1 (True) 17 [some (.int l0)] [.int 0] [] rfl trivial ?_
      cases hr
      exact AJ.xz (by decide) (SK.at sK_rd_isDigit 9 rfl) rfl
    · refine AJ.g sK_rd_isDigit 6 2 (True) 17 [some (.int l0)] [.int 1] [] rfl trivial ?_
      cases hr
      exact AJ.xz (by decide) (SK.at sK_rd_isDigit 9 rfl) rfl
theorem sK_rd_endOfToken : SK M_rd_endOfToken q_rd_endOfToken := sk_rd_endOfToken
set_option maxRecDepth 100000 in
set_option maxHeartbeats 4000000 in
theorem jt_rd_endOfToken_86 {d : Nat} {length_ : Int32} {tokens_ : Int32} {hasRead_ : Int32} {fault_ : Int32} {place_ : Int32} {at_ : Int32} {kind_ : Int32} {allowedNames_ : Int32} {bytes_ : Nat → Int32} {l3 : Int32}  {h0 : List va_E} {r0 : Int32} (hr : fj_rd_endOfToken_86 length_ bytes_ l3 = some r0) : AJ (M_rd_endOfToken, d + 2, (some (.int r0)), h0, (h_rd_endOfToken length_ tokens_ hasRead_ fault_ place_ at_ kind_ allowedNames_ bytes_)) 86 [some (.ref 0), none, none, some (.int l3)] [] (h_rd_endOfToken length_ tokens_ hasRead_ fault_ place_ at_ kind_ allowedNames_ bytes_) := by
  unfold fj_rd_endOfToken_86 at hr
  refine AJ.g sK_rd_endOfToken 42 2 (True) 88 [some (.ref 0), none, none, some (.int l3)] [.int l3, .ref 0] (h_rd_endOfToken length_ tokens_ hasRead_ fault_ place_ at_ kind_ allowedNames_ bytes_) rfl trivial ?_
  refine k_b1 hr (fun r4 e5 hr => ?_)
  refine AJ.eV mk_rd_byteAt (SK.at sK_rd_endOfToken 44 rfl) lk_4_77 (c_rd_byteAt (length_ := length_) (tokens_ := tokens_) (hasRead_ := hasRead_) (fault_ := fault_) (place_ := place_) (at_ := at_) (kind_ := kind_) (allowedNames_ := allowedNames_) (bytes_ := bytes_) e5) [0, 1] [2, 3, 4, 5] [] [] 91 [.int r4] (h_rd_endOfToken length_ tokens_ hasRead_ fault_ place_ at_ kind_ allowedNames_ bytes_) rfl rfl rfl rfl rfl (by decide +kernel) rfl rfl rfl rfl rfl (Nat.le_of_ble_eq_true rfl) rfl rfl rfl ?_
  refine AJ.g sK_rd_endOfToken 45 1 (True) 93 [some (.ref 0), none, none, some (.int l3)] [.int 61, .int r4] (h_rd_endOfToken length_ tokens_ hasRead_ fault_ place_ at_ kind_ allowedNames_ bytes_) rfl trivial ?_
  refine AJ.iF hr (SK.at sK_rd_endOfToken 46 rfl) 99 96 rfl rfl rfl (fun hr => ?_) (fun hr => ?_)
  · refine AJ.g sK_rd_endOfToken 47 1 (True) 99 [some (.ref 0), none, none, some (.int (l3 + 1))] [] (h_rd_endOfToken length_ tokens_ hasRead_ fault_ place_ at_ kind_ allowedNames_ bytes_) rfl trivial ?_
    refine AJ.g sK_rd_endOfToken 48 1 (True) 100 [some (.ref 0), none, none, some (.int (l3 + 1))] [.int (l3 + 1)] (h_rd_endOfToken length_ tokens_ hasRead_ fault_ place_ at_ kind_ allowedNames_ bytes_) rfl trivial ?_
    cases hr
    exact AJ.xi (SK.at sK_rd_endOfToken 49 rfl) rfl
  · refine AJ.g sK_rd_endOfToken 48 1 (True) 100 [some (.ref 0), none, none, some (.int l3)] [.int l3] (h_rd_endOfToken length_ tokens_ hasRead_ fault_ place_ at_ kind_ allowedNames_ bytes_) rfl trivial ?_
    cases hr
    exact AJ.xi (SK.at sK_rd_endOfToken 49 rfl) rfl
set_option maxRecDepth 100000 in
set_option maxHeartbeats 4000000 in
theorem bt_rd_endOfToken_49 {d : Nat} {rr : Option Value} {h0 hF : List va_E} {length_ : Int32} {tokens_ : Int32} {hasRead_ : Int32} {fault_ : Int32} {place_ : Int32} {at_ : Int32} {kind_ : Int32} {allowedNames_ : Int32} {bytes_ : Nat → Int32} {l3 : Int32} {x : Int32 ⊕ Int32} (hr : fb_rd_endOfToken_49 length_ bytes_ l3 = some x) (hx : Sum.elim (fun s : Int32 => AJ (M_rd_endOfToken, d + 2, rr, h0, hF) 49 [some (.ref 0), none, none, some (.int s)] [] (h_rd_endOfToken length_ tokens_ hasRead_ fault_ place_ at_ kind_ allowedNames_ bytes_)) (fun s : Int32 => AJ (M_rd_endOfToken, d + 2, rr, h0, hF) 99 [none, none, none, some (.int s)] [] (h_rd_endOfToken length_ tokens_ hasRead_ fault_ place_ at_ kind_ allowedNames_ bytes_)) x) : AJ (M_rd_endOfToken, d + 2, rr, h0, hF) 49 [some (.ref 0), none, none, some (.int l3)] [] (h_rd_endOfToken length_ tokens_ hasRead_ fault_ place_ at_ kind_ allowedNames_ bytes_) := by
  unfold fb_rd_endOfToken_49 at hr
  refine AJ.g sK_rd_endOfToken 25 3 (True) 54 [some (.ref 0), none, none, some (.int l3)] [.int length_, .int l3] (h_rd_endOfToken length_ tokens_ hasRead_ fault_ place_ at_ kind_ allowedNames_ bytes_) rfl trivial ?_
  refine AJ.iF hr (SK.at sK_rd_endOfToken 28 rfl) 99 57 rfl rfl rfl (fun hr => ?_) (fun hr => ?_)
  · refine AJ.g sK_rd_endOfToken 29 2 (True) 59 [some (.ref 0), none, none, some (.int l3)] [.int l3, .ref 0] (h_rd_endOfToken length_ tokens_ hasRead_ fault_ place_ at_ kind_ allowedNames_ bytes_) rfl trivial ?_
    refine k_b1 hr (fun r6 e9 hr => ?_)
    refine AJ.eV mk_rd_byteAt (SK.at sK_rd_endOfToken 31 rfl) lk_4_77 (c_rd_byteAt (length_ := length_) (tokens_ := tokens_) (hasRead_ := hasRead_) (fault_ := fault_) (place_ := place_) (at_ := at_) (kind_ := kind_) (allowedNames_ := allowedNames_) (bytes_ := bytes_) e9) [0, 1] [2, 3, 4, 5] [] [] 62 [.int r6] (h_rd_endOfToken length_ tokens_ hasRead_ fault_ place_ at_ kind_ allowedNames_ bytes_) rfl rfl rfl rfl rfl (by decide +kernel) rfl rfl rfl rfl rfl (Nat.le_of_ble_eq_true rfl) rfl rfl rfl ?_
    refine k_b1 hr (fun r7 e8 hr => ?_)
    refine AJ.eS mk_rd_isDigit (SK.at sK_rd_endOfToken 32 rfl) lk_4_92 (c_rd_isDigit  e8) [] [] [] [] 65 [.int r7] (h_rd_endOfToken length_ tokens_ hasRead_ fault_ place_ at_ kind_ allowedNames_ bytes_) rfl rfl (by decide +kernel) rfl rfl rfl rfl rfl (Nat.le_of_ble_eq_true rfl) rfl rfl rfl ?_
    refine AJ.iT hr (SK.at sK_rd_endOfToken 33 rfl) 99 68 rfl rfl rfl (fun hr => ?_) (fun hr => ?_)
    · cases hr
      refine AJ.fg [false, false, false, true] [none, none, none, some (.int l3)] rfl ?_
      exact hx
    · refine AJ.g sK_rd_endOfToken 34 2 (True) 49 [some (.ref 0), none, none, some (.int (l3 + 1))] [] (h_rd_endOfToken length_ tokens_ hasRead_ fault_ place_ at_ kind_ allowedNames_ bytes_) rfl trivial ?_
      cases hr
      refine AJ.fg [true, false, false, true] [some (.ref 0), none, none, some (.int (l3 + 1))] rfl ?_
      exact hx
  · cases hr
    refine AJ.fg [false, false, false, true] [none, none, none, some (.int l3)] rfl ?_
    exact hx
set_option maxRecDepth 100000 in
set_option maxHeartbeats 4000000 in
theorem bt_rd_endOfToken_17 {d : Nat} {rr : Option Value} {h0 hF : List va_E} {length_ : Int32} {tokens_ : Int32} {hasRead_ : Int32} {fault_ : Int32} {place_ : Int32} {at_ : Int32} {kind_ : Int32} {allowedNames_ : Int32} {bytes_ : Nat → Int32} {l3 : Int32} {x : Int32 ⊕ Int32} (hr : fb_rd_endOfToken_17 length_ bytes_ l3 = some x) (hx : Sum.elim (fun s : Int32 => AJ (M_rd_endOfToken, d + 2, rr, h0, hF) 17 [some (.ref 0), none, none, some (.int s)] [] (h_rd_endOfToken length_ tokens_ hasRead_ fault_ place_ at_ kind_ allowedNames_ bytes_)) (fun s : Int32 => AJ (M_rd_endOfToken, d + 2, rr, h0, hF) 99 [none, none, none, some (.int s)] [] (h_rd_endOfToken length_ tokens_ hasRead_ fault_ place_ at_ kind_ allowedNames_ bytes_)) x) : AJ (M_rd_endOfToken, d + 2, rr, h0, hF) 17 [some (.ref 0), none, none, some (.int l3)] [] (h_rd_endOfToken length_ tokens_ hasRead_ fault_ place_ at_ kind_ allowedNames_ bytes_) := by
  unfold fb_rd_endOfToken_17 at hr
  refine AJ.g sK_rd_endOfToken 11 3 (True) 22 [some (.ref 0), none, none, some (.int l3)] [.int length_, .int l3] (h_rd_endOfToken length_ tokens_ hasRead_ fault_ place_ at_ kind_ allowedNames_ bytes_) rfl trivial ?_
  refine AJ.iF hr (SK.at sK_rd_endOfToken 14 rfl) 99 25 rfl rfl rfl (fun hr => ?_) (fun hr => ?_)
  · refine AJ.g sK_rd_endOfToken 15 2 (True) 27 [some (.ref 0), none, none, some (.int l3)] [.int l3, .ref 0] (h_rd_endOfToken length_ tokens_ hasRead_ fault_ place_ at_ kind_ allowedNames_ bytes_) rfl trivial ?_
    refine k_b1 hr (fun r12 e15 hr => ?_)
    refine AJ.eV mk_rd_byteAt (SK.at sK_rd_endOfToken 17 rfl) lk_4_77 (c_rd_byteAt (length_ := length_) (tokens_ := tokens_) (hasRead_ := hasRead_) (fault_ := fault_) (place_ := place_) (at_ := at_) (kind_ := kind_) (allowedNames_ := allowedNames_) (bytes_ := bytes_) e15) [0, 1] [2, 3, 4, 5] [] [] 30 [.int r12] (h_rd_endOfToken length_ tokens_ hasRead_ fault_ place_ at_ kind_ allowedNames_ bytes_) rfl rfl rfl rfl rfl (by decide +kernel) rfl rfl rfl rfl rfl (Nat.le_of_ble_eq_true rfl) rfl rfl rfl ?_
    refine k_b1 hr (fun r13 e14 hr => ?_)
    refine AJ.eS mk_rd_isLetter (SK.at sK_rd_endOfToken 18 rfl) lk_4_102 (c_rd_isLetter  e14) [] [] [] [] 33 [.int r13] (h_rd_endOfToken length_ tokens_ hasRead_ fault_ place_ at_ kind_ allowedNames_ bytes_) rfl rfl (by decide +kernel) rfl rfl rfl rfl rfl (Nat.le_of_ble_eq_true rfl) rfl rfl rfl ?_
    refine AJ.iT hr (SK.at sK_rd_endOfToken 19 rfl) 99 36 rfl rfl rfl (fun hr => ?_) (fun hr => ?_)
    · cases hr
      refine AJ.fg [false, false, false, true] [none, none, none, some (.int l3)] rfl ?_
      exact hx
    · refine AJ.g sK_rd_endOfToken 20 2 (True) 17 [some (.ref 0), none, none, some (.int (l3 + 1))] [] (h_rd_endOfToken length_ tokens_ hasRead_ fault_ place_ at_ kind_ allowedNames_ bytes_) rfl trivial ?_
      cases hr
      refine AJ.fg [true, false, false, true] [some (.ref 0), none, none, some (.int (l3 + 1))] rfl ?_
      exact hx
  · cases hr
    refine AJ.fg [false, false, false, true] [none, none, none, some (.int l3)] rfl ?_
    exact hx
set_option maxRecDepth 100000 in
set_option maxHeartbeats 4000000 in
theorem c_rd_endOfToken {d : Nat} {length_ : Int32} {tokens_ : Int32} {hasRead_ : Int32} {fault_ : Int32} {place_ : Int32} {at_ : Int32} {kind_ : Int32} {allowedNames_ : Int32} {bytes_ : Nat → Int32} {l1 : Int32} {r0 : Int32} (hr : f_rd_endOfToken length_ bytes_ l1 = some r0) : Ctr (d + 2) M_rd_endOfToken [.ref 0, .int l1] (h_rd_endOfToken length_ tokens_ hasRead_ fault_ place_ at_ kind_ allowedNames_ bytes_) (some (.int r0)) (h_rd_endOfToken length_ tokens_ hasRead_ fault_ place_ at_ kind_ allowedNames_ bytes_) := by
  refine Ctr.start pn_rd [some (.ref 0), some (.int l1)] (Nat.le_of_ble_eq_true rfl) rfl ?_
  unfold f_rd_endOfToken at hr
  refine AJ.g sK_rd_endOfToken 0 2 (True) 2 [some (.ref 0), some (.int l1)] [.int l1, .ref 0] (h_rd_endOfToken length_ tokens_ hasRead_ fault_ place_ at_ kind_ allowedNames_ bytes_) rfl trivial ?_
  refine k_b1 hr (fun r1 e18 hr => ?_)
  refine AJ.eV mk_rd_byteAt (SK.at sK_rd_endOfToken 2 rfl) lk_4_77 (c_rd_byteAt (length_ := length_) (tokens_ := tokens_) (hasRead_ := hasRead_) (fault_ := fault_) (place_ := place_) (at_ := at_) (kind_ := kind_) (allowedNames_ := allowedNames_) (bytes_ := bytes_) e18) [0, 1] [2, 3, 4, 5] [] [] 5 [.int r1] (h_rd_endOfToken length_ tokens_ hasRead_ fault_ place_ at_ kind_ allowedNames_ bytes_) rfl rfl rfl rfl rfl (by decide +kernel) rfl rfl rfl rfl rfl (Nat.le_of_ble_eq_true rfl) rfl rfl rfl ?_
  refine AJ.g sK_rd_endOfToken 3 6 (True) 11 [some (.ref 0), some (.int l1), some (.int r1), some (.int (l1 + 1))] [.int r1] (h_rd_endOfToken length_ tokens_ hasRead_ fault_ place_ at_ kind_ allowedNames_ bytes_) rfl trivial ?_
  refine k_b1 hr (fun r2 e17 hr => ?_)
  refine AJ.eS mk_rd_isLetter (SK.at sK_rd_endOfToken 9 rfl) lk_4_102 (c_rd_isLetter  e17) [] [] [] [] 14 [.int r2] (h_rd_endOfToken length_ tokens_ hasRead_ fault_ place_ at_ kind_ allowedNames_ bytes_) rfl rfl (by decide +kernel) rfl rfl rfl rfl rfl (Nat.le_of_ble_eq_true rfl) rfl rfl rfl ?_
  refine AJ.iT hr (SK.at sK_rd_endOfToken 10 rfl) 42 17 rfl rfl rfl (fun hr => ?_) (fun hr => ?_)
  · refine AJ.g sK_rd_endOfToken 22 1 (True) 43 [some (.ref 0), some (.int l1), some (.int r1), some (.int (l1 + 1))] [.int r1] (h_rd_endOfToken length_ tokens_ hasRead_ fault_ place_ at_ kind_ allowedNames_ bytes_) rfl trivial ?_
    refine k_b1 hr (fun r3 e11 hr => ?_)
    refine AJ.eS mk_rd_isDigit (SK.at sK_rd_endOfToken 23 rfl) lk_4_92 (c_rd_isDigit  e11) [] [] [] [] 46 [.int r3] (h_rd_endOfToken length_ tokens_ hasRead_ fault_ place_ at_ kind_ allowedNames_ bytes_) rfl rfl (by decide +kernel) rfl rfl rfl rfl rfl (Nat.le_of_ble_eq_true rfl) rfl rfl rfl ?_
    refine AJ.iT hr (SK.at sK_rd_endOfToken 24 rfl) 74 49 rfl rfl rfl (fun hr => ?_) (fun hr => ?_)
    · refine AJ.g sK_rd_endOfToken 36 2 (True) 77 [some (.ref 0), some (.int l1), some (.int r1), some (.int (l1 + 1))] [.int 60, .int r1] (h_rd_endOfToken length_ tokens_ hasRead_ fault_ place_ at_ kind_ allowedNames_ bytes_) rfl trivial ?_
      refine AJ.iT hr (SK.at sK_rd_endOfToken 38 rfl) 86 80 rfl rfl rfl (fun hr => ?_) (fun hr => ?_)
      · refine AJ.fg [true, false, false, true] [some (.ref 0), none, none, some (.int (l1 + 1))] rfl ?_
        exact jt_rd_endOfToken_86 hr
      · refine AJ.g sK_rd_endOfToken 39 2 (True) 83 [some (.ref 0), some (.int l1), some (.int r1), some (.int (l1 + 1))] [.int 62, .int r1] (h_rd_endOfToken length_ tokens_ hasRead_ fault_ place_ at_ kind_ allowedNames_ bytes_) rfl trivial ?_
        refine AJ.iF hr (SK.at sK_rd_endOfToken 41 rfl) 99 86 rfl rfl rfl (fun hr => ?_) (fun hr => ?_)
        · refine AJ.fg [true, false, false, true] [some (.ref 0), none, none, some (.int (l1 + 1))] rfl ?_
          exact jt_rd_endOfToken_86 hr
        · refine AJ.g sK_rd_endOfToken 48 1 (True) 100 [some (.ref 0), some (.int l1), some (.int r1), some (.int (l1 + 1))] [.int (l1 + 1)] (h_rd_endOfToken length_ tokens_ hasRead_ fault_ place_ at_ kind_ allowedNames_ bytes_) rfl trivial ?_
          cases hr
          exact AJ.xi (SK.at sK_rd_endOfToken 49 rfl) rfl
    · refine k_b1 hr (fun l3_10 he hr => ?_)
      refine AJ.fg [true, false, false, true] [some (.ref 0), none, none, some (.int (l1 + 1))] rfl ?_
      refine itr_ok (fb_rd_endOfToken_49 length_ bytes_) (fun s : Int32 => AJ _ 49 [some (.ref 0), none, none, some (.int s)] [] (h_rd_endOfToken length_ tokens_ hasRead_ fault_ place_ at_ kind_ allowedNames_ bytes_)) (fun s : Int32 => AJ _ 99 [none, none, none, some (.int s)] [] (h_rd_endOfToken length_ tokens_ hasRead_ fault_ place_ at_ kind_ allowedNames_ bytes_)) (fun s x hb hx => bt_rd_endOfToken_49 hb hx) KF (l1 + 1) l3_10 he (show AJ _ 99 [none, none, none, some (.int l3_10)] [] (h_rd_endOfToken length_ tokens_ hasRead_ fault_ place_ at_ kind_ allowedNames_ bytes_) from ?_)
      refine AJ.g sK_rd_endOfToken 48 1 (True) 100 [none, none, none, some (.int l3_10)] [.int l3_10] (h_rd_endOfToken length_ tokens_ hasRead_ fault_ place_ at_ kind_ allowedNames_ bytes_) rfl trivial ?_
      cases hr
      exact AJ.xi (SK.at sK_rd_endOfToken 49 rfl) rfl
  · refine k_b1 hr (fun l3_16 he hr => ?_)
    refine AJ.fg [true, false, false, true] [some (.ref 0), none, none, some (.int (l1 + 1))] rfl ?_
    refine itr_ok (fb_rd_endOfToken_17 length_ bytes_) (fun s : Int32 => AJ _ 17 [some (.ref 0), none, none, some (.int s)] [] (h_rd_endOfToken length_ tokens_ hasRead_ fault_ place_ at_ kind_ allowedNames_ bytes_)) (fun s : Int32 => AJ _ 99 [none, none, none, some (.int s)] [] (h_rd_endOfToken length_ tokens_ hasRead_ fault_ place_ at_ kind_ allowedNames_ bytes_)) (fun s x hb hx => bt_rd_endOfToken_17 hb hx) KF (l1 + 1) l3_16 he (show AJ _ 99 [none, none, none, some (.int l3_16)] [] (h_rd_endOfToken length_ tokens_ hasRead_ fault_ place_ at_ kind_ allowedNames_ bytes_) from ?_)
    refine AJ.g sK_rd_endOfToken 48 1 (True) 100 [none, none, none, some (.int l3_16)] [.int l3_16] (h_rd_endOfToken length_ tokens_ hasRead_ fault_ place_ at_ kind_ allowedNames_ bytes_) rfl trivial ?_
    cases hr
    exact AJ.xi (SK.at sK_rd_endOfToken 49 rfl) rfl
theorem sK_rd_isWordAt : SK M_rd_isWordAt q_rd_isWordAt := sk_rd_isWordAt
set_option maxRecDepth 100000 in
set_option maxHeartbeats 4000000 in
theorem bt_rd_isWordAt_3 {d : Nat} {rr : Option Value} {h0 hF : List va_E} {length_ : Int32} {tokens_ : Int32} {hasRead_ : Int32} {fault_ : Int32} {place_ : Int32} {at_ : Int32} {kind_ : Int32} {allowedNames_ : Int32} {bytes_ : Nat → Int32} {l1 : Int32} {l2 : Int32} {l3 : Int32} {l4 : Int32} {x : Int32 ⊕ (Unit ⊕ Unit)} (hr : fb_rd_isWordAt_3 length_ bytes_ l1 l2 l3 l4 = some x) (hx : Sum.elim (fun s : Int32 => AJ (M_rd_isWordAt, d + 4, rr, h0, hF) 3 [some (.ref 0), some (.int l1), some (.int l2), some (.int l3), some (.int s)] [] (h_rd_isWordAt length_ tokens_ hasRead_ fault_ place_ at_ kind_ allowedNames_ bytes_)) (Sum.elim (fun s : Unit => AJ (M_rd_isWordAt, d + 4, rr, h0, hF) 48 [] [] (h_rd_isWordAt length_ tokens_ hasRead_ fault_ place_ at_ kind_ allowedNames_ bytes_)) (fun s : Unit => AJ (M_rd_isWordAt, d + 4, rr, h0, hF) 56 [] [] (h_rd_isWordAt length_ tokens_ hasRead_ fault_ place_ at_ kind_ allowedNames_ bytes_))) x) : AJ (M_rd_isWordAt, d + 4, rr, h0, hF) 3 [some (.ref 0), some (.int l1), some (.int l2), some (.int l3), some (.int l4)] [] (h_rd_isWordAt length_ tokens_ hasRead_ fault_ place_ at_ kind_ allowedNames_ bytes_) := by
  unfold fb_rd_isWordAt_3 at hr
  refine AJ.g sK_rd_isWordAt 2 2 (True) 6 [some (.ref 0), some (.int l1), some (.int l2), some (.int l3), some (.int l4)] [.int l3, .int l4] (h_rd_isWordAt length_ tokens_ hasRead_ fault_ place_ at_ kind_ allowedNames_ bytes_) rfl trivial ?_
  refine AJ.iF hr (SK.at sK_rd_isWordAt 4 rfl) 56 9 rfl rfl rfl (fun hr => ?_) (fun hr => ?_)
  · refine AJ.g sK_rd_isWordAt 5 7 (True) 19 [some (.ref 0), some (.int l1), some (.int l2), some (.int l3), some (.int l4), some (.int ((l1 + l4) - l2))] [.int ((l1 + l4) - l2)] (h_rd_isWordAt length_ tokens_ hasRead_ fault_ place_ at_ kind_ allowedNames_ bytes_) rfl trivial ?_
    refine AJ.iT hr (SK.at sK_rd_isWordAt 12 rfl) 48 22 rfl rfl rfl (fun hr => ?_) (fun hr => ?_)
    · cases hr
      refine AJ.fg [] [] rfl ?_
      exact hx
    · refine AJ.g sK_rd_isWordAt 13 1 (True) 24 [some (.ref 0), some (.int l1), some (.int l2), some (.int l3), some (.int l4), some (.int ((l1 + l4) - l2))] [.int ((l1 + l4) - l2)] (h_rd_isWordAt length_ tokens_ hasRead_ fault_ place_ at_ kind_ allowedNames_ bytes_) rfl trivial ?_
      refine AJ.sLen (i := 0) (v := 68) (Or.inl ⟨rfl, rfl⟩) rfl rfl ds_rd_isWordAt_24 (SK.at sK_rd_isWordAt 14 rfl) rfl (Nat.le_of_ble_eq_true rfl) rfl ?_
      refine AJ.iF hr (SK.at sK_rd_isWordAt 15 rfl) 48 32 rfl rfl rfl (fun hr => ?_) (fun hr => ?_)
      · refine k_grd hr (fun g1 hr => ?_)
        refine AJ.sChr (i := 0) (Or.inl ⟨rfl, rfl⟩) rfl rfl g1 ds_rd_isWordAt_32 (SK.at sK_rd_isWordAt 16 rfl) (SK.at sK_rd_isWordAt 17 rfl) rfl (Nat.le_of_ble_eq_true rfl) rfl ?_
        refine AJ.g sK_rd_isWordAt 18 2 (True) 42 [some (.ref 0), some (.int l1), some (.int l2), some (.int l3), some (.int l4), some (.int ((l1 + l4) - l2))] [.int l4, .ref 0, .int (chr0 (ix ((l1 + l4) - l2)))] (h_rd_isWordAt length_ tokens_ hasRead_ fault_ place_ at_ kind_ allowedNames_ bytes_) rfl trivial ?_
        refine k_b1 hr (fun r2 e3 hr => ?_)
        refine AJ.eV mk_rd_byteAt (SK.at sK_rd_isWordAt 20 rfl) lk_4_77 (c_rd_byteAt (length_ := length_) (tokens_ := tokens_) (hasRead_ := hasRead_) (fault_ := fault_) (place_ := place_) (at_ := at_) (kind_ := kind_) (allowedNames_ := allowedNames_) (bytes_ := bytes_) e3) [0, 1] [2, 3, 4, 5] [] [.int (chr0 (ix ((l1 + l4) - l2)))] 45 [.int r2, .int (chr0 (ix ((l1 + l4) - l2)))] (h_rd_isWordAt length_ tokens_ hasRead_ fault_ place_ at_ kind_ allowedNames_ bytes_) rfl rfl rfl rfl rfl (by decide +kernel) rfl rfl rfl rfl rfl (Nat.le_of_ble_eq_true rfl) rfl rfl rfl ?_
        refine AJ.iT hr (SK.at sK_rd_isWordAt 21 rfl) 50 48 rfl rfl rfl (fun hr => ?_) (fun hr => ?_)
        · refine AJ.g sK_rd_isWordAt 24 2 (True) 3 [some (.ref 0), some (.int l1), some (.int l2), some (.int l3), some (.int (l4 + 1)), some (.int ((l1 + l4) - l2))] [] (h_rd_isWordAt length_ tokens_ hasRead_ fault_ place_ at_ kind_ allowedNames_ bytes_) rfl trivial ?_
          cases hr
          refine AJ.fg [true, true, true, true, true] [some (.ref 0), some (.int l1), some (.int l2), some (.int l3), some (.int (l4 + 1))] rfl ?_
          exact hx
        · cases hr
          refine AJ.fg [] [] rfl ?_
          exact hx
      · cases hr
        refine AJ.fg [] [] rfl ?_
        exact hx
  · cases hr
    refine AJ.fg [] [] rfl ?_
    exact hx
set_option maxRecDepth 100000 in
set_option maxHeartbeats 4000000 in
theorem c_rd_isWordAt {d : Nat} {length_ : Int32} {tokens_ : Int32} {hasRead_ : Int32} {fault_ : Int32} {place_ : Int32} {at_ : Int32} {kind_ : Int32} {allowedNames_ : Int32} {bytes_ : Nat → Int32} {l1 : Int32} {l2 : Int32} {l3 : Int32} {r0 : Int32} (hr : f_rd_isWordAt length_ bytes_ l1 l2 l3 = some r0) : Ctr (d + 4) M_rd_isWordAt [.ref 0, .int l1, .int l2, .int l3] (h_rd_isWordAt length_ tokens_ hasRead_ fault_ place_ at_ kind_ allowedNames_ bytes_) (some (.int r0)) (h_rd_isWordAt length_ tokens_ hasRead_ fault_ place_ at_ kind_ allowedNames_ bytes_) := by
  refine Ctr.start pn_rd [some (.ref 0), some (.int l1), some (.int l2), some (.int l3)] (Nat.le_of_ble_eq_true rfl) rfl ?_
  unfold f_rd_isWordAt at hr
  refine AJ.g sK_rd_isWordAt 0 2 (True) 3 [some (.ref 0), some (.int l1), some (.int l2), some (.int l3), some (.int l2)] [] (h_rd_isWordAt length_ tokens_ hasRead_ fault_ place_ at_ kind_ allowedNames_ bytes_) rfl trivial ?_
  refine k_bs hr (fun z he hr => ?_) (fun z he hr => ?_)
  · refine AJ.fg [true, true, true, true, true] [some (.ref 0), some (.int l1), some (.int l2), some (.int l3), some (.int l2)] rfl ?_
    refine itr_ok (fb_rd_isWordAt_3 length_ bytes_ l1 l2 l3) (fun s : Int32 => AJ _ 3 [some (.ref 0), some (.int l1), some (.int l2), some (.int l3), some (.int s)] [] (h_rd_isWordAt length_ tokens_ hasRead_ fault_ place_ at_ kind_ allowedNames_ bytes_)) (Sum.elim (fun s : Unit => AJ _ 48 [] [] (h_rd_isWordAt length_ tokens_ hasRead_ fault_ place_ at_ kind_ allowedNames_ bytes_)) (fun s : Unit => AJ _ 56 [] [] (h_rd_isWordAt length_ tokens_ hasRead_ fault_ place_ at_ kind_ allowedNames_ bytes_))) (fun s x hb hx => bt_rd_isWordAt_3 hb hx) KF l2 (.inl ()) he (show AJ _ 48 [] [] (h_rd_isWordAt length_ tokens_ hasRead_ fault_ place_ at_ kind_ allowedNames_ bytes_) from ?_)
    refine AJ.g sK_rd_isWordAt 22 1 (True) 49 [] [.int 0] (h_rd_isWordAt length_ tokens_ hasRead_ fault_ place_ at_ kind_ allowedNames_ bytes_) rfl trivial ?_
    cases hr
    exact AJ.xz (by decide) (SK.at sK_rd_isWordAt 23 rfl) rfl
  · refine AJ.fg [true, true, true, true, true] [some (.ref 0), some (.int l1), some (.int l2), some (.int l3), some (.int l2)] rfl ?_
    refine itr_ok (fb_rd_isWordAt_3 length_ bytes_ l1 l2 l3) (fun s : Int32 => AJ _ 3 [some (.ref 0), some (.int l1), some (.int l2), some (.int l3), some (.int s)] [] (h_rd_isWordAt length_ tokens_ hasRead_ fault_ place_ at_ kind_ allowedNames_ bytes_)) (Sum.elim (fun s : Unit => AJ _ 48 [] [] (h_rd_isWordAt length_ tokens_ hasRead_ fault_ place_ at_ kind_ allowedNames_ bytes_)) (fun s : Unit => AJ _ 56 [] [] (h_rd_isWordAt length_ tokens_ hasRead_ fault_ place_ at_ kind_ allowedNames_ bytes_))) (fun s x hb hx => bt_rd_isWordAt_3 hb hx) KF l2 (.inr (())) he (show AJ _ 56 [] [] (h_rd_isWordAt length_ tokens_ hasRead_ fault_ place_ at_ kind_ allowedNames_ bytes_) from ?_)
    refine AJ.g sK_rd_isWordAt 26 1 (True) 57 [] [.int 1] (h_rd_isWordAt length_ tokens_ hasRead_ fault_ place_ at_ kind_ allowedNames_ bytes_) rfl trivial ?_
    cases hr
    exact AJ.xz (by decide) (SK.at sK_rd_isWordAt 27 rfl) rfl
theorem sK_rd_kindOfWord : SK M_rd_kindOfWord q_rd_kindOfWord := sk_rd_kindOfWord
set_option maxRecDepth 100000 in
set_option maxHeartbeats 4000000 in
theorem bt_rd_kindOfWord_9 {d : Nat} {rr : Option Value} {h0 hF : List va_E} {length_ : Int32} {tokens_ : Int32} {hasRead_ : Int32} {fault_ : Int32} {place_ : Int32} {at_ : Int32} {kind_ : Int32} {allowedNames_ : Int32} {bytes_ : Nat → Int32} {l1 : Int32} {l2 : Int32} {l3 : Int32} {l4 : Int32} {l5 : Int32} {x : (Int32 × Int32 × Int32) ⊕ (Int32 ⊕ Unit)} (hr : fb_rd_kindOfWord_9 length_ bytes_ l1 l2 l3 l4 l5 = some x) (hx : Sum.elim (fun s : (Int32 × Int32 × Int32) => AJ (M_rd_kindOfWord, d + 5, rr, h0, hF) 9 [some (.ref 0), some (.int l1), some (.int l2), some (.int s.1), some (.int s.2.1), some (.int s.2.2)] [] (h_rd_kindOfWord length_ tokens_ hasRead_ fault_ place_ at_ kind_ allowedNames_ bytes_)) (Sum.elim (fun s : Int32 => AJ (M_rd_kindOfWord, d + 5, rr, h0, hF) 53 [none, none, none, some (.int s)] [] (h_rd_kindOfWord length_ tokens_ hasRead_ fault_ place_ at_ kind_ allowedNames_ bytes_)) (fun s : Unit => AJ (M_rd_kindOfWord, d + 5, rr, h0, hF) 70 [] [] (h_rd_kindOfWord length_ tokens_ hasRead_ fault_ place_ at_ kind_ allowedNames_ bytes_))) x) : AJ (M_rd_kindOfWord, d + 5, rr, h0, hF) 9 [some (.ref 0), some (.int l1), some (.int l2), some (.int l3), some (.int l4), some (.int l5)] [] (h_rd_kindOfWord length_ tokens_ hasRead_ fault_ place_ at_ kind_ allowedNames_ bytes_) := by
  unfold fb_rd_kindOfWord_9 at hr
  refine AJ.g sK_rd_kindOfWord 6 1 (True) 11 [some (.ref 0), some (.int l1), some (.int l2), some (.int l3), some (.int l4), some (.int l5)] [.int l5] (h_rd_kindOfWord length_ tokens_ hasRead_ fault_ place_ at_ kind_ allowedNames_ bytes_) rfl trivial ?_
  refine AJ.sLen (i := 0) (v := 68) (Or.inl ⟨rfl, rfl⟩) rfl rfl ds_rd_kindOfWord_11 (SK.at sK_rd_kindOfWord 7 rfl) rfl (Nat.le_of_ble_eq_true rfl) rfl ?_
  refine AJ.iF hr (SK.at sK_rd_kindOfWord 8 rfl) 70 19 rfl rfl rfl (fun hr => ?_) (fun hr => ?_)
  · refine k_grd hr (fun g1 hr => ?_)
    refine AJ.sChr (i := 0) (Or.inl ⟨rfl, rfl⟩) rfl rfl g1 ds_rd_kindOfWord_19 (SK.at sK_rd_kindOfWord 9 rfl) (SK.at sK_rd_kindOfWord 10 rfl) rfl (Nat.le_of_ble_eq_true rfl) rfl ?_
    refine AJ.g sK_rd_kindOfWord 11 1 (True) 28 [some (.ref 0), some (.int l1), some (.int l2), some (.int l3), some (.int l4), some (.int l5)] [.int 32, .int (chr0 (ix l5))] (h_rd_kindOfWord length_ tokens_ hasRead_ fault_ place_ at_ kind_ allowedNames_ bytes_) rfl trivial ?_
    refine AJ.iF hr (SK.at sK_rd_kindOfWord 12 rfl) 64 31 rfl rfl rfl (fun hr => ?_) (fun hr => ?_)
    · refine AJ.g sK_rd_kindOfWord 13 6 (True) 39 [some (.ref 0), some (.int l1), some (.int l2), some (.int l3), some (.int l4), some (.int l5)] [.int (l2 - l1), .int (l5 - l4)] (h_rd_kindOfWord length_ tokens_ hasRead_ fault_ place_ at_ kind_ allowedNames_ bytes_) rfl trivial ?_
      refine AJ.iF hr (SK.at sK_rd_kindOfWord 19 rfl) 55 42 rfl rfl rfl (fun hr => ?_) (fun hr => ?_)
      · refine AJ.g sK_rd_kindOfWord 20 4 (True) 47 [some (.ref 0), some (.int l1), some (.int l2), some (.int l3), some (.int l4), some (.int l5)] [.int l2, .int l1, .int l4, .ref 0] (h_rd_kindOfWord length_ tokens_ hasRead_ fault_ place_ at_ kind_ allowedNames_ bytes_) rfl trivial ?_
        refine k_b1 hr (fun r2 e3 hr => ?_)
        refine AJ.eV mk_rd_isWordAt (SK.at sK_rd_kindOfWord 24 rfl) lk_4_123 (c_rd_isWordAt (length_ := length_) (tokens_ := tokens_) (hasRead_ := hasRead_) (fault_ := fault_) (place_ := place_) (at_ := at_) (kind_ := kind_) (allowedNames_ := allowedNames_) (bytes_ := bytes_) e3) [0, 1] [2, 3, 4, 5] [] [] 50 [.int r2] (h_rd_kindOfWord length_ tokens_ hasRead_ fault_ place_ at_ kind_ allowedNames_ bytes_) rfl rfl rfl rfl rfl (by decide +kernel) rfl rfl rfl rfl rfl (Nat.le_of_ble_eq_true rfl) rfl rfl rfl ?_
        refine AJ.iT hr (SK.at sK_rd_kindOfWord 25 rfl) 55 53 rfl rfl rfl (fun hr => ?_) (fun hr => ?_)
        · refine AJ.g sK_rd_kindOfWord 28 5 (True) 64 [some (.ref 0), some (.int l1), some (.int l2), some (.int (l3 + 1)), some (.int (l5 + 1)), some (.int l5)] [] (h_rd_kindOfWord length_ tokens_ hasRead_ fault_ place_ at_ kind_ allowedNames_ bytes_) rfl trivial ?_
          refine AJ.g sK_rd_kindOfWord 33 2 (True) 9 [some (.ref 0), some (.int l1), some (.int l2), some (.int (l3 + 1)), some (.int (l5 + 1)), some (.int (l5 + 1))] [] (h_rd_kindOfWord length_ tokens_ hasRead_ fault_ place_ at_ kind_ allowedNames_ bytes_) rfl trivial ?_
          cases hr
          refine AJ.fg [true, true, true, true, true, true] [some (.ref 0), some (.int l1), some (.int l2), some (.int (l3 + 1)), some (.int (l5 + 1)), some (.int (l5 + 1))] rfl ?_
          exact hx
        · cases hr
          refine AJ.fg [false, false, false, true] [none, none, none, some (.int l3)] rfl ?_
          exact hx
      · refine AJ.g sK_rd_kindOfWord 28 5 (True) 64 [some (.ref 0), some (.int l1), some (.int l2), some (.int (l3 + 1)), some (.int (l5 + 1)), some (.int l5)] [] (h_rd_kindOfWord length_ tokens_ hasRead_ fault_ place_ at_ kind_ allowedNames_ bytes_) rfl trivial ?_
        refine AJ.g sK_rd_kindOfWord 33 2 (True) 9 [some (.ref 0), some (.int l1), some (.int l2), some (.int (l3 + 1)), some (.int (l5 + 1)), some (.int (l5 + 1))] [] (h_rd_kindOfWord length_ tokens_ hasRead_ fault_ place_ at_ kind_ allowedNames_ bytes_) rfl trivial ?_
        cases hr
        refine AJ.fg [true, true, true, true, true, true] [some (.ref 0), some (.int l1), some (.int l2), some (.int (l3 + 1)), some (.int (l5 + 1)), some (.int (l5 + 1))] rfl ?_
        exact hx
    · refine AJ.g sK_rd_kindOfWord 33 2 (True) 9 [some (.ref 0), some (.int l1), some (.int l2), some (.int l3), some (.int l4), some (.int (l5 + 1))] [] (h_rd_kindOfWord length_ tokens_ hasRead_ fault_ place_ at_ kind_ allowedNames_ bytes_) rfl trivial ?_
      cases hr
      refine AJ.fg [true, true, true, true, true, true] [some (.ref 0), some (.int l1), some (.int l2), some (.int l3), some (.int l4), some (.int (l5 + 1))] rfl ?_
      exact hx
  · cases hr
    refine AJ.fg [] [] rfl ?_
    exact hx
set_option maxRecDepth 100000 in
set_option maxHeartbeats 4000000 in
theorem c_rd_kindOfWord {d : Nat} {length_ : Int32} {tokens_ : Int32} {hasRead_ : Int32} {fault_ : Int32} {place_ : Int32} {at_ : Int32} {kind_ : Int32} {allowedNames_ : Int32} {bytes_ : Nat → Int32} {l1 : Int32} {l2 : Int32} {r0 : Int32} (hr : f_rd_kindOfWord length_ bytes_ l1 l2 = some r0) : Ctr (d + 5) M_rd_kindOfWord [.ref 0, .int l1, .int l2] (h_rd_kindOfWord length_ tokens_ hasRead_ fault_ place_ at_ kind_ allowedNames_ bytes_) (some (.int r0)) (h_rd_kindOfWord length_ tokens_ hasRead_ fault_ place_ at_ kind_ allowedNames_ bytes_) := by
  refine Ctr.start pn_rd [some (.ref 0), some (.int l1), some (.int l2)] (Nat.le_of_ble_eq_true rfl) rfl ?_
  unfold f_rd_kindOfWord at hr
  refine AJ.g sK_rd_kindOfWord 0 6 (True) 9 [some (.ref 0), some (.int l1), some (.int l2), some (.int 20), some (.int 0), some (.int 0)] [] (h_rd_kindOfWord length_ tokens_ hasRead_ fault_ place_ at_ kind_ allowedNames_ bytes_) rfl trivial ?_
  refine k_bs hr (fun z he hr => ?_) (fun z he hr => ?_)
  · obtain ⟨l3_4, rfl⟩ : ∃ w, w = z := ⟨_, rfl⟩
    refine AJ.fg [true, true, true, true, true, true] [some (.ref 0), some (.int l1), some (.int l2), some (.int 20), some (.int 0), some (.int 0)] rfl ?_
    refine itr_ok (un3 (fb_rd_kindOfWord_9 length_ bytes_ l1 l2)) (fun s : (Int32 × Int32 × Int32) => AJ _ 9 [some (.ref 0), some (.int l1), some (.int l2), some (.int s.1), some (.int s.2.1), some (.int s.2.2)] [] (h_rd_kindOfWord length_ tokens_ hasRead_ fault_ place_ at_ kind_ allowedNames_ bytes_)) (Sum.elim (fun s : Int32 => AJ _ 53 [none, none, none, some (.int s)] [] (h_rd_kindOfWord length_ tokens_ hasRead_ fault_ place_ at_ kind_ allowedNames_ bytes_)) (fun s : Unit => AJ _ 70 [] [] (h_rd_kindOfWord length_ tokens_ hasRead_ fault_ place_ at_ kind_ allowedNames_ bytes_))) (fun s x hb hx => bt_rd_kindOfWord_9 hb hx) KF (20, 0, 0) (.inl l3_4) he (show AJ _ 53 [none, none, none, some (.int l3_4)] [] (h_rd_kindOfWord length_ tokens_ hasRead_ fault_ place_ at_ kind_ allowedNames_ bytes_) from ?_)
    refine AJ.g sK_rd_kindOfWord 26 1 (True) 54 [none, none, none, some (.int l3_4)] [.int l3_4] (h_rd_kindOfWord length_ tokens_ hasRead_ fault_ place_ at_ kind_ allowedNames_ bytes_) rfl trivial ?_
    cases hr
    exact AJ.xi (SK.at sK_rd_kindOfWord 27 rfl) rfl
  · refine AJ.fg [true, true, true, true, true, true] [some (.ref 0), some (.int l1), some (.int l2), some (.int 20), some (.int 0), some (.int 0)] rfl ?_
    refine itr_ok (un3 (fb_rd_kindOfWord_9 length_ bytes_ l1 l2)) (fun s : (Int32 × Int32 × Int32) => AJ _ 9 [some (.ref 0), some (.int l1), some (.int l2), some (.int s.1), some (.int s.2.1), some (.int s.2.2)] [] (h_rd_kindOfWord length_ tokens_ hasRead_ fault_ place_ at_ kind_ allowedNames_ bytes_)) (Sum.elim (fun s : Int32 => AJ _ 53 [none, none, none, some (.int s)] [] (h_rd_kindOfWord length_ tokens_ hasRead_ fault_ place_ at_ kind_ allowedNames_ bytes_)) (fun s : Unit => AJ _ 70 [] [] (h_rd_kindOfWord length_ tokens_ hasRead_ fault_ place_ at_ kind_ allowedNames_ bytes_))) (fun s x hb hx => bt_rd_kindOfWord_9 hb hx) KF (20, 0, 0) (.inr (())) he (show AJ _ 70 [] [] (h_rd_kindOfWord length_ tokens_ hasRead_ fault_ place_ at_ kind_ allowedNames_ bytes_) from ?_)
    refine AJ.g sK_rd_kindOfWord 35 1 (True) 71 [] [.int 1] (h_rd_kindOfWord length_ tokens_ hasRead_ fault_ place_ at_ kind_ allowedNames_ bytes_) rfl trivial ?_
    cases hr
    exact AJ.xi (SK.at sK_rd_kindOfWord 36 rfl) rfl
theorem sK_rd_kindOfToken : SK M_rd_kindOfToken q_rd_kindOfToken := sk_rd_kindOfToken
set_option maxRecDepth 100000 in
set_option maxHeartbeats 4000000 in
theorem c_rd_kindOfToken {d : Nat} {length_ : Int32} {tokens_ : Int32} {hasRead_ : Int32} {fault_ : Int32} {place_ : Int32} {at_ : Int32} {kind_ : Int32} {allowedNames_ : Int32} {bytes_ : Nat → Int32} {l1 : Int32} {l2 : Int32} {r0 : Int32} (hr : f_rd_kindOfToken length_ bytes_ l1 l2 = some r0) : Ctr (d + 6) M_rd_kindOfToken [.ref 0, .int l1, .int l2] (h_rd_kindOfToken length_ tokens_ hasRead_ fault_ place_ at_ kind_ allowedNames_ bytes_) (some (.int r0)) (h_rd_kindOfToken length_ tokens_ hasRead_ fault_ place_ at_ kind_ allowedNames_ bytes_) := by
  refine Ctr.start pn_rd [some (.ref 0), some (.int l1), some (.int l2)] (Nat.le_of_ble_eq_true rfl) rfl ?_
  unfold f_rd_kindOfToken at hr
  refine AJ.g sK_rd_kindOfToken 0 2 (True) 2 [some (.ref 0), some (.int l1), some (.int l2)] [.int l1, .ref 0] (h_rd_kindOfToken length_ tokens_ hasRead_ fault_ place_ at_ kind_ allowedNames_ bytes_) rfl trivial ?_
  refine k_b1 hr (fun r1 e8 hr => ?_)
  refine AJ.eV mk_rd_byteAt (SK.at sK_rd_kindOfToken 2 rfl) lk_4_77 (c_rd_byteAt (length_ := length_) (tokens_ := tokens_) (hasRead_ := hasRead_) (fault_ := fault_) (place_ := place_) (at_ := at_) (kind_ := kind_) (allowedNames_ := allowedNames_) (bytes_ := bytes_) e8) [0, 1] [2, 3, 4, 5] [] [] 5 [.int r1] (h_rd_kindOfToken length_ tokens_ hasRead_ fault_ place_ at_ kind_ allowedNames_ bytes_) rfl rfl rfl rfl rfl (by decide +kernel) rfl rfl rfl rfl rfl (Nat.le_of_ble_eq_true rfl) rfl rfl rfl ?_
  refine AJ.g sK_rd_kindOfToken 3 2 (True) 7 [some (.ref 0), some (.int l1), some (.int l2), some (.int r1)] [.int r1] (h_rd_kindOfToken length_ tokens_ hasRead_ fault_ place_ at_ kind_ allowedNames_ bytes_) rfl trivial ?_
  refine k_b1 hr (fun r2 e7 hr => ?_)
  refine AJ.eS mk_rd_isLetter (SK.at sK_rd_kindOfToken 5 rfl) lk_4_102 (c_rd_isLetter  e7) [] [] [] [] 10 [.int r2] (h_rd_kindOfToken length_ tokens_ hasRead_ fault_ place_ at_ kind_ allowedNames_ bytes_) rfl rfl (by decide +kernel) rfl rfl rfl rfl rfl (Nat.le_of_ble_eq_true rfl) rfl rfl rfl ?_
  refine AJ.iT hr (SK.at sK_rd_kindOfToken 6 rfl) 20 13 rfl rfl rfl (fun hr => ?_) (fun hr => ?_)
  · refine AJ.g sK_rd_kindOfToken 12 1 (True) 21 [some (.ref 0), some (.int l1), some (.int l2), some (.int r1)] [.int r1] (h_rd_kindOfToken length_ tokens_ hasRead_ fault_ place_ at_ kind_ allowedNames_ bytes_) rfl trivial ?_
    refine k_b1 hr (fun r3 e4 hr => ?_)
    refine AJ.eS mk_rd_isDigit (SK.at sK_rd_kindOfToken 13 rfl) lk_4_92 (c_rd_isDigit  e4) [] [] [] [] 24 [.int r3] (h_rd_kindOfToken length_ tokens_ hasRead_ fault_ place_ at_ kind_ allowedNames_ bytes_) rfl rfl (by decide +kernel) rfl rfl rfl rfl rfl (Nat.le_of_ble_eq_true rfl) rfl rfl rfl ?_
    refine AJ.iT hr (SK.at sK_rd_kindOfToken 14 rfl) 29 27 rfl rfl rfl (fun hr => ?_) (fun hr => ?_)
    · refine AJ.g sK_rd_kindOfToken 17 4 (True) 33 [some (.ref 0), some (.int l1), some (.int l2), some (.int r1)] [.int 2, .int (l2 - l1)] (h_rd_kindOfToken length_ tokens_ hasRead_ fault_ place_ at_ kind_ allowedNames_ bytes_) rfl trivial ?_
      refine AJ.iF hr (SK.at sK_rd_kindOfToken 21 rfl) 50 36 rfl rfl rfl (fun hr => ?_) (fun hr => ?_)
      · refine AJ.g sK_rd_kindOfToken 22 2 (True) 39 [some (.ref 0), some (.int l1), some (.int l2), some (.int r1)] [.int 60, .int r1] (h_rd_kindOfToken length_ tokens_ hasRead_ fault_ place_ at_ kind_ allowedNames_ bytes_) rfl trivial ?_
        refine AJ.iF hr (SK.at sK_rd_kindOfToken 24 rfl) 47 42 rfl rfl rfl (fun hr => ?_) (fun hr => ?_)
        · refine AJ.g sK_rd_kindOfToken 25 2 (True) 49 [some (.ref 0), some (.int l1), some (.int l2), some (.int r1)] [.int 15] (h_rd_kindOfToken length_ tokens_ hasRead_ fault_ place_ at_ kind_ allowedNames_ bytes_) rfl trivial ?_
          cases hr
          exact AJ.xi (SK.at sK_rd_kindOfToken 28 rfl) rfl
        · refine AJ.g sK_rd_kindOfToken 27 1 (True) 49 [some (.ref 0), some (.int l1), some (.int l2), some (.int r1)] [.int 16] (h_rd_kindOfToken length_ tokens_ hasRead_ fault_ place_ at_ kind_ allowedNames_ bytes_) rfl trivial ?_
          cases hr
          exact AJ.xi (SK.at sK_rd_kindOfToken 28 rfl) rfl
      · refine AJ.sIdx (i := 1) (Or.inr ⟨rfl, rfl⟩) rfl rfl ds_rd_kindOfToken_50 (SK.at sK_rd_kindOfToken 29 rfl) (SK.at sK_rd_kindOfToken 30 rfl) (SK.at sK_rd_kindOfToken 31 rfl) rfl (Nat.le_of_ble_eq_true rfl) rfl ?_
        refine AJ.g sK_rd_kindOfToken 32 2 (True) 61 [some (.ref 0), some (.int l1), some (.int l2), some (.int r1), some (.int (ixc1 ((r1.toUInt32 % 65536).toInt32)))] [.int (ixc1 ((r1.toUInt32 % 65536).toInt32))] (h_rd_kindOfToken length_ tokens_ hasRead_ fault_ place_ at_ kind_ allowedNames_ bytes_) rfl trivial ?_
        refine AJ.iF hr (SK.at sK_rd_kindOfToken 34 rfl) 68 64 rfl rfl rfl (fun hr => ?_) (fun hr => ?_)
        · refine AJ.g sK_rd_kindOfToken 35 2 (True) 72 [some (.ref 0), some (.int l1), some (.int l2), some (.int r1), some (.int (ixc1 ((r1.toUInt32 % 65536).toInt32)))] [.int 1] (h_rd_kindOfToken length_ tokens_ hasRead_ fault_ place_ at_ kind_ allowedNames_ bytes_) rfl trivial ?_
          cases hr
          exact AJ.xi (SK.at sK_rd_kindOfToken 40 rfl) rfl
        · refine AJ.g sK_rd_kindOfToken 37 3 (True) 72 [some (.ref 0), some (.int l1), some (.int l2), some (.int r1), some (.int (ixc1 ((r1.toUInt32 % 65536).toInt32)))] [.int (3 + (ixc1 ((r1.toUInt32 % 65536).toInt32)))] (h_rd_kindOfToken length_ tokens_ hasRead_ fault_ place_ at_ kind_ allowedNames_ bytes_) rfl trivial ?_
          cases hr
          exact AJ.xi (SK.at sK_rd_kindOfToken 40 rfl) rfl
    · refine AJ.g sK_rd_kindOfToken 15 1 (True) 28 [some (.ref 0), some (.int l1), some (.int l2), some (.int r1)] [.int 2] (h_rd_kindOfToken length_ tokens_ hasRead_ fault_ place_ at_ kind_ allowedNames_ bytes_) rfl trivial ?_
      cases hr
      exact AJ.xi (SK.at sK_rd_kindOfToken 16 rfl) rfl
  · refine AJ.g sK_rd_kindOfToken 7 3 (True) 16 [some (.ref 0), some (.int l1), some (.int l2), some (.int r1)] [.int l2, .int l1, .ref 0] (h_rd_kindOfToken length_ tokens_ hasRead_ fault_ place_ at_ kind_ allowedNames_ bytes_) rfl trivial ?_
    refine k_b1 hr (fun r5 e6 hr => ?_)
    refine AJ.eV mk_rd_kindOfWord (SK.at sK_rd_kindOfToken 10 rfl) lk_4_105 (c_rd_kindOfWord (length_ := length_) (tokens_ := tokens_) (hasRead_ := hasRead_) (fault_ := fault_) (place_ := place_) (at_ := at_) (kind_ := kind_) (allowedNames_ := allowedNames_) (bytes_ := bytes_) e6) [0, 1] [2, 3, 4, 5] [] [] 19 [.int r5] (h_rd_kindOfToken length_ tokens_ hasRead_ fault_ place_ at_ kind_ allowedNames_ bytes_) rfl rfl rfl rfl rfl (by decide +kernel) rfl rfl rfl rfl rfl (Nat.le_of_ble_eq_true rfl) rfl rfl rfl ?_
    cases hr
    exact AJ.xi (SK.at sK_rd_kindOfToken 11 rfl) rfl
theorem sK_rd_numberOf : SK M_rd_numberOf q_rd_numberOf := sk_rd_numberOf
set_option maxRecDepth 100000 in
set_option maxHeartbeats 4000000 in
theorem bt_rd_numberOf_5 {d : Nat} {rr : Option Value} {h0 hF : List va_E} {length_ : Int32} {tokens_ : Int32} {hasRead_ : Int32} {fault_ : Int32} {place_ : Int32} {at_ : Int32} {kind_ : Int32} {allowedNames_ : Int32} {bytes_ : Nat → Int32} {l2 : Int32} {l3 : Int32} {l4 : Int32} {x : (Int32 × Int32) ⊕ Int32} (hr : fb_rd_numberOf_5 length_ bytes_ l2 l3 l4 = some x) (hx : Sum.elim (fun s : (Int32 × Int32) => AJ (M_rd_numberOf, d + 2, rr, h0, hF) 5 [some (.ref 0), none, some (.int l2), some (.int s.1), some (.int s.2)] [] (h_rd_numberOf length_ tokens_ hasRead_ fault_ place_ at_ kind_ allowedNames_ bytes_)) (fun s : Int32 => AJ (M_rd_numberOf, d + 2, rr, h0, hF) 38 [none, none, none, some (.int s)] [] (h_rd_numberOf length_ tokens_ hasRead_ fault_ place_ at_ kind_ allowedNames_ bytes_)) x) : AJ (M_rd_numberOf, d + 2, rr, h0, hF) 5 [some (.ref 0), none, some (.int l2), some (.int l3), some (.int l4)] [] (h_rd_numberOf length_ tokens_ hasRead_ fault_ place_ at_ kind_ allowedNames_ bytes_) := by
  unfold fb_rd_numberOf_5 at hr
  refine AJ.g sK_rd_numberOf 4 2 (True) 8 [some (.ref 0), none, some (.int l2), some (.int l3), some (.int l4)] [.int l2, .int l4] (h_rd_numberOf length_ tokens_ hasRead_ fault_ place_ at_ kind_ allowedNames_ bytes_) rfl trivial ?_
  refine AJ.iF hr (SK.at sK_rd_numberOf 6 rfl) 38 11 rfl rfl rfl (fun hr => ?_) (fun hr => ?_)
  · refine AJ.g sK_rd_numberOf 7 5 (True) 18 [some (.ref 0), none, some (.int l2), some (.int l3), some (.int l4)] [.int l4, .ref 0, .int (l3 * 10)] (h_rd_numberOf length_ tokens_ hasRead_ fault_ place_ at_ kind_ allowedNames_ bytes_) rfl trivial ?_
    refine k_b1 hr (fun r1 e4 hr => ?_)
    refine AJ.eV mk_rd_byteAt (SK.at sK_rd_numberOf 12 rfl) lk_4_77 (c_rd_byteAt (length_ := length_) (tokens_ := tokens_) (hasRead_ := hasRead_) (fault_ := fault_) (place_ := place_) (at_ := at_) (kind_ := kind_) (allowedNames_ := allowedNames_) (bytes_ := bytes_) e4) [0, 1] [2, 3, 4, 5] [] [.int (l3 * 10)] 21 [.int r1, .int (l3 * 10)] (h_rd_numberOf length_ tokens_ hasRead_ fault_ place_ at_ kind_ allowedNames_ bytes_) rfl rfl rfl rfl rfl (by decide +kernel) rfl rfl rfl rfl rfl (Nat.le_of_ble_eq_true rfl) rfl rfl rfl ?_
    refine AJ.g sK_rd_numberOf 13 4 (True) 28 [some (.ref 0), none, some (.int l2), some (.int l3), some (.int l4)] [.int 10000, .int (((l3 * 10) + r1) - 48)] (h_rd_numberOf length_ tokens_ hasRead_ fault_ place_ at_ kind_ allowedNames_ bytes_) rfl trivial ?_
    refine k_b1 hr (fun r2 e3 hr => ?_)
    refine AJ.eS mk_math_min_II (SK.at sK_rd_numberOf 17 rfl) lk_4_127 (c_math_min_II  e3) [] [] [] [] 31 [.int r2] (h_rd_numberOf length_ tokens_ hasRead_ fault_ place_ at_ kind_ allowedNames_ bytes_) rfl rfl (by decide +kernel) rfl rfl rfl rfl rfl (Nat.le_of_ble_eq_true rfl) rfl rfl rfl ?_
    refine AJ.g sK_rd_numberOf 18 3 (True) 5 [some (.ref 0), none, some (.int l2), some (.int r2), some (.int (l4 + 1))] [] (h_rd_numberOf length_ tokens_ hasRead_ fault_ place_ at_ kind_ allowedNames_ bytes_) rfl trivial ?_
    cases hr
    refine AJ.fg [true, false, true, true, true] [some (.ref 0), none, some (.int l2), some (.int r2), some (.int (l4 + 1))] rfl ?_
    exact hx
  · cases hr
    refine AJ.fg [false, false, false, true] [none, none, none, some (.int l3)] rfl ?_
    exact hx
set_option maxRecDepth 100000 in
set_option maxHeartbeats 4000000 in
theorem c_rd_numberOf {d : Nat} {length_ : Int32} {tokens_ : Int32} {hasRead_ : Int32} {fault_ : Int32} {place_ : Int32} {at_ : Int32} {kind_ : Int32} {allowedNames_ : Int32} {bytes_ : Nat → Int32} {l1 : Int32} {l2 : Int32} {r0 : Int32} (hr : f_rd_numberOf length_ bytes_ l1 l2 = some r0) : Ctr (d + 2) M_rd_numberOf [.ref 0, .int l1, .int l2] (h_rd_numberOf length_ tokens_ hasRead_ fault_ place_ at_ kind_ allowedNames_ bytes_) (some (.int r0)) (h_rd_numberOf length_ tokens_ hasRead_ fault_ place_ at_ kind_ allowedNames_ bytes_) := by
  refine Ctr.start pn_rd [some (.ref 0), some (.int l1), some (.int l2)] (Nat.le_of_ble_eq_true rfl) rfl ?_
  unfold f_rd_numberOf at hr
  refine AJ.g sK_rd_numberOf 0 4 (True) 5 [some (.ref 0), some (.int l1), some (.int l2), some (.int 0), some (.int l1)] [] (h_rd_numberOf length_ tokens_ hasRead_ fault_ place_ at_ kind_ allowedNames_ bytes_) rfl trivial ?_
  refine k_b1 hr (fun l3_5 he hr => ?_)
  refine AJ.fg [true, false, true, true, true] [some (.ref 0), none, some (.int l2), some (.int 0), some (.int l1)] rfl ?_
  refine itr_ok (un2 (fb_rd_numberOf_5 length_ bytes_ l2)) (fun s : (Int32 × Int32) => AJ _ 5 [some (.ref 0), none, some (.int l2), some (.int s.1), some (.int s.2)] [] (h_rd_numberOf length_ tokens_ hasRead_ fault_ place_ at_ kind_ allowedNames_ bytes_)) (fun s : Int32 => AJ _ 38 [none, none, none, some (.int s)] [] (h_rd_numberOf length_ tokens_ hasRead_ fault_ place_ at_ kind_ allowedNames_ bytes_)) (fun s x hb hx => bt_rd_numberOf_5 hb hx) KF (0, l1) l3_5 he (show AJ _ 38 [none, none, none, some (.int l3_5)] [] (h_rd_numberOf length_ tokens_ hasRead_ fault_ place_ at_ kind_ allowedNames_ bytes_) from ?_)
  refine AJ.g sK_rd_numberOf 21 1 (True) 39 [none, none, none, some (.int l3_5)] [.int l3_5] (h_rd_numberOf length_ tokens_ hasRead_ fault_ place_ at_ kind_ allowedNames_ bytes_) rfl trivial ?_
  cases hr
  exact AJ.xi (SK.at sK_rd_numberOf 22 rfl) rfl
