theorem sK_go_doNow : SK M_go_doNow q_go_doNow := sk_go_doNow
set_option maxRecDepth 100000 in
set_option maxHeartbeats 4000000 in
theorem jt_go_doNow_102 {d : Nat} {world_people_ : Int32} {world_gates_ : Int32} {world_hour_ : Int32} {world_texts_ : Int32} {world_ruling_ : Int32} {world_x_ : Int32} {laws_ru : Nat} {sums_values_ : Nat → Int32} {lawsL_codeLength_ : Int32} {lawsL_size_ : Int32} {lawsL_take_ : Int32} {lawsL_fee_ : Int32} {sums_stack_ : Nat → Int32} {world_paid_ : Nat → Int32} {world_done_ : Nat → Int32} {world_lot_ : Nat → Int32} {world_born_ : Nat → Int32} {world_town_names_ : Nat → Int32} {world_town_sizes_ : Nat → Int32} {lawsL_kinds_ : Nat → Int32} {lawsL_to_ : Nat → Int32} {lawsL_from_ : Nat → Int32} {lawsL_code_ : Nat → Int32} {world_town_heaps_ : Nat → Nat → Int32} {l1 : Int32} {l2 : Int32} {s0 : Int32} {h0 : List va_E} {r0 : Int32} {world_x_Z : Int32} {sums_values_Z : Nat → Int32} {sums_stack_Z : Nat → Int32} {world_paid_Z : Nat → Int32} {world_done_Z : Nat → Int32} {world_town_names_Z : Nat → Int32} {world_town_sizes_Z : Nat → Int32} {world_town_heaps_Z : Nat → Nat → Int32} (hru : laws_ru = 0 ∨ laws_ru = 1 ∨ laws_ru = 2 ∨ laws_ru = 3) (hr : fj_go_doNow_102 world_x_ sums_values_ sums_stack_ world_paid_ world_done_ world_town_names_ world_town_sizes_ world_town_heaps_ l1 l2 s0 = some (r0, world_x_Z, sums_values_Z, sums_stack_Z, world_paid_Z, world_done_Z, world_town_names_Z, world_town_sizes_Z, world_town_heaps_Z)) : AJ (M_go_doNow, d + 5, (some (.int r0)), h0, (h_go_doNow world_people_ world_gates_ world_hour_ world_texts_ world_ruling_ world_x_Z laws_ru sums_values_Z lawsL_codeLength_ lawsL_size_ lawsL_take_ lawsL_fee_ sums_stack_Z world_paid_Z world_done_Z world_lot_ world_born_ world_town_names_Z world_town_sizes_Z lawsL_kinds_ lawsL_to_ lawsL_from_ lawsL_code_ world_town_heaps_Z)) 102 [none, some (.int l1), some (.int l2), some (.ref 4)] [.int s0] (h_go_doNow world_people_ world_gates_ world_hour_ world_texts_ world_ruling_ world_x_ laws_ru sums_values_ lawsL_codeLength_ lawsL_size_ lawsL_take_ lawsL_fee_ sums_stack_ world_paid_ world_done_ world_lot_ world_born_ world_town_names_ world_town_sizes_ lawsL_kinds_ lawsL_to_ lawsL_from_ lawsL_code_ world_town_heaps_) := by
  unfold fj_go_doNow_102 at hr
  refine AJ.g sK_go_doNow 62 5 (True) 109 [none, some (.int l1), some (.int l2), some (.ref 4), some (.int s0)] [.int s0, .int l2, .int l1, .ref 4] (h_go_doNow world_people_ world_gates_ world_hour_ world_texts_ world_ruling_ world_x_ laws_ru sums_values_ lawsL_codeLength_ lawsL_size_ lawsL_take_ lawsL_fee_ sums_stack_ world_paid_ world_done_ world_lot_ world_born_ world_town_names_ world_town_sizes_ lawsL_kinds_ lawsL_to_ lawsL_from_ lawsL_code_ world_town_heaps_) rfl trivial ?_
  refine k_b4 hr (fun r18 world_town_sizes_19 world_town_heaps_20 world_town_names_21 e22 hr => ?_)
  refine AJ.eV mk_town_enter (SK.at sK_go_doNow 67 rfl) lk_1_133 (c_town_enter (sizes_ := world_town_sizes_) (heaps_ := world_town_heaps_) (names_ := world_town_names_) e22) [4, 13, 18, 19, 20, 21, 12] [] [1, 3, 4, 5, 6] [] 112 [.int r18] (h_go_doNow world_people_ world_gates_ world_hour_ world_texts_ world_ruling_ world_x_ laws_ru sums_values_ lawsL_codeLength_ lawsL_size_ lawsL_take_ lawsL_fee_ sums_stack_ world_paid_ world_done_ world_lot_ world_born_ world_town_names_21 world_town_sizes_19 lawsL_kinds_ lawsL_to_ lawsL_from_ lawsL_code_ world_town_heaps_20) rfl rfl rfl rfl rfl (by decide +kernel) rfl rfl rfl rfl rfl (Nat.le_of_ble_eq_true rfl) rfl rfl rfl ?_
  cases hr
  exact AJ.xi (SK.at sK_go_doNow 68 rfl) rfl
set_option maxRecDepth 100000 in
set_option maxHeartbeats 4000000 in
theorem c_go_doNow {d : Nat} {world_people_ : Int32} {world_gates_ : Int32} {world_hour_ : Int32} {world_texts_ : Int32} {world_ruling_ : Int32} {world_x_ : Int32} {laws_ru : Nat} {sums_values_ : Nat → Int32} {lawsL_codeLength_ : Int32} {lawsL_size_ : Int32} {lawsL_take_ : Int32} {lawsL_fee_ : Int32} {sums_stack_ : Nat → Int32} {world_paid_ : Nat → Int32} {world_done_ : Nat → Int32} {world_lot_ : Nat → Int32} {world_born_ : Nat → Int32} {world_town_names_ : Nat → Int32} {world_town_sizes_ : Nat → Int32} {lawsL_kinds_ : Nat → Int32} {lawsL_to_ : Nat → Int32} {lawsL_from_ : Nat → Int32} {lawsL_code_ : Nat → Int32} {world_town_heaps_ : Nat → Nat → Int32} {l1 : Int32} {l2 : Int32} {r0 : Int32} {world_x_Z : Int32} {sums_values_Z : Nat → Int32} {sums_stack_Z : Nat → Int32} {world_paid_Z : Nat → Int32} {world_done_Z : Nat → Int32} {world_town_names_Z : Nat → Int32} {world_town_sizes_Z : Nat → Int32} {world_town_heaps_Z : Nat → Nat → Int32} (hru : laws_ru = 0 ∨ laws_ru = 1 ∨ laws_ru = 2 ∨ laws_ru = 3) (hr : f_go_doNow world_people_ world_gates_ world_hour_ world_ruling_ world_x_ laws_ru sums_values_ lawsL_codeLength_ lawsL_size_ lawsL_take_ lawsL_fee_ sums_stack_ world_paid_ world_done_ world_lot_ world_born_ world_town_names_ world_town_sizes_ lawsL_kinds_ lawsL_to_ lawsL_from_ lawsL_code_ world_town_heaps_ l1 l2 = some (r0, world_x_Z, sums_values_Z, sums_stack_Z, world_paid_Z, world_done_Z, world_town_names_Z, world_town_sizes_Z, world_town_heaps_Z)) : Ctr (d + 5) M_go_doNow [.ref 0, .int l1, .int l2] (h_go_doNow world_people_ world_gates_ world_hour_ world_texts_ world_ruling_ world_x_ laws_ru sums_values_ lawsL_codeLength_ lawsL_size_ lawsL_take_ lawsL_fee_ sums_stack_ world_paid_ world_done_ world_lot_ world_born_ world_town_names_ world_town_sizes_ lawsL_kinds_ lawsL_to_ lawsL_from_ lawsL_code_ world_town_heaps_) (some (.int r0)) (h_go_doNow world_people_ world_gates_ world_hour_ world_texts_ world_ruling_ world_x_Z laws_ru sums_values_Z lawsL_codeLength_ lawsL_size_ lawsL_take_ lawsL_fee_ sums_stack_Z world_paid_Z world_done_Z world_lot_ world_born_ world_town_names_Z world_town_sizes_Z lawsL_kinds_ lawsL_to_ lawsL_from_ lawsL_code_ world_town_heaps_Z) := by
  refine Ctr.start pn_go [some (.ref 0), some (.int l1), some (.int l2)] (Nat.le_of_ble_eq_true rfl) rfl ?_
  unfold f_go_doNow at hr
  refine AJ.g sK_go_doNow 0 8 (True) 12 [some (.ref 0), some (.int l1), some (.int l2), some (.ref 4)] [.int l2, .int l1, .ref 4, .ref 0] (h_go_doNow world_people_ world_gates_ world_hour_ world_texts_ world_ruling_ world_x_ laws_ru sums_values_ lawsL_codeLength_ lawsL_size_ lawsL_take_ lawsL_fee_ sums_stack_ world_paid_ world_done_ world_lot_ world_born_ world_town_names_ world_town_sizes_ lawsL_kinds_ lawsL_to_ lawsL_from_ lawsL_code_ world_town_heaps_) rfl trivial ?_
  refine k_b3 hr (fun r1 sums_values_2 sums_stack_3 e36 hr => ?_)
  refine AJ.eV mk_go_canBe (SK.at sK_go_doNow 8 rfl) lk_1_108 (c_go_canBe (world_people_ := world_people_) (world_gates_ := world_gates_) (world_hour_ := world_hour_) (world_texts_ := world_texts_) (world_ruling_ := world_ruling_) (world_x_ := world_x_) (laws_ru := laws_ru) (sums_values_ := sums_values_) (lawsL_codeLength_ := lawsL_codeLength_) (lawsL_size_ := lawsL_size_) (lawsL_take_ := lawsL_take_) (lawsL_fee_ := lawsL_fee_) (sums_stack_ := sums_stack_) (lawsL_kinds_ := lawsL_kinds_) (lawsL_to_ := lawsL_to_) (lawsL_from_ := lawsL_from_) (lawsL_code_ := lawsL_code_) (p1_names_ := world_town_names_) (p1_sizes_ := world_town_sizes_) hru e36) [0, 1, 2, 3, 5, 6, 7, 14, 15, 16, 17, 4, 12, 13] [22, 11, 10, 8, 9, 4, 23, 24, 25, 26, 27, 28, 29, 18] [4, 6] [] 15 [.int r1] (h_go_doNow world_people_ world_gates_ world_hour_ world_texts_ world_ruling_ world_x_ laws_ru sums_values_2 lawsL_codeLength_ lawsL_size_ lawsL_take_ lawsL_fee_ sums_stack_3 world_paid_ world_done_ world_lot_ world_born_ world_town_names_ world_town_sizes_ lawsL_kinds_ lawsL_to_ lawsL_from_ lawsL_code_ world_town_heaps_) rfl rfl rfl rfl rfl (by decide +kernel) (by rcases hru with rfl | rfl | rfl | rfl <;> rfl) rfl rfl rfl rfl (Nat.le_of_ble_eq_true rfl) rfl rfl rfl ?_
  refine AJ.iF hr (SK.at sK_go_doNow 9 rfl) 20 18 rfl rfl rfl (fun hr => ?_) (fun hr => ?_)
  · refine AJ.g sK_go_doNow 10 1 (True) 19 [some (.ref 0), some (.int l1), some (.int l2), some (.ref 4)] [.int (-1)] (h_go_doNow world_people_ world_gates_ world_hour_ world_texts_ world_ruling_ world_x_ laws_ru sums_values_2 lawsL_codeLength_ lawsL_size_ lawsL_take_ lawsL_fee_ sums_stack_3 world_paid_ world_done_ world_lot_ world_born_ world_town_names_ world_town_sizes_ lawsL_kinds_ lawsL_to_ lawsL_from_ lawsL_code_ world_town_heaps_) rfl trivial ?_
    cases hr
    exact AJ.xi (SK.at sK_go_doNow 11 rfl) rfl
  · refine k_grd hr (fun g4 hr => ?_)
    refine AJ.g sK_go_doNow 12 10 (inb l1 8 ∧ True) 34 [some (.ref 0), some (.int l1), some (.int l2), some (.ref 4)] [.int l2, .int l1, .ref 4, .ref 0, .int (world_paid_ (ix l1)), .int l1, .ref 8] (h_go_doNow world_people_ world_gates_ world_hour_ world_texts_ world_ruling_ world_x_ laws_ru sums_values_2 lawsL_codeLength_ lawsL_size_ lawsL_take_ lawsL_fee_ sums_stack_3 world_paid_ world_done_ world_lot_ world_born_ world_town_names_ world_town_sizes_ lawsL_kinds_ lawsL_to_ lawsL_from_ lawsL_code_ world_town_heaps_) rfl ⟨g4, trivial⟩ ?_
    refine k_b3 hr (fun r5 sums_values_6 sums_stack_7 e35 hr => ?_)
    refine AJ.eV mk_go_feeOf (SK.at sK_go_doNow 22 rfl) lk_1_114 (c_go_feeOf (world_people_ := world_people_) (world_gates_ := world_gates_) (world_hour_ := world_hour_) (world_texts_ := world_texts_) (world_ruling_ := world_ruling_) (world_x_ := world_x_) (laws_ru := laws_ru) (lawsL_codeLength_ := lawsL_codeLength_) (lawsL_size_ := lawsL_size_) (lawsL_take_ := lawsL_take_) (lawsL_fee_ := lawsL_fee_) (sums_values_ := sums_values_2) (sums_stack_ := sums_stack_3) (lawsL_to_ := lawsL_to_) (lawsL_from_ := lawsL_from_) (lawsL_code_ := lawsL_code_) (p1_names_ := world_town_names_) (p1_sizes_ := world_town_sizes_) hru e35) [0, 1, 2, 3, 6, 5, 7, 15, 16, 17, 4, 12, 13] [22, 11, 10, 8, 9, 4, 23, 24, 25, 26, 27, 28, 29, 14, 18] [5, 6] [.int (world_paid_ (ix l1)), .int l1, .ref 8] 37 [.int r5, .int (world_paid_ (ix l1)), .int l1, .ref 8] (h_go_doNow world_people_ world_gates_ world_hour_ world_texts_ world_ruling_ world_x_ laws_ru sums_values_6 lawsL_codeLength_ lawsL_size_ lawsL_take_ lawsL_fee_ sums_stack_7 world_paid_ world_done_ world_lot_ world_born_ world_town_names_ world_town_sizes_ lawsL_kinds_ lawsL_to_ lawsL_from_ lawsL_code_ world_town_heaps_) rfl rfl rfl rfl rfl (by decide +kernel) (by rcases hru with rfl | rfl | rfl | rfl <;> rfl) rfl rfl rfl rfl (Nat.le_of_ble_eq_true rfl) rfl rfl rfl ?_
    refine k_grd hr (fun g8 hr => ?_)
    refine AJ.g sK_go_doNow 23 2 (inb l1 8 ∧ True) 39 [some (.ref 0), some (.int l1), some (.int l2), some (.ref 4)] [] (h_go_doNow world_people_ world_gates_ world_hour_ world_texts_ world_ruling_ world_x_ laws_ru sums_values_6 lawsL_codeLength_ lawsL_size_ lawsL_take_ lawsL_fee_ sums_stack_7 (upd world_paid_ (ix l1) ((world_paid_ (ix l1)) + r5)) world_done_ world_lot_ world_born_ world_town_names_ world_town_sizes_ lawsL_kinds_ lawsL_to_ lawsL_from_ lawsL_code_ world_town_heaps_) rfl ⟨g8, trivial⟩ ?_
    replace hr := k_bnd hr
    generalize (upd world_paid_ (ix l1) ((world_paid_ (ix l1)) + r5) : Nat → Int32) = world_paid_9 at hr ⊢
    refine k_grd hr (fun g10 hr => ?_)
    refine k_grd hr (fun g11 hr => ?_)
    refine AJ.g sK_go_doNow 25 9 (inb l1 8 ∧ inb l1 8 ∧ True) 52 [some (.ref 0), some (.int l1), some (.int l2), some (.ref 4)] [] (h_go_doNow world_people_ world_gates_ world_hour_ world_texts_ world_ruling_ world_x_ laws_ru sums_values_6 lawsL_codeLength_ lawsL_size_ lawsL_take_ lawsL_fee_ sums_stack_7 world_paid_9 (upd world_done_ (ix l1) ((world_done_ (ix l1)) + 1)) world_lot_ world_born_ world_town_names_ world_town_sizes_ lawsL_kinds_ lawsL_to_ lawsL_from_ lawsL_code_ world_town_heaps_) rfl ⟨g10, g11, trivial⟩ ?_
    replace hr := k_bnd hr
    generalize (upd world_done_ (ix l1) ((world_done_ (ix l1)) + 1) : Nat → Int32) = world_done_12 at hr ⊢
    refine AJ.g sK_go_doNow 34 2 (True) 54 [some (.ref 0), some (.int l1), some (.int l2), some (.ref 4)] [.int l1, .ref 4] (h_go_doNow world_people_ world_gates_ world_hour_ world_texts_ world_ruling_ world_x_ laws_ru sums_values_6 lawsL_codeLength_ lawsL_size_ lawsL_take_ lawsL_fee_ sums_stack_7 world_paid_9 world_done_12 world_lot_ world_born_ world_town_names_ world_town_sizes_ lawsL_kinds_ lawsL_to_ lawsL_from_ lawsL_code_ world_town_heaps_) rfl trivial ?_
    refine k_b1 hr (fun r13 e34 hr => ?_)
    refine AJ.eV mk_town_nameOf (SK.at sK_go_doNow 36 rfl) lk_1_46 (c_town_nameOf (names_ := world_town_names_) e34) [4, 12] [13, 18] [] [] 57 [.int r13] (h_go_doNow world_people_ world_gates_ world_hour_ world_texts_ world_ruling_ world_x_ laws_ru sums_values_6 lawsL_codeLength_ lawsL_size_ lawsL_take_ lawsL_fee_ sums_stack_7 world_paid_9 world_done_12 world_lot_ world_born_ world_town_names_ world_town_sizes_ lawsL_kinds_ lawsL_to_ lawsL_from_ lawsL_code_ world_town_heaps_) rfl rfl rfl rfl rfl (by decide +kernel) rfl rfl rfl rfl rfl (Nat.le_of_ble_eq_true rfl) rfl rfl rfl ?_
    refine AJ.g sK_go_doNow 37 1 (True) 58 [some (.ref 0), some (.int l1), some (.int l2), some (.ref 4)] [.int (-1), .int r13] (h_go_doNow world_people_ world_gates_ world_hour_ world_texts_ world_ruling_ world_x_ laws_ru sums_values_6 lawsL_codeLength_ lawsL_size_ lawsL_take_ lawsL_fee_ sums_stack_7 world_paid_9 world_done_12 world_lot_ world_born_ world_town_names_ world_town_sizes_ lawsL_kinds_ lawsL_to_ lawsL_from_ lawsL_code_ world_town_heaps_) rfl trivial ?_
    refine AJ.iT hr (SK.at sK_go_doNow 38 rfl) 68 61 rfl rfl rfl (fun hr => ?_) (fun hr => ?_)
    · refine k_grd hr (fun g14 hr => ?_)
      refine AJ.g sK_go_doNow 44 5 (inb l2 3 ∧ True) 77 [some (.ref 0), some (.int l1), some (.int l2), some (.ref 4)] [.int (world_lot_ (ix l2))] (h_go_doNow world_people_ world_gates_ world_hour_ world_texts_ world_ruling_ world_x_ laws_ru sums_values_6 lawsL_codeLength_ lawsL_size_ lawsL_take_ lawsL_fee_ sums_stack_7 world_paid_9 world_done_12 world_lot_ world_born_ world_town_names_ world_town_sizes_ lawsL_kinds_ lawsL_to_ lawsL_from_ lawsL_code_ world_town_heaps_) rfl ⟨g14, trivial⟩ ?_
      refine AJ.iT hr (SK.at sK_go_doNow 49 rfl) 95 80 rfl rfl rfl (fun hr => ?_) (fun hr => ?_)
      · refine AJ.g sK_go_doNow 57 4 (True) 99 [some (.ref 0), some (.int l1), some (.int l2), some (.ref 4)] [.int l2, .int l1, .ref 4, .ref 0] (h_go_doNow world_people_ world_gates_ world_hour_ world_texts_ world_ruling_ world_x_ laws_ru sums_values_6 lawsL_codeLength_ lawsL_size_ lawsL_take_ lawsL_fee_ sums_stack_7 world_paid_9 world_done_12 world_lot_ world_born_ world_town_names_ world_town_sizes_ lawsL_kinds_ lawsL_to_ lawsL_from_ lawsL_code_ world_town_heaps_) rfl trivial ?_
        refine k_b3 hr (fun r15 sums_values_16 sums_stack_17 e23 hr => ?_)
        refine AJ.eV mk_go_placeFor (SK.at sK_go_doNow 61 rfl) lk_1_130 (c_go_placeFor (world_people_ := world_people_) (world_gates_ := world_gates_) (world_hour_ := world_hour_) (world_texts_ := world_texts_) (world_ruling_ := world_ruling_) (world_x_ := world_x_) (laws_ru := laws_ru) (lawsL_codeLength_ := lawsL_codeLength_) (lawsL_size_ := lawsL_size_) (lawsL_take_ := lawsL_take_) (lawsL_fee_ := lawsL_fee_) (sums_values_ := sums_values_6) (sums_stack_ := sums_stack_7) (world_born_ := world_born_) (lawsL_to_ := lawsL_to_) (lawsL_from_ := lawsL_from_) (lawsL_code_ := lawsL_code_) (p1_sizes_ := world_town_sizes_) (p1_names_ := world_town_names_) (p1_heaps_ := world_town_heaps_) hru e23) [0, 1, 2, 3, 6, 5, 7, 11, 15, 16, 17, 4, 13, 12, 18, 19, 20, 21] [22, 10, 8, 9, 4, 23, 24, 25, 26, 27, 28, 29, 14] [5, 6] [] 102 [.int r15] (h_go_doNow world_people_ world_gates_ world_hour_ world_texts_ world_ruling_ world_x_ laws_ru sums_values_16 lawsL_codeLength_ lawsL_size_ lawsL_take_ lawsL_fee_ sums_stack_17 world_paid_9 world_done_12 world_lot_ world_born_ world_town_names_ world_town_sizes_ lawsL_kinds_ lawsL_to_ lawsL_from_ lawsL_code_ world_town_heaps_) rfl rfl rfl rfl rfl (by decide +kernel) (by rcases hru with rfl | rfl | rfl | rfl <;> rfl) rfl rfl rfl rfl (Nat.le_of_ble_eq_true rfl) rfl rfl rfl ?_
        refine AJ.fg [false, true, true, true] [none, some (.int l1), some (.int l2), some (.ref 4)] rfl ?_
        exact jt_go_doNow_102 hru hr
      · refine AJ.g sK_go_doNow 50 4 (True) 86 [some (.ref 0), some (.int l1), some (.int l2), some (.ref 4)] [.int l2, .ref 4, .ref 1] (h_go_doNow world_people_ world_gates_ world_hour_ world_texts_ world_ruling_ world_x_ laws_ru sums_values_6 lawsL_codeLength_ lawsL_size_ lawsL_take_ lawsL_fee_ sums_stack_7 world_paid_9 world_done_12 world_lot_ world_born_ world_town_names_ world_town_sizes_ lawsL_kinds_ lawsL_to_ lawsL_from_ lawsL_code_ world_town_heaps_) rfl trivial ?_
        refine k_b1 hr (fun r24 e28 hr => ?_)
        refine AJ.eV mk_town_sizeOf (SK.at sK_go_doNow 54 rfl) lk_1_50 (c_town_sizeOf (sizes_ := world_town_sizes_) e28) [4, 13] [12, 18] [] [.ref 1] 89 [.int r24, .ref 1] (h_go_doNow world_people_ world_gates_ world_hour_ world_texts_ world_ruling_ world_x_ laws_ru sums_values_6 lawsL_codeLength_ lawsL_size_ lawsL_take_ lawsL_fee_ sums_stack_7 world_paid_9 world_done_12 world_lot_ world_born_ world_town_names_ world_town_sizes_ lawsL_kinds_ lawsL_to_ lawsL_from_ lawsL_code_ world_town_heaps_) rfl rfl rfl rfl rfl (by decide +kernel) rfl rfl rfl rfl rfl (Nat.le_of_ble_eq_true rfl) rfl rfl rfl ?_
        refine k_b2 hr (fun r25 world_x_26 e27 hr => ?_)
        refine AJ.eV mk_world_draw (SK.at sK_go_doNow 55 rfl) lk_1_127 (c_world_draw (people_ := world_people_) (gates_ := world_gates_) (hour_ := world_hour_) (texts_ := world_texts_) (ruling_ := world_ruling_) (x_ := world_x_) e27) [1] [11, 10, 8, 9, 4, 23, 24, 25] [0] [] 92 [.int r25] (h_go_doNow world_people_ world_gates_ world_hour_ world_texts_ world_ruling_ world_x_26 laws_ru sums_values_6 lawsL_codeLength_ lawsL_size_ lawsL_take_ lawsL_fee_ sums_stack_7 world_paid_9 world_done_12 world_lot_ world_born_ world_town_names_ world_town_sizes_ lawsL_kinds_ lawsL_to_ lawsL_from_ lawsL_code_ world_town_heaps_) rfl rfl rfl rfl rfl (by decide +kernel) rfl rfl rfl rfl rfl (Nat.le_of_ble_eq_true rfl) rfl rfl rfl ?_
        refine AJ.g sK_go_doNow 56 1 (True) 102 [some (.ref 0), some (.int l1), some (.int l2), some (.ref 4)] [.int r25] (h_go_doNow world_people_ world_gates_ world_hour_ world_texts_ world_ruling_ world_x_26 laws_ru sums_values_6 lawsL_codeLength_ lawsL_size_ lawsL_take_ lawsL_fee_ sums_stack_7 world_paid_9 world_done_12 world_lot_ world_born_ world_town_names_ world_town_sizes_ lawsL_kinds_ lawsL_to_ lawsL_from_ lawsL_code_ world_town_heaps_) rfl trivial ?_
        refine AJ.fg [false, true, true, true] [none, some (.int l1), some (.int l2), some (.ref 4)] rfl ?_
        exact jt_go_doNow_102 hru hr
    · refine AJ.g sK_go_doNow 39 3 (True) 64 [some (.ref 0), some (.int l1), some (.int l2), some (.ref 4)] [.int l2, .int l1, .ref 4] (h_go_doNow world_people_ world_gates_ world_hour_ world_texts_ world_ruling_ world_x_ laws_ru sums_values_6 lawsL_codeLength_ lawsL_size_ lawsL_take_ lawsL_fee_ sums_stack_7 world_paid_9 world_done_12 world_lot_ world_born_ world_town_names_ world_town_sizes_ lawsL_kinds_ lawsL_to_ lawsL_from_ lawsL_code_ world_town_heaps_) rfl trivial ?_
      refine k_b4 hr (fun r29 world_town_names_30 world_town_sizes_31 world_town_heaps_32 e33 hr => ?_)
      refine AJ.eV mk_town_leave (SK.at sK_go_doNow 42 rfl) lk_1_121 (c_town_leave (names_ := world_town_names_) (sizes_ := world_town_sizes_) (heaps_ := world_town_heaps_) e33) [4, 12, 13, 18, 19, 20, 21] [] [1, 2, 4, 5, 6] [] 67 [.int r29] (h_go_doNow world_people_ world_gates_ world_hour_ world_texts_ world_ruling_ world_x_ laws_ru sums_values_6 lawsL_codeLength_ lawsL_size_ lawsL_take_ lawsL_fee_ sums_stack_7 world_paid_9 world_done_12 world_lot_ world_born_ world_town_names_30 world_town_sizes_31 lawsL_kinds_ lawsL_to_ lawsL_from_ lawsL_code_ world_town_heaps_32) rfl rfl rfl rfl rfl (by decide +kernel) rfl rfl rfl rfl rfl (Nat.le_of_ble_eq_true rfl) rfl rfl rfl ?_
      cases hr
      exact AJ.xi (SK.at sK_go_doNow 43 rfl) rfl
theorem sK_x_go : SK M_x_go q_x_go := sk_x_go
set_option maxRecDepth 100000 in
set_option maxHeartbeats 4000000 in
theorem c_x_go {d : Nat} {now_people_ : Int32} {now_gates_ : Int32} {now_hour_ : Int32} {now_texts_ : Int32} {now_ruling_ : Int32} {now_x_ : Int32} {laws_ru : Nat} {lawsL_codeLength_ : Int32} {lawsL_size_ : Int32} {lawsL_take_ : Int32} {lawsL_fee_ : Int32} {now_paid_ : Nat → Int32} {now_done_ : Nat → Int32} {now_lot_ : Nat → Int32} {now_born_ : Nat → Int32} {now_town_names_ : Nat → Int32} {goings_sums_values_ : Nat → Int32} {now_town_sizes_ : Nat → Int32} {lawsL_kinds_ : Nat → Int32} {lawsL_to_ : Nat → Int32} {lawsL_from_ : Nat → Int32} {goings_sums_stack_ : Nat → Int32} {lawsL_code_ : Nat → Int32} {now_town_heaps_ : Nat → Nat → Int32} {l1 : Int32} {l2 : Int32} {r0 : Int32} {now_x_Z : Int32} {now_paid_Z : Nat → Int32} {now_done_Z : Nat → Int32} {now_town_names_Z : Nat → Int32} {goings_sums_values_Z : Nat → Int32} {now_town_sizes_Z : Nat → Int32} {goings_sums_stack_Z : Nat → Int32} {now_town_heaps_Z : Nat → Nat → Int32} (hru : laws_ru = 0 ∨ laws_ru = 1 ∨ laws_ru = 2 ∨ laws_ru = 3) (hr : f_x_go now_people_ now_gates_ now_hour_ now_ruling_ now_x_ laws_ru lawsL_codeLength_ lawsL_size_ lawsL_take_ lawsL_fee_ now_paid_ now_done_ now_lot_ now_born_ now_town_names_ goings_sums_values_ now_town_sizes_ lawsL_kinds_ lawsL_to_ lawsL_from_ goings_sums_stack_ lawsL_code_ now_town_heaps_ l1 l2 = some (r0, now_x_Z, now_paid_Z, now_done_Z, now_town_names_Z, goings_sums_values_Z, now_town_sizes_Z, goings_sums_stack_Z, now_town_heaps_Z)) : Ctr (d + 6) M_x_go [.ref 0, .int l1, .int l2] (h_x_go now_people_ now_gates_ now_hour_ now_texts_ now_ruling_ now_x_ laws_ru lawsL_codeLength_ lawsL_size_ lawsL_take_ lawsL_fee_ now_paid_ now_done_ now_lot_ now_born_ now_town_names_ goings_sums_values_ now_town_sizes_ lawsL_kinds_ lawsL_to_ lawsL_from_ goings_sums_stack_ lawsL_code_ now_town_heaps_) (some (.int r0)) (h_x_go now_people_ now_gates_ now_hour_ now_texts_ now_ruling_ now_x_Z laws_ru lawsL_codeLength_ lawsL_size_ lawsL_take_ lawsL_fee_ now_paid_Z now_done_Z now_lot_ now_born_ now_town_names_Z goings_sums_values_Z now_town_sizes_Z lawsL_kinds_ lawsL_to_ lawsL_from_ goings_sums_stack_Z lawsL_code_ now_town_heaps_Z) := by
  refine Ctr.start pn_x [some (.ref 0), some (.int l1), some (.int l2)] (Nat.le_of_ble_eq_true rfl) rfl ?_
  unfold f_x_go at hr
  refine AJ.g sK_x_go 0 4 (True) 6 [some (.ref 0), some (.int l1), some (.int l2)] [.int l2, .int l1, .ref 1] (h_x_go now_people_ now_gates_ now_hour_ now_texts_ now_ruling_ now_x_ laws_ru lawsL_codeLength_ lawsL_size_ lawsL_take_ lawsL_fee_ now_paid_ now_done_ now_lot_ now_born_ now_town_names_ goings_sums_values_ now_town_sizes_ lawsL_kinds_ lawsL_to_ lawsL_from_ goings_sums_stack_ lawsL_code_ now_town_heaps_) rfl trivial ?_
  refine k_b9 hr (fun r1 now_x_2 goings_sums_values_3 goings_sums_stack_4 now_paid_5 now_done_6 now_town_names_7 now_town_sizes_8 now_town_heaps_9 e10 hr => ?_)
  refine AJ.eV mk_go_doNow (SK.at sK_x_go 4 rfl) lk_11_131 (c_go_doNow (world_people_ := now_people_) (world_gates_ := now_gates_) (world_hour_ := now_hour_) (world_texts_ := now_texts_) (world_ruling_ := now_ruling_) (world_x_ := now_x_) (laws_ru := laws_ru) (sums_values_ := goings_sums_values_) (lawsL_codeLength_ := lawsL_codeLength_) (lawsL_size_ := lawsL_size_) (lawsL_take_ := lawsL_take_) (lawsL_fee_ := lawsL_fee_) (sums_stack_ := goings_sums_stack_) (world_paid_ := now_paid_) (world_done_ := now_done_) (world_lot_ := now_lot_) (world_born_ := now_born_) (world_town_names_ := now_town_names_) (world_town_sizes_ := now_town_sizes_) (lawsL_kinds_ := lawsL_kinds_) (lawsL_to_ := lawsL_to_) (lawsL_from_ := lawsL_from_) (lawsL_code_ := lawsL_code_) (world_town_heaps_ := now_town_heaps_) hru e10) [1, 2, 3, 5, 4, 12, 6, 17, 7, 8, 9, 10, 11, 13, 14, 15, 16, 18, 19, 20, 21, 22] [29, 30, 31, 32, 33, 34, 35, 36] [1, 5, 7, 8, 9, 12, 13, 19, 20, 21] [] 9 [.int r1] (h_x_go now_people_ now_gates_ now_hour_ now_texts_ now_ruling_ now_x_2 laws_ru lawsL_codeLength_ lawsL_size_ lawsL_take_ lawsL_fee_ now_paid_5 now_done_6 now_lot_ now_born_ now_town_names_7 goings_sums_values_3 now_town_sizes_8 lawsL_kinds_ lawsL_to_ lawsL_from_ goings_sums_stack_4 lawsL_code_ now_town_heaps_9) rfl rfl rfl rfl rfl (by decide +kernel) (by rcases hru with rfl | rfl | rfl | rfl <;> rfl) rfl rfl rfl rfl (Nat.le_of_ble_eq_true rfl) rfl rfl rfl ?_
  cases hr
  exact AJ.xi (SK.at sK_x_go 5 rfl) rfl
theorem sK_tri_at : SK M_tri_at q_tri_at := sk_tri_at
set_option maxRecDepth 100000 in
set_option maxHeartbeats 4000000 in
theorem jt_tri_at_26 {d : Nat} {size_ : Int32} {cells_n : Nat} {cells_ : Nat → Int32} {l1 : Int32} {l2 : Int32} {s0 : Int32} {h0 : List va_E} {r0 : Int32} (hr : fj_tri_at_26 cells_n cells_ l1 l2 s0 = some r0) : AJ (M_tri_at, d + 1, (some (.int r0)), h0, (h_tri_at size_ cells_n cells_)) 26 [some (.ref 0), some (.int l1), some (.int l2)] [.int s0] (h_tri_at size_ cells_n cells_) := by
  unfold fj_tri_at_26 at hr
  refine AJ.g sK_tri_at 14 2 (True) 28 [some (.ref 0), some (.int l1), some (.int l2), some (.int s0)] [.int s0] (h_tri_at size_ cells_n cells_) rfl trivial ?_
  refine AJ.iT hr (SK.at sK_tri_at 16 rfl) 44 31 rfl rfl rfl (fun hr => ?_) (fun hr => ?_)
  · refine AJ.g sK_tri_at 26 1 (True) 45 [some (.ref 0), some (.int l1), some (.int l2), some (.int s0)] [.int (-1)] (h_tri_at size_ cells_n cells_) rfl trivial ?_
    cases hr
    exact AJ.xi (SK.at sK_tri_at 27 rfl) rfl
  · refine k_grd hr (fun g1 hr => ?_)
    refine AJ.g sK_tri_at 17 9 (inb ((l1 * 3) + l2) cells_n ∧ True) 45 [some (.ref 0), some (.int l1), some (.int l2), some (.int s0)] [.int (cells_ (ix ((l1 * 3) + l2)))] (h_tri_at size_ cells_n cells_) rfl ⟨g1, trivial⟩ ?_
    cases hr
    exact AJ.xi (SK.at sK_tri_at 27 rfl) rfl
set_option maxRecDepth 100000 in
set_option maxHeartbeats 4000000 in
theorem c_tri_at {d : Nat} {size_ : Int32} {cells_n : Nat} {cells_ : Nat → Int32} {l1 : Int32} {l2 : Int32} {r0 : Int32} (hr : f_tri_at size_ cells_n cells_ l1 l2 = some r0) : Ctr (d + 1) M_tri_at [.ref 0, .int l1, .int l2] (h_tri_at size_ cells_n cells_) (some (.int r0)) (h_tri_at size_ cells_n cells_) := by
  refine Ctr.start pn_tri [some (.ref 0), some (.int l1), some (.int l2)] (Nat.le_of_ble_eq_true rfl) rfl ?_
  unfold f_tri_at at hr
  refine AJ.g sK_tri_at 0 1 (True) 1 [some (.ref 0), some (.int l1), some (.int l2)] [.int l1] (h_tri_at size_ cells_n cells_) rfl trivial ?_
  refine AJ.iT hr (SK.at sK_tri_at 1 rfl) 25 4 rfl rfl rfl (fun hr => ?_) (fun hr => ?_)
  · refine AJ.g sK_tri_at 13 1 (True) 26 [some (.ref 0), some (.int l1), some (.int l2)] [.int 0] (h_tri_at size_ cells_n cells_) rfl trivial ?_
    refine AJ.fg [true, true, true] [some (.ref 0), some (.int l1), some (.int l2)] rfl ?_
    exact jt_tri_at_26 hr
  · refine AJ.g sK_tri_at 2 3 (True) 9 [some (.ref 0), some (.int l1), some (.int l2)] [.int size_, .int l1] (h_tri_at size_ cells_n cells_) rfl trivial ?_
    refine AJ.iF hr (SK.at sK_tri_at 5 rfl) 25 12 rfl rfl rfl (fun hr => ?_) (fun hr => ?_)
    · refine AJ.g sK_tri_at 6 1 (True) 13 [some (.ref 0), some (.int l1), some (.int l2)] [.int l2] (h_tri_at size_ cells_n cells_) rfl trivial ?_
      refine AJ.iT hr (SK.at sK_tri_at 7 rfl) 25 16 rfl rfl rfl (fun hr => ?_) (fun hr => ?_)
      · refine AJ.g sK_tri_at 13 1 (True) 26 [some (.ref 0), some (.int l1), some (.int l2)] [.int 0] (h_tri_at size_ cells_n cells_) rfl trivial ?_
        refine AJ.fg [true, true, true] [some (.ref 0), some (.int l1), some (.int l2)] rfl ?_
        exact jt_tri_at_26 hr
      · refine AJ.g sK_tri_at 8 2 (True) 18 [some (.ref 0), some (.int l1), some (.int l2)] [.int 3, .int l2] (h_tri_at size_ cells_n cells_) rfl trivial ?_
        refine AJ.iF hr (SK.at sK_tri_at 10 rfl) 25 21 rfl rfl rfl (fun hr => ?_) (fun hr => ?_)
        · refine AJ.g sK_tri_at 11 2 (True) 26 [some (.ref 0), some (.int l1), some (.int l2)] [.int 1] (h_tri_at size_ cells_n cells_) rfl trivial ?_
          refine AJ.fg [true, true, true] [some (.ref 0), some (.int l1), some (.int l2)] rfl ?_
          exact jt_tri_at_26 hr
        · refine AJ.g sK_tri_at 13 1 (True) 26 [some (.ref 0), some (.int l1), some (.int l2)] [.int 0] (h_tri_at size_ cells_n cells_) rfl trivial ?_
          refine AJ.fg [true, true, true] [some (.ref 0), some (.int l1), some (.int l2)] rfl ?_
          exact jt_tri_at_26 hr
    · refine AJ.g sK_tri_at 13 1 (True) 26 [some (.ref 0), some (.int l1), some (.int l2)] [.int 0] (h_tri_at size_ cells_n cells_) rfl trivial ?_
      refine AJ.fg [true, true, true] [some (.ref 0), some (.int l1), some (.int l2)] rfl ?_
      exact jt_tri_at_26 hr
theorem sK_world_coinsWhere : SK M_world_coinsWhere q_world_coinsWhere := sk_world_coinsWhere
set_option maxRecDepth 100000 in
set_option maxHeartbeats 4000000 in
theorem bt_world_coinsWhere_5 {d : Nat} {rr : Option Value} {h0 hF : List va_E} {people_ : Int32} {gates_ : Int32} {hour_ : Int32} {texts_ : Int32} {ruling_ : Int32} {x_ : Int32} {deeds_size_ : Int32} {deeds_cells_ : Nat → Int32} {l1 : Int32} {l2 : Int32} {l3 : Int32} {l4 : Int32} {x : (Int32 × Int32) ⊕ Int32} (hr : fb_world_coinsWhere_5 deeds_size_ deeds_cells_ l1 l2 l3 l4 = some x) (hx : Sum.elim (fun s : (Int32 × Int32) => AJ (M_world_coinsWhere, d + 2, rr, h0, hF) 5 [some (.ref 0), some (.int l1), some (.int l2), some (.int s.1), some (.int s.2)] [] (h_world_coinsWhere people_ gates_ hour_ texts_ ruling_ x_ deeds_size_ deeds_cells_)) (fun s : Int32 => AJ (M_world_coinsWhere, d + 2, rr, h0, hF) 50 [none, none, none, some (.int s)] [] (h_world_coinsWhere people_ gates_ hour_ texts_ ruling_ x_ deeds_size_ deeds_cells_)) x) : AJ (M_world_coinsWhere, d + 2, rr, h0, hF) 5 [some (.ref 0), some (.int l1), some (.int l2), some (.int l3), some (.int l4)] [] (h_world_coinsWhere people_ gates_ hour_ texts_ ruling_ x_ deeds_size_ deeds_cells_) := by
  unfold fb_world_coinsWhere_5 at hr
  refine AJ.g sK_world_coinsWhere 4 4 (True) 14 [some (.ref 0), some (.int l1), some (.int l2), some (.int l3), some (.int l4)] [.int deeds_size_, .int l4] (h_world_coinsWhere people_ gates_ hour_ texts_ ruling_ x_ deeds_size_ deeds_cells_) rfl trivial ?_
  refine AJ.iF hr (SK.at sK_world_coinsWhere 8 rfl) 50 17 rfl rfl rfl (fun hr => ?_) (fun hr => ?_)
  · refine AJ.g sK_world_coinsWhere 9 4 (True) 24 [some (.ref 0), some (.int l1), some (.int l2), some (.int l3), some (.int l4)] [.int l1, .int l4, .ref 1] (h_world_coinsWhere people_ gates_ hour_ texts_ ruling_ x_ deeds_size_ deeds_cells_) rfl trivial ?_
    refine k_b1 hr (fun r1 e4 hr => ?_)
    refine AJ.eV mk_tri_at (SK.at sK_world_coinsWhere 13 rfl) lk_10_101 (c_tri_at (size_ := deeds_size_) (cells_n := 60) (cells_ := deeds_cells_) e4) [1, 2] [] [] [] 27 [.int r1] (h_world_coinsWhere people_ gates_ hour_ texts_ ruling_ x_ deeds_size_ deeds_cells_) rfl rfl rfl rfl rfl (by decide +kernel) rfl rfl rfl rfl rfl (Nat.le_of_ble_eq_true rfl) rfl rfl rfl ?_
    refine AJ.g sK_world_coinsWhere 14 1 (True) 28 [some (.ref 0), some (.int l1), some (.int l2), some (.int l3), some (.int l4)] [.int l2, .int r1] (h_world_coinsWhere people_ gates_ hour_ texts_ ruling_ x_ deeds_size_ deeds_cells_) rfl trivial ?_
    refine AJ.iF hr (SK.at sK_world_coinsWhere 15 rfl) 44 31 rfl rfl rfl (fun hr => ?_) (fun hr => ?_)
    · refine AJ.g sK_world_coinsWhere 16 5 (True) 39 [some (.ref 0), some (.int l1), some (.int l2), some (.int l3), some (.int l4)] [.int 1, .int l4, .ref 1, .int l3] (h_world_coinsWhere people_ gates_ hour_ texts_ ruling_ x_ deeds_size_ deeds_cells_) rfl trivial ?_
      refine k_b1 hr (fun r2 e3 hr => ?_)
      refine AJ.eV mk_tri_at (SK.at sK_world_coinsWhere 21 rfl) lk_10_101 (c_tri_at (size_ := deeds_size_) (cells_n := 60) (cells_ := deeds_cells_) e3) [1, 2] [] [] [.int l3] 42 [.int r2, .int l3] (h_world_coinsWhere people_ gates_ hour_ texts_ ruling_ x_ deeds_size_ deeds_cells_) rfl rfl rfl rfl rfl (by decide +kernel) rfl rfl rfl rfl rfl (Nat.le_of_ble_eq_true rfl) rfl rfl rfl ?_
      refine AJ.g sK_world_coinsWhere 22 2 (True) 44 [some (.ref 0), some (.int l1), some (.int l2), some (.int (l3 + r2)), some (.int l4)] [] (h_world_coinsWhere people_ gates_ hour_ texts_ ruling_ x_ deeds_size_ deeds_cells_) rfl trivial ?_
      refine AJ.g sK_world_coinsWhere 24 2 (True) 5 [some (.ref 0), some (.int l1), some (.int l2), some (.int (l3 + r2)), some (.int (l4 + 1))] [] (h_world_coinsWhere people_ gates_ hour_ texts_ ruling_ x_ deeds_size_ deeds_cells_) rfl trivial ?_
      cases hr
      refine AJ.fg [true, true, true, true, true] [some (.ref 0), some (.int l1), some (.int l2), some (.int (l3 + r2)), some (.int (l4 + 1))] rfl ?_
      exact hx
    · refine AJ.g sK_world_coinsWhere 24 2 (True) 5 [some (.ref 0), some (.int l1), some (.int l2), some (.int l3), some (.int (l4 + 1))] [] (h_world_coinsWhere people_ gates_ hour_ texts_ ruling_ x_ deeds_size_ deeds_cells_) rfl trivial ?_
      cases hr
      refine AJ.fg [true, true, true, true, true] [some (.ref 0), some (.int l1), some (.int l2), some (.int l3), some (.int (l4 + 1))] rfl ?_
      exact hx
  · cases hr
    refine AJ.fg [false, false, false, true] [none, none, none, some (.int l3)] rfl ?_
    exact hx
set_option maxRecDepth 100000 in
set_option maxHeartbeats 4000000 in
theorem c_world_coinsWhere {d : Nat} {people_ : Int32} {gates_ : Int32} {hour_ : Int32} {texts_ : Int32} {ruling_ : Int32} {x_ : Int32} {deeds_size_ : Int32} {deeds_cells_ : Nat → Int32} {l1 : Int32} {l2 : Int32} {r0 : Int32} (hr : f_world_coinsWhere deeds_size_ deeds_cells_ l1 l2 = some r0) : Ctr (d + 2) M_world_coinsWhere [.ref 0, .int l1, .int l2] (h_world_coinsWhere people_ gates_ hour_ texts_ ruling_ x_ deeds_size_ deeds_cells_) (some (.int r0)) (h_world_coinsWhere people_ gates_ hour_ texts_ ruling_ x_ deeds_size_ deeds_cells_) := by
  refine Ctr.start pn_world [some (.ref 0), some (.int l1), some (.int l2)] (Nat.le_of_ble_eq_true rfl) rfl ?_
  unfold f_world_coinsWhere at hr
  refine AJ.g sK_world_coinsWhere 0 4 (True) 5 [some (.ref 0), some (.int l1), some (.int l2), some (.int 0), some (.int 0)] [] (h_world_coinsWhere people_ gates_ hour_ texts_ ruling_ x_ deeds_size_ deeds_cells_) rfl trivial ?_
  refine k_b1 hr (fun l3_5 he hr => ?_)
  refine AJ.fg [true, true, true, true, true] [some (.ref 0), some (.int l1), some (.int l2), some (.int 0), some (.int 0)] rfl ?_
  refine itr_ok (un2 (fb_world_coinsWhere_5 deeds_size_ deeds_cells_ l1 l2)) (fun s : (Int32 × Int32) => AJ _ 5 [some (.ref 0), some (.int l1), some (.int l2), some (.int s.1), some (.int s.2)] [] (h_world_coinsWhere people_ gates_ hour_ texts_ ruling_ x_ deeds_size_ deeds_cells_)) (fun s : Int32 => AJ _ 50 [none, none, none, some (.int s)] [] (h_world_coinsWhere people_ gates_ hour_ texts_ ruling_ x_ deeds_size_ deeds_cells_)) (fun s x hb hx => bt_world_coinsWhere_5 hb hx) KF (0, 0) l3_5 he (show AJ _ 50 [none, none, none, some (.int l3_5)] [] (h_world_coinsWhere people_ gates_ hour_ texts_ ruling_ x_ deeds_size_ deeds_cells_) from ?_)
  refine AJ.g sK_world_coinsWhere 26 1 (True) 51 [none, none, none, some (.int l3_5)] [.int l3_5] (h_world_coinsWhere people_ gates_ hour_ texts_ ruling_ x_ deeds_size_ deeds_cells_) rfl trivial ?_
  cases hr
  exact AJ.xi (SK.at sK_world_coinsWhere 27 rfl) rfl
theorem sK_world_owedUnder : SK M_world_owedUnder q_world_owedUnder := sk_world_owedUnder
set_option maxRecDepth 100000 in
set_option maxHeartbeats 4000000 in
theorem c_world_owedUnder {d : Nat} {people_ : Int32} {gates_ : Int32} {hour_ : Int32} {texts_ : Int32} {ruling_ : Int32} {x_ : Int32} {deeds_size_ : Int32} {deeds_cells_ : Nat → Int32} {l1 : Int32} {r0 : Int32} (hr : f_world_owedUnder deeds_size_ deeds_cells_ l1 = some r0) : Ctr (d + 3) M_world_owedUnder [.ref 0, .int l1] (h_world_owedUnder people_ gates_ hour_ texts_ ruling_ x_ deeds_size_ deeds_cells_) (some (.int r0)) (h_world_owedUnder people_ gates_ hour_ texts_ ruling_ x_ deeds_size_ deeds_cells_) := by
  refine Ctr.start pn_world [some (.ref 0), some (.int l1)] (Nat.le_of_ble_eq_true rfl) rfl ?_
  unfold f_world_owedUnder at hr
  refine AJ.g sK_world_owedUnder 0 3 (True) 3 [some (.ref 0), some (.int l1)] [.int l1, .int 0, .ref 0] (h_world_owedUnder people_ gates_ hour_ texts_ ruling_ x_ deeds_size_ deeds_cells_) rfl trivial ?_
  refine k_b1 hr (fun r1 e2 hr => ?_)
  refine AJ.eV mk_world_coinsWhere (SK.at sK_world_owedUnder 3 rfl) lk_10_94 (c_world_coinsWhere (people_ := people_) (gates_ := gates_) (hour_ := hour_) (texts_ := texts_) (ruling_ := ruling_) (x_ := x_) (deeds_size_ := deeds_size_) (deeds_cells_ := deeds_cells_) e2) [0, 1, 2] [3, 4, 5, 6, 7, 8, 9] [] [] 6 [.int r1] (h_world_owedUnder people_ gates_ hour_ texts_ ruling_ x_ deeds_size_ deeds_cells_) rfl rfl rfl rfl rfl (by decide +kernel) rfl rfl rfl rfl rfl (Nat.le_of_ble_eq_true rfl) rfl rfl rfl ?_
  cases hr
  exact AJ.xi (SK.at sK_world_owedUnder 4 rfl) rfl
theorem sK_world_didBy : SK M_world_didBy q_world_didBy := sk_world_didBy
set_option maxRecDepth 100000 in
set_option maxHeartbeats 4000000 in
theorem c_world_didBy {d : Nat} {people_ : Int32} {gates_ : Int32} {hour_ : Int32} {texts_ : Int32} {ruling_ : Int32} {x_ : Int32} {deeds_size_ : Int32} {deeds_cells_ : Nat → Int32} {l1 : Int32} {r0 : Int32} (hr : f_world_didBy deeds_size_ deeds_cells_ l1 = some r0) : Ctr (d + 3) M_world_didBy [.ref 0, .int l1] (h_world_didBy people_ gates_ hour_ texts_ ruling_ x_ deeds_size_ deeds_cells_) (some (.int r0)) (h_world_didBy people_ gates_ hour_ texts_ ruling_ x_ deeds_size_ deeds_cells_) := by
  refine Ctr.start pn_world [some (.ref 0), some (.int l1)] (Nat.le_of_ble_eq_true rfl) rfl ?_
  unfold f_world_didBy at hr
  refine AJ.g sK_world_didBy 0 3 (True) 3 [some (.ref 0), some (.int l1)] [.int l1, .int 2, .ref 0] (h_world_didBy people_ gates_ hour_ texts_ ruling_ x_ deeds_size_ deeds_cells_) rfl trivial ?_
  refine k_b1 hr (fun r1 e2 hr => ?_)
  refine AJ.eV mk_world_coinsWhere (SK.at sK_world_didBy 3 rfl) lk_10_94 (c_world_coinsWhere (people_ := people_) (gates_ := gates_) (hour_ := hour_) (texts_ := texts_) (ruling_ := ruling_) (x_ := x_) (deeds_size_ := deeds_size_) (deeds_cells_ := deeds_cells_) e2) [0, 1, 2] [3, 4, 5, 6, 7, 8, 9] [] [] 6 [.int r1] (h_world_didBy people_ gates_ hour_ texts_ ruling_ x_ deeds_size_ deeds_cells_) rfl rfl rfl rfl rfl (by decide +kernel) rfl rfl rfl rfl rfl (Nat.le_of_ble_eq_true rfl) rfl rfl rfl ?_
  cases hr
  exact AJ.xi (SK.at sK_world_didBy 4 rfl) rfl
theorem sK_x_of : SK M_x_of q_x_of := sk_x_of
set_option maxRecDepth 100000 in
set_option maxHeartbeats 4000000 in
theorem c_x_of {d : Nat} {now_people_ : Int32} {now_gates_ : Int32} {now_hour_ : Int32} {now_texts_ : Int32} {now_ruling_ : Int32} {now_x_ : Int32} {now_born_ : Nat → Int32} {now_deeds_size_ : Int32} {now_done_ : Nat → Int32} {now_paid_ : Nat → Int32} {now_deeds_cells_ : Nat → Int32} {now_town_names_ : Nat → Int32} {l1 : Int32} {l2 : Int32} {r0 : Int32} (hr : f_x_of now_people_ now_born_ now_deeds_size_ now_done_ now_paid_ now_deeds_cells_ now_town_names_ l1 l2 = some r0) : Ctr (d + 4) M_x_of [.ref 0, .int l1, .int l2] (h_x_of now_people_ now_gates_ now_hour_ now_texts_ now_ruling_ now_x_ now_born_ now_deeds_size_ now_done_ now_paid_ now_deeds_cells_ now_town_names_) (some (.int r0)) (h_x_of now_people_ now_gates_ now_hour_ now_texts_ now_ruling_ now_x_ now_born_ now_deeds_size_ now_done_ now_paid_ now_deeds_cells_ now_town_names_) := by
  refine Ctr.start pn_x [some (.ref 0), some (.int l1), some (.int l2)] (Nat.le_of_ble_eq_true rfl) rfl ?_
  unfold f_x_of at hr
  refine AJ.g sK_x_of 0 3 (True) 5 [some (.ref 0), some (.int l1), some (.int l2)] [.int l1, .ref 1] (h_x_of now_people_ now_gates_ now_hour_ now_texts_ now_ruling_ now_x_ now_born_ now_deeds_size_ now_done_ now_paid_ now_deeds_cells_ now_town_names_) rfl trivial ?_
  refine k_b1 hr (fun r1 e13 hr => ?_)
  refine AJ.eV mk_world_hasPerson (SK.at sK_x_of 3 rfl) lk_11_135 (c_world_hasPerson (people_ := now_people_) (gates_ := now_gates_) (hour_ := now_hour_) (texts_ := now_texts_) (ruling_ := now_ruling_) (x_ := now_x_) e13) [1] [2, 17, 6, 5, 4, 3, 18, 19] [] [] 8 [.int r1] (h_x_of now_people_ now_gates_ now_hour_ now_texts_ now_ruling_ now_x_ now_born_ now_deeds_size_ now_done_ now_paid_ now_deeds_cells_ now_town_names_) rfl rfl rfl rfl rfl (by decide +kernel) rfl rfl rfl rfl rfl (Nat.le_of_ble_eq_true rfl) rfl rfl rfl ?_
  refine AJ.iF hr (SK.at sK_x_of 4 rfl) 14 11 rfl rfl rfl (fun hr => ?_) (fun hr => ?_)
  · refine AJ.g sK_x_of 5 1 (True) 13 [some (.ref 0), some (.int l1), some (.int l2)] [.int (-2)] (h_x_of now_people_ now_gates_ now_hour_ now_texts_ now_ruling_ now_x_ now_born_ now_deeds_size_ now_done_ now_paid_ now_deeds_cells_ now_town_names_) rfl trivial ?_
    cases hr
    exact AJ.xi (SK.at sK_x_of 6 rfl) rfl
  · refine AJ.g sK_x_of 7 1 (True) 15 [some (.ref 0), some (.int l1), some (.int l2)] [.int l2] (h_x_of now_people_ now_gates_ now_hour_ now_texts_ now_ruling_ now_x_ now_born_ now_deeds_size_ now_done_ now_paid_ now_deeds_cells_ now_town_names_) rfl trivial ?_
    refine k_ite hr (fun hc hr => ?_) (fun n0 hr => ?_)
    · refine AJ.tsIn sw_x_of_15 (by rw [hc]; decide) (by rw [hc]; decide) (by rw [hc]; rfl) rfl ?_
      refine AJ.g sK_x_of 8 4 (True) 60 [some (.ref 0), some (.int l1), some (.int l2)] [.int l1, .ref 4] (h_x_of now_people_ now_gates_ now_hour_ now_texts_ now_ruling_ now_x_ now_born_ now_deeds_size_ now_done_ now_paid_ now_deeds_cells_ now_town_names_) rfl trivial ?_
      refine k_b1 hr (fun r11 e12 hr => ?_)
      refine AJ.eV mk_town_nameOf (SK.at sK_x_of 12 rfl) lk_11_143 (c_town_nameOf (names_ := now_town_names_) e12) [4, 8] [20, 21] [] [] 63 [.int r11] (h_x_of now_people_ now_gates_ now_hour_ now_texts_ now_ruling_ now_x_ now_born_ now_deeds_size_ now_done_ now_paid_ now_deeds_cells_ now_town_names_) rfl rfl rfl rfl rfl (by decide +kernel) rfl rfl rfl rfl rfl (Nat.le_of_ble_eq_true rfl) rfl rfl rfl ?_
      cases hr
      exact AJ.xi (SK.at sK_x_of 13 rfl) rfl
    · refine k_ite hr (fun hc hr => ?_) (fun n1 hr => ?_)
      · refine AJ.tsIn sw_x_of_15 (by rw [hc]; decide) (by rw [hc]; decide) (by rw [hc]; rfl) rfl ?_
        refine k_grd hr (fun g10 hr => ?_)
        refine AJ.g sK_x_of 14 5 (inb l1 8 ∧ True) 73 [some (.ref 0), some (.int l1), some (.int l2)] [.int (now_paid_ (ix l1))] (h_x_of now_people_ now_gates_ now_hour_ now_texts_ now_ruling_ now_x_ now_born_ now_deeds_size_ now_done_ now_paid_ now_deeds_cells_ now_town_names_) rfl ⟨g10, trivial⟩ ?_
        cases hr
        exact AJ.xi (SK.at sK_x_of 19 rfl) rfl
      · refine k_ite hr (fun hc hr => ?_) (fun n2 hr => ?_)
        · refine AJ.tsIn sw_x_of_15 (by rw [hc]; decide) (by rw [hc]; decide) (by rw [hc]; rfl) rfl ?_
          refine k_grd hr (fun g9 hr => ?_)
          refine AJ.g sK_x_of 20 5 (inb l1 8 ∧ True) 83 [some (.ref 0), some (.int l1), some (.int l2)] [.int (now_done_ (ix l1))] (h_x_of now_people_ now_gates_ now_hour_ now_texts_ now_ruling_ now_x_ now_born_ now_deeds_size_ now_done_ now_paid_ now_deeds_cells_ now_town_names_) rfl ⟨g9, trivial⟩ ?_
          cases hr
          exact AJ.xi (SK.at sK_x_of 25 rfl) rfl
        · refine k_ite hr (fun hc hr => ?_) (fun n3 hr => ?_)
          · refine AJ.tsIn sw_x_of_15 (by rw [hc]; decide) (by rw [hc]; decide) (by rw [hc]; rfl) rfl ?_
            refine AJ.g sK_x_of 26 6 (True) 96 [some (.ref 0), some (.int l1), some (.int l2)] [.int l1, .ref 4, .ref 1] (h_x_of now_people_ now_gates_ now_hour_ now_texts_ now_ruling_ now_x_ now_born_ now_deeds_size_ now_done_ now_paid_ now_deeds_cells_ now_town_names_) rfl trivial ?_
            refine k_b1 hr (fun r5 e8 hr => ?_)
            refine AJ.eV mk_town_nameOf (SK.at sK_x_of 32 rfl) lk_11_143 (c_town_nameOf (names_ := now_town_names_) e8) [4, 8] [20, 21] [] [.ref 1] 99 [.int r5, .ref 1] (h_x_of now_people_ now_gates_ now_hour_ now_texts_ now_ruling_ now_x_ now_born_ now_deeds_size_ now_done_ now_paid_ now_deeds_cells_ now_town_names_) rfl rfl rfl rfl rfl (by decide +kernel) rfl rfl rfl rfl rfl (Nat.le_of_ble_eq_true rfl) rfl rfl rfl ?_
            refine k_b1 hr (fun r6 e7 hr => ?_)
            refine AJ.eV mk_world_owedUnder (SK.at sK_x_of 33 rfl) lk_11_155 (c_world_owedUnder (people_ := now_people_) (gates_ := now_gates_) (hour_ := now_hour_) (texts_ := now_texts_) (ruling_ := now_ruling_) (x_ := now_x_) (deeds_size_ := now_deeds_size_) (deeds_cells_ := now_deeds_cells_) e7) [1, 3, 7] [2, 17, 6, 5, 4, 18, 19] [] [] 102 [.int r6] (h_x_of now_people_ now_gates_ now_hour_ now_texts_ now_ruling_ now_x_ now_born_ now_deeds_size_ now_done_ now_paid_ now_deeds_cells_ now_town_names_) rfl rfl rfl rfl rfl (by decide +kernel) rfl rfl rfl rfl rfl (Nat.le_of_ble_eq_true rfl) rfl rfl rfl ?_
            cases hr
            exact AJ.xi (SK.at sK_x_of 34 rfl) rfl
          · refine k_ite hr (fun hc hr => ?_) (fun n4 hr => ?_)
            · refine AJ.tsIn sw_x_of_15 (by rw [hc]; decide) (by rw [hc]; decide) (by rw [hc]; rfl) rfl ?_
              refine AJ.g sK_x_of 35 3 (True) 108 [some (.ref 0), some (.int l1), some (.int l2)] [.int l1, .ref 1] (h_x_of now_people_ now_gates_ now_hour_ now_texts_ now_ruling_ now_x_ now_born_ now_deeds_size_ now_done_ now_paid_ now_deeds_cells_ now_town_names_) rfl trivial ?_
              refine k_b1 hr (fun r3 e4 hr => ?_)
              refine AJ.eV mk_world_didBy (SK.at sK_x_of 38 rfl) lk_11_158 (c_world_didBy (people_ := now_people_) (gates_ := now_gates_) (hour_ := now_hour_) (texts_ := now_texts_) (ruling_ := now_ruling_) (x_ := now_x_) (deeds_size_ := now_deeds_size_) (deeds_cells_ := now_deeds_cells_) e4) [1, 3, 7] [2, 17, 6, 5, 4, 18, 19] [] [] 111 [.int r3] (h_x_of now_people_ now_gates_ now_hour_ now_texts_ now_ruling_ now_x_ now_born_ now_deeds_size_ now_done_ now_paid_ now_deeds_cells_ now_town_names_) rfl rfl rfl rfl rfl (by decide +kernel) rfl rfl rfl rfl rfl (Nat.le_of_ble_eq_true rfl) rfl rfl rfl ?_
              cases hr
              exact AJ.xi (SK.at sK_x_of 39 rfl) rfl
            · refine k_ite hr (fun hc hr => ?_) (fun n5 hr => ?_)
              · refine AJ.tsIn sw_x_of_15 (by rw [hc]; decide) (by rw [hc]; decide) (by rw [hc]; rfl) rfl ?_
                refine k_grd hr (fun g2 hr => ?_)
                refine AJ.g sK_x_of 40 5 (inb l1 8 ∧ True) 121 [some (.ref 0), some (.int l1), some (.int l2)] [.int (now_born_ (ix l1))] (h_x_of now_people_ now_gates_ now_hour_ now_texts_ now_ruling_ now_x_ now_born_ now_deeds_size_ now_done_ now_paid_ now_deeds_cells_ now_town_names_) rfl ⟨g2, trivial⟩ ?_
                refine AJ.iT hr (SK.at sK_x_of 45 rfl) 128 124 rfl rfl rfl (fun hr => ?_) (fun hr => ?_)
                · refine AJ.g sK_x_of 48 1 (True) 129 [some (.ref 0), some (.int l1), some (.int l2)] [.int 0] (h_x_of now_people_ now_gates_ now_hour_ now_texts_ now_ruling_ now_x_ now_born_ now_deeds_size_ now_done_ now_paid_ now_deeds_cells_ now_town_names_) rfl trivial ?_
                  cases hr
                  exact AJ.xi (SK.at sK_x_of 49 rfl) rfl
                · refine AJ.g sK_x_of 46 2 (True) 129 [some (.ref 0), some (.int l1), some (.int l2)] [.int 1] (h_x_of now_people_ now_gates_ now_hour_ now_texts_ now_ruling_ now_x_ now_born_ now_deeds_size_ now_done_ now_paid_ now_deeds_cells_ now_town_names_) rfl trivial ?_
                  cases hr
                  exact AJ.xi (SK.at sK_x_of 49 rfl) rfl
              · refine AJ.tsOut sw_x_of_15 (by have w0 : (l2 : Int32).toInt ≠ 0 := ne_toInt n0; have w1 : (l2 : Int32).toInt ≠ 1 := ne_toInt n1; have w2 : (l2 : Int32).toInt ≠ 2 := ne_toInt n2; have w3 : (l2 : Int32).toInt ≠ 3 := ne_toInt n3; have w4 : (l2 : Int32).toInt ≠ 4 := ne_toInt n4; have w5 : (l2 : Int32).toInt ≠ 5 := ne_toInt n5; omega) rfl ?_
                refine AJ.g sK_x_of 50 1 (True) 132 [some (.ref 0), some (.int l1), some (.int l2)] [.int (-2)] (h_x_of now_people_ now_gates_ now_hour_ now_texts_ now_ruling_ now_x_ now_born_ now_deeds_size_ now_done_ now_paid_ now_deeds_cells_ now_town_names_) rfl trivial ?_
                cases hr
                exact AJ.xi (SK.at sK_x_of 51 rfl) rfl
theorem sK_x_isName : SK M_x_isName q_x_isName := sk_x_isName
set_option maxRecDepth 100000 in
set_option maxHeartbeats 4000000 in
theorem c_x_isName {d : Nat}  {l0 : Int32} {r0 : Int32} (hr : f_x_isName l0 = some r0) : Ctr (d + 1) M_x_isName [.int l0] [] (some (.int r0)) [] := by
  refine Ctr.start pn_x [some (.int l0)] (Nat.le_of_ble_eq_true rfl) rfl ?_
  unfold f_x_isName at hr
  refine AJ.g sK_x_isName 0 1 (True) 1 [some (.int l0)] [.int l0] [] rfl trivial ?_
  refine AJ.iT hr (SK.at sK_x_isName 1 rfl) 14 4 rfl rfl rfl (fun hr => ?_) (fun hr => ?_)
  · refine AJ.g sK_x_isName 7 1 (True) 15 [some (.int l0)] [.int 0] [] rfl trivial ?_
    cases hr
    exact AJ.xz (by decide) (SK.at sK_x_isName 8 rfl) rfl
  · refine AJ.g sK_x_isName 2 2 (True) 7 [some (.int l0)] [.int 8, .int l0] [] rfl trivial ?_
    refine AJ.iF hr (SK.at sK_x_isName 4 rfl) 14 10 rfl rfl rfl (fun hr => ?_) (fun hr => ?_)
    · refine AJ.g sK_x_isName 5 2 (True) 15 [some (.int l0)] [.int 1] [] rfl trivial ?_
      cases hr
      exact AJ.xz (by decide) (SK.at sK_x_isName 8 rfl) rfl
    · refine AJ.g sK_x_isName 7 1 (True) 15 [some (.int l0)] [.int 0] [] rfl trivial ?_
      cases hr
      exact AJ.xz (by decide) (SK.at sK_x_isName 8 rfl) rfl
theorem sK_town_holderOf : SK M_town_holderOf q_town_holderOf := sk_town_holderOf
set_option maxRecDepth 100000 in
set_option maxHeartbeats 4000000 in
theorem bt_town_holderOf_2 {d : Nat} {rr : Option Value} {h0 hF : List va_E} {names_ : Nat → Int32} {l1 : Int32} {l2 : Int32} {x : Int32 ⊕ (Int32 ⊕ Unit)} (hr : fb_town_holderOf_2 names_ l1 l2 = some x) (hx : Sum.elim (fun s : Int32 => AJ (M_town_holderOf, d + 1, rr, h0, hF) 2 [some (.ref 0), some (.int l1), some (.int s)] [] (h_town_holderOf names_)) (Sum.elim (fun s : Int32 => AJ (M_town_holderOf, d + 1, rr, h0, hF) 21 [none, none, some (.int s)] [] (h_town_holderOf names_)) (fun s : Unit => AJ (M_town_holderOf, d + 1, rr, h0, hF) 29 [] [] (h_town_holderOf names_))) x) : AJ (M_town_holderOf, d + 1, rr, h0, hF) 2 [some (.ref 0), some (.int l1), some (.int l2)] [] (h_town_holderOf names_) := by
  unfold fb_town_holderOf_2 at hr
  refine AJ.g sK_town_holderOf 2 4 (True) 8 [some (.ref 0), some (.int l1), some (.int l2)] [.int 8, .int l2] (h_town_holderOf names_) rfl trivial ?_
  refine AJ.iF hr (SK.at sK_town_holderOf 6 rfl) 29 11 rfl rfl rfl (fun hr => ?_) (fun hr => ?_)
  · refine k_grd hr (fun g1 hr => ?_)
    refine AJ.g sK_town_holderOf 7 5 (inb l2 8 ∧ True) 18 [some (.ref 0), some (.int l1), some (.int l2)] [.int l1, .int (names_ (ix l2))] (h_town_holderOf names_) rfl ⟨g1, trivial⟩ ?_
    refine AJ.iF hr (SK.at sK_town_holderOf 12 rfl) 23 21 rfl rfl rfl (fun hr => ?_) (fun hr => ?_)
    · cases hr
      refine AJ.fg [false, false, true] [none, none, some (.int l2)] rfl ?_
      exact hx
    · refine AJ.g sK_town_holderOf 15 2 (True) 2 [some (.ref 0), some (.int l1), some (.int (l2 + 1))] [] (h_town_holderOf names_) rfl trivial ?_
      cases hr
      refine AJ.fg [true, true, true] [some (.ref 0), some (.int l1), some (.int (l2 + 1))] rfl ?_
      exact hx
  · cases hr
    refine AJ.fg [] [] rfl ?_
    exact hx
set_option maxRecDepth 100000 in
set_option maxHeartbeats 4000000 in
theorem c_town_holderOf {d : Nat} {names_ : Nat → Int32} {l1 : Int32} {r0 : Int32} (hr : f_town_holderOf names_ l1 = some r0) : Ctr (d + 1) M_town_holderOf [.ref 0, .int l1] (h_town_holderOf names_) (some (.int r0)) (h_town_holderOf names_) := by
  refine Ctr.start pn_town [some (.ref 0), some (.int l1)] (Nat.le_of_ble_eq_true rfl) rfl ?_
  unfold f_town_holderOf at hr
  refine AJ.g sK_town_holderOf 0 2 (True) 2 [some (.ref 0), some (.int l1), some (.int 0)] [] (h_town_holderOf names_) rfl trivial ?_
  refine k_bs hr (fun z he hr => ?_) (fun z he hr => ?_)
  · obtain ⟨l2_2, rfl⟩ : ∃ w, w = z := ⟨_, rfl⟩
    refine AJ.fg [true, true, true] [some (.ref 0), some (.int l1), some (.int 0)] rfl ?_
    refine itr_ok (fb_town_holderOf_2 names_ l1) (fun s : Int32 => AJ _ 2 [some (.ref 0), some (.int l1), some (.int s)] [] (h_town_holderOf names_)) (Sum.elim (fun s : Int32 => AJ _ 21 [none, none, some (.int s)] [] (h_town_holderOf names_)) (fun s : Unit => AJ _ 29 [] [] (h_town_holderOf names_))) (fun s x hb hx => bt_town_holderOf_2 hb hx) KF 0 (.inl l2_2) he (show AJ _ 21 [none, none, some (.int l2_2)] [] (h_town_holderOf names_) from ?_)
    refine AJ.g sK_town_holderOf 13 1 (True) 22 [none, none, some (.int l2_2)] [.int l2_2] (h_town_holderOf names_) rfl trivial ?_
    cases hr
    exact AJ.xi (SK.at sK_town_holderOf 14 rfl) rfl
  · refine AJ.fg [true, true, true] [some (.ref 0), some (.int l1), some (.int 0)] rfl ?_
    refine itr_ok (fb_town_holderOf_2 names_ l1) (fun s : Int32 => AJ _ 2 [some (.ref 0), some (.int l1), some (.int s)] [] (h_town_holderOf names_)) (Sum.elim (fun s : Int32 => AJ _ 21 [none, none, some (.int s)] [] (h_town_holderOf names_)) (fun s : Unit => AJ _ 29 [] [] (h_town_holderOf names_))) (fun s x hb hx => bt_town_holderOf_2 hb hx) KF 0 (.inr (())) he (show AJ _ 29 [] [] (h_town_holderOf names_) from ?_)
    refine AJ.g sK_town_holderOf 17 1 (True) 30 [] [.int (-1)] (h_town_holderOf names_) rfl trivial ?_
    cases hr
    exact AJ.xi (SK.at sK_town_holderOf 18 rfl) rfl
theorem sK_x_called : SK M_x_called q_x_called := sk_x_called
set_option maxRecDepth 100000 in
set_option maxHeartbeats 4000000 in
theorem c_x_called {d : Nat} {now_people_ : Int32} {now_gates_ : Int32} {now_hour_ : Int32} {now_texts_ : Int32} {now_ruling_ : Int32} {now_x_ : Int32} {now_town_names_ : Nat → Int32} {l1 : Int32} {r0 : Int32} (hr : f_x_called now_town_names_ l1 = some r0) : Ctr (d + 2) M_x_called [.ref 0, .int l1] (h_x_called now_people_ now_gates_ now_hour_ now_texts_ now_ruling_ now_x_ now_town_names_) (some (.int r0)) (h_x_called now_people_ now_gates_ now_hour_ now_texts_ now_ruling_ now_x_ now_town_names_) := by
  refine Ctr.start pn_x [some (.ref 0), some (.int l1)] (Nat.le_of_ble_eq_true rfl) rfl ?_
  unfold f_x_called at hr
  refine AJ.g sK_x_called 0 1 (True) 1 [some (.ref 0), some (.int l1)] [.int l1] (h_x_called now_people_ now_gates_ now_hour_ now_texts_ now_ruling_ now_x_ now_town_names_) rfl trivial ?_
  refine k_b1 hr (fun r1 e4 hr => ?_)
  refine AJ.eS mk_x_isName (SK.at sK_x_called 1 rfl) lk_11_165 (c_x_isName  e4) [] [] [] [] 4 [.int r1] (h_x_called now_people_ now_gates_ now_hour_ now_texts_ now_ruling_ now_x_ now_town_names_) rfl rfl (by decide +kernel) rfl rfl rfl rfl rfl (Nat.le_of_ble_eq_true rfl) rfl rfl rfl ?_
  refine AJ.iT hr (SK.at sK_x_called 2 rfl) 21 7 rfl rfl rfl (fun hr => ?_) (fun hr => ?_)
  · refine AJ.g sK_x_called 9 1 (True) 22 [some (.ref 0), some (.int l1)] [.int (-1)] (h_x_called now_people_ now_gates_ now_hour_ now_texts_ now_ruling_ now_x_ now_town_names_) rfl trivial ?_
    cases hr
    exact AJ.xi (SK.at sK_x_called 10 rfl) rfl
  · refine AJ.g sK_x_called 3 4 (True) 15 [some (.ref 0), some (.int l1)] [.int l1, .ref 2] (h_x_called now_people_ now_gates_ now_hour_ now_texts_ now_ruling_ now_x_ now_town_names_) rfl trivial ?_
    refine k_b1 hr (fun r2 e3 hr => ?_)
    refine AJ.eV mk_town_holderOf (SK.at sK_x_called 7 rfl) lk_11_168 (c_town_holderOf (names_ := now_town_names_) e3) [2, 3] [19, 20] [] [] 18 [.int r2] (h_x_called now_people_ now_gates_ now_hour_ now_texts_ now_ruling_ now_x_ now_town_names_) rfl rfl rfl rfl rfl (by decide +kernel) rfl rfl rfl rfl rfl (Nat.le_of_ble_eq_true rfl) rfl rfl rfl ?_
    refine AJ.g sK_x_called 8 1 (True) 22 [some (.ref 0), some (.int l1)] [.int r2] (h_x_called now_people_ now_gates_ now_hour_ now_texts_ now_ruling_ now_x_ now_town_names_) rfl trivial ?_
    cases hr
    exact AJ.xi (SK.at sK_x_called 10 rfl) rfl
theorem sK_x_heap : SK M_x_heap q_x_heap := sk_x_heap
set_option maxRecDepth 100000 in
set_option maxHeartbeats 4000000 in
theorem c_x_heap {d : Nat} {now_people_ : Int32} {now_gates_ : Int32} {now_hour_ : Int32} {now_texts_ : Int32} {now_ruling_ : Int32} {now_x_ : Int32} {now_town_sizes_ : Nat → Int32} {now_town_heaps_ : Nat → Nat → Int32} {l1 : Int32} {l2 : Int32} {r0 : Int32} (hr : f_x_heap now_gates_ now_town_sizes_ now_town_heaps_ l1 l2 = some r0) : Ctr (d + 3) M_x_heap [.ref 0, .int l1, .int l2] (h_x_heap now_people_ now_gates_ now_hour_ now_texts_ now_ruling_ now_x_ now_town_sizes_ now_town_heaps_) (some (.int r0)) (h_x_heap now_people_ now_gates_ now_hour_ now_texts_ now_ruling_ now_x_ now_town_sizes_ now_town_heaps_) := by
  refine Ctr.start pn_x [some (.ref 0), some (.int l1), some (.int l2)] (Nat.le_of_ble_eq_true rfl) rfl ?_
  unfold f_x_heap at hr
  refine AJ.g sK_x_heap 0 3 (True) 5 [some (.ref 0), some (.int l1), some (.int l2)] [.int l1, .ref 1] (h_x_heap now_people_ now_gates_ now_hour_ now_texts_ now_ruling_ now_x_ now_town_sizes_ now_town_heaps_) rfl trivial ?_
  refine k_b1 hr (fun r1 e6 hr => ?_)
  refine AJ.eV mk_world_hasGate (SK.at sK_x_heap 3 rfl) lk_11_171 (c_world_hasGate (people_ := now_people_) (gates_ := now_gates_) (hour_ := now_hour_) (texts_ := now_texts_) (ruling_ := now_ruling_) (x_ := now_x_) e6) [1] [16, 17, 18, 19, 2, 20, 21, 22] [] [] 8 [.int r1] (h_x_heap now_people_ now_gates_ now_hour_ now_texts_ now_ruling_ now_x_ now_town_sizes_ now_town_heaps_) rfl rfl rfl rfl rfl (by decide +kernel) rfl rfl rfl rfl rfl (Nat.le_of_ble_eq_true rfl) rfl rfl rfl ?_
  refine AJ.iF hr (SK.at sK_x_heap 4 rfl) 13 11 rfl rfl rfl (fun hr => ?_) (fun hr => ?_)
  · refine AJ.g sK_x_heap 5 1 (True) 12 [some (.ref 0), some (.int l1), some (.int l2)] [.int (-1)] (h_x_heap now_people_ now_gates_ now_hour_ now_texts_ now_ruling_ now_x_ now_town_sizes_ now_town_heaps_) rfl trivial ?_
    cases hr
    exact AJ.xi (SK.at sK_x_heap 6 rfl) rfl
  · refine AJ.g sK_x_heap 7 2 (True) 15 [some (.ref 0), some (.int l1), some (.int l2)] [.int (-1), .int l2] (h_x_heap now_people_ now_gates_ now_hour_ now_texts_ now_ruling_ now_x_ now_town_sizes_ now_town_heaps_) rfl trivial ?_
    refine AJ.iF hr (SK.at sK_x_heap 9 rfl) 32 18 rfl rfl rfl (fun hr => ?_) (fun hr => ?_)
    · refine AJ.g sK_x_heap 10 4 (True) 26 [some (.ref 0), some (.int l1), some (.int l2)] [.int l1, .ref 2] (h_x_heap now_people_ now_gates_ now_hour_ now_texts_ now_ruling_ now_x_ now_town_sizes_ now_town_heaps_) rfl trivial ?_
      refine k_b1 hr (fun r4 e5 hr => ?_)
      refine AJ.eV mk_town_sizeOf (SK.at sK_x_heap 14 rfl) lk_11_174 (c_town_sizeOf (sizes_ := now_town_sizes_) e5) [2, 3] [23, 4] [] [] 29 [.int r4] (h_x_heap now_people_ now_gates_ now_hour_ now_texts_ now_ruling_ now_x_ now_town_sizes_ now_town_heaps_) rfl rfl rfl rfl rfl (by decide +kernel) rfl rfl rfl rfl rfl (Nat.le_of_ble_eq_true rfl) rfl rfl rfl ?_
      refine AJ.g sK_x_heap 15 1 (True) 44 [some (.ref 0), some (.int l1), some (.int l2)] [.int r4] (h_x_heap now_people_ now_gates_ now_hour_ now_texts_ now_ruling_ now_x_ now_town_sizes_ now_town_heaps_) rfl trivial ?_
      cases hr
      exact AJ.xi (SK.at sK_x_heap 22 rfl) rfl
    · refine AJ.g sK_x_heap 16 5 (True) 41 [some (.ref 0), some (.int l1), some (.int l2)] [.int l2, .int l1, .ref 2] (h_x_heap now_people_ now_gates_ now_hour_ now_texts_ now_ruling_ now_x_ now_town_sizes_ now_town_heaps_) rfl trivial ?_
      refine k_b1 hr (fun r2 e3 hr => ?_)
      refine AJ.eV mk_town_nameAt (SK.at sK_x_heap 21 rfl) lk_11_177 (c_town_nameAt (sizes_ := now_town_sizes_) (heaps_ := now_town_heaps_) e3) [2, 3, 4, 5, 6, 7] [23] [] [] 44 [.int r2] (h_x_heap now_people_ now_gates_ now_hour_ now_texts_ now_ruling_ now_x_ now_town_sizes_ now_town_heaps_) rfl rfl rfl rfl rfl (by decide +kernel) rfl rfl rfl rfl rfl (Nat.le_of_ble_eq_true rfl) rfl rfl rfl ?_
      cases hr
      exact AJ.xi (SK.at sK_x_heap 22 rfl) rfl
theorem sK_tri_add : SK M_tri_add q_tri_add := sk_tri_add
set_option maxRecDepth 100000 in
set_option maxHeartbeats 4000000 in
theorem c_tri_add {d : Nat} {size_ : Int32} {cells_n : Nat} {cells_ : Nat → Int32} {l1 : Int32} {l2 : Int32} {l3 : Int32} {r0 : Int32} {size_Z : Int32} {cells_Z : Nat → Int32} (hr : f_tri_add size_ cells_n cells_ l1 l2 l3 = some (r0, size_Z, cells_Z)) : Ctr (d + 1) M_tri_add [.ref 0, .int l1, .int l2, .int l3] (h_tri_add size_ cells_n cells_) (some (.int r0)) (h_tri_add size_Z cells_n cells_Z) := by
  refine Ctr.start pn_tri [some (.ref 0), some (.int l1), some (.int l2), some (.int l3)] (Nat.le_of_ble_eq_true rfl) rfl ?_
  unfold f_tri_add at hr
  refine AJ.g sK_tri_add 0 6 (True) 10 [some (.ref 0), some (.int l1), some (.int l2), some (.int l3), some (.int (size_ * 3))] [.int (size_ * 3)] (h_tri_add size_ cells_n cells_) rfl trivial ?_
  refine AJ.iT hr (SK.at sK_tri_add 6 rfl) 25 13 rfl rfl rfl (fun hr => ?_) (fun hr => ?_)
  · refine AJ.g sK_tri_add 14 1 (True) 26 [some (.ref 0), some (.int l1), some (.int l2), some (.int l3), some (.int (size_ * 3))] [.int (-1)] (h_tri_add size_ cells_n cells_) rfl trivial ?_
    cases hr
    exact AJ.xi (SK.at sK_tri_add 15 rfl) rfl
  · refine AJ.g sK_tri_add 7 6 (True) 22 [some (.ref 0), some (.int l1), some (.int l2), some (.int l3), some (.int (size_ * 3))] [.int (Int32.ofNat cells_n), .int ((size_ * 3) + 3)] (h_tri_add size_ cells_n cells_) rfl trivial ?_
    refine AJ.iF hr (SK.at sK_tri_add 13 rfl) 27 25 rfl rfl rfl (fun hr => ?_) (fun hr => ?_)
    · refine AJ.g sK_tri_add 14 1 (True) 26 [some (.ref 0), some (.int l1), some (.int l2), some (.int l3), some (.int (size_ * 3))] [.int (-1)] (h_tri_add size_ cells_n cells_) rfl trivial ?_
      cases hr
      exact AJ.xi (SK.at sK_tri_add 15 rfl) rfl
    · refine k_grd hr (fun g1 hr => ?_)
      refine AJ.g sK_tri_add 16 5 (inb (size_ * 3) cells_n ∧ True) 35 [some (.ref 0), some (.int l1), some (.int l2), some (.int l3), some (.int (size_ * 3))] [] (h_tri_add size_ cells_n (upd cells_ (ix (size_ * 3)) l1)) rfl ⟨g1, trivial⟩ ?_
      replace hr := k_bnd hr
      generalize (upd cells_ (ix (size_ * 3)) l1 : Nat → Int32) = cells_2 at hr ⊢
      refine k_grd hr (fun g3 hr => ?_)
      refine AJ.g sK_tri_add 21 7 (inb ((size_ * 3) + 1) cells_n ∧ True) 45 [some (.ref 0), some (.int l1), some (.int l2), some (.int l3), some (.int (size_ * 3))] [] (h_tri_add size_ cells_n (upd cells_2 (ix ((size_ * 3) + 1)) l2)) rfl ⟨g3, trivial⟩ ?_
      replace hr := k_bnd hr
      generalize (upd cells_2 (ix ((size_ * 3) + 1)) l2 : Nat → Int32) = cells_4 at hr ⊢
      refine k_grd hr (fun g5 hr => ?_)
      refine AJ.g sK_tri_add 28 7 (inb ((size_ * 3) + 2) cells_n ∧ True) 55 [some (.ref 0), some (.int l1), some (.int l2), some (.int l3), some (.int (size_ * 3))] [] (h_tri_add size_ cells_n (upd cells_4 (ix ((size_ * 3) + 2)) l3)) rfl ⟨g5, trivial⟩ ?_
      replace hr := k_bnd hr
      generalize (upd cells_4 (ix ((size_ * 3) + 2)) l3 : Nat → Int32) = cells_6 at hr ⊢
      refine AJ.g sK_tri_add 35 8 (True) 69 [some (.ref 0), some (.int l1), some (.int l2), some (.int l3), some (.int (size_ * 3))] [.int (size_ + 1)] (h_tri_add (size_ + 1) cells_n cells_6) rfl trivial ?_
      cases hr
      exact AJ.xi (SK.at sK_tri_add 43 rfl) rfl
theorem sK_x_deed : SK M_x_deed q_x_deed := sk_x_deed
set_option maxRecDepth 100000 in
set_option maxHeartbeats 4000000 in
theorem c_x_deed {d : Nat} {now_people_ : Int32} {now_gates_ : Int32} {now_hour_ : Int32} {now_texts_ : Int32} {now_ruling_ : Int32} {now_x_ : Int32} {now_deeds_size_ : Int32} {now_town_names_ : Nat → Int32} {now_deeds_cells_ : Nat → Int32} {l1 : Int32} {l2 : Int32} {r0 : Int32} {now_deeds_size_Z : Int32} {now_deeds_cells_Z : Nat → Int32} (hr : f_x_deed now_deeds_size_ now_town_names_ now_deeds_cells_ l1 l2 = some (r0, now_deeds_size_Z, now_deeds_cells_Z)) : Ctr (d + 2) M_x_deed [.ref 0, .int l1, .int l2] (h_x_deed now_people_ now_gates_ now_hour_ now_texts_ now_ruling_ now_x_ now_deeds_size_ now_town_names_ now_deeds_cells_) (some (.int r0)) (h_x_deed now_people_ now_gates_ now_hour_ now_texts_ now_ruling_ now_x_ now_deeds_size_Z now_town_names_ now_deeds_cells_Z) := by
  refine Ctr.start pn_x [some (.ref 0), some (.int l1), some (.int l2)] (Nat.le_of_ble_eq_true rfl) rfl ?_
  unfold f_x_deed at hr
  refine AJ.g sK_x_deed 0 1 (True) 1 [some (.ref 0), some (.int l1), some (.int l2)] [.int l1] (h_x_deed now_people_ now_gates_ now_hour_ now_texts_ now_ruling_ now_x_ now_deeds_size_ now_town_names_ now_deeds_cells_) rfl trivial ?_
  refine k_b1 hr (fun r1 e8 hr => ?_)
  refine AJ.eS mk_x_isName (SK.at sK_x_deed 1 rfl) lk_11_165 (c_x_isName  e8) [] [] [] [] 4 [.int r1] (h_x_deed now_people_ now_gates_ now_hour_ now_texts_ now_ruling_ now_x_ now_deeds_size_ now_town_names_ now_deeds_cells_) rfl rfl (by decide +kernel) rfl rfl rfl rfl rfl (Nat.le_of_ble_eq_true rfl) rfl rfl rfl ?_
  refine AJ.iT hr (SK.at sK_x_deed 2 rfl) 19 7 rfl rfl rfl (fun hr => ?_) (fun hr => ?_)
  · refine AJ.g sK_x_deed 9 1 (True) 20 [some (.ref 0), some (.int l1), some (.int l2)] [.int (-1)] (h_x_deed now_people_ now_gates_ now_hour_ now_texts_ now_ruling_ now_x_ now_deeds_size_ now_town_names_ now_deeds_cells_) rfl trivial ?_
    cases hr
    exact AJ.xi (SK.at sK_x_deed 10 rfl) rfl
  · refine AJ.g sK_x_deed 3 2 (True) 9 [some (.ref 0), some (.int l1), some (.int l2)] [.int 1, .int l2] (h_x_deed now_people_ now_gates_ now_hour_ now_texts_ now_ruling_ now_x_ now_deeds_size_ now_town_names_ now_deeds_cells_) rfl trivial ?_
    refine AJ.iT hr (SK.at sK_x_deed 5 rfl) 19 12 rfl rfl rfl (fun hr => ?_) (fun hr => ?_)
    · refine AJ.g sK_x_deed 9 1 (True) 20 [some (.ref 0), some (.int l1), some (.int l2)] [.int (-1)] (h_x_deed now_people_ now_gates_ now_hour_ now_texts_ now_ruling_ now_x_ now_deeds_size_ now_town_names_ now_deeds_cells_) rfl trivial ?_
      cases hr
      exact AJ.xi (SK.at sK_x_deed 10 rfl) rfl
    · refine AJ.g sK_x_deed 6 2 (True) 16 [some (.ref 0), some (.int l1), some (.int l2)] [.int 999, .int l2] (h_x_deed now_people_ now_gates_ now_hour_ now_texts_ now_ruling_ now_x_ now_deeds_size_ now_town_names_ now_deeds_cells_) rfl trivial ?_
      refine AJ.iF hr (SK.at sK_x_deed 8 rfl) 21 19 rfl rfl rfl (fun hr => ?_) (fun hr => ?_)
      · refine AJ.g sK_x_deed 9 1 (True) 20 [some (.ref 0), some (.int l1), some (.int l2)] [.int (-1)] (h_x_deed now_people_ now_gates_ now_hour_ now_texts_ now_ruling_ now_x_ now_deeds_size_ now_town_names_ now_deeds_cells_) rfl trivial ?_
        cases hr
        exact AJ.xi (SK.at sK_x_deed 10 rfl) rfl
      · refine AJ.g sK_x_deed 11 4 (True) 29 [some (.ref 0), some (.int l1), some (.int l2)] [.int l1, .ref 2] (h_x_deed now_people_ now_gates_ now_hour_ now_texts_ now_ruling_ now_x_ now_deeds_size_ now_town_names_ now_deeds_cells_) rfl trivial ?_
        refine k_b1 hr (fun r2 e7 hr => ?_)
        refine AJ.eV mk_town_holderOf (SK.at sK_x_deed 15 rfl) lk_11_168 (c_town_holderOf (names_ := now_town_names_) e7) [2, 4] [20, 21] [] [] 32 [.int r2] (h_x_deed now_people_ now_gates_ now_hour_ now_texts_ now_ruling_ now_x_ now_deeds_size_ now_town_names_ now_deeds_cells_) rfl rfl rfl rfl rfl (by decide +kernel) rfl rfl rfl rfl rfl (Nat.le_of_ble_eq_true rfl) rfl rfl rfl ?_
        refine AJ.g sK_x_deed 16 3 (True) 35 [some (.ref 0), some (.int l1), some (.int l2), some (.int r2)] [.int (-1), .int r2] (h_x_deed now_people_ now_gates_ now_hour_ now_texts_ now_ruling_ now_x_ now_deeds_size_ now_town_names_ now_deeds_cells_) rfl trivial ?_
        refine AJ.iF hr (SK.at sK_x_deed 19 rfl) 42 38 rfl rfl rfl (fun hr => ?_) (fun hr => ?_)
        · refine AJ.g sK_x_deed 20 2 (True) 55 [some (.ref 0), some (.int l1), some (.int l2), some (.int r2)] [.int (-1)] (h_x_deed now_people_ now_gates_ now_hour_ now_texts_ now_ruling_ now_x_ now_deeds_size_ now_town_names_ now_deeds_cells_) rfl trivial ?_
          cases hr
          exact AJ.xi (SK.at sK_x_deed 29 rfl) rfl
        · refine AJ.g sK_x_deed 22 6 (True) 52 [some (.ref 0), some (.int l1), some (.int l2), some (.int r2)] [.int r2, .int l2, .int l1, .ref 3] (h_x_deed now_people_ now_gates_ now_hour_ now_texts_ now_ruling_ now_x_ now_deeds_size_ now_town_names_ now_deeds_cells_) rfl trivial ?_
          refine k_b3 hr (fun r3 now_deeds_size_4 now_deeds_cells_5 e6 hr => ?_)
          refine AJ.eV mk_tri_add (SK.at sK_x_deed 28 rfl) lk_11_184 (c_tri_add (size_ := now_deeds_size_) (cells_n := 60) (cells_ := now_deeds_cells_) e6) [3, 5] [] [0, 1] [] 55 [.int r3] (h_x_deed now_people_ now_gates_ now_hour_ now_texts_ now_ruling_ now_x_ now_deeds_size_4 now_town_names_ now_deeds_cells_5) rfl rfl rfl rfl rfl (by decide +kernel) rfl rfl rfl rfl rfl (Nat.le_of_ble_eq_true rfl) rfl rfl rfl ?_
          cases hr
          exact AJ.xi (SK.at sK_x_deed 29 rfl) rfl
theorem sK_x_owes : SK M_x_owes q_x_owes := sk_x_owes
set_option maxRecDepth 100000 in
set_option maxHeartbeats 4000000 in
theorem c_x_owes {d : Nat} {now_people_ : Int32} {now_gates_ : Int32} {now_hour_ : Int32} {now_texts_ : Int32} {now_ruling_ : Int32} {now_x_ : Int32} {now_deeds_size_ : Int32} {now_deeds_cells_ : Nat → Int32} {l1 : Int32} {r0 : Int32} (hr : f_x_owes now_deeds_size_ now_deeds_cells_ l1 = some r0) : Ctr (d + 4) M_x_owes [.ref 0, .int l1] (h_x_owes now_people_ now_gates_ now_hour_ now_texts_ now_ruling_ now_x_ now_deeds_size_ now_deeds_cells_) (some (.int r0)) (h_x_owes now_people_ now_gates_ now_hour_ now_texts_ now_ruling_ now_x_ now_deeds_size_ now_deeds_cells_) := by
  refine Ctr.start pn_x [some (.ref 0), some (.int l1)] (Nat.le_of_ble_eq_true rfl) rfl ?_
  unfold f_x_owes at hr
  refine AJ.g sK_x_owes 0 1 (True) 1 [some (.ref 0), some (.int l1)] [.int l1] (h_x_owes now_people_ now_gates_ now_hour_ now_texts_ now_ruling_ now_x_ now_deeds_size_ now_deeds_cells_) rfl trivial ?_
  refine k_b1 hr (fun r1 e4 hr => ?_)
  refine AJ.eS mk_x_isName (SK.at sK_x_owes 1 rfl) lk_11_165 (c_x_isName  e4) [] [] [] [] 4 [.int r1] (h_x_owes now_people_ now_gates_ now_hour_ now_texts_ now_ruling_ now_x_ now_deeds_size_ now_deeds_cells_) rfl rfl (by decide +kernel) rfl rfl rfl rfl rfl (Nat.le_of_ble_eq_true rfl) rfl rfl rfl ?_
  refine AJ.iT hr (SK.at sK_x_owes 2 rfl) 18 7 rfl rfl rfl (fun hr => ?_) (fun hr => ?_)
  · refine AJ.g sK_x_owes 8 1 (True) 19 [some (.ref 0), some (.int l1)] [.int (-1)] (h_x_owes now_people_ now_gates_ now_hour_ now_texts_ now_ruling_ now_x_ now_deeds_size_ now_deeds_cells_) rfl trivial ?_
    cases hr
    exact AJ.xi (SK.at sK_x_owes 9 rfl) rfl
  · refine AJ.g sK_x_owes 3 3 (True) 12 [some (.ref 0), some (.int l1)] [.int l1, .ref 1] (h_x_owes now_people_ now_gates_ now_hour_ now_texts_ now_ruling_ now_x_ now_deeds_size_ now_deeds_cells_) rfl trivial ?_
    refine k_b1 hr (fun r2 e3 hr => ?_)
    refine AJ.eV mk_world_owedUnder (SK.at sK_x_owes 6 rfl) lk_11_155 (c_world_owedUnder (people_ := now_people_) (gates_ := now_gates_) (hour_ := now_hour_) (texts_ := now_texts_) (ruling_ := now_ruling_) (x_ := now_x_) (deeds_size_ := now_deeds_size_) (deeds_cells_ := now_deeds_cells_) e3) [1, 2, 3] [12, 13, 14, 15, 16, 17, 18] [] [] 15 [.int r2] (h_x_owes now_people_ now_gates_ now_hour_ now_texts_ now_ruling_ now_x_ now_deeds_size_ now_deeds_cells_) rfl rfl rfl rfl rfl (by decide +kernel) rfl rfl rfl rfl rfl (Nat.le_of_ble_eq_true rfl) rfl rfl rfl ?_
    refine AJ.g sK_x_owes 7 1 (True) 19 [some (.ref 0), some (.int l1)] [.int r2] (h_x_owes now_people_ now_gates_ now_hour_ now_texts_ now_ruling_ now_x_ now_deeds_size_ now_deeds_cells_) rfl trivial ?_
    cases hr
    exact AJ.xi (SK.at sK_x_owes 9 rfl) rfl
theorem sK_x_row : SK M_x_row q_x_row := sk_x_row
set_option maxRecDepth 100000 in
set_option maxHeartbeats 4000000 in
theorem c_x_row {d : Nat} {now_people_ : Int32} {now_gates_ : Int32} {now_hour_ : Int32} {now_texts_ : Int32} {now_ruling_ : Int32} {now_x_ : Int32} {now_row_size_ : Int32} {now_row_cells_ : Nat → Int32} {l1 : Int32} {l2 : Int32} {r0 : Int32} {now_row_size_Z : Int32} {now_row_cells_Z : Nat → Int32} (hr : f_x_row now_people_ now_gates_ now_row_size_ now_row_cells_ l1 l2 = some (r0, now_row_size_Z, now_row_cells_Z)) : Ctr (d + 2) M_x_row [.ref 0, .int l1, .int l2] (h_x_row now_people_ now_gates_ now_hour_ now_texts_ now_ruling_ now_x_ now_row_size_ now_row_cells_) (some (.int r0)) (h_x_row now_people_ now_gates_ now_hour_ now_texts_ now_ruling_ now_x_ now_row_size_Z now_row_cells_Z) := by
  refine Ctr.start pn_x [some (.ref 0), some (.int l1), some (.int l2)] (Nat.le_of_ble_eq_true rfl) rfl ?_
  unfold f_x_row at hr
  refine AJ.g sK_x_row 0 2 (True) 2 [some (.ref 0), some (.int l1), some (.int l2)] [.int (-1), .int l1] (h_x_row now_people_ now_gates_ now_hour_ now_texts_ now_ruling_ now_x_ now_row_size_ now_row_cells_) rfl trivial ?_
  refine AJ.iF hr (SK.at sK_x_row 2 rfl) 18 5 rfl rfl rfl (fun hr => ?_) (fun hr => ?_)
  · refine AJ.g sK_x_row 3 6 (True) 17 [some (.ref 0), some (.int l1), some (.int l2)] [.int 0] (h_x_row now_people_ now_gates_ now_hour_ now_texts_ now_ruling_ now_x_ 0 now_row_cells_) rfl trivial ?_
    cases hr
    exact AJ.xi (SK.at sK_x_row 9 rfl) rfl
  · refine AJ.g sK_x_row 10 3 (True) 23 [some (.ref 0), some (.int l1), some (.int l2)] [.int l1, .ref 1] (h_x_row now_people_ now_gates_ now_hour_ now_texts_ now_ruling_ now_x_ now_row_size_ now_row_cells_) rfl trivial ?_
    refine k_b1 hr (fun r1 e8 hr => ?_)
    refine AJ.eV mk_world_hasPerson (SK.at sK_x_row 13 rfl) lk_11_135 (c_world_hasPerson (people_ := now_people_) (gates_ := now_gates_) (hour_ := now_hour_) (texts_ := now_texts_) (ruling_ := now_ruling_) (x_ := now_x_) e8) [1] [12, 13, 14, 15, 16, 17, 2, 18] [] [] 26 [.int r1] (h_x_row now_people_ now_gates_ now_hour_ now_texts_ now_ruling_ now_x_ now_row_size_ now_row_cells_) rfl rfl rfl rfl rfl (by decide +kernel) rfl rfl rfl rfl rfl (Nat.le_of_ble_eq_true rfl) rfl rfl rfl ?_
    refine AJ.iT hr (SK.at sK_x_row 14 rfl) 40 29 rfl rfl rfl (fun hr => ?_) (fun hr => ?_)
    · refine AJ.g sK_x_row 20 1 (True) 41 [some (.ref 0), some (.int l1), some (.int l2)] [.int (-1)] (h_x_row now_people_ now_gates_ now_hour_ now_texts_ now_ruling_ now_x_ now_row_size_ now_row_cells_) rfl trivial ?_
      cases hr
      exact AJ.xi (SK.at sK_x_row 21 rfl) rfl
    · refine AJ.g sK_x_row 15 3 (True) 34 [some (.ref 0), some (.int l1), some (.int l2)] [.int l2, .ref 1] (h_x_row now_people_ now_gates_ now_hour_ now_texts_ now_ruling_ now_x_ now_row_size_ now_row_cells_) rfl trivial ?_
      refine k_b1 hr (fun r2 e7 hr => ?_)
      refine AJ.eV mk_world_hasGate (SK.at sK_x_row 18 rfl) lk_11_171 (c_world_hasGate (people_ := now_people_) (gates_ := now_gates_) (hour_ := now_hour_) (texts_ := now_texts_) (ruling_ := now_ruling_) (x_ := now_x_) e7) [1] [12, 13, 14, 15, 16, 17, 2, 18] [] [] 37 [.int r2] (h_x_row now_people_ now_gates_ now_hour_ now_texts_ now_ruling_ now_x_ now_row_size_ now_row_cells_) rfl rfl rfl rfl rfl (by decide +kernel) rfl rfl rfl rfl rfl (Nat.le_of_ble_eq_true rfl) rfl rfl rfl ?_
      refine AJ.iF hr (SK.at sK_x_row 19 rfl) 42 40 rfl rfl rfl (fun hr => ?_) (fun hr => ?_)
      · refine AJ.g sK_x_row 20 1 (True) 41 [some (.ref 0), some (.int l1), some (.int l2)] [.int (-1)] (h_x_row now_people_ now_gates_ now_hour_ now_texts_ now_ruling_ now_x_ now_row_size_ now_row_cells_) rfl trivial ?_
        cases hr
        exact AJ.xi (SK.at sK_x_row 21 rfl) rfl
      · refine AJ.g sK_x_row 22 6 (True) 52 [some (.ref 0), some (.int l1), some (.int l2)] [.int 0, .int l2, .int l1, .ref 2] (h_x_row now_people_ now_gates_ now_hour_ now_texts_ now_ruling_ now_x_ now_row_size_ now_row_cells_) rfl trivial ?_
        refine k_b3 hr (fun r3 now_row_size_4 now_row_cells_5 e6 hr => ?_)
        refine AJ.eV mk_tri_add (SK.at sK_x_row 28 rfl) lk_11_184 (c_tri_add (size_ := now_row_size_) (cells_n := 36) (cells_ := now_row_cells_) e6) [2, 3] [] [0, 1] [] 55 [.int r3] (h_x_row now_people_ now_gates_ now_hour_ now_texts_ now_ruling_ now_x_ now_row_size_4 now_row_cells_5) rfl rfl rfl rfl rfl (by decide +kernel) rfl rfl rfl rfl rfl (Nat.le_of_ble_eq_true rfl) rfl rfl rfl ?_
        cases hr
        exact AJ.xi (SK.at sK_x_row 29 rfl) rfl
theorem sK_town_copyFrom : SK M_town_copyFrom q_town_copyFrom := sk_town_copyFrom
set_option maxRecDepth 100000 in
set_option maxHeartbeats 4000000 in
theorem bt_town_copyFrom_31 {d : Nat} {rr : Option Value} {h0 hF : List va_E} {names_ : Nat → Int32} {sizes_ : Nat → Int32} {heaps_ : Nat → Nat → Int32} {p1_names_ : Nat → Int32} {p1_sizes_ : Nat → Int32} {p1_heaps_ : Nat → Nat → Int32} {l2 : Int32} {x : (Int32 × (Nat → Nat → Int32)) ⊕ (Nat → Nat → Int32)} (hr : fb_town_copyFrom_31 p1_heaps_ l2 heaps_ = some x) (hx : Sum.elim (fun s : (Int32 × (Nat → Nat → Int32)) => AJ (M_town_copyFrom, d + 4, rr, h0, hF) 31 [some (.ref 0), some (.ref 7), some (.int s.1)] [] (h_town_copyFrom names_ sizes_ s.2 p1_names_ p1_sizes_ p1_heaps_)) (fun s : Nat → Nat → Int32 => AJ (M_town_copyFrom, d + 4, rr, h0, hF) 61 [] [] (h_town_copyFrom names_ sizes_ s p1_names_ p1_sizes_ p1_heaps_)) x) : AJ (M_town_copyFrom, d + 4, rr, h0, hF) 31 [some (.ref 0), some (.ref 7), some (.int l2)] [] (h_town_copyFrom names_ sizes_ heaps_ p1_names_ p1_sizes_ p1_heaps_) := by
  unfold fb_town_copyFrom_31 at hr
  refine AJ.g sK_town_copyFrom 18 2 (True) 33 [some (.ref 0), some (.ref 7), some (.int l2)] [.int 3, .int l2] (h_town_copyFrom names_ sizes_ heaps_ p1_names_ p1_sizes_ p1_heaps_) rfl trivial ?_
  refine AJ.iF hr (SK.at sK_town_copyFrom 20 rfl) 61 36 rfl rfl rfl (fun hr => ?_) (fun hr => ?_)
  · refine AJ.g sK_town_copyFrom 21 3 (True) 41 [some (.ref 0), some (.ref 7), some (.int l2)] [.int l2, .ref 10] (h_town_copyFrom names_ sizes_ heaps_ p1_names_ p1_sizes_ p1_heaps_) rfl trivial ?_
    refine k_grd hr (fun g3 hr => ?_)
    refine AJ.aal (c := 104) (x := rowp 11 l2) (fs := [.ref 11, .ref 12, .ref 13]) (SK.at sK_town_copyFrom 24 rfl) rfl (Or.inr rfl) g3 (cs3 (k := ix l2) (P := fun k => ([.ref 11, .ref 12, .ref 13] : List Value)[k]? = some (.ref (11 + k))) g3.2 rfl rfl rfl) ?_
    refine AJ.g sK_town_copyFrom 25 4 (True) 48 [some (.ref 0), some (.ref 7), some (.int l2)] [.int l2, .ref 3, .int 0, .ref (rowp 11 l2)] (h_town_copyFrom names_ sizes_ heaps_ p1_names_ p1_sizes_ p1_heaps_) rfl trivial ?_
    refine k_grd hr (fun g4 hr => ?_)
    refine AJ.aal (c := 104) (x := rowp 4 l2) (fs := [.ref 4, .ref 5, .ref 6]) (SK.at sK_town_copyFrom 29 rfl) rfl (Or.inr rfl) g4 (cs3 (k := ix l2) (P := fun k => ([.ref 4, .ref 5, .ref 6] : List Value)[k]? = some (.ref (4 + k))) g4.2 rfl rfl rfl) ?_
    refine AJ.g sK_town_copyFrom 30 2 (True) 52 [some (.ref 0), some (.ref 7), some (.int l2)] [.int 8, .int 0, .ref (rowp 4 l2), .int 0, .ref (rowp 11 l2)] (h_town_copyFrom names_ sizes_ heaps_ p1_names_ p1_sizes_ p1_heaps_) rfl trivial ?_
    refine AJ.acp cpW_ok (SK.at sK_town_copyFrom 32 rfl) lc_7_29 rfl rfl (Or.inl rfl) (cs3 (k := ix l2) (P := fun k => ((h_town_copyFrom names_ sizes_ heaps_ p1_names_ p1_sizes_ p1_heaps_))[11 + k]? = some (.inl (0, 8, .inl (p1_heaps_ k)))) (g3).2 rfl rfl rfl) (cs3 (k := ix l2) (P := fun k => ((h_town_copyFrom names_ sizes_ heaps_ p1_names_ p1_sizes_ p1_heaps_))[4 + k]? = some (.inl (0, 8, .inl (heaps_ k)))) (g4).2 rfl rfl rfl) (by decide) (by decide) (by decide) (by decide) (by decide) (fun h => by cases h) (Nat.le_of_ble_eq_true rfl) 55 rfl (h_town_copyFrom names_ sizes_ (setR heaps_ (ix l2) (va_cpy (p1_heaps_ (ix l2)) (heaps_ (ix l2)) 0 0 8)) p1_names_ p1_sizes_ p1_heaps_) (cs3 (k := ix l2) (P := fun k => ((h_town_copyFrom names_ sizes_ heaps_ p1_names_ p1_sizes_ p1_heaps_)).set (4 + k) (.inl (0, 8, .inl (va_cpy (p1_heaps_ (ix l2)) (heaps_ k) 0 0 8))) = (h_town_copyFrom names_ sizes_ (setR heaps_ k (va_cpy (p1_heaps_ (ix l2)) (heaps_ k) 0 0 8)) p1_names_ p1_sizes_ p1_heaps_)) (g4).2 rfl rfl rfl) ?_
    replace hr := k_bnd hr
    generalize (setR heaps_ (ix l2) (va_cpy (p1_heaps_ (ix l2)) (heaps_ (ix l2)) 0 0 8) : Nat → Nat → Int32) = heaps_5 at hr ⊢
    refine AJ.g sK_town_copyFrom 33 2 (True) 31 [some (.ref 0), some (.ref 7), some (.int (l2 + 1))] [] (h_town_copyFrom names_ sizes_ heaps_5 p1_names_ p1_sizes_ p1_heaps_) rfl trivial ?_
    cases hr
    refine AJ.fg [true, true, true] [some (.ref 0), some (.ref 7), some (.int (l2 + 1))] rfl ?_
    exact hx
  · cases hr
    refine AJ.fg [] [] rfl ?_
    exact hx
set_option maxRecDepth 100000 in
set_option maxHeartbeats 4000000 in
theorem c_town_copyFrom {d : Nat} {names_ : Nat → Int32} {sizes_ : Nat → Int32} {heaps_ : Nat → Nat → Int32} {p1_names_ : Nat → Int32} {p1_sizes_ : Nat → Int32} {p1_heaps_ : Nat → Nat → Int32}  {names_Z : Nat → Int32} {sizes_Z : Nat → Int32} {heaps_Z : Nat → Nat → Int32} (hr : f_town_copyFrom names_ sizes_ heaps_ p1_names_ p1_sizes_ p1_heaps_ = some (names_Z, sizes_Z, heaps_Z)) : Ctr (d + 4) M_town_copyFrom [.ref 0, .ref 7] (h_town_copyFrom names_ sizes_ heaps_ p1_names_ p1_sizes_ p1_heaps_) none (h_town_copyFrom names_Z sizes_Z heaps_Z p1_names_ p1_sizes_ p1_heaps_) := by
  refine Ctr.start pn_town [some (.ref 0), some (.ref 7)] (Nat.le_of_ble_eq_true rfl) rfl ?_
  unfold f_town_copyFrom at hr
  refine AJ.g sK_town_copyFrom 0 7 (True) 12 [some (.ref 0), some (.ref 7)] [.int 8, .int 0, .ref 1, .int 0, .ref 8] (h_town_copyFrom names_ sizes_ heaps_ p1_names_ p1_sizes_ p1_heaps_) rfl trivial ?_
  refine AJ.acp cpW_ok (SK.at sK_town_copyFrom 7 rfl) lc_7_29 rfl rfl (Or.inl rfl) rfl rfl (by decide) (by decide) (by decide) (by decide) (by decide) (fun h => by cases h) (Nat.le_of_ble_eq_true rfl) 15 rfl (h_town_copyFrom (va_cpy p1_names_ names_ 0 0 8) sizes_ heaps_ p1_names_ p1_sizes_ p1_heaps_) rfl ?_
  replace hr := k_bnd hr
  generalize (va_cpy p1_names_ names_ 0 0 8 : Nat → Int32) = names_1 at hr ⊢
  refine AJ.g sK_town_copyFrom 8 7 (True) 26 [some (.ref 0), some (.ref 7)] [.int 3, .int 0, .ref 2, .int 0, .ref 9] (h_town_copyFrom names_1 sizes_ heaps_ p1_names_ p1_sizes_ p1_heaps_) rfl trivial ?_
  refine AJ.acp cpW_ok (SK.at sK_town_copyFrom 15 rfl) lc_7_29 rfl rfl (Or.inl rfl) rfl rfl (by decide) (by decide) (by decide) (by decide) (by decide) (fun h => by cases h) (Nat.le_of_ble_eq_true rfl) 29 rfl (h_town_copyFrom names_1 (va_cpy p1_sizes_ sizes_ 0 0 3) heaps_ p1_names_ p1_sizes_ p1_heaps_) rfl ?_
  replace hr := k_bnd hr
  generalize (va_cpy p1_sizes_ sizes_ 0 0 3 : Nat → Int32) = sizes_2 at hr ⊢
  refine AJ.g sK_town_copyFrom 16 2 (True) 31 [some (.ref 0), some (.ref 7), some (.int 0)] [] (h_town_copyFrom names_1 sizes_2 heaps_ p1_names_ p1_sizes_ p1_heaps_) rfl trivial ?_
  refine k_b1 hr (fun heaps_6 he hr => ?_)
  refine AJ.fg [true, true, true] [some (.ref 0), some (.ref 7), some (.int 0)] rfl ?_
  refine itr_ok (un2 (fb_town_copyFrom_31 p1_heaps_)) (fun s : (Int32 × (Nat → Nat → Int32)) => AJ _ 31 [some (.ref 0), some (.ref 7), some (.int s.1)] [] (h_town_copyFrom names_1 sizes_2 s.2 p1_names_ p1_sizes_ p1_heaps_)) (fun s : Nat → Nat → Int32 => AJ _ 61 [] [] (h_town_copyFrom names_1 sizes_2 s p1_names_ p1_sizes_ p1_heaps_)) (fun s x hb hx => bt_town_copyFrom_31 hb hx) KF (0, heaps_) heaps_6 he (show AJ _ 61 [] [] (h_town_copyFrom names_1 sizes_2 heaps_6 p1_names_ p1_sizes_ p1_heaps_) from ?_)
  cases hr
  exact AJ.xv (SK.at sK_town_copyFrom 35 rfl) rfl
